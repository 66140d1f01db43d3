theorem d_X12_feed_0 : DC mX12_feed 0 (.aload_n 0) 1 1 := ⟨by decide +kernel, rfl⟩
theorem d_X12_feed_1 : DC mX12_feed 1 (.iconst 0) 1 2 := ⟨by decide +kernel, rfl⟩
theorem d_X12_feed_2 : DC mX12_feed 2 (.putfield 1) 3 5 := ⟨by decide +kernel, rfl⟩
theorem d_X12_feed_5 : DC mX12_feed 5 (.aload_n 0) 1 6 := ⟨by decide +kernel, rfl⟩
theorem d_X12_feed_6 : DC mX12_feed 6 (.getfield 252) 3 9 := ⟨by decide +kernel, rfl⟩
theorem d_X12_feed_9 : DC mX12_feed 9 (.bipush 20) 2 11 := ⟨by decide +kernel, rfl⟩
theorem d_X12_feed_11 : DC mX12_feed 11 (.iadd) 1 12 := ⟨by decide +kernel, rfl⟩
theorem d_X12_feed_12 : DC mX12_feed 12 (.sipush 300) 3 15 := ⟨by decide +kernel, rfl⟩
theorem d_X12_feed_15 : DC mX12_feed 15 (.if_icmp .le 6) 3 18 := ⟨by decide +kernel, rfl⟩
theorem d_X12_feed_18 : DC mX12_feed 18 (.bipush (-4)) 2 20 := ⟨by decide +kernel, rfl⟩
theorem d_X12_feed_20 : DC mX12_feed 20 (.ireturn) 1 21 := ⟨by decide +kernel, rfl⟩
theorem d_X12_feed_21 : DC mX12_feed 21 (.iconst 0) 1 22 := ⟨by decide +kernel, rfl⟩
theorem d_X12_feed_22 : DC mX12_feed 22 (.istore 6) 2 24 := ⟨by decide +kernel, rfl⟩
theorem d_X12_feed_24 : DC mX12_feed 24 (.iload 6) 2 26 := ⟨by decide +kernel, rfl⟩
theorem d_X12_feed_26 : DC mX12_feed 26 (.bipush 20) 2 28 := ⟨by decide +kernel, rfl⟩
theorem d_X12_feed_28 : DC mX12_feed 28 (.if_icmp .ge 90) 3 31 := ⟨by decide +kernel, rfl⟩
theorem d_X12_feed_31 : DC mX12_feed 31 (.iload 6) 2 33 := ⟨by decide +kernel, rfl⟩
theorem d_X12_feed_33 : DC mX12_feed 33 (.iconst 4) 1 34 := ⟨by decide +kernel, rfl⟩
theorem d_X12_feed_34 : DC mX12_feed 34 (.if_icmp .ge 7) 3 37 := ⟨by decide +kernel, rfl⟩
theorem d_X12_feed_37 : DC mX12_feed 37 (.iload_n 1) 1 38 := ⟨by decide +kernel, rfl⟩
theorem d_X12_feed_38 : DC mX12_feed 38 (.goto 39) 3 41 := ⟨by decide +kernel, rfl⟩
theorem d_X12_feed_41 : DC mX12_feed 41 (.iload 6) 2 43 := ⟨by decide +kernel, rfl⟩
theorem d_X12_feed_43 : DC mX12_feed 43 (.bipush 8) 2 45 := ⟨by decide +kernel, rfl⟩
theorem d_X12_feed_45 : DC mX12_feed 45 (.if_icmp .ge 7) 3 48 := ⟨by decide +kernel, rfl⟩
theorem d_X12_feed_48 : DC mX12_feed 48 (.iload_n 2) 1 49 := ⟨by decide +kernel, rfl⟩
theorem d_X12_feed_49 : DC mX12_feed 49 (.goto 28) 3 52 := ⟨by decide +kernel, rfl⟩
theorem d_X12_feed_52 : DC mX12_feed 52 (.iload 6) 2 54 := ⟨by decide +kernel, rfl⟩
theorem d_X12_feed_54 : DC mX12_feed 54 (.bipush 12) 2 56 := ⟨by decide +kernel, rfl⟩
theorem d_X12_feed_56 : DC mX12_feed 56 (.if_icmp .ge 7) 3 59 := ⟨by decide +kernel, rfl⟩
theorem d_X12_feed_59 : DC mX12_feed 59 (.iload_n 3) 1 60 := ⟨by decide +kernel, rfl⟩
theorem d_X12_feed_60 : DC mX12_feed 60 (.goto 17) 3 63 := ⟨by decide +kernel, rfl⟩
theorem d_X12_feed_63 : DC mX12_feed 63 (.iload 6) 2 65 := ⟨by decide +kernel, rfl⟩
theorem d_X12_feed_65 : DC mX12_feed 65 (.bipush 16) 2 67 := ⟨by decide +kernel, rfl⟩
theorem d_X12_feed_67 : DC mX12_feed 67 (.if_icmp .ge 8) 3 70 := ⟨by decide +kernel, rfl⟩
theorem d_X12_feed_70 : DC mX12_feed 70 (.iload 4) 2 72 := ⟨by decide +kernel, rfl⟩
theorem d_X12_feed_72 : DC mX12_feed 72 (.goto 5) 3 75 := ⟨by decide +kernel, rfl⟩
theorem d_X12_feed_75 : DC mX12_feed 75 (.iload 5) 2 77 := ⟨by decide +kernel, rfl⟩
theorem d_X12_feed_77 : DC mX12_feed 77 (.istore 7) 2 79 := ⟨by decide +kernel, rfl⟩
theorem d_X12_feed_79 : DC mX12_feed 79 (.aload_n 0) 1 80 := ⟨by decide +kernel, rfl⟩
theorem d_X12_feed_80 : DC mX12_feed 80 (.getfield 57) 3 83 := ⟨by decide +kernel, rfl⟩
theorem d_X12_feed_83 : DC mX12_feed 83 (.aload_n 0) 1 84 := ⟨by decide +kernel, rfl⟩
theorem d_X12_feed_84 : DC mX12_feed 84 (.getfield 252) 3 87 := ⟨by decide +kernel, rfl⟩
theorem d_X12_feed_87 : DC mX12_feed 87 (.iload 7) 2 89 := ⟨by decide +kernel, rfl⟩
theorem d_X12_feed_89 : DC mX12_feed 89 (.bipush 24) 2 91 := ⟨by decide +kernel, rfl⟩
theorem d_X12_feed_91 : DC mX12_feed 91 (.bipush 8) 2 93 := ⟨by decide +kernel, rfl⟩
theorem d_X12_feed_93 : DC mX12_feed 93 (.iload 6) 2 95 := ⟨by decide +kernel, rfl⟩
theorem d_X12_feed_95 : DC mX12_feed 95 (.iconst 4) 1 96 := ⟨by decide +kernel, rfl⟩
theorem d_X12_feed_96 : DC mX12_feed 96 (.irem) 1 97 := ⟨by decide +kernel, rfl⟩
theorem d_X12_feed_97 : DC mX12_feed 97 (.imul) 1 98 := ⟨by decide +kernel, rfl⟩
theorem d_X12_feed_98 : DC mX12_feed 98 (.isub) 1 99 := ⟨by decide +kernel, rfl⟩
theorem d_X12_feed_99 : DC mX12_feed 99 (.ishr) 1 100 := ⟨by decide +kernel, rfl⟩
theorem d_X12_feed_100 : DC mX12_feed 100 (.i2b) 1 101 := ⟨by decide +kernel, rfl⟩
theorem d_X12_feed_101 : DC mX12_feed 101 (.bastore) 1 102 := ⟨by decide +kernel, rfl⟩
theorem d_X12_feed_102 : DC mX12_feed 102 (.aload_n 0) 1 103 := ⟨by decide +kernel, rfl⟩
theorem d_X12_feed_103 : DC mX12_feed 103 (.dup) 1 104 := ⟨by decide +kernel, rfl⟩
theorem d_X12_feed_104 : DC mX12_feed 104 (.getfield 252) 3 107 := ⟨by decide +kernel, rfl⟩
theorem d_X12_feed_107 : DC mX12_feed 107 (.iconst 1) 1 108 := ⟨by decide +kernel, rfl⟩
theorem d_X12_feed_108 : DC mX12_feed 108 (.iadd) 1 109 := ⟨by decide +kernel, rfl⟩
theorem d_X12_feed_109 : DC mX12_feed 109 (.putfield 252) 3 112 := ⟨by decide +kernel, rfl⟩
theorem d_X12_feed_112 : DC mX12_feed 112 (.iinc 6 1) 3 115 := ⟨by decide +kernel, rfl⟩
theorem d_X12_feed_115 : DC mX12_feed 115 (.goto (-91)) 3 118 := ⟨by decide +kernel, rfl⟩
theorem d_X12_feed_118 : DC mX12_feed 118 (.aload_n 0) 1 119 := ⟨by decide +kernel, rfl⟩
theorem d_X12_feed_119 : DC mX12_feed 119 (.getfield 252) 3 122 := ⟨by decide +kernel, rfl⟩
theorem d_X12_feed_122 : DC mX12_feed 122 (.ireturn) 1 123 := ⟨by decide +kernel, rfl⟩
theorem d_X12_see_0 : DC mX12_see 0 (.aload_n 0) 1 1 := ⟨by decide +kernel, rfl⟩
theorem d_X12_see_1 : DC mX12_see 1 (.getfield 255) 3 4 := ⟨by decide +kernel, rfl⟩
theorem d_X12_see_4 : DC mX12_see 4 (.aload_n 0) 1 5 := ⟨by decide +kernel, rfl⟩
theorem d_X12_see_5 : DC mX12_see 5 (.getfield 258) 3 8 := ⟨by decide +kernel, rfl⟩
theorem d_X12_see_8 : DC mX12_see 8 (.if_icmp .ge 19) 3 11 := ⟨by decide +kernel, rfl⟩
theorem d_X12_see_11 : DC mX12_see 11 (.aload_n 0) 1 12 := ⟨by decide +kernel, rfl⟩
theorem d_X12_see_12 : DC mX12_see 12 (.getfield 57) 3 15 := ⟨by decide +kernel, rfl⟩
theorem d_X12_see_15 : DC mX12_see 15 (.aload_n 0) 1 16 := ⟨by decide +kernel, rfl⟩
theorem d_X12_see_16 : DC mX12_see 16 (.getfield 255) 3 19 := ⟨by decide +kernel, rfl⟩
theorem d_X12_see_19 : DC mX12_see 19 (.baload) 1 20 := ⟨by decide +kernel, rfl⟩
theorem d_X12_see_20 : DC mX12_see 20 (.sipush 255) 3 23 := ⟨by decide +kernel, rfl⟩
theorem d_X12_see_23 : DC mX12_see 23 (.iand) 1 24 := ⟨by decide +kernel, rfl⟩
theorem d_X12_see_24 : DC mX12_see 24 (.goto 4) 3 27 := ⟨by decide +kernel, rfl⟩
theorem d_X12_see_27 : DC mX12_see 27 (.iconst (-1)) 1 28 := ⟨by decide +kernel, rfl⟩
theorem d_X12_see_28 : DC mX12_see 28 (.ireturn) 1 29 := ⟨by decide +kernel, rfl⟩
theorem d_X12_wrongs_0 : DC mX12_wrongs 0 (.aload_n 0) 1 1 := ⟨by decide +kernel, rfl⟩
theorem d_X12_wrongs_1 : DC mX12_wrongs 1 (.getfield 261) 3 4 := ⟨by decide +kernel, rfl⟩
theorem d_X12_wrongs_4 : DC mX12_wrongs 4 (.ifCond .eq 4) 3 7 := ⟨by decide +kernel, rfl⟩
theorem d_X12_wrongs_7 : DC mX12_wrongs 7 (.return_) 1 8 := ⟨by decide +kernel, rfl⟩
theorem d_X12_wrongs_8 : DC mX12_wrongs 8 (.aload_n 0) 1 9 := ⟨by decide +kernel, rfl⟩
theorem d_X12_wrongs_9 : DC mX12_wrongs 9 (.iload_n 1) 1 10 := ⟨by decide +kernel, rfl⟩
theorem d_X12_wrongs_10 : DC mX12_wrongs 10 (.putfield 261) 3 13 := ⟨by decide +kernel, rfl⟩
theorem d_X12_wrongs_13 : DC mX12_wrongs 13 (.aload_n 0) 1 14 := ⟨by decide +kernel, rfl⟩
theorem d_X12_wrongs_14 : DC mX12_wrongs 14 (.iload_n 2) 1 15 := ⟨by decide +kernel, rfl⟩
theorem d_X12_wrongs_15 : DC mX12_wrongs 15 (.putfield 61) 3 18 := ⟨by decide +kernel, rfl⟩
theorem d_X12_wrongs_18 : DC mX12_wrongs 18 (.return_) 1 19 := ⟨by decide +kernel, rfl⟩
theorem d_X12_isDigit_0 : DC mX12_isDigit 0 (.aload_n 0) 1 1 := ⟨by decide +kernel, rfl⟩
theorem d_X12_isDigit_1 : DC mX12_isDigit 1 (.invokevirtual 264) 3 4 := ⟨by decide +kernel, rfl⟩
theorem d_X12_isDigit_4 : DC mX12_isDigit 4 (.i2l) 1 5 := ⟨by decide +kernel, rfl⟩
theorem d_X12_isDigit_5 : DC mX12_isDigit 5 (.ldc2_w 268) 3 8 := ⟨by decide +kernel, rfl⟩
theorem d_X12_isDigit_8 : DC mX12_isDigit 8 (.ldc2_w 270) 3 11 := ⟨by decide +kernel, rfl⟩
theorem d_X12_isDigit_11 : DC mX12_isDigit 11 (.invokestatic 91) 3 14 := ⟨by decide +kernel, rfl⟩
theorem d_X12_isDigit_14 : DC mX12_isDigit 14 (.ireturn) 1 15 := ⟨by decide +kernel, rfl⟩
theorem d_X12_seesLetter_0 : DC mX12_seesLetter 0 (.aload_n 0) 1 1 := ⟨by decide +kernel, rfl⟩
theorem d_X12_seesLetter_1 : DC mX12_seesLetter 1 (.invokevirtual 264) 3 4 := ⟨by decide +kernel, rfl⟩
theorem d_X12_seesLetter_4 : DC mX12_seesLetter 4 (.i2l) 1 5 := ⟨by decide +kernel, rfl⟩
theorem d_X12_seesLetter_5 : DC mX12_seesLetter 5 (.ldc2_w 272) 3 8 := ⟨by decide +kernel, rfl⟩
theorem d_X12_seesLetter_8 : DC mX12_seesLetter 8 (.ldc2_w 274) 3 11 := ⟨by decide +kernel, rfl⟩
theorem d_X12_seesLetter_11 : DC mX12_seesLetter 11 (.invokestatic 91) 3 14 := ⟨by decide +kernel, rfl⟩
theorem d_X12_seesLetter_14 : DC mX12_seesLetter 14 (.ireturn) 1 15 := ⟨by decide +kernel, rfl⟩
theorem d_X12_must_0 : DC mX12_must 0 (.aload_n 0) 1 1 := ⟨by decide +kernel, rfl⟩
theorem d_X12_must_1 : DC mX12_must 1 (.getfield 261) 3 4 := ⟨by decide +kernel, rfl⟩
theorem d_X12_must_4 : DC mX12_must 4 (.ifCond .eq 4) 3 7 := ⟨by decide +kernel, rfl⟩
theorem d_X12_must_7 : DC mX12_must 7 (.return_) 1 8 := ⟨by decide +kernel, rfl⟩
theorem d_X12_must_8 : DC mX12_must 8 (.iload_n 1) 1 9 := ⟨by decide +kernel, rfl⟩
theorem d_X12_must_9 : DC mX12_must 9 (.ifCond .eq 16) 3 12 := ⟨by decide +kernel, rfl⟩
theorem d_X12_must_12 : DC mX12_must 12 (.aload_n 0) 1 13 := ⟨by decide +kernel, rfl⟩
theorem d_X12_must_13 : DC mX12_must 13 (.dup) 1 14 := ⟨by decide +kernel, rfl⟩
theorem d_X12_must_14 : DC mX12_must 14 (.getfield 255) 3 17 := ⟨by decide +kernel, rfl⟩
theorem d_X12_must_17 : DC mX12_must 17 (.iconst 1) 1 18 := ⟨by decide +kernel, rfl⟩
theorem d_X12_must_18 : DC mX12_must 18 (.iadd) 1 19 := ⟨by decide +kernel, rfl⟩
theorem d_X12_must_19 : DC mX12_must 19 (.putfield 255) 3 22 := ⟨by decide +kernel, rfl⟩
theorem d_X12_must_22 : DC mX12_must 22 (.goto 12) 3 25 := ⟨by decide +kernel, rfl⟩
theorem d_X12_must_25 : DC mX12_must 25 (.aload_n 0) 1 26 := ⟨by decide +kernel, rfl⟩
theorem d_X12_must_26 : DC mX12_must 26 (.iconst 1) 1 27 := ⟨by decide +kernel, rfl⟩
theorem d_X12_must_27 : DC mX12_must 27 (.aload_n 0) 1 28 := ⟨by decide +kernel, rfl⟩
theorem d_X12_must_28 : DC mX12_must 28 (.getfield 255) 3 31 := ⟨by decide +kernel, rfl⟩
theorem d_X12_must_31 : DC mX12_must 31 (.invokevirtual 276) 3 34 := ⟨by decide +kernel, rfl⟩
theorem d_X12_must_34 : DC mX12_must 34 (.return_) 1 35 := ⟨by decide +kernel, rfl⟩
theorem d_X12_letterAt_0 : DC mX12_letterAt 0 (.aload_n 0) 1 1 := ⟨by decide +kernel, rfl⟩
theorem d_X12_letterAt_1 : DC mX12_letterAt 1 (.getfield 57) 3 4 := ⟨by decide +kernel, rfl⟩
theorem d_X12_letterAt_4 : DC mX12_letterAt 4 (.iload_n 1) 1 5 := ⟨by decide +kernel, rfl⟩
theorem d_X12_letterAt_5 : DC mX12_letterAt 5 (.baload) 1 6 := ⟨by decide +kernel, rfl⟩
theorem d_X12_letterAt_6 : DC mX12_letterAt 6 (.bipush 97) 2 8 := ⟨by decide +kernel, rfl⟩
theorem d_X12_letterAt_8 : DC mX12_letterAt 8 (.isub) 1 9 := ⟨by decide +kernel, rfl⟩
theorem d_X12_letterAt_9 : DC mX12_letterAt 9 (.ireturn) 1 10 := ⟨by decide +kernel, rfl⟩
theorem d_X12_term_0 : DC mX12_term 0 (.aload_n 0) 1 1 := ⟨by decide +kernel, rfl⟩
theorem d_X12_term_1 : DC mX12_term 1 (.getfield 255) 3 4 := ⟨by decide +kernel, rfl⟩
theorem d_X12_term_4 : DC mX12_term 4 (.istore_n 3) 1 5 := ⟨by decide +kernel, rfl⟩
theorem d_X12_term_5 : DC mX12_term 5 (.iconst 0) 1 6 := ⟨by decide +kernel, rfl⟩
theorem d_X12_term_6 : DC mX12_term 6 (.istore 4) 2 8 := ⟨by decide +kernel, rfl⟩
theorem d_X12_term_8 : DC mX12_term 8 (.aload_n 0) 1 9 := ⟨by decide +kernel, rfl⟩
theorem d_X12_term_9 : DC mX12_term 9 (.invokevirtual 279) 3 12 := ⟨by decide +kernel, rfl⟩
theorem d_X12_term_12 : DC mX12_term 12 (.ifCond .eq 44) 3 15 := ⟨by decide +kernel, rfl⟩
theorem d_X12_term_15 : DC mX12_term 15 (.iload 4) 2 17 := ⟨by decide +kernel, rfl⟩
theorem d_X12_term_17 : DC mX12_term 17 (.sipush 9999) 3 20 := ⟨by decide +kernel, rfl⟩
theorem d_X12_term_20 : DC mX12_term 20 (.if_icmp .le 8) 3 23 := ⟨by decide +kernel, rfl⟩
theorem d_X12_term_23 : DC mX12_term 23 (.iload 4) 2 25 := ⟨by decide +kernel, rfl⟩
theorem d_X12_term_25 : DC mX12_term 25 (.goto 16) 3 28 := ⟨by decide +kernel, rfl⟩
theorem d_X12_term_28 : DC mX12_term 28 (.bipush 10) 2 30 := ⟨by decide +kernel, rfl⟩
theorem d_X12_term_30 : DC mX12_term 30 (.iload 4) 2 32 := ⟨by decide +kernel, rfl⟩
theorem d_X12_term_32 : DC mX12_term 32 (.imul) 1 33 := ⟨by decide +kernel, rfl⟩
theorem d_X12_term_33 : DC mX12_term 33 (.aload_n 0) 1 34 := ⟨by decide +kernel, rfl⟩
theorem d_X12_term_34 : DC mX12_term 34 (.invokevirtual 264) 3 37 := ⟨by decide +kernel, rfl⟩
theorem d_X12_term_37 : DC mX12_term 37 (.iadd) 1 38 := ⟨by decide +kernel, rfl⟩
theorem d_X12_term_38 : DC mX12_term 38 (.bipush 48) 2 40 := ⟨by decide +kernel, rfl⟩
theorem d_X12_term_40 : DC mX12_term 40 (.isub) 1 41 := ⟨by decide +kernel, rfl⟩
theorem d_X12_term_41 : DC mX12_term 41 (.istore 4) 2 43 := ⟨by decide +kernel, rfl⟩
theorem d_X12_term_43 : DC mX12_term 43 (.aload_n 0) 1 44 := ⟨by decide +kernel, rfl⟩
theorem d_X12_term_44 : DC mX12_term 44 (.dup) 1 45 := ⟨by decide +kernel, rfl⟩
theorem d_X12_term_45 : DC mX12_term 45 (.getfield 255) 3 48 := ⟨by decide +kernel, rfl⟩
theorem d_X12_term_48 : DC mX12_term 48 (.iconst 1) 1 49 := ⟨by decide +kernel, rfl⟩
theorem d_X12_term_49 : DC mX12_term 49 (.iadd) 1 50 := ⟨by decide +kernel, rfl⟩
theorem d_X12_term_50 : DC mX12_term 50 (.putfield 255) 3 53 := ⟨by decide +kernel, rfl⟩
theorem d_X12_term_53 : DC mX12_term 53 (.goto (-45)) 3 56 := ⟨by decide +kernel, rfl⟩
theorem d_X12_term_56 : DC mX12_term 56 (.aload_n 0) 1 57 := ⟨by decide +kernel, rfl⟩
theorem d_X12_term_57 : DC mX12_term 57 (.getfield 255) 3 60 := ⟨by decide +kernel, rfl⟩
theorem d_X12_term_60 : DC mX12_term 60 (.iload_n 3) 1 61 := ⟨by decide +kernel, rfl⟩
theorem d_X12_term_61 : DC mX12_term 61 (.iconst 4) 1 62 := ⟨by decide +kernel, rfl⟩
theorem d_X12_term_62 : DC mX12_term 62 (.iadd) 1 63 := ⟨by decide +kernel, rfl⟩
theorem d_X12_term_63 : DC mX12_term 63 (.if_icmp .le 9) 3 66 := ⟨by decide +kernel, rfl⟩
theorem d_X12_term_66 : DC mX12_term 66 (.aload_n 0) 1 67 := ⟨by decide +kernel, rfl⟩
theorem d_X12_term_67 : DC mX12_term 67 (.iconst 2) 1 68 := ⟨by decide +kernel, rfl⟩
theorem d_X12_term_68 : DC mX12_term 68 (.iload_n 3) 1 69 := ⟨by decide +kernel, rfl⟩
theorem d_X12_term_69 : DC mX12_term 69 (.invokevirtual 276) 3 72 := ⟨by decide +kernel, rfl⟩
theorem d_X12_term_72 : DC mX12_term 72 (.aload_n 0) 1 73 := ⟨by decide +kernel, rfl⟩
theorem d_X12_term_73 : DC mX12_term 73 (.getfield 255) 3 76 := ⟨by decide +kernel, rfl⟩
theorem d_X12_term_76 : DC mX12_term 76 (.iload_n 3) 1 77 := ⟨by decide +kernel, rfl⟩
theorem d_X12_term_77 : DC mX12_term 77 (.if_icmp .le 7) 3 80 := ⟨by decide +kernel, rfl⟩
theorem d_X12_term_80 : DC mX12_term 80 (.iconst 1) 1 81 := ⟨by decide +kernel, rfl⟩
theorem d_X12_term_81 : DC mX12_term 81 (.goto 4) 3 84 := ⟨by decide +kernel, rfl⟩
theorem d_X12_term_84 : DC mX12_term 84 (.iconst 0) 1 85 := ⟨by decide +kernel, rfl⟩
theorem d_X12_term_85 : DC mX12_term 85 (.istore 5) 2 87 := ⟨by decide +kernel, rfl⟩
theorem d_X12_term_87 : DC mX12_term 87 (.iload 5) 2 89 := ⟨by decide +kernel, rfl⟩
theorem d_X12_term_89 : DC mX12_term 89 (.ifCond .ne 21) 3 92 := ⟨by decide +kernel, rfl⟩
theorem d_X12_term_92 : DC mX12_term 92 (.aload_n 0) 1 93 := ⟨by decide +kernel, rfl⟩
theorem d_X12_term_93 : DC mX12_term 93 (.invokevirtual 264) 3 96 := ⟨by decide +kernel, rfl⟩
theorem d_X12_term_96 : DC mX12_term 96 (.bipush 91) 2 98 := ⟨by decide +kernel, rfl⟩
theorem d_X12_term_98 : DC mX12_term 98 (.if_icmp .eq 12) 3 101 := ⟨by decide +kernel, rfl⟩
theorem d_X12_term_101 : DC mX12_term 101 (.aload_n 0) 1 102 := ⟨by decide +kernel, rfl⟩
theorem d_X12_term_102 : DC mX12_term 102 (.iconst 1) 1 103 := ⟨by decide +kernel, rfl⟩
theorem d_X12_term_103 : DC mX12_term 103 (.aload_n 0) 1 104 := ⟨by decide +kernel, rfl⟩
theorem d_X12_term_104 : DC mX12_term 104 (.getfield 255) 3 107 := ⟨by decide +kernel, rfl⟩
theorem d_X12_term_107 : DC mX12_term 107 (.invokevirtual 276) 3 110 := ⟨by decide +kernel, rfl⟩
theorem d_X12_term_110 : DC mX12_term 110 (.iload_n 1) 1 111 := ⟨by decide +kernel, rfl⟩
theorem d_X12_term_111 : DC mX12_term 111 (.iload 5) 2 113 := ⟨by decide +kernel, rfl⟩
theorem d_X12_term_113 : DC mX12_term 113 (.ifCond .eq 8) 3 116 := ⟨by decide +kernel, rfl⟩
theorem d_X12_term_116 : DC mX12_term 116 (.iload 4) 2 118 := ⟨by decide +kernel, rfl⟩
theorem d_X12_term_118 : DC mX12_term 118 (.goto 4) 3 121 := ⟨by decide +kernel, rfl⟩
theorem d_X12_term_121 : DC mX12_term 121 (.iconst 1) 1 122 := ⟨by decide +kernel, rfl⟩
theorem d_X12_term_122 : DC mX12_term 122 (.imul) 1 123 := ⟨by decide +kernel, rfl⟩
theorem d_X12_term_123 : DC mX12_term 123 (.i2l) 1 124 := ⟨by decide +kernel, rfl⟩
theorem d_X12_term_124 : DC mX12_term 124 (.lstore 6) 2 126 := ⟨by decide +kernel, rfl⟩
theorem d_X12_term_126 : DC mX12_term 126 (.iconst 0) 1 127 := ⟨by decide +kernel, rfl⟩
theorem d_X12_term_127 : DC mX12_term 127 (.istore 8) 2 129 := ⟨by decide +kernel, rfl⟩
theorem d_X12_term_129 : DC mX12_term 129 (.aload_n 0) 1 130 := ⟨by decide +kernel, rfl⟩
theorem d_X12_term_130 : DC mX12_term 130 (.getfield 261) 3 133 := ⟨by decide +kernel, rfl⟩
theorem d_X12_term_133 : DC mX12_term 133 (.ifCond .ne 174) 3 136 := ⟨by decide +kernel, rfl⟩
theorem d_X12_term_136 : DC mX12_term 136 (.aload_n 0) 1 137 := ⟨by decide +kernel, rfl⟩
theorem d_X12_term_137 : DC mX12_term 137 (.invokevirtual 264) 3 140 := ⟨by decide +kernel, rfl⟩
theorem d_X12_term_140 : DC mX12_term 140 (.bipush 91) 2 142 := ⟨by decide +kernel, rfl⟩
theorem d_X12_term_142 : DC mX12_term 142 (.if_icmp .ne 165) 3 145 := ⟨by decide +kernel, rfl⟩
theorem d_X12_term_145 : DC mX12_term 145 (.iload 8) 2 147 := ⟨by decide +kernel, rfl⟩
theorem d_X12_term_147 : DC mX12_term 147 (.iconst 4) 1 148 := ⟨by decide +kernel, rfl⟩
theorem d_X12_term_148 : DC mX12_term 148 (.if_icmp .ne 13) 3 151 := ⟨by decide +kernel, rfl⟩
theorem d_X12_term_151 : DC mX12_term 151 (.aload_n 0) 1 152 := ⟨by decide +kernel, rfl⟩
theorem d_X12_term_152 : DC mX12_term 152 (.iconst 3) 1 153 := ⟨by decide +kernel, rfl⟩
theorem d_X12_term_153 : DC mX12_term 153 (.aload_n 0) 1 154 := ⟨by decide +kernel, rfl⟩
theorem d_X12_term_154 : DC mX12_term 154 (.getfield 255) 3 157 := ⟨by decide +kernel, rfl⟩
theorem d_X12_term_157 : DC mX12_term 157 (.invokevirtual 276) 3 160 := ⟨by decide +kernel, rfl⟩
theorem d_X12_term_160 : DC mX12_term 160 (.return_) 1 161 := ⟨by decide +kernel, rfl⟩
theorem d_X12_term_161 : DC mX12_term 161 (.aload_n 0) 1 162 := ⟨by decide +kernel, rfl⟩
theorem d_X12_term_162 : DC mX12_term 162 (.dup) 1 163 := ⟨by decide +kernel, rfl⟩
theorem d_X12_term_163 : DC mX12_term 163 (.getfield 255) 3 166 := ⟨by decide +kernel, rfl⟩
theorem d_X12_term_166 : DC mX12_term 166 (.iconst 1) 1 167 := ⟨by decide +kernel, rfl⟩
theorem d_X12_term_167 : DC mX12_term 167 (.iadd) 1 168 := ⟨by decide +kernel, rfl⟩
theorem d_X12_term_168 : DC mX12_term 168 (.putfield 255) 3 171 := ⟨by decide +kernel, rfl⟩
theorem d_X12_term_171 : DC mX12_term 171 (.iconst 0) 1 172 := ⟨by decide +kernel, rfl⟩
theorem d_X12_term_172 : DC mX12_term 172 (.istore 9) 2 174 := ⟨by decide +kernel, rfl⟩
theorem d_X12_term_174 : DC mX12_term 174 (.iload 9) 2 176 := ⟨by decide +kernel, rfl⟩
theorem d_X12_term_176 : DC mX12_term 176 (.iconst 3) 1 177 := ⟨by decide +kernel, rfl⟩
theorem d_X12_term_177 : DC mX12_term 177 (.if_icmp .ge 17) 3 180 := ⟨by decide +kernel, rfl⟩
theorem d_X12_term_180 : DC mX12_term 180 (.aload_n 0) 1 181 := ⟨by decide +kernel, rfl⟩
theorem d_X12_term_181 : DC mX12_term 181 (.aload_n 0) 1 182 := ⟨by decide +kernel, rfl⟩
theorem d_X12_term_182 : DC mX12_term 182 (.invokevirtual 283) 3 185 := ⟨by decide +kernel, rfl⟩
theorem d_X12_term_185 : DC mX12_term 185 (.invokevirtual 286) 3 188 := ⟨by decide +kernel, rfl⟩
theorem d_X12_term_188 : DC mX12_term 188 (.iinc 9 1) 3 191 := ⟨by decide +kernel, rfl⟩
theorem d_X12_term_191 : DC mX12_term 191 (.goto (-17)) 3 194 := ⟨by decide +kernel, rfl⟩
theorem d_X12_term_194 : DC mX12_term 194 (.aload_n 0) 1 195 := ⟨by decide +kernel, rfl⟩
theorem d_X12_term_195 : DC mX12_term 195 (.aload_n 0) 1 196 := ⟨by decide +kernel, rfl⟩
theorem d_X12_term_196 : DC mX12_term 196 (.invokevirtual 264) 3 199 := ⟨by decide +kernel, rfl⟩
theorem d_X12_term_199 : DC mX12_term 199 (.bipush 93) 2 201 := ⟨by decide +kernel, rfl⟩
theorem d_X12_term_201 : DC mX12_term 201 (.if_icmp .ne 7) 3 204 := ⟨by decide +kernel, rfl⟩
theorem d_X12_term_204 : DC mX12_term 204 (.iconst 1) 1 205 := ⟨by decide +kernel, rfl⟩
theorem d_X12_term_205 : DC mX12_term 205 (.goto 4) 3 208 := ⟨by decide +kernel, rfl⟩
theorem d_X12_term_208 : DC mX12_term 208 (.iconst 0) 1 209 := ⟨by decide +kernel, rfl⟩
theorem d_X12_term_209 : DC mX12_term 209 (.invokevirtual 286) 3 212 := ⟨by decide +kernel, rfl⟩
theorem d_X12_term_212 : DC mX12_term 212 (.aload_n 0) 1 213 := ⟨by decide +kernel, rfl⟩
theorem d_X12_term_213 : DC mX12_term 213 (.getfield 261) 3 216 := ⟨by decide +kernel, rfl⟩
theorem d_X12_term_216 : DC mX12_term 216 (.ifCond .eq 4) 3 219 := ⟨by decide +kernel, rfl⟩
theorem d_X12_term_219 : DC mX12_term 219 (.return_) 1 220 := ⟨by decide +kernel, rfl⟩
theorem d_X12_term_220 : DC mX12_term 220 (.aload_n 0) 1 221 := ⟨by decide +kernel, rfl⟩
theorem d_X12_term_221 : DC mX12_term 221 (.getfield 13) 3 224 := ⟨by decide +kernel, rfl⟩
theorem d_X12_term_224 : DC mX12_term 224 (.bipush 100) 2 226 := ⟨by decide +kernel, rfl⟩
theorem d_X12_term_226 : DC mX12_term 226 (.aload_n 0) 1 227 := ⟨by decide +kernel, rfl⟩
theorem d_X12_term_227 : DC mX12_term 227 (.aload_n 0) 1 228 := ⟨by decide +kernel, rfl⟩
theorem d_X12_term_228 : DC mX12_term 228 (.getfield 255) 3 231 := ⟨by decide +kernel, rfl⟩
theorem d_X12_term_231 : DC mX12_term 231 (.iconst 4) 1 232 := ⟨by decide +kernel, rfl⟩
theorem d_X12_term_232 : DC mX12_term 232 (.isub) 1 233 := ⟨by decide +kernel, rfl⟩
theorem d_X12_term_233 : DC mX12_term 233 (.invokevirtual 290) 3 236 := ⟨by decide +kernel, rfl⟩
theorem d_X12_term_236 : DC mX12_term 236 (.imul) 1 237 := ⟨by decide +kernel, rfl⟩
theorem d_X12_term_237 : DC mX12_term 237 (.bipush 10) 2 239 := ⟨by decide +kernel, rfl⟩
theorem d_X12_term_239 : DC mX12_term 239 (.aload_n 0) 1 240 := ⟨by decide +kernel, rfl⟩
theorem d_X12_term_240 : DC mX12_term 240 (.aload_n 0) 1 241 := ⟨by decide +kernel, rfl⟩
theorem d_X12_term_241 : DC mX12_term 241 (.getfield 255) 3 244 := ⟨by decide +kernel, rfl⟩
theorem d_X12_term_244 : DC mX12_term 244 (.iconst 3) 1 245 := ⟨by decide +kernel, rfl⟩
theorem d_X12_term_245 : DC mX12_term 245 (.isub) 1 246 := ⟨by decide +kernel, rfl⟩
theorem d_X12_term_246 : DC mX12_term 246 (.invokevirtual 290) 3 249 := ⟨by decide +kernel, rfl⟩
theorem d_X12_term_249 : DC mX12_term 249 (.imul) 1 250 := ⟨by decide +kernel, rfl⟩
theorem d_X12_term_250 : DC mX12_term 250 (.iadd) 1 251 := ⟨by decide +kernel, rfl⟩
theorem d_X12_term_251 : DC mX12_term 251 (.aload_n 0) 1 252 := ⟨by decide +kernel, rfl⟩
theorem d_X12_term_252 : DC mX12_term 252 (.aload_n 0) 1 253 := ⟨by decide +kernel, rfl⟩
theorem d_X12_term_253 : DC mX12_term 253 (.getfield 255) 3 256 := ⟨by decide +kernel, rfl⟩
theorem d_X12_term_256 : DC mX12_term 256 (.iconst 2) 1 257 := ⟨by decide +kernel, rfl⟩
theorem d_X12_term_257 : DC mX12_term 257 (.isub) 1 258 := ⟨by decide +kernel, rfl⟩
theorem d_X12_term_258 : DC mX12_term 258 (.invokevirtual 290) 3 261 := ⟨by decide +kernel, rfl⟩
theorem d_X12_term_261 : DC mX12_term 261 (.iadd) 1 262 := ⟨by decide +kernel, rfl⟩
theorem d_X12_term_262 : DC mX12_term 262 (.iaload) 1 263 := ⟨by decide +kernel, rfl⟩
theorem d_X12_term_263 : DC mX12_term 263 (.istore 9) 2 265 := ⟨by decide +kernel, rfl⟩
theorem d_X12_term_265 : DC mX12_term 265 (.iload 9) 2 267 := ⟨by decide +kernel, rfl⟩
theorem d_X12_term_267 : DC mX12_term 267 (.ifCond .ge 9) 3 270 := ⟨by decide +kernel, rfl⟩
theorem d_X12_term_270 : DC mX12_term 270 (.lload 6) 2 272 := ⟨by decide +kernel, rfl⟩
theorem d_X12_term_272 : DC mX12_term 272 (.lneg) 1 273 := ⟨by decide +kernel, rfl⟩
theorem d_X12_term_273 : DC mX12_term 273 (.goto 14) 3 276 := ⟨by decide +kernel, rfl⟩
theorem d_X12_term_276 : DC mX12_term 276 (.iload 9) 2 278 := ⟨by decide +kernel, rfl⟩
theorem d_X12_term_278 : DC mX12_term 278 (.ifCond .ne 7) 3 281 := ⟨by decide +kernel, rfl⟩
theorem d_X12_term_281 : DC mX12_term 281 (.lconst 0) 1 282 := ⟨by decide +kernel, rfl⟩
theorem d_X12_term_282 : DC mX12_term 282 (.goto 5) 3 285 := ⟨by decide +kernel, rfl⟩
theorem d_X12_term_285 : DC mX12_term 285 (.lload 6) 2 287 := ⟨by decide +kernel, rfl⟩
theorem d_X12_term_287 : DC mX12_term 287 (.lstore 6) 2 289 := ⟨by decide +kernel, rfl⟩
theorem d_X12_term_289 : DC mX12_term 289 (.aload_n 0) 1 290 := ⟨by decide +kernel, rfl⟩
theorem d_X12_term_290 : DC mX12_term 290 (.getfield 33) 3 293 := ⟨by decide +kernel, rfl⟩
theorem d_X12_term_293 : DC mX12_term 293 (.iload 8) 2 295 := ⟨by decide +kernel, rfl⟩
theorem d_X12_term_295 : DC mX12_term 295 (.iload 9) 2 297 := ⟨by decide +kernel, rfl⟩
theorem d_X12_term_297 : DC mX12_term 297 (.invokestatic 168) 3 300 := ⟨by decide +kernel, rfl⟩
theorem d_X12_term_300 : DC mX12_term 300 (.iastore) 1 301 := ⟨by decide +kernel, rfl⟩
theorem d_X12_term_301 : DC mX12_term 301 (.iinc 8 1) 3 304 := ⟨by decide +kernel, rfl⟩
theorem d_X12_term_304 : DC mX12_term 304 (.goto (-175)) 3 307 := ⟨by decide +kernel, rfl⟩
theorem d_X12_term_307 : DC mX12_term 307 (.iload_n 2) 1 308 := ⟨by decide +kernel, rfl⟩
theorem d_X12_term_308 : DC mX12_term 308 (.ifCond .eq 24) 3 311 := ⟨by decide +kernel, rfl⟩
theorem d_X12_term_311 : DC mX12_term 311 (.lload 6) 2 313 := ⟨by decide +kernel, rfl⟩
theorem d_X12_term_313 : DC mX12_term 313 (.lconst 0) 1 314 := ⟨by decide +kernel, rfl⟩
theorem d_X12_term_314 : DC mX12_term 314 (.lcmp) 1 315 := ⟨by decide +kernel, rfl⟩
theorem d_X12_term_315 : DC mX12_term 315 (.ifCond .eq 17) 3 318 := ⟨by decide +kernel, rfl⟩
theorem d_X12_term_318 : DC mX12_term 318 (.aload_n 0) 1 319 := ⟨by decide +kernel, rfl⟩
theorem d_X12_term_319 : DC mX12_term 319 (.iconst 0) 1 320 := ⟨by decide +kernel, rfl⟩
theorem d_X12_term_320 : DC mX12_term 320 (.aload_n 0) 1 321 := ⟨by decide +kernel, rfl⟩
theorem d_X12_term_321 : DC mX12_term 321 (.iload 8) 2 323 := ⟨by decide +kernel, rfl⟩
theorem d_X12_term_323 : DC mX12_term 323 (.invokevirtual 141) 3 326 := ⟨by decide +kernel, rfl⟩
theorem d_X12_term_326 : DC mX12_term 326 (.lload 6) 2 328 := ⟨by decide +kernel, rfl⟩
theorem d_X12_term_328 : DC mX12_term 328 (.invokevirtual 147) 3 331 := ⟨by decide +kernel, rfl⟩
theorem d_X12_term_331 : DC mX12_term 331 (.pop) 1 332 := ⟨by decide +kernel, rfl⟩
theorem d_X12_term_332 : DC mX12_term 332 (.return_) 1 333 := ⟨by decide +kernel, rfl⟩
theorem d_X12_polynomial_0 : DC mX12_polynomial 0 (.aload_n 0) 1 1 := ⟨by decide +kernel, rfl⟩
theorem d_X12_polynomial_1 : DC mX12_polynomial 1 (.iconst 0) 1 2 := ⟨by decide +kernel, rfl⟩
theorem d_X12_polynomial_2 : DC mX12_polynomial 2 (.putfield 255) 3 5 := ⟨by decide +kernel, rfl⟩
theorem d_X12_polynomial_5 : DC mX12_polynomial 5 (.aload_n 0) 1 6 := ⟨by decide +kernel, rfl⟩
theorem d_X12_polynomial_6 : DC mX12_polynomial 6 (.getfield 258) 3 9 := ⟨by decide +kernel, rfl⟩
theorem d_X12_polynomial_9 : DC mX12_polynomial 9 (.ifCond .le 7) 3 12 := ⟨by decide +kernel, rfl⟩
theorem d_X12_polynomial_12 : DC mX12_polynomial 12 (.iconst 1) 1 13 := ⟨by decide +kernel, rfl⟩
theorem d_X12_polynomial_13 : DC mX12_polynomial 13 (.goto 4) 3 16 := ⟨by decide +kernel, rfl⟩
theorem d_X12_polynomial_16 : DC mX12_polynomial 16 (.iconst 0) 1 17 := ⟨by decide +kernel, rfl⟩
theorem d_X12_polynomial_17 : DC mX12_polynomial 17 (.istore_n 2) 1 18 := ⟨by decide +kernel, rfl⟩
theorem d_X12_polynomial_18 : DC mX12_polynomial 18 (.iconst 1) 1 19 := ⟨by decide +kernel, rfl⟩
theorem d_X12_polynomial_19 : DC mX12_polynomial 19 (.istore_n 3) 1 20 := ⟨by decide +kernel, rfl⟩
theorem d_X12_polynomial_20 : DC mX12_polynomial 20 (.iload_n 2) 1 21 := ⟨by decide +kernel, rfl⟩
theorem d_X12_polynomial_21 : DC mX12_polynomial 21 (.ifCond .eq 125) 3 24 := ⟨by decide +kernel, rfl⟩
theorem d_X12_polynomial_24 : DC mX12_polynomial 24 (.aload_n 0) 1 25 := ⟨by decide +kernel, rfl⟩
theorem d_X12_polynomial_25 : DC mX12_polynomial 25 (.getfield 261) 3 28 := ⟨by decide +kernel, rfl⟩
theorem d_X12_polynomial_28 : DC mX12_polynomial 28 (.ifCond .ne 118) 3 31 := ⟨by decide +kernel, rfl⟩
theorem d_X12_polynomial_31 : DC mX12_polynomial 31 (.aload_n 0) 1 32 := ⟨by decide +kernel, rfl⟩
theorem d_X12_polynomial_32 : DC mX12_polynomial 32 (.invokevirtual 264) 3 35 := ⟨by decide +kernel, rfl⟩
theorem d_X12_polynomial_35 : DC mX12_polynomial 35 (.bipush 43) 2 37 := ⟨by decide +kernel, rfl⟩
theorem d_X12_polynomial_37 : DC mX12_polynomial 37 (.if_icmp .eq 12) 3 40 := ⟨by decide +kernel, rfl⟩
theorem d_X12_polynomial_40 : DC mX12_polynomial 40 (.aload_n 0) 1 41 := ⟨by decide +kernel, rfl⟩
theorem d_X12_polynomial_41 : DC mX12_polynomial 41 (.invokevirtual 264) 3 44 := ⟨by decide +kernel, rfl⟩
theorem d_X12_polynomial_44 : DC mX12_polynomial 44 (.bipush 45) 2 46 := ⟨by decide +kernel, rfl⟩
theorem d_X12_polynomial_46 : DC mX12_polynomial 46 (.if_icmp .ne 7) 3 49 := ⟨by decide +kernel, rfl⟩
theorem d_X12_polynomial_49 : DC mX12_polynomial 49 (.iconst 1) 1 50 := ⟨by decide +kernel, rfl⟩
theorem d_X12_polynomial_50 : DC mX12_polynomial 50 (.goto 4) 3 53 := ⟨by decide +kernel, rfl⟩
theorem d_X12_polynomial_53 : DC mX12_polynomial 53 (.iconst 0) 1 54 := ⟨by decide +kernel, rfl⟩
theorem d_X12_polynomial_54 : DC mX12_polynomial 54 (.istore 4) 2 56 := ⟨by decide +kernel, rfl⟩
theorem d_X12_polynomial_56 : DC mX12_polynomial 56 (.aload_n 0) 1 57 := ⟨by decide +kernel, rfl⟩
theorem d_X12_polynomial_57 : DC mX12_polynomial 57 (.invokevirtual 264) 3 60 := ⟨by decide +kernel, rfl⟩
theorem d_X12_polynomial_60 : DC mX12_polynomial 60 (.bipush 45) 2 62 := ⟨by decide +kernel, rfl⟩
theorem d_X12_polynomial_62 : DC mX12_polynomial 62 (.if_icmp .ne 7) 3 65 := ⟨by decide +kernel, rfl⟩
theorem d_X12_polynomial_65 : DC mX12_polynomial 65 (.iconst (-1)) 1 66 := ⟨by decide +kernel, rfl⟩
theorem d_X12_polynomial_66 : DC mX12_polynomial 66 (.goto 4) 3 69 := ⟨by decide +kernel, rfl⟩
theorem d_X12_polynomial_69 : DC mX12_polynomial 69 (.iconst 1) 1 70 := ⟨by decide +kernel, rfl⟩
theorem d_X12_polynomial_70 : DC mX12_polynomial 70 (.istore 5) 2 72 := ⟨by decide +kernel, rfl⟩
theorem d_X12_polynomial_72 : DC mX12_polynomial 72 (.iload 4) 2 74 := ⟨by decide +kernel, rfl⟩
theorem d_X12_polynomial_74 : DC mX12_polynomial 74 (.ifCond .eq 16) 3 77 := ⟨by decide +kernel, rfl⟩
theorem d_X12_polynomial_77 : DC mX12_polynomial 77 (.aload_n 0) 1 78 := ⟨by decide +kernel, rfl⟩
theorem d_X12_polynomial_78 : DC mX12_polynomial 78 (.dup) 1 79 := ⟨by decide +kernel, rfl⟩
theorem d_X12_polynomial_79 : DC mX12_polynomial 79 (.getfield 255) 3 82 := ⟨by decide +kernel, rfl⟩
theorem d_X12_polynomial_82 : DC mX12_polynomial 82 (.iconst 1) 1 83 := ⟨by decide +kernel, rfl⟩
theorem d_X12_polynomial_83 : DC mX12_polynomial 83 (.iadd) 1 84 := ⟨by decide +kernel, rfl⟩
theorem d_X12_polynomial_84 : DC mX12_polynomial 84 (.putfield 255) 3 87 := ⟨by decide +kernel, rfl⟩
theorem d_X12_polynomial_87 : DC mX12_polynomial 87 (.goto 16) 3 90 := ⟨by decide +kernel, rfl⟩
theorem d_X12_polynomial_90 : DC mX12_polynomial 90 (.iload_n 3) 1 91 := ⟨by decide +kernel, rfl⟩
theorem d_X12_polynomial_91 : DC mX12_polynomial 91 (.ifCond .ne 12) 3 94 := ⟨by decide +kernel, rfl⟩
theorem d_X12_polynomial_94 : DC mX12_polynomial 94 (.aload_n 0) 1 95 := ⟨by decide +kernel, rfl⟩
theorem d_X12_polynomial_95 : DC mX12_polynomial 95 (.iconst 1) 1 96 := ⟨by decide +kernel, rfl⟩
theorem d_X12_polynomial_96 : DC mX12_polynomial 96 (.aload_n 0) 1 97 := ⟨by decide +kernel, rfl⟩
theorem d_X12_polynomial_97 : DC mX12_polynomial 97 (.getfield 255) 3 100 := ⟨by decide +kernel, rfl⟩
theorem d_X12_polynomial_100 : DC mX12_polynomial 100 (.invokevirtual 276) 3 103 := ⟨by decide +kernel, rfl⟩
theorem d_X12_polynomial_103 : DC mX12_polynomial 103 (.iconst 0) 1 104 := ⟨by decide +kernel, rfl⟩
theorem d_X12_polynomial_104 : DC mX12_polynomial 104 (.istore_n 3) 1 105 := ⟨by decide +kernel, rfl⟩
theorem d_X12_polynomial_105 : DC mX12_polynomial 105 (.aload_n 0) 1 106 := ⟨by decide +kernel, rfl⟩
theorem d_X12_polynomial_106 : DC mX12_polynomial 106 (.getfield 261) 3 109 := ⟨by decide +kernel, rfl⟩
theorem d_X12_polynomial_109 : DC mX12_polynomial 109 (.ifCond .ne 10) 3 112 := ⟨by decide +kernel, rfl⟩
theorem d_X12_polynomial_112 : DC mX12_polynomial 112 (.aload_n 0) 1 113 := ⟨by decide +kernel, rfl⟩
theorem d_X12_polynomial_113 : DC mX12_polynomial 113 (.iload 5) 2 115 := ⟨by decide +kernel, rfl⟩
theorem d_X12_polynomial_115 : DC mX12_polynomial 115 (.iload_n 1) 1 116 := ⟨by decide +kernel, rfl⟩
theorem d_X12_polynomial_116 : DC mX12_polynomial 116 (.invokevirtual 293) 3 119 := ⟨by decide +kernel, rfl⟩
theorem d_X12_polynomial_119 : DC mX12_polynomial 119 (.aload_n 0) 1 120 := ⟨by decide +kernel, rfl⟩
theorem d_X12_polynomial_120 : DC mX12_polynomial 120 (.getfield 261) 3 123 := ⟨by decide +kernel, rfl⟩
theorem d_X12_polynomial_123 : DC mX12_polynomial 123 (.ifCond .ne 18) 3 126 := ⟨by decide +kernel, rfl⟩
theorem d_X12_polynomial_126 : DC mX12_polynomial 126 (.aload_n 0) 1 127 := ⟨by decide +kernel, rfl⟩
theorem d_X12_polynomial_127 : DC mX12_polynomial 127 (.getfield 255) 3 130 := ⟨by decide +kernel, rfl⟩
theorem d_X12_polynomial_130 : DC mX12_polynomial 130 (.aload_n 0) 1 131 := ⟨by decide +kernel, rfl⟩
theorem d_X12_polynomial_131 : DC mX12_polynomial 131 (.getfield 258) 3 134 := ⟨by decide +kernel, rfl⟩
theorem d_X12_polynomial_134 : DC mX12_polynomial 134 (.if_icmp .ge 7) 3 137 := ⟨by decide +kernel, rfl⟩
theorem d_X12_polynomial_137 : DC mX12_polynomial 137 (.iconst 1) 1 138 := ⟨by decide +kernel, rfl⟩
theorem d_X12_polynomial_138 : DC mX12_polynomial 138 (.goto 4) 3 141 := ⟨by decide +kernel, rfl⟩
theorem d_X12_polynomial_141 : DC mX12_polynomial 141 (.iconst 0) 1 142 := ⟨by decide +kernel, rfl⟩
theorem d_X12_polynomial_142 : DC mX12_polynomial 142 (.istore_n 2) 1 143 := ⟨by decide +kernel, rfl⟩
theorem d_X12_polynomial_143 : DC mX12_polynomial 143 (.goto (-123)) 3 146 := ⟨by decide +kernel, rfl⟩
theorem d_X12_polynomial_146 : DC mX12_polynomial 146 (.return_) 1 147 := ⟨by decide +kernel, rfl⟩
theorem d_X12_opensText_0 : DC mX12_opensText 0 (.iload_n 1) 1 1 := ⟨by decide +kernel, rfl⟩
theorem d_X12_opensText_1 : DC mX12_opensText 1 (.invokestatic 199) 3 4 := ⟨by decide +kernel, rfl⟩
theorem d_X12_opensText_4 : DC mX12_opensText 4 (.ifCond .ne 10) 3 7 := ⟨by decide +kernel, rfl⟩
theorem d_X12_opensText_7 : DC mX12_opensText 7 (.aload_n 0) 1 8 := ⟨by decide +kernel, rfl⟩
theorem d_X12_opensText_8 : DC mX12_opensText 8 (.bipush (-2)) 2 10 := ⟨by decide +kernel, rfl⟩
theorem d_X12_opensText_10 : DC mX12_opensText 10 (.invokevirtual 218) 3 13 := ⟨by decide +kernel, rfl⟩
theorem d_X12_opensText_13 : DC mX12_opensText 13 (.ireturn) 1 14 := ⟨by decide +kernel, rfl⟩
theorem d_X12_opensText_14 : DC mX12_opensText 14 (.iload_n 2) 1 15 := ⟨by decide +kernel, rfl⟩
theorem d_X12_opensText_15 : DC mX12_opensText 15 (.i2l) 1 16 := ⟨by decide +kernel, rfl⟩
theorem d_X12_opensText_16 : DC mX12_opensText 16 (.lconst 0) 1 17 := ⟨by decide +kernel, rfl⟩
theorem d_X12_opensText_17 : DC mX12_opensText 17 (.aload_n 0) 1 18 := ⟨by decide +kernel, rfl⟩
theorem d_X12_opensText_18 : DC mX12_opensText 18 (.getfield 252) 3 21 := ⟨by decide +kernel, rfl⟩
theorem d_X12_opensText_21 : DC mX12_opensText 21 (.i2l) 1 22 := ⟨by decide +kernel, rfl⟩
theorem d_X12_opensText_22 : DC mX12_opensText 22 (.invokestatic 91) 3 25 := ⟨by decide +kernel, rfl⟩
theorem d_X12_opensText_25 : DC mX12_opensText 25 (.ifCond .ne 10) 3 28 := ⟨by decide +kernel, rfl⟩
theorem d_X12_opensText_28 : DC mX12_opensText 28 (.aload_n 0) 1 29 := ⟨by decide +kernel, rfl⟩
theorem d_X12_opensText_29 : DC mX12_opensText 29 (.bipush (-3)) 2 31 := ⟨by decide +kernel, rfl⟩
theorem d_X12_opensText_31 : DC mX12_opensText 31 (.invokevirtual 218) 3 34 := ⟨by decide +kernel, rfl⟩
theorem d_X12_opensText_34 : DC mX12_opensText 34 (.ireturn) 1 35 := ⟨by decide +kernel, rfl⟩
theorem d_X12_opensText_35 : DC mX12_opensText 35 (.aload_n 0) 1 36 := ⟨by decide +kernel, rfl⟩
theorem d_X12_opensText_36 : DC mX12_opensText 36 (.iconst 0) 1 37 := ⟨by decide +kernel, rfl⟩
theorem d_X12_opensText_37 : DC mX12_opensText 37 (.putfield 252) 3 40 := ⟨by decide +kernel, rfl⟩
theorem d_X12_opensText_40 : DC mX12_opensText 40 (.aload_n 0) 1 41 := ⟨by decide +kernel, rfl⟩
theorem d_X12_opensText_41 : DC mX12_opensText 41 (.iload_n 2) 1 42 := ⟨by decide +kernel, rfl⟩
theorem d_X12_opensText_42 : DC mX12_opensText 42 (.putfield 258) 3 45 := ⟨by decide +kernel, rfl⟩
theorem d_X12_opensText_45 : DC mX12_opensText 45 (.aload_n 0) 1 46 := ⟨by decide +kernel, rfl⟩
theorem d_X12_opensText_46 : DC mX12_opensText 46 (.iconst 0) 1 47 := ⟨by decide +kernel, rfl⟩
theorem d_X12_opensText_47 : DC mX12_opensText 47 (.putfield 255) 3 50 := ⟨by decide +kernel, rfl⟩
theorem d_X12_opensText_50 : DC mX12_opensText 50 (.aload_n 0) 1 51 := ⟨by decide +kernel, rfl⟩
theorem d_X12_opensText_51 : DC mX12_opensText 51 (.iconst 0) 1 52 := ⟨by decide +kernel, rfl⟩
theorem d_X12_opensText_52 : DC mX12_opensText 52 (.putfield 261) 3 55 := ⟨by decide +kernel, rfl⟩
theorem d_X12_opensText_55 : DC mX12_opensText 55 (.aload_n 0) 1 56 := ⟨by decide +kernel, rfl⟩
theorem d_X12_opensText_56 : DC mX12_opensText 56 (.iconst (-1)) 1 57 := ⟨by decide +kernel, rfl⟩
theorem d_X12_opensText_57 : DC mX12_opensText 57 (.putfield 61) 3 60 := ⟨by decide +kernel, rfl⟩
theorem d_X12_opensText_60 : DC mX12_opensText 60 (.iconst 0) 1 61 := ⟨by decide +kernel, rfl⟩
theorem d_X12_opensText_61 : DC mX12_opensText 61 (.ireturn) 1 62 := ⟨by decide +kernel, rfl⟩
theorem d_X12_told_0 : DC mX12_told 0 (.aload_n 0) 1 1 := ⟨by decide +kernel, rfl⟩
theorem d_X12_told_1 : DC mX12_told 1 (.iconst 0) 1 2 := ⟨by decide +kernel, rfl⟩
theorem d_X12_told_2 : DC mX12_told 2 (.putfield 1) 3 5 := ⟨by decide +kernel, rfl⟩
theorem d_X12_told_5 : DC mX12_told 5 (.aload_n 0) 1 6 := ⟨by decide +kernel, rfl⟩
theorem d_X12_told_6 : DC mX12_told 6 (.iload_n 1) 1 7 := ⟨by decide +kernel, rfl⟩
theorem d_X12_told_7 : DC mX12_told 7 (.iload_n 2) 1 8 := ⟨by decide +kernel, rfl⟩
theorem d_X12_told_8 : DC mX12_told 8 (.invokevirtual 297) 3 11 := ⟨by decide +kernel, rfl⟩
theorem d_X12_told_11 : DC mX12_told 11 (.istore_n 3) 1 12 := ⟨by decide +kernel, rfl⟩
theorem d_X12_told_12 : DC mX12_told 12 (.iload_n 3) 1 13 := ⟨by decide +kernel, rfl⟩
theorem d_X12_told_13 : DC mX12_told 13 (.ifCond .eq 5) 3 16 := ⟨by decide +kernel, rfl⟩
theorem d_X12_told_16 : DC mX12_told 16 (.iload_n 3) 1 17 := ⟨by decide +kernel, rfl⟩
theorem d_X12_told_17 : DC mX12_told 17 (.ireturn) 1 18 := ⟨by decide +kernel, rfl⟩
theorem d_X12_told_18 : DC mX12_told 18 (.aload_n 0) 1 19 := ⟨by decide +kernel, rfl⟩
theorem d_X12_told_19 : DC mX12_told 19 (.iconst 0) 1 20 := ⟨by decide +kernel, rfl⟩
theorem d_X12_told_20 : DC mX12_told 20 (.invokevirtual 300) 3 23 := ⟨by decide +kernel, rfl⟩
theorem d_X12_told_23 : DC mX12_told 23 (.aload_n 0) 1 24 := ⟨by decide +kernel, rfl⟩
theorem d_X12_told_24 : DC mX12_told 24 (.getfield 261) 3 27 := ⟨by decide +kernel, rfl⟩
theorem d_X12_told_27 : DC mX12_told 27 (.ifCond .eq 15) 3 30 := ⟨by decide +kernel, rfl⟩
theorem d_X12_told_30 : DC mX12_told 30 (.aload_n 0) 1 31 := ⟨by decide +kernel, rfl⟩
theorem d_X12_told_31 : DC mX12_told 31 (.bipush (-30)) 2 33 := ⟨by decide +kernel, rfl⟩
theorem d_X12_told_33 : DC mX12_told 33 (.aload_n 0) 1 34 := ⟨by decide +kernel, rfl⟩
theorem d_X12_told_34 : DC mX12_told 34 (.getfield 261) 3 37 := ⟨by decide +kernel, rfl⟩
theorem d_X12_told_37 : DC mX12_told 37 (.isub) 1 38 := ⟨by decide +kernel, rfl⟩
theorem d_X12_told_38 : DC mX12_told 38 (.invokevirtual 218) 3 41 := ⟨by decide +kernel, rfl⟩
theorem d_X12_told_41 : DC mX12_told 41 (.ireturn) 1 42 := ⟨by decide +kernel, rfl⟩
theorem d_X12_told_42 : DC mX12_told 42 (.aload_n 0) 1 43 := ⟨by decide +kernel, rfl⟩
theorem d_X12_told_43 : DC mX12_told 43 (.invokevirtual 202) 3 46 := ⟨by decide +kernel, rfl⟩
theorem d_X12_told_46 : DC mX12_told 46 (.aload_n 0) 1 47 := ⟨by decide +kernel, rfl⟩
theorem d_X12_told_47 : DC mX12_told 47 (.iconst 1) 1 48 := ⟨by decide +kernel, rfl⟩
theorem d_X12_told_48 : DC mX12_told 48 (.invokevirtual 300) 3 51 := ⟨by decide +kernel, rfl⟩
theorem d_X12_told_51 : DC mX12_told 51 (.aload_n 0) 1 52 := ⟨by decide +kernel, rfl⟩
theorem d_X12_told_52 : DC mX12_told 52 (.iload_n 1) 1 53 := ⟨by decide +kernel, rfl⟩
theorem d_X12_told_53 : DC mX12_told 53 (.invokevirtual 228) 3 56 := ⟨by decide +kernel, rfl⟩
theorem d_X12_told_56 : DC mX12_told 56 (.ireturn) 1 57 := ⟨by decide +kernel, rfl⟩
theorem d_X12_fault_0 : DC mX12_fault 0 (.aload_n 0) 1 1 := ⟨by decide +kernel, rfl⟩
theorem d_X12_fault_1 : DC mX12_fault 1 (.iconst 0) 1 2 := ⟨by decide +kernel, rfl⟩
theorem d_X12_fault_2 : DC mX12_fault 2 (.putfield 1) 3 5 := ⟨by decide +kernel, rfl⟩
theorem d_X12_fault_5 : DC mX12_fault 5 (.iload_n 1) 1 6 := ⟨by decide +kernel, rfl⟩
theorem d_X12_fault_6 : DC mX12_fault 6 (.ifCond .ne 10) 3 9 := ⟨by decide +kernel, rfl⟩
theorem d_X12_fault_9 : DC mX12_fault 9 (.aload_n 0) 1 10 := ⟨by decide +kernel, rfl⟩
theorem d_X12_fault_10 : DC mX12_fault 10 (.getfield 261) 3 13 := ⟨by decide +kernel, rfl⟩
theorem d_X12_fault_13 : DC mX12_fault 13 (.goto 16) 3 16 := ⟨by decide +kernel, rfl⟩
theorem d_X12_fault_16 : DC mX12_fault 16 (.iload_n 1) 1 17 := ⟨by decide +kernel, rfl⟩
theorem d_X12_fault_17 : DC mX12_fault 17 (.iconst 1) 1 18 := ⟨by decide +kernel, rfl⟩
theorem d_X12_fault_18 : DC mX12_fault 18 (.if_icmp .ne 10) 3 21 := ⟨by decide +kernel, rfl⟩
theorem d_X12_fault_21 : DC mX12_fault 21 (.aload_n 0) 1 22 := ⟨by decide +kernel, rfl⟩
theorem d_X12_fault_22 : DC mX12_fault 22 (.getfield 61) 3 25 := ⟨by decide +kernel, rfl⟩
theorem d_X12_fault_25 : DC mX12_fault 25 (.goto 4) 3 28 := ⟨by decide +kernel, rfl⟩
theorem d_X12_fault_28 : DC mX12_fault 28 (.iconst (-1)) 1 29 := ⟨by decide +kernel, rfl⟩
theorem d_X12_fault_29 : DC mX12_fault 29 (.ireturn) 1 30 := ⟨by decide +kernel, rfl⟩
theorem d_X12_pointText_0 : DC mX12_pointText 0 (.aload_n 0) 1 1 := ⟨by decide +kernel, rfl⟩
theorem d_X12_pointText_1 : DC mX12_pointText 1 (.getfield 261) 3 4 := ⟨by decide +kernel, rfl⟩
theorem d_X12_pointText_4 : DC mX12_pointText 4 (.ifCond .eq 4) 3 7 := ⟨by decide +kernel, rfl⟩
theorem d_X12_pointText_7 : DC mX12_pointText 7 (.return_) 1 8 := ⟨by decide +kernel, rfl⟩
theorem d_X12_pointText_8 : DC mX12_pointText 8 (.aload_n 0) 1 9 := ⟨by decide +kernel, rfl⟩
theorem d_X12_pointText_9 : DC mX12_pointText 9 (.invokevirtual 264) 3 12 := ⟨by decide +kernel, rfl⟩
theorem d_X12_pointText_12 : DC mX12_pointText 12 (.bipush 40) 2 14 := ⟨by decide +kernel, rfl⟩
theorem d_X12_pointText_14 : DC mX12_pointText 14 (.if_icmp .eq 12) 3 17 := ⟨by decide +kernel, rfl⟩
theorem d_X12_pointText_17 : DC mX12_pointText 17 (.aload_n 0) 1 18 := ⟨by decide +kernel, rfl⟩
theorem d_X12_pointText_18 : DC mX12_pointText 18 (.aload_n 0) 1 19 := ⟨by decide +kernel, rfl⟩
theorem d_X12_pointText_19 : DC mX12_pointText 19 (.invokevirtual 283) 3 22 := ⟨by decide +kernel, rfl⟩
theorem d_X12_pointText_22 : DC mX12_pointText 22 (.invokevirtual 286) 3 25 := ⟨by decide +kernel, rfl⟩
theorem d_X12_pointText_25 : DC mX12_pointText 25 (.return_) 1 26 := ⟨by decide +kernel, rfl⟩
theorem d_X12_pointText_26 : DC mX12_pointText 26 (.iload_n 1) 1 27 := ⟨by decide +kernel, rfl⟩
theorem d_X12_pointText_27 : DC mX12_pointText 27 (.iconst 2) 1 28 := ⟨by decide +kernel, rfl⟩
theorem d_X12_pointText_28 : DC mX12_pointText 28 (.if_icmp .ne 13) 3 31 := ⟨by decide +kernel, rfl⟩
theorem d_X12_pointText_31 : DC mX12_pointText 31 (.aload_n 0) 1 32 := ⟨by decide +kernel, rfl⟩
theorem d_X12_pointText_32 : DC mX12_pointText 32 (.iconst 4) 1 33 := ⟨by decide +kernel, rfl⟩
theorem d_X12_pointText_33 : DC mX12_pointText 33 (.aload_n 0) 1 34 := ⟨by decide +kernel, rfl⟩
theorem d_X12_pointText_34 : DC mX12_pointText 34 (.getfield 255) 3 37 := ⟨by decide +kernel, rfl⟩
theorem d_X12_pointText_37 : DC mX12_pointText 37 (.invokevirtual 276) 3 40 := ⟨by decide +kernel, rfl⟩
theorem d_X12_pointText_40 : DC mX12_pointText 40 (.return_) 1 41 := ⟨by decide +kernel, rfl⟩
theorem d_X12_pointText_41 : DC mX12_pointText 41 (.aload_n 0) 1 42 := ⟨by decide +kernel, rfl⟩
theorem d_X12_pointText_42 : DC mX12_pointText 42 (.dup) 1 43 := ⟨by decide +kernel, rfl⟩
theorem d_X12_pointText_43 : DC mX12_pointText 43 (.getfield 255) 3 46 := ⟨by decide +kernel, rfl⟩
theorem d_X12_pointText_46 : DC mX12_pointText 46 (.iconst 1) 1 47 := ⟨by decide +kernel, rfl⟩
theorem d_X12_pointText_47 : DC mX12_pointText 47 (.iadd) 1 48 := ⟨by decide +kernel, rfl⟩
theorem d_X12_pointText_48 : DC mX12_pointText 48 (.putfield 255) 3 51 := ⟨by decide +kernel, rfl⟩
theorem d_X12_pointText_51 : DC mX12_pointText 51 (.aload_n 0) 1 52 := ⟨by decide +kernel, rfl⟩
theorem d_X12_pointText_52 : DC mX12_pointText 52 (.iload_n 1) 1 53 := ⟨by decide +kernel, rfl⟩
theorem d_X12_pointText_53 : DC mX12_pointText 53 (.iconst 1) 1 54 := ⟨by decide +kernel, rfl⟩
theorem d_X12_pointText_54 : DC mX12_pointText 54 (.iadd) 1 55 := ⟨by decide +kernel, rfl⟩
theorem d_X12_pointText_55 : DC mX12_pointText 55 (.invokevirtual 303) 3 58 := ⟨by decide +kernel, rfl⟩
theorem d_X12_pointText_58 : DC mX12_pointText 58 (.aload_n 0) 1 59 := ⟨by decide +kernel, rfl⟩
theorem d_X12_pointText_59 : DC mX12_pointText 59 (.iload_n 1) 1 60 := ⟨by decide +kernel, rfl⟩
theorem d_X12_pointText_60 : DC mX12_pointText 60 (.iconst 1) 1 61 := ⟨by decide +kernel, rfl⟩
theorem d_X12_pointText_61 : DC mX12_pointText 61 (.iadd) 1 62 := ⟨by decide +kernel, rfl⟩
theorem d_X12_pointText_62 : DC mX12_pointText 62 (.invokevirtual 303) 3 65 := ⟨by decide +kernel, rfl⟩
theorem d_X12_pointText_65 : DC mX12_pointText 65 (.aload_n 0) 1 66 := ⟨by decide +kernel, rfl⟩
theorem d_X12_pointText_66 : DC mX12_pointText 66 (.aload_n 0) 1 67 := ⟨by decide +kernel, rfl⟩
theorem d_X12_pointText_67 : DC mX12_pointText 67 (.invokevirtual 264) 3 70 := ⟨by decide +kernel, rfl⟩
theorem d_X12_pointText_70 : DC mX12_pointText 70 (.bipush 94) 2 72 := ⟨by decide +kernel, rfl⟩
theorem d_X12_pointText_72 : DC mX12_pointText 72 (.if_icmp .ne 7) 3 75 := ⟨by decide +kernel, rfl⟩
theorem d_X12_pointText_75 : DC mX12_pointText 75 (.iconst 1) 1 76 := ⟨by decide +kernel, rfl⟩
theorem d_X12_pointText_76 : DC mX12_pointText 76 (.goto 4) 3 79 := ⟨by decide +kernel, rfl⟩
theorem d_X12_pointText_79 : DC mX12_pointText 79 (.iconst 0) 1 80 := ⟨by decide +kernel, rfl⟩
theorem d_X12_pointText_80 : DC mX12_pointText 80 (.invokevirtual 286) 3 83 := ⟨by decide +kernel, rfl⟩
theorem d_X12_pointText_83 : DC mX12_pointText 83 (.aload_n 0) 1 84 := ⟨by decide +kernel, rfl⟩
theorem d_X12_pointText_84 : DC mX12_pointText 84 (.iload_n 1) 1 85 := ⟨by decide +kernel, rfl⟩
theorem d_X12_pointText_85 : DC mX12_pointText 85 (.iconst 1) 1 86 := ⟨by decide +kernel, rfl⟩
theorem d_X12_pointText_86 : DC mX12_pointText 86 (.iadd) 1 87 := ⟨by decide +kernel, rfl⟩
theorem d_X12_pointText_87 : DC mX12_pointText 87 (.invokevirtual 303) 3 90 := ⟨by decide +kernel, rfl⟩
theorem d_X12_pointText_90 : DC mX12_pointText 90 (.aload_n 0) 1 91 := ⟨by decide +kernel, rfl⟩
theorem d_X12_pointText_91 : DC mX12_pointText 91 (.iload_n 1) 1 92 := ⟨by decide +kernel, rfl⟩
theorem d_X12_pointText_92 : DC mX12_pointText 92 (.iconst 1) 1 93 := ⟨by decide +kernel, rfl⟩
theorem d_X12_pointText_93 : DC mX12_pointText 93 (.iadd) 1 94 := ⟨by decide +kernel, rfl⟩
theorem d_X12_pointText_94 : DC mX12_pointText 94 (.invokevirtual 303) 3 97 := ⟨by decide +kernel, rfl⟩
theorem d_X12_pointText_97 : DC mX12_pointText 97 (.aload_n 0) 1 98 := ⟨by decide +kernel, rfl⟩
theorem d_X12_pointText_98 : DC mX12_pointText 98 (.aload_n 0) 1 99 := ⟨by decide +kernel, rfl⟩
theorem d_X12_pointText_99 : DC mX12_pointText 99 (.invokevirtual 264) 3 102 := ⟨by decide +kernel, rfl⟩
theorem d_X12_pointText_102 : DC mX12_pointText 102 (.bipush 41) 2 104 := ⟨by decide +kernel, rfl⟩
theorem d_X12_pointText_104 : DC mX12_pointText 104 (.if_icmp .ne 7) 3 107 := ⟨by decide +kernel, rfl⟩
theorem d_X12_pointText_107 : DC mX12_pointText 107 (.iconst 1) 1 108 := ⟨by decide +kernel, rfl⟩
theorem d_X12_pointText_108 : DC mX12_pointText 108 (.goto 4) 3 111 := ⟨by decide +kernel, rfl⟩
theorem d_X12_pointText_111 : DC mX12_pointText 111 (.iconst 0) 1 112 := ⟨by decide +kernel, rfl⟩
theorem d_X12_pointText_112 : DC mX12_pointText 112 (.invokevirtual 286) 3 115 := ⟨by decide +kernel, rfl⟩
theorem d_X12_pointText_115 : DC mX12_pointText 115 (.return_) 1 116 := ⟨by decide +kernel, rfl⟩
theorem d_X12_figureText_0 : DC mX12_figureText 0 (.iconst 0) 1 1 := ⟨by decide +kernel, rfl⟩
theorem d_X12_figureText_1 : DC mX12_figureText 1 (.istore_n 1) 1 2 := ⟨by decide +kernel, rfl⟩
theorem d_X12_figureText_2 : DC mX12_figureText 2 (.iload_n 1) 1 3 := ⟨by decide +kernel, rfl⟩
theorem d_X12_figureText_3 : DC mX12_figureText 3 (.iconst 3) 1 4 := ⟨by decide +kernel, rfl⟩
theorem d_X12_figureText_4 : DC mX12_figureText 4 (.if_icmp .ge 14) 3 7 := ⟨by decide +kernel, rfl⟩
theorem d_X12_figureText_7 : DC mX12_figureText 7 (.aload_n 0) 1 8 := ⟨by decide +kernel, rfl⟩
theorem d_X12_figureText_8 : DC mX12_figureText 8 (.iconst 0) 1 9 := ⟨by decide +kernel, rfl⟩
theorem d_X12_figureText_9 : DC mX12_figureText 9 (.invokevirtual 303) 3 12 := ⟨by decide +kernel, rfl⟩
theorem d_X12_figureText_12 : DC mX12_figureText 12 (.iinc 1 1) 3 15 := ⟨by decide +kernel, rfl⟩
theorem d_X12_figureText_15 : DC mX12_figureText 15 (.goto (-13)) 3 18 := ⟨by decide +kernel, rfl⟩
theorem d_X12_figureText_18 : DC mX12_figureText 18 (.aload_n 0) 1 19 := ⟨by decide +kernel, rfl⟩
theorem d_X12_figureText_19 : DC mX12_figureText 19 (.getfield 261) 3 22 := ⟨by decide +kernel, rfl⟩
theorem d_X12_figureText_22 : DC mX12_figureText 22 (.ifCond .ne 23) 3 25 := ⟨by decide +kernel, rfl⟩
theorem d_X12_figureText_25 : DC mX12_figureText 25 (.aload_n 0) 1 26 := ⟨by decide +kernel, rfl⟩
theorem d_X12_figureText_26 : DC mX12_figureText 26 (.getfield 255) 3 29 := ⟨by decide +kernel, rfl⟩
theorem d_X12_figureText_29 : DC mX12_figureText 29 (.aload_n 0) 1 30 := ⟨by decide +kernel, rfl⟩
theorem d_X12_figureText_30 : DC mX12_figureText 30 (.getfield 258) 3 33 := ⟨by decide +kernel, rfl⟩
theorem d_X12_figureText_33 : DC mX12_figureText 33 (.if_icmp .ge 12) 3 36 := ⟨by decide +kernel, rfl⟩
theorem d_X12_figureText_36 : DC mX12_figureText 36 (.aload_n 0) 1 37 := ⟨by decide +kernel, rfl⟩
theorem d_X12_figureText_37 : DC mX12_figureText 37 (.iconst 1) 1 38 := ⟨by decide +kernel, rfl⟩
theorem d_X12_figureText_38 : DC mX12_figureText 38 (.aload_n 0) 1 39 := ⟨by decide +kernel, rfl⟩
theorem d_X12_figureText_39 : DC mX12_figureText 39 (.getfield 255) 3 42 := ⟨by decide +kernel, rfl⟩
theorem d_X12_figureText_42 : DC mX12_figureText 42 (.invokevirtual 276) 3 45 := ⟨by decide +kernel, rfl⟩
theorem d_X12_figureText_45 : DC mX12_figureText 45 (.return_) 1 46 := ⟨by decide +kernel, rfl⟩
theorem d_X12_rowOf_0 : DC mX12_rowOf 0 (.bipush 6) 2 2 := ⟨by decide +kernel, rfl⟩
theorem d_X12_rowOf_2 : DC mX12_rowOf 2 (.bipush 10) 2 4 := ⟨by decide +kernel, rfl⟩
theorem d_X12_rowOf_4 : DC mX12_rowOf 4 (.iload_n 0) 1 5 := ⟨by decide +kernel, rfl⟩
theorem d_X12_rowOf_5 : DC mX12_rowOf 5 (.imul) 1 6 := ⟨by decide +kernel, rfl⟩
theorem d_X12_rowOf_6 : DC mX12_rowOf 6 (.iadd) 1 7 := ⟨by decide +kernel, rfl⟩
theorem d_X12_rowOf_7 : DC mX12_rowOf 7 (.iload_n 1) 1 8 := ⟨by decide +kernel, rfl⟩
theorem d_X12_rowOf_8 : DC mX12_rowOf 8 (.iadd) 1 9 := ⟨by decide +kernel, rfl⟩
theorem d_X12_rowOf_9 : DC mX12_rowOf 9 (.ireturn) 1 10 := ⟨by decide +kernel, rfl⟩
theorem d_X12_timesRow_0 : DC mX12_timesRow 0 (.aload_n 0) 1 1 := ⟨by decide +kernel, rfl⟩
theorem d_X12_timesRow_1 : DC mX12_timesRow 1 (.iconst 5) 1 2 := ⟨by decide +kernel, rfl⟩
theorem d_X12_timesRow_2 : DC mX12_timesRow 2 (.invokevirtual 105) 3 5 := ⟨by decide +kernel, rfl⟩
theorem d_X12_timesRow_5 : DC mX12_timesRow 5 (.aload_n 0) 1 6 := ⟨by decide +kernel, rfl⟩
theorem d_X12_timesRow_6 : DC mX12_timesRow 6 (.iconst 1) 1 7 := ⟨by decide +kernel, rfl⟩
theorem d_X12_timesRow_7 : DC mX12_timesRow 7 (.iload_n 1) 1 8 := ⟨by decide +kernel, rfl⟩
theorem d_X12_timesRow_8 : DC mX12_timesRow 8 (.iconst 1) 1 9 := ⟨by decide +kernel, rfl⟩
theorem d_X12_timesRow_9 : DC mX12_timesRow 9 (.iconst 5) 1 10 := ⟨by decide +kernel, rfl⟩
theorem d_X12_timesRow_10 : DC mX12_timesRow 10 (.invokevirtual 231) 3 13 := ⟨by decide +kernel, rfl⟩
theorem d_X12_timesRow_13 : DC mX12_timesRow 13 (.aload_n 0) 1 14 := ⟨by decide +kernel, rfl⟩
theorem d_X12_timesRow_14 : DC mX12_timesRow 14 (.iconst 5) 1 15 := ⟨by decide +kernel, rfl⟩
theorem d_X12_timesRow_15 : DC mX12_timesRow 15 (.iconst 1) 1 16 := ⟨by decide +kernel, rfl⟩
theorem d_X12_timesRow_16 : DC mX12_timesRow 16 (.invokevirtual 328) 3 19 := ⟨by decide +kernel, rfl⟩
theorem d_X12_timesRow_19 : DC mX12_timesRow 19 (.return_) 1 20 := ⟨by decide +kernel, rfl⟩
theorem d_X12_addsBracket_0 : DC mX12_addsBracket 0 (.aload_n 0) 1 1 := ⟨by decide +kernel, rfl⟩
theorem d_X12_addsBracket_1 : DC mX12_addsBracket 1 (.iconst 1) 1 2 := ⟨by decide +kernel, rfl⟩
theorem d_X12_addsBracket_2 : DC mX12_addsBracket 2 (.invokevirtual 105) 3 5 := ⟨by decide +kernel, rfl⟩
theorem d_X12_addsBracket_5 : DC mX12_addsBracket 5 (.aload_n 0) 1 6 := ⟨by decide +kernel, rfl⟩
theorem d_X12_addsBracket_6 : DC mX12_addsBracket 6 (.iload 4) 2 8 := ⟨by decide +kernel, rfl⟩
theorem d_X12_addsBracket_8 : DC mX12_addsBracket 8 (.bipush 100) 2 10 := ⟨by decide +kernel, rfl⟩
theorem d_X12_addsBracket_10 : DC mX12_addsBracket 10 (.idiv) 1 11 := ⟨by decide +kernel, rfl⟩
theorem d_X12_addsBracket_11 : DC mX12_addsBracket 11 (.iload 4) 2 13 := ⟨by decide +kernel, rfl⟩
theorem d_X12_addsBracket_13 : DC mX12_addsBracket 13 (.bipush 10) 2 15 := ⟨by decide +kernel, rfl⟩
theorem d_X12_addsBracket_15 : DC mX12_addsBracket 15 (.idiv) 1 16 := ⟨by decide +kernel, rfl⟩
theorem d_X12_addsBracket_16 : DC mX12_addsBracket 16 (.bipush 10) 2 18 := ⟨by decide +kernel, rfl⟩
theorem d_X12_addsBracket_18 : DC mX12_addsBracket 18 (.irem) 1 19 := ⟨by decide +kernel, rfl⟩
theorem d_X12_addsBracket_19 : DC mX12_addsBracket 19 (.iload 4) 2 21 := ⟨by decide +kernel, rfl⟩
theorem d_X12_addsBracket_21 : DC mX12_addsBracket 21 (.bipush 10) 2 23 := ⟨by decide +kernel, rfl⟩
theorem d_X12_addsBracket_23 : DC mX12_addsBracket 23 (.irem) 1 24 := ⟨by decide +kernel, rfl⟩
theorem d_X12_addsBracket_24 : DC mX12_addsBracket 24 (.iconst 1) 1 25 := ⟨by decide +kernel, rfl⟩
theorem d_X12_addsBracket_25 : DC mX12_addsBracket 25 (.invokevirtual 211) 3 28 := ⟨by decide +kernel, rfl⟩
theorem d_X12_addsBracket_28 : DC mX12_addsBracket 28 (.aload_n 0) 1 29 := ⟨by decide +kernel, rfl⟩
theorem d_X12_addsBracket_29 : DC mX12_addsBracket 29 (.iload_n 1) 1 30 := ⟨by decide +kernel, rfl⟩
theorem d_X12_addsBracket_30 : DC mX12_addsBracket 30 (.iload 4) 2 32 := ⟨by decide +kernel, rfl⟩
theorem d_X12_addsBracket_32 : DC mX12_addsBracket 32 (.bipush 100) 2 34 := ⟨by decide +kernel, rfl⟩
theorem d_X12_addsBracket_34 : DC mX12_addsBracket 34 (.idiv) 1 35 := ⟨by decide +kernel, rfl⟩
theorem d_X12_addsBracket_35 : DC mX12_addsBracket 35 (.invokestatic 306) 3 38 := ⟨by decide +kernel, rfl⟩
theorem d_X12_addsBracket_38 : DC mX12_addsBracket 38 (.invokevirtual 325) 3 41 := ⟨by decide +kernel, rfl⟩
theorem d_X12_addsBracket_41 : DC mX12_addsBracket 41 (.aload_n 0) 1 42 := ⟨by decide +kernel, rfl⟩
theorem d_X12_addsBracket_42 : DC mX12_addsBracket 42 (.iload_n 2) 1 43 := ⟨by decide +kernel, rfl⟩
theorem d_X12_addsBracket_43 : DC mX12_addsBracket 43 (.iload 4) 2 45 := ⟨by decide +kernel, rfl⟩
theorem d_X12_addsBracket_45 : DC mX12_addsBracket 45 (.bipush 10) 2 47 := ⟨by decide +kernel, rfl⟩
theorem d_X12_addsBracket_47 : DC mX12_addsBracket 47 (.idiv) 1 48 := ⟨by decide +kernel, rfl⟩
theorem d_X12_addsBracket_48 : DC mX12_addsBracket 48 (.bipush 10) 2 50 := ⟨by decide +kernel, rfl⟩
theorem d_X12_addsBracket_50 : DC mX12_addsBracket 50 (.irem) 1 51 := ⟨by decide +kernel, rfl⟩
theorem d_X12_addsBracket_51 : DC mX12_addsBracket 51 (.invokestatic 306) 3 54 := ⟨by decide +kernel, rfl⟩
theorem d_X12_addsBracket_54 : DC mX12_addsBracket 54 (.invokevirtual 325) 3 57 := ⟨by decide +kernel, rfl⟩
theorem d_X12_addsBracket_57 : DC mX12_addsBracket 57 (.aload_n 0) 1 58 := ⟨by decide +kernel, rfl⟩
theorem d_X12_addsBracket_58 : DC mX12_addsBracket 58 (.iload_n 3) 1 59 := ⟨by decide +kernel, rfl⟩
theorem d_X12_addsBracket_59 : DC mX12_addsBracket 59 (.iload 4) 2 61 := ⟨by decide +kernel, rfl⟩
theorem d_X12_addsBracket_61 : DC mX12_addsBracket 61 (.bipush 10) 2 63 := ⟨by decide +kernel, rfl⟩
theorem d_X12_addsBracket_63 : DC mX12_addsBracket 63 (.irem) 1 64 := ⟨by decide +kernel, rfl⟩
theorem d_X12_addsBracket_64 : DC mX12_addsBracket 64 (.invokestatic 306) 3 67 := ⟨by decide +kernel, rfl⟩
theorem d_X12_addsBracket_67 : DC mX12_addsBracket 67 (.invokevirtual 325) 3 70 := ⟨by decide +kernel, rfl⟩
theorem d_X12_addsBracket_70 : DC mX12_addsBracket 70 (.iconst 0) 1 71 := ⟨by decide +kernel, rfl⟩
theorem d_X12_addsBracket_71 : DC mX12_addsBracket 71 (.istore 6) 2 73 := ⟨by decide +kernel, rfl⟩
theorem d_X12_addsBracket_73 : DC mX12_addsBracket 73 (.iload 6) 2 75 := ⟨by decide +kernel, rfl⟩
theorem d_X12_addsBracket_75 : DC mX12_addsBracket 75 (.aload_n 0) 1 76 := ⟨by decide +kernel, rfl⟩
theorem d_X12_addsBracket_76 : DC mX12_addsBracket 76 (.iconst 1) 1 77 := ⟨by decide +kernel, rfl⟩
theorem d_X12_addsBracket_77 : DC mX12_addsBracket 77 (.invokevirtual 113) 3 80 := ⟨by decide +kernel, rfl⟩
theorem d_X12_addsBracket_80 : DC mX12_addsBracket 80 (.if_icmp .ge 31) 3 83 := ⟨by decide +kernel, rfl⟩
theorem d_X12_addsBracket_83 : DC mX12_addsBracket 83 (.aload_n 0) 1 84 := ⟨by decide +kernel, rfl⟩
theorem d_X12_addsBracket_84 : DC mX12_addsBracket 84 (.iload 5) 2 86 := ⟨by decide +kernel, rfl⟩
theorem d_X12_addsBracket_86 : DC mX12_addsBracket 86 (.aload_n 0) 1 87 := ⟨by decide +kernel, rfl⟩
theorem d_X12_addsBracket_87 : DC mX12_addsBracket 87 (.iconst 1) 1 88 := ⟨by decide +kernel, rfl⟩
theorem d_X12_addsBracket_88 : DC mX12_addsBracket 88 (.iload 6) 2 90 := ⟨by decide +kernel, rfl⟩
theorem d_X12_addsBracket_90 : DC mX12_addsBracket 90 (.invokevirtual 117) 3 93 := ⟨by decide +kernel, rfl⟩
theorem d_X12_addsBracket_93 : DC mX12_addsBracket 93 (.aload_n 0) 1 94 := ⟨by decide +kernel, rfl⟩
theorem d_X12_addsBracket_94 : DC mX12_addsBracket 94 (.iconst 1) 1 95 := ⟨by decide +kernel, rfl⟩
theorem d_X12_addsBracket_95 : DC mX12_addsBracket 95 (.iload 6) 2 97 := ⟨by decide +kernel, rfl⟩
theorem d_X12_addsBracket_97 : DC mX12_addsBracket 97 (.invokevirtual 132) 3 100 := ⟨by decide +kernel, rfl⟩
theorem d_X12_addsBracket_100 : DC mX12_addsBracket 100 (.i2l) 1 101 := ⟨by decide +kernel, rfl⟩
theorem d_X12_addsBracket_101 : DC mX12_addsBracket 101 (.invokevirtual 147) 3 104 := ⟨by decide +kernel, rfl⟩
theorem d_X12_addsBracket_104 : DC mX12_addsBracket 104 (.pop) 1 105 := ⟨by decide +kernel, rfl⟩
theorem d_X12_addsBracket_105 : DC mX12_addsBracket 105 (.iinc 6 1) 3 108 := ⟨by decide +kernel, rfl⟩
theorem d_X12_addsBracket_108 : DC mX12_addsBracket 108 (.goto (-35)) 3 111 := ⟨by decide +kernel, rfl⟩
theorem d_X12_addsBracket_111 : DC mX12_addsBracket 111 (.return_) 1 112 := ⟨by decide +kernel, rfl⟩
theorem d_X12_brackets_0 : DC mX12_brackets 0 (.aload_n 0) 1 1 := ⟨by decide +kernel, rfl⟩
theorem d_X12_brackets_1 : DC mX12_brackets 1 (.iload 4) 2 3 := ⟨by decide +kernel, rfl⟩
theorem d_X12_brackets_3 : DC mX12_brackets 3 (.invokevirtual 105) 3 6 := ⟨by decide +kernel, rfl⟩
theorem d_X12_brackets_6 : DC mX12_brackets 6 (.iconst 0) 1 7 := ⟨by decide +kernel, rfl⟩
theorem d_X12_brackets_7 : DC mX12_brackets 7 (.istore 5) 2 9 := ⟨by decide +kernel, rfl⟩
theorem d_X12_brackets_9 : DC mX12_brackets 9 (.iload 5) 2 11 := ⟨by decide +kernel, rfl⟩
theorem d_X12_brackets_11 : DC mX12_brackets 11 (.bipush 10) 2 13 := ⟨by decide +kernel, rfl⟩
theorem d_X12_brackets_13 : DC mX12_brackets 13 (.if_icmp .ge 144) 3 16 := ⟨by decide +kernel, rfl⟩
theorem d_X12_brackets_16 : DC mX12_brackets 16 (.iconst 0) 1 17 := ⟨by decide +kernel, rfl⟩
theorem d_X12_brackets_17 : DC mX12_brackets 17 (.istore 6) 2 19 := ⟨by decide +kernel, rfl⟩
theorem d_X12_brackets_19 : DC mX12_brackets 19 (.iload 6) 2 21 := ⟨by decide +kernel, rfl⟩
theorem d_X12_brackets_21 : DC mX12_brackets 21 (.bipush 10) 2 23 := ⟨by decide +kernel, rfl⟩
theorem d_X12_brackets_23 : DC mX12_brackets 23 (.if_icmp .ge 128) 3 26 := ⟨by decide +kernel, rfl⟩
theorem d_X12_brackets_26 : DC mX12_brackets 26 (.iconst 0) 1 27 := ⟨by decide +kernel, rfl⟩
theorem d_X12_brackets_27 : DC mX12_brackets 27 (.istore 7) 2 29 := ⟨by decide +kernel, rfl⟩
theorem d_X12_brackets_29 : DC mX12_brackets 29 (.iload 7) 2 31 := ⟨by decide +kernel, rfl⟩
theorem d_X12_brackets_31 : DC mX12_brackets 31 (.bipush 10) 2 33 := ⟨by decide +kernel, rfl⟩
theorem d_X12_brackets_33 : DC mX12_brackets 33 (.if_icmp .ge 112) 3 36 := ⟨by decide +kernel, rfl⟩
theorem d_X12_brackets_36 : DC mX12_brackets 36 (.aload_n 0) 1 37 := ⟨by decide +kernel, rfl⟩
theorem d_X12_brackets_37 : DC mX12_brackets 37 (.getfield 102) 3 40 := ⟨by decide +kernel, rfl⟩
theorem d_X12_brackets_40 : DC mX12_brackets 40 (.ifCond .ne 105) 3 43 := ⟨by decide +kernel, rfl⟩
theorem d_X12_brackets_43 : DC mX12_brackets 43 (.aload_n 0) 1 44 := ⟨by decide +kernel, rfl⟩
theorem d_X12_brackets_44 : DC mX12_brackets 44 (.iload_n 1) 1 45 := ⟨by decide +kernel, rfl⟩
theorem d_X12_brackets_45 : DC mX12_brackets 45 (.iload 5) 2 47 := ⟨by decide +kernel, rfl⟩
theorem d_X12_brackets_47 : DC mX12_brackets 47 (.invokestatic 306) 3 50 := ⟨by decide +kernel, rfl⟩
theorem d_X12_brackets_50 : DC mX12_brackets 50 (.invokevirtual 113) 3 53 := ⟨by decide +kernel, rfl⟩
theorem d_X12_brackets_53 : DC mX12_brackets 53 (.ifCond .le 33) 3 56 := ⟨by decide +kernel, rfl⟩
theorem d_X12_brackets_56 : DC mX12_brackets 56 (.aload_n 0) 1 57 := ⟨by decide +kernel, rfl⟩
theorem d_X12_brackets_57 : DC mX12_brackets 57 (.iload_n 2) 1 58 := ⟨by decide +kernel, rfl⟩
theorem d_X12_brackets_58 : DC mX12_brackets 58 (.iload 6) 2 60 := ⟨by decide +kernel, rfl⟩
theorem d_X12_brackets_60 : DC mX12_brackets 60 (.invokestatic 306) 3 63 := ⟨by decide +kernel, rfl⟩
theorem d_X12_brackets_63 : DC mX12_brackets 63 (.invokevirtual 113) 3 66 := ⟨by decide +kernel, rfl⟩
theorem d_X12_brackets_66 : DC mX12_brackets 66 (.ifCond .le 20) 3 69 := ⟨by decide +kernel, rfl⟩
theorem d_X12_brackets_69 : DC mX12_brackets 69 (.aload_n 0) 1 70 := ⟨by decide +kernel, rfl⟩
theorem d_X12_brackets_70 : DC mX12_brackets 70 (.iload_n 3) 1 71 := ⟨by decide +kernel, rfl⟩
theorem d_X12_brackets_71 : DC mX12_brackets 71 (.iload 7) 2 73 := ⟨by decide +kernel, rfl⟩
theorem d_X12_brackets_73 : DC mX12_brackets 73 (.invokestatic 306) 3 76 := ⟨by decide +kernel, rfl⟩
theorem d_X12_brackets_76 : DC mX12_brackets 76 (.invokevirtual 113) 3 79 := ⟨by decide +kernel, rfl⟩
theorem d_X12_brackets_79 : DC mX12_brackets 79 (.ifCond .le 7) 3 82 := ⟨by decide +kernel, rfl⟩
theorem d_X12_brackets_82 : DC mX12_brackets 82 (.iconst 1) 1 83 := ⟨by decide +kernel, rfl⟩
theorem d_X12_brackets_83 : DC mX12_brackets 83 (.goto 4) 3 86 := ⟨by decide +kernel, rfl⟩
theorem d_X12_brackets_86 : DC mX12_brackets 86 (.iconst 0) 1 87 := ⟨by decide +kernel, rfl⟩
theorem d_X12_brackets_87 : DC mX12_brackets 87 (.istore 8) 2 89 := ⟨by decide +kernel, rfl⟩
theorem d_X12_brackets_89 : DC mX12_brackets 89 (.iload 8) 2 91 := ⟨by decide +kernel, rfl⟩
theorem d_X12_brackets_91 : DC mX12_brackets 91 (.ifCond .eq 48) 3 94 := ⟨by decide +kernel, rfl⟩
theorem d_X12_brackets_94 : DC mX12_brackets 94 (.aload_n 0) 1 95 := ⟨by decide +kernel, rfl⟩
theorem d_X12_brackets_95 : DC mX12_brackets 95 (.getfield 13) 3 98 := ⟨by decide +kernel, rfl⟩
theorem d_X12_brackets_98 : DC mX12_brackets 98 (.bipush 100) 2 100 := ⟨by decide +kernel, rfl⟩
theorem d_X12_brackets_100 : DC mX12_brackets 100 (.iload 5) 2 102 := ⟨by decide +kernel, rfl⟩
theorem d_X12_brackets_102 : DC mX12_brackets 102 (.imul) 1 103 := ⟨by decide +kernel, rfl⟩
theorem d_X12_brackets_103 : DC mX12_brackets 103 (.bipush 10) 2 105 := ⟨by decide +kernel, rfl⟩
theorem d_X12_brackets_105 : DC mX12_brackets 105 (.iload 6) 2 107 := ⟨by decide +kernel, rfl⟩
theorem d_X12_brackets_107 : DC mX12_brackets 107 (.imul) 1 108 := ⟨by decide +kernel, rfl⟩
theorem d_X12_brackets_108 : DC mX12_brackets 108 (.iadd) 1 109 := ⟨by decide +kernel, rfl⟩
theorem d_X12_brackets_109 : DC mX12_brackets 109 (.iload 7) 2 111 := ⟨by decide +kernel, rfl⟩
theorem d_X12_brackets_111 : DC mX12_brackets 111 (.iadd) 1 112 := ⟨by decide +kernel, rfl⟩
theorem d_X12_brackets_112 : DC mX12_brackets 112 (.iaload) 1 113 := ⟨by decide +kernel, rfl⟩
theorem d_X12_brackets_113 : DC mX12_brackets 113 (.ifCond .eq 26) 3 116 := ⟨by decide +kernel, rfl⟩
theorem d_X12_brackets_116 : DC mX12_brackets 116 (.aload_n 0) 1 117 := ⟨by decide +kernel, rfl⟩
theorem d_X12_brackets_117 : DC mX12_brackets 117 (.iload_n 1) 1 118 := ⟨by decide +kernel, rfl⟩
theorem d_X12_brackets_118 : DC mX12_brackets 118 (.iload_n 2) 1 119 := ⟨by decide +kernel, rfl⟩
theorem d_X12_brackets_119 : DC mX12_brackets 119 (.iload_n 3) 1 120 := ⟨by decide +kernel, rfl⟩
theorem d_X12_brackets_120 : DC mX12_brackets 120 (.bipush 100) 2 122 := ⟨by decide +kernel, rfl⟩
theorem d_X12_brackets_122 : DC mX12_brackets 122 (.iload 5) 2 124 := ⟨by decide +kernel, rfl⟩
theorem d_X12_brackets_124 : DC mX12_brackets 124 (.imul) 1 125 := ⟨by decide +kernel, rfl⟩
theorem d_X12_brackets_125 : DC mX12_brackets 125 (.bipush 10) 2 127 := ⟨by decide +kernel, rfl⟩
theorem d_X12_brackets_127 : DC mX12_brackets 127 (.iload 6) 2 129 := ⟨by decide +kernel, rfl⟩
theorem d_X12_brackets_129 : DC mX12_brackets 129 (.imul) 1 130 := ⟨by decide +kernel, rfl⟩
theorem d_X12_brackets_130 : DC mX12_brackets 130 (.iadd) 1 131 := ⟨by decide +kernel, rfl⟩
theorem d_X12_brackets_131 : DC mX12_brackets 131 (.iload 7) 2 133 := ⟨by decide +kernel, rfl⟩
theorem d_X12_brackets_133 : DC mX12_brackets 133 (.iadd) 1 134 := ⟨by decide +kernel, rfl⟩
theorem d_X12_brackets_134 : DC mX12_brackets 134 (.iload 4) 2 136 := ⟨by decide +kernel, rfl⟩
theorem d_X12_brackets_136 : DC mX12_brackets 136 (.invokevirtual 321) 3 139 := ⟨by decide +kernel, rfl⟩
theorem d_X12_brackets_139 : DC mX12_brackets 139 (.iinc 7 1) 3 142 := ⟨by decide +kernel, rfl⟩
theorem d_X12_brackets_142 : DC mX12_brackets 142 (.goto (-113)) 3 145 := ⟨by decide +kernel, rfl⟩
theorem d_X12_brackets_145 : DC mX12_brackets 145 (.iinc 6 1) 3 148 := ⟨by decide +kernel, rfl⟩
theorem d_X12_brackets_148 : DC mX12_brackets 148 (.goto (-129)) 3 151 := ⟨by decide +kernel, rfl⟩
theorem d_X12_brackets_151 : DC mX12_brackets 151 (.iinc 5 1) 3 154 := ⟨by decide +kernel, rfl⟩
theorem d_X12_brackets_154 : DC mX12_brackets 154 (.goto (-145)) 3 157 := ⟨by decide +kernel, rfl⟩
theorem d_X12_brackets_157 : DC mX12_brackets 157 (.return_) 1 158 := ⟨by decide +kernel, rfl⟩
theorem d_X12_putsProduct_0 : DC mX12_putsProduct 0 (.aload_n 0) 1 1 := ⟨by decide +kernel, rfl⟩
theorem d_X12_putsProduct_1 : DC mX12_putsProduct 1 (.iconst 5) 1 2 := ⟨by decide +kernel, rfl⟩
theorem d_X12_putsProduct_2 : DC mX12_putsProduct 2 (.invokevirtual 105) 3 5 := ⟨by decide +kernel, rfl⟩
theorem d_X12_putsProduct_5 : DC mX12_putsProduct 5 (.aload_n 0) 1 6 := ⟨by decide +kernel, rfl⟩
theorem d_X12_putsProduct_6 : DC mX12_putsProduct 6 (.iload_n 1) 1 7 := ⟨by decide +kernel, rfl⟩
theorem d_X12_putsProduct_7 : DC mX12_putsProduct 7 (.iload_n 2) 1 8 := ⟨by decide +kernel, rfl⟩
theorem d_X12_putsProduct_8 : DC mX12_putsProduct 8 (.iconst 1) 1 9 := ⟨by decide +kernel, rfl⟩
theorem d_X12_putsProduct_9 : DC mX12_putsProduct 9 (.iconst 5) 1 10 := ⟨by decide +kernel, rfl⟩
theorem d_X12_putsProduct_10 : DC mX12_putsProduct 10 (.invokevirtual 231) 3 13 := ⟨by decide +kernel, rfl⟩
theorem d_X12_putsProduct_13 : DC mX12_putsProduct 13 (.iconst 0) 1 14 := ⟨by decide +kernel, rfl⟩
theorem d_X12_putsProduct_14 : DC mX12_putsProduct 14 (.istore 6) 2 16 := ⟨by decide +kernel, rfl⟩
theorem d_X12_putsProduct_16 : DC mX12_putsProduct 16 (.iload 6) 2 18 := ⟨by decide +kernel, rfl⟩
theorem d_X12_putsProduct_18 : DC mX12_putsProduct 18 (.aload_n 0) 1 19 := ⟨by decide +kernel, rfl⟩
theorem d_X12_putsProduct_19 : DC mX12_putsProduct 19 (.iconst 5) 1 20 := ⟨by decide +kernel, rfl⟩
theorem d_X12_putsProduct_20 : DC mX12_putsProduct 20 (.invokevirtual 113) 3 23 := ⟨by decide +kernel, rfl⟩
theorem d_X12_putsProduct_23 : DC mX12_putsProduct 23 (.if_icmp .ge 33) 3 26 := ⟨by decide +kernel, rfl⟩
theorem d_X12_putsProduct_26 : DC mX12_putsProduct 26 (.aload_n 0) 1 27 := ⟨by decide +kernel, rfl⟩
theorem d_X12_putsProduct_27 : DC mX12_putsProduct 27 (.iload 5) 2 29 := ⟨by decide +kernel, rfl⟩
theorem d_X12_putsProduct_29 : DC mX12_putsProduct 29 (.aload_n 0) 1 30 := ⟨by decide +kernel, rfl⟩
theorem d_X12_putsProduct_30 : DC mX12_putsProduct 30 (.iconst 5) 1 31 := ⟨by decide +kernel, rfl⟩
theorem d_X12_putsProduct_31 : DC mX12_putsProduct 31 (.iload 6) 2 33 := ⟨by decide +kernel, rfl⟩
theorem d_X12_putsProduct_33 : DC mX12_putsProduct 33 (.invokevirtual 117) 3 36 := ⟨by decide +kernel, rfl⟩
theorem d_X12_putsProduct_36 : DC mX12_putsProduct 36 (.lload_n 3) 1 37 := ⟨by decide +kernel, rfl⟩
theorem d_X12_putsProduct_37 : DC mX12_putsProduct 37 (.aload_n 0) 1 38 := ⟨by decide +kernel, rfl⟩
theorem d_X12_putsProduct_38 : DC mX12_putsProduct 38 (.iconst 5) 1 39 := ⟨by decide +kernel, rfl⟩
theorem d_X12_putsProduct_39 : DC mX12_putsProduct 39 (.iload 6) 2 41 := ⟨by decide +kernel, rfl⟩
theorem d_X12_putsProduct_41 : DC mX12_putsProduct 41 (.invokevirtual 132) 3 44 := ⟨by decide +kernel, rfl⟩
theorem d_X12_putsProduct_44 : DC mX12_putsProduct 44 (.i2l) 1 45 := ⟨by decide +kernel, rfl⟩
theorem d_X12_putsProduct_45 : DC mX12_putsProduct 45 (.lmul) 1 46 := ⟨by decide +kernel, rfl⟩
theorem d_X12_putsProduct_46 : DC mX12_putsProduct 46 (.invokevirtual 147) 3 49 := ⟨by decide +kernel, rfl⟩
theorem d_X12_putsProduct_49 : DC mX12_putsProduct 49 (.pop) 1 50 := ⟨by decide +kernel, rfl⟩
theorem d_X12_putsProduct_50 : DC mX12_putsProduct 50 (.iinc 6 1) 3 53 := ⟨by decide +kernel, rfl⟩
theorem d_X12_putsProduct_53 : DC mX12_putsProduct 53 (.goto (-37)) 3 56 := ⟨by decide +kernel, rfl⟩
theorem d_X12_putsProduct_56 : DC mX12_putsProduct 56 (.return_) 1 57 := ⟨by decide +kernel, rfl⟩
theorem d_X12_meets_0 : DC mX12_meets 0 (.aload_n 0) 1 1 := ⟨by decide +kernel, rfl⟩
theorem d_X12_meets_1 : DC mX12_meets 1 (.getfield 102) 3 4 := ⟨by decide +kernel, rfl⟩
theorem d_X12_meets_4 : DC mX12_meets 4 (.ifCond .eq 4) 3 7 := ⟨by decide +kernel, rfl⟩
theorem d_X12_meets_7 : DC mX12_meets 7 (.return_) 1 8 := ⟨by decide +kernel, rfl⟩
theorem d_X12_meets_8 : DC mX12_meets 8 (.aload_n 0) 1 9 := ⟨by decide +kernel, rfl⟩
theorem d_X12_meets_9 : DC mX12_meets 9 (.iload_n 1) 1 10 := ⟨by decide +kernel, rfl⟩
theorem d_X12_meets_10 : DC mX12_meets 10 (.iload_n 1) 1 11 := ⟨by decide +kernel, rfl⟩
theorem d_X12_meets_11 : DC mX12_meets 11 (.iconst 2) 1 12 := ⟨by decide +kernel, rfl⟩
theorem d_X12_meets_12 : DC mX12_meets 12 (.iadd) 1 13 := ⟨by decide +kernel, rfl⟩
theorem d_X12_meets_13 : DC mX12_meets 13 (.iload_n 1) 1 14 := ⟨by decide +kernel, rfl⟩
theorem d_X12_meets_14 : DC mX12_meets 14 (.iconst 3) 1 15 := ⟨by decide +kernel, rfl⟩
theorem d_X12_meets_15 : DC mX12_meets 15 (.iadd) 1 16 := ⟨by decide +kernel, rfl⟩
theorem d_X12_meets_16 : DC mX12_meets 16 (.iconst 3) 1 17 := ⟨by decide +kernel, rfl⟩
theorem d_X12_meets_17 : DC mX12_meets 17 (.invokevirtual 315) 3 20 := ⟨by decide +kernel, rfl⟩
theorem d_X12_meets_20 : DC mX12_meets 20 (.aload_n 0) 1 21 := ⟨by decide +kernel, rfl⟩
theorem d_X12_meets_21 : DC mX12_meets 21 (.iload_n 1) 1 22 := ⟨by decide +kernel, rfl⟩
theorem d_X12_meets_22 : DC mX12_meets 22 (.iconst 1) 1 23 := ⟨by decide +kernel, rfl⟩
theorem d_X12_meets_23 : DC mX12_meets 23 (.iadd) 1 24 := ⟨by decide +kernel, rfl⟩
theorem d_X12_meets_24 : DC mX12_meets 24 (.iload_n 1) 1 25 := ⟨by decide +kernel, rfl⟩
theorem d_X12_meets_25 : DC mX12_meets 25 (.iconst 2) 1 26 := ⟨by decide +kernel, rfl⟩
theorem d_X12_meets_26 : DC mX12_meets 26 (.iadd) 1 27 := ⟨by decide +kernel, rfl⟩
theorem d_X12_meets_27 : DC mX12_meets 27 (.iload_n 1) 1 28 := ⟨by decide +kernel, rfl⟩
theorem d_X12_meets_28 : DC mX12_meets 28 (.iconst 3) 1 29 := ⟨by decide +kernel, rfl⟩
theorem d_X12_meets_29 : DC mX12_meets 29 (.iadd) 1 30 := ⟨by decide +kernel, rfl⟩
theorem d_X12_meets_30 : DC mX12_meets 30 (.iconst 4) 1 31 := ⟨by decide +kernel, rfl⟩
theorem d_X12_meets_31 : DC mX12_meets 31 (.invokevirtual 315) 3 34 := ⟨by decide +kernel, rfl⟩
theorem d_X12_meets_34 : DC mX12_meets 34 (.iconst 0) 1 35 := ⟨by decide +kernel, rfl⟩
theorem d_X12_meets_35 : DC mX12_meets 35 (.istore_n 3) 1 36 := ⟨by decide +kernel, rfl⟩
theorem d_X12_meets_36 : DC mX12_meets 36 (.iload_n 3) 1 37 := ⟨by decide +kernel, rfl⟩
theorem d_X12_meets_37 : DC mX12_meets 37 (.bipush 10) 2 39 := ⟨by decide +kernel, rfl⟩
theorem d_X12_meets_39 : DC mX12_meets 39 (.if_icmp .ge 34) 3 42 := ⟨by decide +kernel, rfl⟩
theorem d_X12_meets_42 : DC mX12_meets 42 (.aload_n 0) 1 43 := ⟨by decide +kernel, rfl⟩
theorem d_X12_meets_43 : DC mX12_meets 43 (.getfield 102) 3 46 := ⟨by decide +kernel, rfl⟩
theorem d_X12_meets_46 : DC mX12_meets 46 (.ifCond .ne 27) 3 49 := ⟨by decide +kernel, rfl⟩
theorem d_X12_meets_49 : DC mX12_meets 49 (.aload_n 0) 1 50 := ⟨by decide +kernel, rfl⟩
theorem d_X12_meets_50 : DC mX12_meets 50 (.iconst 3) 1 51 := ⟨by decide +kernel, rfl⟩
theorem d_X12_meets_51 : DC mX12_meets 51 (.iload_n 1) 1 52 := ⟨by decide +kernel, rfl⟩
theorem d_X12_meets_52 : DC mX12_meets 52 (.iconst 1) 1 53 := ⟨by decide +kernel, rfl⟩
theorem d_X12_meets_53 : DC mX12_meets 53 (.iadd) 1 54 := ⟨by decide +kernel, rfl⟩
theorem d_X12_meets_54 : DC mX12_meets 54 (.iload_n 3) 1 55 := ⟨by decide +kernel, rfl⟩
theorem d_X12_meets_55 : DC mX12_meets 55 (.invokestatic 306) 3 58 := ⟨by decide +kernel, rfl⟩
theorem d_X12_meets_58 : DC mX12_meets 58 (.lconst 1) 1 59 := ⟨by decide +kernel, rfl⟩
theorem d_X12_meets_59 : DC mX12_meets 59 (.iload_n 2) 1 60 := ⟨by decide +kernel, rfl⟩
theorem d_X12_meets_60 : DC mX12_meets 60 (.iload_n 3) 1 61 := ⟨by decide +kernel, rfl⟩
theorem d_X12_meets_61 : DC mX12_meets 61 (.invokestatic 306) 3 64 := ⟨by decide +kernel, rfl⟩
theorem d_X12_meets_64 : DC mX12_meets 64 (.invokevirtual 318) 3 67 := ⟨by decide +kernel, rfl⟩
theorem d_X12_meets_67 : DC mX12_meets 67 (.iinc 3 1) 3 70 := ⟨by decide +kernel, rfl⟩
theorem d_X12_meets_70 : DC mX12_meets 70 (.goto (-34)) 3 73 := ⟨by decide +kernel, rfl⟩
theorem d_X12_meets_73 : DC mX12_meets 73 (.iconst 0) 1 74 := ⟨by decide +kernel, rfl⟩
theorem d_X12_meets_74 : DC mX12_meets 74 (.istore_n 3) 1 75 := ⟨by decide +kernel, rfl⟩
theorem d_X12_meets_75 : DC mX12_meets 75 (.iload_n 3) 1 76 := ⟨by decide +kernel, rfl⟩
theorem d_X12_meets_76 : DC mX12_meets 76 (.bipush 10) 2 78 := ⟨by decide +kernel, rfl⟩
theorem d_X12_meets_78 : DC mX12_meets 78 (.if_icmp .ge 34) 3 81 := ⟨by decide +kernel, rfl⟩
theorem d_X12_meets_81 : DC mX12_meets 81 (.aload_n 0) 1 82 := ⟨by decide +kernel, rfl⟩
theorem d_X12_meets_82 : DC mX12_meets 82 (.getfield 102) 3 85 := ⟨by decide +kernel, rfl⟩
theorem d_X12_meets_85 : DC mX12_meets 85 (.ifCond .ne 27) 3 88 := ⟨by decide +kernel, rfl⟩
theorem d_X12_meets_88 : DC mX12_meets 88 (.aload_n 0) 1 89 := ⟨by decide +kernel, rfl⟩
theorem d_X12_meets_89 : DC mX12_meets 89 (.iconst 4) 1 90 := ⟨by decide +kernel, rfl⟩
theorem d_X12_meets_90 : DC mX12_meets 90 (.iload_n 1) 1 91 := ⟨by decide +kernel, rfl⟩
theorem d_X12_meets_91 : DC mX12_meets 91 (.iload_n 3) 1 92 := ⟨by decide +kernel, rfl⟩
theorem d_X12_meets_92 : DC mX12_meets 92 (.invokestatic 306) 3 95 := ⟨by decide +kernel, rfl⟩
theorem d_X12_meets_95 : DC mX12_meets 95 (.ldc2_w 166) 3 98 := ⟨by decide +kernel, rfl⟩
theorem d_X12_meets_98 : DC mX12_meets 98 (.iload_n 2) 1 99 := ⟨by decide +kernel, rfl⟩
theorem d_X12_meets_99 : DC mX12_meets 99 (.iload_n 3) 1 100 := ⟨by decide +kernel, rfl⟩
theorem d_X12_meets_100 : DC mX12_meets 100 (.invokestatic 306) 3 103 := ⟨by decide +kernel, rfl⟩
theorem d_X12_meets_103 : DC mX12_meets 103 (.invokevirtual 318) 3 106 := ⟨by decide +kernel, rfl⟩
theorem d_X12_meets_106 : DC mX12_meets 106 (.iinc 3 1) 3 109 := ⟨by decide +kernel, rfl⟩
theorem d_X12_meets_109 : DC mX12_meets 109 (.goto (-34)) 3 112 := ⟨by decide +kernel, rfl⟩
theorem d_X12_meets_112 : DC mX12_meets 112 (.return_) 1 113 := ⟨by decide +kernel, rfl⟩
theorem d_X12_point_0 : DC mX12_point 0 (.aload_n 0) 1 1 := ⟨by decide +kernel, rfl⟩
theorem d_X12_point_1 : DC mX12_point 1 (.getfield 102) 3 4 := ⟨by decide +kernel, rfl⟩
theorem d_X12_point_4 : DC mX12_point 4 (.ifCond .eq 4) 3 7 := ⟨by decide +kernel, rfl⟩
theorem d_X12_point_7 : DC mX12_point 7 (.return_) 1 8 := ⟨by decide +kernel, rfl⟩
theorem d_X12_point_8 : DC mX12_point 8 (.iconst 0) 1 9 := ⟨by decide +kernel, rfl⟩
theorem d_X12_point_9 : DC mX12_point 9 (.istore_n 3) 1 10 := ⟨by decide +kernel, rfl⟩
theorem d_X12_point_10 : DC mX12_point 10 (.iload_n 3) 1 11 := ⟨by decide +kernel, rfl⟩
theorem d_X12_point_11 : DC mX12_point 11 (.bipush 10) 2 13 := ⟨by decide +kernel, rfl⟩
theorem d_X12_point_13 : DC mX12_point 13 (.if_icmp .ge 18) 3 16 := ⟨by decide +kernel, rfl⟩
theorem d_X12_point_16 : DC mX12_point 16 (.aload_n 0) 1 17 := ⟨by decide +kernel, rfl⟩
theorem d_X12_point_17 : DC mX12_point 17 (.iload_n 1) 1 18 := ⟨by decide +kernel, rfl⟩
theorem d_X12_point_18 : DC mX12_point 18 (.iload_n 3) 1 19 := ⟨by decide +kernel, rfl⟩
theorem d_X12_point_19 : DC mX12_point 19 (.invokestatic 306) 3 22 := ⟨by decide +kernel, rfl⟩
theorem d_X12_point_22 : DC mX12_point 22 (.invokevirtual 105) 3 25 := ⟨by decide +kernel, rfl⟩
theorem d_X12_point_25 : DC mX12_point 25 (.iinc 3 1) 3 28 := ⟨by decide +kernel, rfl⟩
theorem d_X12_point_28 : DC mX12_point 28 (.goto (-18)) 3 31 := ⟨by decide +kernel, rfl⟩
theorem d_X12_point_31 : DC mX12_point 31 (.aload_n 0) 1 32 := ⟨by decide +kernel, rfl⟩
theorem d_X12_point_32 : DC mX12_point 32 (.invokevirtual 264) 3 35 := ⟨by decide +kernel, rfl⟩
theorem d_X12_point_35 : DC mX12_point 35 (.bipush 40) 2 37 := ⟨by decide +kernel, rfl⟩
theorem d_X12_point_37 : DC mX12_point 37 (.if_icmp .eq 32) 3 40 := ⟨by decide +kernel, rfl⟩
theorem d_X12_point_40 : DC mX12_point 40 (.aload_n 0) 1 41 := ⟨by decide +kernel, rfl⟩
theorem d_X12_point_41 : DC mX12_point 41 (.iload_n 1) 1 42 := ⟨by decide +kernel, rfl⟩
theorem d_X12_point_42 : DC mX12_point 42 (.aload_n 0) 1 43 := ⟨by decide +kernel, rfl⟩
theorem d_X12_point_43 : DC mX12_point 43 (.invokevirtual 264) 3 46 := ⟨by decide +kernel, rfl⟩
theorem d_X12_point_46 : DC mX12_point 46 (.bipush 97) 2 48 := ⟨by decide +kernel, rfl⟩
theorem d_X12_point_48 : DC mX12_point 48 (.isub) 1 49 := ⟨by decide +kernel, rfl⟩
theorem d_X12_point_49 : DC mX12_point 49 (.invokestatic 306) 3 52 := ⟨by decide +kernel, rfl⟩
theorem d_X12_point_52 : DC mX12_point 52 (.iconst 0) 1 53 := ⟨by decide +kernel, rfl⟩
theorem d_X12_point_53 : DC mX12_point 53 (.lconst 1) 1 54 := ⟨by decide +kernel, rfl⟩
theorem d_X12_point_54 : DC mX12_point 54 (.invokevirtual 147) 3 57 := ⟨by decide +kernel, rfl⟩
theorem d_X12_point_57 : DC mX12_point 57 (.pop) 1 58 := ⟨by decide +kernel, rfl⟩
theorem d_X12_point_58 : DC mX12_point 58 (.aload_n 0) 1 59 := ⟨by decide +kernel, rfl⟩
theorem d_X12_point_59 : DC mX12_point 59 (.dup) 1 60 := ⟨by decide +kernel, rfl⟩
theorem d_X12_point_60 : DC mX12_point 60 (.getfield 255) 3 63 := ⟨by decide +kernel, rfl⟩
theorem d_X12_point_63 : DC mX12_point 63 (.iconst 1) 1 64 := ⟨by decide +kernel, rfl⟩
theorem d_X12_point_64 : DC mX12_point 64 (.iadd) 1 65 := ⟨by decide +kernel, rfl⟩
theorem d_X12_point_65 : DC mX12_point 65 (.putfield 255) 3 68 := ⟨by decide +kernel, rfl⟩
theorem d_X12_point_68 : DC mX12_point 68 (.return_) 1 69 := ⟨by decide +kernel, rfl⟩
theorem d_X12_point_69 : DC mX12_point 69 (.aload_n 0) 1 70 := ⟨by decide +kernel, rfl⟩
theorem d_X12_point_70 : DC mX12_point 70 (.dup) 1 71 := ⟨by decide +kernel, rfl⟩
theorem d_X12_point_71 : DC mX12_point 71 (.getfield 255) 3 74 := ⟨by decide +kernel, rfl⟩
theorem d_X12_point_74 : DC mX12_point 74 (.iconst 1) 1 75 := ⟨by decide +kernel, rfl⟩
theorem d_X12_point_75 : DC mX12_point 75 (.iadd) 1 76 := ⟨by decide +kernel, rfl⟩
theorem d_X12_point_76 : DC mX12_point 76 (.putfield 255) 3 79 := ⟨by decide +kernel, rfl⟩
theorem d_X12_point_79 : DC mX12_point 79 (.aload_n 0) 1 80 := ⟨by decide +kernel, rfl⟩
theorem d_X12_point_80 : DC mX12_point 80 (.iload_n 2) 1 81 := ⟨by decide +kernel, rfl⟩
theorem d_X12_point_81 : DC mX12_point 81 (.iload_n 2) 1 82 := ⟨by decide +kernel, rfl⟩
theorem d_X12_point_82 : DC mX12_point 82 (.iconst 4) 1 83 := ⟨by decide +kernel, rfl⟩
theorem d_X12_point_83 : DC mX12_point 83 (.iadd) 1 84 := ⟨by decide +kernel, rfl⟩
theorem d_X12_point_84 : DC mX12_point 84 (.invokevirtual 309) 3 87 := ⟨by decide +kernel, rfl⟩
theorem d_X12_point_87 : DC mX12_point 87 (.aload_n 0) 1 88 := ⟨by decide +kernel, rfl⟩
theorem d_X12_point_88 : DC mX12_point 88 (.iload_n 2) 1 89 := ⟨by decide +kernel, rfl⟩
theorem d_X12_point_89 : DC mX12_point 89 (.iconst 1) 1 90 := ⟨by decide +kernel, rfl⟩
theorem d_X12_point_90 : DC mX12_point 90 (.iadd) 1 91 := ⟨by decide +kernel, rfl⟩
theorem d_X12_point_91 : DC mX12_point 91 (.iload_n 2) 1 92 := ⟨by decide +kernel, rfl⟩
theorem d_X12_point_92 : DC mX12_point 92 (.iconst 4) 1 93 := ⟨by decide +kernel, rfl⟩
theorem d_X12_point_93 : DC mX12_point 93 (.iadd) 1 94 := ⟨by decide +kernel, rfl⟩
theorem d_X12_point_94 : DC mX12_point 94 (.invokevirtual 309) 3 97 := ⟨by decide +kernel, rfl⟩
theorem d_X12_point_97 : DC mX12_point 97 (.aload_n 0) 1 98 := ⟨by decide +kernel, rfl⟩
theorem d_X12_point_98 : DC mX12_point 98 (.dup) 1 99 := ⟨by decide +kernel, rfl⟩
theorem d_X12_point_99 : DC mX12_point 99 (.getfield 255) 3 102 := ⟨by decide +kernel, rfl⟩
theorem d_X12_point_102 : DC mX12_point 102 (.iconst 1) 1 103 := ⟨by decide +kernel, rfl⟩
theorem d_X12_point_103 : DC mX12_point 103 (.iadd) 1 104 := ⟨by decide +kernel, rfl⟩
theorem d_X12_point_104 : DC mX12_point 104 (.putfield 255) 3 107 := ⟨by decide +kernel, rfl⟩
theorem d_X12_point_107 : DC mX12_point 107 (.aload_n 0) 1 108 := ⟨by decide +kernel, rfl⟩
theorem d_X12_point_108 : DC mX12_point 108 (.iload_n 2) 1 109 := ⟨by decide +kernel, rfl⟩
theorem d_X12_point_109 : DC mX12_point 109 (.iconst 2) 1 110 := ⟨by decide +kernel, rfl⟩
theorem d_X12_point_110 : DC mX12_point 110 (.iadd) 1 111 := ⟨by decide +kernel, rfl⟩
theorem d_X12_point_111 : DC mX12_point 111 (.iload_n 2) 1 112 := ⟨by decide +kernel, rfl⟩
theorem d_X12_point_112 : DC mX12_point 112 (.iconst 4) 1 113 := ⟨by decide +kernel, rfl⟩
theorem d_X12_point_113 : DC mX12_point 113 (.iadd) 1 114 := ⟨by decide +kernel, rfl⟩
theorem d_X12_point_114 : DC mX12_point 114 (.invokevirtual 309) 3 117 := ⟨by decide +kernel, rfl⟩
theorem d_X12_point_117 : DC mX12_point 117 (.aload_n 0) 1 118 := ⟨by decide +kernel, rfl⟩
theorem d_X12_point_118 : DC mX12_point 118 (.iload_n 2) 1 119 := ⟨by decide +kernel, rfl⟩
theorem d_X12_point_119 : DC mX12_point 119 (.iconst 3) 1 120 := ⟨by decide +kernel, rfl⟩
theorem d_X12_point_120 : DC mX12_point 120 (.iadd) 1 121 := ⟨by decide +kernel, rfl⟩
theorem d_X12_point_121 : DC mX12_point 121 (.iload_n 2) 1 122 := ⟨by decide +kernel, rfl⟩
theorem d_X12_point_122 : DC mX12_point 122 (.iconst 4) 1 123 := ⟨by decide +kernel, rfl⟩
theorem d_X12_point_123 : DC mX12_point 123 (.iadd) 1 124 := ⟨by decide +kernel, rfl⟩
theorem d_X12_point_124 : DC mX12_point 124 (.invokevirtual 309) 3 127 := ⟨by decide +kernel, rfl⟩
theorem d_X12_point_127 : DC mX12_point 127 (.aload_n 0) 1 128 := ⟨by decide +kernel, rfl⟩
theorem d_X12_point_128 : DC mX12_point 128 (.dup) 1 129 := ⟨by decide +kernel, rfl⟩
theorem d_X12_point_129 : DC mX12_point 129 (.getfield 255) 3 132 := ⟨by decide +kernel, rfl⟩
theorem d_X12_point_132 : DC mX12_point 132 (.iconst 1) 1 133 := ⟨by decide +kernel, rfl⟩
theorem d_X12_point_133 : DC mX12_point 133 (.iadd) 1 134 := ⟨by decide +kernel, rfl⟩
theorem d_X12_point_134 : DC mX12_point 134 (.putfield 255) 3 137 := ⟨by decide +kernel, rfl⟩
theorem d_X12_point_137 : DC mX12_point 137 (.aload_n 0) 1 138 := ⟨by decide +kernel, rfl⟩
theorem d_X12_point_138 : DC mX12_point 138 (.iload_n 2) 1 139 := ⟨by decide +kernel, rfl⟩
theorem d_X12_point_139 : DC mX12_point 139 (.iload_n 1) 1 140 := ⟨by decide +kernel, rfl⟩
theorem d_X12_point_140 : DC mX12_point 140 (.invokevirtual 312) 3 143 := ⟨by decide +kernel, rfl⟩
theorem d_X12_point_143 : DC mX12_point 143 (.return_) 1 144 := ⟨by decide +kernel, rfl⟩
theorem v_X12_feed_0 {l : Launch} {d N : Nat} {Λ : Lay} {P : Int → Mem → Prop} {σ : Mem} {x1 x2 x3 x4 x5 t : Int} (o_t : Ob N Λ t 21 36)
    (h : (∀ τ1, τ1 = st σ t 0 0 → (((addI (τ1 t 19) 20) ≤ 300 → WI l mX12_feed d P 24 [(2, t), (0, x1), (0, x2), (0, x3), (0, x4), (0, x5), (0, 0), (3, 0)] [] N Λ τ1) ∧ (¬ ((addI (τ1 t 19) 20) ≤ 300) → P (-4) τ1)))) :
    WI l mX12_feed d P 0 [(2, t), (0, x1), (0, x2), (0, x3), (0, x4), (0, x5), (3, 0), (3, 0)] [] N Λ σ := by
  refine r_aload_n (x := t) d_X12_feed_0 rfl o_t.1 ?_
  refine r_iconst (x := 0) d_X12_feed_1 ⟨by decide, by decide⟩ ?_
  refine r_putI (j := 0) d_X12_feed_2 kX12 (by decide) fl_X12_1 rfl o_t.1 o_t.2.1 o_t.2.2.1 o_t.2.2.2 rfl ?_
  refine r_nmM (fun τ1 eτ1 => ?_)
  have h := h τ1 eτ1
  refine r_aload_n (x := t) d_X12_feed_5 rfl o_t.1 ?_
  refine r_getf (j := 19) (t := 0) (x := (τ1 t 19)) d_X12_feed_6 kX12 (by decide) fl_X12_252 o_t.1 o_t.2.1 o_t.2.2.1 o_t.2.2.2 rfl rfl ?_
  refine r_bipush (x := 20) d_X12_feed_9 ⟨by decide, by decide⟩ (by decide) ?_
  refine r_iadd d_X12_feed_11 ?_
  refine r_sipush (x := 300) d_X12_feed_12 ⟨by decide, by decide⟩ (by decide) ?_
  refine r_ic_le (tgt := 21) d_X12_feed_15 rfl (fun hc => ?_) (fun hc => ?_)
  · have h := h.1 hc
    refine r_iconst (x := 0) d_X12_feed_21 ⟨by decide, by decide⟩ ?_
    refine r_istore (L2 := [(2, t), (0, x1), (0, x2), (0, x3), (0, x4), (0, x5), (0, 0), (3, 0)]) d_X12_feed_22 (by decide) rfl rfl ?_
    exact h
  · have h := h.2 hc
    refine r_bipush (x := (-4)) d_X12_feed_18 ⟨by decide, by decide⟩ (by decide) ?_
    exact r_iret d_X12_feed_20 rfl rfl (Nat.le_refl 0) (Nat.le_refl 0) ⟨_, rfl, rfl, rfl, h⟩
theorem v_X12_feed_24 {l : Launch} {d N : Nat} {Λ : Lay} {P : Int → Mem → Prop} {σ : Mem} {x1 x2 x3 x4 x5 x6 t t_tape : Int} (o_t : Ob N Λ t 21 36) (f_t_tape : (Λ t).2.2 18 = t_tape)
    (h : ((20 ≤ x6 → P (σ t 19) σ) ∧ (¬ (20 ≤ x6) → ((4 ≤ x6 → ((8 ≤ x6 → ((12 ≤ x6 → ((16 ≤ x6 → (Ix N Λ t_tape 6 (σ t 19) ∧ (narrow .byte (.int (Int32.ofInt (i2bI (shrI x5 (subI 24 (mulI 8 (remI x6 4))))))) = .int (Int32.ofInt (i2bI (shrI x5 (subI 24 (mulI 8 (remI x6 4)))))) ∧ (∀ τ1, τ1 = st σ t_tape (σ t 19) (i2bI (shrI x5 (subI 24 (mulI 8 (remI x6 4))))) → (∀ τ2, τ2 = st τ1 t 19 (addI (τ1 t 19) 1) → (∀ y3, y3 = addI x6 1 → WI l mX12_feed d P 24 [(2, t), (0, x1), (0, x2), (0, x3), (0, x4), (0, x5), (0, y3), (3, 0)] [] N Λ τ2)))))) ∧ (¬ (16 ≤ x6) → (Ix N Λ t_tape 6 (σ t 19) ∧ (narrow .byte (.int (Int32.ofInt (i2bI (shrI x4 (subI 24 (mulI 8 (remI x6 4))))))) = .int (Int32.ofInt (i2bI (shrI x4 (subI 24 (mulI 8 (remI x6 4)))))) ∧ (∀ τ4, τ4 = st σ t_tape (σ t 19) (i2bI (shrI x4 (subI 24 (mulI 8 (remI x6 4))))) → (∀ τ5, τ5 = st τ4 t 19 (addI (τ4 t 19) 1) → (∀ y6, y6 = addI x6 1 → WI l mX12_feed d P 24 [(2, t), (0, x1), (0, x2), (0, x3), (0, x4), (0, x5), (0, y6), (3, 0)] [] N Λ τ5)))))))) ∧ (¬ (12 ≤ x6) → (Ix N Λ t_tape 6 (σ t 19) ∧ (narrow .byte (.int (Int32.ofInt (i2bI (shrI x3 (subI 24 (mulI 8 (remI x6 4))))))) = .int (Int32.ofInt (i2bI (shrI x3 (subI 24 (mulI 8 (remI x6 4)))))) ∧ (∀ τ7, τ7 = st σ t_tape (σ t 19) (i2bI (shrI x3 (subI 24 (mulI 8 (remI x6 4))))) → (∀ τ8, τ8 = st τ7 t 19 (addI (τ7 t 19) 1) → (∀ y9, y9 = addI x6 1 → WI l mX12_feed d P 24 [(2, t), (0, x1), (0, x2), (0, x3), (0, x4), (0, x5), (0, y9), (3, 0)] [] N Λ τ8)))))))) ∧ (¬ (8 ≤ x6) → (Ix N Λ t_tape 6 (σ t 19) ∧ (narrow .byte (.int (Int32.ofInt (i2bI (shrI x2 (subI 24 (mulI 8 (remI x6 4))))))) = .int (Int32.ofInt (i2bI (shrI x2 (subI 24 (mulI 8 (remI x6 4)))))) ∧ (∀ τ10, τ10 = st σ t_tape (σ t 19) (i2bI (shrI x2 (subI 24 (mulI 8 (remI x6 4))))) → (∀ τ11, τ11 = st τ10 t 19 (addI (τ10 t 19) 1) → (∀ y12, y12 = addI x6 1 → WI l mX12_feed d P 24 [(2, t), (0, x1), (0, x2), (0, x3), (0, x4), (0, x5), (0, y12), (3, 0)] [] N Λ τ11)))))))) ∧ (¬ (4 ≤ x6) → (Ix N Λ t_tape 6 (σ t 19) ∧ (narrow .byte (.int (Int32.ofInt (i2bI (shrI x1 (subI 24 (mulI 8 (remI x6 4))))))) = .int (Int32.ofInt (i2bI (shrI x1 (subI 24 (mulI 8 (remI x6 4)))))) ∧ (∀ τ13, τ13 = st σ t_tape (σ t 19) (i2bI (shrI x1 (subI 24 (mulI 8 (remI x6 4))))) → (∀ τ14, τ14 = st τ13 t 19 (addI (τ13 t 19) 1) → (∀ y15, y15 = addI x6 1 → WI l mX12_feed d P 24 [(2, t), (0, x1), (0, x2), (0, x3), (0, x4), (0, x5), (0, y15), (3, 0)] [] N Λ τ14)))))))))) :
    WI l mX12_feed d P 24 [(2, t), (0, x1), (0, x2), (0, x3), (0, x4), (0, x5), (0, x6), (3, 0)] [] N Λ σ := by
  refine r_iload (x := x6) d_X12_feed_24 rfl ?_
  refine r_bipush (x := 20) d_X12_feed_26 ⟨by decide, by decide⟩ (by decide) ?_
  refine r_ic_ge (tgt := 118) d_X12_feed_28 rfl (fun hc => ?_) (fun hc => ?_)
  · have h := h.1 hc
    refine r_aload_n (x := t) d_X12_feed_118 rfl o_t.1 ?_
    refine r_getf (j := 19) (t := 0) (x := (σ t 19)) d_X12_feed_119 kX12 (by decide) fl_X12_252 o_t.1 o_t.2.1 o_t.2.2.1 o_t.2.2.2 rfl rfl ?_
    exact r_iret d_X12_feed_122 rfl rfl (Nat.le_refl 0) (Nat.le_refl 0) ⟨_, rfl, rfl, rfl, h⟩
  · have h := h.2 hc
    refine r_iload (x := x6) d_X12_feed_31 rfl ?_
    refine r_iconst (x := 4) d_X12_feed_33 ⟨by decide, by decide⟩ ?_
    refine r_ic_ge (tgt := 41) d_X12_feed_34 rfl (fun hc => ?_) (fun hc => ?_)
    · have h := h.1 hc
      refine r_iload (x := x6) d_X12_feed_41 rfl ?_
      refine r_bipush (x := 8) d_X12_feed_43 ⟨by decide, by decide⟩ (by decide) ?_
      refine r_ic_ge (tgt := 52) d_X12_feed_45 rfl (fun hc => ?_) (fun hc => ?_)
      · have h := h.1 hc
        refine r_iload (x := x6) d_X12_feed_52 rfl ?_
        refine r_bipush (x := 12) d_X12_feed_54 ⟨by decide, by decide⟩ (by decide) ?_
        refine r_ic_ge (tgt := 63) d_X12_feed_56 rfl (fun hc => ?_) (fun hc => ?_)
        · have h := h.1 hc
          refine r_iload (x := x6) d_X12_feed_63 rfl ?_
          refine r_bipush (x := 16) d_X12_feed_65 ⟨by decide, by decide⟩ (by decide) ?_
          refine r_ic_ge (tgt := 75) d_X12_feed_67 rfl (fun hc => ?_) (fun hc => ?_)
          · have h := h.1 hc
            refine r_iload (x := x5) d_X12_feed_75 rfl ?_
            refine r_istore (L2 := [(2, t), (0, x1), (0, x2), (0, x3), (0, x4), (0, x5), (0, x6), (0, x5)]) d_X12_feed_77 (by decide) rfl rfl ?_
            refine r_aload_n (x := t) d_X12_feed_79 rfl o_t.1 ?_
            refine r_getf (j := 18) (t := 2) (x := t_tape) d_X12_feed_80 kX12 (by decide) fl_X12_57 o_t.1 o_t.2.1 o_t.2.2.1 o_t.2.2.2 rfl f_t_tape ?_
            refine r_aload_n (x := t) d_X12_feed_83 rfl o_t.1 ?_
            refine r_getf (j := 19) (t := 0) (x := (σ t 19)) d_X12_feed_84 kX12 (by decide) fl_X12_252 o_t.1 o_t.2.1 o_t.2.2.1 o_t.2.2.2 rfl rfl ?_
            refine r_iload (x := x5) d_X12_feed_87 rfl ?_
            refine r_bipush (x := 24) d_X12_feed_89 ⟨by decide, by decide⟩ (by decide) ?_
            refine r_bipush (x := 8) d_X12_feed_91 ⟨by decide, by decide⟩ (by decide) ?_
            refine r_iload (x := x6) d_X12_feed_93 rfl ?_
            refine r_iconst (x := 4) d_X12_feed_95 ⟨by decide, by decide⟩ ?_
            refine r_irem d_X12_feed_96 (by decide) ?_
            refine r_imul d_X12_feed_97 ?_
            refine r_isub d_X12_feed_98 ?_
            refine r_ishr d_X12_feed_99 ?_
            refine r_i2b d_X12_feed_100 ?_
            refine x_bast d_X12_feed_101 h.1 h.2.1 ?_
            have h := h.2.2
            refine r_nmM (fun τ1 eτ1 => ?_)
            have h := h τ1 eτ1
            refine r_aload_n (x := t) d_X12_feed_102 rfl o_t.1 ?_
            refine r_dup d_X12_feed_103 rfl ?_
            refine r_getf (j := 19) (t := 0) (x := (τ1 t 19)) d_X12_feed_104 kX12 (by decide) fl_X12_252 o_t.1 o_t.2.1 o_t.2.2.1 o_t.2.2.2 rfl rfl ?_
            refine r_iconst (x := 1) d_X12_feed_107 ⟨by decide, by decide⟩ ?_
            refine r_iadd d_X12_feed_108 ?_
            refine r_putI (j := 19) d_X12_feed_109 kX12 (by decide) fl_X12_252 rfl o_t.1 o_t.2.1 o_t.2.2.1 o_t.2.2.2 rfl ?_
            refine r_nmM (fun τ2 eτ2 => ?_)
            have h := h τ2 eτ2
            refine x_iinc (x := x6) (L := [(2, t), (0, x1), (0, x2), (0, x3), (0, x4), (0, x5), (0, x6), (0, x5)]) d_X12_feed_112 rfl (by decide) rfl (fun y3 ey3 => ?_)
            have h := h y3 ey3
            show WP _ _ _ _ _ _ _ _ [(2, t), (0, x1), (0, x2), (0, x3), (0, x4), (0, x5), (0, y3), (0, x5)] _ _ _ _
            refine r_goto (tgt := 24) d_X12_feed_115 rfl ?_
            exact x_mask h ⟨Or.inr rfl, Or.inr rfl, Or.inr rfl, Or.inr rfl, Or.inr rfl, Or.inr rfl, Or.inr rfl, Or.inl rfl, trivial⟩
          · have h := h.2 hc
            refine r_iload (x := x4) d_X12_feed_70 rfl ?_
            refine r_goto (tgt := 77) d_X12_feed_72 rfl ?_
            refine r_istore (L2 := [(2, t), (0, x1), (0, x2), (0, x3), (0, x4), (0, x5), (0, x6), (0, x4)]) d_X12_feed_77 (by decide) rfl rfl ?_
            refine r_aload_n (x := t) d_X12_feed_79 rfl o_t.1 ?_
            refine r_getf (j := 18) (t := 2) (x := t_tape) d_X12_feed_80 kX12 (by decide) fl_X12_57 o_t.1 o_t.2.1 o_t.2.2.1 o_t.2.2.2 rfl f_t_tape ?_
            refine r_aload_n (x := t) d_X12_feed_83 rfl o_t.1 ?_
            refine r_getf (j := 19) (t := 0) (x := (σ t 19)) d_X12_feed_84 kX12 (by decide) fl_X12_252 o_t.1 o_t.2.1 o_t.2.2.1 o_t.2.2.2 rfl rfl ?_
            refine r_iload (x := x4) d_X12_feed_87 rfl ?_
            refine r_bipush (x := 24) d_X12_feed_89 ⟨by decide, by decide⟩ (by decide) ?_
            refine r_bipush (x := 8) d_X12_feed_91 ⟨by decide, by decide⟩ (by decide) ?_
            refine r_iload (x := x6) d_X12_feed_93 rfl ?_
            refine r_iconst (x := 4) d_X12_feed_95 ⟨by decide, by decide⟩ ?_
            refine r_irem d_X12_feed_96 (by decide) ?_
            refine r_imul d_X12_feed_97 ?_
            refine r_isub d_X12_feed_98 ?_
            refine r_ishr d_X12_feed_99 ?_
            refine r_i2b d_X12_feed_100 ?_
            refine x_bast d_X12_feed_101 h.1 h.2.1 ?_
            have h := h.2.2
            refine r_nmM (fun τ4 eτ4 => ?_)
            have h := h τ4 eτ4
            refine r_aload_n (x := t) d_X12_feed_102 rfl o_t.1 ?_
            refine r_dup d_X12_feed_103 rfl ?_
            refine r_getf (j := 19) (t := 0) (x := (τ4 t 19)) d_X12_feed_104 kX12 (by decide) fl_X12_252 o_t.1 o_t.2.1 o_t.2.2.1 o_t.2.2.2 rfl rfl ?_
            refine r_iconst (x := 1) d_X12_feed_107 ⟨by decide, by decide⟩ ?_
            refine r_iadd d_X12_feed_108 ?_
            refine r_putI (j := 19) d_X12_feed_109 kX12 (by decide) fl_X12_252 rfl o_t.1 o_t.2.1 o_t.2.2.1 o_t.2.2.2 rfl ?_
            refine r_nmM (fun τ5 eτ5 => ?_)
            have h := h τ5 eτ5
            refine x_iinc (x := x6) (L := [(2, t), (0, x1), (0, x2), (0, x3), (0, x4), (0, x5), (0, x6), (0, x4)]) d_X12_feed_112 rfl (by decide) rfl (fun y6 ey6 => ?_)
            have h := h y6 ey6
            show WP _ _ _ _ _ _ _ _ [(2, t), (0, x1), (0, x2), (0, x3), (0, x4), (0, x5), (0, y6), (0, x4)] _ _ _ _
            refine r_goto (tgt := 24) d_X12_feed_115 rfl ?_
            exact x_mask h ⟨Or.inr rfl, Or.inr rfl, Or.inr rfl, Or.inr rfl, Or.inr rfl, Or.inr rfl, Or.inr rfl, Or.inl rfl, trivial⟩
        · have h := h.2 hc
          refine r_iload_n (x := x3) d_X12_feed_59 rfl ?_
          refine r_goto (tgt := 77) d_X12_feed_60 rfl ?_
          refine r_istore (L2 := [(2, t), (0, x1), (0, x2), (0, x3), (0, x4), (0, x5), (0, x6), (0, x3)]) d_X12_feed_77 (by decide) rfl rfl ?_
          refine r_aload_n (x := t) d_X12_feed_79 rfl o_t.1 ?_
          refine r_getf (j := 18) (t := 2) (x := t_tape) d_X12_feed_80 kX12 (by decide) fl_X12_57 o_t.1 o_t.2.1 o_t.2.2.1 o_t.2.2.2 rfl f_t_tape ?_
          refine r_aload_n (x := t) d_X12_feed_83 rfl o_t.1 ?_
          refine r_getf (j := 19) (t := 0) (x := (σ t 19)) d_X12_feed_84 kX12 (by decide) fl_X12_252 o_t.1 o_t.2.1 o_t.2.2.1 o_t.2.2.2 rfl rfl ?_
          refine r_iload (x := x3) d_X12_feed_87 rfl ?_
          refine r_bipush (x := 24) d_X12_feed_89 ⟨by decide, by decide⟩ (by decide) ?_
          refine r_bipush (x := 8) d_X12_feed_91 ⟨by decide, by decide⟩ (by decide) ?_
          refine r_iload (x := x6) d_X12_feed_93 rfl ?_
          refine r_iconst (x := 4) d_X12_feed_95 ⟨by decide, by decide⟩ ?_
          refine r_irem d_X12_feed_96 (by decide) ?_
          refine r_imul d_X12_feed_97 ?_
          refine r_isub d_X12_feed_98 ?_
          refine r_ishr d_X12_feed_99 ?_
          refine r_i2b d_X12_feed_100 ?_
          refine x_bast d_X12_feed_101 h.1 h.2.1 ?_
          have h := h.2.2
          refine r_nmM (fun τ7 eτ7 => ?_)
          have h := h τ7 eτ7
          refine r_aload_n (x := t) d_X12_feed_102 rfl o_t.1 ?_
          refine r_dup d_X12_feed_103 rfl ?_
          refine r_getf (j := 19) (t := 0) (x := (τ7 t 19)) d_X12_feed_104 kX12 (by decide) fl_X12_252 o_t.1 o_t.2.1 o_t.2.2.1 o_t.2.2.2 rfl rfl ?_
          refine r_iconst (x := 1) d_X12_feed_107 ⟨by decide, by decide⟩ ?_
          refine r_iadd d_X12_feed_108 ?_
          refine r_putI (j := 19) d_X12_feed_109 kX12 (by decide) fl_X12_252 rfl o_t.1 o_t.2.1 o_t.2.2.1 o_t.2.2.2 rfl ?_
          refine r_nmM (fun τ8 eτ8 => ?_)
          have h := h τ8 eτ8
          refine x_iinc (x := x6) (L := [(2, t), (0, x1), (0, x2), (0, x3), (0, x4), (0, x5), (0, x6), (0, x3)]) d_X12_feed_112 rfl (by decide) rfl (fun y9 ey9 => ?_)
          have h := h y9 ey9
          show WP _ _ _ _ _ _ _ _ [(2, t), (0, x1), (0, x2), (0, x3), (0, x4), (0, x5), (0, y9), (0, x3)] _ _ _ _
          refine r_goto (tgt := 24) d_X12_feed_115 rfl ?_
          exact x_mask h ⟨Or.inr rfl, Or.inr rfl, Or.inr rfl, Or.inr rfl, Or.inr rfl, Or.inr rfl, Or.inr rfl, Or.inl rfl, trivial⟩
      · have h := h.2 hc
        refine r_iload_n (x := x2) d_X12_feed_48 rfl ?_
        refine r_goto (tgt := 77) d_X12_feed_49 rfl ?_
        refine r_istore (L2 := [(2, t), (0, x1), (0, x2), (0, x3), (0, x4), (0, x5), (0, x6), (0, x2)]) d_X12_feed_77 (by decide) rfl rfl ?_
        refine r_aload_n (x := t) d_X12_feed_79 rfl o_t.1 ?_
        refine r_getf (j := 18) (t := 2) (x := t_tape) d_X12_feed_80 kX12 (by decide) fl_X12_57 o_t.1 o_t.2.1 o_t.2.2.1 o_t.2.2.2 rfl f_t_tape ?_
        refine r_aload_n (x := t) d_X12_feed_83 rfl o_t.1 ?_
        refine r_getf (j := 19) (t := 0) (x := (σ t 19)) d_X12_feed_84 kX12 (by decide) fl_X12_252 o_t.1 o_t.2.1 o_t.2.2.1 o_t.2.2.2 rfl rfl ?_
        refine r_iload (x := x2) d_X12_feed_87 rfl ?_
        refine r_bipush (x := 24) d_X12_feed_89 ⟨by decide, by decide⟩ (by decide) ?_
        refine r_bipush (x := 8) d_X12_feed_91 ⟨by decide, by decide⟩ (by decide) ?_
        refine r_iload (x := x6) d_X12_feed_93 rfl ?_
        refine r_iconst (x := 4) d_X12_feed_95 ⟨by decide, by decide⟩ ?_
        refine r_irem d_X12_feed_96 (by decide) ?_
        refine r_imul d_X12_feed_97 ?_
        refine r_isub d_X12_feed_98 ?_
        refine r_ishr d_X12_feed_99 ?_
        refine r_i2b d_X12_feed_100 ?_
        refine x_bast d_X12_feed_101 h.1 h.2.1 ?_
        have h := h.2.2
        refine r_nmM (fun τ10 eτ10 => ?_)
        have h := h τ10 eτ10
        refine r_aload_n (x := t) d_X12_feed_102 rfl o_t.1 ?_
        refine r_dup d_X12_feed_103 rfl ?_
        refine r_getf (j := 19) (t := 0) (x := (τ10 t 19)) d_X12_feed_104 kX12 (by decide) fl_X12_252 o_t.1 o_t.2.1 o_t.2.2.1 o_t.2.2.2 rfl rfl ?_
        refine r_iconst (x := 1) d_X12_feed_107 ⟨by decide, by decide⟩ ?_
        refine r_iadd d_X12_feed_108 ?_
        refine r_putI (j := 19) d_X12_feed_109 kX12 (by decide) fl_X12_252 rfl o_t.1 o_t.2.1 o_t.2.2.1 o_t.2.2.2 rfl ?_
        refine r_nmM (fun τ11 eτ11 => ?_)
        have h := h τ11 eτ11
        refine x_iinc (x := x6) (L := [(2, t), (0, x1), (0, x2), (0, x3), (0, x4), (0, x5), (0, x6), (0, x2)]) d_X12_feed_112 rfl (by decide) rfl (fun y12 ey12 => ?_)
        have h := h y12 ey12
        show WP _ _ _ _ _ _ _ _ [(2, t), (0, x1), (0, x2), (0, x3), (0, x4), (0, x5), (0, y12), (0, x2)] _ _ _ _
        refine r_goto (tgt := 24) d_X12_feed_115 rfl ?_
        exact x_mask h ⟨Or.inr rfl, Or.inr rfl, Or.inr rfl, Or.inr rfl, Or.inr rfl, Or.inr rfl, Or.inr rfl, Or.inl rfl, trivial⟩
    · have h := h.2 hc
      refine r_iload_n (x := x1) d_X12_feed_37 rfl ?_
      refine r_goto (tgt := 77) d_X12_feed_38 rfl ?_
      refine r_istore (L2 := [(2, t), (0, x1), (0, x2), (0, x3), (0, x4), (0, x5), (0, x6), (0, x1)]) d_X12_feed_77 (by decide) rfl rfl ?_
      refine r_aload_n (x := t) d_X12_feed_79 rfl o_t.1 ?_
      refine r_getf (j := 18) (t := 2) (x := t_tape) d_X12_feed_80 kX12 (by decide) fl_X12_57 o_t.1 o_t.2.1 o_t.2.2.1 o_t.2.2.2 rfl f_t_tape ?_
      refine r_aload_n (x := t) d_X12_feed_83 rfl o_t.1 ?_
      refine r_getf (j := 19) (t := 0) (x := (σ t 19)) d_X12_feed_84 kX12 (by decide) fl_X12_252 o_t.1 o_t.2.1 o_t.2.2.1 o_t.2.2.2 rfl rfl ?_
      refine r_iload (x := x1) d_X12_feed_87 rfl ?_
      refine r_bipush (x := 24) d_X12_feed_89 ⟨by decide, by decide⟩ (by decide) ?_
      refine r_bipush (x := 8) d_X12_feed_91 ⟨by decide, by decide⟩ (by decide) ?_
      refine r_iload (x := x6) d_X12_feed_93 rfl ?_
      refine r_iconst (x := 4) d_X12_feed_95 ⟨by decide, by decide⟩ ?_
      refine r_irem d_X12_feed_96 (by decide) ?_
      refine r_imul d_X12_feed_97 ?_
      refine r_isub d_X12_feed_98 ?_
      refine r_ishr d_X12_feed_99 ?_
      refine r_i2b d_X12_feed_100 ?_
      refine x_bast d_X12_feed_101 h.1 h.2.1 ?_
      have h := h.2.2
      refine r_nmM (fun τ13 eτ13 => ?_)
      have h := h τ13 eτ13
      refine r_aload_n (x := t) d_X12_feed_102 rfl o_t.1 ?_
      refine r_dup d_X12_feed_103 rfl ?_
      refine r_getf (j := 19) (t := 0) (x := (τ13 t 19)) d_X12_feed_104 kX12 (by decide) fl_X12_252 o_t.1 o_t.2.1 o_t.2.2.1 o_t.2.2.2 rfl rfl ?_
      refine r_iconst (x := 1) d_X12_feed_107 ⟨by decide, by decide⟩ ?_
      refine r_iadd d_X12_feed_108 ?_
      refine r_putI (j := 19) d_X12_feed_109 kX12 (by decide) fl_X12_252 rfl o_t.1 o_t.2.1 o_t.2.2.1 o_t.2.2.2 rfl ?_
      refine r_nmM (fun τ14 eτ14 => ?_)
      have h := h τ14 eτ14
      refine x_iinc (x := x6) (L := [(2, t), (0, x1), (0, x2), (0, x3), (0, x4), (0, x5), (0, x6), (0, x1)]) d_X12_feed_112 rfl (by decide) rfl (fun y15 ey15 => ?_)
      have h := h y15 ey15
      show WP _ _ _ _ _ _ _ _ [(2, t), (0, x1), (0, x2), (0, x3), (0, x4), (0, x5), (0, y15), (0, x1)] _ _ _ _
      refine r_goto (tgt := 24) d_X12_feed_115 rfl ?_
      exact x_mask h ⟨Or.inr rfl, Or.inr rfl, Or.inr rfl, Or.inr rfl, Or.inr rfl, Or.inr rfl, Or.inr rfl, Or.inl rfl, trivial⟩
theorem v_X12_see_0 {l : Launch} {d N : Nat} {Λ : Lay} {P : Int → Mem → Prop} {σ : Mem} {t t_tape : Int} (o_t : Ob N Λ t 21 36) (f_t_tape : (Λ t).2.2 18 = t_tape)
    (h : (((σ t 20) ≤ (σ t 21) → P (-1) σ) ∧ (¬ ((σ t 20) ≤ (σ t 21)) → (Ix N Λ t_tape 6 (σ t 21) ∧ P (andI (σ t_tape (σ t 21)) 255) σ)))) :
    WI l mX12_see d P 0 [(2, t)] [] N Λ σ := by
  refine r_aload_n (x := t) d_X12_see_0 rfl o_t.1 ?_
  refine r_getf (j := 21) (t := 0) (x := (σ t 21)) d_X12_see_1 kX12 (by decide) fl_X12_255 o_t.1 o_t.2.1 o_t.2.2.1 o_t.2.2.2 rfl rfl ?_
  refine r_aload_n (x := t) d_X12_see_4 rfl o_t.1 ?_
  refine r_getf (j := 20) (t := 0) (x := (σ t 20)) d_X12_see_5 kX12 (by decide) fl_X12_258 o_t.1 o_t.2.1 o_t.2.2.1 o_t.2.2.2 rfl rfl ?_
  refine r_ic_ge (tgt := 27) d_X12_see_8 rfl (fun hc => ?_) (fun hc => ?_)
  · have h := h.1 hc
    refine r_iconst (x := (-1)) d_X12_see_27 ⟨by decide, by decide⟩ ?_
    exact r_iret d_X12_see_28 rfl rfl (Nat.le_refl 0) (Nat.le_refl 0) ⟨_, rfl, rfl, rfl, h⟩
  · have h := h.2 hc
    refine r_aload_n (x := t) d_X12_see_11 rfl o_t.1 ?_
    refine r_getf (j := 18) (t := 2) (x := t_tape) d_X12_see_12 kX12 (by decide) fl_X12_57 o_t.1 o_t.2.1 o_t.2.2.1 o_t.2.2.2 rfl f_t_tape ?_
    refine r_aload_n (x := t) d_X12_see_15 rfl o_t.1 ?_
    refine r_getf (j := 21) (t := 0) (x := (σ t 21)) d_X12_see_16 kX12 (by decide) fl_X12_255 o_t.1 o_t.2.1 o_t.2.2.1 o_t.2.2.2 rfl rfl ?_
    refine x_bald d_X12_see_19 h.1 ?_
    have h := h.2
    refine r_sipush (x := 255) d_X12_see_20 ⟨by decide, by decide⟩ (by decide) ?_
    refine r_iand d_X12_see_23 ?_
    refine r_goto (tgt := 28) d_X12_see_24 rfl ?_
    exact r_iret d_X12_see_28 rfl rfl (Nat.le_refl 0) (Nat.le_refl 0) ⟨_, rfl, rfl, rfl, h⟩
theorem v_X12_wrongs_0 {l : Launch} {d N : Nat} {Λ : Lay} {P : Mem → Prop} {σ : Mem} {x1 x2 t : Int} (o_t : Ob N Λ t 21 36)
    (h : (((σ t 22) = 0 → (∀ τ1, τ1 = st σ t 22 x1 → (∀ τ2, τ2 = st τ1 t 23 x2 → P τ2))) ∧ (¬ ((σ t 22) = 0) → P σ))) :
    WV l mX12_wrongs d P 0 [(2, t), (0, x1), (0, x2)] [] N Λ σ := by
  refine r_aload_n (x := t) d_X12_wrongs_0 rfl o_t.1 ?_
  refine r_getf (j := 22) (t := 0) (x := (σ t 22)) d_X12_wrongs_1 kX12 (by decide) fl_X12_261 o_t.1 o_t.2.1 o_t.2.2.1 o_t.2.2.2 rfl rfl ?_
  refine r_if_eq (tgt := 8) d_X12_wrongs_4 rfl (fun hc => ?_) (fun hc => ?_)
  · have h := h.1 hc
    refine r_aload_n (x := t) d_X12_wrongs_8 rfl o_t.1 ?_
    refine r_iload_n (x := x1) d_X12_wrongs_9 rfl ?_
    refine r_putI (j := 22) d_X12_wrongs_10 kX12 (by decide) fl_X12_261 rfl o_t.1 o_t.2.1 o_t.2.2.1 o_t.2.2.2 rfl ?_
    refine r_nmM (fun τ1 eτ1 => ?_)
    have h := h τ1 eτ1
    refine r_aload_n (x := t) d_X12_wrongs_13 rfl o_t.1 ?_
    refine r_iload_n (x := x2) d_X12_wrongs_14 rfl ?_
    refine r_putI (j := 23) d_X12_wrongs_15 kX12 (by decide) fl_X12_61 rfl o_t.1 o_t.2.1 o_t.2.2.1 o_t.2.2.2 rfl ?_
    refine r_nmM (fun τ2 eτ2 => ?_)
    have h := h τ2 eτ2
    exact r_vret d_X12_wrongs_18 rfl (Nat.le_refl 0) (Nat.le_refl 0) ⟨rfl, rfl, rfl, h⟩
  · have h := h.2 hc
    exact r_vret d_X12_wrongs_7 rfl (Nat.le_refl 0) (Nat.le_refl 0) ⟨rfl, rfl, rfl, h⟩
theorem v_X12_isDigit_0 {l : Launch} {d N : Nat} {Λ : Lay} {P : Int → Mem → Prop} {σ : Mem} {t t_tape : Int} (o_t : Ob N Λ t 21 36) (f_t_tape : (Λ t).2.2 18 = t_tape) (h0d : 1 ≤ d)
    (h : (((σ t 20) ≤ (σ t 21) → (((cmpL (-1) 48) < 0 → P 0 σ) ∧ (¬ ((cmpL (-1) 48) < 0) → ((0 < (cmpL (-1) 57) → P 0 σ) ∧ (¬ (0 < (cmpL (-1) 57)) → P 1 σ))))) ∧ (¬ ((σ t 20) ≤ (σ t 21)) → (Ix N Λ t_tape 6 (σ t 21) ∧ (((cmpL (andI (σ t_tape (σ t 21)) 255) 48) < 0 → P 0 σ) ∧ (¬ ((cmpL (andI (σ t_tape (σ t 21)) 255) 48) < 0) → ((0 < (cmpL (andI (σ t_tape (σ t 21)) 255) 57) → P 0 σ) ∧ (¬ (0 < (cmpL (andI (σ t_tape (σ t 21)) 255) 57)) → P 1 σ)))))))) :
    WI l mX12_isDigit d P 0 [(2, t)] [] N Λ σ := by
  have hd_1 : 1 ≤ d := Nat.le_trans (by decide) h0d
  refine r_aload_n (x := t) d_X12_isDigit_0 rfl o_t.1 ?_
  refine x_callVI (Y2 := mX12_see) (c := t) (As := []) (S := []) d_X12_isDigit_1 ok_mX12_see ml_X12_264 rfl (Nat.le_of_ble_eq_true rfl) (Nat.le_of_ble_eq_true rfl) rfl hd_1 kX12 o_t (c_X12_see (v_X12_see_0 o_t f_t_tape ?_))
  refine ⟨fun hc => ?_, fun hc => ?_⟩
  · have h := h.1 hc
    show WP l mX12_isDigit (rm d 0 0) noX _ 0 0 4 [(2, t)] [(0, (-1))] N Λ σ
    refine r_i2l d_X12_isDigit_4 ?_
    refine r_ldc2 (x := 48) d_X12_isDigit_5 ck_X12_268 (by decide) ?_
    refine r_ldc2 (x := 57) d_X12_isDigit_8 ck_X12_270 (by decide) ?_
    refine x_callSI (Y2 := mX12_within) (As := [(1, (-1)), (1, 48), (1, 57)]) (S := []) d_X12_isDigit_11 ok_mX12_within ml_X12_91 rfl (Nat.le_of_ble_eq_true rfl) (Nat.le_of_ble_eq_true rfl) rfl hd_1 (c_X12_within (v_X12_within_0 ?_))
    refine ⟨fun hc => ?_, fun hc => ?_⟩
    · have h := h.1 hc
      show WP l mX12_isDigit (rm d 0 0) noX _ 0 0 14 [(2, t)] [(0, 0)] N Λ σ
      exact r_iret d_X12_isDigit_14 rfl (by decide) (Nat.le_refl 0) (Nat.le_refl 0) ⟨_, rfl, rfl, rfl, h⟩
    · have h := h.2 hc
      refine ⟨fun hc => ?_, fun hc => ?_⟩
      · have h := h.1 hc
        show WP l mX12_isDigit (rm d 0 0) noX _ 0 0 14 [(2, t)] [(0, 0)] N Λ σ
        exact r_iret d_X12_isDigit_14 rfl (by decide) (Nat.le_refl 0) (Nat.le_refl 0) ⟨_, rfl, rfl, rfl, h⟩
      · have h := h.2 hc
        show WP l mX12_isDigit (rm d 0 0) noX _ 0 0 14 [(2, t)] [(0, 1)] N Λ σ
        exact r_iret d_X12_isDigit_14 rfl (by decide) (Nat.le_refl 0) (Nat.le_refl 0) ⟨_, rfl, rfl, rfl, h⟩
  · have h := h.2 hc
    refine ⟨h.1, ?_⟩
    have h := h.2
    show WP l mX12_isDigit (rm d 0 0) noX _ 0 0 4 [(2, t)] [(0, (andI (σ t_tape (σ t 21)) 255))] N Λ σ
    refine r_i2l d_X12_isDigit_4 ?_
    refine r_ldc2 (x := 48) d_X12_isDigit_5 ck_X12_268 (by decide) ?_
    refine r_ldc2 (x := 57) d_X12_isDigit_8 ck_X12_270 (by decide) ?_
    refine x_callSI (Y2 := mX12_within) (As := [(1, (andI (σ t_tape (σ t 21)) 255)), (1, 48), (1, 57)]) (S := []) d_X12_isDigit_11 ok_mX12_within ml_X12_91 rfl (Nat.le_of_ble_eq_true rfl) (Nat.le_of_ble_eq_true rfl) rfl hd_1 (c_X12_within (v_X12_within_0 ?_))
    refine ⟨fun hc => ?_, fun hc => ?_⟩
    · have h := h.1 hc
      show WP l mX12_isDigit (rm d 0 0) noX _ 0 0 14 [(2, t)] [(0, 0)] N Λ σ
      exact r_iret d_X12_isDigit_14 rfl (by decide) (Nat.le_refl 0) (Nat.le_refl 0) ⟨_, rfl, rfl, rfl, h⟩
    · have h := h.2 hc
      refine ⟨fun hc => ?_, fun hc => ?_⟩
      · have h := h.1 hc
        show WP l mX12_isDigit (rm d 0 0) noX _ 0 0 14 [(2, t)] [(0, 0)] N Λ σ
        exact r_iret d_X12_isDigit_14 rfl (by decide) (Nat.le_refl 0) (Nat.le_refl 0) ⟨_, rfl, rfl, rfl, h⟩
      · have h := h.2 hc
        show WP l mX12_isDigit (rm d 0 0) noX _ 0 0 14 [(2, t)] [(0, 1)] N Λ σ
        exact r_iret d_X12_isDigit_14 rfl (by decide) (Nat.le_refl 0) (Nat.le_refl 0) ⟨_, rfl, rfl, rfl, h⟩
theorem v_X12_seesLetter_0 {l : Launch} {d N : Nat} {Λ : Lay} {P : Int → Mem → Prop} {σ : Mem} {t t_tape : Int} (o_t : Ob N Λ t 21 36) (f_t_tape : (Λ t).2.2 18 = t_tape) (h0d : 1 ≤ d)
    (h : (((σ t 20) ≤ (σ t 21) → (((cmpL (-1) 97) < 0 → P 0 σ) ∧ (¬ ((cmpL (-1) 97) < 0) → ((0 < (cmpL (-1) 106) → P 0 σ) ∧ (¬ (0 < (cmpL (-1) 106)) → P 1 σ))))) ∧ (¬ ((σ t 20) ≤ (σ t 21)) → (Ix N Λ t_tape 6 (σ t 21) ∧ (((cmpL (andI (σ t_tape (σ t 21)) 255) 97) < 0 → P 0 σ) ∧ (¬ ((cmpL (andI (σ t_tape (σ t 21)) 255) 97) < 0) → ((0 < (cmpL (andI (σ t_tape (σ t 21)) 255) 106) → P 0 σ) ∧ (¬ (0 < (cmpL (andI (σ t_tape (σ t 21)) 255) 106)) → P 1 σ)))))))) :
    WI l mX12_seesLetter d P 0 [(2, t)] [] N Λ σ := by
  have hd_1 : 1 ≤ d := Nat.le_trans (by decide) h0d
  refine r_aload_n (x := t) d_X12_seesLetter_0 rfl o_t.1 ?_
  refine x_callVI (Y2 := mX12_see) (c := t) (As := []) (S := []) d_X12_seesLetter_1 ok_mX12_see ml_X12_264 rfl (Nat.le_of_ble_eq_true rfl) (Nat.le_of_ble_eq_true rfl) rfl hd_1 kX12 o_t (c_X12_see (v_X12_see_0 o_t f_t_tape ?_))
  refine ⟨fun hc => ?_, fun hc => ?_⟩
  · have h := h.1 hc
    show WP l mX12_seesLetter (rm d 0 0) noX _ 0 0 4 [(2, t)] [(0, (-1))] N Λ σ
    refine r_i2l d_X12_seesLetter_4 ?_
    refine r_ldc2 (x := 97) d_X12_seesLetter_5 ck_X12_272 (by decide) ?_
    refine r_ldc2 (x := 106) d_X12_seesLetter_8 ck_X12_274 (by decide) ?_
    refine x_callSI (Y2 := mX12_within) (As := [(1, (-1)), (1, 97), (1, 106)]) (S := []) d_X12_seesLetter_11 ok_mX12_within ml_X12_91 rfl (Nat.le_of_ble_eq_true rfl) (Nat.le_of_ble_eq_true rfl) rfl hd_1 (c_X12_within (v_X12_within_0 ?_))
    refine ⟨fun hc => ?_, fun hc => ?_⟩
    · have h := h.1 hc
      show WP l mX12_seesLetter (rm d 0 0) noX _ 0 0 14 [(2, t)] [(0, 0)] N Λ σ
      exact r_iret d_X12_seesLetter_14 rfl (by decide) (Nat.le_refl 0) (Nat.le_refl 0) ⟨_, rfl, rfl, rfl, h⟩
    · have h := h.2 hc
      refine ⟨fun hc => ?_, fun hc => ?_⟩
      · have h := h.1 hc
        show WP l mX12_seesLetter (rm d 0 0) noX _ 0 0 14 [(2, t)] [(0, 0)] N Λ σ
        exact r_iret d_X12_seesLetter_14 rfl (by decide) (Nat.le_refl 0) (Nat.le_refl 0) ⟨_, rfl, rfl, rfl, h⟩
      · have h := h.2 hc
        show WP l mX12_seesLetter (rm d 0 0) noX _ 0 0 14 [(2, t)] [(0, 1)] N Λ σ
        exact r_iret d_X12_seesLetter_14 rfl (by decide) (Nat.le_refl 0) (Nat.le_refl 0) ⟨_, rfl, rfl, rfl, h⟩
  · have h := h.2 hc
    refine ⟨h.1, ?_⟩
    have h := h.2
    show WP l mX12_seesLetter (rm d 0 0) noX _ 0 0 4 [(2, t)] [(0, (andI (σ t_tape (σ t 21)) 255))] N Λ σ
    refine r_i2l d_X12_seesLetter_4 ?_
    refine r_ldc2 (x := 97) d_X12_seesLetter_5 ck_X12_272 (by decide) ?_
    refine r_ldc2 (x := 106) d_X12_seesLetter_8 ck_X12_274 (by decide) ?_
    refine x_callSI (Y2 := mX12_within) (As := [(1, (andI (σ t_tape (σ t 21)) 255)), (1, 97), (1, 106)]) (S := []) d_X12_seesLetter_11 ok_mX12_within ml_X12_91 rfl (Nat.le_of_ble_eq_true rfl) (Nat.le_of_ble_eq_true rfl) rfl hd_1 (c_X12_within (v_X12_within_0 ?_))
    refine ⟨fun hc => ?_, fun hc => ?_⟩
    · have h := h.1 hc
      show WP l mX12_seesLetter (rm d 0 0) noX _ 0 0 14 [(2, t)] [(0, 0)] N Λ σ
      exact r_iret d_X12_seesLetter_14 rfl (by decide) (Nat.le_refl 0) (Nat.le_refl 0) ⟨_, rfl, rfl, rfl, h⟩
    · have h := h.2 hc
      refine ⟨fun hc => ?_, fun hc => ?_⟩
      · have h := h.1 hc
        show WP l mX12_seesLetter (rm d 0 0) noX _ 0 0 14 [(2, t)] [(0, 0)] N Λ σ
        exact r_iret d_X12_seesLetter_14 rfl (by decide) (Nat.le_refl 0) (Nat.le_refl 0) ⟨_, rfl, rfl, rfl, h⟩
      · have h := h.2 hc
        show WP l mX12_seesLetter (rm d 0 0) noX _ 0 0 14 [(2, t)] [(0, 1)] N Λ σ
        exact r_iret d_X12_seesLetter_14 rfl (by decide) (Nat.le_refl 0) (Nat.le_refl 0) ⟨_, rfl, rfl, rfl, h⟩
theorem v_X12_must_0 {l : Launch} {d N : Nat} {Λ : Lay} {P : Mem → Prop} {σ : Mem} {x1 t : Int} (o_t : Ob N Λ t 21 36) (h0d : 1 ≤ d)
    (h : (((σ t 22) = 0 → ((x1 = 0 → (((σ t 22) = 0 → (∀ τ1, τ1 = st σ t 22 1 → (∀ τ2, τ2 = st τ1 t 23 (σ t 21) → P τ2))) ∧ (¬ ((σ t 22) = 0) → P σ))) ∧ (¬ (x1 = 0) → (∀ τ3, τ3 = st σ t 21 (addI (σ t 21) 1) → P τ3)))) ∧ (¬ ((σ t 22) = 0) → P σ))) :
    WV l mX12_must d P 0 [(2, t), (0, x1)] [] N Λ σ := by
  have hd_1 : 1 ≤ d := Nat.le_trans (by decide) h0d
  refine r_aload_n (x := t) d_X12_must_0 rfl o_t.1 ?_
  refine r_getf (j := 22) (t := 0) (x := (σ t 22)) d_X12_must_1 kX12 (by decide) fl_X12_261 o_t.1 o_t.2.1 o_t.2.2.1 o_t.2.2.2 rfl rfl ?_
  refine r_if_eq (tgt := 8) d_X12_must_4 rfl (fun hc => ?_) (fun hc => ?_)
  · have h := h.1 hc
    refine r_iload_n (x := x1) d_X12_must_8 rfl ?_
    refine r_if_eq (tgt := 25) d_X12_must_9 rfl (fun hc => ?_) (fun hc => ?_)
    · have h := h.1 hc
      refine r_aload_n (x := t) d_X12_must_25 rfl o_t.1 ?_
      refine r_iconst (x := 1) d_X12_must_26 ⟨by decide, by decide⟩ ?_
      refine r_aload_n (x := t) d_X12_must_27 rfl o_t.1 ?_
      refine r_getf (j := 21) (t := 0) (x := (σ t 21)) d_X12_must_28 kX12 (by decide) fl_X12_255 o_t.1 o_t.2.1 o_t.2.2.1 o_t.2.2.2 rfl rfl ?_
      refine x_callVV (Y2 := mX12_wrongs) (c := t) (As := [(0, 1), (0, (σ t 21))]) (S := []) d_X12_must_31 ok_mX12_wrongs ml_X12_276 rfl (Nat.le_of_ble_eq_true rfl) (Nat.le_of_ble_eq_true rfl) rfl hd_1 kX12 o_t (c_X12_wrongs (v_X12_wrongs_0 o_t ?_))
      refine ⟨fun hc => ?_, fun hc => ?_⟩
      · have h := h.1 hc
        intro τ1 eτ1
        have h := h τ1 eτ1
        intro τ2 eτ2
        have h := h τ2 eτ2
        show WP l mX12_must (rm d 0 0) noX _ 0 0 34 [(2, t), (0, x1)] [] N Λ τ2
        exact r_vret d_X12_must_34 rfl (Nat.le_refl 0) (Nat.le_refl 0) ⟨rfl, rfl, rfl, h⟩
      · have h := h.2 hc
        show WP l mX12_must (rm d 0 0) noX _ 0 0 34 [(2, t), (0, x1)] [] N Λ σ
        exact r_vret d_X12_must_34 rfl (Nat.le_refl 0) (Nat.le_refl 0) ⟨rfl, rfl, rfl, h⟩
    · have h := h.2 hc
      refine r_aload_n (x := t) d_X12_must_12 rfl o_t.1 ?_
      refine r_dup d_X12_must_13 rfl ?_
      refine r_getf (j := 21) (t := 0) (x := (σ t 21)) d_X12_must_14 kX12 (by decide) fl_X12_255 o_t.1 o_t.2.1 o_t.2.2.1 o_t.2.2.2 rfl rfl ?_
      refine r_iconst (x := 1) d_X12_must_17 ⟨by decide, by decide⟩ ?_
      refine r_iadd d_X12_must_18 ?_
      refine r_putI (j := 21) d_X12_must_19 kX12 (by decide) fl_X12_255 rfl o_t.1 o_t.2.1 o_t.2.2.1 o_t.2.2.2 rfl ?_
      refine r_nmM (fun τ3 eτ3 => ?_)
      have h := h τ3 eτ3
      refine r_goto (tgt := 34) d_X12_must_22 rfl ?_
      exact r_vret d_X12_must_34 rfl (Nat.le_refl 0) (Nat.le_refl 0) ⟨rfl, rfl, rfl, h⟩
  · have h := h.2 hc
    exact r_vret d_X12_must_7 rfl (Nat.le_refl 0) (Nat.le_refl 0) ⟨rfl, rfl, rfl, h⟩
theorem v_X12_letterAt_0 {l : Launch} {d N : Nat} {Λ : Lay} {P : Int → Mem → Prop} {σ : Mem} {x1 t t_tape : Int} (o_t : Ob N Λ t 21 36) (f_t_tape : (Λ t).2.2 18 = t_tape)
    (h : (Ix N Λ t_tape 6 x1 ∧ P (subI (σ t_tape x1) 97) σ)) :
    WI l mX12_letterAt d P 0 [(2, t), (0, x1)] [] N Λ σ := by
  refine r_aload_n (x := t) d_X12_letterAt_0 rfl o_t.1 ?_
  refine r_getf (j := 18) (t := 2) (x := t_tape) d_X12_letterAt_1 kX12 (by decide) fl_X12_57 o_t.1 o_t.2.1 o_t.2.2.1 o_t.2.2.2 rfl f_t_tape ?_
  refine r_iload_n (x := x1) d_X12_letterAt_4 rfl ?_
  refine x_bald d_X12_letterAt_5 h.1 ?_
  have h := h.2
  refine r_bipush (x := 97) d_X12_letterAt_6 ⟨by decide, by decide⟩ (by decide) ?_
  refine r_isub d_X12_letterAt_8 ?_
  exact r_iret d_X12_letterAt_9 rfl rfl (Nat.le_refl 0) (Nat.le_refl 0) ⟨_, rfl, rfl, rfl, h⟩
theorem v_X12_term_0 {l : Launch} {d N : Nat} {Λ : Lay} {P : Mem → Prop} {σ : Mem} {x1 x2 t : Int} (o_t : Ob N Λ t 21 36)
    (h : (∀ y1, y1 = (σ t 21) → WV l mX12_term d P 8 [(2, t), (0, x1), (0, x2), (0, y1), (0, 0), (3, 0), (3, 0), (3, 0), (3, 0), (3, 0)] [] N Λ σ)) :
    WV l mX12_term d P 0 [(2, t), (0, x1), (0, x2), (3, 0), (3, 0), (3, 0), (3, 0), (3, 0), (3, 0), (3, 0)] [] N Λ σ := by
  refine r_aload_n (x := t) d_X12_term_0 rfl o_t.1 ?_
  refine r_getf (j := 21) (t := 0) (x := (σ t 21)) d_X12_term_1 kX12 (by decide) fl_X12_255 o_t.1 o_t.2.1 o_t.2.2.1 o_t.2.2.2 rfl rfl ?_
  refine r_nm (fun y1 ey1 => ?_)
  have h := h y1 ey1
  refine r_istore_n (L2 := [(2, t), (0, x1), (0, x2), (0, y1), (3, 0), (3, 0), (3, 0), (3, 0), (3, 0), (3, 0)]) d_X12_term_4 (by decide) rfl rfl ?_
  refine r_iconst (x := 0) d_X12_term_5 ⟨by decide, by decide⟩ ?_
  refine r_istore (L2 := [(2, t), (0, x1), (0, x2), (0, y1), (0, 0), (3, 0), (3, 0), (3, 0), (3, 0), (3, 0)]) d_X12_term_6 (by decide) rfl rfl ?_
  exact h
theorem v_X12_term_8 {l : Launch} {d N : Nat} {Λ : Lay} {P : Mem → Prop} {σ : Mem} {x1 x2 x3 x4 t t_tape : Int} (o_t : Ob N Λ t 21 36) (f_t_tape : (Λ t).2.2 18 = t_tape) (h0d : 1 ≤ d)
    (h : (CI l mX12_isDigit (d - 1) [(2, t)] N Λ σ (fun v2 σ1 => ((v2 = 0 → (((σ1 t 21) ≤ (addI x3 4) → (((σ1 t 21) ≤ x3 → (((σ1 t 20) ≤ (σ1 t 21) → (((σ1 t 22) = 0 → (∀ τ3, τ3 = st σ1 t 22 1 → (∀ τ4, τ4 = st τ3 t 23 (σ1 t 21) → (∀ y5, y5 = (mulI x1 1) → WV l mX12_term d P 129 [(2, t), (0, x1), (0, x2), (0, x3), (0, x4), (0, 0), (1, y5), (3, 0), (0, 0), (3, 0)] [] N Λ τ4)))) ∧ (¬ ((σ1 t 22) = 0) → (∀ y6, y6 = (mulI x1 1) → WV l mX12_term d P 129 [(2, t), (0, x1), (0, x2), (0, x3), (0, x4), (0, 0), (1, y6), (3, 0), (0, 0), (3, 0)] [] N Λ σ1)))) ∧ (¬ ((σ1 t 20) ≤ (σ1 t 21)) → (Ix N Λ t_tape 6 (σ1 t 21) ∧ (((andI (σ1 t_tape (σ1 t 21)) 255) = 91 → (∀ y7, y7 = (mulI x1 1) → WV l mX12_term d P 129 [(2, t), (0, x1), (0, x2), (0, x3), (0, x4), (0, 0), (1, y7), (3, 0), (0, 0), (3, 0)] [] N Λ σ1)) ∧ (¬ ((andI (σ1 t_tape (σ1 t 21)) 255) = 91) → (((σ1 t 22) = 0 → (∀ τ8, τ8 = st σ1 t 22 1 → (∀ τ9, τ9 = st τ8 t 23 (σ1 t 21) → (∀ y10, y10 = (mulI x1 1) → WV l mX12_term d P 129 [(2, t), (0, x1), (0, x2), (0, x3), (0, x4), (0, 0), (1, y10), (3, 0), (0, 0), (3, 0)] [] N Λ τ9)))) ∧ (¬ ((σ1 t 22) = 0) → (∀ y11, y11 = (mulI x1 1) → WV l mX12_term d P 129 [(2, t), (0, x1), (0, x2), (0, x3), (0, x4), (0, 0), (1, y11), (3, 0), (0, 0), (3, 0)] [] N Λ σ1))))))))) ∧ (¬ ((σ1 t 21) ≤ x3) → (∀ y12, y12 = (mulI x1 x4) → WV l mX12_term d P 129 [(2, t), (0, x1), (0, x2), (0, x3), (0, x4), (0, 1), (1, y12), (3, 0), (0, 0), (3, 0)] [] N Λ σ1)))) ∧ (¬ ((σ1 t 21) ≤ (addI x3 4)) → (((σ1 t 22) = 0 → (∀ τ13, τ13 = st σ1 t 22 2 → (∀ τ14, τ14 = st τ13 t 23 x3 → (((τ14 t 21) ≤ x3 → (((τ14 t 20) ≤ (τ14 t 21) → (((τ14 t 22) = 0 → (∀ τ15, τ15 = st τ14 t 22 1 → (∀ τ16, τ16 = st τ15 t 23 (τ14 t 21) → (∀ y17, y17 = (mulI x1 1) → WV l mX12_term d P 129 [(2, t), (0, x1), (0, x2), (0, x3), (0, x4), (0, 0), (1, y17), (3, 0), (0, 0), (3, 0)] [] N Λ τ16)))) ∧ (¬ ((τ14 t 22) = 0) → (∀ y18, y18 = (mulI x1 1) → WV l mX12_term d P 129 [(2, t), (0, x1), (0, x2), (0, x3), (0, x4), (0, 0), (1, y18), (3, 0), (0, 0), (3, 0)] [] N Λ τ14)))) ∧ (¬ ((τ14 t 20) ≤ (τ14 t 21)) → (Ix N Λ t_tape 6 (τ14 t 21) ∧ (((andI (τ14 t_tape (τ14 t 21)) 255) = 91 → (∀ y19, y19 = (mulI x1 1) → WV l mX12_term d P 129 [(2, t), (0, x1), (0, x2), (0, x3), (0, x4), (0, 0), (1, y19), (3, 0), (0, 0), (3, 0)] [] N Λ τ14)) ∧ (¬ ((andI (τ14 t_tape (τ14 t 21)) 255) = 91) → (((τ14 t 22) = 0 → (∀ τ20, τ20 = st τ14 t 22 1 → (∀ τ21, τ21 = st τ20 t 23 (τ14 t 21) → (∀ y22, y22 = (mulI x1 1) → WV l mX12_term d P 129 [(2, t), (0, x1), (0, x2), (0, x3), (0, x4), (0, 0), (1, y22), (3, 0), (0, 0), (3, 0)] [] N Λ τ21)))) ∧ (¬ ((τ14 t 22) = 0) → (∀ y23, y23 = (mulI x1 1) → WV l mX12_term d P 129 [(2, t), (0, x1), (0, x2), (0, x3), (0, x4), (0, 0), (1, y23), (3, 0), (0, 0), (3, 0)] [] N Λ τ14))))))))) ∧ (¬ ((τ14 t 21) ≤ x3) → (∀ y24, y24 = (mulI x1 x4) → WV l mX12_term d P 129 [(2, t), (0, x1), (0, x2), (0, x3), (0, x4), (0, 1), (1, y24), (3, 0), (0, 0), (3, 0)] [] N Λ τ14)))))) ∧ (¬ ((σ1 t 22) = 0) → (((σ1 t 21) ≤ x3 → (((σ1 t 20) ≤ (σ1 t 21) → (((σ1 t 22) = 0 → (∀ τ25, τ25 = st σ1 t 22 1 → (∀ τ26, τ26 = st τ25 t 23 (σ1 t 21) → (∀ y27, y27 = (mulI x1 1) → WV l mX12_term d P 129 [(2, t), (0, x1), (0, x2), (0, x3), (0, x4), (0, 0), (1, y27), (3, 0), (0, 0), (3, 0)] [] N Λ τ26)))) ∧ (¬ ((σ1 t 22) = 0) → (∀ y28, y28 = (mulI x1 1) → WV l mX12_term d P 129 [(2, t), (0, x1), (0, x2), (0, x3), (0, x4), (0, 0), (1, y28), (3, 0), (0, 0), (3, 0)] [] N Λ σ1)))) ∧ (¬ ((σ1 t 20) ≤ (σ1 t 21)) → (Ix N Λ t_tape 6 (σ1 t 21) ∧ (((andI (σ1 t_tape (σ1 t 21)) 255) = 91 → (∀ y29, y29 = (mulI x1 1) → WV l mX12_term d P 129 [(2, t), (0, x1), (0, x2), (0, x3), (0, x4), (0, 0), (1, y29), (3, 0), (0, 0), (3, 0)] [] N Λ σ1)) ∧ (¬ ((andI (σ1 t_tape (σ1 t 21)) 255) = 91) → (((σ1 t 22) = 0 → (∀ τ30, τ30 = st σ1 t 22 1 → (∀ τ31, τ31 = st τ30 t 23 (σ1 t 21) → (∀ y32, y32 = (mulI x1 1) → WV l mX12_term d P 129 [(2, t), (0, x1), (0, x2), (0, x3), (0, x4), (0, 0), (1, y32), (3, 0), (0, 0), (3, 0)] [] N Λ τ31)))) ∧ (¬ ((σ1 t 22) = 0) → (∀ y33, y33 = (mulI x1 1) → WV l mX12_term d P 129 [(2, t), (0, x1), (0, x2), (0, x3), (0, x4), (0, 0), (1, y33), (3, 0), (0, 0), (3, 0)] [] N Λ σ1))))))))) ∧ (¬ ((σ1 t 21) ≤ x3) → (∀ y34, y34 = (mulI x1 x4) → WV l mX12_term d P 129 [(2, t), (0, x1), (0, x2), (0, x3), (0, x4), (0, 1), (1, y34), (3, 0), (0, 0), (3, 0)] [] N Λ σ1)))))))) ∧ (¬ (v2 = 0) → ((x4 ≤ 9999 → (((σ1 t 20) ≤ (σ1 t 21) → (∀ y35, y35 = (subI (addI (mulI 10 x4) (-1)) 48) → (∀ τ36, τ36 = st σ1 t 21 (addI (σ1 t 21) 1) → WV l mX12_term d P 8 [(2, t), (0, x1), (0, x2), (0, x3), (0, y35), (3, 0), (3, 0), (3, 0), (3, 0), (3, 0)] [] N Λ τ36))) ∧ (¬ ((σ1 t 20) ≤ (σ1 t 21)) → (Ix N Λ t_tape 6 (σ1 t 21) ∧ (∀ y37, y37 = (subI (addI (mulI 10 x4) (andI (σ1 t_tape (σ1 t 21)) 255)) 48) → (∀ τ38, τ38 = st σ1 t 21 (addI (σ1 t 21) 1) → WV l mX12_term d P 8 [(2, t), (0, x1), (0, x2), (0, x3), (0, y37), (3, 0), (3, 0), (3, 0), (3, 0), (3, 0)] [] N Λ τ38)))))) ∧ (¬ (x4 ≤ 9999) → (∀ τ39, τ39 = st σ1 t 21 (addI (σ1 t 21) 1) → WV l mX12_term d P 8 [(2, t), (0, x1), (0, x2), (0, x3), (0, x4), (3, 0), (3, 0), (3, 0), (3, 0), (3, 0)] [] N Λ τ39)))))))) :
    WV l mX12_term d P 8 [(2, t), (0, x1), (0, x2), (0, x3), (0, x4), (3, 0), (3, 0), (3, 0), (3, 0), (3, 0)] [] N Λ σ := by
  have hd_1 : 1 ≤ d := Nat.le_trans (by decide) h0d
  refine r_aload_n (x := t) d_X12_term_8 rfl o_t.1 ?_
  refine x_callVI (Y2 := mX12_isDigit) (c := t) (As := []) (S := []) d_X12_term_9 ok_mX12_isDigit ml_X12_279 rfl (Nat.le_of_ble_eq_true rfl) (Nat.le_of_ble_eq_true rfl) rfl hd_1 kX12 o_t (CI.mono h (fun v2 σ1 h => ?_))
  refine r_if_eq (tgt := 56) d_X12_term_12 rfl (fun hc => ?_) (fun hc => ?_)
  · have h := h.1 hc
    refine r_aload_n (x := t) d_X12_term_56 rfl o_t.1 ?_
    refine r_getf (j := 21) (t := 0) (x := (σ1 t 21)) d_X12_term_57 kX12 (by decide) fl_X12_255 o_t.1 o_t.2.1 o_t.2.2.1 o_t.2.2.2 rfl rfl ?_
    refine r_iload_n (x := x3) d_X12_term_60 rfl ?_
    refine r_iconst (x := 4) d_X12_term_61 ⟨by decide, by decide⟩ ?_
    refine r_iadd d_X12_term_62 ?_
    refine r_ic_le (tgt := 72) d_X12_term_63 rfl (fun hc => ?_) (fun hc => ?_)
    · have h := h.1 hc
      refine r_aload_n (x := t) d_X12_term_72 rfl o_t.1 ?_
      refine r_getf (j := 21) (t := 0) (x := (σ1 t 21)) d_X12_term_73 kX12 (by decide) fl_X12_255 o_t.1 o_t.2.1 o_t.2.2.1 o_t.2.2.2 rfl rfl ?_
      refine r_iload_n (x := x3) d_X12_term_76 rfl ?_
      refine r_ic_le (tgt := 84) d_X12_term_77 rfl (fun hc => ?_) (fun hc => ?_)
      · have h := h.1 hc
        refine r_iconst (x := 0) d_X12_term_84 ⟨by decide, by decide⟩ ?_
        refine r_istore (L2 := [(2, t), (0, x1), (0, x2), (0, x3), (0, x4), (0, 0), (3, 0), (3, 0), (3, 0), (3, 0)]) d_X12_term_85 (by decide) rfl rfl ?_
        refine r_iload (x := 0) d_X12_term_87 rfl ?_
        refine r_if_ne (tgt := 110) d_X12_term_89 rfl (fun hc => absurd hc (by decide)) (fun _ => ?_)
        refine r_aload_n (x := t) d_X12_term_92 rfl o_t.1 ?_
        refine x_callVI (Y2 := mX12_see) (c := t) (As := []) (S := []) d_X12_term_93 ok_mX12_see ml_X12_264 rfl (Nat.le_of_ble_eq_true rfl) (Nat.le_of_ble_eq_true rfl) rfl hd_1 kX12 o_t (c_X12_see (v_X12_see_0 o_t f_t_tape ?_))
        refine ⟨fun hc => ?_, fun hc => ?_⟩
        · have h := h.1 hc
          show WP l mX12_term (rm d 0 0) noX _ 0 0 96 [(2, t), (0, x1), (0, x2), (0, x3), (0, x4), (0, 0), (3, 0), (3, 0), (3, 0), (3, 0)] [(0, (-1))] N Λ σ1
          refine r_bipush (x := 91) d_X12_term_96 ⟨by decide, by decide⟩ (by decide) ?_
          refine r_ic_eq (tgt := 110) d_X12_term_98 rfl (fun hc => absurd hc (by decide)) (fun _ => ?_)
          refine r_aload_n (x := t) d_X12_term_101 rfl o_t.1 ?_
          refine r_iconst (x := 1) d_X12_term_102 ⟨by decide, by decide⟩ ?_
          refine r_aload_n (x := t) d_X12_term_103 rfl o_t.1 ?_
          refine r_getf (j := 21) (t := 0) (x := (σ1 t 21)) d_X12_term_104 kX12 (by decide) fl_X12_255 o_t.1 o_t.2.1 o_t.2.2.1 o_t.2.2.2 rfl rfl ?_
          refine x_callVV (Y2 := mX12_wrongs) (c := t) (As := [(0, 1), (0, (σ1 t 21))]) (S := []) d_X12_term_107 ok_mX12_wrongs ml_X12_276 rfl (Nat.le_of_ble_eq_true rfl) (Nat.le_of_ble_eq_true rfl) rfl hd_1 kX12 o_t (c_X12_wrongs (v_X12_wrongs_0 o_t ?_))
          refine ⟨fun hc => ?_, fun hc => ?_⟩
          · have h := h.1 hc
            intro τ3 eτ3
            have h := h τ3 eτ3
            intro τ4 eτ4
            have h := h τ4 eτ4
            show WP l mX12_term (rm d 0 0) noX _ 0 0 110 [(2, t), (0, x1), (0, x2), (0, x3), (0, x4), (0, 0), (3, 0), (3, 0), (3, 0), (3, 0)] [] N Λ τ4
            refine r_iload_n (x := x1) d_X12_term_110 rfl ?_
            refine r_iload (x := 0) d_X12_term_111 rfl ?_
            refine r_if_eq (tgt := 121) d_X12_term_113 rfl (fun _ => ?_) (fun hc => absurd hc (by decide))
            refine r_iconst (x := 1) d_X12_term_121 ⟨by decide, by decide⟩ ?_
            refine r_imul d_X12_term_122 ?_
            refine r_i2l d_X12_term_123 ?_
            refine r_nm (fun y5 ey5 => ?_)
            have h := h y5 ey5
            refine r_lstore (L2 := [(2, t), (0, x1), (0, x2), (0, x3), (0, x4), (0, 0), (1, y5), (3, 0), (3, 0), (3, 0)]) d_X12_term_124 (by decide) rfl rfl ?_
            refine r_iconst (x := 0) d_X12_term_126 ⟨by decide, by decide⟩ ?_
            refine r_istore (L2 := [(2, t), (0, x1), (0, x2), (0, x3), (0, x4), (0, 0), (1, y5), (3, 0), (0, 0), (3, 0)]) d_X12_term_127 (by decide) rfl rfl ?_
            exact h
          · have h := h.2 hc
            show WP l mX12_term (rm d 0 0) noX _ 0 0 110 [(2, t), (0, x1), (0, x2), (0, x3), (0, x4), (0, 0), (3, 0), (3, 0), (3, 0), (3, 0)] [] N Λ σ1
            refine r_iload_n (x := x1) d_X12_term_110 rfl ?_
            refine r_iload (x := 0) d_X12_term_111 rfl ?_
            refine r_if_eq (tgt := 121) d_X12_term_113 rfl (fun _ => ?_) (fun hc => absurd hc (by decide))
            refine r_iconst (x := 1) d_X12_term_121 ⟨by decide, by decide⟩ ?_
            refine r_imul d_X12_term_122 ?_
            refine r_i2l d_X12_term_123 ?_
            refine r_nm (fun y6 ey6 => ?_)
            have h := h y6 ey6
            refine r_lstore (L2 := [(2, t), (0, x1), (0, x2), (0, x3), (0, x4), (0, 0), (1, y6), (3, 0), (3, 0), (3, 0)]) d_X12_term_124 (by decide) rfl rfl ?_
            refine r_iconst (x := 0) d_X12_term_126 ⟨by decide, by decide⟩ ?_
            refine r_istore (L2 := [(2, t), (0, x1), (0, x2), (0, x3), (0, x4), (0, 0), (1, y6), (3, 0), (0, 0), (3, 0)]) d_X12_term_127 (by decide) rfl rfl ?_
            exact h
        · have h := h.2 hc
          refine ⟨h.1, ?_⟩
          have h := h.2
          show WP l mX12_term (rm d 0 0) noX _ 0 0 96 [(2, t), (0, x1), (0, x2), (0, x3), (0, x4), (0, 0), (3, 0), (3, 0), (3, 0), (3, 0)] [(0, (andI (σ1 t_tape (σ1 t 21)) 255))] N Λ σ1
          refine r_bipush (x := 91) d_X12_term_96 ⟨by decide, by decide⟩ (by decide) ?_
          refine r_ic_eq (tgt := 110) d_X12_term_98 rfl (fun hc => ?_) (fun hc => ?_)
          · have h := h.1 hc
            refine r_iload_n (x := x1) d_X12_term_110 rfl ?_
            refine r_iload (x := 0) d_X12_term_111 rfl ?_
            refine r_if_eq (tgt := 121) d_X12_term_113 rfl (fun _ => ?_) (fun hc => absurd hc (by decide))
            refine r_iconst (x := 1) d_X12_term_121 ⟨by decide, by decide⟩ ?_
            refine r_imul d_X12_term_122 ?_
            refine r_i2l d_X12_term_123 ?_
            refine r_nm (fun y7 ey7 => ?_)
            have h := h y7 ey7
            refine r_lstore (L2 := [(2, t), (0, x1), (0, x2), (0, x3), (0, x4), (0, 0), (1, y7), (3, 0), (3, 0), (3, 0)]) d_X12_term_124 (by decide) rfl rfl ?_
            refine r_iconst (x := 0) d_X12_term_126 ⟨by decide, by decide⟩ ?_
            refine r_istore (L2 := [(2, t), (0, x1), (0, x2), (0, x3), (0, x4), (0, 0), (1, y7), (3, 0), (0, 0), (3, 0)]) d_X12_term_127 (by decide) rfl rfl ?_
            exact h
          · have h := h.2 hc
            refine r_aload_n (x := t) d_X12_term_101 rfl o_t.1 ?_
            refine r_iconst (x := 1) d_X12_term_102 ⟨by decide, by decide⟩ ?_
            refine r_aload_n (x := t) d_X12_term_103 rfl o_t.1 ?_
            refine r_getf (j := 21) (t := 0) (x := (σ1 t 21)) d_X12_term_104 kX12 (by decide) fl_X12_255 o_t.1 o_t.2.1 o_t.2.2.1 o_t.2.2.2 rfl rfl ?_
            refine x_callVV (Y2 := mX12_wrongs) (c := t) (As := [(0, 1), (0, (σ1 t 21))]) (S := []) d_X12_term_107 ok_mX12_wrongs ml_X12_276 rfl (Nat.le_of_ble_eq_true rfl) (Nat.le_of_ble_eq_true rfl) rfl hd_1 kX12 o_t (c_X12_wrongs (v_X12_wrongs_0 o_t ?_))
            refine ⟨fun hc => ?_, fun hc => ?_⟩
            · have h := h.1 hc
              intro τ8 eτ8
              have h := h τ8 eτ8
              intro τ9 eτ9
              have h := h τ9 eτ9
              show WP l mX12_term (rm d 0 0) noX _ 0 0 110 [(2, t), (0, x1), (0, x2), (0, x3), (0, x4), (0, 0), (3, 0), (3, 0), (3, 0), (3, 0)] [] N Λ τ9
              refine r_iload_n (x := x1) d_X12_term_110 rfl ?_
              refine r_iload (x := 0) d_X12_term_111 rfl ?_
              refine r_if_eq (tgt := 121) d_X12_term_113 rfl (fun _ => ?_) (fun hc => absurd hc (by decide))
              refine r_iconst (x := 1) d_X12_term_121 ⟨by decide, by decide⟩ ?_
              refine r_imul d_X12_term_122 ?_
              refine r_i2l d_X12_term_123 ?_
              refine r_nm (fun y10 ey10 => ?_)
              have h := h y10 ey10
              refine r_lstore (L2 := [(2, t), (0, x1), (0, x2), (0, x3), (0, x4), (0, 0), (1, y10), (3, 0), (3, 0), (3, 0)]) d_X12_term_124 (by decide) rfl rfl ?_
              refine r_iconst (x := 0) d_X12_term_126 ⟨by decide, by decide⟩ ?_
              refine r_istore (L2 := [(2, t), (0, x1), (0, x2), (0, x3), (0, x4), (0, 0), (1, y10), (3, 0), (0, 0), (3, 0)]) d_X12_term_127 (by decide) rfl rfl ?_
              exact h
            · have h := h.2 hc
              show WP l mX12_term (rm d 0 0) noX _ 0 0 110 [(2, t), (0, x1), (0, x2), (0, x3), (0, x4), (0, 0), (3, 0), (3, 0), (3, 0), (3, 0)] [] N Λ σ1
              refine r_iload_n (x := x1) d_X12_term_110 rfl ?_
              refine r_iload (x := 0) d_X12_term_111 rfl ?_
              refine r_if_eq (tgt := 121) d_X12_term_113 rfl (fun _ => ?_) (fun hc => absurd hc (by decide))
              refine r_iconst (x := 1) d_X12_term_121 ⟨by decide, by decide⟩ ?_
              refine r_imul d_X12_term_122 ?_
              refine r_i2l d_X12_term_123 ?_
              refine r_nm (fun y11 ey11 => ?_)
              have h := h y11 ey11
              refine r_lstore (L2 := [(2, t), (0, x1), (0, x2), (0, x3), (0, x4), (0, 0), (1, y11), (3, 0), (3, 0), (3, 0)]) d_X12_term_124 (by decide) rfl rfl ?_
              refine r_iconst (x := 0) d_X12_term_126 ⟨by decide, by decide⟩ ?_
              refine r_istore (L2 := [(2, t), (0, x1), (0, x2), (0, x3), (0, x4), (0, 0), (1, y11), (3, 0), (0, 0), (3, 0)]) d_X12_term_127 (by decide) rfl rfl ?_
              exact h
      · have h := h.2 hc
        refine r_iconst (x := 1) d_X12_term_80 ⟨by decide, by decide⟩ ?_
        refine r_goto (tgt := 85) d_X12_term_81 rfl ?_
        refine r_istore (L2 := [(2, t), (0, x1), (0, x2), (0, x3), (0, x4), (0, 1), (3, 0), (3, 0), (3, 0), (3, 0)]) d_X12_term_85 (by decide) rfl rfl ?_
        refine r_iload (x := 1) d_X12_term_87 rfl ?_
        refine r_if_ne (tgt := 110) d_X12_term_89 rfl (fun _ => ?_) (fun hc => absurd hc (by decide))
        refine r_iload_n (x := x1) d_X12_term_110 rfl ?_
        refine r_iload (x := 1) d_X12_term_111 rfl ?_
        refine r_if_eq (tgt := 121) d_X12_term_113 rfl (fun hc => absurd hc (by decide)) (fun _ => ?_)
        refine r_iload (x := x4) d_X12_term_116 rfl ?_
        refine r_goto (tgt := 122) d_X12_term_118 rfl ?_
        refine r_imul d_X12_term_122 ?_
        refine r_i2l d_X12_term_123 ?_
        refine r_nm (fun y12 ey12 => ?_)
        have h := h y12 ey12
        refine r_lstore (L2 := [(2, t), (0, x1), (0, x2), (0, x3), (0, x4), (0, 1), (1, y12), (3, 0), (3, 0), (3, 0)]) d_X12_term_124 (by decide) rfl rfl ?_
        refine r_iconst (x := 0) d_X12_term_126 ⟨by decide, by decide⟩ ?_
        refine r_istore (L2 := [(2, t), (0, x1), (0, x2), (0, x3), (0, x4), (0, 1), (1, y12), (3, 0), (0, 0), (3, 0)]) d_X12_term_127 (by decide) rfl rfl ?_
        exact h
    · have h := h.2 hc
      refine r_aload_n (x := t) d_X12_term_66 rfl o_t.1 ?_
      refine r_iconst (x := 2) d_X12_term_67 ⟨by decide, by decide⟩ ?_
      refine r_iload_n (x := x3) d_X12_term_68 rfl ?_
      refine x_callVV (Y2 := mX12_wrongs) (c := t) (As := [(0, 2), (0, x3)]) (S := []) d_X12_term_69 ok_mX12_wrongs ml_X12_276 rfl (Nat.le_of_ble_eq_true rfl) (Nat.le_of_ble_eq_true rfl) rfl hd_1 kX12 o_t (c_X12_wrongs (v_X12_wrongs_0 o_t ?_))
      refine ⟨fun hc => ?_, fun hc => ?_⟩
      · have h := h.1 hc
        intro τ13 eτ13
        have h := h τ13 eτ13
        intro τ14 eτ14
        have h := h τ14 eτ14
        show WP l mX12_term (rm d 0 0) noX _ 0 0 72 [(2, t), (0, x1), (0, x2), (0, x3), (0, x4), (3, 0), (3, 0), (3, 0), (3, 0), (3, 0)] [] N Λ τ14
        refine r_aload_n (x := t) d_X12_term_72 rfl o_t.1 ?_
        refine r_getf (j := 21) (t := 0) (x := (τ14 t 21)) d_X12_term_73 kX12 (by decide) fl_X12_255 o_t.1 o_t.2.1 o_t.2.2.1 o_t.2.2.2 rfl rfl ?_
        refine r_iload_n (x := x3) d_X12_term_76 rfl ?_
        refine r_ic_le (tgt := 84) d_X12_term_77 rfl (fun hc => ?_) (fun hc => ?_)
        · have h := h.1 hc
          refine r_iconst (x := 0) d_X12_term_84 ⟨by decide, by decide⟩ ?_
          refine r_istore (L2 := [(2, t), (0, x1), (0, x2), (0, x3), (0, x4), (0, 0), (3, 0), (3, 0), (3, 0), (3, 0)]) d_X12_term_85 (by decide) rfl rfl ?_
          refine r_iload (x := 0) d_X12_term_87 rfl ?_
          refine r_if_ne (tgt := 110) d_X12_term_89 rfl (fun hc => absurd hc (by decide)) (fun _ => ?_)
          refine r_aload_n (x := t) d_X12_term_92 rfl o_t.1 ?_
          refine x_callVI (Y2 := mX12_see) (c := t) (As := []) (S := []) d_X12_term_93 ok_mX12_see ml_X12_264 rfl (Nat.le_of_ble_eq_true rfl) (Nat.le_of_ble_eq_true rfl) rfl hd_1 kX12 o_t (c_X12_see (v_X12_see_0 o_t f_t_tape ?_))
          refine ⟨fun hc => ?_, fun hc => ?_⟩
          · have h := h.1 hc
            show WP l mX12_term (rm d 0 0) noX _ 0 0 96 [(2, t), (0, x1), (0, x2), (0, x3), (0, x4), (0, 0), (3, 0), (3, 0), (3, 0), (3, 0)] [(0, (-1))] N Λ τ14
            refine r_bipush (x := 91) d_X12_term_96 ⟨by decide, by decide⟩ (by decide) ?_
            refine r_ic_eq (tgt := 110) d_X12_term_98 rfl (fun hc => absurd hc (by decide)) (fun _ => ?_)
            refine r_aload_n (x := t) d_X12_term_101 rfl o_t.1 ?_
            refine r_iconst (x := 1) d_X12_term_102 ⟨by decide, by decide⟩ ?_
            refine r_aload_n (x := t) d_X12_term_103 rfl o_t.1 ?_
            refine r_getf (j := 21) (t := 0) (x := (τ14 t 21)) d_X12_term_104 kX12 (by decide) fl_X12_255 o_t.1 o_t.2.1 o_t.2.2.1 o_t.2.2.2 rfl rfl ?_
            refine x_callVV (Y2 := mX12_wrongs) (c := t) (As := [(0, 1), (0, (τ14 t 21))]) (S := []) d_X12_term_107 ok_mX12_wrongs ml_X12_276 rfl (Nat.le_of_ble_eq_true rfl) (Nat.le_of_ble_eq_true rfl) rfl hd_1 kX12 o_t (c_X12_wrongs (v_X12_wrongs_0 o_t ?_))
            refine ⟨fun hc => ?_, fun hc => ?_⟩
            · have h := h.1 hc
              intro τ15 eτ15
              have h := h τ15 eτ15
              intro τ16 eτ16
              have h := h τ16 eτ16
              show WP l mX12_term (rm d 0 0) noX _ 0 0 110 [(2, t), (0, x1), (0, x2), (0, x3), (0, x4), (0, 0), (3, 0), (3, 0), (3, 0), (3, 0)] [] N Λ τ16
              refine r_iload_n (x := x1) d_X12_term_110 rfl ?_
              refine r_iload (x := 0) d_X12_term_111 rfl ?_
              refine r_if_eq (tgt := 121) d_X12_term_113 rfl (fun _ => ?_) (fun hc => absurd hc (by decide))
              refine r_iconst (x := 1) d_X12_term_121 ⟨by decide, by decide⟩ ?_
              refine r_imul d_X12_term_122 ?_
              refine r_i2l d_X12_term_123 ?_
              refine r_nm (fun y17 ey17 => ?_)
              have h := h y17 ey17
              refine r_lstore (L2 := [(2, t), (0, x1), (0, x2), (0, x3), (0, x4), (0, 0), (1, y17), (3, 0), (3, 0), (3, 0)]) d_X12_term_124 (by decide) rfl rfl ?_
              refine r_iconst (x := 0) d_X12_term_126 ⟨by decide, by decide⟩ ?_
              refine r_istore (L2 := [(2, t), (0, x1), (0, x2), (0, x3), (0, x4), (0, 0), (1, y17), (3, 0), (0, 0), (3, 0)]) d_X12_term_127 (by decide) rfl rfl ?_
              exact h
            · have h := h.2 hc
              show WP l mX12_term (rm d 0 0) noX _ 0 0 110 [(2, t), (0, x1), (0, x2), (0, x3), (0, x4), (0, 0), (3, 0), (3, 0), (3, 0), (3, 0)] [] N Λ τ14
              refine r_iload_n (x := x1) d_X12_term_110 rfl ?_
              refine r_iload (x := 0) d_X12_term_111 rfl ?_
              refine r_if_eq (tgt := 121) d_X12_term_113 rfl (fun _ => ?_) (fun hc => absurd hc (by decide))
              refine r_iconst (x := 1) d_X12_term_121 ⟨by decide, by decide⟩ ?_
              refine r_imul d_X12_term_122 ?_
              refine r_i2l d_X12_term_123 ?_
              refine r_nm (fun y18 ey18 => ?_)
              have h := h y18 ey18
              refine r_lstore (L2 := [(2, t), (0, x1), (0, x2), (0, x3), (0, x4), (0, 0), (1, y18), (3, 0), (3, 0), (3, 0)]) d_X12_term_124 (by decide) rfl rfl ?_
              refine r_iconst (x := 0) d_X12_term_126 ⟨by decide, by decide⟩ ?_
              refine r_istore (L2 := [(2, t), (0, x1), (0, x2), (0, x3), (0, x4), (0, 0), (1, y18), (3, 0), (0, 0), (3, 0)]) d_X12_term_127 (by decide) rfl rfl ?_
              exact h
          · have h := h.2 hc
            refine ⟨h.1, ?_⟩
            have h := h.2
            show WP l mX12_term (rm d 0 0) noX _ 0 0 96 [(2, t), (0, x1), (0, x2), (0, x3), (0, x4), (0, 0), (3, 0), (3, 0), (3, 0), (3, 0)] [(0, (andI (τ14 t_tape (τ14 t 21)) 255))] N Λ τ14
            refine r_bipush (x := 91) d_X12_term_96 ⟨by decide, by decide⟩ (by decide) ?_
            refine r_ic_eq (tgt := 110) d_X12_term_98 rfl (fun hc => ?_) (fun hc => ?_)
            · have h := h.1 hc
              refine r_iload_n (x := x1) d_X12_term_110 rfl ?_
              refine r_iload (x := 0) d_X12_term_111 rfl ?_
              refine r_if_eq (tgt := 121) d_X12_term_113 rfl (fun _ => ?_) (fun hc => absurd hc (by decide))
              refine r_iconst (x := 1) d_X12_term_121 ⟨by decide, by decide⟩ ?_
              refine r_imul d_X12_term_122 ?_
              refine r_i2l d_X12_term_123 ?_
              refine r_nm (fun y19 ey19 => ?_)
              have h := h y19 ey19
              refine r_lstore (L2 := [(2, t), (0, x1), (0, x2), (0, x3), (0, x4), (0, 0), (1, y19), (3, 0), (3, 0), (3, 0)]) d_X12_term_124 (by decide) rfl rfl ?_
              refine r_iconst (x := 0) d_X12_term_126 ⟨by decide, by decide⟩ ?_
              refine r_istore (L2 := [(2, t), (0, x1), (0, x2), (0, x3), (0, x4), (0, 0), (1, y19), (3, 0), (0, 0), (3, 0)]) d_X12_term_127 (by decide) rfl rfl ?_
              exact h
            · have h := h.2 hc
              refine r_aload_n (x := t) d_X12_term_101 rfl o_t.1 ?_
              refine r_iconst (x := 1) d_X12_term_102 ⟨by decide, by decide⟩ ?_
              refine r_aload_n (x := t) d_X12_term_103 rfl o_t.1 ?_
              refine r_getf (j := 21) (t := 0) (x := (τ14 t 21)) d_X12_term_104 kX12 (by decide) fl_X12_255 o_t.1 o_t.2.1 o_t.2.2.1 o_t.2.2.2 rfl rfl ?_
              refine x_callVV (Y2 := mX12_wrongs) (c := t) (As := [(0, 1), (0, (τ14 t 21))]) (S := []) d_X12_term_107 ok_mX12_wrongs ml_X12_276 rfl (Nat.le_of_ble_eq_true rfl) (Nat.le_of_ble_eq_true rfl) rfl hd_1 kX12 o_t (c_X12_wrongs (v_X12_wrongs_0 o_t ?_))
              refine ⟨fun hc => ?_, fun hc => ?_⟩
              · have h := h.1 hc
                intro τ20 eτ20
                have h := h τ20 eτ20
                intro τ21 eτ21
                have h := h τ21 eτ21
                show WP l mX12_term (rm d 0 0) noX _ 0 0 110 [(2, t), (0, x1), (0, x2), (0, x3), (0, x4), (0, 0), (3, 0), (3, 0), (3, 0), (3, 0)] [] N Λ τ21
                refine r_iload_n (x := x1) d_X12_term_110 rfl ?_
                refine r_iload (x := 0) d_X12_term_111 rfl ?_
                refine r_if_eq (tgt := 121) d_X12_term_113 rfl (fun _ => ?_) (fun hc => absurd hc (by decide))
                refine r_iconst (x := 1) d_X12_term_121 ⟨by decide, by decide⟩ ?_
                refine r_imul d_X12_term_122 ?_
                refine r_i2l d_X12_term_123 ?_
                refine r_nm (fun y22 ey22 => ?_)
                have h := h y22 ey22
                refine r_lstore (L2 := [(2, t), (0, x1), (0, x2), (0, x3), (0, x4), (0, 0), (1, y22), (3, 0), (3, 0), (3, 0)]) d_X12_term_124 (by decide) rfl rfl ?_
                refine r_iconst (x := 0) d_X12_term_126 ⟨by decide, by decide⟩ ?_
                refine r_istore (L2 := [(2, t), (0, x1), (0, x2), (0, x3), (0, x4), (0, 0), (1, y22), (3, 0), (0, 0), (3, 0)]) d_X12_term_127 (by decide) rfl rfl ?_
                exact h
              · have h := h.2 hc
                show WP l mX12_term (rm d 0 0) noX _ 0 0 110 [(2, t), (0, x1), (0, x2), (0, x3), (0, x4), (0, 0), (3, 0), (3, 0), (3, 0), (3, 0)] [] N Λ τ14
                refine r_iload_n (x := x1) d_X12_term_110 rfl ?_
                refine r_iload (x := 0) d_X12_term_111 rfl ?_
                refine r_if_eq (tgt := 121) d_X12_term_113 rfl (fun _ => ?_) (fun hc => absurd hc (by decide))
                refine r_iconst (x := 1) d_X12_term_121 ⟨by decide, by decide⟩ ?_
                refine r_imul d_X12_term_122 ?_
                refine r_i2l d_X12_term_123 ?_
                refine r_nm (fun y23 ey23 => ?_)
                have h := h y23 ey23
                refine r_lstore (L2 := [(2, t), (0, x1), (0, x2), (0, x3), (0, x4), (0, 0), (1, y23), (3, 0), (3, 0), (3, 0)]) d_X12_term_124 (by decide) rfl rfl ?_
                refine r_iconst (x := 0) d_X12_term_126 ⟨by decide, by decide⟩ ?_
                refine r_istore (L2 := [(2, t), (0, x1), (0, x2), (0, x3), (0, x4), (0, 0), (1, y23), (3, 0), (0, 0), (3, 0)]) d_X12_term_127 (by decide) rfl rfl ?_
                exact h
        · have h := h.2 hc
          refine r_iconst (x := 1) d_X12_term_80 ⟨by decide, by decide⟩ ?_
          refine r_goto (tgt := 85) d_X12_term_81 rfl ?_
          refine r_istore (L2 := [(2, t), (0, x1), (0, x2), (0, x3), (0, x4), (0, 1), (3, 0), (3, 0), (3, 0), (3, 0)]) d_X12_term_85 (by decide) rfl rfl ?_
          refine r_iload (x := 1) d_X12_term_87 rfl ?_
          refine r_if_ne (tgt := 110) d_X12_term_89 rfl (fun _ => ?_) (fun hc => absurd hc (by decide))
          refine r_iload_n (x := x1) d_X12_term_110 rfl ?_
          refine r_iload (x := 1) d_X12_term_111 rfl ?_
          refine r_if_eq (tgt := 121) d_X12_term_113 rfl (fun hc => absurd hc (by decide)) (fun _ => ?_)
          refine r_iload (x := x4) d_X12_term_116 rfl ?_
          refine r_goto (tgt := 122) d_X12_term_118 rfl ?_
          refine r_imul d_X12_term_122 ?_
          refine r_i2l d_X12_term_123 ?_
          refine r_nm (fun y24 ey24 => ?_)
          have h := h y24 ey24
          refine r_lstore (L2 := [(2, t), (0, x1), (0, x2), (0, x3), (0, x4), (0, 1), (1, y24), (3, 0), (3, 0), (3, 0)]) d_X12_term_124 (by decide) rfl rfl ?_
          refine r_iconst (x := 0) d_X12_term_126 ⟨by decide, by decide⟩ ?_
          refine r_istore (L2 := [(2, t), (0, x1), (0, x2), (0, x3), (0, x4), (0, 1), (1, y24), (3, 0), (0, 0), (3, 0)]) d_X12_term_127 (by decide) rfl rfl ?_
          exact h
      · have h := h.2 hc
        show WP l mX12_term (rm d 0 0) noX _ 0 0 72 [(2, t), (0, x1), (0, x2), (0, x3), (0, x4), (3, 0), (3, 0), (3, 0), (3, 0), (3, 0)] [] N Λ σ1
        refine r_aload_n (x := t) d_X12_term_72 rfl o_t.1 ?_
        refine r_getf (j := 21) (t := 0) (x := (σ1 t 21)) d_X12_term_73 kX12 (by decide) fl_X12_255 o_t.1 o_t.2.1 o_t.2.2.1 o_t.2.2.2 rfl rfl ?_
        refine r_iload_n (x := x3) d_X12_term_76 rfl ?_
        refine r_ic_le (tgt := 84) d_X12_term_77 rfl (fun hc => ?_) (fun hc => ?_)
        · have h := h.1 hc
          refine r_iconst (x := 0) d_X12_term_84 ⟨by decide, by decide⟩ ?_
          refine r_istore (L2 := [(2, t), (0, x1), (0, x2), (0, x3), (0, x4), (0, 0), (3, 0), (3, 0), (3, 0), (3, 0)]) d_X12_term_85 (by decide) rfl rfl ?_
          refine r_iload (x := 0) d_X12_term_87 rfl ?_
          refine r_if_ne (tgt := 110) d_X12_term_89 rfl (fun hc => absurd hc (by decide)) (fun _ => ?_)
          refine r_aload_n (x := t) d_X12_term_92 rfl o_t.1 ?_
          refine x_callVI (Y2 := mX12_see) (c := t) (As := []) (S := []) d_X12_term_93 ok_mX12_see ml_X12_264 rfl (Nat.le_of_ble_eq_true rfl) (Nat.le_of_ble_eq_true rfl) rfl hd_1 kX12 o_t (c_X12_see (v_X12_see_0 o_t f_t_tape ?_))
          refine ⟨fun hc => ?_, fun hc => ?_⟩
          · have h := h.1 hc
            show WP l mX12_term (rm d 0 0) noX _ 0 0 96 [(2, t), (0, x1), (0, x2), (0, x3), (0, x4), (0, 0), (3, 0), (3, 0), (3, 0), (3, 0)] [(0, (-1))] N Λ σ1
            refine r_bipush (x := 91) d_X12_term_96 ⟨by decide, by decide⟩ (by decide) ?_
            refine r_ic_eq (tgt := 110) d_X12_term_98 rfl (fun hc => absurd hc (by decide)) (fun _ => ?_)
            refine r_aload_n (x := t) d_X12_term_101 rfl o_t.1 ?_
            refine r_iconst (x := 1) d_X12_term_102 ⟨by decide, by decide⟩ ?_
            refine r_aload_n (x := t) d_X12_term_103 rfl o_t.1 ?_
            refine r_getf (j := 21) (t := 0) (x := (σ1 t 21)) d_X12_term_104 kX12 (by decide) fl_X12_255 o_t.1 o_t.2.1 o_t.2.2.1 o_t.2.2.2 rfl rfl ?_
            refine x_callVV (Y2 := mX12_wrongs) (c := t) (As := [(0, 1), (0, (σ1 t 21))]) (S := []) d_X12_term_107 ok_mX12_wrongs ml_X12_276 rfl (Nat.le_of_ble_eq_true rfl) (Nat.le_of_ble_eq_true rfl) rfl hd_1 kX12 o_t (c_X12_wrongs (v_X12_wrongs_0 o_t ?_))
            refine ⟨fun hc => ?_, fun hc => ?_⟩
            · have h := h.1 hc
              intro τ25 eτ25
              have h := h τ25 eτ25
              intro τ26 eτ26
              have h := h τ26 eτ26
              show WP l mX12_term (rm d 0 0) noX _ 0 0 110 [(2, t), (0, x1), (0, x2), (0, x3), (0, x4), (0, 0), (3, 0), (3, 0), (3, 0), (3, 0)] [] N Λ τ26
              refine r_iload_n (x := x1) d_X12_term_110 rfl ?_
              refine r_iload (x := 0) d_X12_term_111 rfl ?_
              refine r_if_eq (tgt := 121) d_X12_term_113 rfl (fun _ => ?_) (fun hc => absurd hc (by decide))
              refine r_iconst (x := 1) d_X12_term_121 ⟨by decide, by decide⟩ ?_
              refine r_imul d_X12_term_122 ?_
              refine r_i2l d_X12_term_123 ?_
              refine r_nm (fun y27 ey27 => ?_)
              have h := h y27 ey27
              refine r_lstore (L2 := [(2, t), (0, x1), (0, x2), (0, x3), (0, x4), (0, 0), (1, y27), (3, 0), (3, 0), (3, 0)]) d_X12_term_124 (by decide) rfl rfl ?_
              refine r_iconst (x := 0) d_X12_term_126 ⟨by decide, by decide⟩ ?_
              refine r_istore (L2 := [(2, t), (0, x1), (0, x2), (0, x3), (0, x4), (0, 0), (1, y27), (3, 0), (0, 0), (3, 0)]) d_X12_term_127 (by decide) rfl rfl ?_
              exact h
            · have h := h.2 hc
              show WP l mX12_term (rm d 0 0) noX _ 0 0 110 [(2, t), (0, x1), (0, x2), (0, x3), (0, x4), (0, 0), (3, 0), (3, 0), (3, 0), (3, 0)] [] N Λ σ1
              refine r_iload_n (x := x1) d_X12_term_110 rfl ?_
              refine r_iload (x := 0) d_X12_term_111 rfl ?_
              refine r_if_eq (tgt := 121) d_X12_term_113 rfl (fun _ => ?_) (fun hc => absurd hc (by decide))
              refine r_iconst (x := 1) d_X12_term_121 ⟨by decide, by decide⟩ ?_
              refine r_imul d_X12_term_122 ?_
              refine r_i2l d_X12_term_123 ?_
              refine r_nm (fun y28 ey28 => ?_)
              have h := h y28 ey28
              refine r_lstore (L2 := [(2, t), (0, x1), (0, x2), (0, x3), (0, x4), (0, 0), (1, y28), (3, 0), (3, 0), (3, 0)]) d_X12_term_124 (by decide) rfl rfl ?_
              refine r_iconst (x := 0) d_X12_term_126 ⟨by decide, by decide⟩ ?_
              refine r_istore (L2 := [(2, t), (0, x1), (0, x2), (0, x3), (0, x4), (0, 0), (1, y28), (3, 0), (0, 0), (3, 0)]) d_X12_term_127 (by decide) rfl rfl ?_
              exact h
          · have h := h.2 hc
            refine ⟨h.1, ?_⟩
            have h := h.2
            show WP l mX12_term (rm d 0 0) noX _ 0 0 96 [(2, t), (0, x1), (0, x2), (0, x3), (0, x4), (0, 0), (3, 0), (3, 0), (3, 0), (3, 0)] [(0, (andI (σ1 t_tape (σ1 t 21)) 255))] N Λ σ1
            refine r_bipush (x := 91) d_X12_term_96 ⟨by decide, by decide⟩ (by decide) ?_
            refine r_ic_eq (tgt := 110) d_X12_term_98 rfl (fun hc => ?_) (fun hc => ?_)
            · have h := h.1 hc
              refine r_iload_n (x := x1) d_X12_term_110 rfl ?_
              refine r_iload (x := 0) d_X12_term_111 rfl ?_
              refine r_if_eq (tgt := 121) d_X12_term_113 rfl (fun _ => ?_) (fun hc => absurd hc (by decide))
              refine r_iconst (x := 1) d_X12_term_121 ⟨by decide, by decide⟩ ?_
              refine r_imul d_X12_term_122 ?_
              refine r_i2l d_X12_term_123 ?_
              refine r_nm (fun y29 ey29 => ?_)
              have h := h y29 ey29
              refine r_lstore (L2 := [(2, t), (0, x1), (0, x2), (0, x3), (0, x4), (0, 0), (1, y29), (3, 0), (3, 0), (3, 0)]) d_X12_term_124 (by decide) rfl rfl ?_
              refine r_iconst (x := 0) d_X12_term_126 ⟨by decide, by decide⟩ ?_
              refine r_istore (L2 := [(2, t), (0, x1), (0, x2), (0, x3), (0, x4), (0, 0), (1, y29), (3, 0), (0, 0), (3, 0)]) d_X12_term_127 (by decide) rfl rfl ?_
              exact h
            · have h := h.2 hc
              refine r_aload_n (x := t) d_X12_term_101 rfl o_t.1 ?_
              refine r_iconst (x := 1) d_X12_term_102 ⟨by decide, by decide⟩ ?_
              refine r_aload_n (x := t) d_X12_term_103 rfl o_t.1 ?_
              refine r_getf (j := 21) (t := 0) (x := (σ1 t 21)) d_X12_term_104 kX12 (by decide) fl_X12_255 o_t.1 o_t.2.1 o_t.2.2.1 o_t.2.2.2 rfl rfl ?_
              refine x_callVV (Y2 := mX12_wrongs) (c := t) (As := [(0, 1), (0, (σ1 t 21))]) (S := []) d_X12_term_107 ok_mX12_wrongs ml_X12_276 rfl (Nat.le_of_ble_eq_true rfl) (Nat.le_of_ble_eq_true rfl) rfl hd_1 kX12 o_t (c_X12_wrongs (v_X12_wrongs_0 o_t ?_))
              refine ⟨fun hc => ?_, fun hc => ?_⟩
              · have h := h.1 hc
                intro τ30 eτ30
                have h := h τ30 eτ30
                intro τ31 eτ31
                have h := h τ31 eτ31
                show WP l mX12_term (rm d 0 0) noX _ 0 0 110 [(2, t), (0, x1), (0, x2), (0, x3), (0, x4), (0, 0), (3, 0), (3, 0), (3, 0), (3, 0)] [] N Λ τ31
                refine r_iload_n (x := x1) d_X12_term_110 rfl ?_
                refine r_iload (x := 0) d_X12_term_111 rfl ?_
                refine r_if_eq (tgt := 121) d_X12_term_113 rfl (fun _ => ?_) (fun hc => absurd hc (by decide))
                refine r_iconst (x := 1) d_X12_term_121 ⟨by decide, by decide⟩ ?_
                refine r_imul d_X12_term_122 ?_
                refine r_i2l d_X12_term_123 ?_
                refine r_nm (fun y32 ey32 => ?_)
                have h := h y32 ey32
                refine r_lstore (L2 := [(2, t), (0, x1), (0, x2), (0, x3), (0, x4), (0, 0), (1, y32), (3, 0), (3, 0), (3, 0)]) d_X12_term_124 (by decide) rfl rfl ?_
                refine r_iconst (x := 0) d_X12_term_126 ⟨by decide, by decide⟩ ?_
                refine r_istore (L2 := [(2, t), (0, x1), (0, x2), (0, x3), (0, x4), (0, 0), (1, y32), (3, 0), (0, 0), (3, 0)]) d_X12_term_127 (by decide) rfl rfl ?_
                exact h
              · have h := h.2 hc
                show WP l mX12_term (rm d 0 0) noX _ 0 0 110 [(2, t), (0, x1), (0, x2), (0, x3), (0, x4), (0, 0), (3, 0), (3, 0), (3, 0), (3, 0)] [] N Λ σ1
                refine r_iload_n (x := x1) d_X12_term_110 rfl ?_
                refine r_iload (x := 0) d_X12_term_111 rfl ?_
                refine r_if_eq (tgt := 121) d_X12_term_113 rfl (fun _ => ?_) (fun hc => absurd hc (by decide))
                refine r_iconst (x := 1) d_X12_term_121 ⟨by decide, by decide⟩ ?_
                refine r_imul d_X12_term_122 ?_
                refine r_i2l d_X12_term_123 ?_
                refine r_nm (fun y33 ey33 => ?_)
                have h := h y33 ey33
                refine r_lstore (L2 := [(2, t), (0, x1), (0, x2), (0, x3), (0, x4), (0, 0), (1, y33), (3, 0), (3, 0), (3, 0)]) d_X12_term_124 (by decide) rfl rfl ?_
                refine r_iconst (x := 0) d_X12_term_126 ⟨by decide, by decide⟩ ?_
                refine r_istore (L2 := [(2, t), (0, x1), (0, x2), (0, x3), (0, x4), (0, 0), (1, y33), (3, 0), (0, 0), (3, 0)]) d_X12_term_127 (by decide) rfl rfl ?_
                exact h
        · have h := h.2 hc
          refine r_iconst (x := 1) d_X12_term_80 ⟨by decide, by decide⟩ ?_
          refine r_goto (tgt := 85) d_X12_term_81 rfl ?_
          refine r_istore (L2 := [(2, t), (0, x1), (0, x2), (0, x3), (0, x4), (0, 1), (3, 0), (3, 0), (3, 0), (3, 0)]) d_X12_term_85 (by decide) rfl rfl ?_
          refine r_iload (x := 1) d_X12_term_87 rfl ?_
          refine r_if_ne (tgt := 110) d_X12_term_89 rfl (fun _ => ?_) (fun hc => absurd hc (by decide))
          refine r_iload_n (x := x1) d_X12_term_110 rfl ?_
          refine r_iload (x := 1) d_X12_term_111 rfl ?_
          refine r_if_eq (tgt := 121) d_X12_term_113 rfl (fun hc => absurd hc (by decide)) (fun _ => ?_)
          refine r_iload (x := x4) d_X12_term_116 rfl ?_
          refine r_goto (tgt := 122) d_X12_term_118 rfl ?_
          refine r_imul d_X12_term_122 ?_
          refine r_i2l d_X12_term_123 ?_
          refine r_nm (fun y34 ey34 => ?_)
          have h := h y34 ey34
          refine r_lstore (L2 := [(2, t), (0, x1), (0, x2), (0, x3), (0, x4), (0, 1), (1, y34), (3, 0), (3, 0), (3, 0)]) d_X12_term_124 (by decide) rfl rfl ?_
          refine r_iconst (x := 0) d_X12_term_126 ⟨by decide, by decide⟩ ?_
          refine r_istore (L2 := [(2, t), (0, x1), (0, x2), (0, x3), (0, x4), (0, 1), (1, y34), (3, 0), (0, 0), (3, 0)]) d_X12_term_127 (by decide) rfl rfl ?_
          exact h
  · have h := h.2 hc
    refine r_iload (x := x4) d_X12_term_15 rfl ?_
    refine r_sipush (x := 9999) d_X12_term_17 ⟨by decide, by decide⟩ (by decide) ?_
    refine r_ic_le (tgt := 28) d_X12_term_20 rfl (fun hc => ?_) (fun hc => ?_)
    · have h := h.1 hc
      refine r_bipush (x := 10) d_X12_term_28 ⟨by decide, by decide⟩ (by decide) ?_
      refine r_iload (x := x4) d_X12_term_30 rfl ?_
      refine r_imul d_X12_term_32 ?_
      refine r_aload_n (x := t) d_X12_term_33 rfl o_t.1 ?_
      refine x_callVI (Y2 := mX12_see) (c := t) (As := []) (S := [(0, (mulI 10 x4))]) d_X12_term_34 ok_mX12_see ml_X12_264 rfl (Nat.le_of_ble_eq_true rfl) (Nat.le_of_ble_eq_true rfl) rfl hd_1 kX12 o_t (c_X12_see (v_X12_see_0 o_t f_t_tape ?_))
      refine ⟨fun hc => ?_, fun hc => ?_⟩
      · have h := h.1 hc
        show WP l mX12_term (rm d 0 0) noX _ 0 0 37 [(2, t), (0, x1), (0, x2), (0, x3), (0, x4), (3, 0), (3, 0), (3, 0), (3, 0), (3, 0)] [(0, (-1)), (0, (mulI 10 x4))] N Λ σ1
        refine r_iadd d_X12_term_37 ?_
        refine r_bipush (x := 48) d_X12_term_38 ⟨by decide, by decide⟩ (by decide) ?_
        refine r_isub d_X12_term_40 ?_
        refine r_nm (fun y35 ey35 => ?_)
        have h := h y35 ey35
        refine r_istore (L2 := [(2, t), (0, x1), (0, x2), (0, x3), (0, y35), (3, 0), (3, 0), (3, 0), (3, 0), (3, 0)]) d_X12_term_41 (by decide) rfl rfl ?_
        refine r_aload_n (x := t) d_X12_term_43 rfl o_t.1 ?_
        refine r_dup d_X12_term_44 rfl ?_
        refine r_getf (j := 21) (t := 0) (x := (σ1 t 21)) d_X12_term_45 kX12 (by decide) fl_X12_255 o_t.1 o_t.2.1 o_t.2.2.1 o_t.2.2.2 rfl rfl ?_
        refine r_iconst (x := 1) d_X12_term_48 ⟨by decide, by decide⟩ ?_
        refine r_iadd d_X12_term_49 ?_
        refine r_putI (j := 21) d_X12_term_50 kX12 (by decide) fl_X12_255 rfl o_t.1 o_t.2.1 o_t.2.2.1 o_t.2.2.2 rfl ?_
        refine r_nmM (fun τ36 eτ36 => ?_)
        have h := h τ36 eτ36
        refine r_goto (tgt := 8) d_X12_term_53 rfl ?_
        exact h
      · have h := h.2 hc
        refine ⟨h.1, ?_⟩
        have h := h.2
        show WP l mX12_term (rm d 0 0) noX _ 0 0 37 [(2, t), (0, x1), (0, x2), (0, x3), (0, x4), (3, 0), (3, 0), (3, 0), (3, 0), (3, 0)] [(0, (andI (σ1 t_tape (σ1 t 21)) 255)), (0, (mulI 10 x4))] N Λ σ1
        refine r_iadd d_X12_term_37 ?_
        refine r_bipush (x := 48) d_X12_term_38 ⟨by decide, by decide⟩ (by decide) ?_
        refine r_isub d_X12_term_40 ?_
        refine r_nm (fun y37 ey37 => ?_)
        have h := h y37 ey37
        refine r_istore (L2 := [(2, t), (0, x1), (0, x2), (0, x3), (0, y37), (3, 0), (3, 0), (3, 0), (3, 0), (3, 0)]) d_X12_term_41 (by decide) rfl rfl ?_
        refine r_aload_n (x := t) d_X12_term_43 rfl o_t.1 ?_
        refine r_dup d_X12_term_44 rfl ?_
        refine r_getf (j := 21) (t := 0) (x := (σ1 t 21)) d_X12_term_45 kX12 (by decide) fl_X12_255 o_t.1 o_t.2.1 o_t.2.2.1 o_t.2.2.2 rfl rfl ?_
        refine r_iconst (x := 1) d_X12_term_48 ⟨by decide, by decide⟩ ?_
        refine r_iadd d_X12_term_49 ?_
        refine r_putI (j := 21) d_X12_term_50 kX12 (by decide) fl_X12_255 rfl o_t.1 o_t.2.1 o_t.2.2.1 o_t.2.2.2 rfl ?_
        refine r_nmM (fun τ38 eτ38 => ?_)
        have h := h τ38 eτ38
        refine r_goto (tgt := 8) d_X12_term_53 rfl ?_
        exact h
    · have h := h.2 hc
      refine r_iload (x := x4) d_X12_term_23 rfl ?_
      refine r_goto (tgt := 41) d_X12_term_25 rfl ?_
      refine r_istore (L2 := [(2, t), (0, x1), (0, x2), (0, x3), (0, x4), (3, 0), (3, 0), (3, 0), (3, 0), (3, 0)]) d_X12_term_41 (by decide) rfl rfl ?_
      refine r_aload_n (x := t) d_X12_term_43 rfl o_t.1 ?_
      refine r_dup d_X12_term_44 rfl ?_
      refine r_getf (j := 21) (t := 0) (x := (σ1 t 21)) d_X12_term_45 kX12 (by decide) fl_X12_255 o_t.1 o_t.2.1 o_t.2.2.1 o_t.2.2.2 rfl rfl ?_
      refine r_iconst (x := 1) d_X12_term_48 ⟨by decide, by decide⟩ ?_
      refine r_iadd d_X12_term_49 ?_
      refine r_putI (j := 21) d_X12_term_50 kX12 (by decide) fl_X12_255 rfl o_t.1 o_t.2.1 o_t.2.2.1 o_t.2.2.2 rfl ?_
      refine r_nmM (fun τ39 eτ39 => ?_)
      have h := h τ39 eτ39
      refine r_goto (tgt := 8) d_X12_term_53 rfl ?_
      exact h
theorem v_X12_term_129 {l : Launch} {d N : Nat} {Λ : Lay} {P : Mem → Prop} {σ : Mem} {x1 x2 x3 x4 x5 x6 x8 t t_tape : Int} (o_t : Ob N Λ t 21 36) (f_t_tape : (Λ t).2.2 18 = t_tape) (h0d : 1 ≤ d)
    (h : ((¬ (σ t 22) = 0 → ((x2 = 0 → P σ) ∧ (¬ (x2 = 0) → (((cmpL x6 0) = 0 → P σ) ∧ (¬ ((cmpL x6 0) = 0) → (CI l mX12_keyOf (d - 1) [(2, t), (0, x8)] N Λ σ (fun v2 σ1 => (CI l mX12_puts (d - 1) [(2, t), (0, 0), (0, v2), (1, x6)] N Λ σ1 (fun v4 σ3 => P σ3))))))))) ∧ ((σ t 22) = 0 → (((σ t 20) ≤ (σ t 21) → ((x2 = 0 → P σ) ∧ (¬ (x2 = 0) → (((cmpL x6 0) = 0 → P σ) ∧ (¬ ((cmpL x6 0) = 0) → (CI l mX12_keyOf (d - 1) [(2, t), (0, x8)] N Λ σ (fun v6 σ5 => (CI l mX12_puts (d - 1) [(2, t), (0, 0), (0, v6), (1, x6)] N Λ σ5 (fun v8 σ7 => P σ7))))))))) ∧ (¬ ((σ t 20) ≤ (σ t 21)) → (Ix N Λ t_tape 6 (σ t 21) ∧ ((¬ (andI (σ t_tape (σ t 21)) 255) = 91 → ((x2 = 0 → P σ) ∧ (¬ (x2 = 0) → (((cmpL x6 0) = 0 → P σ) ∧ (¬ ((cmpL x6 0) = 0) → (CI l mX12_keyOf (d - 1) [(2, t), (0, x8)] N Λ σ (fun v10 σ9 => (CI l mX12_puts (d - 1) [(2, t), (0, 0), (0, v10), (1, x6)] N Λ σ9 (fun v12 σ11 => P σ11))))))))) ∧ ((andI (σ t_tape (σ t 21)) 255) = 91 → ((¬ x8 = 4 → (∀ τ13, τ13 = st σ t 21 (addI (σ t 21) 1) → WV l mX12_term d P 174 [(2, t), (0, x1), (0, x2), (0, x3), (0, x4), (0, x5), (1, x6), (3, 0), (0, x8), (0, 0)] [] N Λ τ13)) ∧ (x8 = 4 → (((σ t 22) = 0 → (∀ τ14, τ14 = st σ t 22 3 → (∀ τ15, τ15 = st τ14 t 23 (σ t 21) → P τ15))) ∧ (¬ ((σ t 22) = 0) → P σ)))))))))))) :
    WV l mX12_term d P 129 [(2, t), (0, x1), (0, x2), (0, x3), (0, x4), (0, x5), (1, x6), (3, 0), (0, x8), (3, 0)] [] N Λ σ := by
  have hd_1 : 1 ≤ d := Nat.le_trans (by decide) h0d
  refine r_aload_n (x := t) d_X12_term_129 rfl o_t.1 ?_
  refine r_getf (j := 22) (t := 0) (x := (σ t 22)) d_X12_term_130 kX12 (by decide) fl_X12_261 o_t.1 o_t.2.1 o_t.2.2.1 o_t.2.2.2 rfl rfl ?_
  refine r_if_ne (tgt := 307) d_X12_term_133 rfl (fun hc => ?_) (fun hc => ?_)
  · have h := h.1 hc
    refine r_iload_n (x := x2) d_X12_term_307 rfl ?_
    refine r_if_eq (tgt := 332) d_X12_term_308 rfl (fun hc => ?_) (fun hc => ?_)
    · have h := h.1 hc
      exact r_vret d_X12_term_332 rfl (Nat.le_refl 0) (Nat.le_refl 0) ⟨rfl, rfl, rfl, h⟩
    · have h := h.2 hc
      refine r_lload (x := x6) d_X12_term_311 rfl ?_
      refine r_lconst d_X12_term_313 ?_
      skip
      refine r_lcmp d_X12_term_314 ?_
      refine r_if_eq (tgt := 332) d_X12_term_315 rfl (fun hc => ?_) (fun hc => ?_)
      · have h := h.1 hc
        exact r_vret d_X12_term_332 rfl (Nat.le_refl 0) (Nat.le_refl 0) ⟨rfl, rfl, rfl, h⟩
      · have h := h.2 hc
        refine r_aload_n (x := t) d_X12_term_318 rfl o_t.1 ?_
        refine r_iconst (x := 0) d_X12_term_319 ⟨by decide, by decide⟩ ?_
        refine r_aload_n (x := t) d_X12_term_320 rfl o_t.1 ?_
        refine r_iload (x := x8) d_X12_term_321 rfl ?_
        refine x_callVI (Y2 := mX12_keyOf) (c := t) (As := [(0, x8)]) (S := [(0, 0), (2, t)]) d_X12_term_323 ok_mX12_keyOf ml_X12_141 rfl (Nat.le_of_ble_eq_true rfl) (Nat.le_of_ble_eq_true rfl) rfl hd_1 kX12 o_t (CI.mono h (fun v2 σ1 h => ?_))
        refine r_lload (x := x6) d_X12_term_326 rfl ?_
        refine x_callVI (Y2 := mX12_puts) (c := t) (As := [(0, 0), (0, v2), (1, x6)]) (S := []) d_X12_term_328 ok_mX12_puts ml_X12_147 rfl (Nat.le_of_ble_eq_true rfl) (Nat.le_of_ble_eq_true rfl) rfl hd_1 kX12 o_t (CI.mono h (fun v4 σ3 h => ?_))
        refine r_pop d_X12_term_331 rfl ?_
        exact r_vret d_X12_term_332 rfl (Nat.le_refl 0) (Nat.le_refl 0) ⟨rfl, rfl, rfl, h⟩
  · have h := h.2 hc
    refine r_aload_n (x := t) d_X12_term_136 rfl o_t.1 ?_
    refine x_callVI (Y2 := mX12_see) (c := t) (As := []) (S := []) d_X12_term_137 ok_mX12_see ml_X12_264 rfl (Nat.le_of_ble_eq_true rfl) (Nat.le_of_ble_eq_true rfl) rfl hd_1 kX12 o_t (c_X12_see (v_X12_see_0 o_t f_t_tape ?_))
    refine ⟨fun hc => ?_, fun hc => ?_⟩
    · have h := h.1 hc
      show WP l mX12_term (rm d 0 0) noX _ 0 0 140 [(2, t), (0, x1), (0, x2), (0, x3), (0, x4), (0, x5), (1, x6), (3, 0), (0, x8), (3, 0)] [(0, (-1))] N Λ σ
      refine r_bipush (x := 91) d_X12_term_140 ⟨by decide, by decide⟩ (by decide) ?_
      refine r_ic_ne (tgt := 307) d_X12_term_142 rfl (fun _ => ?_) (fun hc => absurd hc (by decide))
      refine r_iload_n (x := x2) d_X12_term_307 rfl ?_
      refine r_if_eq (tgt := 332) d_X12_term_308 rfl (fun hc => ?_) (fun hc => ?_)
      · have h := h.1 hc
        exact r_vret d_X12_term_332 rfl (Nat.le_refl 0) (Nat.le_refl 0) ⟨rfl, rfl, rfl, h⟩
      · have h := h.2 hc
        refine r_lload (x := x6) d_X12_term_311 rfl ?_
        refine r_lconst d_X12_term_313 ?_
        skip
        refine r_lcmp d_X12_term_314 ?_
        refine r_if_eq (tgt := 332) d_X12_term_315 rfl (fun hc => ?_) (fun hc => ?_)
        · have h := h.1 hc
          exact r_vret d_X12_term_332 rfl (Nat.le_refl 0) (Nat.le_refl 0) ⟨rfl, rfl, rfl, h⟩
        · have h := h.2 hc
          refine r_aload_n (x := t) d_X12_term_318 rfl o_t.1 ?_
          refine r_iconst (x := 0) d_X12_term_319 ⟨by decide, by decide⟩ ?_
          refine r_aload_n (x := t) d_X12_term_320 rfl o_t.1 ?_
          refine r_iload (x := x8) d_X12_term_321 rfl ?_
          refine x_callVI (Y2 := mX12_keyOf) (c := t) (As := [(0, x8)]) (S := [(0, 0), (2, t)]) d_X12_term_323 ok_mX12_keyOf ml_X12_141 rfl (Nat.le_of_ble_eq_true rfl) (Nat.le_of_ble_eq_true rfl) rfl hd_1 kX12 o_t (CI.mono h (fun v6 σ5 h => ?_))
          refine r_lload (x := x6) d_X12_term_326 rfl ?_
          refine x_callVI (Y2 := mX12_puts) (c := t) (As := [(0, 0), (0, v6), (1, x6)]) (S := []) d_X12_term_328 ok_mX12_puts ml_X12_147 rfl (Nat.le_of_ble_eq_true rfl) (Nat.le_of_ble_eq_true rfl) rfl hd_1 kX12 o_t (CI.mono h (fun v8 σ7 h => ?_))
          refine r_pop d_X12_term_331 rfl ?_
          exact r_vret d_X12_term_332 rfl (Nat.le_refl 0) (Nat.le_refl 0) ⟨rfl, rfl, rfl, h⟩
    · have h := h.2 hc
      refine ⟨h.1, ?_⟩
      have h := h.2
      show WP l mX12_term (rm d 0 0) noX _ 0 0 140 [(2, t), (0, x1), (0, x2), (0, x3), (0, x4), (0, x5), (1, x6), (3, 0), (0, x8), (3, 0)] [(0, (andI (σ t_tape (σ t 21)) 255))] N Λ σ
      refine r_bipush (x := 91) d_X12_term_140 ⟨by decide, by decide⟩ (by decide) ?_
      refine r_ic_ne (tgt := 307) d_X12_term_142 rfl (fun hc => ?_) (fun hc => ?_)
      · have h := h.1 hc
        refine r_iload_n (x := x2) d_X12_term_307 rfl ?_
        refine r_if_eq (tgt := 332) d_X12_term_308 rfl (fun hc => ?_) (fun hc => ?_)
        · have h := h.1 hc
          exact r_vret d_X12_term_332 rfl (Nat.le_refl 0) (Nat.le_refl 0) ⟨rfl, rfl, rfl, h⟩
        · have h := h.2 hc
          refine r_lload (x := x6) d_X12_term_311 rfl ?_
          refine r_lconst d_X12_term_313 ?_
          skip
          refine r_lcmp d_X12_term_314 ?_
          refine r_if_eq (tgt := 332) d_X12_term_315 rfl (fun hc => ?_) (fun hc => ?_)
          · have h := h.1 hc
            exact r_vret d_X12_term_332 rfl (Nat.le_refl 0) (Nat.le_refl 0) ⟨rfl, rfl, rfl, h⟩
          · have h := h.2 hc
            refine r_aload_n (x := t) d_X12_term_318 rfl o_t.1 ?_
            refine r_iconst (x := 0) d_X12_term_319 ⟨by decide, by decide⟩ ?_
            refine r_aload_n (x := t) d_X12_term_320 rfl o_t.1 ?_
            refine r_iload (x := x8) d_X12_term_321 rfl ?_
            refine x_callVI (Y2 := mX12_keyOf) (c := t) (As := [(0, x8)]) (S := [(0, 0), (2, t)]) d_X12_term_323 ok_mX12_keyOf ml_X12_141 rfl (Nat.le_of_ble_eq_true rfl) (Nat.le_of_ble_eq_true rfl) rfl hd_1 kX12 o_t (CI.mono h (fun v10 σ9 h => ?_))
            refine r_lload (x := x6) d_X12_term_326 rfl ?_
            refine x_callVI (Y2 := mX12_puts) (c := t) (As := [(0, 0), (0, v10), (1, x6)]) (S := []) d_X12_term_328 ok_mX12_puts ml_X12_147 rfl (Nat.le_of_ble_eq_true rfl) (Nat.le_of_ble_eq_true rfl) rfl hd_1 kX12 o_t (CI.mono h (fun v12 σ11 h => ?_))
            refine r_pop d_X12_term_331 rfl ?_
            exact r_vret d_X12_term_332 rfl (Nat.le_refl 0) (Nat.le_refl 0) ⟨rfl, rfl, rfl, h⟩
      · have h := h.2 hc
        refine r_iload (x := x8) d_X12_term_145 rfl ?_
        refine r_iconst (x := 4) d_X12_term_147 ⟨by decide, by decide⟩ ?_
        refine r_ic_ne (tgt := 161) d_X12_term_148 rfl (fun hc => ?_) (fun hc => ?_)
        · have h := h.1 hc
          refine r_aload_n (x := t) d_X12_term_161 rfl o_t.1 ?_
          refine r_dup d_X12_term_162 rfl ?_
          refine r_getf (j := 21) (t := 0) (x := (σ t 21)) d_X12_term_163 kX12 (by decide) fl_X12_255 o_t.1 o_t.2.1 o_t.2.2.1 o_t.2.2.2 rfl rfl ?_
          refine r_iconst (x := 1) d_X12_term_166 ⟨by decide, by decide⟩ ?_
          refine r_iadd d_X12_term_167 ?_
          refine r_putI (j := 21) d_X12_term_168 kX12 (by decide) fl_X12_255 rfl o_t.1 o_t.2.1 o_t.2.2.1 o_t.2.2.2 rfl ?_
          refine r_nmM (fun τ13 eτ13 => ?_)
          have h := h τ13 eτ13
          refine r_iconst (x := 0) d_X12_term_171 ⟨by decide, by decide⟩ ?_
          refine r_istore (L2 := [(2, t), (0, x1), (0, x2), (0, x3), (0, x4), (0, x5), (1, x6), (3, 0), (0, x8), (0, 0)]) d_X12_term_172 (by decide) rfl rfl ?_
          exact h
        · have h := h.2 hc
          refine r_aload_n (x := t) d_X12_term_151 rfl o_t.1 ?_
          refine r_iconst (x := 3) d_X12_term_152 ⟨by decide, by decide⟩ ?_
          refine r_aload_n (x := t) d_X12_term_153 rfl o_t.1 ?_
          refine r_getf (j := 21) (t := 0) (x := (σ t 21)) d_X12_term_154 kX12 (by decide) fl_X12_255 o_t.1 o_t.2.1 o_t.2.2.1 o_t.2.2.2 rfl rfl ?_
          refine x_callVV (Y2 := mX12_wrongs) (c := t) (As := [(0, 3), (0, (σ t 21))]) (S := []) d_X12_term_157 ok_mX12_wrongs ml_X12_276 rfl (Nat.le_of_ble_eq_true rfl) (Nat.le_of_ble_eq_true rfl) rfl hd_1 kX12 o_t (c_X12_wrongs (v_X12_wrongs_0 o_t ?_))
          refine ⟨fun hc => ?_, fun hc => ?_⟩
          · have h := h.1 hc
            intro τ14 eτ14
            have h := h τ14 eτ14
            intro τ15 eτ15
            have h := h τ15 eτ15
            show WP l mX12_term (rm d 0 0) noX _ 0 0 160 [(2, t), (0, x1), (0, x2), (0, x3), (0, x4), (0, x5), (1, x6), (3, 0), (0, x8), (3, 0)] [] N Λ τ15
            exact r_vret d_X12_term_160 rfl (Nat.le_refl 0) (Nat.le_refl 0) ⟨rfl, rfl, rfl, h⟩
          · have h := h.2 hc
            show WP l mX12_term (rm d 0 0) noX _ 0 0 160 [(2, t), (0, x1), (0, x2), (0, x3), (0, x4), (0, x5), (1, x6), (3, 0), (0, x8), (3, 0)] [] N Λ σ
            exact r_vret d_X12_term_160 rfl (Nat.le_refl 0) (Nat.le_refl 0) ⟨rfl, rfl, rfl, h⟩
theorem v_X12_term_174 {l : Launch} {d N : Nat} {Λ : Lay} {P : Mem → Prop} {σ : Mem} {x1 x2 x3 x4 x5 x6 x8 x9 t t_rankOf t_ranks t_tape : Int} (o_t : Ob N Λ t 21 36) (f_t_tape : (Λ t).2.2 18 = t_tape) (f_t_rankOf : (Λ t).2.2 1 = t_rankOf) (f_t_ranks : (Λ t).2.2 9 = t_ranks) (h0d : 2 ≤ d)
    (h : ((3 ≤ x9 → (((σ t 20) ≤ (σ t 21) → (((σ t 22) = 0 → (((0 : Int) = 0 → (((σ t 22) = 0 → (∀ τ1, τ1 = st σ t 22 1 → (∀ τ2, τ2 = st τ1 t 23 (σ t 21) → (((τ2 t 22) = 0 → (Ix N Λ t_tape 6 (subI (τ2 t 21) 4) ∧ (Ix N Λ t_tape 6 (subI (τ2 t 21) 3) ∧ (Ix N Λ t_tape 6 (subI (τ2 t 21) 2) ∧ (Ix N Λ t_rankOf 0 (addI (addI (mulI 100 (subI (τ2 t_tape (subI (τ2 t 21) 4)) 97)) (mulI 10 (subI (τ2 t_tape (subI (τ2 t 21) 3)) 97))) (subI (τ2 t_tape (subI (τ2 t 21) 2)) 97)) ∧ (∀ y3, y3 = (τ2 t_rankOf (addI (addI (mulI 100 (subI (τ2 t_tape (subI (τ2 t 21) 4)) 97)) (mulI 10 (subI (τ2 t_tape (subI (τ2 t 21) 3)) 97))) (subI (τ2 t_tape (subI (τ2 t 21) 2)) 97))) → ((0 ≤ y3 → ((¬ y3 = 0 → ((0 ≤ y3 → (Ix N Λ t_ranks 0 x8 ∧ (∀ τ4, τ4 = st τ2 t_ranks x8 y3 → (∀ y5, y5 = addI x8 1 → WV l mX12_term d P 129 [(2, t), (0, x1), (0, x2), (0, x3), (0, x4), (0, x5), (1, x6), (3, 0), (0, y5), (3, 0)] [] N Λ τ4)))) ∧ (¬ (0 ≤ y3) → (Ix N Λ t_ranks 0 x8 ∧ (∀ τ6, τ6 = st τ2 t_ranks x8 (negI y3) → (∀ y7, y7 = addI x8 1 → WV l mX12_term d P 129 [(2, t), (0, x1), (0, x2), (0, x3), (0, x4), (0, x5), (1, x6), (3, 0), (0, y7), (3, 0)] [] N Λ τ6)))))) ∧ (y3 = 0 → ((0 ≤ y3 → (Ix N Λ t_ranks 0 x8 ∧ (∀ τ8, τ8 = st τ2 t_ranks x8 y3 → (∀ y9, y9 = addI x8 1 → WV l mX12_term d P 129 [(2, t), (0, x1), (0, x2), (0, x3), (0, x4), (0, x5), (1, 0), (3, 0), (0, y9), (3, 0)] [] N Λ τ8)))) ∧ (¬ (0 ≤ y3) → (Ix N Λ t_ranks 0 x8 ∧ (∀ τ10, τ10 = st τ2 t_ranks x8 (negI y3) → (∀ y11, y11 = addI x8 1 → WV l mX12_term d P 129 [(2, t), (0, x1), (0, x2), (0, x3), (0, x4), (0, x5), (1, 0), (3, 0), (0, y11), (3, 0)] [] N Λ τ10)))))))) ∧ (¬ (0 ≤ y3) → (∀ y12, y12 = (negL x6) → ((0 ≤ y3 → (Ix N Λ t_ranks 0 x8 ∧ (∀ τ13, τ13 = st τ2 t_ranks x8 y3 → (∀ y14, y14 = addI x8 1 → WV l mX12_term d P 129 [(2, t), (0, x1), (0, x2), (0, x3), (0, x4), (0, x5), (1, y12), (3, 0), (0, y14), (3, 0)] [] N Λ τ13)))) ∧ (¬ (0 ≤ y3) → (Ix N Λ t_ranks 0 x8 ∧ (∀ τ15, τ15 = st τ2 t_ranks x8 (negI y3) → (∀ y16, y16 = addI x8 1 → WV l mX12_term d P 129 [(2, t), (0, x1), (0, x2), (0, x3), (0, x4), (0, x5), (1, y12), (3, 0), (0, y16), (3, 0)] [] N Λ τ15)))))))))))))) ∧ (¬ ((τ2 t 22) = 0) → P τ2))))) ∧ (¬ ((σ t 22) = 0) → (((σ t 22) = 0 → (Ix N Λ t_tape 6 (subI (σ t 21) 4) ∧ (Ix N Λ t_tape 6 (subI (σ t 21) 3) ∧ (Ix N Λ t_tape 6 (subI (σ t 21) 2) ∧ (Ix N Λ t_rankOf 0 (addI (addI (mulI 100 (subI (σ t_tape (subI (σ t 21) 4)) 97)) (mulI 10 (subI (σ t_tape (subI (σ t 21) 3)) 97))) (subI (σ t_tape (subI (σ t 21) 2)) 97)) ∧ (∀ y17, y17 = (σ t_rankOf (addI (addI (mulI 100 (subI (σ t_tape (subI (σ t 21) 4)) 97)) (mulI 10 (subI (σ t_tape (subI (σ t 21) 3)) 97))) (subI (σ t_tape (subI (σ t 21) 2)) 97))) → ((0 ≤ y17 → ((¬ y17 = 0 → ((0 ≤ y17 → (Ix N Λ t_ranks 0 x8 ∧ (∀ τ18, τ18 = st σ t_ranks x8 y17 → (∀ y19, y19 = addI x8 1 → WV l mX12_term d P 129 [(2, t), (0, x1), (0, x2), (0, x3), (0, x4), (0, x5), (1, x6), (3, 0), (0, y19), (3, 0)] [] N Λ τ18)))) ∧ (¬ (0 ≤ y17) → (Ix N Λ t_ranks 0 x8 ∧ (∀ τ20, τ20 = st σ t_ranks x8 (negI y17) → (∀ y21, y21 = addI x8 1 → WV l mX12_term d P 129 [(2, t), (0, x1), (0, x2), (0, x3), (0, x4), (0, x5), (1, x6), (3, 0), (0, y21), (3, 0)] [] N Λ τ20)))))) ∧ (y17 = 0 → ((0 ≤ y17 → (Ix N Λ t_ranks 0 x8 ∧ (∀ τ22, τ22 = st σ t_ranks x8 y17 → (∀ y23, y23 = addI x8 1 → WV l mX12_term d P 129 [(2, t), (0, x1), (0, x2), (0, x3), (0, x4), (0, x5), (1, 0), (3, 0), (0, y23), (3, 0)] [] N Λ τ22)))) ∧ (¬ (0 ≤ y17) → (Ix N Λ t_ranks 0 x8 ∧ (∀ τ24, τ24 = st σ t_ranks x8 (negI y17) → (∀ y25, y25 = addI x8 1 → WV l mX12_term d P 129 [(2, t), (0, x1), (0, x2), (0, x3), (0, x4), (0, x5), (1, 0), (3, 0), (0, y25), (3, 0)] [] N Λ τ24)))))))) ∧ (¬ (0 ≤ y17) → (∀ y26, y26 = (negL x6) → ((0 ≤ y17 → (Ix N Λ t_ranks 0 x8 ∧ (∀ τ27, τ27 = st σ t_ranks x8 y17 → (∀ y28, y28 = addI x8 1 → WV l mX12_term d P 129 [(2, t), (0, x1), (0, x2), (0, x3), (0, x4), (0, x5), (1, y26), (3, 0), (0, y28), (3, 0)] [] N Λ τ27)))) ∧ (¬ (0 ≤ y17) → (Ix N Λ t_ranks 0 x8 ∧ (∀ τ29, τ29 = st σ t_ranks x8 (negI y17) → (∀ y30, y30 = addI x8 1 → WV l mX12_term d P 129 [(2, t), (0, x1), (0, x2), (0, x3), (0, x4), (0, x5), (1, y26), (3, 0), (0, y30), (3, 0)] [] N Λ τ29)))))))))))))) ∧ (¬ ((σ t 22) = 0) → P σ))))) ∧ (¬ ((0 : Int) = 0) → (∀ τ31, τ31 = st σ t 21 (addI (σ t 21) 1) → (((τ31 t 22) = 0 → (Ix N Λ t_tape 6 (subI (τ31 t 21) 4) ∧ (Ix N Λ t_tape 6 (subI (τ31 t 21) 3) ∧ (Ix N Λ t_tape 6 (subI (τ31 t 21) 2) ∧ (Ix N Λ t_rankOf 0 (addI (addI (mulI 100 (subI (τ31 t_tape (subI (τ31 t 21) 4)) 97)) (mulI 10 (subI (τ31 t_tape (subI (τ31 t 21) 3)) 97))) (subI (τ31 t_tape (subI (τ31 t 21) 2)) 97)) ∧ (∀ y32, y32 = (τ31 t_rankOf (addI (addI (mulI 100 (subI (τ31 t_tape (subI (τ31 t 21) 4)) 97)) (mulI 10 (subI (τ31 t_tape (subI (τ31 t 21) 3)) 97))) (subI (τ31 t_tape (subI (τ31 t 21) 2)) 97))) → ((0 ≤ y32 → ((¬ y32 = 0 → ((0 ≤ y32 → (Ix N Λ t_ranks 0 x8 ∧ (∀ τ33, τ33 = st τ31 t_ranks x8 y32 → (∀ y34, y34 = addI x8 1 → WV l mX12_term d P 129 [(2, t), (0, x1), (0, x2), (0, x3), (0, x4), (0, x5), (1, x6), (3, 0), (0, y34), (3, 0)] [] N Λ τ33)))) ∧ (¬ (0 ≤ y32) → (Ix N Λ t_ranks 0 x8 ∧ (∀ τ35, τ35 = st τ31 t_ranks x8 (negI y32) → (∀ y36, y36 = addI x8 1 → WV l mX12_term d P 129 [(2, t), (0, x1), (0, x2), (0, x3), (0, x4), (0, x5), (1, x6), (3, 0), (0, y36), (3, 0)] [] N Λ τ35)))))) ∧ (y32 = 0 → ((0 ≤ y32 → (Ix N Λ t_ranks 0 x8 ∧ (∀ τ37, τ37 = st τ31 t_ranks x8 y32 → (∀ y38, y38 = addI x8 1 → WV l mX12_term d P 129 [(2, t), (0, x1), (0, x2), (0, x3), (0, x4), (0, x5), (1, 0), (3, 0), (0, y38), (3, 0)] [] N Λ τ37)))) ∧ (¬ (0 ≤ y32) → (Ix N Λ t_ranks 0 x8 ∧ (∀ τ39, τ39 = st τ31 t_ranks x8 (negI y32) → (∀ y40, y40 = addI x8 1 → WV l mX12_term d P 129 [(2, t), (0, x1), (0, x2), (0, x3), (0, x4), (0, x5), (1, 0), (3, 0), (0, y40), (3, 0)] [] N Λ τ39)))))))) ∧ (¬ (0 ≤ y32) → (∀ y41, y41 = (negL x6) → ((0 ≤ y32 → (Ix N Λ t_ranks 0 x8 ∧ (∀ τ42, τ42 = st τ31 t_ranks x8 y32 → (∀ y43, y43 = addI x8 1 → WV l mX12_term d P 129 [(2, t), (0, x1), (0, x2), (0, x3), (0, x4), (0, x5), (1, y41), (3, 0), (0, y43), (3, 0)] [] N Λ τ42)))) ∧ (¬ (0 ≤ y32) → (Ix N Λ t_ranks 0 x8 ∧ (∀ τ44, τ44 = st τ31 t_ranks x8 (negI y32) → (∀ y45, y45 = addI x8 1 → WV l mX12_term d P 129 [(2, t), (0, x1), (0, x2), (0, x3), (0, x4), (0, x5), (1, y41), (3, 0), (0, y45), (3, 0)] [] N Λ τ44)))))))))))))) ∧ (¬ ((τ31 t 22) = 0) → P τ31)))))) ∧ (¬ ((σ t 22) = 0) → (((σ t 22) = 0 → (Ix N Λ t_tape 6 (subI (σ t 21) 4) ∧ (Ix N Λ t_tape 6 (subI (σ t 21) 3) ∧ (Ix N Λ t_tape 6 (subI (σ t 21) 2) ∧ (Ix N Λ t_rankOf 0 (addI (addI (mulI 100 (subI (σ t_tape (subI (σ t 21) 4)) 97)) (mulI 10 (subI (σ t_tape (subI (σ t 21) 3)) 97))) (subI (σ t_tape (subI (σ t 21) 2)) 97)) ∧ (∀ y46, y46 = (σ t_rankOf (addI (addI (mulI 100 (subI (σ t_tape (subI (σ t 21) 4)) 97)) (mulI 10 (subI (σ t_tape (subI (σ t 21) 3)) 97))) (subI (σ t_tape (subI (σ t 21) 2)) 97))) → ((0 ≤ y46 → ((¬ y46 = 0 → ((0 ≤ y46 → (Ix N Λ t_ranks 0 x8 ∧ (∀ τ47, τ47 = st σ t_ranks x8 y46 → (∀ y48, y48 = addI x8 1 → WV l mX12_term d P 129 [(2, t), (0, x1), (0, x2), (0, x3), (0, x4), (0, x5), (1, x6), (3, 0), (0, y48), (3, 0)] [] N Λ τ47)))) ∧ (¬ (0 ≤ y46) → (Ix N Λ t_ranks 0 x8 ∧ (∀ τ49, τ49 = st σ t_ranks x8 (negI y46) → (∀ y50, y50 = addI x8 1 → WV l mX12_term d P 129 [(2, t), (0, x1), (0, x2), (0, x3), (0, x4), (0, x5), (1, x6), (3, 0), (0, y50), (3, 0)] [] N Λ τ49)))))) ∧ (y46 = 0 → ((0 ≤ y46 → (Ix N Λ t_ranks 0 x8 ∧ (∀ τ51, τ51 = st σ t_ranks x8 y46 → (∀ y52, y52 = addI x8 1 → WV l mX12_term d P 129 [(2, t), (0, x1), (0, x2), (0, x3), (0, x4), (0, x5), (1, 0), (3, 0), (0, y52), (3, 0)] [] N Λ τ51)))) ∧ (¬ (0 ≤ y46) → (Ix N Λ t_ranks 0 x8 ∧ (∀ τ53, τ53 = st σ t_ranks x8 (negI y46) → (∀ y54, y54 = addI x8 1 → WV l mX12_term d P 129 [(2, t), (0, x1), (0, x2), (0, x3), (0, x4), (0, x5), (1, 0), (3, 0), (0, y54), (3, 0)] [] N Λ τ53)))))))) ∧ (¬ (0 ≤ y46) → (∀ y55, y55 = (negL x6) → ((0 ≤ y46 → (Ix N Λ t_ranks 0 x8 ∧ (∀ τ56, τ56 = st σ t_ranks x8 y46 → (∀ y57, y57 = addI x8 1 → WV l mX12_term d P 129 [(2, t), (0, x1), (0, x2), (0, x3), (0, x4), (0, x5), (1, y55), (3, 0), (0, y57), (3, 0)] [] N Λ τ56)))) ∧ (¬ (0 ≤ y46) → (Ix N Λ t_ranks 0 x8 ∧ (∀ τ58, τ58 = st σ t_ranks x8 (negI y46) → (∀ y59, y59 = addI x8 1 → WV l mX12_term d P 129 [(2, t), (0, x1), (0, x2), (0, x3), (0, x4), (0, x5), (1, y55), (3, 0), (0, y59), (3, 0)] [] N Λ τ58)))))))))))))) ∧ (¬ ((σ t 22) = 0) → P σ))))) ∧ (¬ ((σ t 20) ≤ (σ t 21)) → (Ix N Λ t_tape 6 (σ t 21) ∧ ((¬ (andI (σ t_tape (σ t 21)) 255) = 93 → (((σ t 22) = 0 → (((0 : Int) = 0 → (((σ t 22) = 0 → (∀ τ60, τ60 = st σ t 22 1 → (∀ τ61, τ61 = st τ60 t 23 (σ t 21) → (((τ61 t 22) = 0 → (Ix N Λ t_tape 6 (subI (τ61 t 21) 4) ∧ (Ix N Λ t_tape 6 (subI (τ61 t 21) 3) ∧ (Ix N Λ t_tape 6 (subI (τ61 t 21) 2) ∧ (Ix N Λ t_rankOf 0 (addI (addI (mulI 100 (subI (τ61 t_tape (subI (τ61 t 21) 4)) 97)) (mulI 10 (subI (τ61 t_tape (subI (τ61 t 21) 3)) 97))) (subI (τ61 t_tape (subI (τ61 t 21) 2)) 97)) ∧ (∀ y62, y62 = (τ61 t_rankOf (addI (addI (mulI 100 (subI (τ61 t_tape (subI (τ61 t 21) 4)) 97)) (mulI 10 (subI (τ61 t_tape (subI (τ61 t 21) 3)) 97))) (subI (τ61 t_tape (subI (τ61 t 21) 2)) 97))) → ((0 ≤ y62 → ((¬ y62 = 0 → ((0 ≤ y62 → (Ix N Λ t_ranks 0 x8 ∧ (∀ τ63, τ63 = st τ61 t_ranks x8 y62 → (∀ y64, y64 = addI x8 1 → WV l mX12_term d P 129 [(2, t), (0, x1), (0, x2), (0, x3), (0, x4), (0, x5), (1, x6), (3, 0), (0, y64), (3, 0)] [] N Λ τ63)))) ∧ (¬ (0 ≤ y62) → (Ix N Λ t_ranks 0 x8 ∧ (∀ τ65, τ65 = st τ61 t_ranks x8 (negI y62) → (∀ y66, y66 = addI x8 1 → WV l mX12_term d P 129 [(2, t), (0, x1), (0, x2), (0, x3), (0, x4), (0, x5), (1, x6), (3, 0), (0, y66), (3, 0)] [] N Λ τ65)))))) ∧ (y62 = 0 → ((0 ≤ y62 → (Ix N Λ t_ranks 0 x8 ∧ (∀ τ67, τ67 = st τ61 t_ranks x8 y62 → (∀ y68, y68 = addI x8 1 → WV l mX12_term d P 129 [(2, t), (0, x1), (0, x2), (0, x3), (0, x4), (0, x5), (1, 0), (3, 0), (0, y68), (3, 0)] [] N Λ τ67)))) ∧ (¬ (0 ≤ y62) → (Ix N Λ t_ranks 0 x8 ∧ (∀ τ69, τ69 = st τ61 t_ranks x8 (negI y62) → (∀ y70, y70 = addI x8 1 → WV l mX12_term d P 129 [(2, t), (0, x1), (0, x2), (0, x3), (0, x4), (0, x5), (1, 0), (3, 0), (0, y70), (3, 0)] [] N Λ τ69)))))))) ∧ (¬ (0 ≤ y62) → (∀ y71, y71 = (negL x6) → ((0 ≤ y62 → (Ix N Λ t_ranks 0 x8 ∧ (∀ τ72, τ72 = st τ61 t_ranks x8 y62 → (∀ y73, y73 = addI x8 1 → WV l mX12_term d P 129 [(2, t), (0, x1), (0, x2), (0, x3), (0, x4), (0, x5), (1, y71), (3, 0), (0, y73), (3, 0)] [] N Λ τ72)))) ∧ (¬ (0 ≤ y62) → (Ix N Λ t_ranks 0 x8 ∧ (∀ τ74, τ74 = st τ61 t_ranks x8 (negI y62) → (∀ y75, y75 = addI x8 1 → WV l mX12_term d P 129 [(2, t), (0, x1), (0, x2), (0, x3), (0, x4), (0, x5), (1, y71), (3, 0), (0, y75), (3, 0)] [] N Λ τ74)))))))))))))) ∧ (¬ ((τ61 t 22) = 0) → P τ61))))) ∧ (¬ ((σ t 22) = 0) → (((σ t 22) = 0 → (Ix N Λ t_tape 6 (subI (σ t 21) 4) ∧ (Ix N Λ t_tape 6 (subI (σ t 21) 3) ∧ (Ix N Λ t_tape 6 (subI (σ t 21) 2) ∧ (Ix N Λ t_rankOf 0 (addI (addI (mulI 100 (subI (σ t_tape (subI (σ t 21) 4)) 97)) (mulI 10 (subI (σ t_tape (subI (σ t 21) 3)) 97))) (subI (σ t_tape (subI (σ t 21) 2)) 97)) ∧ (∀ y76, y76 = (σ t_rankOf (addI (addI (mulI 100 (subI (σ t_tape (subI (σ t 21) 4)) 97)) (mulI 10 (subI (σ t_tape (subI (σ t 21) 3)) 97))) (subI (σ t_tape (subI (σ t 21) 2)) 97))) → ((0 ≤ y76 → ((¬ y76 = 0 → ((0 ≤ y76 → (Ix N Λ t_ranks 0 x8 ∧ (∀ τ77, τ77 = st σ t_ranks x8 y76 → (∀ y78, y78 = addI x8 1 → WV l mX12_term d P 129 [(2, t), (0, x1), (0, x2), (0, x3), (0, x4), (0, x5), (1, x6), (3, 0), (0, y78), (3, 0)] [] N Λ τ77)))) ∧ (¬ (0 ≤ y76) → (Ix N Λ t_ranks 0 x8 ∧ (∀ τ79, τ79 = st σ t_ranks x8 (negI y76) → (∀ y80, y80 = addI x8 1 → WV l mX12_term d P 129 [(2, t), (0, x1), (0, x2), (0, x3), (0, x4), (0, x5), (1, x6), (3, 0), (0, y80), (3, 0)] [] N Λ τ79)))))) ∧ (y76 = 0 → ((0 ≤ y76 → (Ix N Λ t_ranks 0 x8 ∧ (∀ τ81, τ81 = st σ t_ranks x8 y76 → (∀ y82, y82 = addI x8 1 → WV l mX12_term d P 129 [(2, t), (0, x1), (0, x2), (0, x3), (0, x4), (0, x5), (1, 0), (3, 0), (0, y82), (3, 0)] [] N Λ τ81)))) ∧ (¬ (0 ≤ y76) → (Ix N Λ t_ranks 0 x8 ∧ (∀ τ83, τ83 = st σ t_ranks x8 (negI y76) → (∀ y84, y84 = addI x8 1 → WV l mX12_term d P 129 [(2, t), (0, x1), (0, x2), (0, x3), (0, x4), (0, x5), (1, 0), (3, 0), (0, y84), (3, 0)] [] N Λ τ83)))))))) ∧ (¬ (0 ≤ y76) → (∀ y85, y85 = (negL x6) → ((0 ≤ y76 → (Ix N Λ t_ranks 0 x8 ∧ (∀ τ86, τ86 = st σ t_ranks x8 y76 → (∀ y87, y87 = addI x8 1 → WV l mX12_term d P 129 [(2, t), (0, x1), (0, x2), (0, x3), (0, x4), (0, x5), (1, y85), (3, 0), (0, y87), (3, 0)] [] N Λ τ86)))) ∧ (¬ (0 ≤ y76) → (Ix N Λ t_ranks 0 x8 ∧ (∀ τ88, τ88 = st σ t_ranks x8 (negI y76) → (∀ y89, y89 = addI x8 1 → WV l mX12_term d P 129 [(2, t), (0, x1), (0, x2), (0, x3), (0, x4), (0, x5), (1, y85), (3, 0), (0, y89), (3, 0)] [] N Λ τ88)))))))))))))) ∧ (¬ ((σ t 22) = 0) → P σ))))) ∧ (¬ ((0 : Int) = 0) → (∀ τ90, τ90 = st σ t 21 (addI (σ t 21) 1) → (((τ90 t 22) = 0 → (Ix N Λ t_tape 6 (subI (τ90 t 21) 4) ∧ (Ix N Λ t_tape 6 (subI (τ90 t 21) 3) ∧ (Ix N Λ t_tape 6 (subI (τ90 t 21) 2) ∧ (Ix N Λ t_rankOf 0 (addI (addI (mulI 100 (subI (τ90 t_tape (subI (τ90 t 21) 4)) 97)) (mulI 10 (subI (τ90 t_tape (subI (τ90 t 21) 3)) 97))) (subI (τ90 t_tape (subI (τ90 t 21) 2)) 97)) ∧ (∀ y91, y91 = (τ90 t_rankOf (addI (addI (mulI 100 (subI (τ90 t_tape (subI (τ90 t 21) 4)) 97)) (mulI 10 (subI (τ90 t_tape (subI (τ90 t 21) 3)) 97))) (subI (τ90 t_tape (subI (τ90 t 21) 2)) 97))) → ((0 ≤ y91 → ((¬ y91 = 0 → ((0 ≤ y91 → (Ix N Λ t_ranks 0 x8 ∧ (∀ τ92, τ92 = st τ90 t_ranks x8 y91 → (∀ y93, y93 = addI x8 1 → WV l mX12_term d P 129 [(2, t), (0, x1), (0, x2), (0, x3), (0, x4), (0, x5), (1, x6), (3, 0), (0, y93), (3, 0)] [] N Λ τ92)))) ∧ (¬ (0 ≤ y91) → (Ix N Λ t_ranks 0 x8 ∧ (∀ τ94, τ94 = st τ90 t_ranks x8 (negI y91) → (∀ y95, y95 = addI x8 1 → WV l mX12_term d P 129 [(2, t), (0, x1), (0, x2), (0, x3), (0, x4), (0, x5), (1, x6), (3, 0), (0, y95), (3, 0)] [] N Λ τ94)))))) ∧ (y91 = 0 → ((0 ≤ y91 → (Ix N Λ t_ranks 0 x8 ∧ (∀ τ96, τ96 = st τ90 t_ranks x8 y91 → (∀ y97, y97 = addI x8 1 → WV l mX12_term d P 129 [(2, t), (0, x1), (0, x2), (0, x3), (0, x4), (0, x5), (1, 0), (3, 0), (0, y97), (3, 0)] [] N Λ τ96)))) ∧ (¬ (0 ≤ y91) → (Ix N Λ t_ranks 0 x8 ∧ (∀ τ98, τ98 = st τ90 t_ranks x8 (negI y91) → (∀ y99, y99 = addI x8 1 → WV l mX12_term d P 129 [(2, t), (0, x1), (0, x2), (0, x3), (0, x4), (0, x5), (1, 0), (3, 0), (0, y99), (3, 0)] [] N Λ τ98)))))))) ∧ (¬ (0 ≤ y91) → (∀ y100, y100 = (negL x6) → ((0 ≤ y91 → (Ix N Λ t_ranks 0 x8 ∧ (∀ τ101, τ101 = st τ90 t_ranks x8 y91 → (∀ y102, y102 = addI x8 1 → WV l mX12_term d P 129 [(2, t), (0, x1), (0, x2), (0, x3), (0, x4), (0, x5), (1, y100), (3, 0), (0, y102), (3, 0)] [] N Λ τ101)))) ∧ (¬ (0 ≤ y91) → (Ix N Λ t_ranks 0 x8 ∧ (∀ τ103, τ103 = st τ90 t_ranks x8 (negI y91) → (∀ y104, y104 = addI x8 1 → WV l mX12_term d P 129 [(2, t), (0, x1), (0, x2), (0, x3), (0, x4), (0, x5), (1, y100), (3, 0), (0, y104), (3, 0)] [] N Λ τ103)))))))))))))) ∧ (¬ ((τ90 t 22) = 0) → P τ90)))))) ∧ (¬ ((σ t 22) = 0) → (((σ t 22) = 0 → (Ix N Λ t_tape 6 (subI (σ t 21) 4) ∧ (Ix N Λ t_tape 6 (subI (σ t 21) 3) ∧ (Ix N Λ t_tape 6 (subI (σ t 21) 2) ∧ (Ix N Λ t_rankOf 0 (addI (addI (mulI 100 (subI (σ t_tape (subI (σ t 21) 4)) 97)) (mulI 10 (subI (σ t_tape (subI (σ t 21) 3)) 97))) (subI (σ t_tape (subI (σ t 21) 2)) 97)) ∧ (∀ y105, y105 = (σ t_rankOf (addI (addI (mulI 100 (subI (σ t_tape (subI (σ t 21) 4)) 97)) (mulI 10 (subI (σ t_tape (subI (σ t 21) 3)) 97))) (subI (σ t_tape (subI (σ t 21) 2)) 97))) → ((0 ≤ y105 → ((¬ y105 = 0 → ((0 ≤ y105 → (Ix N Λ t_ranks 0 x8 ∧ (∀ τ106, τ106 = st σ t_ranks x8 y105 → (∀ y107, y107 = addI x8 1 → WV l mX12_term d P 129 [(2, t), (0, x1), (0, x2), (0, x3), (0, x4), (0, x5), (1, x6), (3, 0), (0, y107), (3, 0)] [] N Λ τ106)))) ∧ (¬ (0 ≤ y105) → (Ix N Λ t_ranks 0 x8 ∧ (∀ τ108, τ108 = st σ t_ranks x8 (negI y105) → (∀ y109, y109 = addI x8 1 → WV l mX12_term d P 129 [(2, t), (0, x1), (0, x2), (0, x3), (0, x4), (0, x5), (1, x6), (3, 0), (0, y109), (3, 0)] [] N Λ τ108)))))) ∧ (y105 = 0 → ((0 ≤ y105 → (Ix N Λ t_ranks 0 x8 ∧ (∀ τ110, τ110 = st σ t_ranks x8 y105 → (∀ y111, y111 = addI x8 1 → WV l mX12_term d P 129 [(2, t), (0, x1), (0, x2), (0, x3), (0, x4), (0, x5), (1, 0), (3, 0), (0, y111), (3, 0)] [] N Λ τ110)))) ∧ (¬ (0 ≤ y105) → (Ix N Λ t_ranks 0 x8 ∧ (∀ τ112, τ112 = st σ t_ranks x8 (negI y105) → (∀ y113, y113 = addI x8 1 → WV l mX12_term d P 129 [(2, t), (0, x1), (0, x2), (0, x3), (0, x4), (0, x5), (1, 0), (3, 0), (0, y113), (3, 0)] [] N Λ τ112)))))))) ∧ (¬ (0 ≤ y105) → (∀ y114, y114 = (negL x6) → ((0 ≤ y105 → (Ix N Λ t_ranks 0 x8 ∧ (∀ τ115, τ115 = st σ t_ranks x8 y105 → (∀ y116, y116 = addI x8 1 → WV l mX12_term d P 129 [(2, t), (0, x1), (0, x2), (0, x3), (0, x4), (0, x5), (1, y114), (3, 0), (0, y116), (3, 0)] [] N Λ τ115)))) ∧ (¬ (0 ≤ y105) → (Ix N Λ t_ranks 0 x8 ∧ (∀ τ117, τ117 = st σ t_ranks x8 (negI y105) → (∀ y118, y118 = addI x8 1 → WV l mX12_term d P 129 [(2, t), (0, x1), (0, x2), (0, x3), (0, x4), (0, x5), (1, y114), (3, 0), (0, y118), (3, 0)] [] N Λ τ117)))))))))))))) ∧ (¬ ((σ t 22) = 0) → P σ))))) ∧ ((andI (σ t_tape (σ t 21)) 255) = 93 → (((σ t 22) = 0 → (((1 : Int) = 0 → (((σ t 22) = 0 → (∀ τ119, τ119 = st σ t 22 1 → (∀ τ120, τ120 = st τ119 t 23 (σ t 21) → (((τ120 t 22) = 0 → (Ix N Λ t_tape 6 (subI (τ120 t 21) 4) ∧ (Ix N Λ t_tape 6 (subI (τ120 t 21) 3) ∧ (Ix N Λ t_tape 6 (subI (τ120 t 21) 2) ∧ (Ix N Λ t_rankOf 0 (addI (addI (mulI 100 (subI (τ120 t_tape (subI (τ120 t 21) 4)) 97)) (mulI 10 (subI (τ120 t_tape (subI (τ120 t 21) 3)) 97))) (subI (τ120 t_tape (subI (τ120 t 21) 2)) 97)) ∧ (∀ y121, y121 = (τ120 t_rankOf (addI (addI (mulI 100 (subI (τ120 t_tape (subI (τ120 t 21) 4)) 97)) (mulI 10 (subI (τ120 t_tape (subI (τ120 t 21) 3)) 97))) (subI (τ120 t_tape (subI (τ120 t 21) 2)) 97))) → ((0 ≤ y121 → ((¬ y121 = 0 → ((0 ≤ y121 → (Ix N Λ t_ranks 0 x8 ∧ (∀ τ122, τ122 = st τ120 t_ranks x8 y121 → (∀ y123, y123 = addI x8 1 → WV l mX12_term d P 129 [(2, t), (0, x1), (0, x2), (0, x3), (0, x4), (0, x5), (1, x6), (3, 0), (0, y123), (3, 0)] [] N Λ τ122)))) ∧ (¬ (0 ≤ y121) → (Ix N Λ t_ranks 0 x8 ∧ (∀ τ124, τ124 = st τ120 t_ranks x8 (negI y121) → (∀ y125, y125 = addI x8 1 → WV l mX12_term d P 129 [(2, t), (0, x1), (0, x2), (0, x3), (0, x4), (0, x5), (1, x6), (3, 0), (0, y125), (3, 0)] [] N Λ τ124)))))) ∧ (y121 = 0 → ((0 ≤ y121 → (Ix N Λ t_ranks 0 x8 ∧ (∀ τ126, τ126 = st τ120 t_ranks x8 y121 → (∀ y127, y127 = addI x8 1 → WV l mX12_term d P 129 [(2, t), (0, x1), (0, x2), (0, x3), (0, x4), (0, x5), (1, 0), (3, 0), (0, y127), (3, 0)] [] N Λ τ126)))) ∧ (¬ (0 ≤ y121) → (Ix N Λ t_ranks 0 x8 ∧ (∀ τ128, τ128 = st τ120 t_ranks x8 (negI y121) → (∀ y129, y129 = addI x8 1 → WV l mX12_term d P 129 [(2, t), (0, x1), (0, x2), (0, x3), (0, x4), (0, x5), (1, 0), (3, 0), (0, y129), (3, 0)] [] N Λ τ128)))))))) ∧ (¬ (0 ≤ y121) → (∀ y130, y130 = (negL x6) → ((0 ≤ y121 → (Ix N Λ t_ranks 0 x8 ∧ (∀ τ131, τ131 = st τ120 t_ranks x8 y121 → (∀ y132, y132 = addI x8 1 → WV l mX12_term d P 129 [(2, t), (0, x1), (0, x2), (0, x3), (0, x4), (0, x5), (1, y130), (3, 0), (0, y132), (3, 0)] [] N Λ τ131)))) ∧ (¬ (0 ≤ y121) → (Ix N Λ t_ranks 0 x8 ∧ (∀ τ133, τ133 = st τ120 t_ranks x8 (negI y121) → (∀ y134, y134 = addI x8 1 → WV l mX12_term d P 129 [(2, t), (0, x1), (0, x2), (0, x3), (0, x4), (0, x5), (1, y130), (3, 0), (0, y134), (3, 0)] [] N Λ τ133)))))))))))))) ∧ (¬ ((τ120 t 22) = 0) → P τ120))))) ∧ (¬ ((σ t 22) = 0) → (((σ t 22) = 0 → (Ix N Λ t_tape 6 (subI (σ t 21) 4) ∧ (Ix N Λ t_tape 6 (subI (σ t 21) 3) ∧ (Ix N Λ t_tape 6 (subI (σ t 21) 2) ∧ (Ix N Λ t_rankOf 0 (addI (addI (mulI 100 (subI (σ t_tape (subI (σ t 21) 4)) 97)) (mulI 10 (subI (σ t_tape (subI (σ t 21) 3)) 97))) (subI (σ t_tape (subI (σ t 21) 2)) 97)) ∧ (∀ y135, y135 = (σ t_rankOf (addI (addI (mulI 100 (subI (σ t_tape (subI (σ t 21) 4)) 97)) (mulI 10 (subI (σ t_tape (subI (σ t 21) 3)) 97))) (subI (σ t_tape (subI (σ t 21) 2)) 97))) → ((0 ≤ y135 → ((¬ y135 = 0 → ((0 ≤ y135 → (Ix N Λ t_ranks 0 x8 ∧ (∀ τ136, τ136 = st σ t_ranks x8 y135 → (∀ y137, y137 = addI x8 1 → WV l mX12_term d P 129 [(2, t), (0, x1), (0, x2), (0, x3), (0, x4), (0, x5), (1, x6), (3, 0), (0, y137), (3, 0)] [] N Λ τ136)))) ∧ (¬ (0 ≤ y135) → (Ix N Λ t_ranks 0 x8 ∧ (∀ τ138, τ138 = st σ t_ranks x8 (negI y135) → (∀ y139, y139 = addI x8 1 → WV l mX12_term d P 129 [(2, t), (0, x1), (0, x2), (0, x3), (0, x4), (0, x5), (1, x6), (3, 0), (0, y139), (3, 0)] [] N Λ τ138)))))) ∧ (y135 = 0 → ((0 ≤ y135 → (Ix N Λ t_ranks 0 x8 ∧ (∀ τ140, τ140 = st σ t_ranks x8 y135 → (∀ y141, y141 = addI x8 1 → WV l mX12_term d P 129 [(2, t), (0, x1), (0, x2), (0, x3), (0, x4), (0, x5), (1, 0), (3, 0), (0, y141), (3, 0)] [] N Λ τ140)))) ∧ (¬ (0 ≤ y135) → (Ix N Λ t_ranks 0 x8 ∧ (∀ τ142, τ142 = st σ t_ranks x8 (negI y135) → (∀ y143, y143 = addI x8 1 → WV l mX12_term d P 129 [(2, t), (0, x1), (0, x2), (0, x3), (0, x4), (0, x5), (1, 0), (3, 0), (0, y143), (3, 0)] [] N Λ τ142)))))))) ∧ (¬ (0 ≤ y135) → (∀ y144, y144 = (negL x6) → ((0 ≤ y135 → (Ix N Λ t_ranks 0 x8 ∧ (∀ τ145, τ145 = st σ t_ranks x8 y135 → (∀ y146, y146 = addI x8 1 → WV l mX12_term d P 129 [(2, t), (0, x1), (0, x2), (0, x3), (0, x4), (0, x5), (1, y144), (3, 0), (0, y146), (3, 0)] [] N Λ τ145)))) ∧ (¬ (0 ≤ y135) → (Ix N Λ t_ranks 0 x8 ∧ (∀ τ147, τ147 = st σ t_ranks x8 (negI y135) → (∀ y148, y148 = addI x8 1 → WV l mX12_term d P 129 [(2, t), (0, x1), (0, x2), (0, x3), (0, x4), (0, x5), (1, y144), (3, 0), (0, y148), (3, 0)] [] N Λ τ147)))))))))))))) ∧ (¬ ((σ t 22) = 0) → P σ))))) ∧ (¬ ((1 : Int) = 0) → (∀ τ149, τ149 = st σ t 21 (addI (σ t 21) 1) → (((τ149 t 22) = 0 → (Ix N Λ t_tape 6 (subI (τ149 t 21) 4) ∧ (Ix N Λ t_tape 6 (subI (τ149 t 21) 3) ∧ (Ix N Λ t_tape 6 (subI (τ149 t 21) 2) ∧ (Ix N Λ t_rankOf 0 (addI (addI (mulI 100 (subI (τ149 t_tape (subI (τ149 t 21) 4)) 97)) (mulI 10 (subI (τ149 t_tape (subI (τ149 t 21) 3)) 97))) (subI (τ149 t_tape (subI (τ149 t 21) 2)) 97)) ∧ (∀ y150, y150 = (τ149 t_rankOf (addI (addI (mulI 100 (subI (τ149 t_tape (subI (τ149 t 21) 4)) 97)) (mulI 10 (subI (τ149 t_tape (subI (τ149 t 21) 3)) 97))) (subI (τ149 t_tape (subI (τ149 t 21) 2)) 97))) → ((0 ≤ y150 → ((¬ y150 = 0 → ((0 ≤ y150 → (Ix N Λ t_ranks 0 x8 ∧ (∀ τ151, τ151 = st τ149 t_ranks x8 y150 → (∀ y152, y152 = addI x8 1 → WV l mX12_term d P 129 [(2, t), (0, x1), (0, x2), (0, x3), (0, x4), (0, x5), (1, x6), (3, 0), (0, y152), (3, 0)] [] N Λ τ151)))) ∧ (¬ (0 ≤ y150) → (Ix N Λ t_ranks 0 x8 ∧ (∀ τ153, τ153 = st τ149 t_ranks x8 (negI y150) → (∀ y154, y154 = addI x8 1 → WV l mX12_term d P 129 [(2, t), (0, x1), (0, x2), (0, x3), (0, x4), (0, x5), (1, x6), (3, 0), (0, y154), (3, 0)] [] N Λ τ153)))))) ∧ (y150 = 0 → ((0 ≤ y150 → (Ix N Λ t_ranks 0 x8 ∧ (∀ τ155, τ155 = st τ149 t_ranks x8 y150 → (∀ y156, y156 = addI x8 1 → WV l mX12_term d P 129 [(2, t), (0, x1), (0, x2), (0, x3), (0, x4), (0, x5), (1, 0), (3, 0), (0, y156), (3, 0)] [] N Λ τ155)))) ∧ (¬ (0 ≤ y150) → (Ix N Λ t_ranks 0 x8 ∧ (∀ τ157, τ157 = st τ149 t_ranks x8 (negI y150) → (∀ y158, y158 = addI x8 1 → WV l mX12_term d P 129 [(2, t), (0, x1), (0, x2), (0, x3), (0, x4), (0, x5), (1, 0), (3, 0), (0, y158), (3, 0)] [] N Λ τ157)))))))) ∧ (¬ (0 ≤ y150) → (∀ y159, y159 = (negL x6) → ((0 ≤ y150 → (Ix N Λ t_ranks 0 x8 ∧ (∀ τ160, τ160 = st τ149 t_ranks x8 y150 → (∀ y161, y161 = addI x8 1 → WV l mX12_term d P 129 [(2, t), (0, x1), (0, x2), (0, x3), (0, x4), (0, x5), (1, y159), (3, 0), (0, y161), (3, 0)] [] N Λ τ160)))) ∧ (¬ (0 ≤ y150) → (Ix N Λ t_ranks 0 x8 ∧ (∀ τ162, τ162 = st τ149 t_ranks x8 (negI y150) → (∀ y163, y163 = addI x8 1 → WV l mX12_term d P 129 [(2, t), (0, x1), (0, x2), (0, x3), (0, x4), (0, x5), (1, y159), (3, 0), (0, y163), (3, 0)] [] N Λ τ162)))))))))))))) ∧ (¬ ((τ149 t 22) = 0) → P τ149)))))) ∧ (¬ ((σ t 22) = 0) → (((σ t 22) = 0 → (Ix N Λ t_tape 6 (subI (σ t 21) 4) ∧ (Ix N Λ t_tape 6 (subI (σ t 21) 3) ∧ (Ix N Λ t_tape 6 (subI (σ t 21) 2) ∧ (Ix N Λ t_rankOf 0 (addI (addI (mulI 100 (subI (σ t_tape (subI (σ t 21) 4)) 97)) (mulI 10 (subI (σ t_tape (subI (σ t 21) 3)) 97))) (subI (σ t_tape (subI (σ t 21) 2)) 97)) ∧ (∀ y164, y164 = (σ t_rankOf (addI (addI (mulI 100 (subI (σ t_tape (subI (σ t 21) 4)) 97)) (mulI 10 (subI (σ t_tape (subI (σ t 21) 3)) 97))) (subI (σ t_tape (subI (σ t 21) 2)) 97))) → ((0 ≤ y164 → ((¬ y164 = 0 → ((0 ≤ y164 → (Ix N Λ t_ranks 0 x8 ∧ (∀ τ165, τ165 = st σ t_ranks x8 y164 → (∀ y166, y166 = addI x8 1 → WV l mX12_term d P 129 [(2, t), (0, x1), (0, x2), (0, x3), (0, x4), (0, x5), (1, x6), (3, 0), (0, y166), (3, 0)] [] N Λ τ165)))) ∧ (¬ (0 ≤ y164) → (Ix N Λ t_ranks 0 x8 ∧ (∀ τ167, τ167 = st σ t_ranks x8 (negI y164) → (∀ y168, y168 = addI x8 1 → WV l mX12_term d P 129 [(2, t), (0, x1), (0, x2), (0, x3), (0, x4), (0, x5), (1, x6), (3, 0), (0, y168), (3, 0)] [] N Λ τ167)))))) ∧ (y164 = 0 → ((0 ≤ y164 → (Ix N Λ t_ranks 0 x8 ∧ (∀ τ169, τ169 = st σ t_ranks x8 y164 → (∀ y170, y170 = addI x8 1 → WV l mX12_term d P 129 [(2, t), (0, x1), (0, x2), (0, x3), (0, x4), (0, x5), (1, 0), (3, 0), (0, y170), (3, 0)] [] N Λ τ169)))) ∧ (¬ (0 ≤ y164) → (Ix N Λ t_ranks 0 x8 ∧ (∀ τ171, τ171 = st σ t_ranks x8 (negI y164) → (∀ y172, y172 = addI x8 1 → WV l mX12_term d P 129 [(2, t), (0, x1), (0, x2), (0, x3), (0, x4), (0, x5), (1, 0), (3, 0), (0, y172), (3, 0)] [] N Λ τ171)))))))) ∧ (¬ (0 ≤ y164) → (∀ y173, y173 = (negL x6) → ((0 ≤ y164 → (Ix N Λ t_ranks 0 x8 ∧ (∀ τ174, τ174 = st σ t_ranks x8 y164 → (∀ y175, y175 = addI x8 1 → WV l mX12_term d P 129 [(2, t), (0, x1), (0, x2), (0, x3), (0, x4), (0, x5), (1, y173), (3, 0), (0, y175), (3, 0)] [] N Λ τ174)))) ∧ (¬ (0 ≤ y164) → (Ix N Λ t_ranks 0 x8 ∧ (∀ τ176, τ176 = st σ t_ranks x8 (negI y164) → (∀ y177, y177 = addI x8 1 → WV l mX12_term d P 129 [(2, t), (0, x1), (0, x2), (0, x3), (0, x4), (0, x5), (1, y173), (3, 0), (0, y177), (3, 0)] [] N Λ τ176)))))))))))))) ∧ (¬ ((σ t 22) = 0) → P σ)))))))))) ∧ (¬ (3 ≤ x9) → (CI l mX12_seesLetter (d - 1) [(2, t)] N Λ σ (fun v179 σ178 => (((σ178 t 22) = 0 → ((v179 = 0 → (((σ178 t 22) = 0 → (∀ τ180, τ180 = st σ178 t 22 1 → (∀ τ181, τ181 = st τ180 t 23 (σ178 t 21) → (∀ y182, y182 = addI x9 1 → WV l mX12_term d P 174 [(2, t), (0, x1), (0, x2), (0, x3), (0, x4), (0, x5), (1, x6), (3, 0), (0, x8), (0, y182)] [] N Λ τ181)))) ∧ (¬ ((σ178 t 22) = 0) → (∀ y183, y183 = addI x9 1 → WV l mX12_term d P 174 [(2, t), (0, x1), (0, x2), (0, x3), (0, x4), (0, x5), (1, x6), (3, 0), (0, x8), (0, y183)] [] N Λ σ178)))) ∧ (¬ (v179 = 0) → (∀ τ184, τ184 = st σ178 t 21 (addI (σ178 t 21) 1) → (∀ y185, y185 = addI x9 1 → WV l mX12_term d P 174 [(2, t), (0, x1), (0, x2), (0, x3), (0, x4), (0, x5), (1, x6), (3, 0), (0, x8), (0, y185)] [] N Λ τ184))))) ∧ (¬ ((σ178 t 22) = 0) → (∀ y186, y186 = addI x9 1 → WV l mX12_term d P 174 [(2, t), (0, x1), (0, x2), (0, x3), (0, x4), (0, x5), (1, x6), (3, 0), (0, x8), (0, y186)] [] N Λ σ178)))))))) :
    WV l mX12_term d P 174 [(2, t), (0, x1), (0, x2), (0, x3), (0, x4), (0, x5), (1, x6), (3, 0), (0, x8), (0, x9)] [] N Λ σ := by
  have hd_1 : 1 ≤ d := Nat.le_trans (by decide) h0d
  have he_1 : 1 ≤ d - 1 := Nat.le_sub_of_add_le (Nat.le_trans (by decide) h0d)
  refine r_iload (x := x9) d_X12_term_174 rfl ?_
  refine r_iconst (x := 3) d_X12_term_176 ⟨by decide, by decide⟩ ?_
  refine r_ic_ge (tgt := 194) d_X12_term_177 rfl (fun hc => ?_) (fun hc => ?_)
  · have h := h.1 hc
    refine r_aload_n (x := t) d_X12_term_194 rfl o_t.1 ?_
    refine r_aload_n (x := t) d_X12_term_195 rfl o_t.1 ?_
    refine x_callVI (Y2 := mX12_see) (c := t) (As := []) (S := [(2, t)]) d_X12_term_196 ok_mX12_see ml_X12_264 rfl (Nat.le_of_ble_eq_true rfl) (Nat.le_of_ble_eq_true rfl) rfl hd_1 kX12 o_t (c_X12_see (v_X12_see_0 o_t f_t_tape ?_))
    refine ⟨fun hc => ?_, fun hc => ?_⟩
    · have h := h.1 hc
      show WP l mX12_term (rm d 0 0) noX _ 0 0 199 [(2, t), (0, x1), (0, x2), (0, x3), (0, x4), (0, x5), (1, x6), (3, 0), (0, x8), (0, x9)] [(0, (-1)), (2, t)] N Λ σ
      refine r_bipush (x := 93) d_X12_term_199 ⟨by decide, by decide⟩ (by decide) ?_
      refine r_ic_ne (tgt := 208) d_X12_term_201 rfl (fun _ => ?_) (fun hc => absurd hc (by decide))
      refine r_iconst (x := 0) d_X12_term_208 ⟨by decide, by decide⟩ ?_
      refine x_callVV (Y2 := mX12_must) (c := t) (As := [(0, 0)]) (S := []) d_X12_term_209 ok_mX12_must ml_X12_286 rfl (Nat.le_of_ble_eq_true rfl) (Nat.le_of_ble_eq_true rfl) rfl hd_1 kX12 o_t (c_X12_must (v_X12_must_0 o_t he_1 ?_))
      refine ⟨fun hc => ?_, fun hc => ?_⟩
      · have h := h.1 hc
        refine ⟨fun hc => ?_, fun hc => ?_⟩
        · have h := h.1 hc
          refine ⟨fun hc => ?_, fun hc => ?_⟩
          · have h := h.1 hc
            intro τ1 eτ1
            have h := h τ1 eτ1
            intro τ2 eτ2
            have h := h τ2 eτ2
            show WP l mX12_term (rm d 0 0) noX _ 0 0 212 [(2, t), (0, x1), (0, x2), (0, x3), (0, x4), (0, x5), (1, x6), (3, 0), (0, x8), (0, x9)] [] N Λ τ2
            refine r_aload_n (x := t) d_X12_term_212 rfl o_t.1 ?_
            refine r_getf (j := 22) (t := 0) (x := (τ2 t 22)) d_X12_term_213 kX12 (by decide) fl_X12_261 o_t.1 o_t.2.1 o_t.2.2.1 o_t.2.2.2 rfl rfl ?_
            refine r_if_eq (tgt := 220) d_X12_term_216 rfl (fun hc => ?_) (fun hc => ?_)
            · have h := h.1 hc
              refine r_aload_n (x := t) d_X12_term_220 rfl o_t.1 ?_
              refine r_getf (j := 1) (t := 2) (x := t_rankOf) d_X12_term_221 kX12 (by decide) fl_X12_13 o_t.1 o_t.2.1 o_t.2.2.1 o_t.2.2.2 rfl f_t_rankOf ?_
              refine r_bipush (x := 100) d_X12_term_224 ⟨by decide, by decide⟩ (by decide) ?_
              refine r_aload_n (x := t) d_X12_term_226 rfl o_t.1 ?_
              refine r_aload_n (x := t) d_X12_term_227 rfl o_t.1 ?_
              refine r_getf (j := 21) (t := 0) (x := (τ2 t 21)) d_X12_term_228 kX12 (by decide) fl_X12_255 o_t.1 o_t.2.1 o_t.2.2.1 o_t.2.2.2 rfl rfl ?_
              refine r_iconst (x := 4) d_X12_term_231 ⟨by decide, by decide⟩ ?_
              refine r_isub d_X12_term_232 ?_
              refine x_callVI (Y2 := mX12_letterAt) (c := t) (As := [(0, (subI (τ2 t 21) 4))]) (S := [(0, 100), (2, t_rankOf)]) d_X12_term_233 ok_mX12_letterAt ml_X12_290 rfl (Nat.le_of_ble_eq_true rfl) (Nat.le_of_ble_eq_true rfl) rfl hd_1 kX12 o_t (c_X12_letterAt (v_X12_letterAt_0 o_t f_t_tape ?_))
              refine ⟨h.1, ?_⟩
              have h := h.2
              show WP l mX12_term (rm d 0 0) noX _ 0 0 236 [(2, t), (0, x1), (0, x2), (0, x3), (0, x4), (0, x5), (1, x6), (3, 0), (0, x8), (0, x9)] [(0, (subI (τ2 t_tape (subI (τ2 t 21) 4)) 97)), (0, 100), (2, t_rankOf)] N Λ τ2
              refine r_imul d_X12_term_236 ?_
              refine r_bipush (x := 10) d_X12_term_237 ⟨by decide, by decide⟩ (by decide) ?_
              refine r_aload_n (x := t) d_X12_term_239 rfl o_t.1 ?_
              refine r_aload_n (x := t) d_X12_term_240 rfl o_t.1 ?_
              refine r_getf (j := 21) (t := 0) (x := (τ2 t 21)) d_X12_term_241 kX12 (by decide) fl_X12_255 o_t.1 o_t.2.1 o_t.2.2.1 o_t.2.2.2 rfl rfl ?_
              refine r_iconst (x := 3) d_X12_term_244 ⟨by decide, by decide⟩ ?_
              refine r_isub d_X12_term_245 ?_
              refine x_callVI (Y2 := mX12_letterAt) (c := t) (As := [(0, (subI (τ2 t 21) 3))]) (S := [(0, 10), (0, (mulI 100 (subI (τ2 t_tape (subI (τ2 t 21) 4)) 97))), (2, t_rankOf)]) d_X12_term_246 ok_mX12_letterAt ml_X12_290 rfl (Nat.le_of_ble_eq_true rfl) (Nat.le_of_ble_eq_true rfl) rfl hd_1 kX12 o_t (c_X12_letterAt (v_X12_letterAt_0 o_t f_t_tape ?_))
              refine ⟨h.1, ?_⟩
              have h := h.2
              show WP l mX12_term (rm d 0 0) noX _ 0 0 249 [(2, t), (0, x1), (0, x2), (0, x3), (0, x4), (0, x5), (1, x6), (3, 0), (0, x8), (0, x9)] [(0, (subI (τ2 t_tape (subI (τ2 t 21) 3)) 97)), (0, 10), (0, (mulI 100 (subI (τ2 t_tape (subI (τ2 t 21) 4)) 97))), (2, t_rankOf)] N Λ τ2
              refine r_imul d_X12_term_249 ?_
              refine r_iadd d_X12_term_250 ?_
              refine r_aload_n (x := t) d_X12_term_251 rfl o_t.1 ?_
              refine r_aload_n (x := t) d_X12_term_252 rfl o_t.1 ?_
              refine r_getf (j := 21) (t := 0) (x := (τ2 t 21)) d_X12_term_253 kX12 (by decide) fl_X12_255 o_t.1 o_t.2.1 o_t.2.2.1 o_t.2.2.2 rfl rfl ?_
              refine r_iconst (x := 2) d_X12_term_256 ⟨by decide, by decide⟩ ?_
              refine r_isub d_X12_term_257 ?_
              refine x_callVI (Y2 := mX12_letterAt) (c := t) (As := [(0, (subI (τ2 t 21) 2))]) (S := [(0, (addI (mulI 100 (subI (τ2 t_tape (subI (τ2 t 21) 4)) 97)) (mulI 10 (subI (τ2 t_tape (subI (τ2 t 21) 3)) 97)))), (2, t_rankOf)]) d_X12_term_258 ok_mX12_letterAt ml_X12_290 rfl (Nat.le_of_ble_eq_true rfl) (Nat.le_of_ble_eq_true rfl) rfl hd_1 kX12 o_t (c_X12_letterAt (v_X12_letterAt_0 o_t f_t_tape ?_))
              refine ⟨h.1, ?_⟩
              have h := h.2
              show WP l mX12_term (rm d 0 0) noX _ 0 0 261 [(2, t), (0, x1), (0, x2), (0, x3), (0, x4), (0, x5), (1, x6), (3, 0), (0, x8), (0, x9)] [(0, (subI (τ2 t_tape (subI (τ2 t 21) 2)) 97)), (0, (addI (mulI 100 (subI (τ2 t_tape (subI (τ2 t 21) 4)) 97)) (mulI 10 (subI (τ2 t_tape (subI (τ2 t 21) 3)) 97)))), (2, t_rankOf)] N Λ τ2
              refine r_iadd d_X12_term_261 ?_
              refine x_iald d_X12_term_262 h.1 ?_
              have h := h.2
              refine r_nm (fun y3 ey3 => ?_)
              have h := h y3 ey3
              refine r_istore (L2 := [(2, t), (0, x1), (0, x2), (0, x3), (0, x4), (0, x5), (1, x6), (3, 0), (0, x8), (0, y3)]) d_X12_term_263 (by decide) rfl rfl ?_
              refine r_iload (x := y3) d_X12_term_265 rfl ?_
              refine r_if_ge (tgt := 276) d_X12_term_267 rfl (fun hc => ?_) (fun hc => ?_)
              · have h := h.1 hc
                refine r_iload (x := y3) d_X12_term_276 rfl ?_
                refine r_if_ne (tgt := 285) d_X12_term_278 rfl (fun hc => ?_) (fun hc => ?_)
                · have h := h.1 hc
                  refine r_lload (x := x6) d_X12_term_285 rfl ?_
                  refine r_lstore (L2 := [(2, t), (0, x1), (0, x2), (0, x3), (0, x4), (0, x5), (1, x6), (3, 0), (0, x8), (0, y3)]) d_X12_term_287 (by decide) rfl rfl ?_
                  refine r_aload_n (x := t) d_X12_term_289 rfl o_t.1 ?_
                  refine r_getf (j := 9) (t := 2) (x := t_ranks) d_X12_term_290 kX12 (by decide) fl_X12_33 o_t.1 o_t.2.1 o_t.2.2.1 o_t.2.2.2 rfl f_t_ranks ?_
                  refine r_iload (x := x8) d_X12_term_293 rfl ?_
                  refine r_iload (x := y3) d_X12_term_295 rfl ?_
                  refine x_callSI (Y2 := mX12_sizeOf) (As := [(0, y3)]) (S := [(0, x8), (2, t_ranks)]) d_X12_term_297 ok_mX12_sizeOf ml_X12_168 rfl (Nat.le_of_ble_eq_true rfl) (Nat.le_of_ble_eq_true rfl) rfl hd_1 (c_X12_sizeOf (v_X12_sizeOf_0 ?_))
                  refine ⟨fun hc => ?_, fun hc => ?_⟩
                  · have h := h.1 hc
                    show WP l mX12_term (rm d 0 0) noX _ 0 0 300 [(2, t), (0, x1), (0, x2), (0, x3), (0, x4), (0, x5), (1, x6), (3, 0), (0, x8), (0, y3)] [(0, y3), (0, x8), (2, t_ranks)] N Λ τ2
                    refine x_iast d_X12_term_300 h.1 ?_
                    have h := h.2
                    refine r_nmM (fun τ4 eτ4 => ?_)
                    have h := h τ4 eτ4
                    refine x_iinc (x := x8) (L := [(2, t), (0, x1), (0, x2), (0, x3), (0, x4), (0, x5), (1, x6), (3, 0), (0, x8), (0, y3)]) d_X12_term_301 rfl (by decide) rfl (fun y5 ey5 => ?_)
                    have h := h y5 ey5
                    show WP _ _ _ _ _ _ _ _ [(2, t), (0, x1), (0, x2), (0, x3), (0, x4), (0, x5), (1, x6), (3, 0), (0, y5), (0, y3)] _ _ _ _
                    refine r_goto (tgt := 129) d_X12_term_304 rfl ?_
                    exact x_mask h ⟨Or.inr rfl, Or.inr rfl, Or.inr rfl, Or.inr rfl, Or.inr rfl, Or.inr rfl, Or.inr rfl, Or.inl rfl, Or.inr rfl, Or.inl rfl, trivial⟩
                  · have h := h.2 hc
                    show WP l mX12_term (rm d 0 0) noX _ 0 0 300 [(2, t), (0, x1), (0, x2), (0, x3), (0, x4), (0, x5), (1, x6), (3, 0), (0, x8), (0, y3)] [(0, (negI y3)), (0, x8), (2, t_ranks)] N Λ τ2
                    refine x_iast d_X12_term_300 h.1 ?_
                    have h := h.2
                    refine r_nmM (fun τ6 eτ6 => ?_)
                    have h := h τ6 eτ6
                    refine x_iinc (x := x8) (L := [(2, t), (0, x1), (0, x2), (0, x3), (0, x4), (0, x5), (1, x6), (3, 0), (0, x8), (0, y3)]) d_X12_term_301 rfl (by decide) rfl (fun y7 ey7 => ?_)
                    have h := h y7 ey7
                    show WP _ _ _ _ _ _ _ _ [(2, t), (0, x1), (0, x2), (0, x3), (0, x4), (0, x5), (1, x6), (3, 0), (0, y7), (0, y3)] _ _ _ _
                    refine r_goto (tgt := 129) d_X12_term_304 rfl ?_
                    exact x_mask h ⟨Or.inr rfl, Or.inr rfl, Or.inr rfl, Or.inr rfl, Or.inr rfl, Or.inr rfl, Or.inr rfl, Or.inl rfl, Or.inr rfl, Or.inl rfl, trivial⟩
                · have h := h.2 hc
                  refine r_lconst d_X12_term_281 ?_
                  skip
                  refine r_goto (tgt := 287) d_X12_term_282 rfl ?_
                  refine r_lstore (L2 := [(2, t), (0, x1), (0, x2), (0, x3), (0, x4), (0, x5), (1, 0), (3, 0), (0, x8), (0, y3)]) d_X12_term_287 (by decide) rfl rfl ?_
                  refine r_aload_n (x := t) d_X12_term_289 rfl o_t.1 ?_
                  refine r_getf (j := 9) (t := 2) (x := t_ranks) d_X12_term_290 kX12 (by decide) fl_X12_33 o_t.1 o_t.2.1 o_t.2.2.1 o_t.2.2.2 rfl f_t_ranks ?_
                  refine r_iload (x := x8) d_X12_term_293 rfl ?_
                  refine r_iload (x := y3) d_X12_term_295 rfl ?_
                  refine x_callSI (Y2 := mX12_sizeOf) (As := [(0, y3)]) (S := [(0, x8), (2, t_ranks)]) d_X12_term_297 ok_mX12_sizeOf ml_X12_168 rfl (Nat.le_of_ble_eq_true rfl) (Nat.le_of_ble_eq_true rfl) rfl hd_1 (c_X12_sizeOf (v_X12_sizeOf_0 ?_))
                  refine ⟨fun hc => ?_, fun hc => ?_⟩
                  · have h := h.1 hc
                    show WP l mX12_term (rm d 0 0) noX _ 0 0 300 [(2, t), (0, x1), (0, x2), (0, x3), (0, x4), (0, x5), (1, 0), (3, 0), (0, x8), (0, y3)] [(0, y3), (0, x8), (2, t_ranks)] N Λ τ2
                    refine x_iast d_X12_term_300 h.1 ?_
                    have h := h.2
                    refine r_nmM (fun τ8 eτ8 => ?_)
                    have h := h τ8 eτ8
                    refine x_iinc (x := x8) (L := [(2, t), (0, x1), (0, x2), (0, x3), (0, x4), (0, x5), (1, 0), (3, 0), (0, x8), (0, y3)]) d_X12_term_301 rfl (by decide) rfl (fun y9 ey9 => ?_)
                    have h := h y9 ey9
                    show WP _ _ _ _ _ _ _ _ [(2, t), (0, x1), (0, x2), (0, x3), (0, x4), (0, x5), (1, 0), (3, 0), (0, y9), (0, y3)] _ _ _ _
                    refine r_goto (tgt := 129) d_X12_term_304 rfl ?_
                    exact x_mask h ⟨Or.inr rfl, Or.inr rfl, Or.inr rfl, Or.inr rfl, Or.inr rfl, Or.inr rfl, Or.inr rfl, Or.inl rfl, Or.inr rfl, Or.inl rfl, trivial⟩
                  · have h := h.2 hc
                    show WP l mX12_term (rm d 0 0) noX _ 0 0 300 [(2, t), (0, x1), (0, x2), (0, x3), (0, x4), (0, x5), (1, 0), (3, 0), (0, x8), (0, y3)] [(0, (negI y3)), (0, x8), (2, t_ranks)] N Λ τ2
                    refine x_iast d_X12_term_300 h.1 ?_
                    have h := h.2
                    refine r_nmM (fun τ10 eτ10 => ?_)
                    have h := h τ10 eτ10
                    refine x_iinc (x := x8) (L := [(2, t), (0, x1), (0, x2), (0, x3), (0, x4), (0, x5), (1, 0), (3, 0), (0, x8), (0, y3)]) d_X12_term_301 rfl (by decide) rfl (fun y11 ey11 => ?_)
                    have h := h y11 ey11
                    show WP _ _ _ _ _ _ _ _ [(2, t), (0, x1), (0, x2), (0, x3), (0, x4), (0, x5), (1, 0), (3, 0), (0, y11), (0, y3)] _ _ _ _
                    refine r_goto (tgt := 129) d_X12_term_304 rfl ?_
                    exact x_mask h ⟨Or.inr rfl, Or.inr rfl, Or.inr rfl, Or.inr rfl, Or.inr rfl, Or.inr rfl, Or.inr rfl, Or.inl rfl, Or.inr rfl, Or.inl rfl, trivial⟩
              · have h := h.2 hc
                refine r_lload (x := x6) d_X12_term_270 rfl ?_
                refine r_lneg d_X12_term_272 ?_
                refine r_goto (tgt := 287) d_X12_term_273 rfl ?_
                refine r_nm (fun y12 ey12 => ?_)
                have h := h y12 ey12
                refine r_lstore (L2 := [(2, t), (0, x1), (0, x2), (0, x3), (0, x4), (0, x5), (1, y12), (3, 0), (0, x8), (0, y3)]) d_X12_term_287 (by decide) rfl rfl ?_
                refine r_aload_n (x := t) d_X12_term_289 rfl o_t.1 ?_
                refine r_getf (j := 9) (t := 2) (x := t_ranks) d_X12_term_290 kX12 (by decide) fl_X12_33 o_t.1 o_t.2.1 o_t.2.2.1 o_t.2.2.2 rfl f_t_ranks ?_
                refine r_iload (x := x8) d_X12_term_293 rfl ?_
                refine r_iload (x := y3) d_X12_term_295 rfl ?_
                refine x_callSI (Y2 := mX12_sizeOf) (As := [(0, y3)]) (S := [(0, x8), (2, t_ranks)]) d_X12_term_297 ok_mX12_sizeOf ml_X12_168 rfl (Nat.le_of_ble_eq_true rfl) (Nat.le_of_ble_eq_true rfl) rfl hd_1 (c_X12_sizeOf (v_X12_sizeOf_0 ?_))
                refine ⟨fun hc => ?_, fun hc => ?_⟩
                · have h := h.1 hc
                  show WP l mX12_term (rm d 0 0) noX _ 0 0 300 [(2, t), (0, x1), (0, x2), (0, x3), (0, x4), (0, x5), (1, y12), (3, 0), (0, x8), (0, y3)] [(0, y3), (0, x8), (2, t_ranks)] N Λ τ2
                  refine x_iast d_X12_term_300 h.1 ?_
                  have h := h.2
                  refine r_nmM (fun τ13 eτ13 => ?_)
                  have h := h τ13 eτ13
                  refine x_iinc (x := x8) (L := [(2, t), (0, x1), (0, x2), (0, x3), (0, x4), (0, x5), (1, y12), (3, 0), (0, x8), (0, y3)]) d_X12_term_301 rfl (by decide) rfl (fun y14 ey14 => ?_)
                  have h := h y14 ey14
                  show WP _ _ _ _ _ _ _ _ [(2, t), (0, x1), (0, x2), (0, x3), (0, x4), (0, x5), (1, y12), (3, 0), (0, y14), (0, y3)] _ _ _ _
                  refine r_goto (tgt := 129) d_X12_term_304 rfl ?_
                  exact x_mask h ⟨Or.inr rfl, Or.inr rfl, Or.inr rfl, Or.inr rfl, Or.inr rfl, Or.inr rfl, Or.inr rfl, Or.inl rfl, Or.inr rfl, Or.inl rfl, trivial⟩
                · have h := h.2 hc
                  show WP l mX12_term (rm d 0 0) noX _ 0 0 300 [(2, t), (0, x1), (0, x2), (0, x3), (0, x4), (0, x5), (1, y12), (3, 0), (0, x8), (0, y3)] [(0, (negI y3)), (0, x8), (2, t_ranks)] N Λ τ2
                  refine x_iast d_X12_term_300 h.1 ?_
                  have h := h.2
                  refine r_nmM (fun τ15 eτ15 => ?_)
                  have h := h τ15 eτ15
                  refine x_iinc (x := x8) (L := [(2, t), (0, x1), (0, x2), (0, x3), (0, x4), (0, x5), (1, y12), (3, 0), (0, x8), (0, y3)]) d_X12_term_301 rfl (by decide) rfl (fun y16 ey16 => ?_)
                  have h := h y16 ey16
                  show WP _ _ _ _ _ _ _ _ [(2, t), (0, x1), (0, x2), (0, x3), (0, x4), (0, x5), (1, y12), (3, 0), (0, y16), (0, y3)] _ _ _ _
                  refine r_goto (tgt := 129) d_X12_term_304 rfl ?_
                  exact x_mask h ⟨Or.inr rfl, Or.inr rfl, Or.inr rfl, Or.inr rfl, Or.inr rfl, Or.inr rfl, Or.inr rfl, Or.inl rfl, Or.inr rfl, Or.inl rfl, trivial⟩
            · have h := h.2 hc
              exact r_vret d_X12_term_219 rfl (Nat.le_refl 0) (Nat.le_refl 0) ⟨rfl, rfl, rfl, h⟩
          · have h := h.2 hc
            show WP l mX12_term (rm d 0 0) noX _ 0 0 212 [(2, t), (0, x1), (0, x2), (0, x3), (0, x4), (0, x5), (1, x6), (3, 0), (0, x8), (0, x9)] [] N Λ σ
            refine r_aload_n (x := t) d_X12_term_212 rfl o_t.1 ?_
            refine r_getf (j := 22) (t := 0) (x := (σ t 22)) d_X12_term_213 kX12 (by decide) fl_X12_261 o_t.1 o_t.2.1 o_t.2.2.1 o_t.2.2.2 rfl rfl ?_
            refine r_if_eq (tgt := 220) d_X12_term_216 rfl (fun hc => ?_) (fun hc => ?_)
            · have h := h.1 hc
              refine r_aload_n (x := t) d_X12_term_220 rfl o_t.1 ?_
              refine r_getf (j := 1) (t := 2) (x := t_rankOf) d_X12_term_221 kX12 (by decide) fl_X12_13 o_t.1 o_t.2.1 o_t.2.2.1 o_t.2.2.2 rfl f_t_rankOf ?_
              refine r_bipush (x := 100) d_X12_term_224 ⟨by decide, by decide⟩ (by decide) ?_
              refine r_aload_n (x := t) d_X12_term_226 rfl o_t.1 ?_
              refine r_aload_n (x := t) d_X12_term_227 rfl o_t.1 ?_
              refine r_getf (j := 21) (t := 0) (x := (σ t 21)) d_X12_term_228 kX12 (by decide) fl_X12_255 o_t.1 o_t.2.1 o_t.2.2.1 o_t.2.2.2 rfl rfl ?_
              refine r_iconst (x := 4) d_X12_term_231 ⟨by decide, by decide⟩ ?_
              refine r_isub d_X12_term_232 ?_
              refine x_callVI (Y2 := mX12_letterAt) (c := t) (As := [(0, (subI (σ t 21) 4))]) (S := [(0, 100), (2, t_rankOf)]) d_X12_term_233 ok_mX12_letterAt ml_X12_290 rfl (Nat.le_of_ble_eq_true rfl) (Nat.le_of_ble_eq_true rfl) rfl hd_1 kX12 o_t (c_X12_letterAt (v_X12_letterAt_0 o_t f_t_tape ?_))
              refine ⟨h.1, ?_⟩
              have h := h.2
              show WP l mX12_term (rm d 0 0) noX _ 0 0 236 [(2, t), (0, x1), (0, x2), (0, x3), (0, x4), (0, x5), (1, x6), (3, 0), (0, x8), (0, x9)] [(0, (subI (σ t_tape (subI (σ t 21) 4)) 97)), (0, 100), (2, t_rankOf)] N Λ σ
              refine r_imul d_X12_term_236 ?_
              refine r_bipush (x := 10) d_X12_term_237 ⟨by decide, by decide⟩ (by decide) ?_
              refine r_aload_n (x := t) d_X12_term_239 rfl o_t.1 ?_
              refine r_aload_n (x := t) d_X12_term_240 rfl o_t.1 ?_
              refine r_getf (j := 21) (t := 0) (x := (σ t 21)) d_X12_term_241 kX12 (by decide) fl_X12_255 o_t.1 o_t.2.1 o_t.2.2.1 o_t.2.2.2 rfl rfl ?_
              refine r_iconst (x := 3) d_X12_term_244 ⟨by decide, by decide⟩ ?_
              refine r_isub d_X12_term_245 ?_
              refine x_callVI (Y2 := mX12_letterAt) (c := t) (As := [(0, (subI (σ t 21) 3))]) (S := [(0, 10), (0, (mulI 100 (subI (σ t_tape (subI (σ t 21) 4)) 97))), (2, t_rankOf)]) d_X12_term_246 ok_mX12_letterAt ml_X12_290 rfl (Nat.le_of_ble_eq_true rfl) (Nat.le_of_ble_eq_true rfl) rfl hd_1 kX12 o_t (c_X12_letterAt (v_X12_letterAt_0 o_t f_t_tape ?_))
              refine ⟨h.1, ?_⟩
              have h := h.2
              show WP l mX12_term (rm d 0 0) noX _ 0 0 249 [(2, t), (0, x1), (0, x2), (0, x3), (0, x4), (0, x5), (1, x6), (3, 0), (0, x8), (0, x9)] [(0, (subI (σ t_tape (subI (σ t 21) 3)) 97)), (0, 10), (0, (mulI 100 (subI (σ t_tape (subI (σ t 21) 4)) 97))), (2, t_rankOf)] N Λ σ
              refine r_imul d_X12_term_249 ?_
              refine r_iadd d_X12_term_250 ?_
              refine r_aload_n (x := t) d_X12_term_251 rfl o_t.1 ?_
              refine r_aload_n (x := t) d_X12_term_252 rfl o_t.1 ?_
              refine r_getf (j := 21) (t := 0) (x := (σ t 21)) d_X12_term_253 kX12 (by decide) fl_X12_255 o_t.1 o_t.2.1 o_t.2.2.1 o_t.2.2.2 rfl rfl ?_
              refine r_iconst (x := 2) d_X12_term_256 ⟨by decide, by decide⟩ ?_
              refine r_isub d_X12_term_257 ?_
              refine x_callVI (Y2 := mX12_letterAt) (c := t) (As := [(0, (subI (σ t 21) 2))]) (S := [(0, (addI (mulI 100 (subI (σ t_tape (subI (σ t 21) 4)) 97)) (mulI 10 (subI (σ t_tape (subI (σ t 21) 3)) 97)))), (2, t_rankOf)]) d_X12_term_258 ok_mX12_letterAt ml_X12_290 rfl (Nat.le_of_ble_eq_true rfl) (Nat.le_of_ble_eq_true rfl) rfl hd_1 kX12 o_t (c_X12_letterAt (v_X12_letterAt_0 o_t f_t_tape ?_))
              refine ⟨h.1, ?_⟩
              have h := h.2
              show WP l mX12_term (rm d 0 0) noX _ 0 0 261 [(2, t), (0, x1), (0, x2), (0, x3), (0, x4), (0, x5), (1, x6), (3, 0), (0, x8), (0, x9)] [(0, (subI (σ t_tape (subI (σ t 21) 2)) 97)), (0, (addI (mulI 100 (subI (σ t_tape (subI (σ t 21) 4)) 97)) (mulI 10 (subI (σ t_tape (subI (σ t 21) 3)) 97)))), (2, t_rankOf)] N Λ σ
              refine r_iadd d_X12_term_261 ?_
              refine x_iald d_X12_term_262 h.1 ?_
              have h := h.2
              refine r_nm (fun y17 ey17 => ?_)
              have h := h y17 ey17
              refine r_istore (L2 := [(2, t), (0, x1), (0, x2), (0, x3), (0, x4), (0, x5), (1, x6), (3, 0), (0, x8), (0, y17)]) d_X12_term_263 (by decide) rfl rfl ?_
              refine r_iload (x := y17) d_X12_term_265 rfl ?_
              refine r_if_ge (tgt := 276) d_X12_term_267 rfl (fun hc => ?_) (fun hc => ?_)
              · have h := h.1 hc
                refine r_iload (x := y17) d_X12_term_276 rfl ?_
                refine r_if_ne (tgt := 285) d_X12_term_278 rfl (fun hc => ?_) (fun hc => ?_)
                · have h := h.1 hc
                  refine r_lload (x := x6) d_X12_term_285 rfl ?_
                  refine r_lstore (L2 := [(2, t), (0, x1), (0, x2), (0, x3), (0, x4), (0, x5), (1, x6), (3, 0), (0, x8), (0, y17)]) d_X12_term_287 (by decide) rfl rfl ?_
                  refine r_aload_n (x := t) d_X12_term_289 rfl o_t.1 ?_
                  refine r_getf (j := 9) (t := 2) (x := t_ranks) d_X12_term_290 kX12 (by decide) fl_X12_33 o_t.1 o_t.2.1 o_t.2.2.1 o_t.2.2.2 rfl f_t_ranks ?_
                  refine r_iload (x := x8) d_X12_term_293 rfl ?_
                  refine r_iload (x := y17) d_X12_term_295 rfl ?_
                  refine x_callSI (Y2 := mX12_sizeOf) (As := [(0, y17)]) (S := [(0, x8), (2, t_ranks)]) d_X12_term_297 ok_mX12_sizeOf ml_X12_168 rfl (Nat.le_of_ble_eq_true rfl) (Nat.le_of_ble_eq_true rfl) rfl hd_1 (c_X12_sizeOf (v_X12_sizeOf_0 ?_))
                  refine ⟨fun hc => ?_, fun hc => ?_⟩
                  · have h := h.1 hc
                    show WP l mX12_term (rm d 0 0) noX _ 0 0 300 [(2, t), (0, x1), (0, x2), (0, x3), (0, x4), (0, x5), (1, x6), (3, 0), (0, x8), (0, y17)] [(0, y17), (0, x8), (2, t_ranks)] N Λ σ
                    refine x_iast d_X12_term_300 h.1 ?_
                    have h := h.2
                    refine r_nmM (fun τ18 eτ18 => ?_)
                    have h := h τ18 eτ18
                    refine x_iinc (x := x8) (L := [(2, t), (0, x1), (0, x2), (0, x3), (0, x4), (0, x5), (1, x6), (3, 0), (0, x8), (0, y17)]) d_X12_term_301 rfl (by decide) rfl (fun y19 ey19 => ?_)
                    have h := h y19 ey19
                    show WP _ _ _ _ _ _ _ _ [(2, t), (0, x1), (0, x2), (0, x3), (0, x4), (0, x5), (1, x6), (3, 0), (0, y19), (0, y17)] _ _ _ _
                    refine r_goto (tgt := 129) d_X12_term_304 rfl ?_
                    exact x_mask h ⟨Or.inr rfl, Or.inr rfl, Or.inr rfl, Or.inr rfl, Or.inr rfl, Or.inr rfl, Or.inr rfl, Or.inl rfl, Or.inr rfl, Or.inl rfl, trivial⟩
                  · have h := h.2 hc
                    show WP l mX12_term (rm d 0 0) noX _ 0 0 300 [(2, t), (0, x1), (0, x2), (0, x3), (0, x4), (0, x5), (1, x6), (3, 0), (0, x8), (0, y17)] [(0, (negI y17)), (0, x8), (2, t_ranks)] N Λ σ
                    refine x_iast d_X12_term_300 h.1 ?_
                    have h := h.2
                    refine r_nmM (fun τ20 eτ20 => ?_)
                    have h := h τ20 eτ20
                    refine x_iinc (x := x8) (L := [(2, t), (0, x1), (0, x2), (0, x3), (0, x4), (0, x5), (1, x6), (3, 0), (0, x8), (0, y17)]) d_X12_term_301 rfl (by decide) rfl (fun y21 ey21 => ?_)
                    have h := h y21 ey21
                    show WP _ _ _ _ _ _ _ _ [(2, t), (0, x1), (0, x2), (0, x3), (0, x4), (0, x5), (1, x6), (3, 0), (0, y21), (0, y17)] _ _ _ _
                    refine r_goto (tgt := 129) d_X12_term_304 rfl ?_
                    exact x_mask h ⟨Or.inr rfl, Or.inr rfl, Or.inr rfl, Or.inr rfl, Or.inr rfl, Or.inr rfl, Or.inr rfl, Or.inl rfl, Or.inr rfl, Or.inl rfl, trivial⟩
                · have h := h.2 hc
                  refine r_lconst d_X12_term_281 ?_
                  skip
                  refine r_goto (tgt := 287) d_X12_term_282 rfl ?_
                  refine r_lstore (L2 := [(2, t), (0, x1), (0, x2), (0, x3), (0, x4), (0, x5), (1, 0), (3, 0), (0, x8), (0, y17)]) d_X12_term_287 (by decide) rfl rfl ?_
                  refine r_aload_n (x := t) d_X12_term_289 rfl o_t.1 ?_
                  refine r_getf (j := 9) (t := 2) (x := t_ranks) d_X12_term_290 kX12 (by decide) fl_X12_33 o_t.1 o_t.2.1 o_t.2.2.1 o_t.2.2.2 rfl f_t_ranks ?_
                  refine r_iload (x := x8) d_X12_term_293 rfl ?_
                  refine r_iload (x := y17) d_X12_term_295 rfl ?_
                  refine x_callSI (Y2 := mX12_sizeOf) (As := [(0, y17)]) (S := [(0, x8), (2, t_ranks)]) d_X12_term_297 ok_mX12_sizeOf ml_X12_168 rfl (Nat.le_of_ble_eq_true rfl) (Nat.le_of_ble_eq_true rfl) rfl hd_1 (c_X12_sizeOf (v_X12_sizeOf_0 ?_))
                  refine ⟨fun hc => ?_, fun hc => ?_⟩
                  · have h := h.1 hc
                    show WP l mX12_term (rm d 0 0) noX _ 0 0 300 [(2, t), (0, x1), (0, x2), (0, x3), (0, x4), (0, x5), (1, 0), (3, 0), (0, x8), (0, y17)] [(0, y17), (0, x8), (2, t_ranks)] N Λ σ
                    refine x_iast d_X12_term_300 h.1 ?_
                    have h := h.2
                    refine r_nmM (fun τ22 eτ22 => ?_)
                    have h := h τ22 eτ22
                    refine x_iinc (x := x8) (L := [(2, t), (0, x1), (0, x2), (0, x3), (0, x4), (0, x5), (1, 0), (3, 0), (0, x8), (0, y17)]) d_X12_term_301 rfl (by decide) rfl (fun y23 ey23 => ?_)
                    have h := h y23 ey23
                    show WP _ _ _ _ _ _ _ _ [(2, t), (0, x1), (0, x2), (0, x3), (0, x4), (0, x5), (1, 0), (3, 0), (0, y23), (0, y17)] _ _ _ _
                    refine r_goto (tgt := 129) d_X12_term_304 rfl ?_
                    exact x_mask h ⟨Or.inr rfl, Or.inr rfl, Or.inr rfl, Or.inr rfl, Or.inr rfl, Or.inr rfl, Or.inr rfl, Or.inl rfl, Or.inr rfl, Or.inl rfl, trivial⟩
                  · have h := h.2 hc
                    show WP l mX12_term (rm d 0 0) noX _ 0 0 300 [(2, t), (0, x1), (0, x2), (0, x3), (0, x4), (0, x5), (1, 0), (3, 0), (0, x8), (0, y17)] [(0, (negI y17)), (0, x8), (2, t_ranks)] N Λ σ
                    refine x_iast d_X12_term_300 h.1 ?_
                    have h := h.2
                    refine r_nmM (fun τ24 eτ24 => ?_)
                    have h := h τ24 eτ24
                    refine x_iinc (x := x8) (L := [(2, t), (0, x1), (0, x2), (0, x3), (0, x4), (0, x5), (1, 0), (3, 0), (0, x8), (0, y17)]) d_X12_term_301 rfl (by decide) rfl (fun y25 ey25 => ?_)
                    have h := h y25 ey25
                    show WP _ _ _ _ _ _ _ _ [(2, t), (0, x1), (0, x2), (0, x3), (0, x4), (0, x5), (1, 0), (3, 0), (0, y25), (0, y17)] _ _ _ _
                    refine r_goto (tgt := 129) d_X12_term_304 rfl ?_
                    exact x_mask h ⟨Or.inr rfl, Or.inr rfl, Or.inr rfl, Or.inr rfl, Or.inr rfl, Or.inr rfl, Or.inr rfl, Or.inl rfl, Or.inr rfl, Or.inl rfl, trivial⟩
              · have h := h.2 hc
                refine r_lload (x := x6) d_X12_term_270 rfl ?_
                refine r_lneg d_X12_term_272 ?_
                refine r_goto (tgt := 287) d_X12_term_273 rfl ?_
                refine r_nm (fun y26 ey26 => ?_)
                have h := h y26 ey26
                refine r_lstore (L2 := [(2, t), (0, x1), (0, x2), (0, x3), (0, x4), (0, x5), (1, y26), (3, 0), (0, x8), (0, y17)]) d_X12_term_287 (by decide) rfl rfl ?_
                refine r_aload_n (x := t) d_X12_term_289 rfl o_t.1 ?_
                refine r_getf (j := 9) (t := 2) (x := t_ranks) d_X12_term_290 kX12 (by decide) fl_X12_33 o_t.1 o_t.2.1 o_t.2.2.1 o_t.2.2.2 rfl f_t_ranks ?_
                refine r_iload (x := x8) d_X12_term_293 rfl ?_
                refine r_iload (x := y17) d_X12_term_295 rfl ?_
                refine x_callSI (Y2 := mX12_sizeOf) (As := [(0, y17)]) (S := [(0, x8), (2, t_ranks)]) d_X12_term_297 ok_mX12_sizeOf ml_X12_168 rfl (Nat.le_of_ble_eq_true rfl) (Nat.le_of_ble_eq_true rfl) rfl hd_1 (c_X12_sizeOf (v_X12_sizeOf_0 ?_))
                refine ⟨fun hc => ?_, fun hc => ?_⟩
                · have h := h.1 hc
                  show WP l mX12_term (rm d 0 0) noX _ 0 0 300 [(2, t), (0, x1), (0, x2), (0, x3), (0, x4), (0, x5), (1, y26), (3, 0), (0, x8), (0, y17)] [(0, y17), (0, x8), (2, t_ranks)] N Λ σ
                  refine x_iast d_X12_term_300 h.1 ?_
                  have h := h.2
                  refine r_nmM (fun τ27 eτ27 => ?_)
                  have h := h τ27 eτ27
                  refine x_iinc (x := x8) (L := [(2, t), (0, x1), (0, x2), (0, x3), (0, x4), (0, x5), (1, y26), (3, 0), (0, x8), (0, y17)]) d_X12_term_301 rfl (by decide) rfl (fun y28 ey28 => ?_)
                  have h := h y28 ey28
                  show WP _ _ _ _ _ _ _ _ [(2, t), (0, x1), (0, x2), (0, x3), (0, x4), (0, x5), (1, y26), (3, 0), (0, y28), (0, y17)] _ _ _ _
                  refine r_goto (tgt := 129) d_X12_term_304 rfl ?_
                  exact x_mask h ⟨Or.inr rfl, Or.inr rfl, Or.inr rfl, Or.inr rfl, Or.inr rfl, Or.inr rfl, Or.inr rfl, Or.inl rfl, Or.inr rfl, Or.inl rfl, trivial⟩
                · have h := h.2 hc
                  show WP l mX12_term (rm d 0 0) noX _ 0 0 300 [(2, t), (0, x1), (0, x2), (0, x3), (0, x4), (0, x5), (1, y26), (3, 0), (0, x8), (0, y17)] [(0, (negI y17)), (0, x8), (2, t_ranks)] N Λ σ
                  refine x_iast d_X12_term_300 h.1 ?_
                  have h := h.2
                  refine r_nmM (fun τ29 eτ29 => ?_)
                  have h := h τ29 eτ29
                  refine x_iinc (x := x8) (L := [(2, t), (0, x1), (0, x2), (0, x3), (0, x4), (0, x5), (1, y26), (3, 0), (0, x8), (0, y17)]) d_X12_term_301 rfl (by decide) rfl (fun y30 ey30 => ?_)
                  have h := h y30 ey30
                  show WP _ _ _ _ _ _ _ _ [(2, t), (0, x1), (0, x2), (0, x3), (0, x4), (0, x5), (1, y26), (3, 0), (0, y30), (0, y17)] _ _ _ _
                  refine r_goto (tgt := 129) d_X12_term_304 rfl ?_
                  exact x_mask h ⟨Or.inr rfl, Or.inr rfl, Or.inr rfl, Or.inr rfl, Or.inr rfl, Or.inr rfl, Or.inr rfl, Or.inl rfl, Or.inr rfl, Or.inl rfl, trivial⟩
            · have h := h.2 hc
              exact r_vret d_X12_term_219 rfl (Nat.le_refl 0) (Nat.le_refl 0) ⟨rfl, rfl, rfl, h⟩
        · have h := h.2 hc
          intro τ31 eτ31
          have h := h τ31 eτ31
          show WP l mX12_term (rm d 0 0) noX _ 0 0 212 [(2, t), (0, x1), (0, x2), (0, x3), (0, x4), (0, x5), (1, x6), (3, 0), (0, x8), (0, x9)] [] N Λ τ31
          refine r_aload_n (x := t) d_X12_term_212 rfl o_t.1 ?_
          refine r_getf (j := 22) (t := 0) (x := (τ31 t 22)) d_X12_term_213 kX12 (by decide) fl_X12_261 o_t.1 o_t.2.1 o_t.2.2.1 o_t.2.2.2 rfl rfl ?_
          refine r_if_eq (tgt := 220) d_X12_term_216 rfl (fun hc => ?_) (fun hc => ?_)
          · have h := h.1 hc
            refine r_aload_n (x := t) d_X12_term_220 rfl o_t.1 ?_
            refine r_getf (j := 1) (t := 2) (x := t_rankOf) d_X12_term_221 kX12 (by decide) fl_X12_13 o_t.1 o_t.2.1 o_t.2.2.1 o_t.2.2.2 rfl f_t_rankOf ?_
            refine r_bipush (x := 100) d_X12_term_224 ⟨by decide, by decide⟩ (by decide) ?_
            refine r_aload_n (x := t) d_X12_term_226 rfl o_t.1 ?_
            refine r_aload_n (x := t) d_X12_term_227 rfl o_t.1 ?_
            refine r_getf (j := 21) (t := 0) (x := (τ31 t 21)) d_X12_term_228 kX12 (by decide) fl_X12_255 o_t.1 o_t.2.1 o_t.2.2.1 o_t.2.2.2 rfl rfl ?_
            refine r_iconst (x := 4) d_X12_term_231 ⟨by decide, by decide⟩ ?_
            refine r_isub d_X12_term_232 ?_
            refine x_callVI (Y2 := mX12_letterAt) (c := t) (As := [(0, (subI (τ31 t 21) 4))]) (S := [(0, 100), (2, t_rankOf)]) d_X12_term_233 ok_mX12_letterAt ml_X12_290 rfl (Nat.le_of_ble_eq_true rfl) (Nat.le_of_ble_eq_true rfl) rfl hd_1 kX12 o_t (c_X12_letterAt (v_X12_letterAt_0 o_t f_t_tape ?_))
            refine ⟨h.1, ?_⟩
            have h := h.2
            show WP l mX12_term (rm d 0 0) noX _ 0 0 236 [(2, t), (0, x1), (0, x2), (0, x3), (0, x4), (0, x5), (1, x6), (3, 0), (0, x8), (0, x9)] [(0, (subI (τ31 t_tape (subI (τ31 t 21) 4)) 97)), (0, 100), (2, t_rankOf)] N Λ τ31
            refine r_imul d_X12_term_236 ?_
            refine r_bipush (x := 10) d_X12_term_237 ⟨by decide, by decide⟩ (by decide) ?_
            refine r_aload_n (x := t) d_X12_term_239 rfl o_t.1 ?_
            refine r_aload_n (x := t) d_X12_term_240 rfl o_t.1 ?_
            refine r_getf (j := 21) (t := 0) (x := (τ31 t 21)) d_X12_term_241 kX12 (by decide) fl_X12_255 o_t.1 o_t.2.1 o_t.2.2.1 o_t.2.2.2 rfl rfl ?_
            refine r_iconst (x := 3) d_X12_term_244 ⟨by decide, by decide⟩ ?_
            refine r_isub d_X12_term_245 ?_
            refine x_callVI (Y2 := mX12_letterAt) (c := t) (As := [(0, (subI (τ31 t 21) 3))]) (S := [(0, 10), (0, (mulI 100 (subI (τ31 t_tape (subI (τ31 t 21) 4)) 97))), (2, t_rankOf)]) d_X12_term_246 ok_mX12_letterAt ml_X12_290 rfl (Nat.le_of_ble_eq_true rfl) (Nat.le_of_ble_eq_true rfl) rfl hd_1 kX12 o_t (c_X12_letterAt (v_X12_letterAt_0 o_t f_t_tape ?_))
            refine ⟨h.1, ?_⟩
            have h := h.2
            show WP l mX12_term (rm d 0 0) noX _ 0 0 249 [(2, t), (0, x1), (0, x2), (0, x3), (0, x4), (0, x5), (1, x6), (3, 0), (0, x8), (0, x9)] [(0, (subI (τ31 t_tape (subI (τ31 t 21) 3)) 97)), (0, 10), (0, (mulI 100 (subI (τ31 t_tape (subI (τ31 t 21) 4)) 97))), (2, t_rankOf)] N Λ τ31
            refine r_imul d_X12_term_249 ?_
            refine r_iadd d_X12_term_250 ?_
            refine r_aload_n (x := t) d_X12_term_251 rfl o_t.1 ?_
            refine r_aload_n (x := t) d_X12_term_252 rfl o_t.1 ?_
            refine r_getf (j := 21) (t := 0) (x := (τ31 t 21)) d_X12_term_253 kX12 (by decide) fl_X12_255 o_t.1 o_t.2.1 o_t.2.2.1 o_t.2.2.2 rfl rfl ?_
            refine r_iconst (x := 2) d_X12_term_256 ⟨by decide, by decide⟩ ?_
            refine r_isub d_X12_term_257 ?_
            refine x_callVI (Y2 := mX12_letterAt) (c := t) (As := [(0, (subI (τ31 t 21) 2))]) (S := [(0, (addI (mulI 100 (subI (τ31 t_tape (subI (τ31 t 21) 4)) 97)) (mulI 10 (subI (τ31 t_tape (subI (τ31 t 21) 3)) 97)))), (2, t_rankOf)]) d_X12_term_258 ok_mX12_letterAt ml_X12_290 rfl (Nat.le_of_ble_eq_true rfl) (Nat.le_of_ble_eq_true rfl) rfl hd_1 kX12 o_t (c_X12_letterAt (v_X12_letterAt_0 o_t f_t_tape ?_))
            refine ⟨h.1, ?_⟩
            have h := h.2
            show WP l mX12_term (rm d 0 0) noX _ 0 0 261 [(2, t), (0, x1), (0, x2), (0, x3), (0, x4), (0, x5), (1, x6), (3, 0), (0, x8), (0, x9)] [(0, (subI (τ31 t_tape (subI (τ31 t 21) 2)) 97)), (0, (addI (mulI 100 (subI (τ31 t_tape (subI (τ31 t 21) 4)) 97)) (mulI 10 (subI (τ31 t_tape (subI (τ31 t 21) 3)) 97)))), (2, t_rankOf)] N Λ τ31
            refine r_iadd d_X12_term_261 ?_
            refine x_iald d_X12_term_262 h.1 ?_
            have h := h.2
            refine r_nm (fun y32 ey32 => ?_)
            have h := h y32 ey32
            refine r_istore (L2 := [(2, t), (0, x1), (0, x2), (0, x3), (0, x4), (0, x5), (1, x6), (3, 0), (0, x8), (0, y32)]) d_X12_term_263 (by decide) rfl rfl ?_
            refine r_iload (x := y32) d_X12_term_265 rfl ?_
            refine r_if_ge (tgt := 276) d_X12_term_267 rfl (fun hc => ?_) (fun hc => ?_)
            · have h := h.1 hc
              refine r_iload (x := y32) d_X12_term_276 rfl ?_
              refine r_if_ne (tgt := 285) d_X12_term_278 rfl (fun hc => ?_) (fun hc => ?_)
              · have h := h.1 hc
                refine r_lload (x := x6) d_X12_term_285 rfl ?_
                refine r_lstore (L2 := [(2, t), (0, x1), (0, x2), (0, x3), (0, x4), (0, x5), (1, x6), (3, 0), (0, x8), (0, y32)]) d_X12_term_287 (by decide) rfl rfl ?_
                refine r_aload_n (x := t) d_X12_term_289 rfl o_t.1 ?_
                refine r_getf (j := 9) (t := 2) (x := t_ranks) d_X12_term_290 kX12 (by decide) fl_X12_33 o_t.1 o_t.2.1 o_t.2.2.1 o_t.2.2.2 rfl f_t_ranks ?_
                refine r_iload (x := x8) d_X12_term_293 rfl ?_
                refine r_iload (x := y32) d_X12_term_295 rfl ?_
                refine x_callSI (Y2 := mX12_sizeOf) (As := [(0, y32)]) (S := [(0, x8), (2, t_ranks)]) d_X12_term_297 ok_mX12_sizeOf ml_X12_168 rfl (Nat.le_of_ble_eq_true rfl) (Nat.le_of_ble_eq_true rfl) rfl hd_1 (c_X12_sizeOf (v_X12_sizeOf_0 ?_))
                refine ⟨fun hc => ?_, fun hc => ?_⟩
                · have h := h.1 hc
                  show WP l mX12_term (rm d 0 0) noX _ 0 0 300 [(2, t), (0, x1), (0, x2), (0, x3), (0, x4), (0, x5), (1, x6), (3, 0), (0, x8), (0, y32)] [(0, y32), (0, x8), (2, t_ranks)] N Λ τ31
                  refine x_iast d_X12_term_300 h.1 ?_
                  have h := h.2
                  refine r_nmM (fun τ33 eτ33 => ?_)
                  have h := h τ33 eτ33
                  refine x_iinc (x := x8) (L := [(2, t), (0, x1), (0, x2), (0, x3), (0, x4), (0, x5), (1, x6), (3, 0), (0, x8), (0, y32)]) d_X12_term_301 rfl (by decide) rfl (fun y34 ey34 => ?_)
                  have h := h y34 ey34
                  show WP _ _ _ _ _ _ _ _ [(2, t), (0, x1), (0, x2), (0, x3), (0, x4), (0, x5), (1, x6), (3, 0), (0, y34), (0, y32)] _ _ _ _
                  refine r_goto (tgt := 129) d_X12_term_304 rfl ?_
                  exact x_mask h ⟨Or.inr rfl, Or.inr rfl, Or.inr rfl, Or.inr rfl, Or.inr rfl, Or.inr rfl, Or.inr rfl, Or.inl rfl, Or.inr rfl, Or.inl rfl, trivial⟩
                · have h := h.2 hc
                  show WP l mX12_term (rm d 0 0) noX _ 0 0 300 [(2, t), (0, x1), (0, x2), (0, x3), (0, x4), (0, x5), (1, x6), (3, 0), (0, x8), (0, y32)] [(0, (negI y32)), (0, x8), (2, t_ranks)] N Λ τ31
                  refine x_iast d_X12_term_300 h.1 ?_
                  have h := h.2
                  refine r_nmM (fun τ35 eτ35 => ?_)
                  have h := h τ35 eτ35
                  refine x_iinc (x := x8) (L := [(2, t), (0, x1), (0, x2), (0, x3), (0, x4), (0, x5), (1, x6), (3, 0), (0, x8), (0, y32)]) d_X12_term_301 rfl (by decide) rfl (fun y36 ey36 => ?_)
                  have h := h y36 ey36
                  show WP _ _ _ _ _ _ _ _ [(2, t), (0, x1), (0, x2), (0, x3), (0, x4), (0, x5), (1, x6), (3, 0), (0, y36), (0, y32)] _ _ _ _
                  refine r_goto (tgt := 129) d_X12_term_304 rfl ?_
                  exact x_mask h ⟨Or.inr rfl, Or.inr rfl, Or.inr rfl, Or.inr rfl, Or.inr rfl, Or.inr rfl, Or.inr rfl, Or.inl rfl, Or.inr rfl, Or.inl rfl, trivial⟩
              · have h := h.2 hc
                refine r_lconst d_X12_term_281 ?_
                skip
                refine r_goto (tgt := 287) d_X12_term_282 rfl ?_
                refine r_lstore (L2 := [(2, t), (0, x1), (0, x2), (0, x3), (0, x4), (0, x5), (1, 0), (3, 0), (0, x8), (0, y32)]) d_X12_term_287 (by decide) rfl rfl ?_
                refine r_aload_n (x := t) d_X12_term_289 rfl o_t.1 ?_
                refine r_getf (j := 9) (t := 2) (x := t_ranks) d_X12_term_290 kX12 (by decide) fl_X12_33 o_t.1 o_t.2.1 o_t.2.2.1 o_t.2.2.2 rfl f_t_ranks ?_
                refine r_iload (x := x8) d_X12_term_293 rfl ?_
                refine r_iload (x := y32) d_X12_term_295 rfl ?_
                refine x_callSI (Y2 := mX12_sizeOf) (As := [(0, y32)]) (S := [(0, x8), (2, t_ranks)]) d_X12_term_297 ok_mX12_sizeOf ml_X12_168 rfl (Nat.le_of_ble_eq_true rfl) (Nat.le_of_ble_eq_true rfl) rfl hd_1 (c_X12_sizeOf (v_X12_sizeOf_0 ?_))
                refine ⟨fun hc => ?_, fun hc => ?_⟩
                · have h := h.1 hc
                  show WP l mX12_term (rm d 0 0) noX _ 0 0 300 [(2, t), (0, x1), (0, x2), (0, x3), (0, x4), (0, x5), (1, 0), (3, 0), (0, x8), (0, y32)] [(0, y32), (0, x8), (2, t_ranks)] N Λ τ31
                  refine x_iast d_X12_term_300 h.1 ?_
                  have h := h.2
                  refine r_nmM (fun τ37 eτ37 => ?_)
                  have h := h τ37 eτ37
                  refine x_iinc (x := x8) (L := [(2, t), (0, x1), (0, x2), (0, x3), (0, x4), (0, x5), (1, 0), (3, 0), (0, x8), (0, y32)]) d_X12_term_301 rfl (by decide) rfl (fun y38 ey38 => ?_)
                  have h := h y38 ey38
                  show WP _ _ _ _ _ _ _ _ [(2, t), (0, x1), (0, x2), (0, x3), (0, x4), (0, x5), (1, 0), (3, 0), (0, y38), (0, y32)] _ _ _ _
                  refine r_goto (tgt := 129) d_X12_term_304 rfl ?_
                  exact x_mask h ⟨Or.inr rfl, Or.inr rfl, Or.inr rfl, Or.inr rfl, Or.inr rfl, Or.inr rfl, Or.inr rfl, Or.inl rfl, Or.inr rfl, Or.inl rfl, trivial⟩
                · have h := h.2 hc
                  show WP l mX12_term (rm d 0 0) noX _ 0 0 300 [(2, t), (0, x1), (0, x2), (0, x3), (0, x4), (0, x5), (1, 0), (3, 0), (0, x8), (0, y32)] [(0, (negI y32)), (0, x8), (2, t_ranks)] N Λ τ31
                  refine x_iast d_X12_term_300 h.1 ?_
                  have h := h.2
                  refine r_nmM (fun τ39 eτ39 => ?_)
                  have h := h τ39 eτ39
                  refine x_iinc (x := x8) (L := [(2, t), (0, x1), (0, x2), (0, x3), (0, x4), (0, x5), (1, 0), (3, 0), (0, x8), (0, y32)]) d_X12_term_301 rfl (by decide) rfl (fun y40 ey40 => ?_)
                  have h := h y40 ey40
                  show WP _ _ _ _ _ _ _ _ [(2, t), (0, x1), (0, x2), (0, x3), (0, x4), (0, x5), (1, 0), (3, 0), (0, y40), (0, y32)] _ _ _ _
                  refine r_goto (tgt := 129) d_X12_term_304 rfl ?_
                  exact x_mask h ⟨Or.inr rfl, Or.inr rfl, Or.inr rfl, Or.inr rfl, Or.inr rfl, Or.inr rfl, Or.inr rfl, Or.inl rfl, Or.inr rfl, Or.inl rfl, trivial⟩
            · have h := h.2 hc
              refine r_lload (x := x6) d_X12_term_270 rfl ?_
              refine r_lneg d_X12_term_272 ?_
              refine r_goto (tgt := 287) d_X12_term_273 rfl ?_
              refine r_nm (fun y41 ey41 => ?_)
              have h := h y41 ey41
              refine r_lstore (L2 := [(2, t), (0, x1), (0, x2), (0, x3), (0, x4), (0, x5), (1, y41), (3, 0), (0, x8), (0, y32)]) d_X12_term_287 (by decide) rfl rfl ?_
              refine r_aload_n (x := t) d_X12_term_289 rfl o_t.1 ?_
              refine r_getf (j := 9) (t := 2) (x := t_ranks) d_X12_term_290 kX12 (by decide) fl_X12_33 o_t.1 o_t.2.1 o_t.2.2.1 o_t.2.2.2 rfl f_t_ranks ?_
              refine r_iload (x := x8) d_X12_term_293 rfl ?_
              refine r_iload (x := y32) d_X12_term_295 rfl ?_
              refine x_callSI (Y2 := mX12_sizeOf) (As := [(0, y32)]) (S := [(0, x8), (2, t_ranks)]) d_X12_term_297 ok_mX12_sizeOf ml_X12_168 rfl (Nat.le_of_ble_eq_true rfl) (Nat.le_of_ble_eq_true rfl) rfl hd_1 (c_X12_sizeOf (v_X12_sizeOf_0 ?_))
              refine ⟨fun hc => ?_, fun hc => ?_⟩
              · have h := h.1 hc
                show WP l mX12_term (rm d 0 0) noX _ 0 0 300 [(2, t), (0, x1), (0, x2), (0, x3), (0, x4), (0, x5), (1, y41), (3, 0), (0, x8), (0, y32)] [(0, y32), (0, x8), (2, t_ranks)] N Λ τ31
                refine x_iast d_X12_term_300 h.1 ?_
                have h := h.2
                refine r_nmM (fun τ42 eτ42 => ?_)
                have h := h τ42 eτ42
                refine x_iinc (x := x8) (L := [(2, t), (0, x1), (0, x2), (0, x3), (0, x4), (0, x5), (1, y41), (3, 0), (0, x8), (0, y32)]) d_X12_term_301 rfl (by decide) rfl (fun y43 ey43 => ?_)
                have h := h y43 ey43
                show WP _ _ _ _ _ _ _ _ [(2, t), (0, x1), (0, x2), (0, x3), (0, x4), (0, x5), (1, y41), (3, 0), (0, y43), (0, y32)] _ _ _ _
                refine r_goto (tgt := 129) d_X12_term_304 rfl ?_
                exact x_mask h ⟨Or.inr rfl, Or.inr rfl, Or.inr rfl, Or.inr rfl, Or.inr rfl, Or.inr rfl, Or.inr rfl, Or.inl rfl, Or.inr rfl, Or.inl rfl, trivial⟩
              · have h := h.2 hc
                show WP l mX12_term (rm d 0 0) noX _ 0 0 300 [(2, t), (0, x1), (0, x2), (0, x3), (0, x4), (0, x5), (1, y41), (3, 0), (0, x8), (0, y32)] [(0, (negI y32)), (0, x8), (2, t_ranks)] N Λ τ31
                refine x_iast d_X12_term_300 h.1 ?_
                have h := h.2
                refine r_nmM (fun τ44 eτ44 => ?_)
                have h := h τ44 eτ44
                refine x_iinc (x := x8) (L := [(2, t), (0, x1), (0, x2), (0, x3), (0, x4), (0, x5), (1, y41), (3, 0), (0, x8), (0, y32)]) d_X12_term_301 rfl (by decide) rfl (fun y45 ey45 => ?_)
                have h := h y45 ey45
                show WP _ _ _ _ _ _ _ _ [(2, t), (0, x1), (0, x2), (0, x3), (0, x4), (0, x5), (1, y41), (3, 0), (0, y45), (0, y32)] _ _ _ _
                refine r_goto (tgt := 129) d_X12_term_304 rfl ?_
                exact x_mask h ⟨Or.inr rfl, Or.inr rfl, Or.inr rfl, Or.inr rfl, Or.inr rfl, Or.inr rfl, Or.inr rfl, Or.inl rfl, Or.inr rfl, Or.inl rfl, trivial⟩
          · have h := h.2 hc
            exact r_vret d_X12_term_219 rfl (Nat.le_refl 0) (Nat.le_refl 0) ⟨rfl, rfl, rfl, h⟩
      · have h := h.2 hc
        show WP l mX12_term (rm d 0 0) noX _ 0 0 212 [(2, t), (0, x1), (0, x2), (0, x3), (0, x4), (0, x5), (1, x6), (3, 0), (0, x8), (0, x9)] [] N Λ σ
        refine r_aload_n (x := t) d_X12_term_212 rfl o_t.1 ?_
        refine r_getf (j := 22) (t := 0) (x := (σ t 22)) d_X12_term_213 kX12 (by decide) fl_X12_261 o_t.1 o_t.2.1 o_t.2.2.1 o_t.2.2.2 rfl rfl ?_
        refine r_if_eq (tgt := 220) d_X12_term_216 rfl (fun hc => ?_) (fun hc => ?_)
        · have h := h.1 hc
          refine r_aload_n (x := t) d_X12_term_220 rfl o_t.1 ?_
          refine r_getf (j := 1) (t := 2) (x := t_rankOf) d_X12_term_221 kX12 (by decide) fl_X12_13 o_t.1 o_t.2.1 o_t.2.2.1 o_t.2.2.2 rfl f_t_rankOf ?_
          refine r_bipush (x := 100) d_X12_term_224 ⟨by decide, by decide⟩ (by decide) ?_
          refine r_aload_n (x := t) d_X12_term_226 rfl o_t.1 ?_
          refine r_aload_n (x := t) d_X12_term_227 rfl o_t.1 ?_
          refine r_getf (j := 21) (t := 0) (x := (σ t 21)) d_X12_term_228 kX12 (by decide) fl_X12_255 o_t.1 o_t.2.1 o_t.2.2.1 o_t.2.2.2 rfl rfl ?_
          refine r_iconst (x := 4) d_X12_term_231 ⟨by decide, by decide⟩ ?_
          refine r_isub d_X12_term_232 ?_
          refine x_callVI (Y2 := mX12_letterAt) (c := t) (As := [(0, (subI (σ t 21) 4))]) (S := [(0, 100), (2, t_rankOf)]) d_X12_term_233 ok_mX12_letterAt ml_X12_290 rfl (Nat.le_of_ble_eq_true rfl) (Nat.le_of_ble_eq_true rfl) rfl hd_1 kX12 o_t (c_X12_letterAt (v_X12_letterAt_0 o_t f_t_tape ?_))
          refine ⟨h.1, ?_⟩
          have h := h.2
          show WP l mX12_term (rm d 0 0) noX _ 0 0 236 [(2, t), (0, x1), (0, x2), (0, x3), (0, x4), (0, x5), (1, x6), (3, 0), (0, x8), (0, x9)] [(0, (subI (σ t_tape (subI (σ t 21) 4)) 97)), (0, 100), (2, t_rankOf)] N Λ σ
          refine r_imul d_X12_term_236 ?_
          refine r_bipush (x := 10) d_X12_term_237 ⟨by decide, by decide⟩ (by decide) ?_
          refine r_aload_n (x := t) d_X12_term_239 rfl o_t.1 ?_
          refine r_aload_n (x := t) d_X12_term_240 rfl o_t.1 ?_
          refine r_getf (j := 21) (t := 0) (x := (σ t 21)) d_X12_term_241 kX12 (by decide) fl_X12_255 o_t.1 o_t.2.1 o_t.2.2.1 o_t.2.2.2 rfl rfl ?_
          refine r_iconst (x := 3) d_X12_term_244 ⟨by decide, by decide⟩ ?_
          refine r_isub d_X12_term_245 ?_
          refine x_callVI (Y2 := mX12_letterAt) (c := t) (As := [(0, (subI (σ t 21) 3))]) (S := [(0, 10), (0, (mulI 100 (subI (σ t_tape (subI (σ t 21) 4)) 97))), (2, t_rankOf)]) d_X12_term_246 ok_mX12_letterAt ml_X12_290 rfl (Nat.le_of_ble_eq_true rfl) (Nat.le_of_ble_eq_true rfl) rfl hd_1 kX12 o_t (c_X12_letterAt (v_X12_letterAt_0 o_t f_t_tape ?_))
          refine ⟨h.1, ?_⟩
          have h := h.2
          show WP l mX12_term (rm d 0 0) noX _ 0 0 249 [(2, t), (0, x1), (0, x2), (0, x3), (0, x4), (0, x5), (1, x6), (3, 0), (0, x8), (0, x9)] [(0, (subI (σ t_tape (subI (σ t 21) 3)) 97)), (0, 10), (0, (mulI 100 (subI (σ t_tape (subI (σ t 21) 4)) 97))), (2, t_rankOf)] N Λ σ
          refine r_imul d_X12_term_249 ?_
          refine r_iadd d_X12_term_250 ?_
          refine r_aload_n (x := t) d_X12_term_251 rfl o_t.1 ?_
          refine r_aload_n (x := t) d_X12_term_252 rfl o_t.1 ?_
          refine r_getf (j := 21) (t := 0) (x := (σ t 21)) d_X12_term_253 kX12 (by decide) fl_X12_255 o_t.1 o_t.2.1 o_t.2.2.1 o_t.2.2.2 rfl rfl ?_
          refine r_iconst (x := 2) d_X12_term_256 ⟨by decide, by decide⟩ ?_
          refine r_isub d_X12_term_257 ?_
          refine x_callVI (Y2 := mX12_letterAt) (c := t) (As := [(0, (subI (σ t 21) 2))]) (S := [(0, (addI (mulI 100 (subI (σ t_tape (subI (σ t 21) 4)) 97)) (mulI 10 (subI (σ t_tape (subI (σ t 21) 3)) 97)))), (2, t_rankOf)]) d_X12_term_258 ok_mX12_letterAt ml_X12_290 rfl (Nat.le_of_ble_eq_true rfl) (Nat.le_of_ble_eq_true rfl) rfl hd_1 kX12 o_t (c_X12_letterAt (v_X12_letterAt_0 o_t f_t_tape ?_))
          refine ⟨h.1, ?_⟩
          have h := h.2
          show WP l mX12_term (rm d 0 0) noX _ 0 0 261 [(2, t), (0, x1), (0, x2), (0, x3), (0, x4), (0, x5), (1, x6), (3, 0), (0, x8), (0, x9)] [(0, (subI (σ t_tape (subI (σ t 21) 2)) 97)), (0, (addI (mulI 100 (subI (σ t_tape (subI (σ t 21) 4)) 97)) (mulI 10 (subI (σ t_tape (subI (σ t 21) 3)) 97)))), (2, t_rankOf)] N Λ σ
          refine r_iadd d_X12_term_261 ?_
          refine x_iald d_X12_term_262 h.1 ?_
          have h := h.2
          refine r_nm (fun y46 ey46 => ?_)
          have h := h y46 ey46
          refine r_istore (L2 := [(2, t), (0, x1), (0, x2), (0, x3), (0, x4), (0, x5), (1, x6), (3, 0), (0, x8), (0, y46)]) d_X12_term_263 (by decide) rfl rfl ?_
          refine r_iload (x := y46) d_X12_term_265 rfl ?_
          refine r_if_ge (tgt := 276) d_X12_term_267 rfl (fun hc => ?_) (fun hc => ?_)
          · have h := h.1 hc
            refine r_iload (x := y46) d_X12_term_276 rfl ?_
            refine r_if_ne (tgt := 285) d_X12_term_278 rfl (fun hc => ?_) (fun hc => ?_)
            · have h := h.1 hc
              refine r_lload (x := x6) d_X12_term_285 rfl ?_
              refine r_lstore (L2 := [(2, t), (0, x1), (0, x2), (0, x3), (0, x4), (0, x5), (1, x6), (3, 0), (0, x8), (0, y46)]) d_X12_term_287 (by decide) rfl rfl ?_
              refine r_aload_n (x := t) d_X12_term_289 rfl o_t.1 ?_
              refine r_getf (j := 9) (t := 2) (x := t_ranks) d_X12_term_290 kX12 (by decide) fl_X12_33 o_t.1 o_t.2.1 o_t.2.2.1 o_t.2.2.2 rfl f_t_ranks ?_
              refine r_iload (x := x8) d_X12_term_293 rfl ?_
              refine r_iload (x := y46) d_X12_term_295 rfl ?_
              refine x_callSI (Y2 := mX12_sizeOf) (As := [(0, y46)]) (S := [(0, x8), (2, t_ranks)]) d_X12_term_297 ok_mX12_sizeOf ml_X12_168 rfl (Nat.le_of_ble_eq_true rfl) (Nat.le_of_ble_eq_true rfl) rfl hd_1 (c_X12_sizeOf (v_X12_sizeOf_0 ?_))
              refine ⟨fun hc => ?_, fun hc => ?_⟩
              · have h := h.1 hc
                show WP l mX12_term (rm d 0 0) noX _ 0 0 300 [(2, t), (0, x1), (0, x2), (0, x3), (0, x4), (0, x5), (1, x6), (3, 0), (0, x8), (0, y46)] [(0, y46), (0, x8), (2, t_ranks)] N Λ σ
                refine x_iast d_X12_term_300 h.1 ?_
                have h := h.2
                refine r_nmM (fun τ47 eτ47 => ?_)
                have h := h τ47 eτ47
                refine x_iinc (x := x8) (L := [(2, t), (0, x1), (0, x2), (0, x3), (0, x4), (0, x5), (1, x6), (3, 0), (0, x8), (0, y46)]) d_X12_term_301 rfl (by decide) rfl (fun y48 ey48 => ?_)
                have h := h y48 ey48
                show WP _ _ _ _ _ _ _ _ [(2, t), (0, x1), (0, x2), (0, x3), (0, x4), (0, x5), (1, x6), (3, 0), (0, y48), (0, y46)] _ _ _ _
                refine r_goto (tgt := 129) d_X12_term_304 rfl ?_
                exact x_mask h ⟨Or.inr rfl, Or.inr rfl, Or.inr rfl, Or.inr rfl, Or.inr rfl, Or.inr rfl, Or.inr rfl, Or.inl rfl, Or.inr rfl, Or.inl rfl, trivial⟩
              · have h := h.2 hc
                show WP l mX12_term (rm d 0 0) noX _ 0 0 300 [(2, t), (0, x1), (0, x2), (0, x3), (0, x4), (0, x5), (1, x6), (3, 0), (0, x8), (0, y46)] [(0, (negI y46)), (0, x8), (2, t_ranks)] N Λ σ
                refine x_iast d_X12_term_300 h.1 ?_
                have h := h.2
                refine r_nmM (fun τ49 eτ49 => ?_)
                have h := h τ49 eτ49
                refine x_iinc (x := x8) (L := [(2, t), (0, x1), (0, x2), (0, x3), (0, x4), (0, x5), (1, x6), (3, 0), (0, x8), (0, y46)]) d_X12_term_301 rfl (by decide) rfl (fun y50 ey50 => ?_)
                have h := h y50 ey50
                show WP _ _ _ _ _ _ _ _ [(2, t), (0, x1), (0, x2), (0, x3), (0, x4), (0, x5), (1, x6), (3, 0), (0, y50), (0, y46)] _ _ _ _
                refine r_goto (tgt := 129) d_X12_term_304 rfl ?_
                exact x_mask h ⟨Or.inr rfl, Or.inr rfl, Or.inr rfl, Or.inr rfl, Or.inr rfl, Or.inr rfl, Or.inr rfl, Or.inl rfl, Or.inr rfl, Or.inl rfl, trivial⟩
            · have h := h.2 hc
              refine r_lconst d_X12_term_281 ?_
              skip
              refine r_goto (tgt := 287) d_X12_term_282 rfl ?_
              refine r_lstore (L2 := [(2, t), (0, x1), (0, x2), (0, x3), (0, x4), (0, x5), (1, 0), (3, 0), (0, x8), (0, y46)]) d_X12_term_287 (by decide) rfl rfl ?_
              refine r_aload_n (x := t) d_X12_term_289 rfl o_t.1 ?_
              refine r_getf (j := 9) (t := 2) (x := t_ranks) d_X12_term_290 kX12 (by decide) fl_X12_33 o_t.1 o_t.2.1 o_t.2.2.1 o_t.2.2.2 rfl f_t_ranks ?_
              refine r_iload (x := x8) d_X12_term_293 rfl ?_
              refine r_iload (x := y46) d_X12_term_295 rfl ?_
              refine x_callSI (Y2 := mX12_sizeOf) (As := [(0, y46)]) (S := [(0, x8), (2, t_ranks)]) d_X12_term_297 ok_mX12_sizeOf ml_X12_168 rfl (Nat.le_of_ble_eq_true rfl) (Nat.le_of_ble_eq_true rfl) rfl hd_1 (c_X12_sizeOf (v_X12_sizeOf_0 ?_))
              refine ⟨fun hc => ?_, fun hc => ?_⟩
              · have h := h.1 hc
                show WP l mX12_term (rm d 0 0) noX _ 0 0 300 [(2, t), (0, x1), (0, x2), (0, x3), (0, x4), (0, x5), (1, 0), (3, 0), (0, x8), (0, y46)] [(0, y46), (0, x8), (2, t_ranks)] N Λ σ
                refine x_iast d_X12_term_300 h.1 ?_
                have h := h.2
                refine r_nmM (fun τ51 eτ51 => ?_)
                have h := h τ51 eτ51
                refine x_iinc (x := x8) (L := [(2, t), (0, x1), (0, x2), (0, x3), (0, x4), (0, x5), (1, 0), (3, 0), (0, x8), (0, y46)]) d_X12_term_301 rfl (by decide) rfl (fun y52 ey52 => ?_)
                have h := h y52 ey52
                show WP _ _ _ _ _ _ _ _ [(2, t), (0, x1), (0, x2), (0, x3), (0, x4), (0, x5), (1, 0), (3, 0), (0, y52), (0, y46)] _ _ _ _
                refine r_goto (tgt := 129) d_X12_term_304 rfl ?_
                exact x_mask h ⟨Or.inr rfl, Or.inr rfl, Or.inr rfl, Or.inr rfl, Or.inr rfl, Or.inr rfl, Or.inr rfl, Or.inl rfl, Or.inr rfl, Or.inl rfl, trivial⟩
              · have h := h.2 hc
                show WP l mX12_term (rm d 0 0) noX _ 0 0 300 [(2, t), (0, x1), (0, x2), (0, x3), (0, x4), (0, x5), (1, 0), (3, 0), (0, x8), (0, y46)] [(0, (negI y46)), (0, x8), (2, t_ranks)] N Λ σ
                refine x_iast d_X12_term_300 h.1 ?_
                have h := h.2
                refine r_nmM (fun τ53 eτ53 => ?_)
                have h := h τ53 eτ53
                refine x_iinc (x := x8) (L := [(2, t), (0, x1), (0, x2), (0, x3), (0, x4), (0, x5), (1, 0), (3, 0), (0, x8), (0, y46)]) d_X12_term_301 rfl (by decide) rfl (fun y54 ey54 => ?_)
                have h := h y54 ey54
                show WP _ _ _ _ _ _ _ _ [(2, t), (0, x1), (0, x2), (0, x3), (0, x4), (0, x5), (1, 0), (3, 0), (0, y54), (0, y46)] _ _ _ _
                refine r_goto (tgt := 129) d_X12_term_304 rfl ?_
                exact x_mask h ⟨Or.inr rfl, Or.inr rfl, Or.inr rfl, Or.inr rfl, Or.inr rfl, Or.inr rfl, Or.inr rfl, Or.inl rfl, Or.inr rfl, Or.inl rfl, trivial⟩
          · have h := h.2 hc
            refine r_lload (x := x6) d_X12_term_270 rfl ?_
            refine r_lneg d_X12_term_272 ?_
            refine r_goto (tgt := 287) d_X12_term_273 rfl ?_
            refine r_nm (fun y55 ey55 => ?_)
            have h := h y55 ey55
            refine r_lstore (L2 := [(2, t), (0, x1), (0, x2), (0, x3), (0, x4), (0, x5), (1, y55), (3, 0), (0, x8), (0, y46)]) d_X12_term_287 (by decide) rfl rfl ?_
            refine r_aload_n (x := t) d_X12_term_289 rfl o_t.1 ?_
            refine r_getf (j := 9) (t := 2) (x := t_ranks) d_X12_term_290 kX12 (by decide) fl_X12_33 o_t.1 o_t.2.1 o_t.2.2.1 o_t.2.2.2 rfl f_t_ranks ?_
            refine r_iload (x := x8) d_X12_term_293 rfl ?_
            refine r_iload (x := y46) d_X12_term_295 rfl ?_
            refine x_callSI (Y2 := mX12_sizeOf) (As := [(0, y46)]) (S := [(0, x8), (2, t_ranks)]) d_X12_term_297 ok_mX12_sizeOf ml_X12_168 rfl (Nat.le_of_ble_eq_true rfl) (Nat.le_of_ble_eq_true rfl) rfl hd_1 (c_X12_sizeOf (v_X12_sizeOf_0 ?_))
            refine ⟨fun hc => ?_, fun hc => ?_⟩
            · have h := h.1 hc
              show WP l mX12_term (rm d 0 0) noX _ 0 0 300 [(2, t), (0, x1), (0, x2), (0, x3), (0, x4), (0, x5), (1, y55), (3, 0), (0, x8), (0, y46)] [(0, y46), (0, x8), (2, t_ranks)] N Λ σ
              refine x_iast d_X12_term_300 h.1 ?_
              have h := h.2
              refine r_nmM (fun τ56 eτ56 => ?_)
              have h := h τ56 eτ56
              refine x_iinc (x := x8) (L := [(2, t), (0, x1), (0, x2), (0, x3), (0, x4), (0, x5), (1, y55), (3, 0), (0, x8), (0, y46)]) d_X12_term_301 rfl (by decide) rfl (fun y57 ey57 => ?_)
              have h := h y57 ey57
              show WP _ _ _ _ _ _ _ _ [(2, t), (0, x1), (0, x2), (0, x3), (0, x4), (0, x5), (1, y55), (3, 0), (0, y57), (0, y46)] _ _ _ _
              refine r_goto (tgt := 129) d_X12_term_304 rfl ?_
              exact x_mask h ⟨Or.inr rfl, Or.inr rfl, Or.inr rfl, Or.inr rfl, Or.inr rfl, Or.inr rfl, Or.inr rfl, Or.inl rfl, Or.inr rfl, Or.inl rfl, trivial⟩
            · have h := h.2 hc
              show WP l mX12_term (rm d 0 0) noX _ 0 0 300 [(2, t), (0, x1), (0, x2), (0, x3), (0, x4), (0, x5), (1, y55), (3, 0), (0, x8), (0, y46)] [(0, (negI y46)), (0, x8), (2, t_ranks)] N Λ σ
              refine x_iast d_X12_term_300 h.1 ?_
              have h := h.2
              refine r_nmM (fun τ58 eτ58 => ?_)
              have h := h τ58 eτ58
              refine x_iinc (x := x8) (L := [(2, t), (0, x1), (0, x2), (0, x3), (0, x4), (0, x5), (1, y55), (3, 0), (0, x8), (0, y46)]) d_X12_term_301 rfl (by decide) rfl (fun y59 ey59 => ?_)
              have h := h y59 ey59
              show WP _ _ _ _ _ _ _ _ [(2, t), (0, x1), (0, x2), (0, x3), (0, x4), (0, x5), (1, y55), (3, 0), (0, y59), (0, y46)] _ _ _ _
              refine r_goto (tgt := 129) d_X12_term_304 rfl ?_
              exact x_mask h ⟨Or.inr rfl, Or.inr rfl, Or.inr rfl, Or.inr rfl, Or.inr rfl, Or.inr rfl, Or.inr rfl, Or.inl rfl, Or.inr rfl, Or.inl rfl, trivial⟩
        · have h := h.2 hc
          exact r_vret d_X12_term_219 rfl (Nat.le_refl 0) (Nat.le_refl 0) ⟨rfl, rfl, rfl, h⟩
    · have h := h.2 hc
      refine ⟨h.1, ?_⟩
      have h := h.2
      show WP l mX12_term (rm d 0 0) noX _ 0 0 199 [(2, t), (0, x1), (0, x2), (0, x3), (0, x4), (0, x5), (1, x6), (3, 0), (0, x8), (0, x9)] [(0, (andI (σ t_tape (σ t 21)) 255)), (2, t)] N Λ σ
      refine r_bipush (x := 93) d_X12_term_199 ⟨by decide, by decide⟩ (by decide) ?_
      refine r_ic_ne (tgt := 208) d_X12_term_201 rfl (fun hc => ?_) (fun hc => ?_)
      · have h := h.1 hc
        refine r_iconst (x := 0) d_X12_term_208 ⟨by decide, by decide⟩ ?_
        refine x_callVV (Y2 := mX12_must) (c := t) (As := [(0, 0)]) (S := []) d_X12_term_209 ok_mX12_must ml_X12_286 rfl (Nat.le_of_ble_eq_true rfl) (Nat.le_of_ble_eq_true rfl) rfl hd_1 kX12 o_t (c_X12_must (v_X12_must_0 o_t he_1 ?_))
        refine ⟨fun hc => ?_, fun hc => ?_⟩
        · have h := h.1 hc
          refine ⟨fun hc => ?_, fun hc => ?_⟩
          · have h := h.1 hc
            refine ⟨fun hc => ?_, fun hc => ?_⟩
            · have h := h.1 hc
              intro τ60 eτ60
              have h := h τ60 eτ60
              intro τ61 eτ61
              have h := h τ61 eτ61
              show WP l mX12_term (rm d 0 0) noX _ 0 0 212 [(2, t), (0, x1), (0, x2), (0, x3), (0, x4), (0, x5), (1, x6), (3, 0), (0, x8), (0, x9)] [] N Λ τ61
              refine r_aload_n (x := t) d_X12_term_212 rfl o_t.1 ?_
              refine r_getf (j := 22) (t := 0) (x := (τ61 t 22)) d_X12_term_213 kX12 (by decide) fl_X12_261 o_t.1 o_t.2.1 o_t.2.2.1 o_t.2.2.2 rfl rfl ?_
              refine r_if_eq (tgt := 220) d_X12_term_216 rfl (fun hc => ?_) (fun hc => ?_)
              · have h := h.1 hc
                refine r_aload_n (x := t) d_X12_term_220 rfl o_t.1 ?_
                refine r_getf (j := 1) (t := 2) (x := t_rankOf) d_X12_term_221 kX12 (by decide) fl_X12_13 o_t.1 o_t.2.1 o_t.2.2.1 o_t.2.2.2 rfl f_t_rankOf ?_
                refine r_bipush (x := 100) d_X12_term_224 ⟨by decide, by decide⟩ (by decide) ?_
                refine r_aload_n (x := t) d_X12_term_226 rfl o_t.1 ?_
                refine r_aload_n (x := t) d_X12_term_227 rfl o_t.1 ?_
                refine r_getf (j := 21) (t := 0) (x := (τ61 t 21)) d_X12_term_228 kX12 (by decide) fl_X12_255 o_t.1 o_t.2.1 o_t.2.2.1 o_t.2.2.2 rfl rfl ?_
                refine r_iconst (x := 4) d_X12_term_231 ⟨by decide, by decide⟩ ?_
                refine r_isub d_X12_term_232 ?_
                refine x_callVI (Y2 := mX12_letterAt) (c := t) (As := [(0, (subI (τ61 t 21) 4))]) (S := [(0, 100), (2, t_rankOf)]) d_X12_term_233 ok_mX12_letterAt ml_X12_290 rfl (Nat.le_of_ble_eq_true rfl) (Nat.le_of_ble_eq_true rfl) rfl hd_1 kX12 o_t (c_X12_letterAt (v_X12_letterAt_0 o_t f_t_tape ?_))
                refine ⟨h.1, ?_⟩
                have h := h.2
                show WP l mX12_term (rm d 0 0) noX _ 0 0 236 [(2, t), (0, x1), (0, x2), (0, x3), (0, x4), (0, x5), (1, x6), (3, 0), (0, x8), (0, x9)] [(0, (subI (τ61 t_tape (subI (τ61 t 21) 4)) 97)), (0, 100), (2, t_rankOf)] N Λ τ61
                refine r_imul d_X12_term_236 ?_
                refine r_bipush (x := 10) d_X12_term_237 ⟨by decide, by decide⟩ (by decide) ?_
                refine r_aload_n (x := t) d_X12_term_239 rfl o_t.1 ?_
                refine r_aload_n (x := t) d_X12_term_240 rfl o_t.1 ?_
                refine r_getf (j := 21) (t := 0) (x := (τ61 t 21)) d_X12_term_241 kX12 (by decide) fl_X12_255 o_t.1 o_t.2.1 o_t.2.2.1 o_t.2.2.2 rfl rfl ?_
                refine r_iconst (x := 3) d_X12_term_244 ⟨by decide, by decide⟩ ?_
                refine r_isub d_X12_term_245 ?_
                refine x_callVI (Y2 := mX12_letterAt) (c := t) (As := [(0, (subI (τ61 t 21) 3))]) (S := [(0, 10), (0, (mulI 100 (subI (τ61 t_tape (subI (τ61 t 21) 4)) 97))), (2, t_rankOf)]) d_X12_term_246 ok_mX12_letterAt ml_X12_290 rfl (Nat.le_of_ble_eq_true rfl) (Nat.le_of_ble_eq_true rfl) rfl hd_1 kX12 o_t (c_X12_letterAt (v_X12_letterAt_0 o_t f_t_tape ?_))
                refine ⟨h.1, ?_⟩
                have h := h.2
                show WP l mX12_term (rm d 0 0) noX _ 0 0 249 [(2, t), (0, x1), (0, x2), (0, x3), (0, x4), (0, x5), (1, x6), (3, 0), (0, x8), (0, x9)] [(0, (subI (τ61 t_tape (subI (τ61 t 21) 3)) 97)), (0, 10), (0, (mulI 100 (subI (τ61 t_tape (subI (τ61 t 21) 4)) 97))), (2, t_rankOf)] N Λ τ61
                refine r_imul d_X12_term_249 ?_
                refine r_iadd d_X12_term_250 ?_
                refine r_aload_n (x := t) d_X12_term_251 rfl o_t.1 ?_
                refine r_aload_n (x := t) d_X12_term_252 rfl o_t.1 ?_
                refine r_getf (j := 21) (t := 0) (x := (τ61 t 21)) d_X12_term_253 kX12 (by decide) fl_X12_255 o_t.1 o_t.2.1 o_t.2.2.1 o_t.2.2.2 rfl rfl ?_
                refine r_iconst (x := 2) d_X12_term_256 ⟨by decide, by decide⟩ ?_
                refine r_isub d_X12_term_257 ?_
                refine x_callVI (Y2 := mX12_letterAt) (c := t) (As := [(0, (subI (τ61 t 21) 2))]) (S := [(0, (addI (mulI 100 (subI (τ61 t_tape (subI (τ61 t 21) 4)) 97)) (mulI 10 (subI (τ61 t_tape (subI (τ61 t 21) 3)) 97)))), (2, t_rankOf)]) d_X12_term_258 ok_mX12_letterAt ml_X12_290 rfl (Nat.le_of_ble_eq_true rfl) (Nat.le_of_ble_eq_true rfl) rfl hd_1 kX12 o_t (c_X12_letterAt (v_X12_letterAt_0 o_t f_t_tape ?_))
                refine ⟨h.1, ?_⟩
                have h := h.2
                show WP l mX12_term (rm d 0 0) noX _ 0 0 261 [(2, t), (0, x1), (0, x2), (0, x3), (0, x4), (0, x5), (1, x6), (3, 0), (0, x8), (0, x9)] [(0, (subI (τ61 t_tape (subI (τ61 t 21) 2)) 97)), (0, (addI (mulI 100 (subI (τ61 t_tape (subI (τ61 t 21) 4)) 97)) (mulI 10 (subI (τ61 t_tape (subI (τ61 t 21) 3)) 97)))), (2, t_rankOf)] N Λ τ61
                refine r_iadd d_X12_term_261 ?_
                refine x_iald d_X12_term_262 h.1 ?_
                have h := h.2
                refine r_nm (fun y62 ey62 => ?_)
                have h := h y62 ey62
                refine r_istore (L2 := [(2, t), (0, x1), (0, x2), (0, x3), (0, x4), (0, x5), (1, x6), (3, 0), (0, x8), (0, y62)]) d_X12_term_263 (by decide) rfl rfl ?_
                refine r_iload (x := y62) d_X12_term_265 rfl ?_
                refine r_if_ge (tgt := 276) d_X12_term_267 rfl (fun hc => ?_) (fun hc => ?_)
                · have h := h.1 hc
                  refine r_iload (x := y62) d_X12_term_276 rfl ?_
                  refine r_if_ne (tgt := 285) d_X12_term_278 rfl (fun hc => ?_) (fun hc => ?_)
                  · have h := h.1 hc
                    refine r_lload (x := x6) d_X12_term_285 rfl ?_
                    refine r_lstore (L2 := [(2, t), (0, x1), (0, x2), (0, x3), (0, x4), (0, x5), (1, x6), (3, 0), (0, x8), (0, y62)]) d_X12_term_287 (by decide) rfl rfl ?_
                    refine r_aload_n (x := t) d_X12_term_289 rfl o_t.1 ?_
                    refine r_getf (j := 9) (t := 2) (x := t_ranks) d_X12_term_290 kX12 (by decide) fl_X12_33 o_t.1 o_t.2.1 o_t.2.2.1 o_t.2.2.2 rfl f_t_ranks ?_
                    refine r_iload (x := x8) d_X12_term_293 rfl ?_
                    refine r_iload (x := y62) d_X12_term_295 rfl ?_
                    refine x_callSI (Y2 := mX12_sizeOf) (As := [(0, y62)]) (S := [(0, x8), (2, t_ranks)]) d_X12_term_297 ok_mX12_sizeOf ml_X12_168 rfl (Nat.le_of_ble_eq_true rfl) (Nat.le_of_ble_eq_true rfl) rfl hd_1 (c_X12_sizeOf (v_X12_sizeOf_0 ?_))
                    refine ⟨fun hc => ?_, fun hc => ?_⟩
                    · have h := h.1 hc
                      show WP l mX12_term (rm d 0 0) noX _ 0 0 300 [(2, t), (0, x1), (0, x2), (0, x3), (0, x4), (0, x5), (1, x6), (3, 0), (0, x8), (0, y62)] [(0, y62), (0, x8), (2, t_ranks)] N Λ τ61
                      refine x_iast d_X12_term_300 h.1 ?_
                      have h := h.2
                      refine r_nmM (fun τ63 eτ63 => ?_)
                      have h := h τ63 eτ63
                      refine x_iinc (x := x8) (L := [(2, t), (0, x1), (0, x2), (0, x3), (0, x4), (0, x5), (1, x6), (3, 0), (0, x8), (0, y62)]) d_X12_term_301 rfl (by decide) rfl (fun y64 ey64 => ?_)
                      have h := h y64 ey64
                      show WP _ _ _ _ _ _ _ _ [(2, t), (0, x1), (0, x2), (0, x3), (0, x4), (0, x5), (1, x6), (3, 0), (0, y64), (0, y62)] _ _ _ _
                      refine r_goto (tgt := 129) d_X12_term_304 rfl ?_
                      exact x_mask h ⟨Or.inr rfl, Or.inr rfl, Or.inr rfl, Or.inr rfl, Or.inr rfl, Or.inr rfl, Or.inr rfl, Or.inl rfl, Or.inr rfl, Or.inl rfl, trivial⟩
                    · have h := h.2 hc
                      show WP l mX12_term (rm d 0 0) noX _ 0 0 300 [(2, t), (0, x1), (0, x2), (0, x3), (0, x4), (0, x5), (1, x6), (3, 0), (0, x8), (0, y62)] [(0, (negI y62)), (0, x8), (2, t_ranks)] N Λ τ61
                      refine x_iast d_X12_term_300 h.1 ?_
                      have h := h.2
                      refine r_nmM (fun τ65 eτ65 => ?_)
                      have h := h τ65 eτ65
                      refine x_iinc (x := x8) (L := [(2, t), (0, x1), (0, x2), (0, x3), (0, x4), (0, x5), (1, x6), (3, 0), (0, x8), (0, y62)]) d_X12_term_301 rfl (by decide) rfl (fun y66 ey66 => ?_)
                      have h := h y66 ey66
                      show WP _ _ _ _ _ _ _ _ [(2, t), (0, x1), (0, x2), (0, x3), (0, x4), (0, x5), (1, x6), (3, 0), (0, y66), (0, y62)] _ _ _ _
                      refine r_goto (tgt := 129) d_X12_term_304 rfl ?_
                      exact x_mask h ⟨Or.inr rfl, Or.inr rfl, Or.inr rfl, Or.inr rfl, Or.inr rfl, Or.inr rfl, Or.inr rfl, Or.inl rfl, Or.inr rfl, Or.inl rfl, trivial⟩
                  · have h := h.2 hc
                    refine r_lconst d_X12_term_281 ?_
                    skip
                    refine r_goto (tgt := 287) d_X12_term_282 rfl ?_
                    refine r_lstore (L2 := [(2, t), (0, x1), (0, x2), (0, x3), (0, x4), (0, x5), (1, 0), (3, 0), (0, x8), (0, y62)]) d_X12_term_287 (by decide) rfl rfl ?_
                    refine r_aload_n (x := t) d_X12_term_289 rfl o_t.1 ?_
                    refine r_getf (j := 9) (t := 2) (x := t_ranks) d_X12_term_290 kX12 (by decide) fl_X12_33 o_t.1 o_t.2.1 o_t.2.2.1 o_t.2.2.2 rfl f_t_ranks ?_
                    refine r_iload (x := x8) d_X12_term_293 rfl ?_
                    refine r_iload (x := y62) d_X12_term_295 rfl ?_
                    refine x_callSI (Y2 := mX12_sizeOf) (As := [(0, y62)]) (S := [(0, x8), (2, t_ranks)]) d_X12_term_297 ok_mX12_sizeOf ml_X12_168 rfl (Nat.le_of_ble_eq_true rfl) (Nat.le_of_ble_eq_true rfl) rfl hd_1 (c_X12_sizeOf (v_X12_sizeOf_0 ?_))
                    refine ⟨fun hc => ?_, fun hc => ?_⟩
                    · have h := h.1 hc
                      show WP l mX12_term (rm d 0 0) noX _ 0 0 300 [(2, t), (0, x1), (0, x2), (0, x3), (0, x4), (0, x5), (1, 0), (3, 0), (0, x8), (0, y62)] [(0, y62), (0, x8), (2, t_ranks)] N Λ τ61
                      refine x_iast d_X12_term_300 h.1 ?_
                      have h := h.2
                      refine r_nmM (fun τ67 eτ67 => ?_)
                      have h := h τ67 eτ67
                      refine x_iinc (x := x8) (L := [(2, t), (0, x1), (0, x2), (0, x3), (0, x4), (0, x5), (1, 0), (3, 0), (0, x8), (0, y62)]) d_X12_term_301 rfl (by decide) rfl (fun y68 ey68 => ?_)
                      have h := h y68 ey68
                      show WP _ _ _ _ _ _ _ _ [(2, t), (0, x1), (0, x2), (0, x3), (0, x4), (0, x5), (1, 0), (3, 0), (0, y68), (0, y62)] _ _ _ _
                      refine r_goto (tgt := 129) d_X12_term_304 rfl ?_
                      exact x_mask h ⟨Or.inr rfl, Or.inr rfl, Or.inr rfl, Or.inr rfl, Or.inr rfl, Or.inr rfl, Or.inr rfl, Or.inl rfl, Or.inr rfl, Or.inl rfl, trivial⟩
                    · have h := h.2 hc
                      show WP l mX12_term (rm d 0 0) noX _ 0 0 300 [(2, t), (0, x1), (0, x2), (0, x3), (0, x4), (0, x5), (1, 0), (3, 0), (0, x8), (0, y62)] [(0, (negI y62)), (0, x8), (2, t_ranks)] N Λ τ61
                      refine x_iast d_X12_term_300 h.1 ?_
                      have h := h.2
                      refine r_nmM (fun τ69 eτ69 => ?_)
                      have h := h τ69 eτ69
                      refine x_iinc (x := x8) (L := [(2, t), (0, x1), (0, x2), (0, x3), (0, x4), (0, x5), (1, 0), (3, 0), (0, x8), (0, y62)]) d_X12_term_301 rfl (by decide) rfl (fun y70 ey70 => ?_)
                      have h := h y70 ey70
                      show WP _ _ _ _ _ _ _ _ [(2, t), (0, x1), (0, x2), (0, x3), (0, x4), (0, x5), (1, 0), (3, 0), (0, y70), (0, y62)] _ _ _ _
                      refine r_goto (tgt := 129) d_X12_term_304 rfl ?_
                      exact x_mask h ⟨Or.inr rfl, Or.inr rfl, Or.inr rfl, Or.inr rfl, Or.inr rfl, Or.inr rfl, Or.inr rfl, Or.inl rfl, Or.inr rfl, Or.inl rfl, trivial⟩
                · have h := h.2 hc
                  refine r_lload (x := x6) d_X12_term_270 rfl ?_
                  refine r_lneg d_X12_term_272 ?_
                  refine r_goto (tgt := 287) d_X12_term_273 rfl ?_
                  refine r_nm (fun y71 ey71 => ?_)
                  have h := h y71 ey71
                  refine r_lstore (L2 := [(2, t), (0, x1), (0, x2), (0, x3), (0, x4), (0, x5), (1, y71), (3, 0), (0, x8), (0, y62)]) d_X12_term_287 (by decide) rfl rfl ?_
                  refine r_aload_n (x := t) d_X12_term_289 rfl o_t.1 ?_
                  refine r_getf (j := 9) (t := 2) (x := t_ranks) d_X12_term_290 kX12 (by decide) fl_X12_33 o_t.1 o_t.2.1 o_t.2.2.1 o_t.2.2.2 rfl f_t_ranks ?_
                  refine r_iload (x := x8) d_X12_term_293 rfl ?_
                  refine r_iload (x := y62) d_X12_term_295 rfl ?_
                  refine x_callSI (Y2 := mX12_sizeOf) (As := [(0, y62)]) (S := [(0, x8), (2, t_ranks)]) d_X12_term_297 ok_mX12_sizeOf ml_X12_168 rfl (Nat.le_of_ble_eq_true rfl) (Nat.le_of_ble_eq_true rfl) rfl hd_1 (c_X12_sizeOf (v_X12_sizeOf_0 ?_))
                  refine ⟨fun hc => ?_, fun hc => ?_⟩
                  · have h := h.1 hc
                    show WP l mX12_term (rm d 0 0) noX _ 0 0 300 [(2, t), (0, x1), (0, x2), (0, x3), (0, x4), (0, x5), (1, y71), (3, 0), (0, x8), (0, y62)] [(0, y62), (0, x8), (2, t_ranks)] N Λ τ61
                    refine x_iast d_X12_term_300 h.1 ?_
                    have h := h.2
                    refine r_nmM (fun τ72 eτ72 => ?_)
                    have h := h τ72 eτ72
                    refine x_iinc (x := x8) (L := [(2, t), (0, x1), (0, x2), (0, x3), (0, x4), (0, x5), (1, y71), (3, 0), (0, x8), (0, y62)]) d_X12_term_301 rfl (by decide) rfl (fun y73 ey73 => ?_)
                    have h := h y73 ey73
                    show WP _ _ _ _ _ _ _ _ [(2, t), (0, x1), (0, x2), (0, x3), (0, x4), (0, x5), (1, y71), (3, 0), (0, y73), (0, y62)] _ _ _ _
                    refine r_goto (tgt := 129) d_X12_term_304 rfl ?_
                    exact x_mask h ⟨Or.inr rfl, Or.inr rfl, Or.inr rfl, Or.inr rfl, Or.inr rfl, Or.inr rfl, Or.inr rfl, Or.inl rfl, Or.inr rfl, Or.inl rfl, trivial⟩
                  · have h := h.2 hc
                    show WP l mX12_term (rm d 0 0) noX _ 0 0 300 [(2, t), (0, x1), (0, x2), (0, x3), (0, x4), (0, x5), (1, y71), (3, 0), (0, x8), (0, y62)] [(0, (negI y62)), (0, x8), (2, t_ranks)] N Λ τ61
                    refine x_iast d_X12_term_300 h.1 ?_
                    have h := h.2
                    refine r_nmM (fun τ74 eτ74 => ?_)
                    have h := h τ74 eτ74
                    refine x_iinc (x := x8) (L := [(2, t), (0, x1), (0, x2), (0, x3), (0, x4), (0, x5), (1, y71), (3, 0), (0, x8), (0, y62)]) d_X12_term_301 rfl (by decide) rfl (fun y75 ey75 => ?_)
                    have h := h y75 ey75
                    show WP _ _ _ _ _ _ _ _ [(2, t), (0, x1), (0, x2), (0, x3), (0, x4), (0, x5), (1, y71), (3, 0), (0, y75), (0, y62)] _ _ _ _
                    refine r_goto (tgt := 129) d_X12_term_304 rfl ?_
                    exact x_mask h ⟨Or.inr rfl, Or.inr rfl, Or.inr rfl, Or.inr rfl, Or.inr rfl, Or.inr rfl, Or.inr rfl, Or.inl rfl, Or.inr rfl, Or.inl rfl, trivial⟩
              · have h := h.2 hc
                exact r_vret d_X12_term_219 rfl (Nat.le_refl 0) (Nat.le_refl 0) ⟨rfl, rfl, rfl, h⟩
            · have h := h.2 hc
              show WP l mX12_term (rm d 0 0) noX _ 0 0 212 [(2, t), (0, x1), (0, x2), (0, x3), (0, x4), (0, x5), (1, x6), (3, 0), (0, x8), (0, x9)] [] N Λ σ
              refine r_aload_n (x := t) d_X12_term_212 rfl o_t.1 ?_
              refine r_getf (j := 22) (t := 0) (x := (σ t 22)) d_X12_term_213 kX12 (by decide) fl_X12_261 o_t.1 o_t.2.1 o_t.2.2.1 o_t.2.2.2 rfl rfl ?_
              refine r_if_eq (tgt := 220) d_X12_term_216 rfl (fun hc => ?_) (fun hc => ?_)
              · have h := h.1 hc
                refine r_aload_n (x := t) d_X12_term_220 rfl o_t.1 ?_
                refine r_getf (j := 1) (t := 2) (x := t_rankOf) d_X12_term_221 kX12 (by decide) fl_X12_13 o_t.1 o_t.2.1 o_t.2.2.1 o_t.2.2.2 rfl f_t_rankOf ?_
                refine r_bipush (x := 100) d_X12_term_224 ⟨by decide, by decide⟩ (by decide) ?_
                refine r_aload_n (x := t) d_X12_term_226 rfl o_t.1 ?_
                refine r_aload_n (x := t) d_X12_term_227 rfl o_t.1 ?_
                refine r_getf (j := 21) (t := 0) (x := (σ t 21)) d_X12_term_228 kX12 (by decide) fl_X12_255 o_t.1 o_t.2.1 o_t.2.2.1 o_t.2.2.2 rfl rfl ?_
                refine r_iconst (x := 4) d_X12_term_231 ⟨by decide, by decide⟩ ?_
                refine r_isub d_X12_term_232 ?_
                refine x_callVI (Y2 := mX12_letterAt) (c := t) (As := [(0, (subI (σ t 21) 4))]) (S := [(0, 100), (2, t_rankOf)]) d_X12_term_233 ok_mX12_letterAt ml_X12_290 rfl (Nat.le_of_ble_eq_true rfl) (Nat.le_of_ble_eq_true rfl) rfl hd_1 kX12 o_t (c_X12_letterAt (v_X12_letterAt_0 o_t f_t_tape ?_))
                refine ⟨h.1, ?_⟩
                have h := h.2
                show WP l mX12_term (rm d 0 0) noX _ 0 0 236 [(2, t), (0, x1), (0, x2), (0, x3), (0, x4), (0, x5), (1, x6), (3, 0), (0, x8), (0, x9)] [(0, (subI (σ t_tape (subI (σ t 21) 4)) 97)), (0, 100), (2, t_rankOf)] N Λ σ
                refine r_imul d_X12_term_236 ?_
                refine r_bipush (x := 10) d_X12_term_237 ⟨by decide, by decide⟩ (by decide) ?_
                refine r_aload_n (x := t) d_X12_term_239 rfl o_t.1 ?_
                refine r_aload_n (x := t) d_X12_term_240 rfl o_t.1 ?_
                refine r_getf (j := 21) (t := 0) (x := (σ t 21)) d_X12_term_241 kX12 (by decide) fl_X12_255 o_t.1 o_t.2.1 o_t.2.2.1 o_t.2.2.2 rfl rfl ?_
                refine r_iconst (x := 3) d_X12_term_244 ⟨by decide, by decide⟩ ?_
                refine r_isub d_X12_term_245 ?_
                refine x_callVI (Y2 := mX12_letterAt) (c := t) (As := [(0, (subI (σ t 21) 3))]) (S := [(0, 10), (0, (mulI 100 (subI (σ t_tape (subI (σ t 21) 4)) 97))), (2, t_rankOf)]) d_X12_term_246 ok_mX12_letterAt ml_X12_290 rfl (Nat.le_of_ble_eq_true rfl) (Nat.le_of_ble_eq_true rfl) rfl hd_1 kX12 o_t (c_X12_letterAt (v_X12_letterAt_0 o_t f_t_tape ?_))
                refine ⟨h.1, ?_⟩
                have h := h.2
                show WP l mX12_term (rm d 0 0) noX _ 0 0 249 [(2, t), (0, x1), (0, x2), (0, x3), (0, x4), (0, x5), (1, x6), (3, 0), (0, x8), (0, x9)] [(0, (subI (σ t_tape (subI (σ t 21) 3)) 97)), (0, 10), (0, (mulI 100 (subI (σ t_tape (subI (σ t 21) 4)) 97))), (2, t_rankOf)] N Λ σ
                refine r_imul d_X12_term_249 ?_
                refine r_iadd d_X12_term_250 ?_
                refine r_aload_n (x := t) d_X12_term_251 rfl o_t.1 ?_
                refine r_aload_n (x := t) d_X12_term_252 rfl o_t.1 ?_
                refine r_getf (j := 21) (t := 0) (x := (σ t 21)) d_X12_term_253 kX12 (by decide) fl_X12_255 o_t.1 o_t.2.1 o_t.2.2.1 o_t.2.2.2 rfl rfl ?_
                refine r_iconst (x := 2) d_X12_term_256 ⟨by decide, by decide⟩ ?_
                refine r_isub d_X12_term_257 ?_
                refine x_callVI (Y2 := mX12_letterAt) (c := t) (As := [(0, (subI (σ t 21) 2))]) (S := [(0, (addI (mulI 100 (subI (σ t_tape (subI (σ t 21) 4)) 97)) (mulI 10 (subI (σ t_tape (subI (σ t 21) 3)) 97)))), (2, t_rankOf)]) d_X12_term_258 ok_mX12_letterAt ml_X12_290 rfl (Nat.le_of_ble_eq_true rfl) (Nat.le_of_ble_eq_true rfl) rfl hd_1 kX12 o_t (c_X12_letterAt (v_X12_letterAt_0 o_t f_t_tape ?_))
                refine ⟨h.1, ?_⟩
                have h := h.2
                show WP l mX12_term (rm d 0 0) noX _ 0 0 261 [(2, t), (0, x1), (0, x2), (0, x3), (0, x4), (0, x5), (1, x6), (3, 0), (0, x8), (0, x9)] [(0, (subI (σ t_tape (subI (σ t 21) 2)) 97)), (0, (addI (mulI 100 (subI (σ t_tape (subI (σ t 21) 4)) 97)) (mulI 10 (subI (σ t_tape (subI (σ t 21) 3)) 97)))), (2, t_rankOf)] N Λ σ
                refine r_iadd d_X12_term_261 ?_
                refine x_iald d_X12_term_262 h.1 ?_
                have h := h.2
                refine r_nm (fun y76 ey76 => ?_)
                have h := h y76 ey76
                refine r_istore (L2 := [(2, t), (0, x1), (0, x2), (0, x3), (0, x4), (0, x5), (1, x6), (3, 0), (0, x8), (0, y76)]) d_X12_term_263 (by decide) rfl rfl ?_
                refine r_iload (x := y76) d_X12_term_265 rfl ?_
                refine r_if_ge (tgt := 276) d_X12_term_267 rfl (fun hc => ?_) (fun hc => ?_)
                · have h := h.1 hc
                  refine r_iload (x := y76) d_X12_term_276 rfl ?_
                  refine r_if_ne (tgt := 285) d_X12_term_278 rfl (fun hc => ?_) (fun hc => ?_)
                  · have h := h.1 hc
                    refine r_lload (x := x6) d_X12_term_285 rfl ?_
                    refine r_lstore (L2 := [(2, t), (0, x1), (0, x2), (0, x3), (0, x4), (0, x5), (1, x6), (3, 0), (0, x8), (0, y76)]) d_X12_term_287 (by decide) rfl rfl ?_
                    refine r_aload_n (x := t) d_X12_term_289 rfl o_t.1 ?_
                    refine r_getf (j := 9) (t := 2) (x := t_ranks) d_X12_term_290 kX12 (by decide) fl_X12_33 o_t.1 o_t.2.1 o_t.2.2.1 o_t.2.2.2 rfl f_t_ranks ?_
                    refine r_iload (x := x8) d_X12_term_293 rfl ?_
                    refine r_iload (x := y76) d_X12_term_295 rfl ?_
                    refine x_callSI (Y2 := mX12_sizeOf) (As := [(0, y76)]) (S := [(0, x8), (2, t_ranks)]) d_X12_term_297 ok_mX12_sizeOf ml_X12_168 rfl (Nat.le_of_ble_eq_true rfl) (Nat.le_of_ble_eq_true rfl) rfl hd_1 (c_X12_sizeOf (v_X12_sizeOf_0 ?_))
                    refine ⟨fun hc => ?_, fun hc => ?_⟩
                    · have h := h.1 hc
                      show WP l mX12_term (rm d 0 0) noX _ 0 0 300 [(2, t), (0, x1), (0, x2), (0, x3), (0, x4), (0, x5), (1, x6), (3, 0), (0, x8), (0, y76)] [(0, y76), (0, x8), (2, t_ranks)] N Λ σ
                      refine x_iast d_X12_term_300 h.1 ?_
                      have h := h.2
                      refine r_nmM (fun τ77 eτ77 => ?_)
                      have h := h τ77 eτ77
                      refine x_iinc (x := x8) (L := [(2, t), (0, x1), (0, x2), (0, x3), (0, x4), (0, x5), (1, x6), (3, 0), (0, x8), (0, y76)]) d_X12_term_301 rfl (by decide) rfl (fun y78 ey78 => ?_)
                      have h := h y78 ey78
                      show WP _ _ _ _ _ _ _ _ [(2, t), (0, x1), (0, x2), (0, x3), (0, x4), (0, x5), (1, x6), (3, 0), (0, y78), (0, y76)] _ _ _ _
                      refine r_goto (tgt := 129) d_X12_term_304 rfl ?_
                      exact x_mask h ⟨Or.inr rfl, Or.inr rfl, Or.inr rfl, Or.inr rfl, Or.inr rfl, Or.inr rfl, Or.inr rfl, Or.inl rfl, Or.inr rfl, Or.inl rfl, trivial⟩
                    · have h := h.2 hc
                      show WP l mX12_term (rm d 0 0) noX _ 0 0 300 [(2, t), (0, x1), (0, x2), (0, x3), (0, x4), (0, x5), (1, x6), (3, 0), (0, x8), (0, y76)] [(0, (negI y76)), (0, x8), (2, t_ranks)] N Λ σ
                      refine x_iast d_X12_term_300 h.1 ?_
                      have h := h.2
                      refine r_nmM (fun τ79 eτ79 => ?_)
                      have h := h τ79 eτ79
                      refine x_iinc (x := x8) (L := [(2, t), (0, x1), (0, x2), (0, x3), (0, x4), (0, x5), (1, x6), (3, 0), (0, x8), (0, y76)]) d_X12_term_301 rfl (by decide) rfl (fun y80 ey80 => ?_)
                      have h := h y80 ey80
                      show WP _ _ _ _ _ _ _ _ [(2, t), (0, x1), (0, x2), (0, x3), (0, x4), (0, x5), (1, x6), (3, 0), (0, y80), (0, y76)] _ _ _ _
                      refine r_goto (tgt := 129) d_X12_term_304 rfl ?_
                      exact x_mask h ⟨Or.inr rfl, Or.inr rfl, Or.inr rfl, Or.inr rfl, Or.inr rfl, Or.inr rfl, Or.inr rfl, Or.inl rfl, Or.inr rfl, Or.inl rfl, trivial⟩
                  · have h := h.2 hc
                    refine r_lconst d_X12_term_281 ?_
                    skip
                    refine r_goto (tgt := 287) d_X12_term_282 rfl ?_
                    refine r_lstore (L2 := [(2, t), (0, x1), (0, x2), (0, x3), (0, x4), (0, x5), (1, 0), (3, 0), (0, x8), (0, y76)]) d_X12_term_287 (by decide) rfl rfl ?_
                    refine r_aload_n (x := t) d_X12_term_289 rfl o_t.1 ?_
                    refine r_getf (j := 9) (t := 2) (x := t_ranks) d_X12_term_290 kX12 (by decide) fl_X12_33 o_t.1 o_t.2.1 o_t.2.2.1 o_t.2.2.2 rfl f_t_ranks ?_
                    refine r_iload (x := x8) d_X12_term_293 rfl ?_
                    refine r_iload (x := y76) d_X12_term_295 rfl ?_
                    refine x_callSI (Y2 := mX12_sizeOf) (As := [(0, y76)]) (S := [(0, x8), (2, t_ranks)]) d_X12_term_297 ok_mX12_sizeOf ml_X12_168 rfl (Nat.le_of_ble_eq_true rfl) (Nat.le_of_ble_eq_true rfl) rfl hd_1 (c_X12_sizeOf (v_X12_sizeOf_0 ?_))
                    refine ⟨fun hc => ?_, fun hc => ?_⟩
                    · have h := h.1 hc
                      show WP l mX12_term (rm d 0 0) noX _ 0 0 300 [(2, t), (0, x1), (0, x2), (0, x3), (0, x4), (0, x5), (1, 0), (3, 0), (0, x8), (0, y76)] [(0, y76), (0, x8), (2, t_ranks)] N Λ σ
                      refine x_iast d_X12_term_300 h.1 ?_
                      have h := h.2
                      refine r_nmM (fun τ81 eτ81 => ?_)
                      have h := h τ81 eτ81
                      refine x_iinc (x := x8) (L := [(2, t), (0, x1), (0, x2), (0, x3), (0, x4), (0, x5), (1, 0), (3, 0), (0, x8), (0, y76)]) d_X12_term_301 rfl (by decide) rfl (fun y82 ey82 => ?_)
                      have h := h y82 ey82
                      show WP _ _ _ _ _ _ _ _ [(2, t), (0, x1), (0, x2), (0, x3), (0, x4), (0, x5), (1, 0), (3, 0), (0, y82), (0, y76)] _ _ _ _
                      refine r_goto (tgt := 129) d_X12_term_304 rfl ?_
                      exact x_mask h ⟨Or.inr rfl, Or.inr rfl, Or.inr rfl, Or.inr rfl, Or.inr rfl, Or.inr rfl, Or.inr rfl, Or.inl rfl, Or.inr rfl, Or.inl rfl, trivial⟩
                    · have h := h.2 hc
                      show WP l mX12_term (rm d 0 0) noX _ 0 0 300 [(2, t), (0, x1), (0, x2), (0, x3), (0, x4), (0, x5), (1, 0), (3, 0), (0, x8), (0, y76)] [(0, (negI y76)), (0, x8), (2, t_ranks)] N Λ σ
                      refine x_iast d_X12_term_300 h.1 ?_
                      have h := h.2
                      refine r_nmM (fun τ83 eτ83 => ?_)
                      have h := h τ83 eτ83
                      refine x_iinc (x := x8) (L := [(2, t), (0, x1), (0, x2), (0, x3), (0, x4), (0, x5), (1, 0), (3, 0), (0, x8), (0, y76)]) d_X12_term_301 rfl (by decide) rfl (fun y84 ey84 => ?_)
                      have h := h y84 ey84
                      show WP _ _ _ _ _ _ _ _ [(2, t), (0, x1), (0, x2), (0, x3), (0, x4), (0, x5), (1, 0), (3, 0), (0, y84), (0, y76)] _ _ _ _
                      refine r_goto (tgt := 129) d_X12_term_304 rfl ?_
                      exact x_mask h ⟨Or.inr rfl, Or.inr rfl, Or.inr rfl, Or.inr rfl, Or.inr rfl, Or.inr rfl, Or.inr rfl, Or.inl rfl, Or.inr rfl, Or.inl rfl, trivial⟩
                · have h := h.2 hc
                  refine r_lload (x := x6) d_X12_term_270 rfl ?_
                  refine r_lneg d_X12_term_272 ?_
                  refine r_goto (tgt := 287) d_X12_term_273 rfl ?_
                  refine r_nm (fun y85 ey85 => ?_)
                  have h := h y85 ey85
                  refine r_lstore (L2 := [(2, t), (0, x1), (0, x2), (0, x3), (0, x4), (0, x5), (1, y85), (3, 0), (0, x8), (0, y76)]) d_X12_term_287 (by decide) rfl rfl ?_
                  refine r_aload_n (x := t) d_X12_term_289 rfl o_t.1 ?_
                  refine r_getf (j := 9) (t := 2) (x := t_ranks) d_X12_term_290 kX12 (by decide) fl_X12_33 o_t.1 o_t.2.1 o_t.2.2.1 o_t.2.2.2 rfl f_t_ranks ?_
                  refine r_iload (x := x8) d_X12_term_293 rfl ?_
                  refine r_iload (x := y76) d_X12_term_295 rfl ?_
                  refine x_callSI (Y2 := mX12_sizeOf) (As := [(0, y76)]) (S := [(0, x8), (2, t_ranks)]) d_X12_term_297 ok_mX12_sizeOf ml_X12_168 rfl (Nat.le_of_ble_eq_true rfl) (Nat.le_of_ble_eq_true rfl) rfl hd_1 (c_X12_sizeOf (v_X12_sizeOf_0 ?_))
                  refine ⟨fun hc => ?_, fun hc => ?_⟩
                  · have h := h.1 hc
                    show WP l mX12_term (rm d 0 0) noX _ 0 0 300 [(2, t), (0, x1), (0, x2), (0, x3), (0, x4), (0, x5), (1, y85), (3, 0), (0, x8), (0, y76)] [(0, y76), (0, x8), (2, t_ranks)] N Λ σ
                    refine x_iast d_X12_term_300 h.1 ?_
                    have h := h.2
                    refine r_nmM (fun τ86 eτ86 => ?_)
                    have h := h τ86 eτ86
                    refine x_iinc (x := x8) (L := [(2, t), (0, x1), (0, x2), (0, x3), (0, x4), (0, x5), (1, y85), (3, 0), (0, x8), (0, y76)]) d_X12_term_301 rfl (by decide) rfl (fun y87 ey87 => ?_)
                    have h := h y87 ey87
                    show WP _ _ _ _ _ _ _ _ [(2, t), (0, x1), (0, x2), (0, x3), (0, x4), (0, x5), (1, y85), (3, 0), (0, y87), (0, y76)] _ _ _ _
                    refine r_goto (tgt := 129) d_X12_term_304 rfl ?_
                    exact x_mask h ⟨Or.inr rfl, Or.inr rfl, Or.inr rfl, Or.inr rfl, Or.inr rfl, Or.inr rfl, Or.inr rfl, Or.inl rfl, Or.inr rfl, Or.inl rfl, trivial⟩
                  · have h := h.2 hc
                    show WP l mX12_term (rm d 0 0) noX _ 0 0 300 [(2, t), (0, x1), (0, x2), (0, x3), (0, x4), (0, x5), (1, y85), (3, 0), (0, x8), (0, y76)] [(0, (negI y76)), (0, x8), (2, t_ranks)] N Λ σ
                    refine x_iast d_X12_term_300 h.1 ?_
                    have h := h.2
                    refine r_nmM (fun τ88 eτ88 => ?_)
                    have h := h τ88 eτ88
                    refine x_iinc (x := x8) (L := [(2, t), (0, x1), (0, x2), (0, x3), (0, x4), (0, x5), (1, y85), (3, 0), (0, x8), (0, y76)]) d_X12_term_301 rfl (by decide) rfl (fun y89 ey89 => ?_)
                    have h := h y89 ey89
                    show WP _ _ _ _ _ _ _ _ [(2, t), (0, x1), (0, x2), (0, x3), (0, x4), (0, x5), (1, y85), (3, 0), (0, y89), (0, y76)] _ _ _ _
                    refine r_goto (tgt := 129) d_X12_term_304 rfl ?_
                    exact x_mask h ⟨Or.inr rfl, Or.inr rfl, Or.inr rfl, Or.inr rfl, Or.inr rfl, Or.inr rfl, Or.inr rfl, Or.inl rfl, Or.inr rfl, Or.inl rfl, trivial⟩
              · have h := h.2 hc
                exact r_vret d_X12_term_219 rfl (Nat.le_refl 0) (Nat.le_refl 0) ⟨rfl, rfl, rfl, h⟩
          · have h := h.2 hc
            intro τ90 eτ90
            have h := h τ90 eτ90
            show WP l mX12_term (rm d 0 0) noX _ 0 0 212 [(2, t), (0, x1), (0, x2), (0, x3), (0, x4), (0, x5), (1, x6), (3, 0), (0, x8), (0, x9)] [] N Λ τ90
            refine r_aload_n (x := t) d_X12_term_212 rfl o_t.1 ?_
            refine r_getf (j := 22) (t := 0) (x := (τ90 t 22)) d_X12_term_213 kX12 (by decide) fl_X12_261 o_t.1 o_t.2.1 o_t.2.2.1 o_t.2.2.2 rfl rfl ?_
            refine r_if_eq (tgt := 220) d_X12_term_216 rfl (fun hc => ?_) (fun hc => ?_)
            · have h := h.1 hc
              refine r_aload_n (x := t) d_X12_term_220 rfl o_t.1 ?_
              refine r_getf (j := 1) (t := 2) (x := t_rankOf) d_X12_term_221 kX12 (by decide) fl_X12_13 o_t.1 o_t.2.1 o_t.2.2.1 o_t.2.2.2 rfl f_t_rankOf ?_
              refine r_bipush (x := 100) d_X12_term_224 ⟨by decide, by decide⟩ (by decide) ?_
              refine r_aload_n (x := t) d_X12_term_226 rfl o_t.1 ?_
              refine r_aload_n (x := t) d_X12_term_227 rfl o_t.1 ?_
              refine r_getf (j := 21) (t := 0) (x := (τ90 t 21)) d_X12_term_228 kX12 (by decide) fl_X12_255 o_t.1 o_t.2.1 o_t.2.2.1 o_t.2.2.2 rfl rfl ?_
              refine r_iconst (x := 4) d_X12_term_231 ⟨by decide, by decide⟩ ?_
              refine r_isub d_X12_term_232 ?_
              refine x_callVI (Y2 := mX12_letterAt) (c := t) (As := [(0, (subI (τ90 t 21) 4))]) (S := [(0, 100), (2, t_rankOf)]) d_X12_term_233 ok_mX12_letterAt ml_X12_290 rfl (Nat.le_of_ble_eq_true rfl) (Nat.le_of_ble_eq_true rfl) rfl hd_1 kX12 o_t (c_X12_letterAt (v_X12_letterAt_0 o_t f_t_tape ?_))
              refine ⟨h.1, ?_⟩
              have h := h.2
              show WP l mX12_term (rm d 0 0) noX _ 0 0 236 [(2, t), (0, x1), (0, x2), (0, x3), (0, x4), (0, x5), (1, x6), (3, 0), (0, x8), (0, x9)] [(0, (subI (τ90 t_tape (subI (τ90 t 21) 4)) 97)), (0, 100), (2, t_rankOf)] N Λ τ90
              refine r_imul d_X12_term_236 ?_
              refine r_bipush (x := 10) d_X12_term_237 ⟨by decide, by decide⟩ (by decide) ?_
              refine r_aload_n (x := t) d_X12_term_239 rfl o_t.1 ?_
              refine r_aload_n (x := t) d_X12_term_240 rfl o_t.1 ?_
              refine r_getf (j := 21) (t := 0) (x := (τ90 t 21)) d_X12_term_241 kX12 (by decide) fl_X12_255 o_t.1 o_t.2.1 o_t.2.2.1 o_t.2.2.2 rfl rfl ?_
              refine r_iconst (x := 3) d_X12_term_244 ⟨by decide, by decide⟩ ?_
              refine r_isub d_X12_term_245 ?_
              refine x_callVI (Y2 := mX12_letterAt) (c := t) (As := [(0, (subI (τ90 t 21) 3))]) (S := [(0, 10), (0, (mulI 100 (subI (τ90 t_tape (subI (τ90 t 21) 4)) 97))), (2, t_rankOf)]) d_X12_term_246 ok_mX12_letterAt ml_X12_290 rfl (Nat.le_of_ble_eq_true rfl) (Nat.le_of_ble_eq_true rfl) rfl hd_1 kX12 o_t (c_X12_letterAt (v_X12_letterAt_0 o_t f_t_tape ?_))
              refine ⟨h.1, ?_⟩
              have h := h.2
              show WP l mX12_term (rm d 0 0) noX _ 0 0 249 [(2, t), (0, x1), (0, x2), (0, x3), (0, x4), (0, x5), (1, x6), (3, 0), (0, x8), (0, x9)] [(0, (subI (τ90 t_tape (subI (τ90 t 21) 3)) 97)), (0, 10), (0, (mulI 100 (subI (τ90 t_tape (subI (τ90 t 21) 4)) 97))), (2, t_rankOf)] N Λ τ90
              refine r_imul d_X12_term_249 ?_
              refine r_iadd d_X12_term_250 ?_
              refine r_aload_n (x := t) d_X12_term_251 rfl o_t.1 ?_
              refine r_aload_n (x := t) d_X12_term_252 rfl o_t.1 ?_
              refine r_getf (j := 21) (t := 0) (x := (τ90 t 21)) d_X12_term_253 kX12 (by decide) fl_X12_255 o_t.1 o_t.2.1 o_t.2.2.1 o_t.2.2.2 rfl rfl ?_
              refine r_iconst (x := 2) d_X12_term_256 ⟨by decide, by decide⟩ ?_
              refine r_isub d_X12_term_257 ?_
              refine x_callVI (Y2 := mX12_letterAt) (c := t) (As := [(0, (subI (τ90 t 21) 2))]) (S := [(0, (addI (mulI 100 (subI (τ90 t_tape (subI (τ90 t 21) 4)) 97)) (mulI 10 (subI (τ90 t_tape (subI (τ90 t 21) 3)) 97)))), (2, t_rankOf)]) d_X12_term_258 ok_mX12_letterAt ml_X12_290 rfl (Nat.le_of_ble_eq_true rfl) (Nat.le_of_ble_eq_true rfl) rfl hd_1 kX12 o_t (c_X12_letterAt (v_X12_letterAt_0 o_t f_t_tape ?_))
              refine ⟨h.1, ?_⟩
              have h := h.2
              show WP l mX12_term (rm d 0 0) noX _ 0 0 261 [(2, t), (0, x1), (0, x2), (0, x3), (0, x4), (0, x5), (1, x6), (3, 0), (0, x8), (0, x9)] [(0, (subI (τ90 t_tape (subI (τ90 t 21) 2)) 97)), (0, (addI (mulI 100 (subI (τ90 t_tape (subI (τ90 t 21) 4)) 97)) (mulI 10 (subI (τ90 t_tape (subI (τ90 t 21) 3)) 97)))), (2, t_rankOf)] N Λ τ90
              refine r_iadd d_X12_term_261 ?_
              refine x_iald d_X12_term_262 h.1 ?_
              have h := h.2
              refine r_nm (fun y91 ey91 => ?_)
              have h := h y91 ey91
              refine r_istore (L2 := [(2, t), (0, x1), (0, x2), (0, x3), (0, x4), (0, x5), (1, x6), (3, 0), (0, x8), (0, y91)]) d_X12_term_263 (by decide) rfl rfl ?_
              refine r_iload (x := y91) d_X12_term_265 rfl ?_
              refine r_if_ge (tgt := 276) d_X12_term_267 rfl (fun hc => ?_) (fun hc => ?_)
              · have h := h.1 hc
                refine r_iload (x := y91) d_X12_term_276 rfl ?_
                refine r_if_ne (tgt := 285) d_X12_term_278 rfl (fun hc => ?_) (fun hc => ?_)
                · have h := h.1 hc
                  refine r_lload (x := x6) d_X12_term_285 rfl ?_
                  refine r_lstore (L2 := [(2, t), (0, x1), (0, x2), (0, x3), (0, x4), (0, x5), (1, x6), (3, 0), (0, x8), (0, y91)]) d_X12_term_287 (by decide) rfl rfl ?_
                  refine r_aload_n (x := t) d_X12_term_289 rfl o_t.1 ?_
                  refine r_getf (j := 9) (t := 2) (x := t_ranks) d_X12_term_290 kX12 (by decide) fl_X12_33 o_t.1 o_t.2.1 o_t.2.2.1 o_t.2.2.2 rfl f_t_ranks ?_
                  refine r_iload (x := x8) d_X12_term_293 rfl ?_
                  refine r_iload (x := y91) d_X12_term_295 rfl ?_
                  refine x_callSI (Y2 := mX12_sizeOf) (As := [(0, y91)]) (S := [(0, x8), (2, t_ranks)]) d_X12_term_297 ok_mX12_sizeOf ml_X12_168 rfl (Nat.le_of_ble_eq_true rfl) (Nat.le_of_ble_eq_true rfl) rfl hd_1 (c_X12_sizeOf (v_X12_sizeOf_0 ?_))
                  refine ⟨fun hc => ?_, fun hc => ?_⟩
                  · have h := h.1 hc
                    show WP l mX12_term (rm d 0 0) noX _ 0 0 300 [(2, t), (0, x1), (0, x2), (0, x3), (0, x4), (0, x5), (1, x6), (3, 0), (0, x8), (0, y91)] [(0, y91), (0, x8), (2, t_ranks)] N Λ τ90
                    refine x_iast d_X12_term_300 h.1 ?_
                    have h := h.2
                    refine r_nmM (fun τ92 eτ92 => ?_)
                    have h := h τ92 eτ92
                    refine x_iinc (x := x8) (L := [(2, t), (0, x1), (0, x2), (0, x3), (0, x4), (0, x5), (1, x6), (3, 0), (0, x8), (0, y91)]) d_X12_term_301 rfl (by decide) rfl (fun y93 ey93 => ?_)
                    have h := h y93 ey93
                    show WP _ _ _ _ _ _ _ _ [(2, t), (0, x1), (0, x2), (0, x3), (0, x4), (0, x5), (1, x6), (3, 0), (0, y93), (0, y91)] _ _ _ _
                    refine r_goto (tgt := 129) d_X12_term_304 rfl ?_
                    exact x_mask h ⟨Or.inr rfl, Or.inr rfl, Or.inr rfl, Or.inr rfl, Or.inr rfl, Or.inr rfl, Or.inr rfl, Or.inl rfl, Or.inr rfl, Or.inl rfl, trivial⟩
                  · have h := h.2 hc
                    show WP l mX12_term (rm d 0 0) noX _ 0 0 300 [(2, t), (0, x1), (0, x2), (0, x3), (0, x4), (0, x5), (1, x6), (3, 0), (0, x8), (0, y91)] [(0, (negI y91)), (0, x8), (2, t_ranks)] N Λ τ90
                    refine x_iast d_X12_term_300 h.1 ?_
                    have h := h.2
                    refine r_nmM (fun τ94 eτ94 => ?_)
                    have h := h τ94 eτ94
                    refine x_iinc (x := x8) (L := [(2, t), (0, x1), (0, x2), (0, x3), (0, x4), (0, x5), (1, x6), (3, 0), (0, x8), (0, y91)]) d_X12_term_301 rfl (by decide) rfl (fun y95 ey95 => ?_)
                    have h := h y95 ey95
                    show WP _ _ _ _ _ _ _ _ [(2, t), (0, x1), (0, x2), (0, x3), (0, x4), (0, x5), (1, x6), (3, 0), (0, y95), (0, y91)] _ _ _ _
                    refine r_goto (tgt := 129) d_X12_term_304 rfl ?_
                    exact x_mask h ⟨Or.inr rfl, Or.inr rfl, Or.inr rfl, Or.inr rfl, Or.inr rfl, Or.inr rfl, Or.inr rfl, Or.inl rfl, Or.inr rfl, Or.inl rfl, trivial⟩
                · have h := h.2 hc
                  refine r_lconst d_X12_term_281 ?_
                  skip
                  refine r_goto (tgt := 287) d_X12_term_282 rfl ?_
                  refine r_lstore (L2 := [(2, t), (0, x1), (0, x2), (0, x3), (0, x4), (0, x5), (1, 0), (3, 0), (0, x8), (0, y91)]) d_X12_term_287 (by decide) rfl rfl ?_
                  refine r_aload_n (x := t) d_X12_term_289 rfl o_t.1 ?_
                  refine r_getf (j := 9) (t := 2) (x := t_ranks) d_X12_term_290 kX12 (by decide) fl_X12_33 o_t.1 o_t.2.1 o_t.2.2.1 o_t.2.2.2 rfl f_t_ranks ?_
                  refine r_iload (x := x8) d_X12_term_293 rfl ?_
                  refine r_iload (x := y91) d_X12_term_295 rfl ?_
                  refine x_callSI (Y2 := mX12_sizeOf) (As := [(0, y91)]) (S := [(0, x8), (2, t_ranks)]) d_X12_term_297 ok_mX12_sizeOf ml_X12_168 rfl (Nat.le_of_ble_eq_true rfl) (Nat.le_of_ble_eq_true rfl) rfl hd_1 (c_X12_sizeOf (v_X12_sizeOf_0 ?_))
                  refine ⟨fun hc => ?_, fun hc => ?_⟩
                  · have h := h.1 hc
                    show WP l mX12_term (rm d 0 0) noX _ 0 0 300 [(2, t), (0, x1), (0, x2), (0, x3), (0, x4), (0, x5), (1, 0), (3, 0), (0, x8), (0, y91)] [(0, y91), (0, x8), (2, t_ranks)] N Λ τ90
                    refine x_iast d_X12_term_300 h.1 ?_
                    have h := h.2
                    refine r_nmM (fun τ96 eτ96 => ?_)
                    have h := h τ96 eτ96
                    refine x_iinc (x := x8) (L := [(2, t), (0, x1), (0, x2), (0, x3), (0, x4), (0, x5), (1, 0), (3, 0), (0, x8), (0, y91)]) d_X12_term_301 rfl (by decide) rfl (fun y97 ey97 => ?_)
                    have h := h y97 ey97
                    show WP _ _ _ _ _ _ _ _ [(2, t), (0, x1), (0, x2), (0, x3), (0, x4), (0, x5), (1, 0), (3, 0), (0, y97), (0, y91)] _ _ _ _
                    refine r_goto (tgt := 129) d_X12_term_304 rfl ?_
                    exact x_mask h ⟨Or.inr rfl, Or.inr rfl, Or.inr rfl, Or.inr rfl, Or.inr rfl, Or.inr rfl, Or.inr rfl, Or.inl rfl, Or.inr rfl, Or.inl rfl, trivial⟩
                  · have h := h.2 hc
                    show WP l mX12_term (rm d 0 0) noX _ 0 0 300 [(2, t), (0, x1), (0, x2), (0, x3), (0, x4), (0, x5), (1, 0), (3, 0), (0, x8), (0, y91)] [(0, (negI y91)), (0, x8), (2, t_ranks)] N Λ τ90
                    refine x_iast d_X12_term_300 h.1 ?_
                    have h := h.2
                    refine r_nmM (fun τ98 eτ98 => ?_)
                    have h := h τ98 eτ98
                    refine x_iinc (x := x8) (L := [(2, t), (0, x1), (0, x2), (0, x3), (0, x4), (0, x5), (1, 0), (3, 0), (0, x8), (0, y91)]) d_X12_term_301 rfl (by decide) rfl (fun y99 ey99 => ?_)
                    have h := h y99 ey99
                    show WP _ _ _ _ _ _ _ _ [(2, t), (0, x1), (0, x2), (0, x3), (0, x4), (0, x5), (1, 0), (3, 0), (0, y99), (0, y91)] _ _ _ _
                    refine r_goto (tgt := 129) d_X12_term_304 rfl ?_
                    exact x_mask h ⟨Or.inr rfl, Or.inr rfl, Or.inr rfl, Or.inr rfl, Or.inr rfl, Or.inr rfl, Or.inr rfl, Or.inl rfl, Or.inr rfl, Or.inl rfl, trivial⟩
              · have h := h.2 hc
                refine r_lload (x := x6) d_X12_term_270 rfl ?_
                refine r_lneg d_X12_term_272 ?_
                refine r_goto (tgt := 287) d_X12_term_273 rfl ?_
                refine r_nm (fun y100 ey100 => ?_)
                have h := h y100 ey100
                refine r_lstore (L2 := [(2, t), (0, x1), (0, x2), (0, x3), (0, x4), (0, x5), (1, y100), (3, 0), (0, x8), (0, y91)]) d_X12_term_287 (by decide) rfl rfl ?_
                refine r_aload_n (x := t) d_X12_term_289 rfl o_t.1 ?_
                refine r_getf (j := 9) (t := 2) (x := t_ranks) d_X12_term_290 kX12 (by decide) fl_X12_33 o_t.1 o_t.2.1 o_t.2.2.1 o_t.2.2.2 rfl f_t_ranks ?_
                refine r_iload (x := x8) d_X12_term_293 rfl ?_
                refine r_iload (x := y91) d_X12_term_295 rfl ?_
                refine x_callSI (Y2 := mX12_sizeOf) (As := [(0, y91)]) (S := [(0, x8), (2, t_ranks)]) d_X12_term_297 ok_mX12_sizeOf ml_X12_168 rfl (Nat.le_of_ble_eq_true rfl) (Nat.le_of_ble_eq_true rfl) rfl hd_1 (c_X12_sizeOf (v_X12_sizeOf_0 ?_))
                refine ⟨fun hc => ?_, fun hc => ?_⟩
                · have h := h.1 hc
                  show WP l mX12_term (rm d 0 0) noX _ 0 0 300 [(2, t), (0, x1), (0, x2), (0, x3), (0, x4), (0, x5), (1, y100), (3, 0), (0, x8), (0, y91)] [(0, y91), (0, x8), (2, t_ranks)] N Λ τ90
                  refine x_iast d_X12_term_300 h.1 ?_
                  have h := h.2
                  refine r_nmM (fun τ101 eτ101 => ?_)
                  have h := h τ101 eτ101
                  refine x_iinc (x := x8) (L := [(2, t), (0, x1), (0, x2), (0, x3), (0, x4), (0, x5), (1, y100), (3, 0), (0, x8), (0, y91)]) d_X12_term_301 rfl (by decide) rfl (fun y102 ey102 => ?_)
                  have h := h y102 ey102
                  show WP _ _ _ _ _ _ _ _ [(2, t), (0, x1), (0, x2), (0, x3), (0, x4), (0, x5), (1, y100), (3, 0), (0, y102), (0, y91)] _ _ _ _
                  refine r_goto (tgt := 129) d_X12_term_304 rfl ?_
                  exact x_mask h ⟨Or.inr rfl, Or.inr rfl, Or.inr rfl, Or.inr rfl, Or.inr rfl, Or.inr rfl, Or.inr rfl, Or.inl rfl, Or.inr rfl, Or.inl rfl, trivial⟩
                · have h := h.2 hc
                  show WP l mX12_term (rm d 0 0) noX _ 0 0 300 [(2, t), (0, x1), (0, x2), (0, x3), (0, x4), (0, x5), (1, y100), (3, 0), (0, x8), (0, y91)] [(0, (negI y91)), (0, x8), (2, t_ranks)] N Λ τ90
                  refine x_iast d_X12_term_300 h.1 ?_
                  have h := h.2
                  refine r_nmM (fun τ103 eτ103 => ?_)
                  have h := h τ103 eτ103
                  refine x_iinc (x := x8) (L := [(2, t), (0, x1), (0, x2), (0, x3), (0, x4), (0, x5), (1, y100), (3, 0), (0, x8), (0, y91)]) d_X12_term_301 rfl (by decide) rfl (fun y104 ey104 => ?_)
                  have h := h y104 ey104
                  show WP _ _ _ _ _ _ _ _ [(2, t), (0, x1), (0, x2), (0, x3), (0, x4), (0, x5), (1, y100), (3, 0), (0, y104), (0, y91)] _ _ _ _
                  refine r_goto (tgt := 129) d_X12_term_304 rfl ?_
                  exact x_mask h ⟨Or.inr rfl, Or.inr rfl, Or.inr rfl, Or.inr rfl, Or.inr rfl, Or.inr rfl, Or.inr rfl, Or.inl rfl, Or.inr rfl, Or.inl rfl, trivial⟩
            · have h := h.2 hc
              exact r_vret d_X12_term_219 rfl (Nat.le_refl 0) (Nat.le_refl 0) ⟨rfl, rfl, rfl, h⟩
        · have h := h.2 hc
          show WP l mX12_term (rm d 0 0) noX _ 0 0 212 [(2, t), (0, x1), (0, x2), (0, x3), (0, x4), (0, x5), (1, x6), (3, 0), (0, x8), (0, x9)] [] N Λ σ
          refine r_aload_n (x := t) d_X12_term_212 rfl o_t.1 ?_
          refine r_getf (j := 22) (t := 0) (x := (σ t 22)) d_X12_term_213 kX12 (by decide) fl_X12_261 o_t.1 o_t.2.1 o_t.2.2.1 o_t.2.2.2 rfl rfl ?_
          refine r_if_eq (tgt := 220) d_X12_term_216 rfl (fun hc => ?_) (fun hc => ?_)
          · have h := h.1 hc
            refine r_aload_n (x := t) d_X12_term_220 rfl o_t.1 ?_
            refine r_getf (j := 1) (t := 2) (x := t_rankOf) d_X12_term_221 kX12 (by decide) fl_X12_13 o_t.1 o_t.2.1 o_t.2.2.1 o_t.2.2.2 rfl f_t_rankOf ?_
            refine r_bipush (x := 100) d_X12_term_224 ⟨by decide, by decide⟩ (by decide) ?_
            refine r_aload_n (x := t) d_X12_term_226 rfl o_t.1 ?_
            refine r_aload_n (x := t) d_X12_term_227 rfl o_t.1 ?_
            refine r_getf (j := 21) (t := 0) (x := (σ t 21)) d_X12_term_228 kX12 (by decide) fl_X12_255 o_t.1 o_t.2.1 o_t.2.2.1 o_t.2.2.2 rfl rfl ?_
            refine r_iconst (x := 4) d_X12_term_231 ⟨by decide, by decide⟩ ?_
            refine r_isub d_X12_term_232 ?_
            refine x_callVI (Y2 := mX12_letterAt) (c := t) (As := [(0, (subI (σ t 21) 4))]) (S := [(0, 100), (2, t_rankOf)]) d_X12_term_233 ok_mX12_letterAt ml_X12_290 rfl (Nat.le_of_ble_eq_true rfl) (Nat.le_of_ble_eq_true rfl) rfl hd_1 kX12 o_t (c_X12_letterAt (v_X12_letterAt_0 o_t f_t_tape ?_))
            refine ⟨h.1, ?_⟩
            have h := h.2
            show WP l mX12_term (rm d 0 0) noX _ 0 0 236 [(2, t), (0, x1), (0, x2), (0, x3), (0, x4), (0, x5), (1, x6), (3, 0), (0, x8), (0, x9)] [(0, (subI (σ t_tape (subI (σ t 21) 4)) 97)), (0, 100), (2, t_rankOf)] N Λ σ
            refine r_imul d_X12_term_236 ?_
            refine r_bipush (x := 10) d_X12_term_237 ⟨by decide, by decide⟩ (by decide) ?_
            refine r_aload_n (x := t) d_X12_term_239 rfl o_t.1 ?_
            refine r_aload_n (x := t) d_X12_term_240 rfl o_t.1 ?_
            refine r_getf (j := 21) (t := 0) (x := (σ t 21)) d_X12_term_241 kX12 (by decide) fl_X12_255 o_t.1 o_t.2.1 o_t.2.2.1 o_t.2.2.2 rfl rfl ?_
            refine r_iconst (x := 3) d_X12_term_244 ⟨by decide, by decide⟩ ?_
            refine r_isub d_X12_term_245 ?_
            refine x_callVI (Y2 := mX12_letterAt) (c := t) (As := [(0, (subI (σ t 21) 3))]) (S := [(0, 10), (0, (mulI 100 (subI (σ t_tape (subI (σ t 21) 4)) 97))), (2, t_rankOf)]) d_X12_term_246 ok_mX12_letterAt ml_X12_290 rfl (Nat.le_of_ble_eq_true rfl) (Nat.le_of_ble_eq_true rfl) rfl hd_1 kX12 o_t (c_X12_letterAt (v_X12_letterAt_0 o_t f_t_tape ?_))
            refine ⟨h.1, ?_⟩
            have h := h.2
            show WP l mX12_term (rm d 0 0) noX _ 0 0 249 [(2, t), (0, x1), (0, x2), (0, x3), (0, x4), (0, x5), (1, x6), (3, 0), (0, x8), (0, x9)] [(0, (subI (σ t_tape (subI (σ t 21) 3)) 97)), (0, 10), (0, (mulI 100 (subI (σ t_tape (subI (σ t 21) 4)) 97))), (2, t_rankOf)] N Λ σ
            refine r_imul d_X12_term_249 ?_
            refine r_iadd d_X12_term_250 ?_
            refine r_aload_n (x := t) d_X12_term_251 rfl o_t.1 ?_
            refine r_aload_n (x := t) d_X12_term_252 rfl o_t.1 ?_
            refine r_getf (j := 21) (t := 0) (x := (σ t 21)) d_X12_term_253 kX12 (by decide) fl_X12_255 o_t.1 o_t.2.1 o_t.2.2.1 o_t.2.2.2 rfl rfl ?_
            refine r_iconst (x := 2) d_X12_term_256 ⟨by decide, by decide⟩ ?_
            refine r_isub d_X12_term_257 ?_
            refine x_callVI (Y2 := mX12_letterAt) (c := t) (As := [(0, (subI (σ t 21) 2))]) (S := [(0, (addI (mulI 100 (subI (σ t_tape (subI (σ t 21) 4)) 97)) (mulI 10 (subI (σ t_tape (subI (σ t 21) 3)) 97)))), (2, t_rankOf)]) d_X12_term_258 ok_mX12_letterAt ml_X12_290 rfl (Nat.le_of_ble_eq_true rfl) (Nat.le_of_ble_eq_true rfl) rfl hd_1 kX12 o_t (c_X12_letterAt (v_X12_letterAt_0 o_t f_t_tape ?_))
            refine ⟨h.1, ?_⟩
            have h := h.2
            show WP l mX12_term (rm d 0 0) noX _ 0 0 261 [(2, t), (0, x1), (0, x2), (0, x3), (0, x4), (0, x5), (1, x6), (3, 0), (0, x8), (0, x9)] [(0, (subI (σ t_tape (subI (σ t 21) 2)) 97)), (0, (addI (mulI 100 (subI (σ t_tape (subI (σ t 21) 4)) 97)) (mulI 10 (subI (σ t_tape (subI (σ t 21) 3)) 97)))), (2, t_rankOf)] N Λ σ
            refine r_iadd d_X12_term_261 ?_
            refine x_iald d_X12_term_262 h.1 ?_
            have h := h.2
            refine r_nm (fun y105 ey105 => ?_)
            have h := h y105 ey105
            refine r_istore (L2 := [(2, t), (0, x1), (0, x2), (0, x3), (0, x4), (0, x5), (1, x6), (3, 0), (0, x8), (0, y105)]) d_X12_term_263 (by decide) rfl rfl ?_
            refine r_iload (x := y105) d_X12_term_265 rfl ?_
            refine r_if_ge (tgt := 276) d_X12_term_267 rfl (fun hc => ?_) (fun hc => ?_)
            · have h := h.1 hc
              refine r_iload (x := y105) d_X12_term_276 rfl ?_
              refine r_if_ne (tgt := 285) d_X12_term_278 rfl (fun hc => ?_) (fun hc => ?_)
              · have h := h.1 hc
                refine r_lload (x := x6) d_X12_term_285 rfl ?_
                refine r_lstore (L2 := [(2, t), (0, x1), (0, x2), (0, x3), (0, x4), (0, x5), (1, x6), (3, 0), (0, x8), (0, y105)]) d_X12_term_287 (by decide) rfl rfl ?_
                refine r_aload_n (x := t) d_X12_term_289 rfl o_t.1 ?_
                refine r_getf (j := 9) (t := 2) (x := t_ranks) d_X12_term_290 kX12 (by decide) fl_X12_33 o_t.1 o_t.2.1 o_t.2.2.1 o_t.2.2.2 rfl f_t_ranks ?_
                refine r_iload (x := x8) d_X12_term_293 rfl ?_
                refine r_iload (x := y105) d_X12_term_295 rfl ?_
                refine x_callSI (Y2 := mX12_sizeOf) (As := [(0, y105)]) (S := [(0, x8), (2, t_ranks)]) d_X12_term_297 ok_mX12_sizeOf ml_X12_168 rfl (Nat.le_of_ble_eq_true rfl) (Nat.le_of_ble_eq_true rfl) rfl hd_1 (c_X12_sizeOf (v_X12_sizeOf_0 ?_))
                refine ⟨fun hc => ?_, fun hc => ?_⟩
                · have h := h.1 hc
                  show WP l mX12_term (rm d 0 0) noX _ 0 0 300 [(2, t), (0, x1), (0, x2), (0, x3), (0, x4), (0, x5), (1, x6), (3, 0), (0, x8), (0, y105)] [(0, y105), (0, x8), (2, t_ranks)] N Λ σ
                  refine x_iast d_X12_term_300 h.1 ?_
                  have h := h.2
                  refine r_nmM (fun τ106 eτ106 => ?_)
                  have h := h τ106 eτ106
                  refine x_iinc (x := x8) (L := [(2, t), (0, x1), (0, x2), (0, x3), (0, x4), (0, x5), (1, x6), (3, 0), (0, x8), (0, y105)]) d_X12_term_301 rfl (by decide) rfl (fun y107 ey107 => ?_)
                  have h := h y107 ey107
                  show WP _ _ _ _ _ _ _ _ [(2, t), (0, x1), (0, x2), (0, x3), (0, x4), (0, x5), (1, x6), (3, 0), (0, y107), (0, y105)] _ _ _ _
                  refine r_goto (tgt := 129) d_X12_term_304 rfl ?_
                  exact x_mask h ⟨Or.inr rfl, Or.inr rfl, Or.inr rfl, Or.inr rfl, Or.inr rfl, Or.inr rfl, Or.inr rfl, Or.inl rfl, Or.inr rfl, Or.inl rfl, trivial⟩
                · have h := h.2 hc
                  show WP l mX12_term (rm d 0 0) noX _ 0 0 300 [(2, t), (0, x1), (0, x2), (0, x3), (0, x4), (0, x5), (1, x6), (3, 0), (0, x8), (0, y105)] [(0, (negI y105)), (0, x8), (2, t_ranks)] N Λ σ
                  refine x_iast d_X12_term_300 h.1 ?_
                  have h := h.2
                  refine r_nmM (fun τ108 eτ108 => ?_)
                  have h := h τ108 eτ108
                  refine x_iinc (x := x8) (L := [(2, t), (0, x1), (0, x2), (0, x3), (0, x4), (0, x5), (1, x6), (3, 0), (0, x8), (0, y105)]) d_X12_term_301 rfl (by decide) rfl (fun y109 ey109 => ?_)
                  have h := h y109 ey109
                  show WP _ _ _ _ _ _ _ _ [(2, t), (0, x1), (0, x2), (0, x3), (0, x4), (0, x5), (1, x6), (3, 0), (0, y109), (0, y105)] _ _ _ _
                  refine r_goto (tgt := 129) d_X12_term_304 rfl ?_
                  exact x_mask h ⟨Or.inr rfl, Or.inr rfl, Or.inr rfl, Or.inr rfl, Or.inr rfl, Or.inr rfl, Or.inr rfl, Or.inl rfl, Or.inr rfl, Or.inl rfl, trivial⟩
              · have h := h.2 hc
                refine r_lconst d_X12_term_281 ?_
                skip
                refine r_goto (tgt := 287) d_X12_term_282 rfl ?_
                refine r_lstore (L2 := [(2, t), (0, x1), (0, x2), (0, x3), (0, x4), (0, x5), (1, 0), (3, 0), (0, x8), (0, y105)]) d_X12_term_287 (by decide) rfl rfl ?_
                refine r_aload_n (x := t) d_X12_term_289 rfl o_t.1 ?_
                refine r_getf (j := 9) (t := 2) (x := t_ranks) d_X12_term_290 kX12 (by decide) fl_X12_33 o_t.1 o_t.2.1 o_t.2.2.1 o_t.2.2.2 rfl f_t_ranks ?_
                refine r_iload (x := x8) d_X12_term_293 rfl ?_
                refine r_iload (x := y105) d_X12_term_295 rfl ?_
                refine x_callSI (Y2 := mX12_sizeOf) (As := [(0, y105)]) (S := [(0, x8), (2, t_ranks)]) d_X12_term_297 ok_mX12_sizeOf ml_X12_168 rfl (Nat.le_of_ble_eq_true rfl) (Nat.le_of_ble_eq_true rfl) rfl hd_1 (c_X12_sizeOf (v_X12_sizeOf_0 ?_))
                refine ⟨fun hc => ?_, fun hc => ?_⟩
                · have h := h.1 hc
                  show WP l mX12_term (rm d 0 0) noX _ 0 0 300 [(2, t), (0, x1), (0, x2), (0, x3), (0, x4), (0, x5), (1, 0), (3, 0), (0, x8), (0, y105)] [(0, y105), (0, x8), (2, t_ranks)] N Λ σ
                  refine x_iast d_X12_term_300 h.1 ?_
                  have h := h.2
                  refine r_nmM (fun τ110 eτ110 => ?_)
                  have h := h τ110 eτ110
                  refine x_iinc (x := x8) (L := [(2, t), (0, x1), (0, x2), (0, x3), (0, x4), (0, x5), (1, 0), (3, 0), (0, x8), (0, y105)]) d_X12_term_301 rfl (by decide) rfl (fun y111 ey111 => ?_)
                  have h := h y111 ey111
                  show WP _ _ _ _ _ _ _ _ [(2, t), (0, x1), (0, x2), (0, x3), (0, x4), (0, x5), (1, 0), (3, 0), (0, y111), (0, y105)] _ _ _ _
                  refine r_goto (tgt := 129) d_X12_term_304 rfl ?_
                  exact x_mask h ⟨Or.inr rfl, Or.inr rfl, Or.inr rfl, Or.inr rfl, Or.inr rfl, Or.inr rfl, Or.inr rfl, Or.inl rfl, Or.inr rfl, Or.inl rfl, trivial⟩
                · have h := h.2 hc
                  show WP l mX12_term (rm d 0 0) noX _ 0 0 300 [(2, t), (0, x1), (0, x2), (0, x3), (0, x4), (0, x5), (1, 0), (3, 0), (0, x8), (0, y105)] [(0, (negI y105)), (0, x8), (2, t_ranks)] N Λ σ
                  refine x_iast d_X12_term_300 h.1 ?_
                  have h := h.2
                  refine r_nmM (fun τ112 eτ112 => ?_)
                  have h := h τ112 eτ112
                  refine x_iinc (x := x8) (L := [(2, t), (0, x1), (0, x2), (0, x3), (0, x4), (0, x5), (1, 0), (3, 0), (0, x8), (0, y105)]) d_X12_term_301 rfl (by decide) rfl (fun y113 ey113 => ?_)
                  have h := h y113 ey113
                  show WP _ _ _ _ _ _ _ _ [(2, t), (0, x1), (0, x2), (0, x3), (0, x4), (0, x5), (1, 0), (3, 0), (0, y113), (0, y105)] _ _ _ _
                  refine r_goto (tgt := 129) d_X12_term_304 rfl ?_
                  exact x_mask h ⟨Or.inr rfl, Or.inr rfl, Or.inr rfl, Or.inr rfl, Or.inr rfl, Or.inr rfl, Or.inr rfl, Or.inl rfl, Or.inr rfl, Or.inl rfl, trivial⟩
            · have h := h.2 hc
              refine r_lload (x := x6) d_X12_term_270 rfl ?_
              refine r_lneg d_X12_term_272 ?_
              refine r_goto (tgt := 287) d_X12_term_273 rfl ?_
              refine r_nm (fun y114 ey114 => ?_)
              have h := h y114 ey114
              refine r_lstore (L2 := [(2, t), (0, x1), (0, x2), (0, x3), (0, x4), (0, x5), (1, y114), (3, 0), (0, x8), (0, y105)]) d_X12_term_287 (by decide) rfl rfl ?_
              refine r_aload_n (x := t) d_X12_term_289 rfl o_t.1 ?_
              refine r_getf (j := 9) (t := 2) (x := t_ranks) d_X12_term_290 kX12 (by decide) fl_X12_33 o_t.1 o_t.2.1 o_t.2.2.1 o_t.2.2.2 rfl f_t_ranks ?_
              refine r_iload (x := x8) d_X12_term_293 rfl ?_
              refine r_iload (x := y105) d_X12_term_295 rfl ?_
              refine x_callSI (Y2 := mX12_sizeOf) (As := [(0, y105)]) (S := [(0, x8), (2, t_ranks)]) d_X12_term_297 ok_mX12_sizeOf ml_X12_168 rfl (Nat.le_of_ble_eq_true rfl) (Nat.le_of_ble_eq_true rfl) rfl hd_1 (c_X12_sizeOf (v_X12_sizeOf_0 ?_))
              refine ⟨fun hc => ?_, fun hc => ?_⟩
              · have h := h.1 hc
                show WP l mX12_term (rm d 0 0) noX _ 0 0 300 [(2, t), (0, x1), (0, x2), (0, x3), (0, x4), (0, x5), (1, y114), (3, 0), (0, x8), (0, y105)] [(0, y105), (0, x8), (2, t_ranks)] N Λ σ
                refine x_iast d_X12_term_300 h.1 ?_
                have h := h.2
                refine r_nmM (fun τ115 eτ115 => ?_)
                have h := h τ115 eτ115
                refine x_iinc (x := x8) (L := [(2, t), (0, x1), (0, x2), (0, x3), (0, x4), (0, x5), (1, y114), (3, 0), (0, x8), (0, y105)]) d_X12_term_301 rfl (by decide) rfl (fun y116 ey116 => ?_)
                have h := h y116 ey116
                show WP _ _ _ _ _ _ _ _ [(2, t), (0, x1), (0, x2), (0, x3), (0, x4), (0, x5), (1, y114), (3, 0), (0, y116), (0, y105)] _ _ _ _
                refine r_goto (tgt := 129) d_X12_term_304 rfl ?_
                exact x_mask h ⟨Or.inr rfl, Or.inr rfl, Or.inr rfl, Or.inr rfl, Or.inr rfl, Or.inr rfl, Or.inr rfl, Or.inl rfl, Or.inr rfl, Or.inl rfl, trivial⟩
              · have h := h.2 hc
                show WP l mX12_term (rm d 0 0) noX _ 0 0 300 [(2, t), (0, x1), (0, x2), (0, x3), (0, x4), (0, x5), (1, y114), (3, 0), (0, x8), (0, y105)] [(0, (negI y105)), (0, x8), (2, t_ranks)] N Λ σ
                refine x_iast d_X12_term_300 h.1 ?_
                have h := h.2
                refine r_nmM (fun τ117 eτ117 => ?_)
                have h := h τ117 eτ117
                refine x_iinc (x := x8) (L := [(2, t), (0, x1), (0, x2), (0, x3), (0, x4), (0, x5), (1, y114), (3, 0), (0, x8), (0, y105)]) d_X12_term_301 rfl (by decide) rfl (fun y118 ey118 => ?_)
                have h := h y118 ey118
                show WP _ _ _ _ _ _ _ _ [(2, t), (0, x1), (0, x2), (0, x3), (0, x4), (0, x5), (1, y114), (3, 0), (0, y118), (0, y105)] _ _ _ _
                refine r_goto (tgt := 129) d_X12_term_304 rfl ?_
                exact x_mask h ⟨Or.inr rfl, Or.inr rfl, Or.inr rfl, Or.inr rfl, Or.inr rfl, Or.inr rfl, Or.inr rfl, Or.inl rfl, Or.inr rfl, Or.inl rfl, trivial⟩
          · have h := h.2 hc
            exact r_vret d_X12_term_219 rfl (Nat.le_refl 0) (Nat.le_refl 0) ⟨rfl, rfl, rfl, h⟩
      · have h := h.2 hc
        refine r_iconst (x := 1) d_X12_term_204 ⟨by decide, by decide⟩ ?_
        refine r_goto (tgt := 209) d_X12_term_205 rfl ?_
        refine x_callVV (Y2 := mX12_must) (c := t) (As := [(0, 1)]) (S := []) d_X12_term_209 ok_mX12_must ml_X12_286 rfl (Nat.le_of_ble_eq_true rfl) (Nat.le_of_ble_eq_true rfl) rfl hd_1 kX12 o_t (c_X12_must (v_X12_must_0 o_t he_1 ?_))
        refine ⟨fun hc => ?_, fun hc => ?_⟩
        · have h := h.1 hc
          refine ⟨fun hc => ?_, fun hc => ?_⟩
          · have h := h.1 hc
            refine ⟨fun hc => ?_, fun hc => ?_⟩
            · have h := h.1 hc
              intro τ119 eτ119
              have h := h τ119 eτ119
              intro τ120 eτ120
              have h := h τ120 eτ120
              show WP l mX12_term (rm d 0 0) noX _ 0 0 212 [(2, t), (0, x1), (0, x2), (0, x3), (0, x4), (0, x5), (1, x6), (3, 0), (0, x8), (0, x9)] [] N Λ τ120
              refine r_aload_n (x := t) d_X12_term_212 rfl o_t.1 ?_
              refine r_getf (j := 22) (t := 0) (x := (τ120 t 22)) d_X12_term_213 kX12 (by decide) fl_X12_261 o_t.1 o_t.2.1 o_t.2.2.1 o_t.2.2.2 rfl rfl ?_
              refine r_if_eq (tgt := 220) d_X12_term_216 rfl (fun hc => ?_) (fun hc => ?_)
              · have h := h.1 hc
                refine r_aload_n (x := t) d_X12_term_220 rfl o_t.1 ?_
                refine r_getf (j := 1) (t := 2) (x := t_rankOf) d_X12_term_221 kX12 (by decide) fl_X12_13 o_t.1 o_t.2.1 o_t.2.2.1 o_t.2.2.2 rfl f_t_rankOf ?_
                refine r_bipush (x := 100) d_X12_term_224 ⟨by decide, by decide⟩ (by decide) ?_
                refine r_aload_n (x := t) d_X12_term_226 rfl o_t.1 ?_
                refine r_aload_n (x := t) d_X12_term_227 rfl o_t.1 ?_
                refine r_getf (j := 21) (t := 0) (x := (τ120 t 21)) d_X12_term_228 kX12 (by decide) fl_X12_255 o_t.1 o_t.2.1 o_t.2.2.1 o_t.2.2.2 rfl rfl ?_
                refine r_iconst (x := 4) d_X12_term_231 ⟨by decide, by decide⟩ ?_
                refine r_isub d_X12_term_232 ?_
                refine x_callVI (Y2 := mX12_letterAt) (c := t) (As := [(0, (subI (τ120 t 21) 4))]) (S := [(0, 100), (2, t_rankOf)]) d_X12_term_233 ok_mX12_letterAt ml_X12_290 rfl (Nat.le_of_ble_eq_true rfl) (Nat.le_of_ble_eq_true rfl) rfl hd_1 kX12 o_t (c_X12_letterAt (v_X12_letterAt_0 o_t f_t_tape ?_))
                refine ⟨h.1, ?_⟩
                have h := h.2
                show WP l mX12_term (rm d 0 0) noX _ 0 0 236 [(2, t), (0, x1), (0, x2), (0, x3), (0, x4), (0, x5), (1, x6), (3, 0), (0, x8), (0, x9)] [(0, (subI (τ120 t_tape (subI (τ120 t 21) 4)) 97)), (0, 100), (2, t_rankOf)] N Λ τ120
                refine r_imul d_X12_term_236 ?_
                refine r_bipush (x := 10) d_X12_term_237 ⟨by decide, by decide⟩ (by decide) ?_
                refine r_aload_n (x := t) d_X12_term_239 rfl o_t.1 ?_
                refine r_aload_n (x := t) d_X12_term_240 rfl o_t.1 ?_
                refine r_getf (j := 21) (t := 0) (x := (τ120 t 21)) d_X12_term_241 kX12 (by decide) fl_X12_255 o_t.1 o_t.2.1 o_t.2.2.1 o_t.2.2.2 rfl rfl ?_
                refine r_iconst (x := 3) d_X12_term_244 ⟨by decide, by decide⟩ ?_
                refine r_isub d_X12_term_245 ?_
                refine x_callVI (Y2 := mX12_letterAt) (c := t) (As := [(0, (subI (τ120 t 21) 3))]) (S := [(0, 10), (0, (mulI 100 (subI (τ120 t_tape (subI (τ120 t 21) 4)) 97))), (2, t_rankOf)]) d_X12_term_246 ok_mX12_letterAt ml_X12_290 rfl (Nat.le_of_ble_eq_true rfl) (Nat.le_of_ble_eq_true rfl) rfl hd_1 kX12 o_t (c_X12_letterAt (v_X12_letterAt_0 o_t f_t_tape ?_))
                refine ⟨h.1, ?_⟩
                have h := h.2
                show WP l mX12_term (rm d 0 0) noX _ 0 0 249 [(2, t), (0, x1), (0, x2), (0, x3), (0, x4), (0, x5), (1, x6), (3, 0), (0, x8), (0, x9)] [(0, (subI (τ120 t_tape (subI (τ120 t 21) 3)) 97)), (0, 10), (0, (mulI 100 (subI (τ120 t_tape (subI (τ120 t 21) 4)) 97))), (2, t_rankOf)] N Λ τ120
                refine r_imul d_X12_term_249 ?_
                refine r_iadd d_X12_term_250 ?_
                refine r_aload_n (x := t) d_X12_term_251 rfl o_t.1 ?_
                refine r_aload_n (x := t) d_X12_term_252 rfl o_t.1 ?_
                refine r_getf (j := 21) (t := 0) (x := (τ120 t 21)) d_X12_term_253 kX12 (by decide) fl_X12_255 o_t.1 o_t.2.1 o_t.2.2.1 o_t.2.2.2 rfl rfl ?_
                refine r_iconst (x := 2) d_X12_term_256 ⟨by decide, by decide⟩ ?_
                refine r_isub d_X12_term_257 ?_
                refine x_callVI (Y2 := mX12_letterAt) (c := t) (As := [(0, (subI (τ120 t 21) 2))]) (S := [(0, (addI (mulI 100 (subI (τ120 t_tape (subI (τ120 t 21) 4)) 97)) (mulI 10 (subI (τ120 t_tape (subI (τ120 t 21) 3)) 97)))), (2, t_rankOf)]) d_X12_term_258 ok_mX12_letterAt ml_X12_290 rfl (Nat.le_of_ble_eq_true rfl) (Nat.le_of_ble_eq_true rfl) rfl hd_1 kX12 o_t (c_X12_letterAt (v_X12_letterAt_0 o_t f_t_tape ?_))
                refine ⟨h.1, ?_⟩
                have h := h.2
                show WP l mX12_term (rm d 0 0) noX _ 0 0 261 [(2, t), (0, x1), (0, x2), (0, x3), (0, x4), (0, x5), (1, x6), (3, 0), (0, x8), (0, x9)] [(0, (subI (τ120 t_tape (subI (τ120 t 21) 2)) 97)), (0, (addI (mulI 100 (subI (τ120 t_tape (subI (τ120 t 21) 4)) 97)) (mulI 10 (subI (τ120 t_tape (subI (τ120 t 21) 3)) 97)))), (2, t_rankOf)] N Λ τ120
                refine r_iadd d_X12_term_261 ?_
                refine x_iald d_X12_term_262 h.1 ?_
                have h := h.2
                refine r_nm (fun y121 ey121 => ?_)
                have h := h y121 ey121
                refine r_istore (L2 := [(2, t), (0, x1), (0, x2), (0, x3), (0, x4), (0, x5), (1, x6), (3, 0), (0, x8), (0, y121)]) d_X12_term_263 (by decide) rfl rfl ?_
                refine r_iload (x := y121) d_X12_term_265 rfl ?_
                refine r_if_ge (tgt := 276) d_X12_term_267 rfl (fun hc => ?_) (fun hc => ?_)
                · have h := h.1 hc
                  refine r_iload (x := y121) d_X12_term_276 rfl ?_
                  refine r_if_ne (tgt := 285) d_X12_term_278 rfl (fun hc => ?_) (fun hc => ?_)
                  · have h := h.1 hc
                    refine r_lload (x := x6) d_X12_term_285 rfl ?_
                    refine r_lstore (L2 := [(2, t), (0, x1), (0, x2), (0, x3), (0, x4), (0, x5), (1, x6), (3, 0), (0, x8), (0, y121)]) d_X12_term_287 (by decide) rfl rfl ?_
                    refine r_aload_n (x := t) d_X12_term_289 rfl o_t.1 ?_
                    refine r_getf (j := 9) (t := 2) (x := t_ranks) d_X12_term_290 kX12 (by decide) fl_X12_33 o_t.1 o_t.2.1 o_t.2.2.1 o_t.2.2.2 rfl f_t_ranks ?_
                    refine r_iload (x := x8) d_X12_term_293 rfl ?_
                    refine r_iload (x := y121) d_X12_term_295 rfl ?_
                    refine x_callSI (Y2 := mX12_sizeOf) (As := [(0, y121)]) (S := [(0, x8), (2, t_ranks)]) d_X12_term_297 ok_mX12_sizeOf ml_X12_168 rfl (Nat.le_of_ble_eq_true rfl) (Nat.le_of_ble_eq_true rfl) rfl hd_1 (c_X12_sizeOf (v_X12_sizeOf_0 ?_))
                    refine ⟨fun hc => ?_, fun hc => ?_⟩
                    · have h := h.1 hc
                      show WP l mX12_term (rm d 0 0) noX _ 0 0 300 [(2, t), (0, x1), (0, x2), (0, x3), (0, x4), (0, x5), (1, x6), (3, 0), (0, x8), (0, y121)] [(0, y121), (0, x8), (2, t_ranks)] N Λ τ120
                      refine x_iast d_X12_term_300 h.1 ?_
                      have h := h.2
                      refine r_nmM (fun τ122 eτ122 => ?_)
                      have h := h τ122 eτ122
                      refine x_iinc (x := x8) (L := [(2, t), (0, x1), (0, x2), (0, x3), (0, x4), (0, x5), (1, x6), (3, 0), (0, x8), (0, y121)]) d_X12_term_301 rfl (by decide) rfl (fun y123 ey123 => ?_)
                      have h := h y123 ey123
                      show WP _ _ _ _ _ _ _ _ [(2, t), (0, x1), (0, x2), (0, x3), (0, x4), (0, x5), (1, x6), (3, 0), (0, y123), (0, y121)] _ _ _ _
                      refine r_goto (tgt := 129) d_X12_term_304 rfl ?_
                      exact x_mask h ⟨Or.inr rfl, Or.inr rfl, Or.inr rfl, Or.inr rfl, Or.inr rfl, Or.inr rfl, Or.inr rfl, Or.inl rfl, Or.inr rfl, Or.inl rfl, trivial⟩
                    · have h := h.2 hc
                      show WP l mX12_term (rm d 0 0) noX _ 0 0 300 [(2, t), (0, x1), (0, x2), (0, x3), (0, x4), (0, x5), (1, x6), (3, 0), (0, x8), (0, y121)] [(0, (negI y121)), (0, x8), (2, t_ranks)] N Λ τ120
                      refine x_iast d_X12_term_300 h.1 ?_
                      have h := h.2
                      refine r_nmM (fun τ124 eτ124 => ?_)
                      have h := h τ124 eτ124
                      refine x_iinc (x := x8) (L := [(2, t), (0, x1), (0, x2), (0, x3), (0, x4), (0, x5), (1, x6), (3, 0), (0, x8), (0, y121)]) d_X12_term_301 rfl (by decide) rfl (fun y125 ey125 => ?_)
                      have h := h y125 ey125
                      show WP _ _ _ _ _ _ _ _ [(2, t), (0, x1), (0, x2), (0, x3), (0, x4), (0, x5), (1, x6), (3, 0), (0, y125), (0, y121)] _ _ _ _
                      refine r_goto (tgt := 129) d_X12_term_304 rfl ?_
                      exact x_mask h ⟨Or.inr rfl, Or.inr rfl, Or.inr rfl, Or.inr rfl, Or.inr rfl, Or.inr rfl, Or.inr rfl, Or.inl rfl, Or.inr rfl, Or.inl rfl, trivial⟩
                  · have h := h.2 hc
                    refine r_lconst d_X12_term_281 ?_
                    skip
                    refine r_goto (tgt := 287) d_X12_term_282 rfl ?_
                    refine r_lstore (L2 := [(2, t), (0, x1), (0, x2), (0, x3), (0, x4), (0, x5), (1, 0), (3, 0), (0, x8), (0, y121)]) d_X12_term_287 (by decide) rfl rfl ?_
                    refine r_aload_n (x := t) d_X12_term_289 rfl o_t.1 ?_
                    refine r_getf (j := 9) (t := 2) (x := t_ranks) d_X12_term_290 kX12 (by decide) fl_X12_33 o_t.1 o_t.2.1 o_t.2.2.1 o_t.2.2.2 rfl f_t_ranks ?_
                    refine r_iload (x := x8) d_X12_term_293 rfl ?_
                    refine r_iload (x := y121) d_X12_term_295 rfl ?_
                    refine x_callSI (Y2 := mX12_sizeOf) (As := [(0, y121)]) (S := [(0, x8), (2, t_ranks)]) d_X12_term_297 ok_mX12_sizeOf ml_X12_168 rfl (Nat.le_of_ble_eq_true rfl) (Nat.le_of_ble_eq_true rfl) rfl hd_1 (c_X12_sizeOf (v_X12_sizeOf_0 ?_))
                    refine ⟨fun hc => ?_, fun hc => ?_⟩
                    · have h := h.1 hc
                      show WP l mX12_term (rm d 0 0) noX _ 0 0 300 [(2, t), (0, x1), (0, x2), (0, x3), (0, x4), (0, x5), (1, 0), (3, 0), (0, x8), (0, y121)] [(0, y121), (0, x8), (2, t_ranks)] N Λ τ120
                      refine x_iast d_X12_term_300 h.1 ?_
                      have h := h.2
                      refine r_nmM (fun τ126 eτ126 => ?_)
                      have h := h τ126 eτ126
                      refine x_iinc (x := x8) (L := [(2, t), (0, x1), (0, x2), (0, x3), (0, x4), (0, x5), (1, 0), (3, 0), (0, x8), (0, y121)]) d_X12_term_301 rfl (by decide) rfl (fun y127 ey127 => ?_)
                      have h := h y127 ey127
                      show WP _ _ _ _ _ _ _ _ [(2, t), (0, x1), (0, x2), (0, x3), (0, x4), (0, x5), (1, 0), (3, 0), (0, y127), (0, y121)] _ _ _ _
                      refine r_goto (tgt := 129) d_X12_term_304 rfl ?_
                      exact x_mask h ⟨Or.inr rfl, Or.inr rfl, Or.inr rfl, Or.inr rfl, Or.inr rfl, Or.inr rfl, Or.inr rfl, Or.inl rfl, Or.inr rfl, Or.inl rfl, trivial⟩
                    · have h := h.2 hc
                      show WP l mX12_term (rm d 0 0) noX _ 0 0 300 [(2, t), (0, x1), (0, x2), (0, x3), (0, x4), (0, x5), (1, 0), (3, 0), (0, x8), (0, y121)] [(0, (negI y121)), (0, x8), (2, t_ranks)] N Λ τ120
                      refine x_iast d_X12_term_300 h.1 ?_
                      have h := h.2
                      refine r_nmM (fun τ128 eτ128 => ?_)
                      have h := h τ128 eτ128
                      refine x_iinc (x := x8) (L := [(2, t), (0, x1), (0, x2), (0, x3), (0, x4), (0, x5), (1, 0), (3, 0), (0, x8), (0, y121)]) d_X12_term_301 rfl (by decide) rfl (fun y129 ey129 => ?_)
                      have h := h y129 ey129
                      show WP _ _ _ _ _ _ _ _ [(2, t), (0, x1), (0, x2), (0, x3), (0, x4), (0, x5), (1, 0), (3, 0), (0, y129), (0, y121)] _ _ _ _
                      refine r_goto (tgt := 129) d_X12_term_304 rfl ?_
                      exact x_mask h ⟨Or.inr rfl, Or.inr rfl, Or.inr rfl, Or.inr rfl, Or.inr rfl, Or.inr rfl, Or.inr rfl, Or.inl rfl, Or.inr rfl, Or.inl rfl, trivial⟩
                · have h := h.2 hc
                  refine r_lload (x := x6) d_X12_term_270 rfl ?_
                  refine r_lneg d_X12_term_272 ?_
                  refine r_goto (tgt := 287) d_X12_term_273 rfl ?_
                  refine r_nm (fun y130 ey130 => ?_)
                  have h := h y130 ey130
                  refine r_lstore (L2 := [(2, t), (0, x1), (0, x2), (0, x3), (0, x4), (0, x5), (1, y130), (3, 0), (0, x8), (0, y121)]) d_X12_term_287 (by decide) rfl rfl ?_
                  refine r_aload_n (x := t) d_X12_term_289 rfl o_t.1 ?_
                  refine r_getf (j := 9) (t := 2) (x := t_ranks) d_X12_term_290 kX12 (by decide) fl_X12_33 o_t.1 o_t.2.1 o_t.2.2.1 o_t.2.2.2 rfl f_t_ranks ?_
                  refine r_iload (x := x8) d_X12_term_293 rfl ?_
                  refine r_iload (x := y121) d_X12_term_295 rfl ?_
                  refine x_callSI (Y2 := mX12_sizeOf) (As := [(0, y121)]) (S := [(0, x8), (2, t_ranks)]) d_X12_term_297 ok_mX12_sizeOf ml_X12_168 rfl (Nat.le_of_ble_eq_true rfl) (Nat.le_of_ble_eq_true rfl) rfl hd_1 (c_X12_sizeOf (v_X12_sizeOf_0 ?_))
                  refine ⟨fun hc => ?_, fun hc => ?_⟩
                  · have h := h.1 hc
                    show WP l mX12_term (rm d 0 0) noX _ 0 0 300 [(2, t), (0, x1), (0, x2), (0, x3), (0, x4), (0, x5), (1, y130), (3, 0), (0, x8), (0, y121)] [(0, y121), (0, x8), (2, t_ranks)] N Λ τ120
                    refine x_iast d_X12_term_300 h.1 ?_
                    have h := h.2
                    refine r_nmM (fun τ131 eτ131 => ?_)
                    have h := h τ131 eτ131
                    refine x_iinc (x := x8) (L := [(2, t), (0, x1), (0, x2), (0, x3), (0, x4), (0, x5), (1, y130), (3, 0), (0, x8), (0, y121)]) d_X12_term_301 rfl (by decide) rfl (fun y132 ey132 => ?_)
                    have h := h y132 ey132
                    show WP _ _ _ _ _ _ _ _ [(2, t), (0, x1), (0, x2), (0, x3), (0, x4), (0, x5), (1, y130), (3, 0), (0, y132), (0, y121)] _ _ _ _
                    refine r_goto (tgt := 129) d_X12_term_304 rfl ?_
                    exact x_mask h ⟨Or.inr rfl, Or.inr rfl, Or.inr rfl, Or.inr rfl, Or.inr rfl, Or.inr rfl, Or.inr rfl, Or.inl rfl, Or.inr rfl, Or.inl rfl, trivial⟩
                  · have h := h.2 hc
                    show WP l mX12_term (rm d 0 0) noX _ 0 0 300 [(2, t), (0, x1), (0, x2), (0, x3), (0, x4), (0, x5), (1, y130), (3, 0), (0, x8), (0, y121)] [(0, (negI y121)), (0, x8), (2, t_ranks)] N Λ τ120
                    refine x_iast d_X12_term_300 h.1 ?_
                    have h := h.2
                    refine r_nmM (fun τ133 eτ133 => ?_)
                    have h := h τ133 eτ133
                    refine x_iinc (x := x8) (L := [(2, t), (0, x1), (0, x2), (0, x3), (0, x4), (0, x5), (1, y130), (3, 0), (0, x8), (0, y121)]) d_X12_term_301 rfl (by decide) rfl (fun y134 ey134 => ?_)
                    have h := h y134 ey134
                    show WP _ _ _ _ _ _ _ _ [(2, t), (0, x1), (0, x2), (0, x3), (0, x4), (0, x5), (1, y130), (3, 0), (0, y134), (0, y121)] _ _ _ _
                    refine r_goto (tgt := 129) d_X12_term_304 rfl ?_
                    exact x_mask h ⟨Or.inr rfl, Or.inr rfl, Or.inr rfl, Or.inr rfl, Or.inr rfl, Or.inr rfl, Or.inr rfl, Or.inl rfl, Or.inr rfl, Or.inl rfl, trivial⟩
              · have h := h.2 hc
                exact r_vret d_X12_term_219 rfl (Nat.le_refl 0) (Nat.le_refl 0) ⟨rfl, rfl, rfl, h⟩
            · have h := h.2 hc
              show WP l mX12_term (rm d 0 0) noX _ 0 0 212 [(2, t), (0, x1), (0, x2), (0, x3), (0, x4), (0, x5), (1, x6), (3, 0), (0, x8), (0, x9)] [] N Λ σ
              refine r_aload_n (x := t) d_X12_term_212 rfl o_t.1 ?_
              refine r_getf (j := 22) (t := 0) (x := (σ t 22)) d_X12_term_213 kX12 (by decide) fl_X12_261 o_t.1 o_t.2.1 o_t.2.2.1 o_t.2.2.2 rfl rfl ?_
              refine r_if_eq (tgt := 220) d_X12_term_216 rfl (fun hc => ?_) (fun hc => ?_)
              · have h := h.1 hc
                refine r_aload_n (x := t) d_X12_term_220 rfl o_t.1 ?_
                refine r_getf (j := 1) (t := 2) (x := t_rankOf) d_X12_term_221 kX12 (by decide) fl_X12_13 o_t.1 o_t.2.1 o_t.2.2.1 o_t.2.2.2 rfl f_t_rankOf ?_
                refine r_bipush (x := 100) d_X12_term_224 ⟨by decide, by decide⟩ (by decide) ?_
                refine r_aload_n (x := t) d_X12_term_226 rfl o_t.1 ?_
                refine r_aload_n (x := t) d_X12_term_227 rfl o_t.1 ?_
                refine r_getf (j := 21) (t := 0) (x := (σ t 21)) d_X12_term_228 kX12 (by decide) fl_X12_255 o_t.1 o_t.2.1 o_t.2.2.1 o_t.2.2.2 rfl rfl ?_
                refine r_iconst (x := 4) d_X12_term_231 ⟨by decide, by decide⟩ ?_
                refine r_isub d_X12_term_232 ?_
                refine x_callVI (Y2 := mX12_letterAt) (c := t) (As := [(0, (subI (σ t 21) 4))]) (S := [(0, 100), (2, t_rankOf)]) d_X12_term_233 ok_mX12_letterAt ml_X12_290 rfl (Nat.le_of_ble_eq_true rfl) (Nat.le_of_ble_eq_true rfl) rfl hd_1 kX12 o_t (c_X12_letterAt (v_X12_letterAt_0 o_t f_t_tape ?_))
                refine ⟨h.1, ?_⟩
                have h := h.2
                show WP l mX12_term (rm d 0 0) noX _ 0 0 236 [(2, t), (0, x1), (0, x2), (0, x3), (0, x4), (0, x5), (1, x6), (3, 0), (0, x8), (0, x9)] [(0, (subI (σ t_tape (subI (σ t 21) 4)) 97)), (0, 100), (2, t_rankOf)] N Λ σ
                refine r_imul d_X12_term_236 ?_
                refine r_bipush (x := 10) d_X12_term_237 ⟨by decide, by decide⟩ (by decide) ?_
                refine r_aload_n (x := t) d_X12_term_239 rfl o_t.1 ?_
                refine r_aload_n (x := t) d_X12_term_240 rfl o_t.1 ?_
                refine r_getf (j := 21) (t := 0) (x := (σ t 21)) d_X12_term_241 kX12 (by decide) fl_X12_255 o_t.1 o_t.2.1 o_t.2.2.1 o_t.2.2.2 rfl rfl ?_
                refine r_iconst (x := 3) d_X12_term_244 ⟨by decide, by decide⟩ ?_
                refine r_isub d_X12_term_245 ?_
                refine x_callVI (Y2 := mX12_letterAt) (c := t) (As := [(0, (subI (σ t 21) 3))]) (S := [(0, 10), (0, (mulI 100 (subI (σ t_tape (subI (σ t 21) 4)) 97))), (2, t_rankOf)]) d_X12_term_246 ok_mX12_letterAt ml_X12_290 rfl (Nat.le_of_ble_eq_true rfl) (Nat.le_of_ble_eq_true rfl) rfl hd_1 kX12 o_t (c_X12_letterAt (v_X12_letterAt_0 o_t f_t_tape ?_))
                refine ⟨h.1, ?_⟩
                have h := h.2
                show WP l mX12_term (rm d 0 0) noX _ 0 0 249 [(2, t), (0, x1), (0, x2), (0, x3), (0, x4), (0, x5), (1, x6), (3, 0), (0, x8), (0, x9)] [(0, (subI (σ t_tape (subI (σ t 21) 3)) 97)), (0, 10), (0, (mulI 100 (subI (σ t_tape (subI (σ t 21) 4)) 97))), (2, t_rankOf)] N Λ σ
                refine r_imul d_X12_term_249 ?_
                refine r_iadd d_X12_term_250 ?_
                refine r_aload_n (x := t) d_X12_term_251 rfl o_t.1 ?_
                refine r_aload_n (x := t) d_X12_term_252 rfl o_t.1 ?_
                refine r_getf (j := 21) (t := 0) (x := (σ t 21)) d_X12_term_253 kX12 (by decide) fl_X12_255 o_t.1 o_t.2.1 o_t.2.2.1 o_t.2.2.2 rfl rfl ?_
                refine r_iconst (x := 2) d_X12_term_256 ⟨by decide, by decide⟩ ?_
                refine r_isub d_X12_term_257 ?_
                refine x_callVI (Y2 := mX12_letterAt) (c := t) (As := [(0, (subI (σ t 21) 2))]) (S := [(0, (addI (mulI 100 (subI (σ t_tape (subI (σ t 21) 4)) 97)) (mulI 10 (subI (σ t_tape (subI (σ t 21) 3)) 97)))), (2, t_rankOf)]) d_X12_term_258 ok_mX12_letterAt ml_X12_290 rfl (Nat.le_of_ble_eq_true rfl) (Nat.le_of_ble_eq_true rfl) rfl hd_1 kX12 o_t (c_X12_letterAt (v_X12_letterAt_0 o_t f_t_tape ?_))
                refine ⟨h.1, ?_⟩
                have h := h.2
                show WP l mX12_term (rm d 0 0) noX _ 0 0 261 [(2, t), (0, x1), (0, x2), (0, x3), (0, x4), (0, x5), (1, x6), (3, 0), (0, x8), (0, x9)] [(0, (subI (σ t_tape (subI (σ t 21) 2)) 97)), (0, (addI (mulI 100 (subI (σ t_tape (subI (σ t 21) 4)) 97)) (mulI 10 (subI (σ t_tape (subI (σ t 21) 3)) 97)))), (2, t_rankOf)] N Λ σ
                refine r_iadd d_X12_term_261 ?_
                refine x_iald d_X12_term_262 h.1 ?_
                have h := h.2
                refine r_nm (fun y135 ey135 => ?_)
                have h := h y135 ey135
                refine r_istore (L2 := [(2, t), (0, x1), (0, x2), (0, x3), (0, x4), (0, x5), (1, x6), (3, 0), (0, x8), (0, y135)]) d_X12_term_263 (by decide) rfl rfl ?_
                refine r_iload (x := y135) d_X12_term_265 rfl ?_
                refine r_if_ge (tgt := 276) d_X12_term_267 rfl (fun hc => ?_) (fun hc => ?_)
                · have h := h.1 hc
                  refine r_iload (x := y135) d_X12_term_276 rfl ?_
                  refine r_if_ne (tgt := 285) d_X12_term_278 rfl (fun hc => ?_) (fun hc => ?_)
                  · have h := h.1 hc
                    refine r_lload (x := x6) d_X12_term_285 rfl ?_
                    refine r_lstore (L2 := [(2, t), (0, x1), (0, x2), (0, x3), (0, x4), (0, x5), (1, x6), (3, 0), (0, x8), (0, y135)]) d_X12_term_287 (by decide) rfl rfl ?_
                    refine r_aload_n (x := t) d_X12_term_289 rfl o_t.1 ?_
                    refine r_getf (j := 9) (t := 2) (x := t_ranks) d_X12_term_290 kX12 (by decide) fl_X12_33 o_t.1 o_t.2.1 o_t.2.2.1 o_t.2.2.2 rfl f_t_ranks ?_
                    refine r_iload (x := x8) d_X12_term_293 rfl ?_
                    refine r_iload (x := y135) d_X12_term_295 rfl ?_
                    refine x_callSI (Y2 := mX12_sizeOf) (As := [(0, y135)]) (S := [(0, x8), (2, t_ranks)]) d_X12_term_297 ok_mX12_sizeOf ml_X12_168 rfl (Nat.le_of_ble_eq_true rfl) (Nat.le_of_ble_eq_true rfl) rfl hd_1 (c_X12_sizeOf (v_X12_sizeOf_0 ?_))
                    refine ⟨fun hc => ?_, fun hc => ?_⟩
                    · have h := h.1 hc
                      show WP l mX12_term (rm d 0 0) noX _ 0 0 300 [(2, t), (0, x1), (0, x2), (0, x3), (0, x4), (0, x5), (1, x6), (3, 0), (0, x8), (0, y135)] [(0, y135), (0, x8), (2, t_ranks)] N Λ σ
                      refine x_iast d_X12_term_300 h.1 ?_
                      have h := h.2
                      refine r_nmM (fun τ136 eτ136 => ?_)
                      have h := h τ136 eτ136
                      refine x_iinc (x := x8) (L := [(2, t), (0, x1), (0, x2), (0, x3), (0, x4), (0, x5), (1, x6), (3, 0), (0, x8), (0, y135)]) d_X12_term_301 rfl (by decide) rfl (fun y137 ey137 => ?_)
                      have h := h y137 ey137
                      show WP _ _ _ _ _ _ _ _ [(2, t), (0, x1), (0, x2), (0, x3), (0, x4), (0, x5), (1, x6), (3, 0), (0, y137), (0, y135)] _ _ _ _
                      refine r_goto (tgt := 129) d_X12_term_304 rfl ?_
                      exact x_mask h ⟨Or.inr rfl, Or.inr rfl, Or.inr rfl, Or.inr rfl, Or.inr rfl, Or.inr rfl, Or.inr rfl, Or.inl rfl, Or.inr rfl, Or.inl rfl, trivial⟩
                    · have h := h.2 hc
                      show WP l mX12_term (rm d 0 0) noX _ 0 0 300 [(2, t), (0, x1), (0, x2), (0, x3), (0, x4), (0, x5), (1, x6), (3, 0), (0, x8), (0, y135)] [(0, (negI y135)), (0, x8), (2, t_ranks)] N Λ σ
                      refine x_iast d_X12_term_300 h.1 ?_
                      have h := h.2
                      refine r_nmM (fun τ138 eτ138 => ?_)
                      have h := h τ138 eτ138
                      refine x_iinc (x := x8) (L := [(2, t), (0, x1), (0, x2), (0, x3), (0, x4), (0, x5), (1, x6), (3, 0), (0, x8), (0, y135)]) d_X12_term_301 rfl (by decide) rfl (fun y139 ey139 => ?_)
                      have h := h y139 ey139
                      show WP _ _ _ _ _ _ _ _ [(2, t), (0, x1), (0, x2), (0, x3), (0, x4), (0, x5), (1, x6), (3, 0), (0, y139), (0, y135)] _ _ _ _
                      refine r_goto (tgt := 129) d_X12_term_304 rfl ?_
                      exact x_mask h ⟨Or.inr rfl, Or.inr rfl, Or.inr rfl, Or.inr rfl, Or.inr rfl, Or.inr rfl, Or.inr rfl, Or.inl rfl, Or.inr rfl, Or.inl rfl, trivial⟩
                  · have h := h.2 hc
                    refine r_lconst d_X12_term_281 ?_
                    skip
                    refine r_goto (tgt := 287) d_X12_term_282 rfl ?_
                    refine r_lstore (L2 := [(2, t), (0, x1), (0, x2), (0, x3), (0, x4), (0, x5), (1, 0), (3, 0), (0, x8), (0, y135)]) d_X12_term_287 (by decide) rfl rfl ?_
                    refine r_aload_n (x := t) d_X12_term_289 rfl o_t.1 ?_
                    refine r_getf (j := 9) (t := 2) (x := t_ranks) d_X12_term_290 kX12 (by decide) fl_X12_33 o_t.1 o_t.2.1 o_t.2.2.1 o_t.2.2.2 rfl f_t_ranks ?_
                    refine r_iload (x := x8) d_X12_term_293 rfl ?_
                    refine r_iload (x := y135) d_X12_term_295 rfl ?_
                    refine x_callSI (Y2 := mX12_sizeOf) (As := [(0, y135)]) (S := [(0, x8), (2, t_ranks)]) d_X12_term_297 ok_mX12_sizeOf ml_X12_168 rfl (Nat.le_of_ble_eq_true rfl) (Nat.le_of_ble_eq_true rfl) rfl hd_1 (c_X12_sizeOf (v_X12_sizeOf_0 ?_))
                    refine ⟨fun hc => ?_, fun hc => ?_⟩
                    · have h := h.1 hc
                      show WP l mX12_term (rm d 0 0) noX _ 0 0 300 [(2, t), (0, x1), (0, x2), (0, x3), (0, x4), (0, x5), (1, 0), (3, 0), (0, x8), (0, y135)] [(0, y135), (0, x8), (2, t_ranks)] N Λ σ
                      refine x_iast d_X12_term_300 h.1 ?_
                      have h := h.2
                      refine r_nmM (fun τ140 eτ140 => ?_)
                      have h := h τ140 eτ140
                      refine x_iinc (x := x8) (L := [(2, t), (0, x1), (0, x2), (0, x3), (0, x4), (0, x5), (1, 0), (3, 0), (0, x8), (0, y135)]) d_X12_term_301 rfl (by decide) rfl (fun y141 ey141 => ?_)
                      have h := h y141 ey141
                      show WP _ _ _ _ _ _ _ _ [(2, t), (0, x1), (0, x2), (0, x3), (0, x4), (0, x5), (1, 0), (3, 0), (0, y141), (0, y135)] _ _ _ _
                      refine r_goto (tgt := 129) d_X12_term_304 rfl ?_
                      exact x_mask h ⟨Or.inr rfl, Or.inr rfl, Or.inr rfl, Or.inr rfl, Or.inr rfl, Or.inr rfl, Or.inr rfl, Or.inl rfl, Or.inr rfl, Or.inl rfl, trivial⟩
                    · have h := h.2 hc
                      show WP l mX12_term (rm d 0 0) noX _ 0 0 300 [(2, t), (0, x1), (0, x2), (0, x3), (0, x4), (0, x5), (1, 0), (3, 0), (0, x8), (0, y135)] [(0, (negI y135)), (0, x8), (2, t_ranks)] N Λ σ
                      refine x_iast d_X12_term_300 h.1 ?_
                      have h := h.2
                      refine r_nmM (fun τ142 eτ142 => ?_)
                      have h := h τ142 eτ142
                      refine x_iinc (x := x8) (L := [(2, t), (0, x1), (0, x2), (0, x3), (0, x4), (0, x5), (1, 0), (3, 0), (0, x8), (0, y135)]) d_X12_term_301 rfl (by decide) rfl (fun y143 ey143 => ?_)
                      have h := h y143 ey143
                      show WP _ _ _ _ _ _ _ _ [(2, t), (0, x1), (0, x2), (0, x3), (0, x4), (0, x5), (1, 0), (3, 0), (0, y143), (0, y135)] _ _ _ _
                      refine r_goto (tgt := 129) d_X12_term_304 rfl ?_
                      exact x_mask h ⟨Or.inr rfl, Or.inr rfl, Or.inr rfl, Or.inr rfl, Or.inr rfl, Or.inr rfl, Or.inr rfl, Or.inl rfl, Or.inr rfl, Or.inl rfl, trivial⟩
                · have h := h.2 hc
                  refine r_lload (x := x6) d_X12_term_270 rfl ?_
                  refine r_lneg d_X12_term_272 ?_
                  refine r_goto (tgt := 287) d_X12_term_273 rfl ?_
                  refine r_nm (fun y144 ey144 => ?_)
                  have h := h y144 ey144
                  refine r_lstore (L2 := [(2, t), (0, x1), (0, x2), (0, x3), (0, x4), (0, x5), (1, y144), (3, 0), (0, x8), (0, y135)]) d_X12_term_287 (by decide) rfl rfl ?_
                  refine r_aload_n (x := t) d_X12_term_289 rfl o_t.1 ?_
                  refine r_getf (j := 9) (t := 2) (x := t_ranks) d_X12_term_290 kX12 (by decide) fl_X12_33 o_t.1 o_t.2.1 o_t.2.2.1 o_t.2.2.2 rfl f_t_ranks ?_
                  refine r_iload (x := x8) d_X12_term_293 rfl ?_
                  refine r_iload (x := y135) d_X12_term_295 rfl ?_
                  refine x_callSI (Y2 := mX12_sizeOf) (As := [(0, y135)]) (S := [(0, x8), (2, t_ranks)]) d_X12_term_297 ok_mX12_sizeOf ml_X12_168 rfl (Nat.le_of_ble_eq_true rfl) (Nat.le_of_ble_eq_true rfl) rfl hd_1 (c_X12_sizeOf (v_X12_sizeOf_0 ?_))
                  refine ⟨fun hc => ?_, fun hc => ?_⟩
                  · have h := h.1 hc
                    show WP l mX12_term (rm d 0 0) noX _ 0 0 300 [(2, t), (0, x1), (0, x2), (0, x3), (0, x4), (0, x5), (1, y144), (3, 0), (0, x8), (0, y135)] [(0, y135), (0, x8), (2, t_ranks)] N Λ σ
                    refine x_iast d_X12_term_300 h.1 ?_
                    have h := h.2
                    refine r_nmM (fun τ145 eτ145 => ?_)
                    have h := h τ145 eτ145
                    refine x_iinc (x := x8) (L := [(2, t), (0, x1), (0, x2), (0, x3), (0, x4), (0, x5), (1, y144), (3, 0), (0, x8), (0, y135)]) d_X12_term_301 rfl (by decide) rfl (fun y146 ey146 => ?_)
                    have h := h y146 ey146
                    show WP _ _ _ _ _ _ _ _ [(2, t), (0, x1), (0, x2), (0, x3), (0, x4), (0, x5), (1, y144), (3, 0), (0, y146), (0, y135)] _ _ _ _
                    refine r_goto (tgt := 129) d_X12_term_304 rfl ?_
                    exact x_mask h ⟨Or.inr rfl, Or.inr rfl, Or.inr rfl, Or.inr rfl, Or.inr rfl, Or.inr rfl, Or.inr rfl, Or.inl rfl, Or.inr rfl, Or.inl rfl, trivial⟩
                  · have h := h.2 hc
                    show WP l mX12_term (rm d 0 0) noX _ 0 0 300 [(2, t), (0, x1), (0, x2), (0, x3), (0, x4), (0, x5), (1, y144), (3, 0), (0, x8), (0, y135)] [(0, (negI y135)), (0, x8), (2, t_ranks)] N Λ σ
                    refine x_iast d_X12_term_300 h.1 ?_
                    have h := h.2
                    refine r_nmM (fun τ147 eτ147 => ?_)
                    have h := h τ147 eτ147
                    refine x_iinc (x := x8) (L := [(2, t), (0, x1), (0, x2), (0, x3), (0, x4), (0, x5), (1, y144), (3, 0), (0, x8), (0, y135)]) d_X12_term_301 rfl (by decide) rfl (fun y148 ey148 => ?_)
                    have h := h y148 ey148
                    show WP _ _ _ _ _ _ _ _ [(2, t), (0, x1), (0, x2), (0, x3), (0, x4), (0, x5), (1, y144), (3, 0), (0, y148), (0, y135)] _ _ _ _
                    refine r_goto (tgt := 129) d_X12_term_304 rfl ?_
                    exact x_mask h ⟨Or.inr rfl, Or.inr rfl, Or.inr rfl, Or.inr rfl, Or.inr rfl, Or.inr rfl, Or.inr rfl, Or.inl rfl, Or.inr rfl, Or.inl rfl, trivial⟩
              · have h := h.2 hc
                exact r_vret d_X12_term_219 rfl (Nat.le_refl 0) (Nat.le_refl 0) ⟨rfl, rfl, rfl, h⟩
          · have h := h.2 hc
            intro τ149 eτ149
            have h := h τ149 eτ149
            show WP l mX12_term (rm d 0 0) noX _ 0 0 212 [(2, t), (0, x1), (0, x2), (0, x3), (0, x4), (0, x5), (1, x6), (3, 0), (0, x8), (0, x9)] [] N Λ τ149
            refine r_aload_n (x := t) d_X12_term_212 rfl o_t.1 ?_
            refine r_getf (j := 22) (t := 0) (x := (τ149 t 22)) d_X12_term_213 kX12 (by decide) fl_X12_261 o_t.1 o_t.2.1 o_t.2.2.1 o_t.2.2.2 rfl rfl ?_
            refine r_if_eq (tgt := 220) d_X12_term_216 rfl (fun hc => ?_) (fun hc => ?_)
            · have h := h.1 hc
              refine r_aload_n (x := t) d_X12_term_220 rfl o_t.1 ?_
              refine r_getf (j := 1) (t := 2) (x := t_rankOf) d_X12_term_221 kX12 (by decide) fl_X12_13 o_t.1 o_t.2.1 o_t.2.2.1 o_t.2.2.2 rfl f_t_rankOf ?_
              refine r_bipush (x := 100) d_X12_term_224 ⟨by decide, by decide⟩ (by decide) ?_
              refine r_aload_n (x := t) d_X12_term_226 rfl o_t.1 ?_
              refine r_aload_n (x := t) d_X12_term_227 rfl o_t.1 ?_
              refine r_getf (j := 21) (t := 0) (x := (τ149 t 21)) d_X12_term_228 kX12 (by decide) fl_X12_255 o_t.1 o_t.2.1 o_t.2.2.1 o_t.2.2.2 rfl rfl ?_
              refine r_iconst (x := 4) d_X12_term_231 ⟨by decide, by decide⟩ ?_
              refine r_isub d_X12_term_232 ?_
              refine x_callVI (Y2 := mX12_letterAt) (c := t) (As := [(0, (subI (τ149 t 21) 4))]) (S := [(0, 100), (2, t_rankOf)]) d_X12_term_233 ok_mX12_letterAt ml_X12_290 rfl (Nat.le_of_ble_eq_true rfl) (Nat.le_of_ble_eq_true rfl) rfl hd_1 kX12 o_t (c_X12_letterAt (v_X12_letterAt_0 o_t f_t_tape ?_))
              refine ⟨h.1, ?_⟩
              have h := h.2
              show WP l mX12_term (rm d 0 0) noX _ 0 0 236 [(2, t), (0, x1), (0, x2), (0, x3), (0, x4), (0, x5), (1, x6), (3, 0), (0, x8), (0, x9)] [(0, (subI (τ149 t_tape (subI (τ149 t 21) 4)) 97)), (0, 100), (2, t_rankOf)] N Λ τ149
              refine r_imul d_X12_term_236 ?_
              refine r_bipush (x := 10) d_X12_term_237 ⟨by decide, by decide⟩ (by decide) ?_
              refine r_aload_n (x := t) d_X12_term_239 rfl o_t.1 ?_
              refine r_aload_n (x := t) d_X12_term_240 rfl o_t.1 ?_
              refine r_getf (j := 21) (t := 0) (x := (τ149 t 21)) d_X12_term_241 kX12 (by decide) fl_X12_255 o_t.1 o_t.2.1 o_t.2.2.1 o_t.2.2.2 rfl rfl ?_
              refine r_iconst (x := 3) d_X12_term_244 ⟨by decide, by decide⟩ ?_
              refine r_isub d_X12_term_245 ?_
              refine x_callVI (Y2 := mX12_letterAt) (c := t) (As := [(0, (subI (τ149 t 21) 3))]) (S := [(0, 10), (0, (mulI 100 (subI (τ149 t_tape (subI (τ149 t 21) 4)) 97))), (2, t_rankOf)]) d_X12_term_246 ok_mX12_letterAt ml_X12_290 rfl (Nat.le_of_ble_eq_true rfl) (Nat.le_of_ble_eq_true rfl) rfl hd_1 kX12 o_t (c_X12_letterAt (v_X12_letterAt_0 o_t f_t_tape ?_))
              refine ⟨h.1, ?_⟩
              have h := h.2
              show WP l mX12_term (rm d 0 0) noX _ 0 0 249 [(2, t), (0, x1), (0, x2), (0, x3), (0, x4), (0, x5), (1, x6), (3, 0), (0, x8), (0, x9)] [(0, (subI (τ149 t_tape (subI (τ149 t 21) 3)) 97)), (0, 10), (0, (mulI 100 (subI (τ149 t_tape (subI (τ149 t 21) 4)) 97))), (2, t_rankOf)] N Λ τ149
              refine r_imul d_X12_term_249 ?_
              refine r_iadd d_X12_term_250 ?_
              refine r_aload_n (x := t) d_X12_term_251 rfl o_t.1 ?_
              refine r_aload_n (x := t) d_X12_term_252 rfl o_t.1 ?_
              refine r_getf (j := 21) (t := 0) (x := (τ149 t 21)) d_X12_term_253 kX12 (by decide) fl_X12_255 o_t.1 o_t.2.1 o_t.2.2.1 o_t.2.2.2 rfl rfl ?_
              refine r_iconst (x := 2) d_X12_term_256 ⟨by decide, by decide⟩ ?_
              refine r_isub d_X12_term_257 ?_
              refine x_callVI (Y2 := mX12_letterAt) (c := t) (As := [(0, (subI (τ149 t 21) 2))]) (S := [(0, (addI (mulI 100 (subI (τ149 t_tape (subI (τ149 t 21) 4)) 97)) (mulI 10 (subI (τ149 t_tape (subI (τ149 t 21) 3)) 97)))), (2, t_rankOf)]) d_X12_term_258 ok_mX12_letterAt ml_X12_290 rfl (Nat.le_of_ble_eq_true rfl) (Nat.le_of_ble_eq_true rfl) rfl hd_1 kX12 o_t (c_X12_letterAt (v_X12_letterAt_0 o_t f_t_tape ?_))
              refine ⟨h.1, ?_⟩
              have h := h.2
              show WP l mX12_term (rm d 0 0) noX _ 0 0 261 [(2, t), (0, x1), (0, x2), (0, x3), (0, x4), (0, x5), (1, x6), (3, 0), (0, x8), (0, x9)] [(0, (subI (τ149 t_tape (subI (τ149 t 21) 2)) 97)), (0, (addI (mulI 100 (subI (τ149 t_tape (subI (τ149 t 21) 4)) 97)) (mulI 10 (subI (τ149 t_tape (subI (τ149 t 21) 3)) 97)))), (2, t_rankOf)] N Λ τ149
              refine r_iadd d_X12_term_261 ?_
              refine x_iald d_X12_term_262 h.1 ?_
              have h := h.2
              refine r_nm (fun y150 ey150 => ?_)
              have h := h y150 ey150
              refine r_istore (L2 := [(2, t), (0, x1), (0, x2), (0, x3), (0, x4), (0, x5), (1, x6), (3, 0), (0, x8), (0, y150)]) d_X12_term_263 (by decide) rfl rfl ?_
              refine r_iload (x := y150) d_X12_term_265 rfl ?_
              refine r_if_ge (tgt := 276) d_X12_term_267 rfl (fun hc => ?_) (fun hc => ?_)
              · have h := h.1 hc
                refine r_iload (x := y150) d_X12_term_276 rfl ?_
                refine r_if_ne (tgt := 285) d_X12_term_278 rfl (fun hc => ?_) (fun hc => ?_)
                · have h := h.1 hc
                  refine r_lload (x := x6) d_X12_term_285 rfl ?_
                  refine r_lstore (L2 := [(2, t), (0, x1), (0, x2), (0, x3), (0, x4), (0, x5), (1, x6), (3, 0), (0, x8), (0, y150)]) d_X12_term_287 (by decide) rfl rfl ?_
                  refine r_aload_n (x := t) d_X12_term_289 rfl o_t.1 ?_
                  refine r_getf (j := 9) (t := 2) (x := t_ranks) d_X12_term_290 kX12 (by decide) fl_X12_33 o_t.1 o_t.2.1 o_t.2.2.1 o_t.2.2.2 rfl f_t_ranks ?_
                  refine r_iload (x := x8) d_X12_term_293 rfl ?_
                  refine r_iload (x := y150) d_X12_term_295 rfl ?_
                  refine x_callSI (Y2 := mX12_sizeOf) (As := [(0, y150)]) (S := [(0, x8), (2, t_ranks)]) d_X12_term_297 ok_mX12_sizeOf ml_X12_168 rfl (Nat.le_of_ble_eq_true rfl) (Nat.le_of_ble_eq_true rfl) rfl hd_1 (c_X12_sizeOf (v_X12_sizeOf_0 ?_))
                  refine ⟨fun hc => ?_, fun hc => ?_⟩
                  · have h := h.1 hc
                    show WP l mX12_term (rm d 0 0) noX _ 0 0 300 [(2, t), (0, x1), (0, x2), (0, x3), (0, x4), (0, x5), (1, x6), (3, 0), (0, x8), (0, y150)] [(0, y150), (0, x8), (2, t_ranks)] N Λ τ149
                    refine x_iast d_X12_term_300 h.1 ?_
                    have h := h.2
                    refine r_nmM (fun τ151 eτ151 => ?_)
                    have h := h τ151 eτ151
                    refine x_iinc (x := x8) (L := [(2, t), (0, x1), (0, x2), (0, x3), (0, x4), (0, x5), (1, x6), (3, 0), (0, x8), (0, y150)]) d_X12_term_301 rfl (by decide) rfl (fun y152 ey152 => ?_)
                    have h := h y152 ey152
                    show WP _ _ _ _ _ _ _ _ [(2, t), (0, x1), (0, x2), (0, x3), (0, x4), (0, x5), (1, x6), (3, 0), (0, y152), (0, y150)] _ _ _ _
                    refine r_goto (tgt := 129) d_X12_term_304 rfl ?_
                    exact x_mask h ⟨Or.inr rfl, Or.inr rfl, Or.inr rfl, Or.inr rfl, Or.inr rfl, Or.inr rfl, Or.inr rfl, Or.inl rfl, Or.inr rfl, Or.inl rfl, trivial⟩
                  · have h := h.2 hc
                    show WP l mX12_term (rm d 0 0) noX _ 0 0 300 [(2, t), (0, x1), (0, x2), (0, x3), (0, x4), (0, x5), (1, x6), (3, 0), (0, x8), (0, y150)] [(0, (negI y150)), (0, x8), (2, t_ranks)] N Λ τ149
                    refine x_iast d_X12_term_300 h.1 ?_
                    have h := h.2
                    refine r_nmM (fun τ153 eτ153 => ?_)
                    have h := h τ153 eτ153
                    refine x_iinc (x := x8) (L := [(2, t), (0, x1), (0, x2), (0, x3), (0, x4), (0, x5), (1, x6), (3, 0), (0, x8), (0, y150)]) d_X12_term_301 rfl (by decide) rfl (fun y154 ey154 => ?_)
                    have h := h y154 ey154
                    show WP _ _ _ _ _ _ _ _ [(2, t), (0, x1), (0, x2), (0, x3), (0, x4), (0, x5), (1, x6), (3, 0), (0, y154), (0, y150)] _ _ _ _
                    refine r_goto (tgt := 129) d_X12_term_304 rfl ?_
                    exact x_mask h ⟨Or.inr rfl, Or.inr rfl, Or.inr rfl, Or.inr rfl, Or.inr rfl, Or.inr rfl, Or.inr rfl, Or.inl rfl, Or.inr rfl, Or.inl rfl, trivial⟩
                · have h := h.2 hc
                  refine r_lconst d_X12_term_281 ?_
                  skip
                  refine r_goto (tgt := 287) d_X12_term_282 rfl ?_
                  refine r_lstore (L2 := [(2, t), (0, x1), (0, x2), (0, x3), (0, x4), (0, x5), (1, 0), (3, 0), (0, x8), (0, y150)]) d_X12_term_287 (by decide) rfl rfl ?_
                  refine r_aload_n (x := t) d_X12_term_289 rfl o_t.1 ?_
                  refine r_getf (j := 9) (t := 2) (x := t_ranks) d_X12_term_290 kX12 (by decide) fl_X12_33 o_t.1 o_t.2.1 o_t.2.2.1 o_t.2.2.2 rfl f_t_ranks ?_
                  refine r_iload (x := x8) d_X12_term_293 rfl ?_
                  refine r_iload (x := y150) d_X12_term_295 rfl ?_
                  refine x_callSI (Y2 := mX12_sizeOf) (As := [(0, y150)]) (S := [(0, x8), (2, t_ranks)]) d_X12_term_297 ok_mX12_sizeOf ml_X12_168 rfl (Nat.le_of_ble_eq_true rfl) (Nat.le_of_ble_eq_true rfl) rfl hd_1 (c_X12_sizeOf (v_X12_sizeOf_0 ?_))
                  refine ⟨fun hc => ?_, fun hc => ?_⟩
                  · have h := h.1 hc
                    show WP l mX12_term (rm d 0 0) noX _ 0 0 300 [(2, t), (0, x1), (0, x2), (0, x3), (0, x4), (0, x5), (1, 0), (3, 0), (0, x8), (0, y150)] [(0, y150), (0, x8), (2, t_ranks)] N Λ τ149
                    refine x_iast d_X12_term_300 h.1 ?_
                    have h := h.2
                    refine r_nmM (fun τ155 eτ155 => ?_)
                    have h := h τ155 eτ155
                    refine x_iinc (x := x8) (L := [(2, t), (0, x1), (0, x2), (0, x3), (0, x4), (0, x5), (1, 0), (3, 0), (0, x8), (0, y150)]) d_X12_term_301 rfl (by decide) rfl (fun y156 ey156 => ?_)
                    have h := h y156 ey156
                    show WP _ _ _ _ _ _ _ _ [(2, t), (0, x1), (0, x2), (0, x3), (0, x4), (0, x5), (1, 0), (3, 0), (0, y156), (0, y150)] _ _ _ _
                    refine r_goto (tgt := 129) d_X12_term_304 rfl ?_
                    exact x_mask h ⟨Or.inr rfl, Or.inr rfl, Or.inr rfl, Or.inr rfl, Or.inr rfl, Or.inr rfl, Or.inr rfl, Or.inl rfl, Or.inr rfl, Or.inl rfl, trivial⟩
                  · have h := h.2 hc
                    show WP l mX12_term (rm d 0 0) noX _ 0 0 300 [(2, t), (0, x1), (0, x2), (0, x3), (0, x4), (0, x5), (1, 0), (3, 0), (0, x8), (0, y150)] [(0, (negI y150)), (0, x8), (2, t_ranks)] N Λ τ149
                    refine x_iast d_X12_term_300 h.1 ?_
                    have h := h.2
                    refine r_nmM (fun τ157 eτ157 => ?_)
                    have h := h τ157 eτ157
                    refine x_iinc (x := x8) (L := [(2, t), (0, x1), (0, x2), (0, x3), (0, x4), (0, x5), (1, 0), (3, 0), (0, x8), (0, y150)]) d_X12_term_301 rfl (by decide) rfl (fun y158 ey158 => ?_)
                    have h := h y158 ey158
                    show WP _ _ _ _ _ _ _ _ [(2, t), (0, x1), (0, x2), (0, x3), (0, x4), (0, x5), (1, 0), (3, 0), (0, y158), (0, y150)] _ _ _ _
                    refine r_goto (tgt := 129) d_X12_term_304 rfl ?_
                    exact x_mask h ⟨Or.inr rfl, Or.inr rfl, Or.inr rfl, Or.inr rfl, Or.inr rfl, Or.inr rfl, Or.inr rfl, Or.inl rfl, Or.inr rfl, Or.inl rfl, trivial⟩
              · have h := h.2 hc
                refine r_lload (x := x6) d_X12_term_270 rfl ?_
                refine r_lneg d_X12_term_272 ?_
                refine r_goto (tgt := 287) d_X12_term_273 rfl ?_
                refine r_nm (fun y159 ey159 => ?_)
                have h := h y159 ey159
                refine r_lstore (L2 := [(2, t), (0, x1), (0, x2), (0, x3), (0, x4), (0, x5), (1, y159), (3, 0), (0, x8), (0, y150)]) d_X12_term_287 (by decide) rfl rfl ?_
                refine r_aload_n (x := t) d_X12_term_289 rfl o_t.1 ?_
                refine r_getf (j := 9) (t := 2) (x := t_ranks) d_X12_term_290 kX12 (by decide) fl_X12_33 o_t.1 o_t.2.1 o_t.2.2.1 o_t.2.2.2 rfl f_t_ranks ?_
                refine r_iload (x := x8) d_X12_term_293 rfl ?_
                refine r_iload (x := y150) d_X12_term_295 rfl ?_
                refine x_callSI (Y2 := mX12_sizeOf) (As := [(0, y150)]) (S := [(0, x8), (2, t_ranks)]) d_X12_term_297 ok_mX12_sizeOf ml_X12_168 rfl (Nat.le_of_ble_eq_true rfl) (Nat.le_of_ble_eq_true rfl) rfl hd_1 (c_X12_sizeOf (v_X12_sizeOf_0 ?_))
                refine ⟨fun hc => ?_, fun hc => ?_⟩
                · have h := h.1 hc
                  show WP l mX12_term (rm d 0 0) noX _ 0 0 300 [(2, t), (0, x1), (0, x2), (0, x3), (0, x4), (0, x5), (1, y159), (3, 0), (0, x8), (0, y150)] [(0, y150), (0, x8), (2, t_ranks)] N Λ τ149
                  refine x_iast d_X12_term_300 h.1 ?_
                  have h := h.2
                  refine r_nmM (fun τ160 eτ160 => ?_)
                  have h := h τ160 eτ160
                  refine x_iinc (x := x8) (L := [(2, t), (0, x1), (0, x2), (0, x3), (0, x4), (0, x5), (1, y159), (3, 0), (0, x8), (0, y150)]) d_X12_term_301 rfl (by decide) rfl (fun y161 ey161 => ?_)
                  have h := h y161 ey161
                  show WP _ _ _ _ _ _ _ _ [(2, t), (0, x1), (0, x2), (0, x3), (0, x4), (0, x5), (1, y159), (3, 0), (0, y161), (0, y150)] _ _ _ _
                  refine r_goto (tgt := 129) d_X12_term_304 rfl ?_
                  exact x_mask h ⟨Or.inr rfl, Or.inr rfl, Or.inr rfl, Or.inr rfl, Or.inr rfl, Or.inr rfl, Or.inr rfl, Or.inl rfl, Or.inr rfl, Or.inl rfl, trivial⟩
                · have h := h.2 hc
                  show WP l mX12_term (rm d 0 0) noX _ 0 0 300 [(2, t), (0, x1), (0, x2), (0, x3), (0, x4), (0, x5), (1, y159), (3, 0), (0, x8), (0, y150)] [(0, (negI y150)), (0, x8), (2, t_ranks)] N Λ τ149
                  refine x_iast d_X12_term_300 h.1 ?_
                  have h := h.2
                  refine r_nmM (fun τ162 eτ162 => ?_)
                  have h := h τ162 eτ162
                  refine x_iinc (x := x8) (L := [(2, t), (0, x1), (0, x2), (0, x3), (0, x4), (0, x5), (1, y159), (3, 0), (0, x8), (0, y150)]) d_X12_term_301 rfl (by decide) rfl (fun y163 ey163 => ?_)
                  have h := h y163 ey163
                  show WP _ _ _ _ _ _ _ _ [(2, t), (0, x1), (0, x2), (0, x3), (0, x4), (0, x5), (1, y159), (3, 0), (0, y163), (0, y150)] _ _ _ _
                  refine r_goto (tgt := 129) d_X12_term_304 rfl ?_
                  exact x_mask h ⟨Or.inr rfl, Or.inr rfl, Or.inr rfl, Or.inr rfl, Or.inr rfl, Or.inr rfl, Or.inr rfl, Or.inl rfl, Or.inr rfl, Or.inl rfl, trivial⟩
            · have h := h.2 hc
              exact r_vret d_X12_term_219 rfl (Nat.le_refl 0) (Nat.le_refl 0) ⟨rfl, rfl, rfl, h⟩
        · have h := h.2 hc
          show WP l mX12_term (rm d 0 0) noX _ 0 0 212 [(2, t), (0, x1), (0, x2), (0, x3), (0, x4), (0, x5), (1, x6), (3, 0), (0, x8), (0, x9)] [] N Λ σ
          refine r_aload_n (x := t) d_X12_term_212 rfl o_t.1 ?_
          refine r_getf (j := 22) (t := 0) (x := (σ t 22)) d_X12_term_213 kX12 (by decide) fl_X12_261 o_t.1 o_t.2.1 o_t.2.2.1 o_t.2.2.2 rfl rfl ?_
          refine r_if_eq (tgt := 220) d_X12_term_216 rfl (fun hc => ?_) (fun hc => ?_)
          · have h := h.1 hc
            refine r_aload_n (x := t) d_X12_term_220 rfl o_t.1 ?_
            refine r_getf (j := 1) (t := 2) (x := t_rankOf) d_X12_term_221 kX12 (by decide) fl_X12_13 o_t.1 o_t.2.1 o_t.2.2.1 o_t.2.2.2 rfl f_t_rankOf ?_
            refine r_bipush (x := 100) d_X12_term_224 ⟨by decide, by decide⟩ (by decide) ?_
            refine r_aload_n (x := t) d_X12_term_226 rfl o_t.1 ?_
            refine r_aload_n (x := t) d_X12_term_227 rfl o_t.1 ?_
            refine r_getf (j := 21) (t := 0) (x := (σ t 21)) d_X12_term_228 kX12 (by decide) fl_X12_255 o_t.1 o_t.2.1 o_t.2.2.1 o_t.2.2.2 rfl rfl ?_
            refine r_iconst (x := 4) d_X12_term_231 ⟨by decide, by decide⟩ ?_
            refine r_isub d_X12_term_232 ?_
            refine x_callVI (Y2 := mX12_letterAt) (c := t) (As := [(0, (subI (σ t 21) 4))]) (S := [(0, 100), (2, t_rankOf)]) d_X12_term_233 ok_mX12_letterAt ml_X12_290 rfl (Nat.le_of_ble_eq_true rfl) (Nat.le_of_ble_eq_true rfl) rfl hd_1 kX12 o_t (c_X12_letterAt (v_X12_letterAt_0 o_t f_t_tape ?_))
            refine ⟨h.1, ?_⟩
            have h := h.2
            show WP l mX12_term (rm d 0 0) noX _ 0 0 236 [(2, t), (0, x1), (0, x2), (0, x3), (0, x4), (0, x5), (1, x6), (3, 0), (0, x8), (0, x9)] [(0, (subI (σ t_tape (subI (σ t 21) 4)) 97)), (0, 100), (2, t_rankOf)] N Λ σ
            refine r_imul d_X12_term_236 ?_
            refine r_bipush (x := 10) d_X12_term_237 ⟨by decide, by decide⟩ (by decide) ?_
            refine r_aload_n (x := t) d_X12_term_239 rfl o_t.1 ?_
            refine r_aload_n (x := t) d_X12_term_240 rfl o_t.1 ?_
            refine r_getf (j := 21) (t := 0) (x := (σ t 21)) d_X12_term_241 kX12 (by decide) fl_X12_255 o_t.1 o_t.2.1 o_t.2.2.1 o_t.2.2.2 rfl rfl ?_
            refine r_iconst (x := 3) d_X12_term_244 ⟨by decide, by decide⟩ ?_
            refine r_isub d_X12_term_245 ?_
            refine x_callVI (Y2 := mX12_letterAt) (c := t) (As := [(0, (subI (σ t 21) 3))]) (S := [(0, 10), (0, (mulI 100 (subI (σ t_tape (subI (σ t 21) 4)) 97))), (2, t_rankOf)]) d_X12_term_246 ok_mX12_letterAt ml_X12_290 rfl (Nat.le_of_ble_eq_true rfl) (Nat.le_of_ble_eq_true rfl) rfl hd_1 kX12 o_t (c_X12_letterAt (v_X12_letterAt_0 o_t f_t_tape ?_))
            refine ⟨h.1, ?_⟩
            have h := h.2
            show WP l mX12_term (rm d 0 0) noX _ 0 0 249 [(2, t), (0, x1), (0, x2), (0, x3), (0, x4), (0, x5), (1, x6), (3, 0), (0, x8), (0, x9)] [(0, (subI (σ t_tape (subI (σ t 21) 3)) 97)), (0, 10), (0, (mulI 100 (subI (σ t_tape (subI (σ t 21) 4)) 97))), (2, t_rankOf)] N Λ σ
            refine r_imul d_X12_term_249 ?_
            refine r_iadd d_X12_term_250 ?_
            refine r_aload_n (x := t) d_X12_term_251 rfl o_t.1 ?_
            refine r_aload_n (x := t) d_X12_term_252 rfl o_t.1 ?_
            refine r_getf (j := 21) (t := 0) (x := (σ t 21)) d_X12_term_253 kX12 (by decide) fl_X12_255 o_t.1 o_t.2.1 o_t.2.2.1 o_t.2.2.2 rfl rfl ?_
            refine r_iconst (x := 2) d_X12_term_256 ⟨by decide, by decide⟩ ?_
            refine r_isub d_X12_term_257 ?_
            refine x_callVI (Y2 := mX12_letterAt) (c := t) (As := [(0, (subI (σ t 21) 2))]) (S := [(0, (addI (mulI 100 (subI (σ t_tape (subI (σ t 21) 4)) 97)) (mulI 10 (subI (σ t_tape (subI (σ t 21) 3)) 97)))), (2, t_rankOf)]) d_X12_term_258 ok_mX12_letterAt ml_X12_290 rfl (Nat.le_of_ble_eq_true rfl) (Nat.le_of_ble_eq_true rfl) rfl hd_1 kX12 o_t (c_X12_letterAt (v_X12_letterAt_0 o_t f_t_tape ?_))
            refine ⟨h.1, ?_⟩
            have h := h.2
            show WP l mX12_term (rm d 0 0) noX _ 0 0 261 [(2, t), (0, x1), (0, x2), (0, x3), (0, x4), (0, x5), (1, x6), (3, 0), (0, x8), (0, x9)] [(0, (subI (σ t_tape (subI (σ t 21) 2)) 97)), (0, (addI (mulI 100 (subI (σ t_tape (subI (σ t 21) 4)) 97)) (mulI 10 (subI (σ t_tape (subI (σ t 21) 3)) 97)))), (2, t_rankOf)] N Λ σ
            refine r_iadd d_X12_term_261 ?_
            refine x_iald d_X12_term_262 h.1 ?_
            have h := h.2
            refine r_nm (fun y164 ey164 => ?_)
            have h := h y164 ey164
            refine r_istore (L2 := [(2, t), (0, x1), (0, x2), (0, x3), (0, x4), (0, x5), (1, x6), (3, 0), (0, x8), (0, y164)]) d_X12_term_263 (by decide) rfl rfl ?_
            refine r_iload (x := y164) d_X12_term_265 rfl ?_
            refine r_if_ge (tgt := 276) d_X12_term_267 rfl (fun hc => ?_) (fun hc => ?_)
            · have h := h.1 hc
              refine r_iload (x := y164) d_X12_term_276 rfl ?_
              refine r_if_ne (tgt := 285) d_X12_term_278 rfl (fun hc => ?_) (fun hc => ?_)
              · have h := h.1 hc
                refine r_lload (x := x6) d_X12_term_285 rfl ?_
                refine r_lstore (L2 := [(2, t), (0, x1), (0, x2), (0, x3), (0, x4), (0, x5), (1, x6), (3, 0), (0, x8), (0, y164)]) d_X12_term_287 (by decide) rfl rfl ?_
                refine r_aload_n (x := t) d_X12_term_289 rfl o_t.1 ?_
                refine r_getf (j := 9) (t := 2) (x := t_ranks) d_X12_term_290 kX12 (by decide) fl_X12_33 o_t.1 o_t.2.1 o_t.2.2.1 o_t.2.2.2 rfl f_t_ranks ?_
                refine r_iload (x := x8) d_X12_term_293 rfl ?_
                refine r_iload (x := y164) d_X12_term_295 rfl ?_
                refine x_callSI (Y2 := mX12_sizeOf) (As := [(0, y164)]) (S := [(0, x8), (2, t_ranks)]) d_X12_term_297 ok_mX12_sizeOf ml_X12_168 rfl (Nat.le_of_ble_eq_true rfl) (Nat.le_of_ble_eq_true rfl) rfl hd_1 (c_X12_sizeOf (v_X12_sizeOf_0 ?_))
                refine ⟨fun hc => ?_, fun hc => ?_⟩
                · have h := h.1 hc
                  show WP l mX12_term (rm d 0 0) noX _ 0 0 300 [(2, t), (0, x1), (0, x2), (0, x3), (0, x4), (0, x5), (1, x6), (3, 0), (0, x8), (0, y164)] [(0, y164), (0, x8), (2, t_ranks)] N Λ σ
                  refine x_iast d_X12_term_300 h.1 ?_
                  have h := h.2
                  refine r_nmM (fun τ165 eτ165 => ?_)
                  have h := h τ165 eτ165
                  refine x_iinc (x := x8) (L := [(2, t), (0, x1), (0, x2), (0, x3), (0, x4), (0, x5), (1, x6), (3, 0), (0, x8), (0, y164)]) d_X12_term_301 rfl (by decide) rfl (fun y166 ey166 => ?_)
                  have h := h y166 ey166
                  show WP _ _ _ _ _ _ _ _ [(2, t), (0, x1), (0, x2), (0, x3), (0, x4), (0, x5), (1, x6), (3, 0), (0, y166), (0, y164)] _ _ _ _
                  refine r_goto (tgt := 129) d_X12_term_304 rfl ?_
                  exact x_mask h ⟨Or.inr rfl, Or.inr rfl, Or.inr rfl, Or.inr rfl, Or.inr rfl, Or.inr rfl, Or.inr rfl, Or.inl rfl, Or.inr rfl, Or.inl rfl, trivial⟩
                · have h := h.2 hc
                  show WP l mX12_term (rm d 0 0) noX _ 0 0 300 [(2, t), (0, x1), (0, x2), (0, x3), (0, x4), (0, x5), (1, x6), (3, 0), (0, x8), (0, y164)] [(0, (negI y164)), (0, x8), (2, t_ranks)] N Λ σ
                  refine x_iast d_X12_term_300 h.1 ?_
                  have h := h.2
                  refine r_nmM (fun τ167 eτ167 => ?_)
                  have h := h τ167 eτ167
                  refine x_iinc (x := x8) (L := [(2, t), (0, x1), (0, x2), (0, x3), (0, x4), (0, x5), (1, x6), (3, 0), (0, x8), (0, y164)]) d_X12_term_301 rfl (by decide) rfl (fun y168 ey168 => ?_)
                  have h := h y168 ey168
                  show WP _ _ _ _ _ _ _ _ [(2, t), (0, x1), (0, x2), (0, x3), (0, x4), (0, x5), (1, x6), (3, 0), (0, y168), (0, y164)] _ _ _ _
                  refine r_goto (tgt := 129) d_X12_term_304 rfl ?_
                  exact x_mask h ⟨Or.inr rfl, Or.inr rfl, Or.inr rfl, Or.inr rfl, Or.inr rfl, Or.inr rfl, Or.inr rfl, Or.inl rfl, Or.inr rfl, Or.inl rfl, trivial⟩
              · have h := h.2 hc
                refine r_lconst d_X12_term_281 ?_
                skip
                refine r_goto (tgt := 287) d_X12_term_282 rfl ?_
                refine r_lstore (L2 := [(2, t), (0, x1), (0, x2), (0, x3), (0, x4), (0, x5), (1, 0), (3, 0), (0, x8), (0, y164)]) d_X12_term_287 (by decide) rfl rfl ?_
                refine r_aload_n (x := t) d_X12_term_289 rfl o_t.1 ?_
                refine r_getf (j := 9) (t := 2) (x := t_ranks) d_X12_term_290 kX12 (by decide) fl_X12_33 o_t.1 o_t.2.1 o_t.2.2.1 o_t.2.2.2 rfl f_t_ranks ?_
                refine r_iload (x := x8) d_X12_term_293 rfl ?_
                refine r_iload (x := y164) d_X12_term_295 rfl ?_
                refine x_callSI (Y2 := mX12_sizeOf) (As := [(0, y164)]) (S := [(0, x8), (2, t_ranks)]) d_X12_term_297 ok_mX12_sizeOf ml_X12_168 rfl (Nat.le_of_ble_eq_true rfl) (Nat.le_of_ble_eq_true rfl) rfl hd_1 (c_X12_sizeOf (v_X12_sizeOf_0 ?_))
                refine ⟨fun hc => ?_, fun hc => ?_⟩
                · have h := h.1 hc
                  show WP l mX12_term (rm d 0 0) noX _ 0 0 300 [(2, t), (0, x1), (0, x2), (0, x3), (0, x4), (0, x5), (1, 0), (3, 0), (0, x8), (0, y164)] [(0, y164), (0, x8), (2, t_ranks)] N Λ σ
                  refine x_iast d_X12_term_300 h.1 ?_
                  have h := h.2
                  refine r_nmM (fun τ169 eτ169 => ?_)
                  have h := h τ169 eτ169
                  refine x_iinc (x := x8) (L := [(2, t), (0, x1), (0, x2), (0, x3), (0, x4), (0, x5), (1, 0), (3, 0), (0, x8), (0, y164)]) d_X12_term_301 rfl (by decide) rfl (fun y170 ey170 => ?_)
                  have h := h y170 ey170
                  show WP _ _ _ _ _ _ _ _ [(2, t), (0, x1), (0, x2), (0, x3), (0, x4), (0, x5), (1, 0), (3, 0), (0, y170), (0, y164)] _ _ _ _
                  refine r_goto (tgt := 129) d_X12_term_304 rfl ?_
                  exact x_mask h ⟨Or.inr rfl, Or.inr rfl, Or.inr rfl, Or.inr rfl, Or.inr rfl, Or.inr rfl, Or.inr rfl, Or.inl rfl, Or.inr rfl, Or.inl rfl, trivial⟩
                · have h := h.2 hc
                  show WP l mX12_term (rm d 0 0) noX _ 0 0 300 [(2, t), (0, x1), (0, x2), (0, x3), (0, x4), (0, x5), (1, 0), (3, 0), (0, x8), (0, y164)] [(0, (negI y164)), (0, x8), (2, t_ranks)] N Λ σ
                  refine x_iast d_X12_term_300 h.1 ?_
                  have h := h.2
                  refine r_nmM (fun τ171 eτ171 => ?_)
                  have h := h τ171 eτ171
                  refine x_iinc (x := x8) (L := [(2, t), (0, x1), (0, x2), (0, x3), (0, x4), (0, x5), (1, 0), (3, 0), (0, x8), (0, y164)]) d_X12_term_301 rfl (by decide) rfl (fun y172 ey172 => ?_)
                  have h := h y172 ey172
                  show WP _ _ _ _ _ _ _ _ [(2, t), (0, x1), (0, x2), (0, x3), (0, x4), (0, x5), (1, 0), (3, 0), (0, y172), (0, y164)] _ _ _ _
                  refine r_goto (tgt := 129) d_X12_term_304 rfl ?_
                  exact x_mask h ⟨Or.inr rfl, Or.inr rfl, Or.inr rfl, Or.inr rfl, Or.inr rfl, Or.inr rfl, Or.inr rfl, Or.inl rfl, Or.inr rfl, Or.inl rfl, trivial⟩
            · have h := h.2 hc
              refine r_lload (x := x6) d_X12_term_270 rfl ?_
              refine r_lneg d_X12_term_272 ?_
              refine r_goto (tgt := 287) d_X12_term_273 rfl ?_
              refine r_nm (fun y173 ey173 => ?_)
              have h := h y173 ey173
              refine r_lstore (L2 := [(2, t), (0, x1), (0, x2), (0, x3), (0, x4), (0, x5), (1, y173), (3, 0), (0, x8), (0, y164)]) d_X12_term_287 (by decide) rfl rfl ?_
              refine r_aload_n (x := t) d_X12_term_289 rfl o_t.1 ?_
              refine r_getf (j := 9) (t := 2) (x := t_ranks) d_X12_term_290 kX12 (by decide) fl_X12_33 o_t.1 o_t.2.1 o_t.2.2.1 o_t.2.2.2 rfl f_t_ranks ?_
              refine r_iload (x := x8) d_X12_term_293 rfl ?_
              refine r_iload (x := y164) d_X12_term_295 rfl ?_
              refine x_callSI (Y2 := mX12_sizeOf) (As := [(0, y164)]) (S := [(0, x8), (2, t_ranks)]) d_X12_term_297 ok_mX12_sizeOf ml_X12_168 rfl (Nat.le_of_ble_eq_true rfl) (Nat.le_of_ble_eq_true rfl) rfl hd_1 (c_X12_sizeOf (v_X12_sizeOf_0 ?_))
              refine ⟨fun hc => ?_, fun hc => ?_⟩
              · have h := h.1 hc
                show WP l mX12_term (rm d 0 0) noX _ 0 0 300 [(2, t), (0, x1), (0, x2), (0, x3), (0, x4), (0, x5), (1, y173), (3, 0), (0, x8), (0, y164)] [(0, y164), (0, x8), (2, t_ranks)] N Λ σ
                refine x_iast d_X12_term_300 h.1 ?_
                have h := h.2
                refine r_nmM (fun τ174 eτ174 => ?_)
                have h := h τ174 eτ174
                refine x_iinc (x := x8) (L := [(2, t), (0, x1), (0, x2), (0, x3), (0, x4), (0, x5), (1, y173), (3, 0), (0, x8), (0, y164)]) d_X12_term_301 rfl (by decide) rfl (fun y175 ey175 => ?_)
                have h := h y175 ey175
                show WP _ _ _ _ _ _ _ _ [(2, t), (0, x1), (0, x2), (0, x3), (0, x4), (0, x5), (1, y173), (3, 0), (0, y175), (0, y164)] _ _ _ _
                refine r_goto (tgt := 129) d_X12_term_304 rfl ?_
                exact x_mask h ⟨Or.inr rfl, Or.inr rfl, Or.inr rfl, Or.inr rfl, Or.inr rfl, Or.inr rfl, Or.inr rfl, Or.inl rfl, Or.inr rfl, Or.inl rfl, trivial⟩
              · have h := h.2 hc
                show WP l mX12_term (rm d 0 0) noX _ 0 0 300 [(2, t), (0, x1), (0, x2), (0, x3), (0, x4), (0, x5), (1, y173), (3, 0), (0, x8), (0, y164)] [(0, (negI y164)), (0, x8), (2, t_ranks)] N Λ σ
                refine x_iast d_X12_term_300 h.1 ?_
                have h := h.2
                refine r_nmM (fun τ176 eτ176 => ?_)
                have h := h τ176 eτ176
                refine x_iinc (x := x8) (L := [(2, t), (0, x1), (0, x2), (0, x3), (0, x4), (0, x5), (1, y173), (3, 0), (0, x8), (0, y164)]) d_X12_term_301 rfl (by decide) rfl (fun y177 ey177 => ?_)
                have h := h y177 ey177
                show WP _ _ _ _ _ _ _ _ [(2, t), (0, x1), (0, x2), (0, x3), (0, x4), (0, x5), (1, y173), (3, 0), (0, y177), (0, y164)] _ _ _ _
                refine r_goto (tgt := 129) d_X12_term_304 rfl ?_
                exact x_mask h ⟨Or.inr rfl, Or.inr rfl, Or.inr rfl, Or.inr rfl, Or.inr rfl, Or.inr rfl, Or.inr rfl, Or.inl rfl, Or.inr rfl, Or.inl rfl, trivial⟩
          · have h := h.2 hc
            exact r_vret d_X12_term_219 rfl (Nat.le_refl 0) (Nat.le_refl 0) ⟨rfl, rfl, rfl, h⟩
  · have h := h.2 hc
    refine r_aload_n (x := t) d_X12_term_180 rfl o_t.1 ?_
    refine r_aload_n (x := t) d_X12_term_181 rfl o_t.1 ?_
    refine x_callVI (Y2 := mX12_seesLetter) (c := t) (As := []) (S := [(2, t)]) d_X12_term_182 ok_mX12_seesLetter ml_X12_283 rfl (Nat.le_of_ble_eq_true rfl) (Nat.le_of_ble_eq_true rfl) rfl hd_1 kX12 o_t (CI.mono h (fun v179 σ178 h => ?_))
    refine x_callVV (Y2 := mX12_must) (c := t) (As := [(0, v179)]) (S := []) d_X12_term_185 ok_mX12_must ml_X12_286 rfl (Nat.le_of_ble_eq_true rfl) (Nat.le_of_ble_eq_true rfl) rfl hd_1 kX12 o_t (c_X12_must (v_X12_must_0 o_t he_1 ?_))
    refine ⟨fun hc => ?_, fun hc => ?_⟩
    · have h := h.1 hc
      refine ⟨fun hc => ?_, fun hc => ?_⟩
      · have h := h.1 hc
        refine ⟨fun hc => ?_, fun hc => ?_⟩
        · have h := h.1 hc
          intro τ180 eτ180
          have h := h τ180 eτ180
          intro τ181 eτ181
          have h := h τ181 eτ181
          show WP l mX12_term (rm d 0 0) noX _ 0 0 188 [(2, t), (0, x1), (0, x2), (0, x3), (0, x4), (0, x5), (1, x6), (3, 0), (0, x8), (0, x9)] [] N Λ τ181
          refine x_iinc (x := x9) (L := [(2, t), (0, x1), (0, x2), (0, x3), (0, x4), (0, x5), (1, x6), (3, 0), (0, x8), (0, x9)]) d_X12_term_188 rfl (by decide) rfl (fun y182 ey182 => ?_)
          have h := h y182 ey182
          show WP _ _ _ _ _ _ _ _ [(2, t), (0, x1), (0, x2), (0, x3), (0, x4), (0, x5), (1, x6), (3, 0), (0, x8), (0, y182)] _ _ _ _
          refine r_goto (tgt := 174) d_X12_term_191 rfl ?_
          exact h
        · have h := h.2 hc
          show WP l mX12_term (rm d 0 0) noX _ 0 0 188 [(2, t), (0, x1), (0, x2), (0, x3), (0, x4), (0, x5), (1, x6), (3, 0), (0, x8), (0, x9)] [] N Λ σ178
          refine x_iinc (x := x9) (L := [(2, t), (0, x1), (0, x2), (0, x3), (0, x4), (0, x5), (1, x6), (3, 0), (0, x8), (0, x9)]) d_X12_term_188 rfl (by decide) rfl (fun y183 ey183 => ?_)
          have h := h y183 ey183
          show WP _ _ _ _ _ _ _ _ [(2, t), (0, x1), (0, x2), (0, x3), (0, x4), (0, x5), (1, x6), (3, 0), (0, x8), (0, y183)] _ _ _ _
          refine r_goto (tgt := 174) d_X12_term_191 rfl ?_
          exact h
      · have h := h.2 hc
        intro τ184 eτ184
        have h := h τ184 eτ184
        show WP l mX12_term (rm d 0 0) noX _ 0 0 188 [(2, t), (0, x1), (0, x2), (0, x3), (0, x4), (0, x5), (1, x6), (3, 0), (0, x8), (0, x9)] [] N Λ τ184
        refine x_iinc (x := x9) (L := [(2, t), (0, x1), (0, x2), (0, x3), (0, x4), (0, x5), (1, x6), (3, 0), (0, x8), (0, x9)]) d_X12_term_188 rfl (by decide) rfl (fun y185 ey185 => ?_)
        have h := h y185 ey185
        show WP _ _ _ _ _ _ _ _ [(2, t), (0, x1), (0, x2), (0, x3), (0, x4), (0, x5), (1, x6), (3, 0), (0, x8), (0, y185)] _ _ _ _
        refine r_goto (tgt := 174) d_X12_term_191 rfl ?_
        exact h
    · have h := h.2 hc
      show WP l mX12_term (rm d 0 0) noX _ 0 0 188 [(2, t), (0, x1), (0, x2), (0, x3), (0, x4), (0, x5), (1, x6), (3, 0), (0, x8), (0, x9)] [] N Λ σ178
      refine x_iinc (x := x9) (L := [(2, t), (0, x1), (0, x2), (0, x3), (0, x4), (0, x5), (1, x6), (3, 0), (0, x8), (0, x9)]) d_X12_term_188 rfl (by decide) rfl (fun y186 ey186 => ?_)
      have h := h y186 ey186
      show WP _ _ _ _ _ _ _ _ [(2, t), (0, x1), (0, x2), (0, x3), (0, x4), (0, x5), (1, x6), (3, 0), (0, x8), (0, y186)] _ _ _ _
      refine r_goto (tgt := 174) d_X12_term_191 rfl ?_
      exact h
theorem v_X12_polynomial_0 {l : Launch} {d N : Nat} {Λ : Lay} {P : Mem → Prop} {σ : Mem} {x1 t : Int} (o_t : Ob N Λ t 21 36)
    (h : (∀ τ1, τ1 = st σ t 21 0 → (((τ1 t 20) ≤ 0 → WV l mX12_polynomial d P 17 [(2, t), (0, x1), (3, 0), (3, 0), (3, 0), (3, 0)] [(0, 0)] N Λ τ1) ∧ (¬ ((τ1 t 20) ≤ 0) → WV l mX12_polynomial d P 17 [(2, t), (0, x1), (3, 0), (3, 0), (3, 0), (3, 0)] [(0, 1)] N Λ τ1)))) :
    WV l mX12_polynomial d P 0 [(2, t), (0, x1), (3, 0), (3, 0), (3, 0), (3, 0)] [] N Λ σ := by
  refine r_aload_n (x := t) d_X12_polynomial_0 rfl o_t.1 ?_
  refine r_iconst (x := 0) d_X12_polynomial_1 ⟨by decide, by decide⟩ ?_
  refine r_putI (j := 21) d_X12_polynomial_2 kX12 (by decide) fl_X12_255 rfl o_t.1 o_t.2.1 o_t.2.2.1 o_t.2.2.2 rfl ?_
  refine r_nmM (fun τ1 eτ1 => ?_)
  have h := h τ1 eτ1
  refine r_aload_n (x := t) d_X12_polynomial_5 rfl o_t.1 ?_
  refine r_getf (j := 20) (t := 0) (x := (τ1 t 20)) d_X12_polynomial_6 kX12 (by decide) fl_X12_258 o_t.1 o_t.2.1 o_t.2.2.1 o_t.2.2.2 rfl rfl ?_
  refine r_if_le (tgt := 16) d_X12_polynomial_9 rfl (fun hc => ?_) (fun hc => ?_)
  · have h := h.1 hc
    refine r_iconst (x := 0) d_X12_polynomial_16 ⟨by decide, by decide⟩ ?_
    exact h
  · have h := h.2 hc
    refine r_iconst (x := 1) d_X12_polynomial_12 ⟨by decide, by decide⟩ ?_
    refine r_goto (tgt := 17) d_X12_polynomial_13 rfl ?_
    exact h
theorem v_X12_polynomial_17 {l : Launch} {d N : Nat} {Λ : Lay} {P : Mem → Prop} {σ : Mem} {x1 w0 t : Int}
    (h : WV l mX12_polynomial d P 20 [(2, t), (0, x1), (0, w0), (0, 1), (3, 0), (3, 0)] [] N Λ σ) :
    WV l mX12_polynomial d P 17 [(2, t), (0, x1), (3, 0), (3, 0), (3, 0), (3, 0)] [(0, w0)] N Λ σ := by
  refine r_istore_n (L2 := [(2, t), (0, x1), (0, w0), (3, 0), (3, 0), (3, 0)]) d_X12_polynomial_17 (by decide) rfl rfl ?_
  refine r_iconst (x := 1) d_X12_polynomial_18 ⟨by decide, by decide⟩ ?_
  refine r_istore_n (L2 := [(2, t), (0, x1), (0, w0), (0, 1), (3, 0), (3, 0)]) d_X12_polynomial_19 (by decide) rfl rfl ?_
  exact h
theorem v_X12_polynomial_20 {l : Launch} {d N : Nat} {Λ : Lay} {P : Mem → Prop} {σ : Mem} {x1 x2 x3 t t_tape : Int} (o_t : Ob N Λ t 21 36) (f_t_tape : (Λ t).2.2 18 = t_tape) (h0d : 1 ≤ d)
    (h : ((x2 = 0 → WV l mX12_polynomial d P 146 [(2, t), (0, x1), (0, x2), (0, x3), (3, 0), (3, 0)] [] N Λ σ) ∧ (¬ (x2 = 0) → ((¬ (σ t 22) = 0 → WV l mX12_polynomial d P 146 [(2, t), (0, x1), (0, x2), (0, x3), (3, 0), (3, 0)] [] N Λ σ) ∧ ((σ t 22) = 0 → (((σ t 20) ≤ (σ t 21) → (((σ t 20) ≤ (σ t 21) → WV l mX12_polynomial d P 54 [(2, t), (0, x1), (0, x2), (0, x3), (3, 0), (3, 0)] [(0, 0)] N Λ σ) ∧ (¬ ((σ t 20) ≤ (σ t 21)) → (Ix N Λ t_tape 6 (σ t 21) ∧ ((¬ (andI (σ t_tape (σ t 21)) 255) = 45 → WV l mX12_polynomial d P 54 [(2, t), (0, x1), (0, x2), (0, x3), (3, 0), (3, 0)] [(0, 0)] N Λ σ) ∧ ((andI (σ t_tape (σ t 21)) 255) = 45 → WV l mX12_polynomial d P 49 [(2, t), (0, x1), (0, x2), (0, x3), (3, 0), (3, 0)] [] N Λ σ)))))) ∧ (¬ ((σ t 20) ≤ (σ t 21)) → (Ix N Λ t_tape 6 (σ t 21) ∧ (((andI (σ t_tape (σ t 21)) 255) = 43 → WV l mX12_polynomial d P 49 [(2, t), (0, x1), (0, x2), (0, x3), (3, 0), (3, 0)] [] N Λ σ) ∧ (¬ ((andI (σ t_tape (σ t 21)) 255) = 43) → (((σ t 20) ≤ (σ t 21) → WV l mX12_polynomial d P 54 [(2, t), (0, x1), (0, x2), (0, x3), (3, 0), (3, 0)] [(0, 0)] N Λ σ) ∧ (¬ ((σ t 20) ≤ (σ t 21)) → (Ix N Λ t_tape 6 (σ t 21) ∧ ((¬ (andI (σ t_tape (σ t 21)) 255) = 45 → WV l mX12_polynomial d P 54 [(2, t), (0, x1), (0, x2), (0, x3), (3, 0), (3, 0)] [(0, 0)] N Λ σ) ∧ ((andI (σ t_tape (σ t 21)) 255) = 45 → WV l mX12_polynomial d P 49 [(2, t), (0, x1), (0, x2), (0, x3), (3, 0), (3, 0)] [] N Λ σ))))))))))))))) :
    WV l mX12_polynomial d P 20 [(2, t), (0, x1), (0, x2), (0, x3), (3, 0), (3, 0)] [] N Λ σ := by
  have hd_1 : 1 ≤ d := Nat.le_trans (by decide) h0d
  refine r_iload_n (x := x2) d_X12_polynomial_20 rfl ?_
  refine r_if_eq (tgt := 146) d_X12_polynomial_21 rfl (fun hc => ?_) (fun hc => ?_)
  · have h := h.1 hc
    exact h
  · have h := h.2 hc
    refine r_aload_n (x := t) d_X12_polynomial_24 rfl o_t.1 ?_
    refine r_getf (j := 22) (t := 0) (x := (σ t 22)) d_X12_polynomial_25 kX12 (by decide) fl_X12_261 o_t.1 o_t.2.1 o_t.2.2.1 o_t.2.2.2 rfl rfl ?_
    refine r_if_ne (tgt := 146) d_X12_polynomial_28 rfl (fun hc => ?_) (fun hc => ?_)
    · have h := h.1 hc
      exact h
    · have h := h.2 hc
      refine r_aload_n (x := t) d_X12_polynomial_31 rfl o_t.1 ?_
      refine x_callVI (Y2 := mX12_see) (c := t) (As := []) (S := []) d_X12_polynomial_32 ok_mX12_see ml_X12_264 rfl (Nat.le_of_ble_eq_true rfl) (Nat.le_of_ble_eq_true rfl) rfl hd_1 kX12 o_t (c_X12_see (v_X12_see_0 o_t f_t_tape ?_))
      refine ⟨fun hc => ?_, fun hc => ?_⟩
      · have h := h.1 hc
        show WP l mX12_polynomial (rm d 0 0) noX _ 0 0 35 [(2, t), (0, x1), (0, x2), (0, x3), (3, 0), (3, 0)] [(0, (-1))] N Λ σ
        refine r_bipush (x := 43) d_X12_polynomial_35 ⟨by decide, by decide⟩ (by decide) ?_
        refine r_ic_eq (tgt := 49) d_X12_polynomial_37 rfl (fun hc => absurd hc (by decide)) (fun _ => ?_)
        refine r_aload_n (x := t) d_X12_polynomial_40 rfl o_t.1 ?_
        refine x_callVI (Y2 := mX12_see) (c := t) (As := []) (S := []) d_X12_polynomial_41 ok_mX12_see ml_X12_264 rfl (Nat.le_of_ble_eq_true rfl) (Nat.le_of_ble_eq_true rfl) rfl hd_1 kX12 o_t (c_X12_see (v_X12_see_0 o_t f_t_tape ?_))
        refine ⟨fun hc => ?_, fun hc => ?_⟩
        · have h := h.1 hc
          show WP l mX12_polynomial (rm d 0 0) noX _ 0 0 44 [(2, t), (0, x1), (0, x2), (0, x3), (3, 0), (3, 0)] [(0, (-1))] N Λ σ
          refine r_bipush (x := 45) d_X12_polynomial_44 ⟨by decide, by decide⟩ (by decide) ?_
          refine r_ic_ne (tgt := 53) d_X12_polynomial_46 rfl (fun _ => ?_) (fun hc => absurd hc (by decide))
          refine r_iconst (x := 0) d_X12_polynomial_53 ⟨by decide, by decide⟩ ?_
          exact h
        · have h := h.2 hc
          refine ⟨h.1, ?_⟩
          have h := h.2
          show WP l mX12_polynomial (rm d 0 0) noX _ 0 0 44 [(2, t), (0, x1), (0, x2), (0, x3), (3, 0), (3, 0)] [(0, (andI (σ t_tape (σ t 21)) 255))] N Λ σ
          refine r_bipush (x := 45) d_X12_polynomial_44 ⟨by decide, by decide⟩ (by decide) ?_
          refine r_ic_ne (tgt := 53) d_X12_polynomial_46 rfl (fun hc => ?_) (fun hc => ?_)
          · have h := h.1 hc
            refine r_iconst (x := 0) d_X12_polynomial_53 ⟨by decide, by decide⟩ ?_
            exact h
          · have h := h.2 hc
            exact h
      · have h := h.2 hc
        refine ⟨h.1, ?_⟩
        have h := h.2
        show WP l mX12_polynomial (rm d 0 0) noX _ 0 0 35 [(2, t), (0, x1), (0, x2), (0, x3), (3, 0), (3, 0)] [(0, (andI (σ t_tape (σ t 21)) 255))] N Λ σ
        refine r_bipush (x := 43) d_X12_polynomial_35 ⟨by decide, by decide⟩ (by decide) ?_
        refine r_ic_eq (tgt := 49) d_X12_polynomial_37 rfl (fun hc => ?_) (fun hc => ?_)
        · have h := h.1 hc
          exact h
        · have h := h.2 hc
          refine r_aload_n (x := t) d_X12_polynomial_40 rfl o_t.1 ?_
          refine x_callVI (Y2 := mX12_see) (c := t) (As := []) (S := []) d_X12_polynomial_41 ok_mX12_see ml_X12_264 rfl (Nat.le_of_ble_eq_true rfl) (Nat.le_of_ble_eq_true rfl) rfl hd_1 kX12 o_t (c_X12_see (v_X12_see_0 o_t f_t_tape ?_))
          refine ⟨fun hc => ?_, fun hc => ?_⟩
          · have h := h.1 hc
            show WP l mX12_polynomial (rm d 0 0) noX _ 0 0 44 [(2, t), (0, x1), (0, x2), (0, x3), (3, 0), (3, 0)] [(0, (-1))] N Λ σ
            refine r_bipush (x := 45) d_X12_polynomial_44 ⟨by decide, by decide⟩ (by decide) ?_
            refine r_ic_ne (tgt := 53) d_X12_polynomial_46 rfl (fun _ => ?_) (fun hc => absurd hc (by decide))
            refine r_iconst (x := 0) d_X12_polynomial_53 ⟨by decide, by decide⟩ ?_
            exact h
          · have h := h.2 hc
            refine ⟨h.1, ?_⟩
            have h := h.2
            show WP l mX12_polynomial (rm d 0 0) noX _ 0 0 44 [(2, t), (0, x1), (0, x2), (0, x3), (3, 0), (3, 0)] [(0, (andI (σ t_tape (σ t 21)) 255))] N Λ σ
            refine r_bipush (x := 45) d_X12_polynomial_44 ⟨by decide, by decide⟩ (by decide) ?_
            refine r_ic_ne (tgt := 53) d_X12_polynomial_46 rfl (fun hc => ?_) (fun hc => ?_)
            · have h := h.1 hc
              refine r_iconst (x := 0) d_X12_polynomial_53 ⟨by decide, by decide⟩ ?_
              exact h
            · have h := h.2 hc
              exact h
theorem v_X12_polynomial_49 {l : Launch} {d N : Nat} {Λ : Lay} {P : Mem → Prop} {σ : Mem} {x1 x2 x3 t : Int}
    (h : WV l mX12_polynomial d P 54 [(2, t), (0, x1), (0, x2), (0, x3), (3, 0), (3, 0)] [(0, 1)] N Λ σ) :
    WV l mX12_polynomial d P 49 [(2, t), (0, x1), (0, x2), (0, x3), (3, 0), (3, 0)] [] N Λ σ := by
  refine r_iconst (x := 1) d_X12_polynomial_49 ⟨by decide, by decide⟩ ?_
  refine r_goto (tgt := 54) d_X12_polynomial_50 rfl ?_
  exact h
theorem v_X12_polynomial_54 {l : Launch} {d N : Nat} {Λ : Lay} {P : Mem → Prop} {σ : Mem} {x1 x2 x3 w0 t t_tape : Int} (o_t : Ob N Λ t 21 36) (f_t_tape : (Λ t).2.2 18 = t_tape) (h0d : 1 ≤ d)
    (h : (((σ t 20) ≤ (σ t 21) → WV l mX12_polynomial d P 70 [(2, t), (0, x1), (0, x2), (0, x3), (0, w0), (3, 0)] [(0, 1)] N Λ σ) ∧ (¬ ((σ t 20) ≤ (σ t 21)) → (Ix N Λ t_tape 6 (σ t 21) ∧ ((¬ (andI (σ t_tape (σ t 21)) 255) = 45 → WV l mX12_polynomial d P 70 [(2, t), (0, x1), (0, x2), (0, x3), (0, w0), (3, 0)] [(0, 1)] N Λ σ) ∧ ((andI (σ t_tape (σ t 21)) 255) = 45 → WV l mX12_polynomial d P 70 [(2, t), (0, x1), (0, x2), (0, x3), (0, w0), (3, 0)] [(0, (-1))] N Λ σ)))))) :
    WV l mX12_polynomial d P 54 [(2, t), (0, x1), (0, x2), (0, x3), (3, 0), (3, 0)] [(0, w0)] N Λ σ := by
  have hd_1 : 1 ≤ d := Nat.le_trans (by decide) h0d
  refine r_istore (L2 := [(2, t), (0, x1), (0, x2), (0, x3), (0, w0), (3, 0)]) d_X12_polynomial_54 (by decide) rfl rfl ?_
  refine r_aload_n (x := t) d_X12_polynomial_56 rfl o_t.1 ?_
  refine x_callVI (Y2 := mX12_see) (c := t) (As := []) (S := []) d_X12_polynomial_57 ok_mX12_see ml_X12_264 rfl (Nat.le_of_ble_eq_true rfl) (Nat.le_of_ble_eq_true rfl) rfl hd_1 kX12 o_t (c_X12_see (v_X12_see_0 o_t f_t_tape ?_))
  refine ⟨fun hc => ?_, fun hc => ?_⟩
  · have h := h.1 hc
    show WP l mX12_polynomial (rm d 0 0) noX _ 0 0 60 [(2, t), (0, x1), (0, x2), (0, x3), (0, w0), (3, 0)] [(0, (-1))] N Λ σ
    refine r_bipush (x := 45) d_X12_polynomial_60 ⟨by decide, by decide⟩ (by decide) ?_
    refine r_ic_ne (tgt := 69) d_X12_polynomial_62 rfl (fun _ => ?_) (fun hc => absurd hc (by decide))
    refine r_iconst (x := 1) d_X12_polynomial_69 ⟨by decide, by decide⟩ ?_
    exact h
  · have h := h.2 hc
    refine ⟨h.1, ?_⟩
    have h := h.2
    show WP l mX12_polynomial (rm d 0 0) noX _ 0 0 60 [(2, t), (0, x1), (0, x2), (0, x3), (0, w0), (3, 0)] [(0, (andI (σ t_tape (σ t 21)) 255))] N Λ σ
    refine r_bipush (x := 45) d_X12_polynomial_60 ⟨by decide, by decide⟩ (by decide) ?_
    refine r_ic_ne (tgt := 69) d_X12_polynomial_62 rfl (fun hc => ?_) (fun hc => ?_)
    · have h := h.1 hc
      refine r_iconst (x := 1) d_X12_polynomial_69 ⟨by decide, by decide⟩ ?_
      exact h
    · have h := h.2 hc
      refine r_iconst (x := (-1)) d_X12_polynomial_65 ⟨by decide, by decide⟩ ?_
      refine r_goto (tgt := 70) d_X12_polynomial_66 rfl ?_
      exact h
theorem v_X12_polynomial_70 {l : Launch} {d N : Nat} {Λ : Lay} {P : Mem → Prop} {σ : Mem} {x1 x2 x3 x4 w0 t : Int} (o_t : Ob N Λ t 21 36) (h0d : 1 ≤ d)
    (h : ((x4 = 0 → ((¬ x3 = 0 → WV l mX12_polynomial d P 103 [(2, t), (0, x1), (0, x2), (0, x3), (0, x4), (0, w0)] [] N Λ σ) ∧ (x3 = 0 → (((σ t 22) = 0 → (∀ τ1, τ1 = st σ t 22 1 → (∀ τ2, τ2 = st τ1 t 23 (σ t 21) → WV l mX12_polynomial d P 103 [(2, t), (0, x1), (0, x2), (0, x3), (0, x4), (0, w0)] [] N Λ τ2))) ∧ (¬ ((σ t 22) = 0) → WV l mX12_polynomial d P 103 [(2, t), (0, x1), (0, x2), (0, x3), (0, x4), (0, w0)] [] N Λ σ))))) ∧ (¬ (x4 = 0) → (∀ τ3, τ3 = st σ t 21 (addI (σ t 21) 1) → WV l mX12_polynomial d P 103 [(2, t), (0, x1), (0, x2), (0, x3), (0, x4), (0, w0)] [] N Λ τ3)))) :
    WV l mX12_polynomial d P 70 [(2, t), (0, x1), (0, x2), (0, x3), (0, x4), (3, 0)] [(0, w0)] N Λ σ := by
  have hd_1 : 1 ≤ d := Nat.le_trans (by decide) h0d
  refine r_istore (L2 := [(2, t), (0, x1), (0, x2), (0, x3), (0, x4), (0, w0)]) d_X12_polynomial_70 (by decide) rfl rfl ?_
  refine r_iload (x := x4) d_X12_polynomial_72 rfl ?_
  refine r_if_eq (tgt := 90) d_X12_polynomial_74 rfl (fun hc => ?_) (fun hc => ?_)
  · have h := h.1 hc
    refine r_iload_n (x := x3) d_X12_polynomial_90 rfl ?_
    refine r_if_ne (tgt := 103) d_X12_polynomial_91 rfl (fun hc => ?_) (fun hc => ?_)
    · have h := h.1 hc
      exact h
    · have h := h.2 hc
      refine r_aload_n (x := t) d_X12_polynomial_94 rfl o_t.1 ?_
      refine r_iconst (x := 1) d_X12_polynomial_95 ⟨by decide, by decide⟩ ?_
      refine r_aload_n (x := t) d_X12_polynomial_96 rfl o_t.1 ?_
      refine r_getf (j := 21) (t := 0) (x := (σ t 21)) d_X12_polynomial_97 kX12 (by decide) fl_X12_255 o_t.1 o_t.2.1 o_t.2.2.1 o_t.2.2.2 rfl rfl ?_
      refine x_callVV (Y2 := mX12_wrongs) (c := t) (As := [(0, 1), (0, (σ t 21))]) (S := []) d_X12_polynomial_100 ok_mX12_wrongs ml_X12_276 rfl (Nat.le_of_ble_eq_true rfl) (Nat.le_of_ble_eq_true rfl) rfl hd_1 kX12 o_t (c_X12_wrongs (v_X12_wrongs_0 o_t ?_))
      refine ⟨fun hc => ?_, fun hc => ?_⟩
      · have h := h.1 hc
        intro τ1 eτ1
        have h := h τ1 eτ1
        intro τ2 eτ2
        have h := h τ2 eτ2
        show WP l mX12_polynomial (rm d 0 0) noX _ 0 0 103 [(2, t), (0, x1), (0, x2), (0, x3), (0, x4), (0, w0)] [] N Λ τ2
        exact h
      · have h := h.2 hc
        show WP l mX12_polynomial (rm d 0 0) noX _ 0 0 103 [(2, t), (0, x1), (0, x2), (0, x3), (0, x4), (0, w0)] [] N Λ σ
        exact h
  · have h := h.2 hc
    refine r_aload_n (x := t) d_X12_polynomial_77 rfl o_t.1 ?_
    refine r_dup d_X12_polynomial_78 rfl ?_
    refine r_getf (j := 21) (t := 0) (x := (σ t 21)) d_X12_polynomial_79 kX12 (by decide) fl_X12_255 o_t.1 o_t.2.1 o_t.2.2.1 o_t.2.2.2 rfl rfl ?_
    refine r_iconst (x := 1) d_X12_polynomial_82 ⟨by decide, by decide⟩ ?_
    refine r_iadd d_X12_polynomial_83 ?_
    refine r_putI (j := 21) d_X12_polynomial_84 kX12 (by decide) fl_X12_255 rfl o_t.1 o_t.2.1 o_t.2.2.1 o_t.2.2.2 rfl ?_
    refine r_nmM (fun τ3 eτ3 => ?_)
    have h := h τ3 eτ3
    refine r_goto (tgt := 103) d_X12_polynomial_87 rfl ?_
    exact h
theorem v_X12_polynomial_103 {l : Launch} {d N : Nat} {Λ : Lay} {P : Mem → Prop} {σ : Mem} {x1 x2 x3 x4 x5 t : Int} (o_t : Ob N Λ t 21 36) (h0d : 1 ≤ d)
    (h : ((¬ (σ t 22) = 0 → WV l mX12_polynomial d P 119 [(2, t), (0, x1), (0, x2), (0, 0), (0, x4), (0, x5)] [] N Λ σ) ∧ ((σ t 22) = 0 → (CV l mX12_term (d - 1) [(2, t), (0, x5), (0, x1)] N Λ σ (fun σ1 => WV l mX12_polynomial d P 119 [(2, t), (0, x1), (0, x2), (0, 0), (0, x4), (0, x5)] [] N Λ σ1))))) :
    WV l mX12_polynomial d P 103 [(2, t), (0, x1), (0, x2), (0, x3), (0, x4), (0, x5)] [] N Λ σ := by
  have hd_1 : 1 ≤ d := Nat.le_trans (by decide) h0d
  refine r_iconst (x := 0) d_X12_polynomial_103 ⟨by decide, by decide⟩ ?_
  refine r_istore_n (L2 := [(2, t), (0, x1), (0, x2), (0, 0), (0, x4), (0, x5)]) d_X12_polynomial_104 (by decide) rfl rfl ?_
  refine r_aload_n (x := t) d_X12_polynomial_105 rfl o_t.1 ?_
  refine r_getf (j := 22) (t := 0) (x := (σ t 22)) d_X12_polynomial_106 kX12 (by decide) fl_X12_261 o_t.1 o_t.2.1 o_t.2.2.1 o_t.2.2.2 rfl rfl ?_
  refine r_if_ne (tgt := 119) d_X12_polynomial_109 rfl (fun hc => ?_) (fun hc => ?_)
  · have h := h.1 hc
    exact h
  · have h := h.2 hc
    refine r_aload_n (x := t) d_X12_polynomial_112 rfl o_t.1 ?_
    refine r_iload (x := x5) d_X12_polynomial_113 rfl ?_
    refine r_iload_n (x := x1) d_X12_polynomial_115 rfl ?_
    refine x_callVV (Y2 := mX12_term) (c := t) (As := [(0, x5), (0, x1)]) (S := []) d_X12_polynomial_116 ok_mX12_term ml_X12_293 rfl (Nat.le_of_ble_eq_true rfl) (Nat.le_of_ble_eq_true rfl) rfl hd_1 kX12 o_t (CV.mono h (fun σ1 h => ?_))
    exact h
theorem v_X12_polynomial_119 {l : Launch} {d N : Nat} {Λ : Lay} {P : Mem → Prop} {σ : Mem} {x1 x2 x3 x4 x5 t : Int} (o_t : Ob N Λ t 21 36)
    (h : ((¬ (σ t 22) = 0 → WV l mX12_polynomial d P 141 [(2, t), (0, x1), (0, x2), (0, x3), (0, x4), (0, x5)] [] N Λ σ) ∧ ((σ t 22) = 0 → (((σ t 20) ≤ (σ t 21) → WV l mX12_polynomial d P 141 [(2, t), (0, x1), (0, x2), (0, x3), (0, x4), (0, x5)] [] N Λ σ) ∧ (¬ ((σ t 20) ≤ (σ t 21)) → WV l mX12_polynomial d P 142 [(2, t), (0, x1), (0, x2), (0, x3), (0, x4), (0, x5)] [(0, 1)] N Λ σ))))) :
    WV l mX12_polynomial d P 119 [(2, t), (0, x1), (0, x2), (0, x3), (0, x4), (0, x5)] [] N Λ σ := by
  refine r_aload_n (x := t) d_X12_polynomial_119 rfl o_t.1 ?_
  refine r_getf (j := 22) (t := 0) (x := (σ t 22)) d_X12_polynomial_120 kX12 (by decide) fl_X12_261 o_t.1 o_t.2.1 o_t.2.2.1 o_t.2.2.2 rfl rfl ?_
  refine r_if_ne (tgt := 141) d_X12_polynomial_123 rfl (fun hc => ?_) (fun hc => ?_)
  · have h := h.1 hc
    exact h
  · have h := h.2 hc
    refine r_aload_n (x := t) d_X12_polynomial_126 rfl o_t.1 ?_
    refine r_getf (j := 21) (t := 0) (x := (σ t 21)) d_X12_polynomial_127 kX12 (by decide) fl_X12_255 o_t.1 o_t.2.1 o_t.2.2.1 o_t.2.2.2 rfl rfl ?_
    refine r_aload_n (x := t) d_X12_polynomial_130 rfl o_t.1 ?_
    refine r_getf (j := 20) (t := 0) (x := (σ t 20)) d_X12_polynomial_131 kX12 (by decide) fl_X12_258 o_t.1 o_t.2.1 o_t.2.2.1 o_t.2.2.2 rfl rfl ?_
    refine r_ic_ge (tgt := 141) d_X12_polynomial_134 rfl (fun hc => ?_) (fun hc => ?_)
    · have h := h.1 hc
      exact h
    · have h := h.2 hc
      refine r_iconst (x := 1) d_X12_polynomial_137 ⟨by decide, by decide⟩ ?_
      refine r_goto (tgt := 142) d_X12_polynomial_138 rfl ?_
      exact h
theorem v_X12_polynomial_141 {l : Launch} {d N : Nat} {Λ : Lay} {P : Mem → Prop} {σ : Mem} {x1 x2 x3 x4 x5 t : Int}
    (h : WV l mX12_polynomial d P 142 [(2, t), (0, x1), (0, x2), (0, x3), (0, x4), (0, x5)] [(0, 0)] N Λ σ) :
    WV l mX12_polynomial d P 141 [(2, t), (0, x1), (0, x2), (0, x3), (0, x4), (0, x5)] [] N Λ σ := by
  refine r_iconst (x := 0) d_X12_polynomial_141 ⟨by decide, by decide⟩ ?_
  exact h
theorem v_X12_polynomial_142 {l : Launch} {d N : Nat} {Λ : Lay} {P : Mem → Prop} {σ : Mem} {x1 x2 x3 x4 x5 w0 t : Int}
    (h : WV l mX12_polynomial d P 20 [(2, t), (0, x1), (0, w0), (0, x3), (3, 0), (3, 0)] [] N Λ σ) :
    WV l mX12_polynomial d P 142 [(2, t), (0, x1), (0, x2), (0, x3), (0, x4), (0, x5)] [(0, w0)] N Λ σ := by
  refine r_istore_n (L2 := [(2, t), (0, x1), (0, w0), (0, x3), (0, x4), (0, x5)]) d_X12_polynomial_142 (by decide) rfl rfl ?_
  refine r_goto (tgt := 20) d_X12_polynomial_143 rfl ?_
  exact x_mask h ⟨Or.inr rfl, Or.inr rfl, Or.inr rfl, Or.inr rfl, Or.inl rfl, Or.inl rfl, trivial⟩
theorem v_X12_polynomial_146 {l : Launch} {d N : Nat} {Λ : Lay} {P : Mem → Prop} {σ : Mem} {x1 x2 x3 t : Int}
    (h : P σ) :
    WV l mX12_polynomial d P 146 [(2, t), (0, x1), (0, x2), (0, x3), (3, 0), (3, 0)] [] N Λ σ := by
  exact r_vret d_X12_polynomial_146 rfl (Nat.le_refl 0) (Nat.le_refl 0) ⟨rfl, rfl, rfl, h⟩
theorem v_X12_opensText_0 {l : Launch} {d N : Nat} {Λ : Lay} {P : Int → Mem → Prop} {σ : Mem} {x1 x2 t : Int} (o_t : Ob N Λ t 21 36) (h0d : 2 ≤ d)
    (h : (((cmpL x1 0) < 0 → (∀ τ1, τ1 = st σ t 16 0 → P (-2) τ1)) ∧ (¬ ((cmpL x1 0) < 0) → ((0 < (cmpL x1 5) → (∀ τ2, τ2 = st σ t 16 0 → P (-2) τ2)) ∧ (¬ (0 < (cmpL x1 5)) → (((cmpL x2 0) < 0 → (∀ τ3, τ3 = st σ t 16 0 → P (-3) τ3)) ∧ (¬ ((cmpL x2 0) < 0) → ((0 < (cmpL x2 (σ t 19)) → (∀ τ4, τ4 = st σ t 16 0 → P (-3) τ4)) ∧ (¬ (0 < (cmpL x2 (σ t 19))) → (∀ τ5, τ5 = st σ t 19 0 → (∀ τ6, τ6 = st τ5 t 20 x2 → (∀ τ7, τ7 = st τ6 t 21 0 → (∀ τ8, τ8 = st τ7 t 22 0 → (∀ τ9, τ9 = st τ8 t 23 (-1) → P 0 τ9)))))))))))))) :
    WI l mX12_opensText d P 0 [(2, t), (0, x1), (0, x2)] [] N Λ σ := by
  have hd_1 : 1 ≤ d := Nat.le_trans (by decide) h0d
  have he_1 : 1 ≤ d - 1 := Nat.le_sub_of_add_le (Nat.le_trans (by decide) h0d)
  refine r_iload_n (x := x1) d_X12_opensText_0 rfl ?_
  refine x_callSI (Y2 := mX12_isShelf) (As := [(0, x1)]) (S := []) d_X12_opensText_1 ok_mX12_isShelf ml_X12_199 rfl (Nat.le_of_ble_eq_true rfl) (Nat.le_of_ble_eq_true rfl) rfl hd_1 (c_X12_isShelf (v_X12_isShelf_0 he_1 ?_))
  refine ⟨fun hc => ?_, fun hc => ?_⟩
  · have h := h.1 hc
    show WP l mX12_opensText (rm d 0 0) noX _ 0 0 4 [(2, t), (0, x1), (0, x2)] [(0, 0)] N Λ σ
    refine r_if_ne (tgt := 14) d_X12_opensText_4 rfl (fun hc => absurd hc (by decide)) (fun _ => ?_)
    refine r_aload_n (x := t) d_X12_opensText_7 rfl o_t.1 ?_
    refine r_bipush (x := (-2)) d_X12_opensText_8 ⟨by decide, by decide⟩ (by decide) ?_
    refine x_callVI (Y2 := mX12_refused) (c := t) (As := [(0, (-2))]) (S := []) d_X12_opensText_10 ok_mX12_refused ml_X12_218 rfl (Nat.le_of_ble_eq_true rfl) (Nat.le_of_ble_eq_true rfl) rfl hd_1 kX12 o_t (c_X12_refused (v_X12_refused_0 o_t ?_))
    intro τ1 eτ1
    have h := h τ1 eτ1
    show WP l mX12_opensText (rm d 0 0) noX _ 0 0 13 [(2, t), (0, x1), (0, x2)] [(0, (-2))] N Λ τ1
    exact r_iret d_X12_opensText_13 rfl rfl (Nat.le_refl 0) (Nat.le_refl 0) ⟨_, rfl, rfl, rfl, h⟩
  · have h := h.2 hc
    refine ⟨fun hc => ?_, fun hc => ?_⟩
    · have h := h.1 hc
      show WP l mX12_opensText (rm d 0 0) noX _ 0 0 4 [(2, t), (0, x1), (0, x2)] [(0, 0)] N Λ σ
      refine r_if_ne (tgt := 14) d_X12_opensText_4 rfl (fun hc => absurd hc (by decide)) (fun _ => ?_)
      refine r_aload_n (x := t) d_X12_opensText_7 rfl o_t.1 ?_
      refine r_bipush (x := (-2)) d_X12_opensText_8 ⟨by decide, by decide⟩ (by decide) ?_
      refine x_callVI (Y2 := mX12_refused) (c := t) (As := [(0, (-2))]) (S := []) d_X12_opensText_10 ok_mX12_refused ml_X12_218 rfl (Nat.le_of_ble_eq_true rfl) (Nat.le_of_ble_eq_true rfl) rfl hd_1 kX12 o_t (c_X12_refused (v_X12_refused_0 o_t ?_))
      intro τ2 eτ2
      have h := h τ2 eτ2
      show WP l mX12_opensText (rm d 0 0) noX _ 0 0 13 [(2, t), (0, x1), (0, x2)] [(0, (-2))] N Λ τ2
      exact r_iret d_X12_opensText_13 rfl rfl (Nat.le_refl 0) (Nat.le_refl 0) ⟨_, rfl, rfl, rfl, h⟩
    · have h := h.2 hc
      show WP l mX12_opensText (rm d 0 0) noX _ 0 0 4 [(2, t), (0, x1), (0, x2)] [(0, 1)] N Λ σ
      refine r_if_ne (tgt := 14) d_X12_opensText_4 rfl (fun _ => ?_) (fun hc => absurd hc (by decide))
      refine r_iload_n (x := x2) d_X12_opensText_14 rfl ?_
      refine r_i2l d_X12_opensText_15 ?_
      refine r_lconst d_X12_opensText_16 ?_
      skip
      refine r_aload_n (x := t) d_X12_opensText_17 rfl o_t.1 ?_
      refine r_getf (j := 19) (t := 0) (x := (σ t 19)) d_X12_opensText_18 kX12 (by decide) fl_X12_252 o_t.1 o_t.2.1 o_t.2.2.1 o_t.2.2.2 rfl rfl ?_
      refine r_i2l d_X12_opensText_21 ?_
      refine x_callSI (Y2 := mX12_within) (As := [(1, x2), (1, 0), (1, (σ t 19))]) (S := []) d_X12_opensText_22 ok_mX12_within ml_X12_91 rfl (Nat.le_of_ble_eq_true rfl) (Nat.le_of_ble_eq_true rfl) rfl hd_1 (c_X12_within (v_X12_within_0 ?_))
      refine ⟨fun hc => ?_, fun hc => ?_⟩
      · have h := h.1 hc
        show WP l mX12_opensText (rm d 0 0) noX _ 0 0 25 [(2, t), (0, x1), (0, x2)] [(0, 0)] N Λ σ
        refine r_if_ne (tgt := 35) d_X12_opensText_25 rfl (fun hc => absurd hc (by decide)) (fun _ => ?_)
        refine r_aload_n (x := t) d_X12_opensText_28 rfl o_t.1 ?_
        refine r_bipush (x := (-3)) d_X12_opensText_29 ⟨by decide, by decide⟩ (by decide) ?_
        refine x_callVI (Y2 := mX12_refused) (c := t) (As := [(0, (-3))]) (S := []) d_X12_opensText_31 ok_mX12_refused ml_X12_218 rfl (Nat.le_of_ble_eq_true rfl) (Nat.le_of_ble_eq_true rfl) rfl hd_1 kX12 o_t (c_X12_refused (v_X12_refused_0 o_t ?_))
        intro τ3 eτ3
        have h := h τ3 eτ3
        show WP l mX12_opensText (rm d 0 0) noX _ 0 0 34 [(2, t), (0, x1), (0, x2)] [(0, (-3))] N Λ τ3
        exact r_iret d_X12_opensText_34 rfl rfl (Nat.le_refl 0) (Nat.le_refl 0) ⟨_, rfl, rfl, rfl, h⟩
      · have h := h.2 hc
        refine ⟨fun hc => ?_, fun hc => ?_⟩
        · have h := h.1 hc
          show WP l mX12_opensText (rm d 0 0) noX _ 0 0 25 [(2, t), (0, x1), (0, x2)] [(0, 0)] N Λ σ
          refine r_if_ne (tgt := 35) d_X12_opensText_25 rfl (fun hc => absurd hc (by decide)) (fun _ => ?_)
          refine r_aload_n (x := t) d_X12_opensText_28 rfl o_t.1 ?_
          refine r_bipush (x := (-3)) d_X12_opensText_29 ⟨by decide, by decide⟩ (by decide) ?_
          refine x_callVI (Y2 := mX12_refused) (c := t) (As := [(0, (-3))]) (S := []) d_X12_opensText_31 ok_mX12_refused ml_X12_218 rfl (Nat.le_of_ble_eq_true rfl) (Nat.le_of_ble_eq_true rfl) rfl hd_1 kX12 o_t (c_X12_refused (v_X12_refused_0 o_t ?_))
          intro τ4 eτ4
          have h := h τ4 eτ4
          show WP l mX12_opensText (rm d 0 0) noX _ 0 0 34 [(2, t), (0, x1), (0, x2)] [(0, (-3))] N Λ τ4
          exact r_iret d_X12_opensText_34 rfl rfl (Nat.le_refl 0) (Nat.le_refl 0) ⟨_, rfl, rfl, rfl, h⟩
        · have h := h.2 hc
          show WP l mX12_opensText (rm d 0 0) noX _ 0 0 25 [(2, t), (0, x1), (0, x2)] [(0, 1)] N Λ σ
          refine r_if_ne (tgt := 35) d_X12_opensText_25 rfl (fun _ => ?_) (fun hc => absurd hc (by decide))
          refine r_aload_n (x := t) d_X12_opensText_35 rfl o_t.1 ?_
          refine r_iconst (x := 0) d_X12_opensText_36 ⟨by decide, by decide⟩ ?_
          refine r_putI (j := 19) d_X12_opensText_37 kX12 (by decide) fl_X12_252 rfl o_t.1 o_t.2.1 o_t.2.2.1 o_t.2.2.2 rfl ?_
          refine r_nmM (fun τ5 eτ5 => ?_)
          have h := h τ5 eτ5
          refine r_aload_n (x := t) d_X12_opensText_40 rfl o_t.1 ?_
          refine r_iload_n (x := x2) d_X12_opensText_41 rfl ?_
          refine r_putI (j := 20) d_X12_opensText_42 kX12 (by decide) fl_X12_258 rfl o_t.1 o_t.2.1 o_t.2.2.1 o_t.2.2.2 rfl ?_
          refine r_nmM (fun τ6 eτ6 => ?_)
          have h := h τ6 eτ6
          refine r_aload_n (x := t) d_X12_opensText_45 rfl o_t.1 ?_
          refine r_iconst (x := 0) d_X12_opensText_46 ⟨by decide, by decide⟩ ?_
          refine r_putI (j := 21) d_X12_opensText_47 kX12 (by decide) fl_X12_255 rfl o_t.1 o_t.2.1 o_t.2.2.1 o_t.2.2.2 rfl ?_
          refine r_nmM (fun τ7 eτ7 => ?_)
          have h := h τ7 eτ7
          refine r_aload_n (x := t) d_X12_opensText_50 rfl o_t.1 ?_
          refine r_iconst (x := 0) d_X12_opensText_51 ⟨by decide, by decide⟩ ?_
          refine r_putI (j := 22) d_X12_opensText_52 kX12 (by decide) fl_X12_261 rfl o_t.1 o_t.2.1 o_t.2.2.1 o_t.2.2.2 rfl ?_
          refine r_nmM (fun τ8 eτ8 => ?_)
          have h := h τ8 eτ8
          refine r_aload_n (x := t) d_X12_opensText_55 rfl o_t.1 ?_
          refine r_iconst (x := (-1)) d_X12_opensText_56 ⟨by decide, by decide⟩ ?_
          refine r_putI (j := 23) d_X12_opensText_57 kX12 (by decide) fl_X12_61 rfl o_t.1 o_t.2.1 o_t.2.2.1 o_t.2.2.2 rfl ?_
          refine r_nmM (fun τ9 eτ9 => ?_)
          have h := h τ9 eτ9
          refine r_iconst (x := 0) d_X12_opensText_60 ⟨by decide, by decide⟩ ?_
          exact r_iret d_X12_opensText_61 rfl rfl (Nat.le_refl 0) (Nat.le_refl 0) ⟨_, rfl, rfl, rfl, h⟩
theorem v_X12_told_0 {l : Launch} {d N : Nat} {Λ : Lay} {P : Int → Mem → Prop} {σ : Mem} {x1 x2 t t_pool : Int} (o_t : Ob N Λ t 21 36) (f_t_pool : (Λ t).2.2 7 = t_pool) (h0d : 2 ≤ d)
    (h : (∀ τ1, τ1 = st σ t 0 0 → (CI l mX12_opensText (d - 1) [(2, t), (0, x1), (0, x2)] N Λ τ1 (fun v3 σ2 => ((v3 = 0 → (CV l mX12_polynomial (d - 1) [(2, t), (0, 0)] N Λ σ2 (fun σ4 => (((σ4 t 22) = 0 → (∀ τ5, τ5 = st σ4 t 8 0 → (Ix N Λ t_pool 0 (mulI 161 0) ∧ (∀ τ6, τ6 = st τ5 t_pool (mulI 161 0) 0 → (CV l mX12_polynomial (d - 1) [(2, t), (0, 1)] N Λ τ6 (fun σ7 => (CI l mX12_ends (d - 1) [(2, t), (0, x1)] N Λ σ7 (fun v9 σ8 => P v9 σ8)))))))) ∧ (¬ ((σ4 t 22) = 0) → (∀ τ10, τ10 = st σ4 t 16 0 → P (subI (-30) (σ4 t 22)) τ10)))))) ∧ (¬ (v3 = 0) → P v3 σ2)))))) :
    WI l mX12_told d P 0 [(2, t), (0, x1), (0, x2), (3, 0)] [] N Λ σ := by
  have hd_1 : 1 ≤ d := Nat.le_trans (by decide) h0d
  have he_1 : 1 ≤ d - 1 := Nat.le_sub_of_add_le (Nat.le_trans (by decide) h0d)
  refine r_aload_n (x := t) d_X12_told_0 rfl o_t.1 ?_
  refine r_iconst (x := 0) d_X12_told_1 ⟨by decide, by decide⟩ ?_
  refine r_putI (j := 0) d_X12_told_2 kX12 (by decide) fl_X12_1 rfl o_t.1 o_t.2.1 o_t.2.2.1 o_t.2.2.2 rfl ?_
  refine r_nmM (fun τ1 eτ1 => ?_)
  have h := h τ1 eτ1
  refine r_aload_n (x := t) d_X12_told_5 rfl o_t.1 ?_
  refine r_iload_n (x := x1) d_X12_told_6 rfl ?_
  refine r_iload_n (x := x2) d_X12_told_7 rfl ?_
  refine x_callVI (Y2 := mX12_opensText) (c := t) (As := [(0, x1), (0, x2)]) (S := []) d_X12_told_8 ok_mX12_opensText ml_X12_297 rfl (Nat.le_of_ble_eq_true rfl) (Nat.le_of_ble_eq_true rfl) rfl hd_1 kX12 o_t (CI.mono h (fun v3 σ2 h => ?_))
  refine r_istore_n (L2 := [(2, t), (0, x1), (0, x2), (0, v3)]) d_X12_told_11 (by decide) rfl rfl ?_
  refine r_iload_n (x := v3) d_X12_told_12 rfl ?_
  refine r_if_eq (tgt := 18) d_X12_told_13 rfl (fun hc => ?_) (fun hc => ?_)
  · have h := h.1 hc
    refine r_aload_n (x := t) d_X12_told_18 rfl o_t.1 ?_
    refine r_iconst (x := 0) d_X12_told_19 ⟨by decide, by decide⟩ ?_
    refine x_callVV (Y2 := mX12_polynomial) (c := t) (As := [(0, 0)]) (S := []) d_X12_told_20 ok_mX12_polynomial ml_X12_300 rfl (Nat.le_of_ble_eq_true rfl) (Nat.le_of_ble_eq_true rfl) rfl hd_1 kX12 o_t (CV.mono h (fun σ4 h => ?_))
    refine r_aload_n (x := t) d_X12_told_23 rfl o_t.1 ?_
    refine r_getf (j := 22) (t := 0) (x := (σ4 t 22)) d_X12_told_24 kX12 (by decide) fl_X12_261 o_t.1 o_t.2.1 o_t.2.2.1 o_t.2.2.2 rfl rfl ?_
    refine r_if_eq (tgt := 42) d_X12_told_27 rfl (fun hc => ?_) (fun hc => ?_)
    · have h := h.1 hc
      refine r_aload_n (x := t) d_X12_told_42 rfl o_t.1 ?_
      refine x_callVV (Y2 := mX12_begins) (c := t) (As := []) (S := []) d_X12_told_43 ok_mX12_begins ml_X12_202 rfl (Nat.le_of_ble_eq_true rfl) (Nat.le_of_ble_eq_true rfl) rfl hd_1 kX12 o_t (c_X12_begins (v_X12_begins_0 o_t f_t_pool he_1 ?_))
      intro τ5 eτ5
      have h := h τ5 eτ5
      refine ⟨h.1, ?_⟩
      have h := h.2
      intro τ6 eτ6
      have h := h τ6 eτ6
      show WP l mX12_told (rm d 0 0) noX _ 0 0 46 [(2, t), (0, x1), (0, x2), (0, v3)] [] N Λ τ6
      refine r_aload_n (x := t) d_X12_told_46 rfl o_t.1 ?_
      refine r_iconst (x := 1) d_X12_told_47 ⟨by decide, by decide⟩ ?_
      refine x_callVV (Y2 := mX12_polynomial) (c := t) (As := [(0, 1)]) (S := []) d_X12_told_48 ok_mX12_polynomial ml_X12_300 rfl (Nat.le_of_ble_eq_true rfl) (Nat.le_of_ble_eq_true rfl) rfl hd_1 kX12 o_t (CV.mono h (fun σ7 h => ?_))
      refine r_aload_n (x := t) d_X12_told_51 rfl o_t.1 ?_
      refine r_iload_n (x := x1) d_X12_told_52 rfl ?_
      refine x_callVI (Y2 := mX12_ends) (c := t) (As := [(0, x1)]) (S := []) d_X12_told_53 ok_mX12_ends ml_X12_228 rfl (Nat.le_of_ble_eq_true rfl) (Nat.le_of_ble_eq_true rfl) rfl hd_1 kX12 o_t (CI.mono h (fun v9 σ8 h => ?_))
      exact r_iret d_X12_told_56 rfl rfl (Nat.le_refl 0) (Nat.le_refl 0) ⟨_, rfl, rfl, rfl, h⟩
    · have h := h.2 hc
      refine r_aload_n (x := t) d_X12_told_30 rfl o_t.1 ?_
      refine r_bipush (x := (-30)) d_X12_told_31 ⟨by decide, by decide⟩ (by decide) ?_
      refine r_aload_n (x := t) d_X12_told_33 rfl o_t.1 ?_
      refine r_getf (j := 22) (t := 0) (x := (σ4 t 22)) d_X12_told_34 kX12 (by decide) fl_X12_261 o_t.1 o_t.2.1 o_t.2.2.1 o_t.2.2.2 rfl rfl ?_
      refine r_isub d_X12_told_37 ?_
      refine x_callVI (Y2 := mX12_refused) (c := t) (As := [(0, (subI (-30) (σ4 t 22)))]) (S := []) d_X12_told_38 ok_mX12_refused ml_X12_218 rfl (Nat.le_of_ble_eq_true rfl) (Nat.le_of_ble_eq_true rfl) rfl hd_1 kX12 o_t (c_X12_refused (v_X12_refused_0 o_t ?_))
      intro τ10 eτ10
      have h := h τ10 eτ10
      show WP l mX12_told (rm d 0 0) noX _ 0 0 41 [(2, t), (0, x1), (0, x2), (0, v3)] [(0, (subI (-30) (σ4 t 22)))] N Λ τ10
      exact r_iret d_X12_told_41 rfl rfl (Nat.le_refl 0) (Nat.le_refl 0) ⟨_, rfl, rfl, rfl, h⟩
  · have h := h.2 hc
    refine r_iload_n (x := v3) d_X12_told_16 rfl ?_
    exact r_iret d_X12_told_17 rfl rfl (Nat.le_refl 0) (Nat.le_refl 0) ⟨_, rfl, rfl, rfl, h⟩
theorem v_X12_fault_0 {l : Launch} {d N : Nat} {Λ : Lay} {P : Int → Mem → Prop} {σ : Mem} {x1 t : Int} (o_t : Ob N Λ t 21 36)
    (h : (∀ τ1, τ1 = st σ t 0 0 → ((¬ x1 = 0 → ((¬ x1 = 1 → P (-1) τ1) ∧ (x1 = 1 → P (τ1 t 23) τ1))) ∧ (x1 = 0 → P (τ1 t 22) τ1)))) :
    WI l mX12_fault d P 0 [(2, t), (0, x1)] [] N Λ σ := by
  refine r_aload_n (x := t) d_X12_fault_0 rfl o_t.1 ?_
  refine r_iconst (x := 0) d_X12_fault_1 ⟨by decide, by decide⟩ ?_
  refine r_putI (j := 0) d_X12_fault_2 kX12 (by decide) fl_X12_1 rfl o_t.1 o_t.2.1 o_t.2.2.1 o_t.2.2.2 rfl ?_
  refine r_nmM (fun τ1 eτ1 => ?_)
  have h := h τ1 eτ1
  refine r_iload_n (x := x1) d_X12_fault_5 rfl ?_
  refine r_if_ne (tgt := 16) d_X12_fault_6 rfl (fun hc => ?_) (fun hc => ?_)
  · have h := h.1 hc
    refine r_iload_n (x := x1) d_X12_fault_16 rfl ?_
    refine r_iconst (x := 1) d_X12_fault_17 ⟨by decide, by decide⟩ ?_
    refine r_ic_ne (tgt := 28) d_X12_fault_18 rfl (fun hc => ?_) (fun hc => ?_)
    · have h := h.1 hc
      refine r_iconst (x := (-1)) d_X12_fault_28 ⟨by decide, by decide⟩ ?_
      exact r_iret d_X12_fault_29 rfl rfl (Nat.le_refl 0) (Nat.le_refl 0) ⟨_, rfl, rfl, rfl, h⟩
    · have h := h.2 hc
      refine r_aload_n (x := t) d_X12_fault_21 rfl o_t.1 ?_
      refine r_getf (j := 23) (t := 0) (x := (τ1 t 23)) d_X12_fault_22 kX12 (by decide) fl_X12_61 o_t.1 o_t.2.1 o_t.2.2.1 o_t.2.2.2 rfl rfl ?_
      refine r_goto (tgt := 29) d_X12_fault_25 rfl ?_
      exact r_iret d_X12_fault_29 rfl rfl (Nat.le_refl 0) (Nat.le_refl 0) ⟨_, rfl, rfl, rfl, h⟩
  · have h := h.2 hc
    refine r_aload_n (x := t) d_X12_fault_9 rfl o_t.1 ?_
    refine r_getf (j := 22) (t := 0) (x := (τ1 t 22)) d_X12_fault_10 kX12 (by decide) fl_X12_261 o_t.1 o_t.2.1 o_t.2.2.1 o_t.2.2.2 rfl rfl ?_
    refine r_goto (tgt := 29) d_X12_fault_13 rfl ?_
    exact r_iret d_X12_fault_29 rfl rfl (Nat.le_refl 0) (Nat.le_refl 0) ⟨_, rfl, rfl, rfl, h⟩
theorem v_X12_pointText_0 {l : Launch} {d N : Nat} {Λ : Lay} {P : Mem → Prop} {σ : Mem} {x1 t t_tape : Int} (o_t : Ob N Λ t 21 36) (f_t_tape : (Λ t).2.2 18 = t_tape) (h0d : 2 ≤ d)
    (h : (((σ t 22) = 0 → (((σ t 20) ≤ (σ t 21) → (CI l mX12_seesLetter (d - 1) [(2, t)] N Λ σ (fun v2 σ1 => (((σ1 t 22) = 0 → ((v2 = 0 → (((σ1 t 22) = 0 → (∀ τ3, τ3 = st σ1 t 22 1 → (∀ τ4, τ4 = st τ3 t 23 (σ1 t 21) → P τ4))) ∧ (¬ ((σ1 t 22) = 0) → P σ1))) ∧ (¬ (v2 = 0) → (∀ τ5, τ5 = st σ1 t 21 (addI (σ1 t 21) 1) → P τ5)))) ∧ (¬ ((σ1 t 22) = 0) → P σ1))))) ∧ (¬ ((σ t 20) ≤ (σ t 21)) → (Ix N Λ t_tape 6 (σ t 21) ∧ (((andI (σ t_tape (σ t 21)) 255) = 40 → ((¬ x1 = 2 → (∀ τ6, τ6 = st σ t 21 (addI (σ t 21) 1) → (CV l mX12_pointText (d - 1) [(2, t), (0, (addI x1 1))] N Λ τ6 (fun σ7 => (CV l mX12_pointText (d - 1) [(2, t), (0, (addI x1 1))] N Λ σ7 (fun σ8 => (((σ8 t 20) ≤ (σ8 t 21) → (((σ8 t 22) = 0 → (((0 : Int) = 0 → (((σ8 t 22) = 0 → (∀ τ9, τ9 = st σ8 t 22 1 → (∀ τ10, τ10 = st τ9 t 23 (σ8 t 21) → (CV l mX12_pointText (d - 1) [(2, t), (0, (addI x1 1))] N Λ τ10 (fun σ11 => (CV l mX12_pointText (d - 1) [(2, t), (0, (addI x1 1))] N Λ σ11 (fun σ12 => (((σ12 t 20) ≤ (σ12 t 21) → (((σ12 t 22) = 0 → (((0 : Int) = 0 → (((σ12 t 22) = 0 → (∀ τ13, τ13 = st σ12 t 22 1 → (∀ τ14, τ14 = st τ13 t 23 (σ12 t 21) → P τ14))) ∧ (¬ ((σ12 t 22) = 0) → P σ12))) ∧ (¬ ((0 : Int) = 0) → (∀ τ15, τ15 = st σ12 t 21 (addI (σ12 t 21) 1) → P τ15)))) ∧ (¬ ((σ12 t 22) = 0) → P σ12))) ∧ (¬ ((σ12 t 20) ≤ (σ12 t 21)) → (Ix N Λ t_tape 6 (σ12 t 21) ∧ ((¬ (andI (σ12 t_tape (σ12 t 21)) 255) = 41 → (((σ12 t 22) = 0 → (((0 : Int) = 0 → (((σ12 t 22) = 0 → (∀ τ16, τ16 = st σ12 t 22 1 → (∀ τ17, τ17 = st τ16 t 23 (σ12 t 21) → P τ17))) ∧ (¬ ((σ12 t 22) = 0) → P σ12))) ∧ (¬ ((0 : Int) = 0) → (∀ τ18, τ18 = st σ12 t 21 (addI (σ12 t 21) 1) → P τ18)))) ∧ (¬ ((σ12 t 22) = 0) → P σ12))) ∧ ((andI (σ12 t_tape (σ12 t 21)) 255) = 41 → (((σ12 t 22) = 0 → (((1 : Int) = 0 → (((σ12 t 22) = 0 → (∀ τ19, τ19 = st σ12 t 22 1 → (∀ τ20, τ20 = st τ19 t 23 (σ12 t 21) → P τ20))) ∧ (¬ ((σ12 t 22) = 0) → P σ12))) ∧ (¬ ((1 : Int) = 0) → (∀ τ21, τ21 = st σ12 t 21 (addI (σ12 t 21) 1) → P τ21)))) ∧ (¬ ((σ12 t 22) = 0) → P σ12)))))))))))))) ∧ (¬ ((σ8 t 22) = 0) → (CV l mX12_pointText (d - 1) [(2, t), (0, (addI x1 1))] N Λ σ8 (fun σ22 => (CV l mX12_pointText (d - 1) [(2, t), (0, (addI x1 1))] N Λ σ22 (fun σ23 => (((σ23 t 20) ≤ (σ23 t 21) → (((σ23 t 22) = 0 → (((0 : Int) = 0 → (((σ23 t 22) = 0 → (∀ τ24, τ24 = st σ23 t 22 1 → (∀ τ25, τ25 = st τ24 t 23 (σ23 t 21) → P τ25))) ∧ (¬ ((σ23 t 22) = 0) → P σ23))) ∧ (¬ ((0 : Int) = 0) → (∀ τ26, τ26 = st σ23 t 21 (addI (σ23 t 21) 1) → P τ26)))) ∧ (¬ ((σ23 t 22) = 0) → P σ23))) ∧ (¬ ((σ23 t 20) ≤ (σ23 t 21)) → (Ix N Λ t_tape 6 (σ23 t 21) ∧ ((¬ (andI (σ23 t_tape (σ23 t 21)) 255) = 41 → (((σ23 t 22) = 0 → (((0 : Int) = 0 → (((σ23 t 22) = 0 → (∀ τ27, τ27 = st σ23 t 22 1 → (∀ τ28, τ28 = st τ27 t 23 (σ23 t 21) → P τ28))) ∧ (¬ ((σ23 t 22) = 0) → P σ23))) ∧ (¬ ((0 : Int) = 0) → (∀ τ29, τ29 = st σ23 t 21 (addI (σ23 t 21) 1) → P τ29)))) ∧ (¬ ((σ23 t 22) = 0) → P σ23))) ∧ ((andI (σ23 t_tape (σ23 t 21)) 255) = 41 → (((σ23 t 22) = 0 → (((1 : Int) = 0 → (((σ23 t 22) = 0 → (∀ τ30, τ30 = st σ23 t 22 1 → (∀ τ31, τ31 = st τ30 t 23 (σ23 t 21) → P τ31))) ∧ (¬ ((σ23 t 22) = 0) → P σ23))) ∧ (¬ ((1 : Int) = 0) → (∀ τ32, τ32 = st σ23 t 21 (addI (σ23 t 21) 1) → P τ32)))) ∧ (¬ ((σ23 t 22) = 0) → P σ23)))))))))))))) ∧ (¬ ((0 : Int) = 0) → (∀ τ33, τ33 = st σ8 t 21 (addI (σ8 t 21) 1) → (CV l mX12_pointText (d - 1) [(2, t), (0, (addI x1 1))] N Λ τ33 (fun σ34 => (CV l mX12_pointText (d - 1) [(2, t), (0, (addI x1 1))] N Λ σ34 (fun σ35 => (((σ35 t 20) ≤ (σ35 t 21) → (((σ35 t 22) = 0 → (((0 : Int) = 0 → (((σ35 t 22) = 0 → (∀ τ36, τ36 = st σ35 t 22 1 → (∀ τ37, τ37 = st τ36 t 23 (σ35 t 21) → P τ37))) ∧ (¬ ((σ35 t 22) = 0) → P σ35))) ∧ (¬ ((0 : Int) = 0) → (∀ τ38, τ38 = st σ35 t 21 (addI (σ35 t 21) 1) → P τ38)))) ∧ (¬ ((σ35 t 22) = 0) → P σ35))) ∧ (¬ ((σ35 t 20) ≤ (σ35 t 21)) → (Ix N Λ t_tape 6 (σ35 t 21) ∧ ((¬ (andI (σ35 t_tape (σ35 t 21)) 255) = 41 → (((σ35 t 22) = 0 → (((0 : Int) = 0 → (((σ35 t 22) = 0 → (∀ τ39, τ39 = st σ35 t 22 1 → (∀ τ40, τ40 = st τ39 t 23 (σ35 t 21) → P τ40))) ∧ (¬ ((σ35 t 22) = 0) → P σ35))) ∧ (¬ ((0 : Int) = 0) → (∀ τ41, τ41 = st σ35 t 21 (addI (σ35 t 21) 1) → P τ41)))) ∧ (¬ ((σ35 t 22) = 0) → P σ35))) ∧ ((andI (σ35 t_tape (σ35 t 21)) 255) = 41 → (((σ35 t 22) = 0 → (((1 : Int) = 0 → (((σ35 t 22) = 0 → (∀ τ42, τ42 = st σ35 t 22 1 → (∀ τ43, τ43 = st τ42 t 23 (σ35 t 21) → P τ43))) ∧ (¬ ((σ35 t 22) = 0) → P σ35))) ∧ (¬ ((1 : Int) = 0) → (∀ τ44, τ44 = st σ35 t 21 (addI (σ35 t 21) 1) → P τ44)))) ∧ (¬ ((σ35 t 22) = 0) → P σ35))))))))))))))) ∧ (¬ ((σ8 t 22) = 0) → (CV l mX12_pointText (d - 1) [(2, t), (0, (addI x1 1))] N Λ σ8 (fun σ45 => (CV l mX12_pointText (d - 1) [(2, t), (0, (addI x1 1))] N Λ σ45 (fun σ46 => (((σ46 t 20) ≤ (σ46 t 21) → (((σ46 t 22) = 0 → (((0 : Int) = 0 → (((σ46 t 22) = 0 → (∀ τ47, τ47 = st σ46 t 22 1 → (∀ τ48, τ48 = st τ47 t 23 (σ46 t 21) → P τ48))) ∧ (¬ ((σ46 t 22) = 0) → P σ46))) ∧ (¬ ((0 : Int) = 0) → (∀ τ49, τ49 = st σ46 t 21 (addI (σ46 t 21) 1) → P τ49)))) ∧ (¬ ((σ46 t 22) = 0) → P σ46))) ∧ (¬ ((σ46 t 20) ≤ (σ46 t 21)) → (Ix N Λ t_tape 6 (σ46 t 21) ∧ ((¬ (andI (σ46 t_tape (σ46 t 21)) 255) = 41 → (((σ46 t 22) = 0 → (((0 : Int) = 0 → (((σ46 t 22) = 0 → (∀ τ50, τ50 = st σ46 t 22 1 → (∀ τ51, τ51 = st τ50 t 23 (σ46 t 21) → P τ51))) ∧ (¬ ((σ46 t 22) = 0) → P σ46))) ∧ (¬ ((0 : Int) = 0) → (∀ τ52, τ52 = st σ46 t 21 (addI (σ46 t 21) 1) → P τ52)))) ∧ (¬ ((σ46 t 22) = 0) → P σ46))) ∧ ((andI (σ46 t_tape (σ46 t 21)) 255) = 41 → (((σ46 t 22) = 0 → (((1 : Int) = 0 → (((σ46 t 22) = 0 → (∀ τ53, τ53 = st σ46 t 22 1 → (∀ τ54, τ54 = st τ53 t 23 (σ46 t 21) → P τ54))) ∧ (¬ ((σ46 t 22) = 0) → P σ46))) ∧ (¬ ((1 : Int) = 0) → (∀ τ55, τ55 = st σ46 t 21 (addI (σ46 t 21) 1) → P τ55)))) ∧ (¬ ((σ46 t 22) = 0) → P σ46)))))))))))))) ∧ (¬ ((σ8 t 20) ≤ (σ8 t 21)) → (Ix N Λ t_tape 6 (σ8 t 21) ∧ ((¬ (andI (σ8 t_tape (σ8 t 21)) 255) = 94 → (((σ8 t 22) = 0 → (((0 : Int) = 0 → (((σ8 t 22) = 0 → (∀ τ56, τ56 = st σ8 t 22 1 → (∀ τ57, τ57 = st τ56 t 23 (σ8 t 21) → (CV l mX12_pointText (d - 1) [(2, t), (0, (addI x1 1))] N Λ τ57 (fun σ58 => (CV l mX12_pointText (d - 1) [(2, t), (0, (addI x1 1))] N Λ σ58 (fun σ59 => (((σ59 t 20) ≤ (σ59 t 21) → (((σ59 t 22) = 0 → (((0 : Int) = 0 → (((σ59 t 22) = 0 → (∀ τ60, τ60 = st σ59 t 22 1 → (∀ τ61, τ61 = st τ60 t 23 (σ59 t 21) → P τ61))) ∧ (¬ ((σ59 t 22) = 0) → P σ59))) ∧ (¬ ((0 : Int) = 0) → (∀ τ62, τ62 = st σ59 t 21 (addI (σ59 t 21) 1) → P τ62)))) ∧ (¬ ((σ59 t 22) = 0) → P σ59))) ∧ (¬ ((σ59 t 20) ≤ (σ59 t 21)) → (Ix N Λ t_tape 6 (σ59 t 21) ∧ ((¬ (andI (σ59 t_tape (σ59 t 21)) 255) = 41 → (((σ59 t 22) = 0 → (((0 : Int) = 0 → (((σ59 t 22) = 0 → (∀ τ63, τ63 = st σ59 t 22 1 → (∀ τ64, τ64 = st τ63 t 23 (σ59 t 21) → P τ64))) ∧ (¬ ((σ59 t 22) = 0) → P σ59))) ∧ (¬ ((0 : Int) = 0) → (∀ τ65, τ65 = st σ59 t 21 (addI (σ59 t 21) 1) → P τ65)))) ∧ (¬ ((σ59 t 22) = 0) → P σ59))) ∧ ((andI (σ59 t_tape (σ59 t 21)) 255) = 41 → (((σ59 t 22) = 0 → (((1 : Int) = 0 → (((σ59 t 22) = 0 → (∀ τ66, τ66 = st σ59 t 22 1 → (∀ τ67, τ67 = st τ66 t 23 (σ59 t 21) → P τ67))) ∧ (¬ ((σ59 t 22) = 0) → P σ59))) ∧ (¬ ((1 : Int) = 0) → (∀ τ68, τ68 = st σ59 t 21 (addI (σ59 t 21) 1) → P τ68)))) ∧ (¬ ((σ59 t 22) = 0) → P σ59)))))))))))))) ∧ (¬ ((σ8 t 22) = 0) → (CV l mX12_pointText (d - 1) [(2, t), (0, (addI x1 1))] N Λ σ8 (fun σ69 => (CV l mX12_pointText (d - 1) [(2, t), (0, (addI x1 1))] N Λ σ69 (fun σ70 => (((σ70 t 20) ≤ (σ70 t 21) → (((σ70 t 22) = 0 → (((0 : Int) = 0 → (((σ70 t 22) = 0 → (∀ τ71, τ71 = st σ70 t 22 1 → (∀ τ72, τ72 = st τ71 t 23 (σ70 t 21) → P τ72))) ∧ (¬ ((σ70 t 22) = 0) → P σ70))) ∧ (¬ ((0 : Int) = 0) → (∀ τ73, τ73 = st σ70 t 21 (addI (σ70 t 21) 1) → P τ73)))) ∧ (¬ ((σ70 t 22) = 0) → P σ70))) ∧ (¬ ((σ70 t 20) ≤ (σ70 t 21)) → (Ix N Λ t_tape 6 (σ70 t 21) ∧ ((¬ (andI (σ70 t_tape (σ70 t 21)) 255) = 41 → (((σ70 t 22) = 0 → (((0 : Int) = 0 → (((σ70 t 22) = 0 → (∀ τ74, τ74 = st σ70 t 22 1 → (∀ τ75, τ75 = st τ74 t 23 (σ70 t 21) → P τ75))) ∧ (¬ ((σ70 t 22) = 0) → P σ70))) ∧ (¬ ((0 : Int) = 0) → (∀ τ76, τ76 = st σ70 t 21 (addI (σ70 t 21) 1) → P τ76)))) ∧ (¬ ((σ70 t 22) = 0) → P σ70))) ∧ ((andI (σ70 t_tape (σ70 t 21)) 255) = 41 → (((σ70 t 22) = 0 → (((1 : Int) = 0 → (((σ70 t 22) = 0 → (∀ τ77, τ77 = st σ70 t 22 1 → (∀ τ78, τ78 = st τ77 t 23 (σ70 t 21) → P τ78))) ∧ (¬ ((σ70 t 22) = 0) → P σ70))) ∧ (¬ ((1 : Int) = 0) → (∀ τ79, τ79 = st σ70 t 21 (addI (σ70 t 21) 1) → P τ79)))) ∧ (¬ ((σ70 t 22) = 0) → P σ70)))))))))))))) ∧ (¬ ((0 : Int) = 0) → (∀ τ80, τ80 = st σ8 t 21 (addI (σ8 t 21) 1) → (CV l mX12_pointText (d - 1) [(2, t), (0, (addI x1 1))] N Λ τ80 (fun σ81 => (CV l mX12_pointText (d - 1) [(2, t), (0, (addI x1 1))] N Λ σ81 (fun σ82 => (((σ82 t 20) ≤ (σ82 t 21) → (((σ82 t 22) = 0 → (((0 : Int) = 0 → (((σ82 t 22) = 0 → (∀ τ83, τ83 = st σ82 t 22 1 → (∀ τ84, τ84 = st τ83 t 23 (σ82 t 21) → P τ84))) ∧ (¬ ((σ82 t 22) = 0) → P σ82))) ∧ (¬ ((0 : Int) = 0) → (∀ τ85, τ85 = st σ82 t 21 (addI (σ82 t 21) 1) → P τ85)))) ∧ (¬ ((σ82 t 22) = 0) → P σ82))) ∧ (¬ ((σ82 t 20) ≤ (σ82 t 21)) → (Ix N Λ t_tape 6 (σ82 t 21) ∧ ((¬ (andI (σ82 t_tape (σ82 t 21)) 255) = 41 → (((σ82 t 22) = 0 → (((0 : Int) = 0 → (((σ82 t 22) = 0 → (∀ τ86, τ86 = st σ82 t 22 1 → (∀ τ87, τ87 = st τ86 t 23 (σ82 t 21) → P τ87))) ∧ (¬ ((σ82 t 22) = 0) → P σ82))) ∧ (¬ ((0 : Int) = 0) → (∀ τ88, τ88 = st σ82 t 21 (addI (σ82 t 21) 1) → P τ88)))) ∧ (¬ ((σ82 t 22) = 0) → P σ82))) ∧ ((andI (σ82 t_tape (σ82 t 21)) 255) = 41 → (((σ82 t 22) = 0 → (((1 : Int) = 0 → (((σ82 t 22) = 0 → (∀ τ89, τ89 = st σ82 t 22 1 → (∀ τ90, τ90 = st τ89 t 23 (σ82 t 21) → P τ90))) ∧ (¬ ((σ82 t 22) = 0) → P σ82))) ∧ (¬ ((1 : Int) = 0) → (∀ τ91, τ91 = st σ82 t 21 (addI (σ82 t 21) 1) → P τ91)))) ∧ (¬ ((σ82 t 22) = 0) → P σ82))))))))))))))) ∧ (¬ ((σ8 t 22) = 0) → (CV l mX12_pointText (d - 1) [(2, t), (0, (addI x1 1))] N Λ σ8 (fun σ92 => (CV l mX12_pointText (d - 1) [(2, t), (0, (addI x1 1))] N Λ σ92 (fun σ93 => (((σ93 t 20) ≤ (σ93 t 21) → (((σ93 t 22) = 0 → (((0 : Int) = 0 → (((σ93 t 22) = 0 → (∀ τ94, τ94 = st σ93 t 22 1 → (∀ τ95, τ95 = st τ94 t 23 (σ93 t 21) → P τ95))) ∧ (¬ ((σ93 t 22) = 0) → P σ93))) ∧ (¬ ((0 : Int) = 0) → (∀ τ96, τ96 = st σ93 t 21 (addI (σ93 t 21) 1) → P τ96)))) ∧ (¬ ((σ93 t 22) = 0) → P σ93))) ∧ (¬ ((σ93 t 20) ≤ (σ93 t 21)) → (Ix N Λ t_tape 6 (σ93 t 21) ∧ ((¬ (andI (σ93 t_tape (σ93 t 21)) 255) = 41 → (((σ93 t 22) = 0 → (((0 : Int) = 0 → (((σ93 t 22) = 0 → (∀ τ97, τ97 = st σ93 t 22 1 → (∀ τ98, τ98 = st τ97 t 23 (σ93 t 21) → P τ98))) ∧ (¬ ((σ93 t 22) = 0) → P σ93))) ∧ (¬ ((0 : Int) = 0) → (∀ τ99, τ99 = st σ93 t 21 (addI (σ93 t 21) 1) → P τ99)))) ∧ (¬ ((σ93 t 22) = 0) → P σ93))) ∧ ((andI (σ93 t_tape (σ93 t 21)) 255) = 41 → (((σ93 t 22) = 0 → (((1 : Int) = 0 → (((σ93 t 22) = 0 → (∀ τ100, τ100 = st σ93 t 22 1 → (∀ τ101, τ101 = st τ100 t 23 (σ93 t 21) → P τ101))) ∧ (¬ ((σ93 t 22) = 0) → P σ93))) ∧ (¬ ((1 : Int) = 0) → (∀ τ102, τ102 = st σ93 t 21 (addI (σ93 t 21) 1) → P τ102)))) ∧ (¬ ((σ93 t 22) = 0) → P σ93)))))))))))))) ∧ ((andI (σ8 t_tape (σ8 t 21)) 255) = 94 → (((σ8 t 22) = 0 → (((1 : Int) = 0 → (((σ8 t 22) = 0 → (∀ τ103, τ103 = st σ8 t 22 1 → (∀ τ104, τ104 = st τ103 t 23 (σ8 t 21) → (CV l mX12_pointText (d - 1) [(2, t), (0, (addI x1 1))] N Λ τ104 (fun σ105 => (CV l mX12_pointText (d - 1) [(2, t), (0, (addI x1 1))] N Λ σ105 (fun σ106 => (((σ106 t 20) ≤ (σ106 t 21) → (((σ106 t 22) = 0 → (((0 : Int) = 0 → (((σ106 t 22) = 0 → (∀ τ107, τ107 = st σ106 t 22 1 → (∀ τ108, τ108 = st τ107 t 23 (σ106 t 21) → P τ108))) ∧ (¬ ((σ106 t 22) = 0) → P σ106))) ∧ (¬ ((0 : Int) = 0) → (∀ τ109, τ109 = st σ106 t 21 (addI (σ106 t 21) 1) → P τ109)))) ∧ (¬ ((σ106 t 22) = 0) → P σ106))) ∧ (¬ ((σ106 t 20) ≤ (σ106 t 21)) → (Ix N Λ t_tape 6 (σ106 t 21) ∧ ((¬ (andI (σ106 t_tape (σ106 t 21)) 255) = 41 → (((σ106 t 22) = 0 → (((0 : Int) = 0 → (((σ106 t 22) = 0 → (∀ τ110, τ110 = st σ106 t 22 1 → (∀ τ111, τ111 = st τ110 t 23 (σ106 t 21) → P τ111))) ∧ (¬ ((σ106 t 22) = 0) → P σ106))) ∧ (¬ ((0 : Int) = 0) → (∀ τ112, τ112 = st σ106 t 21 (addI (σ106 t 21) 1) → P τ112)))) ∧ (¬ ((σ106 t 22) = 0) → P σ106))) ∧ ((andI (σ106 t_tape (σ106 t 21)) 255) = 41 → (((σ106 t 22) = 0 → (((1 : Int) = 0 → (((σ106 t 22) = 0 → (∀ τ113, τ113 = st σ106 t 22 1 → (∀ τ114, τ114 = st τ113 t 23 (σ106 t 21) → P τ114))) ∧ (¬ ((σ106 t 22) = 0) → P σ106))) ∧ (¬ ((1 : Int) = 0) → (∀ τ115, τ115 = st σ106 t 21 (addI (σ106 t 21) 1) → P τ115)))) ∧ (¬ ((σ106 t 22) = 0) → P σ106)))))))))))))) ∧ (¬ ((σ8 t 22) = 0) → (CV l mX12_pointText (d - 1) [(2, t), (0, (addI x1 1))] N Λ σ8 (fun σ116 => (CV l mX12_pointText (d - 1) [(2, t), (0, (addI x1 1))] N Λ σ116 (fun σ117 => (((σ117 t 20) ≤ (σ117 t 21) → (((σ117 t 22) = 0 → (((0 : Int) = 0 → (((σ117 t 22) = 0 → (∀ τ118, τ118 = st σ117 t 22 1 → (∀ τ119, τ119 = st τ118 t 23 (σ117 t 21) → P τ119))) ∧ (¬ ((σ117 t 22) = 0) → P σ117))) ∧ (¬ ((0 : Int) = 0) → (∀ τ120, τ120 = st σ117 t 21 (addI (σ117 t 21) 1) → P τ120)))) ∧ (¬ ((σ117 t 22) = 0) → P σ117))) ∧ (¬ ((σ117 t 20) ≤ (σ117 t 21)) → (Ix N Λ t_tape 6 (σ117 t 21) ∧ ((¬ (andI (σ117 t_tape (σ117 t 21)) 255) = 41 → (((σ117 t 22) = 0 → (((0 : Int) = 0 → (((σ117 t 22) = 0 → (∀ τ121, τ121 = st σ117 t 22 1 → (∀ τ122, τ122 = st τ121 t 23 (σ117 t 21) → P τ122))) ∧ (¬ ((σ117 t 22) = 0) → P σ117))) ∧ (¬ ((0 : Int) = 0) → (∀ τ123, τ123 = st σ117 t 21 (addI (σ117 t 21) 1) → P τ123)))) ∧ (¬ ((σ117 t 22) = 0) → P σ117))) ∧ ((andI (σ117 t_tape (σ117 t 21)) 255) = 41 → (((σ117 t 22) = 0 → (((1 : Int) = 0 → (((σ117 t 22) = 0 → (∀ τ124, τ124 = st σ117 t 22 1 → (∀ τ125, τ125 = st τ124 t 23 (σ117 t 21) → P τ125))) ∧ (¬ ((σ117 t 22) = 0) → P σ117))) ∧ (¬ ((1 : Int) = 0) → (∀ τ126, τ126 = st σ117 t 21 (addI (σ117 t 21) 1) → P τ126)))) ∧ (¬ ((σ117 t 22) = 0) → P σ117)))))))))))))) ∧ (¬ ((1 : Int) = 0) → (∀ τ127, τ127 = st σ8 t 21 (addI (σ8 t 21) 1) → (CV l mX12_pointText (d - 1) [(2, t), (0, (addI x1 1))] N Λ τ127 (fun σ128 => (CV l mX12_pointText (d - 1) [(2, t), (0, (addI x1 1))] N Λ σ128 (fun σ129 => (((σ129 t 20) ≤ (σ129 t 21) → (((σ129 t 22) = 0 → (((0 : Int) = 0 → (((σ129 t 22) = 0 → (∀ τ130, τ130 = st σ129 t 22 1 → (∀ τ131, τ131 = st τ130 t 23 (σ129 t 21) → P τ131))) ∧ (¬ ((σ129 t 22) = 0) → P σ129))) ∧ (¬ ((0 : Int) = 0) → (∀ τ132, τ132 = st σ129 t 21 (addI (σ129 t 21) 1) → P τ132)))) ∧ (¬ ((σ129 t 22) = 0) → P σ129))) ∧ (¬ ((σ129 t 20) ≤ (σ129 t 21)) → (Ix N Λ t_tape 6 (σ129 t 21) ∧ ((¬ (andI (σ129 t_tape (σ129 t 21)) 255) = 41 → (((σ129 t 22) = 0 → (((0 : Int) = 0 → (((σ129 t 22) = 0 → (∀ τ133, τ133 = st σ129 t 22 1 → (∀ τ134, τ134 = st τ133 t 23 (σ129 t 21) → P τ134))) ∧ (¬ ((σ129 t 22) = 0) → P σ129))) ∧ (¬ ((0 : Int) = 0) → (∀ τ135, τ135 = st σ129 t 21 (addI (σ129 t 21) 1) → P τ135)))) ∧ (¬ ((σ129 t 22) = 0) → P σ129))) ∧ ((andI (σ129 t_tape (σ129 t 21)) 255) = 41 → (((σ129 t 22) = 0 → (((1 : Int) = 0 → (((σ129 t 22) = 0 → (∀ τ136, τ136 = st σ129 t 22 1 → (∀ τ137, τ137 = st τ136 t 23 (σ129 t 21) → P τ137))) ∧ (¬ ((σ129 t 22) = 0) → P σ129))) ∧ (¬ ((1 : Int) = 0) → (∀ τ138, τ138 = st σ129 t 21 (addI (σ129 t 21) 1) → P τ138)))) ∧ (¬ ((σ129 t 22) = 0) → P σ129))))))))))))))) ∧ (¬ ((σ8 t 22) = 0) → (CV l mX12_pointText (d - 1) [(2, t), (0, (addI x1 1))] N Λ σ8 (fun σ139 => (CV l mX12_pointText (d - 1) [(2, t), (0, (addI x1 1))] N Λ σ139 (fun σ140 => (((σ140 t 20) ≤ (σ140 t 21) → (((σ140 t 22) = 0 → (((0 : Int) = 0 → (((σ140 t 22) = 0 → (∀ τ141, τ141 = st σ140 t 22 1 → (∀ τ142, τ142 = st τ141 t 23 (σ140 t 21) → P τ142))) ∧ (¬ ((σ140 t 22) = 0) → P σ140))) ∧ (¬ ((0 : Int) = 0) → (∀ τ143, τ143 = st σ140 t 21 (addI (σ140 t 21) 1) → P τ143)))) ∧ (¬ ((σ140 t 22) = 0) → P σ140))) ∧ (¬ ((σ140 t 20) ≤ (σ140 t 21)) → (Ix N Λ t_tape 6 (σ140 t 21) ∧ ((¬ (andI (σ140 t_tape (σ140 t 21)) 255) = 41 → (((σ140 t 22) = 0 → (((0 : Int) = 0 → (((σ140 t 22) = 0 → (∀ τ144, τ144 = st σ140 t 22 1 → (∀ τ145, τ145 = st τ144 t 23 (σ140 t 21) → P τ145))) ∧ (¬ ((σ140 t 22) = 0) → P σ140))) ∧ (¬ ((0 : Int) = 0) → (∀ τ146, τ146 = st σ140 t 21 (addI (σ140 t 21) 1) → P τ146)))) ∧ (¬ ((σ140 t 22) = 0) → P σ140))) ∧ ((andI (σ140 t_tape (σ140 t 21)) 255) = 41 → (((σ140 t 22) = 0 → (((1 : Int) = 0 → (((σ140 t 22) = 0 → (∀ τ147, τ147 = st σ140 t 22 1 → (∀ τ148, τ148 = st τ147 t 23 (σ140 t 21) → P τ148))) ∧ (¬ ((σ140 t 22) = 0) → P σ140))) ∧ (¬ ((1 : Int) = 0) → (∀ τ149, τ149 = st σ140 t 21 (addI (σ140 t 21) 1) → P τ149)))) ∧ (¬ ((σ140 t 22) = 0) → P σ140)))))))))))))))))))))))) ∧ (x1 = 2 → (((σ t 22) = 0 → (∀ τ150, τ150 = st σ t 22 4 → (∀ τ151, τ151 = st τ150 t 23 (σ t 21) → P τ151))) ∧ (¬ ((σ t 22) = 0) → P σ))))) ∧ (¬ ((andI (σ t_tape (σ t 21)) 255) = 40) → (CI l mX12_seesLetter (d - 1) [(2, t)] N Λ σ (fun v153 σ152 => (((σ152 t 22) = 0 → ((v153 = 0 → (((σ152 t 22) = 0 → (∀ τ154, τ154 = st σ152 t 22 1 → (∀ τ155, τ155 = st τ154 t 23 (σ152 t 21) → P τ155))) ∧ (¬ ((σ152 t 22) = 0) → P σ152))) ∧ (¬ (v153 = 0) → (∀ τ156, τ156 = st σ152 t 21 (addI (σ152 t 21) 1) → P τ156)))) ∧ (¬ ((σ152 t 22) = 0) → P σ152)))))))))) ∧ (¬ ((σ t 22) = 0) → P σ))) :
    WV l mX12_pointText d P 0 [(2, t), (0, x1)] [] N Λ σ := by
  have hd_1 : 1 ≤ d := Nat.le_trans (by decide) h0d
  have he_1 : 1 ≤ d - 1 := Nat.le_sub_of_add_le (Nat.le_trans (by decide) h0d)
  refine r_aload_n (x := t) d_X12_pointText_0 rfl o_t.1 ?_
  refine r_getf (j := 22) (t := 0) (x := (σ t 22)) d_X12_pointText_1 kX12 (by decide) fl_X12_261 o_t.1 o_t.2.1 o_t.2.2.1 o_t.2.2.2 rfl rfl ?_
  refine r_if_eq (tgt := 8) d_X12_pointText_4 rfl (fun hc => ?_) (fun hc => ?_)
  · have h := h.1 hc
    refine r_aload_n (x := t) d_X12_pointText_8 rfl o_t.1 ?_
    refine x_callVI (Y2 := mX12_see) (c := t) (As := []) (S := []) d_X12_pointText_9 ok_mX12_see ml_X12_264 rfl (Nat.le_of_ble_eq_true rfl) (Nat.le_of_ble_eq_true rfl) rfl hd_1 kX12 o_t (c_X12_see (v_X12_see_0 o_t f_t_tape ?_))
    refine ⟨fun hc => ?_, fun hc => ?_⟩
    · have h := h.1 hc
      show WP l mX12_pointText (rm d 0 0) noX _ 0 0 12 [(2, t), (0, x1)] [(0, (-1))] N Λ σ
      refine r_bipush (x := 40) d_X12_pointText_12 ⟨by decide, by decide⟩ (by decide) ?_
      refine r_ic_eq (tgt := 26) d_X12_pointText_14 rfl (fun hc => absurd hc (by decide)) (fun _ => ?_)
      refine r_aload_n (x := t) d_X12_pointText_17 rfl o_t.1 ?_
      refine r_aload_n (x := t) d_X12_pointText_18 rfl o_t.1 ?_
      refine x_callVI (Y2 := mX12_seesLetter) (c := t) (As := []) (S := [(2, t)]) d_X12_pointText_19 ok_mX12_seesLetter ml_X12_283 rfl (Nat.le_of_ble_eq_true rfl) (Nat.le_of_ble_eq_true rfl) rfl hd_1 kX12 o_t (CI.mono h (fun v2 σ1 h => ?_))
      refine x_callVV (Y2 := mX12_must) (c := t) (As := [(0, v2)]) (S := []) d_X12_pointText_22 ok_mX12_must ml_X12_286 rfl (Nat.le_of_ble_eq_true rfl) (Nat.le_of_ble_eq_true rfl) rfl hd_1 kX12 o_t (c_X12_must (v_X12_must_0 o_t he_1 ?_))
      refine ⟨fun hc => ?_, fun hc => ?_⟩
      · have h := h.1 hc
        refine ⟨fun hc => ?_, fun hc => ?_⟩
        · have h := h.1 hc
          refine ⟨fun hc => ?_, fun hc => ?_⟩
          · have h := h.1 hc
            intro τ3 eτ3
            have h := h τ3 eτ3
            intro τ4 eτ4
            have h := h τ4 eτ4
            show WP l mX12_pointText (rm d 0 0) noX _ 0 0 25 [(2, t), (0, x1)] [] N Λ τ4
            exact r_vret d_X12_pointText_25 rfl (Nat.le_refl 0) (Nat.le_refl 0) ⟨rfl, rfl, rfl, h⟩
          · have h := h.2 hc
            show WP l mX12_pointText (rm d 0 0) noX _ 0 0 25 [(2, t), (0, x1)] [] N Λ σ1
            exact r_vret d_X12_pointText_25 rfl (Nat.le_refl 0) (Nat.le_refl 0) ⟨rfl, rfl, rfl, h⟩
        · have h := h.2 hc
          intro τ5 eτ5
          have h := h τ5 eτ5
          show WP l mX12_pointText (rm d 0 0) noX _ 0 0 25 [(2, t), (0, x1)] [] N Λ τ5
          exact r_vret d_X12_pointText_25 rfl (Nat.le_refl 0) (Nat.le_refl 0) ⟨rfl, rfl, rfl, h⟩
      · have h := h.2 hc
        show WP l mX12_pointText (rm d 0 0) noX _ 0 0 25 [(2, t), (0, x1)] [] N Λ σ1
        exact r_vret d_X12_pointText_25 rfl (Nat.le_refl 0) (Nat.le_refl 0) ⟨rfl, rfl, rfl, h⟩
    · have h := h.2 hc
      refine ⟨h.1, ?_⟩
      have h := h.2
      show WP l mX12_pointText (rm d 0 0) noX _ 0 0 12 [(2, t), (0, x1)] [(0, (andI (σ t_tape (σ t 21)) 255))] N Λ σ
      refine r_bipush (x := 40) d_X12_pointText_12 ⟨by decide, by decide⟩ (by decide) ?_
      refine r_ic_eq (tgt := 26) d_X12_pointText_14 rfl (fun hc => ?_) (fun hc => ?_)
      · have h := h.1 hc
        refine r_iload_n (x := x1) d_X12_pointText_26 rfl ?_
        refine r_iconst (x := 2) d_X12_pointText_27 ⟨by decide, by decide⟩ ?_
        refine r_ic_ne (tgt := 41) d_X12_pointText_28 rfl (fun hc => ?_) (fun hc => ?_)
        · have h := h.1 hc
          refine r_aload_n (x := t) d_X12_pointText_41 rfl o_t.1 ?_
          refine r_dup d_X12_pointText_42 rfl ?_
          refine r_getf (j := 21) (t := 0) (x := (σ t 21)) d_X12_pointText_43 kX12 (by decide) fl_X12_255 o_t.1 o_t.2.1 o_t.2.2.1 o_t.2.2.2 rfl rfl ?_
          refine r_iconst (x := 1) d_X12_pointText_46 ⟨by decide, by decide⟩ ?_
          refine r_iadd d_X12_pointText_47 ?_
          refine r_putI (j := 21) d_X12_pointText_48 kX12 (by decide) fl_X12_255 rfl o_t.1 o_t.2.1 o_t.2.2.1 o_t.2.2.2 rfl ?_
          refine r_nmM (fun τ6 eτ6 => ?_)
          have h := h τ6 eτ6
          refine r_aload_n (x := t) d_X12_pointText_51 rfl o_t.1 ?_
          refine r_iload_n (x := x1) d_X12_pointText_52 rfl ?_
          refine r_iconst (x := 1) d_X12_pointText_53 ⟨by decide, by decide⟩ ?_
          refine r_iadd d_X12_pointText_54 ?_
          refine x_callVV (Y2 := mX12_pointText) (c := t) (As := [(0, (addI x1 1))]) (S := []) d_X12_pointText_55 ok_mX12_pointText ml_X12_303 rfl (Nat.le_of_ble_eq_true rfl) (Nat.le_of_ble_eq_true rfl) rfl hd_1 kX12 o_t (CV.mono h (fun σ7 h => ?_))
          refine r_aload_n (x := t) d_X12_pointText_58 rfl o_t.1 ?_
          refine r_iload_n (x := x1) d_X12_pointText_59 rfl ?_
          refine r_iconst (x := 1) d_X12_pointText_60 ⟨by decide, by decide⟩ ?_
          refine r_iadd d_X12_pointText_61 ?_
          refine x_callVV (Y2 := mX12_pointText) (c := t) (As := [(0, (addI x1 1))]) (S := []) d_X12_pointText_62 ok_mX12_pointText ml_X12_303 rfl (Nat.le_of_ble_eq_true rfl) (Nat.le_of_ble_eq_true rfl) rfl hd_1 kX12 o_t (CV.mono h (fun σ8 h => ?_))
          refine r_aload_n (x := t) d_X12_pointText_65 rfl o_t.1 ?_
          refine r_aload_n (x := t) d_X12_pointText_66 rfl o_t.1 ?_
          refine x_callVI (Y2 := mX12_see) (c := t) (As := []) (S := [(2, t)]) d_X12_pointText_67 ok_mX12_see ml_X12_264 rfl (Nat.le_of_ble_eq_true rfl) (Nat.le_of_ble_eq_true rfl) rfl hd_1 kX12 o_t (c_X12_see (v_X12_see_0 o_t f_t_tape ?_))
          refine ⟨fun hc => ?_, fun hc => ?_⟩
          · have h := h.1 hc
            show WP l mX12_pointText (rm d 0 0) noX _ 0 0 70 [(2, t), (0, x1)] [(0, (-1)), (2, t)] N Λ σ8
            refine r_bipush (x := 94) d_X12_pointText_70 ⟨by decide, by decide⟩ (by decide) ?_
            refine r_ic_ne (tgt := 79) d_X12_pointText_72 rfl (fun _ => ?_) (fun hc => absurd hc (by decide))
            refine r_iconst (x := 0) d_X12_pointText_79 ⟨by decide, by decide⟩ ?_
            refine x_callVV (Y2 := mX12_must) (c := t) (As := [(0, 0)]) (S := []) d_X12_pointText_80 ok_mX12_must ml_X12_286 rfl (Nat.le_of_ble_eq_true rfl) (Nat.le_of_ble_eq_true rfl) rfl hd_1 kX12 o_t (c_X12_must (v_X12_must_0 o_t he_1 ?_))
            refine ⟨fun hc => ?_, fun hc => ?_⟩
            · have h := h.1 hc
              refine ⟨fun hc => ?_, fun hc => ?_⟩
              · have h := h.1 hc
                refine ⟨fun hc => ?_, fun hc => ?_⟩
                · have h := h.1 hc
                  intro τ9 eτ9
                  have h := h τ9 eτ9
                  intro τ10 eτ10
                  have h := h τ10 eτ10
                  show WP l mX12_pointText (rm d 0 0) noX _ 0 0 83 [(2, t), (0, x1)] [] N Λ τ10
                  refine r_aload_n (x := t) d_X12_pointText_83 rfl o_t.1 ?_
                  refine r_iload_n (x := x1) d_X12_pointText_84 rfl ?_
                  refine r_iconst (x := 1) d_X12_pointText_85 ⟨by decide, by decide⟩ ?_
                  refine r_iadd d_X12_pointText_86 ?_
                  refine x_callVV (Y2 := mX12_pointText) (c := t) (As := [(0, (addI x1 1))]) (S := []) d_X12_pointText_87 ok_mX12_pointText ml_X12_303 rfl (Nat.le_of_ble_eq_true rfl) (Nat.le_of_ble_eq_true rfl) rfl hd_1 kX12 o_t (CV.mono h (fun σ11 h => ?_))
                  refine r_aload_n (x := t) d_X12_pointText_90 rfl o_t.1 ?_
                  refine r_iload_n (x := x1) d_X12_pointText_91 rfl ?_
                  refine r_iconst (x := 1) d_X12_pointText_92 ⟨by decide, by decide⟩ ?_
                  refine r_iadd d_X12_pointText_93 ?_
                  refine x_callVV (Y2 := mX12_pointText) (c := t) (As := [(0, (addI x1 1))]) (S := []) d_X12_pointText_94 ok_mX12_pointText ml_X12_303 rfl (Nat.le_of_ble_eq_true rfl) (Nat.le_of_ble_eq_true rfl) rfl hd_1 kX12 o_t (CV.mono h (fun σ12 h => ?_))
                  refine r_aload_n (x := t) d_X12_pointText_97 rfl o_t.1 ?_
                  refine r_aload_n (x := t) d_X12_pointText_98 rfl o_t.1 ?_
                  refine x_callVI (Y2 := mX12_see) (c := t) (As := []) (S := [(2, t)]) d_X12_pointText_99 ok_mX12_see ml_X12_264 rfl (Nat.le_of_ble_eq_true rfl) (Nat.le_of_ble_eq_true rfl) rfl hd_1 kX12 o_t (c_X12_see (v_X12_see_0 o_t f_t_tape ?_))
                  refine ⟨fun hc => ?_, fun hc => ?_⟩
                  · have h := h.1 hc
                    show WP l mX12_pointText (rm d 0 0) noX _ 0 0 102 [(2, t), (0, x1)] [(0, (-1)), (2, t)] N Λ σ12
                    refine r_bipush (x := 41) d_X12_pointText_102 ⟨by decide, by decide⟩ (by decide) ?_
                    refine r_ic_ne (tgt := 111) d_X12_pointText_104 rfl (fun _ => ?_) (fun hc => absurd hc (by decide))
                    refine r_iconst (x := 0) d_X12_pointText_111 ⟨by decide, by decide⟩ ?_
                    refine x_callVV (Y2 := mX12_must) (c := t) (As := [(0, 0)]) (S := []) d_X12_pointText_112 ok_mX12_must ml_X12_286 rfl (Nat.le_of_ble_eq_true rfl) (Nat.le_of_ble_eq_true rfl) rfl hd_1 kX12 o_t (c_X12_must (v_X12_must_0 o_t he_1 ?_))
                    refine ⟨fun hc => ?_, fun hc => ?_⟩
                    · have h := h.1 hc
                      refine ⟨fun hc => ?_, fun hc => ?_⟩
                      · have h := h.1 hc
                        refine ⟨fun hc => ?_, fun hc => ?_⟩
                        · have h := h.1 hc
                          intro τ13 eτ13
                          have h := h τ13 eτ13
                          intro τ14 eτ14
                          have h := h τ14 eτ14
                          show WP l mX12_pointText (rm d 0 0) noX _ 0 0 115 [(2, t), (0, x1)] [] N Λ τ14
                          exact r_vret d_X12_pointText_115 rfl (Nat.le_refl 0) (Nat.le_refl 0) ⟨rfl, rfl, rfl, h⟩
                        · have h := h.2 hc
                          show WP l mX12_pointText (rm d 0 0) noX _ 0 0 115 [(2, t), (0, x1)] [] N Λ σ12
                          exact r_vret d_X12_pointText_115 rfl (Nat.le_refl 0) (Nat.le_refl 0) ⟨rfl, rfl, rfl, h⟩
                      · have h := h.2 hc
                        intro τ15 eτ15
                        have h := h τ15 eτ15
                        show WP l mX12_pointText (rm d 0 0) noX _ 0 0 115 [(2, t), (0, x1)] [] N Λ τ15
                        exact r_vret d_X12_pointText_115 rfl (Nat.le_refl 0) (Nat.le_refl 0) ⟨rfl, rfl, rfl, h⟩
                    · have h := h.2 hc
                      show WP l mX12_pointText (rm d 0 0) noX _ 0 0 115 [(2, t), (0, x1)] [] N Λ σ12
                      exact r_vret d_X12_pointText_115 rfl (Nat.le_refl 0) (Nat.le_refl 0) ⟨rfl, rfl, rfl, h⟩
                  · have h := h.2 hc
                    refine ⟨h.1, ?_⟩
                    have h := h.2
                    show WP l mX12_pointText (rm d 0 0) noX _ 0 0 102 [(2, t), (0, x1)] [(0, (andI (σ12 t_tape (σ12 t 21)) 255)), (2, t)] N Λ σ12
                    refine r_bipush (x := 41) d_X12_pointText_102 ⟨by decide, by decide⟩ (by decide) ?_
                    refine r_ic_ne (tgt := 111) d_X12_pointText_104 rfl (fun hc => ?_) (fun hc => ?_)
                    · have h := h.1 hc
                      refine r_iconst (x := 0) d_X12_pointText_111 ⟨by decide, by decide⟩ ?_
                      refine x_callVV (Y2 := mX12_must) (c := t) (As := [(0, 0)]) (S := []) d_X12_pointText_112 ok_mX12_must ml_X12_286 rfl (Nat.le_of_ble_eq_true rfl) (Nat.le_of_ble_eq_true rfl) rfl hd_1 kX12 o_t (c_X12_must (v_X12_must_0 o_t he_1 ?_))
                      refine ⟨fun hc => ?_, fun hc => ?_⟩
                      · have h := h.1 hc
                        refine ⟨fun hc => ?_, fun hc => ?_⟩
                        · have h := h.1 hc
                          refine ⟨fun hc => ?_, fun hc => ?_⟩
                          · have h := h.1 hc
                            intro τ16 eτ16
                            have h := h τ16 eτ16
                            intro τ17 eτ17
                            have h := h τ17 eτ17
                            show WP l mX12_pointText (rm d 0 0) noX _ 0 0 115 [(2, t), (0, x1)] [] N Λ τ17
                            exact r_vret d_X12_pointText_115 rfl (Nat.le_refl 0) (Nat.le_refl 0) ⟨rfl, rfl, rfl, h⟩
                          · have h := h.2 hc
                            show WP l mX12_pointText (rm d 0 0) noX _ 0 0 115 [(2, t), (0, x1)] [] N Λ σ12
                            exact r_vret d_X12_pointText_115 rfl (Nat.le_refl 0) (Nat.le_refl 0) ⟨rfl, rfl, rfl, h⟩
                        · have h := h.2 hc
                          intro τ18 eτ18
                          have h := h τ18 eτ18
                          show WP l mX12_pointText (rm d 0 0) noX _ 0 0 115 [(2, t), (0, x1)] [] N Λ τ18
                          exact r_vret d_X12_pointText_115 rfl (Nat.le_refl 0) (Nat.le_refl 0) ⟨rfl, rfl, rfl, h⟩
                      · have h := h.2 hc
                        show WP l mX12_pointText (rm d 0 0) noX _ 0 0 115 [(2, t), (0, x1)] [] N Λ σ12
                        exact r_vret d_X12_pointText_115 rfl (Nat.le_refl 0) (Nat.le_refl 0) ⟨rfl, rfl, rfl, h⟩
                    · have h := h.2 hc
                      refine r_iconst (x := 1) d_X12_pointText_107 ⟨by decide, by decide⟩ ?_
                      refine r_goto (tgt := 112) d_X12_pointText_108 rfl ?_
                      refine x_callVV (Y2 := mX12_must) (c := t) (As := [(0, 1)]) (S := []) d_X12_pointText_112 ok_mX12_must ml_X12_286 rfl (Nat.le_of_ble_eq_true rfl) (Nat.le_of_ble_eq_true rfl) rfl hd_1 kX12 o_t (c_X12_must (v_X12_must_0 o_t he_1 ?_))
                      refine ⟨fun hc => ?_, fun hc => ?_⟩
                      · have h := h.1 hc
                        refine ⟨fun hc => ?_, fun hc => ?_⟩
                        · have h := h.1 hc
                          refine ⟨fun hc => ?_, fun hc => ?_⟩
                          · have h := h.1 hc
                            intro τ19 eτ19
                            have h := h τ19 eτ19
                            intro τ20 eτ20
                            have h := h τ20 eτ20
                            show WP l mX12_pointText (rm d 0 0) noX _ 0 0 115 [(2, t), (0, x1)] [] N Λ τ20
                            exact r_vret d_X12_pointText_115 rfl (Nat.le_refl 0) (Nat.le_refl 0) ⟨rfl, rfl, rfl, h⟩
                          · have h := h.2 hc
                            show WP l mX12_pointText (rm d 0 0) noX _ 0 0 115 [(2, t), (0, x1)] [] N Λ σ12
                            exact r_vret d_X12_pointText_115 rfl (Nat.le_refl 0) (Nat.le_refl 0) ⟨rfl, rfl, rfl, h⟩
                        · have h := h.2 hc
                          intro τ21 eτ21
                          have h := h τ21 eτ21
                          show WP l mX12_pointText (rm d 0 0) noX _ 0 0 115 [(2, t), (0, x1)] [] N Λ τ21
                          exact r_vret d_X12_pointText_115 rfl (Nat.le_refl 0) (Nat.le_refl 0) ⟨rfl, rfl, rfl, h⟩
                      · have h := h.2 hc
                        show WP l mX12_pointText (rm d 0 0) noX _ 0 0 115 [(2, t), (0, x1)] [] N Λ σ12
                        exact r_vret d_X12_pointText_115 rfl (Nat.le_refl 0) (Nat.le_refl 0) ⟨rfl, rfl, rfl, h⟩
                · have h := h.2 hc
                  show WP l mX12_pointText (rm d 0 0) noX _ 0 0 83 [(2, t), (0, x1)] [] N Λ σ8
                  refine r_aload_n (x := t) d_X12_pointText_83 rfl o_t.1 ?_
                  refine r_iload_n (x := x1) d_X12_pointText_84 rfl ?_
                  refine r_iconst (x := 1) d_X12_pointText_85 ⟨by decide, by decide⟩ ?_
                  refine r_iadd d_X12_pointText_86 ?_
                  refine x_callVV (Y2 := mX12_pointText) (c := t) (As := [(0, (addI x1 1))]) (S := []) d_X12_pointText_87 ok_mX12_pointText ml_X12_303 rfl (Nat.le_of_ble_eq_true rfl) (Nat.le_of_ble_eq_true rfl) rfl hd_1 kX12 o_t (CV.mono h (fun σ22 h => ?_))
                  refine r_aload_n (x := t) d_X12_pointText_90 rfl o_t.1 ?_
                  refine r_iload_n (x := x1) d_X12_pointText_91 rfl ?_
                  refine r_iconst (x := 1) d_X12_pointText_92 ⟨by decide, by decide⟩ ?_
                  refine r_iadd d_X12_pointText_93 ?_
                  refine x_callVV (Y2 := mX12_pointText) (c := t) (As := [(0, (addI x1 1))]) (S := []) d_X12_pointText_94 ok_mX12_pointText ml_X12_303 rfl (Nat.le_of_ble_eq_true rfl) (Nat.le_of_ble_eq_true rfl) rfl hd_1 kX12 o_t (CV.mono h (fun σ23 h => ?_))
                  refine r_aload_n (x := t) d_X12_pointText_97 rfl o_t.1 ?_
                  refine r_aload_n (x := t) d_X12_pointText_98 rfl o_t.1 ?_
                  refine x_callVI (Y2 := mX12_see) (c := t) (As := []) (S := [(2, t)]) d_X12_pointText_99 ok_mX12_see ml_X12_264 rfl (Nat.le_of_ble_eq_true rfl) (Nat.le_of_ble_eq_true rfl) rfl hd_1 kX12 o_t (c_X12_see (v_X12_see_0 o_t f_t_tape ?_))
                  refine ⟨fun hc => ?_, fun hc => ?_⟩
                  · have h := h.1 hc
                    show WP l mX12_pointText (rm d 0 0) noX _ 0 0 102 [(2, t), (0, x1)] [(0, (-1)), (2, t)] N Λ σ23
                    refine r_bipush (x := 41) d_X12_pointText_102 ⟨by decide, by decide⟩ (by decide) ?_
                    refine r_ic_ne (tgt := 111) d_X12_pointText_104 rfl (fun _ => ?_) (fun hc => absurd hc (by decide))
                    refine r_iconst (x := 0) d_X12_pointText_111 ⟨by decide, by decide⟩ ?_
                    refine x_callVV (Y2 := mX12_must) (c := t) (As := [(0, 0)]) (S := []) d_X12_pointText_112 ok_mX12_must ml_X12_286 rfl (Nat.le_of_ble_eq_true rfl) (Nat.le_of_ble_eq_true rfl) rfl hd_1 kX12 o_t (c_X12_must (v_X12_must_0 o_t he_1 ?_))
                    refine ⟨fun hc => ?_, fun hc => ?_⟩
                    · have h := h.1 hc
                      refine ⟨fun hc => ?_, fun hc => ?_⟩
                      · have h := h.1 hc
                        refine ⟨fun hc => ?_, fun hc => ?_⟩
                        · have h := h.1 hc
                          intro τ24 eτ24
                          have h := h τ24 eτ24
                          intro τ25 eτ25
                          have h := h τ25 eτ25
                          show WP l mX12_pointText (rm d 0 0) noX _ 0 0 115 [(2, t), (0, x1)] [] N Λ τ25
                          exact r_vret d_X12_pointText_115 rfl (Nat.le_refl 0) (Nat.le_refl 0) ⟨rfl, rfl, rfl, h⟩
                        · have h := h.2 hc
                          show WP l mX12_pointText (rm d 0 0) noX _ 0 0 115 [(2, t), (0, x1)] [] N Λ σ23
                          exact r_vret d_X12_pointText_115 rfl (Nat.le_refl 0) (Nat.le_refl 0) ⟨rfl, rfl, rfl, h⟩
                      · have h := h.2 hc
                        intro τ26 eτ26
                        have h := h τ26 eτ26
                        show WP l mX12_pointText (rm d 0 0) noX _ 0 0 115 [(2, t), (0, x1)] [] N Λ τ26
                        exact r_vret d_X12_pointText_115 rfl (Nat.le_refl 0) (Nat.le_refl 0) ⟨rfl, rfl, rfl, h⟩
                    · have h := h.2 hc
                      show WP l mX12_pointText (rm d 0 0) noX _ 0 0 115 [(2, t), (0, x1)] [] N Λ σ23
                      exact r_vret d_X12_pointText_115 rfl (Nat.le_refl 0) (Nat.le_refl 0) ⟨rfl, rfl, rfl, h⟩
                  · have h := h.2 hc
                    refine ⟨h.1, ?_⟩
                    have h := h.2
                    show WP l mX12_pointText (rm d 0 0) noX _ 0 0 102 [(2, t), (0, x1)] [(0, (andI (σ23 t_tape (σ23 t 21)) 255)), (2, t)] N Λ σ23
                    refine r_bipush (x := 41) d_X12_pointText_102 ⟨by decide, by decide⟩ (by decide) ?_
                    refine r_ic_ne (tgt := 111) d_X12_pointText_104 rfl (fun hc => ?_) (fun hc => ?_)
                    · have h := h.1 hc
                      refine r_iconst (x := 0) d_X12_pointText_111 ⟨by decide, by decide⟩ ?_
                      refine x_callVV (Y2 := mX12_must) (c := t) (As := [(0, 0)]) (S := []) d_X12_pointText_112 ok_mX12_must ml_X12_286 rfl (Nat.le_of_ble_eq_true rfl) (Nat.le_of_ble_eq_true rfl) rfl hd_1 kX12 o_t (c_X12_must (v_X12_must_0 o_t he_1 ?_))
                      refine ⟨fun hc => ?_, fun hc => ?_⟩
                      · have h := h.1 hc
                        refine ⟨fun hc => ?_, fun hc => ?_⟩
                        · have h := h.1 hc
                          refine ⟨fun hc => ?_, fun hc => ?_⟩
                          · have h := h.1 hc
                            intro τ27 eτ27
                            have h := h τ27 eτ27
                            intro τ28 eτ28
                            have h := h τ28 eτ28
                            show WP l mX12_pointText (rm d 0 0) noX _ 0 0 115 [(2, t), (0, x1)] [] N Λ τ28
                            exact r_vret d_X12_pointText_115 rfl (Nat.le_refl 0) (Nat.le_refl 0) ⟨rfl, rfl, rfl, h⟩
                          · have h := h.2 hc
                            show WP l mX12_pointText (rm d 0 0) noX _ 0 0 115 [(2, t), (0, x1)] [] N Λ σ23
                            exact r_vret d_X12_pointText_115 rfl (Nat.le_refl 0) (Nat.le_refl 0) ⟨rfl, rfl, rfl, h⟩
                        · have h := h.2 hc
                          intro τ29 eτ29
                          have h := h τ29 eτ29
                          show WP l mX12_pointText (rm d 0 0) noX _ 0 0 115 [(2, t), (0, x1)] [] N Λ τ29
                          exact r_vret d_X12_pointText_115 rfl (Nat.le_refl 0) (Nat.le_refl 0) ⟨rfl, rfl, rfl, h⟩
                      · have h := h.2 hc
                        show WP l mX12_pointText (rm d 0 0) noX _ 0 0 115 [(2, t), (0, x1)] [] N Λ σ23
                        exact r_vret d_X12_pointText_115 rfl (Nat.le_refl 0) (Nat.le_refl 0) ⟨rfl, rfl, rfl, h⟩
                    · have h := h.2 hc
                      refine r_iconst (x := 1) d_X12_pointText_107 ⟨by decide, by decide⟩ ?_
                      refine r_goto (tgt := 112) d_X12_pointText_108 rfl ?_
                      refine x_callVV (Y2 := mX12_must) (c := t) (As := [(0, 1)]) (S := []) d_X12_pointText_112 ok_mX12_must ml_X12_286 rfl (Nat.le_of_ble_eq_true rfl) (Nat.le_of_ble_eq_true rfl) rfl hd_1 kX12 o_t (c_X12_must (v_X12_must_0 o_t he_1 ?_))
                      refine ⟨fun hc => ?_, fun hc => ?_⟩
                      · have h := h.1 hc
                        refine ⟨fun hc => ?_, fun hc => ?_⟩
                        · have h := h.1 hc
                          refine ⟨fun hc => ?_, fun hc => ?_⟩
                          · have h := h.1 hc
                            intro τ30 eτ30
                            have h := h τ30 eτ30
                            intro τ31 eτ31
                            have h := h τ31 eτ31
                            show WP l mX12_pointText (rm d 0 0) noX _ 0 0 115 [(2, t), (0, x1)] [] N Λ τ31
                            exact r_vret d_X12_pointText_115 rfl (Nat.le_refl 0) (Nat.le_refl 0) ⟨rfl, rfl, rfl, h⟩
                          · have h := h.2 hc
                            show WP l mX12_pointText (rm d 0 0) noX _ 0 0 115 [(2, t), (0, x1)] [] N Λ σ23
                            exact r_vret d_X12_pointText_115 rfl (Nat.le_refl 0) (Nat.le_refl 0) ⟨rfl, rfl, rfl, h⟩
                        · have h := h.2 hc
                          intro τ32 eτ32
                          have h := h τ32 eτ32
                          show WP l mX12_pointText (rm d 0 0) noX _ 0 0 115 [(2, t), (0, x1)] [] N Λ τ32
                          exact r_vret d_X12_pointText_115 rfl (Nat.le_refl 0) (Nat.le_refl 0) ⟨rfl, rfl, rfl, h⟩
                      · have h := h.2 hc
                        show WP l mX12_pointText (rm d 0 0) noX _ 0 0 115 [(2, t), (0, x1)] [] N Λ σ23
                        exact r_vret d_X12_pointText_115 rfl (Nat.le_refl 0) (Nat.le_refl 0) ⟨rfl, rfl, rfl, h⟩
              · have h := h.2 hc
                intro τ33 eτ33
                have h := h τ33 eτ33
                show WP l mX12_pointText (rm d 0 0) noX _ 0 0 83 [(2, t), (0, x1)] [] N Λ τ33
                refine r_aload_n (x := t) d_X12_pointText_83 rfl o_t.1 ?_
                refine r_iload_n (x := x1) d_X12_pointText_84 rfl ?_
                refine r_iconst (x := 1) d_X12_pointText_85 ⟨by decide, by decide⟩ ?_
                refine r_iadd d_X12_pointText_86 ?_
                refine x_callVV (Y2 := mX12_pointText) (c := t) (As := [(0, (addI x1 1))]) (S := []) d_X12_pointText_87 ok_mX12_pointText ml_X12_303 rfl (Nat.le_of_ble_eq_true rfl) (Nat.le_of_ble_eq_true rfl) rfl hd_1 kX12 o_t (CV.mono h (fun σ34 h => ?_))
                refine r_aload_n (x := t) d_X12_pointText_90 rfl o_t.1 ?_
                refine r_iload_n (x := x1) d_X12_pointText_91 rfl ?_
                refine r_iconst (x := 1) d_X12_pointText_92 ⟨by decide, by decide⟩ ?_
                refine r_iadd d_X12_pointText_93 ?_
                refine x_callVV (Y2 := mX12_pointText) (c := t) (As := [(0, (addI x1 1))]) (S := []) d_X12_pointText_94 ok_mX12_pointText ml_X12_303 rfl (Nat.le_of_ble_eq_true rfl) (Nat.le_of_ble_eq_true rfl) rfl hd_1 kX12 o_t (CV.mono h (fun σ35 h => ?_))
                refine r_aload_n (x := t) d_X12_pointText_97 rfl o_t.1 ?_
                refine r_aload_n (x := t) d_X12_pointText_98 rfl o_t.1 ?_
                refine x_callVI (Y2 := mX12_see) (c := t) (As := []) (S := [(2, t)]) d_X12_pointText_99 ok_mX12_see ml_X12_264 rfl (Nat.le_of_ble_eq_true rfl) (Nat.le_of_ble_eq_true rfl) rfl hd_1 kX12 o_t (c_X12_see (v_X12_see_0 o_t f_t_tape ?_))
                refine ⟨fun hc => ?_, fun hc => ?_⟩
                · have h := h.1 hc
                  show WP l mX12_pointText (rm d 0 0) noX _ 0 0 102 [(2, t), (0, x1)] [(0, (-1)), (2, t)] N Λ σ35
                  refine r_bipush (x := 41) d_X12_pointText_102 ⟨by decide, by decide⟩ (by decide) ?_
                  refine r_ic_ne (tgt := 111) d_X12_pointText_104 rfl (fun _ => ?_) (fun hc => absurd hc (by decide))
                  refine r_iconst (x := 0) d_X12_pointText_111 ⟨by decide, by decide⟩ ?_
                  refine x_callVV (Y2 := mX12_must) (c := t) (As := [(0, 0)]) (S := []) d_X12_pointText_112 ok_mX12_must ml_X12_286 rfl (Nat.le_of_ble_eq_true rfl) (Nat.le_of_ble_eq_true rfl) rfl hd_1 kX12 o_t (c_X12_must (v_X12_must_0 o_t he_1 ?_))
                  refine ⟨fun hc => ?_, fun hc => ?_⟩
                  · have h := h.1 hc
                    refine ⟨fun hc => ?_, fun hc => ?_⟩
                    · have h := h.1 hc
                      refine ⟨fun hc => ?_, fun hc => ?_⟩
                      · have h := h.1 hc
                        intro τ36 eτ36
                        have h := h τ36 eτ36
                        intro τ37 eτ37
                        have h := h τ37 eτ37
                        show WP l mX12_pointText (rm d 0 0) noX _ 0 0 115 [(2, t), (0, x1)] [] N Λ τ37
                        exact r_vret d_X12_pointText_115 rfl (Nat.le_refl 0) (Nat.le_refl 0) ⟨rfl, rfl, rfl, h⟩
                      · have h := h.2 hc
                        show WP l mX12_pointText (rm d 0 0) noX _ 0 0 115 [(2, t), (0, x1)] [] N Λ σ35
                        exact r_vret d_X12_pointText_115 rfl (Nat.le_refl 0) (Nat.le_refl 0) ⟨rfl, rfl, rfl, h⟩
                    · have h := h.2 hc
                      intro τ38 eτ38
                      have h := h τ38 eτ38
                      show WP l mX12_pointText (rm d 0 0) noX _ 0 0 115 [(2, t), (0, x1)] [] N Λ τ38
                      exact r_vret d_X12_pointText_115 rfl (Nat.le_refl 0) (Nat.le_refl 0) ⟨rfl, rfl, rfl, h⟩
                  · have h := h.2 hc
                    show WP l mX12_pointText (rm d 0 0) noX _ 0 0 115 [(2, t), (0, x1)] [] N Λ σ35
                    exact r_vret d_X12_pointText_115 rfl (Nat.le_refl 0) (Nat.le_refl 0) ⟨rfl, rfl, rfl, h⟩
                · have h := h.2 hc
                  refine ⟨h.1, ?_⟩
                  have h := h.2
                  show WP l mX12_pointText (rm d 0 0) noX _ 0 0 102 [(2, t), (0, x1)] [(0, (andI (σ35 t_tape (σ35 t 21)) 255)), (2, t)] N Λ σ35
                  refine r_bipush (x := 41) d_X12_pointText_102 ⟨by decide, by decide⟩ (by decide) ?_
                  refine r_ic_ne (tgt := 111) d_X12_pointText_104 rfl (fun hc => ?_) (fun hc => ?_)
                  · have h := h.1 hc
                    refine r_iconst (x := 0) d_X12_pointText_111 ⟨by decide, by decide⟩ ?_
                    refine x_callVV (Y2 := mX12_must) (c := t) (As := [(0, 0)]) (S := []) d_X12_pointText_112 ok_mX12_must ml_X12_286 rfl (Nat.le_of_ble_eq_true rfl) (Nat.le_of_ble_eq_true rfl) rfl hd_1 kX12 o_t (c_X12_must (v_X12_must_0 o_t he_1 ?_))
                    refine ⟨fun hc => ?_, fun hc => ?_⟩
                    · have h := h.1 hc
                      refine ⟨fun hc => ?_, fun hc => ?_⟩
                      · have h := h.1 hc
                        refine ⟨fun hc => ?_, fun hc => ?_⟩
                        · have h := h.1 hc
                          intro τ39 eτ39
                          have h := h τ39 eτ39
                          intro τ40 eτ40
                          have h := h τ40 eτ40
                          show WP l mX12_pointText (rm d 0 0) noX _ 0 0 115 [(2, t), (0, x1)] [] N Λ τ40
                          exact r_vret d_X12_pointText_115 rfl (Nat.le_refl 0) (Nat.le_refl 0) ⟨rfl, rfl, rfl, h⟩
                        · have h := h.2 hc
                          show WP l mX12_pointText (rm d 0 0) noX _ 0 0 115 [(2, t), (0, x1)] [] N Λ σ35
                          exact r_vret d_X12_pointText_115 rfl (Nat.le_refl 0) (Nat.le_refl 0) ⟨rfl, rfl, rfl, h⟩
                      · have h := h.2 hc
                        intro τ41 eτ41
                        have h := h τ41 eτ41
                        show WP l mX12_pointText (rm d 0 0) noX _ 0 0 115 [(2, t), (0, x1)] [] N Λ τ41
                        exact r_vret d_X12_pointText_115 rfl (Nat.le_refl 0) (Nat.le_refl 0) ⟨rfl, rfl, rfl, h⟩
                    · have h := h.2 hc
                      show WP l mX12_pointText (rm d 0 0) noX _ 0 0 115 [(2, t), (0, x1)] [] N Λ σ35
                      exact r_vret d_X12_pointText_115 rfl (Nat.le_refl 0) (Nat.le_refl 0) ⟨rfl, rfl, rfl, h⟩
                  · have h := h.2 hc
                    refine r_iconst (x := 1) d_X12_pointText_107 ⟨by decide, by decide⟩ ?_
                    refine r_goto (tgt := 112) d_X12_pointText_108 rfl ?_
                    refine x_callVV (Y2 := mX12_must) (c := t) (As := [(0, 1)]) (S := []) d_X12_pointText_112 ok_mX12_must ml_X12_286 rfl (Nat.le_of_ble_eq_true rfl) (Nat.le_of_ble_eq_true rfl) rfl hd_1 kX12 o_t (c_X12_must (v_X12_must_0 o_t he_1 ?_))
                    refine ⟨fun hc => ?_, fun hc => ?_⟩
                    · have h := h.1 hc
                      refine ⟨fun hc => ?_, fun hc => ?_⟩
                      · have h := h.1 hc
                        refine ⟨fun hc => ?_, fun hc => ?_⟩
                        · have h := h.1 hc
                          intro τ42 eτ42
                          have h := h τ42 eτ42
                          intro τ43 eτ43
                          have h := h τ43 eτ43
                          show WP l mX12_pointText (rm d 0 0) noX _ 0 0 115 [(2, t), (0, x1)] [] N Λ τ43
                          exact r_vret d_X12_pointText_115 rfl (Nat.le_refl 0) (Nat.le_refl 0) ⟨rfl, rfl, rfl, h⟩
                        · have h := h.2 hc
                          show WP l mX12_pointText (rm d 0 0) noX _ 0 0 115 [(2, t), (0, x1)] [] N Λ σ35
                          exact r_vret d_X12_pointText_115 rfl (Nat.le_refl 0) (Nat.le_refl 0) ⟨rfl, rfl, rfl, h⟩
                      · have h := h.2 hc
                        intro τ44 eτ44
                        have h := h τ44 eτ44
                        show WP l mX12_pointText (rm d 0 0) noX _ 0 0 115 [(2, t), (0, x1)] [] N Λ τ44
                        exact r_vret d_X12_pointText_115 rfl (Nat.le_refl 0) (Nat.le_refl 0) ⟨rfl, rfl, rfl, h⟩
                    · have h := h.2 hc
                      show WP l mX12_pointText (rm d 0 0) noX _ 0 0 115 [(2, t), (0, x1)] [] N Λ σ35
                      exact r_vret d_X12_pointText_115 rfl (Nat.le_refl 0) (Nat.le_refl 0) ⟨rfl, rfl, rfl, h⟩
            · have h := h.2 hc
              show WP l mX12_pointText (rm d 0 0) noX _ 0 0 83 [(2, t), (0, x1)] [] N Λ σ8
              refine r_aload_n (x := t) d_X12_pointText_83 rfl o_t.1 ?_
              refine r_iload_n (x := x1) d_X12_pointText_84 rfl ?_
              refine r_iconst (x := 1) d_X12_pointText_85 ⟨by decide, by decide⟩ ?_
              refine r_iadd d_X12_pointText_86 ?_
              refine x_callVV (Y2 := mX12_pointText) (c := t) (As := [(0, (addI x1 1))]) (S := []) d_X12_pointText_87 ok_mX12_pointText ml_X12_303 rfl (Nat.le_of_ble_eq_true rfl) (Nat.le_of_ble_eq_true rfl) rfl hd_1 kX12 o_t (CV.mono h (fun σ45 h => ?_))
              refine r_aload_n (x := t) d_X12_pointText_90 rfl o_t.1 ?_
              refine r_iload_n (x := x1) d_X12_pointText_91 rfl ?_
              refine r_iconst (x := 1) d_X12_pointText_92 ⟨by decide, by decide⟩ ?_
              refine r_iadd d_X12_pointText_93 ?_
              refine x_callVV (Y2 := mX12_pointText) (c := t) (As := [(0, (addI x1 1))]) (S := []) d_X12_pointText_94 ok_mX12_pointText ml_X12_303 rfl (Nat.le_of_ble_eq_true rfl) (Nat.le_of_ble_eq_true rfl) rfl hd_1 kX12 o_t (CV.mono h (fun σ46 h => ?_))
              refine r_aload_n (x := t) d_X12_pointText_97 rfl o_t.1 ?_
              refine r_aload_n (x := t) d_X12_pointText_98 rfl o_t.1 ?_
              refine x_callVI (Y2 := mX12_see) (c := t) (As := []) (S := [(2, t)]) d_X12_pointText_99 ok_mX12_see ml_X12_264 rfl (Nat.le_of_ble_eq_true rfl) (Nat.le_of_ble_eq_true rfl) rfl hd_1 kX12 o_t (c_X12_see (v_X12_see_0 o_t f_t_tape ?_))
              refine ⟨fun hc => ?_, fun hc => ?_⟩
              · have h := h.1 hc
                show WP l mX12_pointText (rm d 0 0) noX _ 0 0 102 [(2, t), (0, x1)] [(0, (-1)), (2, t)] N Λ σ46
                refine r_bipush (x := 41) d_X12_pointText_102 ⟨by decide, by decide⟩ (by decide) ?_
                refine r_ic_ne (tgt := 111) d_X12_pointText_104 rfl (fun _ => ?_) (fun hc => absurd hc (by decide))
                refine r_iconst (x := 0) d_X12_pointText_111 ⟨by decide, by decide⟩ ?_
                refine x_callVV (Y2 := mX12_must) (c := t) (As := [(0, 0)]) (S := []) d_X12_pointText_112 ok_mX12_must ml_X12_286 rfl (Nat.le_of_ble_eq_true rfl) (Nat.le_of_ble_eq_true rfl) rfl hd_1 kX12 o_t (c_X12_must (v_X12_must_0 o_t he_1 ?_))
                refine ⟨fun hc => ?_, fun hc => ?_⟩
                · have h := h.1 hc
                  refine ⟨fun hc => ?_, fun hc => ?_⟩
                  · have h := h.1 hc
                    refine ⟨fun hc => ?_, fun hc => ?_⟩
                    · have h := h.1 hc
                      intro τ47 eτ47
                      have h := h τ47 eτ47
                      intro τ48 eτ48
                      have h := h τ48 eτ48
                      show WP l mX12_pointText (rm d 0 0) noX _ 0 0 115 [(2, t), (0, x1)] [] N Λ τ48
                      exact r_vret d_X12_pointText_115 rfl (Nat.le_refl 0) (Nat.le_refl 0) ⟨rfl, rfl, rfl, h⟩
                    · have h := h.2 hc
                      show WP l mX12_pointText (rm d 0 0) noX _ 0 0 115 [(2, t), (0, x1)] [] N Λ σ46
                      exact r_vret d_X12_pointText_115 rfl (Nat.le_refl 0) (Nat.le_refl 0) ⟨rfl, rfl, rfl, h⟩
                  · have h := h.2 hc
                    intro τ49 eτ49
                    have h := h τ49 eτ49
                    show WP l mX12_pointText (rm d 0 0) noX _ 0 0 115 [(2, t), (0, x1)] [] N Λ τ49
                    exact r_vret d_X12_pointText_115 rfl (Nat.le_refl 0) (Nat.le_refl 0) ⟨rfl, rfl, rfl, h⟩
                · have h := h.2 hc
                  show WP l mX12_pointText (rm d 0 0) noX _ 0 0 115 [(2, t), (0, x1)] [] N Λ σ46
                  exact r_vret d_X12_pointText_115 rfl (Nat.le_refl 0) (Nat.le_refl 0) ⟨rfl, rfl, rfl, h⟩
              · have h := h.2 hc
                refine ⟨h.1, ?_⟩
                have h := h.2
                show WP l mX12_pointText (rm d 0 0) noX _ 0 0 102 [(2, t), (0, x1)] [(0, (andI (σ46 t_tape (σ46 t 21)) 255)), (2, t)] N Λ σ46
                refine r_bipush (x := 41) d_X12_pointText_102 ⟨by decide, by decide⟩ (by decide) ?_
                refine r_ic_ne (tgt := 111) d_X12_pointText_104 rfl (fun hc => ?_) (fun hc => ?_)
                · have h := h.1 hc
                  refine r_iconst (x := 0) d_X12_pointText_111 ⟨by decide, by decide⟩ ?_
                  refine x_callVV (Y2 := mX12_must) (c := t) (As := [(0, 0)]) (S := []) d_X12_pointText_112 ok_mX12_must ml_X12_286 rfl (Nat.le_of_ble_eq_true rfl) (Nat.le_of_ble_eq_true rfl) rfl hd_1 kX12 o_t (c_X12_must (v_X12_must_0 o_t he_1 ?_))
                  refine ⟨fun hc => ?_, fun hc => ?_⟩
                  · have h := h.1 hc
                    refine ⟨fun hc => ?_, fun hc => ?_⟩
                    · have h := h.1 hc
                      refine ⟨fun hc => ?_, fun hc => ?_⟩
                      · have h := h.1 hc
                        intro τ50 eτ50
                        have h := h τ50 eτ50
                        intro τ51 eτ51
                        have h := h τ51 eτ51
                        show WP l mX12_pointText (rm d 0 0) noX _ 0 0 115 [(2, t), (0, x1)] [] N Λ τ51
                        exact r_vret d_X12_pointText_115 rfl (Nat.le_refl 0) (Nat.le_refl 0) ⟨rfl, rfl, rfl, h⟩
                      · have h := h.2 hc
                        show WP l mX12_pointText (rm d 0 0) noX _ 0 0 115 [(2, t), (0, x1)] [] N Λ σ46
                        exact r_vret d_X12_pointText_115 rfl (Nat.le_refl 0) (Nat.le_refl 0) ⟨rfl, rfl, rfl, h⟩
                    · have h := h.2 hc
                      intro τ52 eτ52
                      have h := h τ52 eτ52
                      show WP l mX12_pointText (rm d 0 0) noX _ 0 0 115 [(2, t), (0, x1)] [] N Λ τ52
                      exact r_vret d_X12_pointText_115 rfl (Nat.le_refl 0) (Nat.le_refl 0) ⟨rfl, rfl, rfl, h⟩
                  · have h := h.2 hc
                    show WP l mX12_pointText (rm d 0 0) noX _ 0 0 115 [(2, t), (0, x1)] [] N Λ σ46
                    exact r_vret d_X12_pointText_115 rfl (Nat.le_refl 0) (Nat.le_refl 0) ⟨rfl, rfl, rfl, h⟩
                · have h := h.2 hc
                  refine r_iconst (x := 1) d_X12_pointText_107 ⟨by decide, by decide⟩ ?_
                  refine r_goto (tgt := 112) d_X12_pointText_108 rfl ?_
                  refine x_callVV (Y2 := mX12_must) (c := t) (As := [(0, 1)]) (S := []) d_X12_pointText_112 ok_mX12_must ml_X12_286 rfl (Nat.le_of_ble_eq_true rfl) (Nat.le_of_ble_eq_true rfl) rfl hd_1 kX12 o_t (c_X12_must (v_X12_must_0 o_t he_1 ?_))
                  refine ⟨fun hc => ?_, fun hc => ?_⟩
                  · have h := h.1 hc
                    refine ⟨fun hc => ?_, fun hc => ?_⟩
                    · have h := h.1 hc
                      refine ⟨fun hc => ?_, fun hc => ?_⟩
                      · have h := h.1 hc
                        intro τ53 eτ53
                        have h := h τ53 eτ53
                        intro τ54 eτ54
                        have h := h τ54 eτ54
                        show WP l mX12_pointText (rm d 0 0) noX _ 0 0 115 [(2, t), (0, x1)] [] N Λ τ54
                        exact r_vret d_X12_pointText_115 rfl (Nat.le_refl 0) (Nat.le_refl 0) ⟨rfl, rfl, rfl, h⟩
                      · have h := h.2 hc
                        show WP l mX12_pointText (rm d 0 0) noX _ 0 0 115 [(2, t), (0, x1)] [] N Λ σ46
                        exact r_vret d_X12_pointText_115 rfl (Nat.le_refl 0) (Nat.le_refl 0) ⟨rfl, rfl, rfl, h⟩
                    · have h := h.2 hc
                      intro τ55 eτ55
                      have h := h τ55 eτ55
                      show WP l mX12_pointText (rm d 0 0) noX _ 0 0 115 [(2, t), (0, x1)] [] N Λ τ55
                      exact r_vret d_X12_pointText_115 rfl (Nat.le_refl 0) (Nat.le_refl 0) ⟨rfl, rfl, rfl, h⟩
                  · have h := h.2 hc
                    show WP l mX12_pointText (rm d 0 0) noX _ 0 0 115 [(2, t), (0, x1)] [] N Λ σ46
                    exact r_vret d_X12_pointText_115 rfl (Nat.le_refl 0) (Nat.le_refl 0) ⟨rfl, rfl, rfl, h⟩
          · have h := h.2 hc
            refine ⟨h.1, ?_⟩
            have h := h.2
            show WP l mX12_pointText (rm d 0 0) noX _ 0 0 70 [(2, t), (0, x1)] [(0, (andI (σ8 t_tape (σ8 t 21)) 255)), (2, t)] N Λ σ8
            refine r_bipush (x := 94) d_X12_pointText_70 ⟨by decide, by decide⟩ (by decide) ?_
            refine r_ic_ne (tgt := 79) d_X12_pointText_72 rfl (fun hc => ?_) (fun hc => ?_)
            · have h := h.1 hc
              refine r_iconst (x := 0) d_X12_pointText_79 ⟨by decide, by decide⟩ ?_
              refine x_callVV (Y2 := mX12_must) (c := t) (As := [(0, 0)]) (S := []) d_X12_pointText_80 ok_mX12_must ml_X12_286 rfl (Nat.le_of_ble_eq_true rfl) (Nat.le_of_ble_eq_true rfl) rfl hd_1 kX12 o_t (c_X12_must (v_X12_must_0 o_t he_1 ?_))
              refine ⟨fun hc => ?_, fun hc => ?_⟩
              · have h := h.1 hc
                refine ⟨fun hc => ?_, fun hc => ?_⟩
                · have h := h.1 hc
                  refine ⟨fun hc => ?_, fun hc => ?_⟩
                  · have h := h.1 hc
                    intro τ56 eτ56
                    have h := h τ56 eτ56
                    intro τ57 eτ57
                    have h := h τ57 eτ57
                    show WP l mX12_pointText (rm d 0 0) noX _ 0 0 83 [(2, t), (0, x1)] [] N Λ τ57
                    refine r_aload_n (x := t) d_X12_pointText_83 rfl o_t.1 ?_
                    refine r_iload_n (x := x1) d_X12_pointText_84 rfl ?_
                    refine r_iconst (x := 1) d_X12_pointText_85 ⟨by decide, by decide⟩ ?_
                    refine r_iadd d_X12_pointText_86 ?_
                    refine x_callVV (Y2 := mX12_pointText) (c := t) (As := [(0, (addI x1 1))]) (S := []) d_X12_pointText_87 ok_mX12_pointText ml_X12_303 rfl (Nat.le_of_ble_eq_true rfl) (Nat.le_of_ble_eq_true rfl) rfl hd_1 kX12 o_t (CV.mono h (fun σ58 h => ?_))
                    refine r_aload_n (x := t) d_X12_pointText_90 rfl o_t.1 ?_
                    refine r_iload_n (x := x1) d_X12_pointText_91 rfl ?_
                    refine r_iconst (x := 1) d_X12_pointText_92 ⟨by decide, by decide⟩ ?_
                    refine r_iadd d_X12_pointText_93 ?_
                    refine x_callVV (Y2 := mX12_pointText) (c := t) (As := [(0, (addI x1 1))]) (S := []) d_X12_pointText_94 ok_mX12_pointText ml_X12_303 rfl (Nat.le_of_ble_eq_true rfl) (Nat.le_of_ble_eq_true rfl) rfl hd_1 kX12 o_t (CV.mono h (fun σ59 h => ?_))
                    refine r_aload_n (x := t) d_X12_pointText_97 rfl o_t.1 ?_
                    refine r_aload_n (x := t) d_X12_pointText_98 rfl o_t.1 ?_
                    refine x_callVI (Y2 := mX12_see) (c := t) (As := []) (S := [(2, t)]) d_X12_pointText_99 ok_mX12_see ml_X12_264 rfl (Nat.le_of_ble_eq_true rfl) (Nat.le_of_ble_eq_true rfl) rfl hd_1 kX12 o_t (c_X12_see (v_X12_see_0 o_t f_t_tape ?_))
                    refine ⟨fun hc => ?_, fun hc => ?_⟩
                    · have h := h.1 hc
                      show WP l mX12_pointText (rm d 0 0) noX _ 0 0 102 [(2, t), (0, x1)] [(0, (-1)), (2, t)] N Λ σ59
                      refine r_bipush (x := 41) d_X12_pointText_102 ⟨by decide, by decide⟩ (by decide) ?_
                      refine r_ic_ne (tgt := 111) d_X12_pointText_104 rfl (fun _ => ?_) (fun hc => absurd hc (by decide))
                      refine r_iconst (x := 0) d_X12_pointText_111 ⟨by decide, by decide⟩ ?_
                      refine x_callVV (Y2 := mX12_must) (c := t) (As := [(0, 0)]) (S := []) d_X12_pointText_112 ok_mX12_must ml_X12_286 rfl (Nat.le_of_ble_eq_true rfl) (Nat.le_of_ble_eq_true rfl) rfl hd_1 kX12 o_t (c_X12_must (v_X12_must_0 o_t he_1 ?_))
                      refine ⟨fun hc => ?_, fun hc => ?_⟩
                      · have h := h.1 hc
                        refine ⟨fun hc => ?_, fun hc => ?_⟩
                        · have h := h.1 hc
                          refine ⟨fun hc => ?_, fun hc => ?_⟩
                          · have h := h.1 hc
                            intro τ60 eτ60
                            have h := h τ60 eτ60
                            intro τ61 eτ61
                            have h := h τ61 eτ61
                            show WP l mX12_pointText (rm d 0 0) noX _ 0 0 115 [(2, t), (0, x1)] [] N Λ τ61
                            exact r_vret d_X12_pointText_115 rfl (Nat.le_refl 0) (Nat.le_refl 0) ⟨rfl, rfl, rfl, h⟩
                          · have h := h.2 hc
                            show WP l mX12_pointText (rm d 0 0) noX _ 0 0 115 [(2, t), (0, x1)] [] N Λ σ59
                            exact r_vret d_X12_pointText_115 rfl (Nat.le_refl 0) (Nat.le_refl 0) ⟨rfl, rfl, rfl, h⟩
                        · have h := h.2 hc
                          intro τ62 eτ62
                          have h := h τ62 eτ62
                          show WP l mX12_pointText (rm d 0 0) noX _ 0 0 115 [(2, t), (0, x1)] [] N Λ τ62
                          exact r_vret d_X12_pointText_115 rfl (Nat.le_refl 0) (Nat.le_refl 0) ⟨rfl, rfl, rfl, h⟩
                      · have h := h.2 hc
                        show WP l mX12_pointText (rm d 0 0) noX _ 0 0 115 [(2, t), (0, x1)] [] N Λ σ59
                        exact r_vret d_X12_pointText_115 rfl (Nat.le_refl 0) (Nat.le_refl 0) ⟨rfl, rfl, rfl, h⟩
                    · have h := h.2 hc
                      refine ⟨h.1, ?_⟩
                      have h := h.2
                      show WP l mX12_pointText (rm d 0 0) noX _ 0 0 102 [(2, t), (0, x1)] [(0, (andI (σ59 t_tape (σ59 t 21)) 255)), (2, t)] N Λ σ59
                      refine r_bipush (x := 41) d_X12_pointText_102 ⟨by decide, by decide⟩ (by decide) ?_
                      refine r_ic_ne (tgt := 111) d_X12_pointText_104 rfl (fun hc => ?_) (fun hc => ?_)
                      · have h := h.1 hc
                        refine r_iconst (x := 0) d_X12_pointText_111 ⟨by decide, by decide⟩ ?_
                        refine x_callVV (Y2 := mX12_must) (c := t) (As := [(0, 0)]) (S := []) d_X12_pointText_112 ok_mX12_must ml_X12_286 rfl (Nat.le_of_ble_eq_true rfl) (Nat.le_of_ble_eq_true rfl) rfl hd_1 kX12 o_t (c_X12_must (v_X12_must_0 o_t he_1 ?_))
                        refine ⟨fun hc => ?_, fun hc => ?_⟩
                        · have h := h.1 hc
                          refine ⟨fun hc => ?_, fun hc => ?_⟩
                          · have h := h.1 hc
                            refine ⟨fun hc => ?_, fun hc => ?_⟩
                            · have h := h.1 hc
                              intro τ63 eτ63
                              have h := h τ63 eτ63
                              intro τ64 eτ64
                              have h := h τ64 eτ64
                              show WP l mX12_pointText (rm d 0 0) noX _ 0 0 115 [(2, t), (0, x1)] [] N Λ τ64
                              exact r_vret d_X12_pointText_115 rfl (Nat.le_refl 0) (Nat.le_refl 0) ⟨rfl, rfl, rfl, h⟩
                            · have h := h.2 hc
                              show WP l mX12_pointText (rm d 0 0) noX _ 0 0 115 [(2, t), (0, x1)] [] N Λ σ59
                              exact r_vret d_X12_pointText_115 rfl (Nat.le_refl 0) (Nat.le_refl 0) ⟨rfl, rfl, rfl, h⟩
                          · have h := h.2 hc
                            intro τ65 eτ65
                            have h := h τ65 eτ65
                            show WP l mX12_pointText (rm d 0 0) noX _ 0 0 115 [(2, t), (0, x1)] [] N Λ τ65
                            exact r_vret d_X12_pointText_115 rfl (Nat.le_refl 0) (Nat.le_refl 0) ⟨rfl, rfl, rfl, h⟩
                        · have h := h.2 hc
                          show WP l mX12_pointText (rm d 0 0) noX _ 0 0 115 [(2, t), (0, x1)] [] N Λ σ59
                          exact r_vret d_X12_pointText_115 rfl (Nat.le_refl 0) (Nat.le_refl 0) ⟨rfl, rfl, rfl, h⟩
                      · have h := h.2 hc
                        refine r_iconst (x := 1) d_X12_pointText_107 ⟨by decide, by decide⟩ ?_
                        refine r_goto (tgt := 112) d_X12_pointText_108 rfl ?_
                        refine x_callVV (Y2 := mX12_must) (c := t) (As := [(0, 1)]) (S := []) d_X12_pointText_112 ok_mX12_must ml_X12_286 rfl (Nat.le_of_ble_eq_true rfl) (Nat.le_of_ble_eq_true rfl) rfl hd_1 kX12 o_t (c_X12_must (v_X12_must_0 o_t he_1 ?_))
                        refine ⟨fun hc => ?_, fun hc => ?_⟩
                        · have h := h.1 hc
                          refine ⟨fun hc => ?_, fun hc => ?_⟩
                          · have h := h.1 hc
                            refine ⟨fun hc => ?_, fun hc => ?_⟩
                            · have h := h.1 hc
                              intro τ66 eτ66
                              have h := h τ66 eτ66
                              intro τ67 eτ67
                              have h := h τ67 eτ67
                              show WP l mX12_pointText (rm d 0 0) noX _ 0 0 115 [(2, t), (0, x1)] [] N Λ τ67
                              exact r_vret d_X12_pointText_115 rfl (Nat.le_refl 0) (Nat.le_refl 0) ⟨rfl, rfl, rfl, h⟩
                            · have h := h.2 hc
                              show WP l mX12_pointText (rm d 0 0) noX _ 0 0 115 [(2, t), (0, x1)] [] N Λ σ59
                              exact r_vret d_X12_pointText_115 rfl (Nat.le_refl 0) (Nat.le_refl 0) ⟨rfl, rfl, rfl, h⟩
                          · have h := h.2 hc
                            intro τ68 eτ68
                            have h := h τ68 eτ68
                            show WP l mX12_pointText (rm d 0 0) noX _ 0 0 115 [(2, t), (0, x1)] [] N Λ τ68
                            exact r_vret d_X12_pointText_115 rfl (Nat.le_refl 0) (Nat.le_refl 0) ⟨rfl, rfl, rfl, h⟩
                        · have h := h.2 hc
                          show WP l mX12_pointText (rm d 0 0) noX _ 0 0 115 [(2, t), (0, x1)] [] N Λ σ59
                          exact r_vret d_X12_pointText_115 rfl (Nat.le_refl 0) (Nat.le_refl 0) ⟨rfl, rfl, rfl, h⟩
                  · have h := h.2 hc
                    show WP l mX12_pointText (rm d 0 0) noX _ 0 0 83 [(2, t), (0, x1)] [] N Λ σ8
                    refine r_aload_n (x := t) d_X12_pointText_83 rfl o_t.1 ?_
                    refine r_iload_n (x := x1) d_X12_pointText_84 rfl ?_
                    refine r_iconst (x := 1) d_X12_pointText_85 ⟨by decide, by decide⟩ ?_
                    refine r_iadd d_X12_pointText_86 ?_
                    refine x_callVV (Y2 := mX12_pointText) (c := t) (As := [(0, (addI x1 1))]) (S := []) d_X12_pointText_87 ok_mX12_pointText ml_X12_303 rfl (Nat.le_of_ble_eq_true rfl) (Nat.le_of_ble_eq_true rfl) rfl hd_1 kX12 o_t (CV.mono h (fun σ69 h => ?_))
                    refine r_aload_n (x := t) d_X12_pointText_90 rfl o_t.1 ?_
                    refine r_iload_n (x := x1) d_X12_pointText_91 rfl ?_
                    refine r_iconst (x := 1) d_X12_pointText_92 ⟨by decide, by decide⟩ ?_
                    refine r_iadd d_X12_pointText_93 ?_
                    refine x_callVV (Y2 := mX12_pointText) (c := t) (As := [(0, (addI x1 1))]) (S := []) d_X12_pointText_94 ok_mX12_pointText ml_X12_303 rfl (Nat.le_of_ble_eq_true rfl) (Nat.le_of_ble_eq_true rfl) rfl hd_1 kX12 o_t (CV.mono h (fun σ70 h => ?_))
                    refine r_aload_n (x := t) d_X12_pointText_97 rfl o_t.1 ?_
                    refine r_aload_n (x := t) d_X12_pointText_98 rfl o_t.1 ?_
                    refine x_callVI (Y2 := mX12_see) (c := t) (As := []) (S := [(2, t)]) d_X12_pointText_99 ok_mX12_see ml_X12_264 rfl (Nat.le_of_ble_eq_true rfl) (Nat.le_of_ble_eq_true rfl) rfl hd_1 kX12 o_t (c_X12_see (v_X12_see_0 o_t f_t_tape ?_))
                    refine ⟨fun hc => ?_, fun hc => ?_⟩
                    · have h := h.1 hc
                      show WP l mX12_pointText (rm d 0 0) noX _ 0 0 102 [(2, t), (0, x1)] [(0, (-1)), (2, t)] N Λ σ70
                      refine r_bipush (x := 41) d_X12_pointText_102 ⟨by decide, by decide⟩ (by decide) ?_
                      refine r_ic_ne (tgt := 111) d_X12_pointText_104 rfl (fun _ => ?_) (fun hc => absurd hc (by decide))
                      refine r_iconst (x := 0) d_X12_pointText_111 ⟨by decide, by decide⟩ ?_
                      refine x_callVV (Y2 := mX12_must) (c := t) (As := [(0, 0)]) (S := []) d_X12_pointText_112 ok_mX12_must ml_X12_286 rfl (Nat.le_of_ble_eq_true rfl) (Nat.le_of_ble_eq_true rfl) rfl hd_1 kX12 o_t (c_X12_must (v_X12_must_0 o_t he_1 ?_))
                      refine ⟨fun hc => ?_, fun hc => ?_⟩
                      · have h := h.1 hc
                        refine ⟨fun hc => ?_, fun hc => ?_⟩
                        · have h := h.1 hc
                          refine ⟨fun hc => ?_, fun hc => ?_⟩
                          · have h := h.1 hc
                            intro τ71 eτ71
                            have h := h τ71 eτ71
                            intro τ72 eτ72
                            have h := h τ72 eτ72
                            show WP l mX12_pointText (rm d 0 0) noX _ 0 0 115 [(2, t), (0, x1)] [] N Λ τ72
                            exact r_vret d_X12_pointText_115 rfl (Nat.le_refl 0) (Nat.le_refl 0) ⟨rfl, rfl, rfl, h⟩
                          · have h := h.2 hc
                            show WP l mX12_pointText (rm d 0 0) noX _ 0 0 115 [(2, t), (0, x1)] [] N Λ σ70
                            exact r_vret d_X12_pointText_115 rfl (Nat.le_refl 0) (Nat.le_refl 0) ⟨rfl, rfl, rfl, h⟩
                        · have h := h.2 hc
                          intro τ73 eτ73
                          have h := h τ73 eτ73
                          show WP l mX12_pointText (rm d 0 0) noX _ 0 0 115 [(2, t), (0, x1)] [] N Λ τ73
                          exact r_vret d_X12_pointText_115 rfl (Nat.le_refl 0) (Nat.le_refl 0) ⟨rfl, rfl, rfl, h⟩
                      · have h := h.2 hc
                        show WP l mX12_pointText (rm d 0 0) noX _ 0 0 115 [(2, t), (0, x1)] [] N Λ σ70
                        exact r_vret d_X12_pointText_115 rfl (Nat.le_refl 0) (Nat.le_refl 0) ⟨rfl, rfl, rfl, h⟩
                    · have h := h.2 hc
                      refine ⟨h.1, ?_⟩
                      have h := h.2
                      show WP l mX12_pointText (rm d 0 0) noX _ 0 0 102 [(2, t), (0, x1)] [(0, (andI (σ70 t_tape (σ70 t 21)) 255)), (2, t)] N Λ σ70
                      refine r_bipush (x := 41) d_X12_pointText_102 ⟨by decide, by decide⟩ (by decide) ?_
                      refine r_ic_ne (tgt := 111) d_X12_pointText_104 rfl (fun hc => ?_) (fun hc => ?_)
                      · have h := h.1 hc
                        refine r_iconst (x := 0) d_X12_pointText_111 ⟨by decide, by decide⟩ ?_
                        refine x_callVV (Y2 := mX12_must) (c := t) (As := [(0, 0)]) (S := []) d_X12_pointText_112 ok_mX12_must ml_X12_286 rfl (Nat.le_of_ble_eq_true rfl) (Nat.le_of_ble_eq_true rfl) rfl hd_1 kX12 o_t (c_X12_must (v_X12_must_0 o_t he_1 ?_))
                        refine ⟨fun hc => ?_, fun hc => ?_⟩
                        · have h := h.1 hc
                          refine ⟨fun hc => ?_, fun hc => ?_⟩
                          · have h := h.1 hc
                            refine ⟨fun hc => ?_, fun hc => ?_⟩
                            · have h := h.1 hc
                              intro τ74 eτ74
                              have h := h τ74 eτ74
                              intro τ75 eτ75
                              have h := h τ75 eτ75
                              show WP l mX12_pointText (rm d 0 0) noX _ 0 0 115 [(2, t), (0, x1)] [] N Λ τ75
                              exact r_vret d_X12_pointText_115 rfl (Nat.le_refl 0) (Nat.le_refl 0) ⟨rfl, rfl, rfl, h⟩
                            · have h := h.2 hc
                              show WP l mX12_pointText (rm d 0 0) noX _ 0 0 115 [(2, t), (0, x1)] [] N Λ σ70
                              exact r_vret d_X12_pointText_115 rfl (Nat.le_refl 0) (Nat.le_refl 0) ⟨rfl, rfl, rfl, h⟩
                          · have h := h.2 hc
                            intro τ76 eτ76
                            have h := h τ76 eτ76
                            show WP l mX12_pointText (rm d 0 0) noX _ 0 0 115 [(2, t), (0, x1)] [] N Λ τ76
                            exact r_vret d_X12_pointText_115 rfl (Nat.le_refl 0) (Nat.le_refl 0) ⟨rfl, rfl, rfl, h⟩
                        · have h := h.2 hc
                          show WP l mX12_pointText (rm d 0 0) noX _ 0 0 115 [(2, t), (0, x1)] [] N Λ σ70
                          exact r_vret d_X12_pointText_115 rfl (Nat.le_refl 0) (Nat.le_refl 0) ⟨rfl, rfl, rfl, h⟩
                      · have h := h.2 hc
                        refine r_iconst (x := 1) d_X12_pointText_107 ⟨by decide, by decide⟩ ?_
                        refine r_goto (tgt := 112) d_X12_pointText_108 rfl ?_
                        refine x_callVV (Y2 := mX12_must) (c := t) (As := [(0, 1)]) (S := []) d_X12_pointText_112 ok_mX12_must ml_X12_286 rfl (Nat.le_of_ble_eq_true rfl) (Nat.le_of_ble_eq_true rfl) rfl hd_1 kX12 o_t (c_X12_must (v_X12_must_0 o_t he_1 ?_))
                        refine ⟨fun hc => ?_, fun hc => ?_⟩
                        · have h := h.1 hc
                          refine ⟨fun hc => ?_, fun hc => ?_⟩
                          · have h := h.1 hc
                            refine ⟨fun hc => ?_, fun hc => ?_⟩
                            · have h := h.1 hc
                              intro τ77 eτ77
                              have h := h τ77 eτ77
                              intro τ78 eτ78
                              have h := h τ78 eτ78
                              show WP l mX12_pointText (rm d 0 0) noX _ 0 0 115 [(2, t), (0, x1)] [] N Λ τ78
                              exact r_vret d_X12_pointText_115 rfl (Nat.le_refl 0) (Nat.le_refl 0) ⟨rfl, rfl, rfl, h⟩
                            · have h := h.2 hc
                              show WP l mX12_pointText (rm d 0 0) noX _ 0 0 115 [(2, t), (0, x1)] [] N Λ σ70
                              exact r_vret d_X12_pointText_115 rfl (Nat.le_refl 0) (Nat.le_refl 0) ⟨rfl, rfl, rfl, h⟩
                          · have h := h.2 hc
                            intro τ79 eτ79
                            have h := h τ79 eτ79
                            show WP l mX12_pointText (rm d 0 0) noX _ 0 0 115 [(2, t), (0, x1)] [] N Λ τ79
                            exact r_vret d_X12_pointText_115 rfl (Nat.le_refl 0) (Nat.le_refl 0) ⟨rfl, rfl, rfl, h⟩
                        · have h := h.2 hc
                          show WP l mX12_pointText (rm d 0 0) noX _ 0 0 115 [(2, t), (0, x1)] [] N Λ σ70
                          exact r_vret d_X12_pointText_115 rfl (Nat.le_refl 0) (Nat.le_refl 0) ⟨rfl, rfl, rfl, h⟩
                · have h := h.2 hc
                  intro τ80 eτ80
                  have h := h τ80 eτ80
                  show WP l mX12_pointText (rm d 0 0) noX _ 0 0 83 [(2, t), (0, x1)] [] N Λ τ80
                  refine r_aload_n (x := t) d_X12_pointText_83 rfl o_t.1 ?_
                  refine r_iload_n (x := x1) d_X12_pointText_84 rfl ?_
                  refine r_iconst (x := 1) d_X12_pointText_85 ⟨by decide, by decide⟩ ?_
                  refine r_iadd d_X12_pointText_86 ?_
                  refine x_callVV (Y2 := mX12_pointText) (c := t) (As := [(0, (addI x1 1))]) (S := []) d_X12_pointText_87 ok_mX12_pointText ml_X12_303 rfl (Nat.le_of_ble_eq_true rfl) (Nat.le_of_ble_eq_true rfl) rfl hd_1 kX12 o_t (CV.mono h (fun σ81 h => ?_))
                  refine r_aload_n (x := t) d_X12_pointText_90 rfl o_t.1 ?_
                  refine r_iload_n (x := x1) d_X12_pointText_91 rfl ?_
                  refine r_iconst (x := 1) d_X12_pointText_92 ⟨by decide, by decide⟩ ?_
                  refine r_iadd d_X12_pointText_93 ?_
                  refine x_callVV (Y2 := mX12_pointText) (c := t) (As := [(0, (addI x1 1))]) (S := []) d_X12_pointText_94 ok_mX12_pointText ml_X12_303 rfl (Nat.le_of_ble_eq_true rfl) (Nat.le_of_ble_eq_true rfl) rfl hd_1 kX12 o_t (CV.mono h (fun σ82 h => ?_))
                  refine r_aload_n (x := t) d_X12_pointText_97 rfl o_t.1 ?_
                  refine r_aload_n (x := t) d_X12_pointText_98 rfl o_t.1 ?_
                  refine x_callVI (Y2 := mX12_see) (c := t) (As := []) (S := [(2, t)]) d_X12_pointText_99 ok_mX12_see ml_X12_264 rfl (Nat.le_of_ble_eq_true rfl) (Nat.le_of_ble_eq_true rfl) rfl hd_1 kX12 o_t (c_X12_see (v_X12_see_0 o_t f_t_tape ?_))
                  refine ⟨fun hc => ?_, fun hc => ?_⟩
                  · have h := h.1 hc
                    show WP l mX12_pointText (rm d 0 0) noX _ 0 0 102 [(2, t), (0, x1)] [(0, (-1)), (2, t)] N Λ σ82
                    refine r_bipush (x := 41) d_X12_pointText_102 ⟨by decide, by decide⟩ (by decide) ?_
                    refine r_ic_ne (tgt := 111) d_X12_pointText_104 rfl (fun _ => ?_) (fun hc => absurd hc (by decide))
                    refine r_iconst (x := 0) d_X12_pointText_111 ⟨by decide, by decide⟩ ?_
                    refine x_callVV (Y2 := mX12_must) (c := t) (As := [(0, 0)]) (S := []) d_X12_pointText_112 ok_mX12_must ml_X12_286 rfl (Nat.le_of_ble_eq_true rfl) (Nat.le_of_ble_eq_true rfl) rfl hd_1 kX12 o_t (c_X12_must (v_X12_must_0 o_t he_1 ?_))
                    refine ⟨fun hc => ?_, fun hc => ?_⟩
                    · have h := h.1 hc
                      refine ⟨fun hc => ?_, fun hc => ?_⟩
                      · have h := h.1 hc
                        refine ⟨fun hc => ?_, fun hc => ?_⟩
                        · have h := h.1 hc
                          intro τ83 eτ83
                          have h := h τ83 eτ83
                          intro τ84 eτ84
                          have h := h τ84 eτ84
                          show WP l mX12_pointText (rm d 0 0) noX _ 0 0 115 [(2, t), (0, x1)] [] N Λ τ84
                          exact r_vret d_X12_pointText_115 rfl (Nat.le_refl 0) (Nat.le_refl 0) ⟨rfl, rfl, rfl, h⟩
                        · have h := h.2 hc
                          show WP l mX12_pointText (rm d 0 0) noX _ 0 0 115 [(2, t), (0, x1)] [] N Λ σ82
                          exact r_vret d_X12_pointText_115 rfl (Nat.le_refl 0) (Nat.le_refl 0) ⟨rfl, rfl, rfl, h⟩
                      · have h := h.2 hc
                        intro τ85 eτ85
                        have h := h τ85 eτ85
                        show WP l mX12_pointText (rm d 0 0) noX _ 0 0 115 [(2, t), (0, x1)] [] N Λ τ85
                        exact r_vret d_X12_pointText_115 rfl (Nat.le_refl 0) (Nat.le_refl 0) ⟨rfl, rfl, rfl, h⟩
                    · have h := h.2 hc
                      show WP l mX12_pointText (rm d 0 0) noX _ 0 0 115 [(2, t), (0, x1)] [] N Λ σ82
                      exact r_vret d_X12_pointText_115 rfl (Nat.le_refl 0) (Nat.le_refl 0) ⟨rfl, rfl, rfl, h⟩
                  · have h := h.2 hc
                    refine ⟨h.1, ?_⟩
                    have h := h.2
                    show WP l mX12_pointText (rm d 0 0) noX _ 0 0 102 [(2, t), (0, x1)] [(0, (andI (σ82 t_tape (σ82 t 21)) 255)), (2, t)] N Λ σ82
                    refine r_bipush (x := 41) d_X12_pointText_102 ⟨by decide, by decide⟩ (by decide) ?_
                    refine r_ic_ne (tgt := 111) d_X12_pointText_104 rfl (fun hc => ?_) (fun hc => ?_)
                    · have h := h.1 hc
                      refine r_iconst (x := 0) d_X12_pointText_111 ⟨by decide, by decide⟩ ?_
                      refine x_callVV (Y2 := mX12_must) (c := t) (As := [(0, 0)]) (S := []) d_X12_pointText_112 ok_mX12_must ml_X12_286 rfl (Nat.le_of_ble_eq_true rfl) (Nat.le_of_ble_eq_true rfl) rfl hd_1 kX12 o_t (c_X12_must (v_X12_must_0 o_t he_1 ?_))
                      refine ⟨fun hc => ?_, fun hc => ?_⟩
                      · have h := h.1 hc
                        refine ⟨fun hc => ?_, fun hc => ?_⟩
                        · have h := h.1 hc
                          refine ⟨fun hc => ?_, fun hc => ?_⟩
                          · have h := h.1 hc
                            intro τ86 eτ86
                            have h := h τ86 eτ86
                            intro τ87 eτ87
                            have h := h τ87 eτ87
                            show WP l mX12_pointText (rm d 0 0) noX _ 0 0 115 [(2, t), (0, x1)] [] N Λ τ87
                            exact r_vret d_X12_pointText_115 rfl (Nat.le_refl 0) (Nat.le_refl 0) ⟨rfl, rfl, rfl, h⟩
                          · have h := h.2 hc
                            show WP l mX12_pointText (rm d 0 0) noX _ 0 0 115 [(2, t), (0, x1)] [] N Λ σ82
                            exact r_vret d_X12_pointText_115 rfl (Nat.le_refl 0) (Nat.le_refl 0) ⟨rfl, rfl, rfl, h⟩
                        · have h := h.2 hc
                          intro τ88 eτ88
                          have h := h τ88 eτ88
                          show WP l mX12_pointText (rm d 0 0) noX _ 0 0 115 [(2, t), (0, x1)] [] N Λ τ88
                          exact r_vret d_X12_pointText_115 rfl (Nat.le_refl 0) (Nat.le_refl 0) ⟨rfl, rfl, rfl, h⟩
                      · have h := h.2 hc
                        show WP l mX12_pointText (rm d 0 0) noX _ 0 0 115 [(2, t), (0, x1)] [] N Λ σ82
                        exact r_vret d_X12_pointText_115 rfl (Nat.le_refl 0) (Nat.le_refl 0) ⟨rfl, rfl, rfl, h⟩
                    · have h := h.2 hc
                      refine r_iconst (x := 1) d_X12_pointText_107 ⟨by decide, by decide⟩ ?_
                      refine r_goto (tgt := 112) d_X12_pointText_108 rfl ?_
                      refine x_callVV (Y2 := mX12_must) (c := t) (As := [(0, 1)]) (S := []) d_X12_pointText_112 ok_mX12_must ml_X12_286 rfl (Nat.le_of_ble_eq_true rfl) (Nat.le_of_ble_eq_true rfl) rfl hd_1 kX12 o_t (c_X12_must (v_X12_must_0 o_t he_1 ?_))
                      refine ⟨fun hc => ?_, fun hc => ?_⟩
                      · have h := h.1 hc
                        refine ⟨fun hc => ?_, fun hc => ?_⟩
                        · have h := h.1 hc
                          refine ⟨fun hc => ?_, fun hc => ?_⟩
                          · have h := h.1 hc
                            intro τ89 eτ89
                            have h := h τ89 eτ89
                            intro τ90 eτ90
                            have h := h τ90 eτ90
                            show WP l mX12_pointText (rm d 0 0) noX _ 0 0 115 [(2, t), (0, x1)] [] N Λ τ90
                            exact r_vret d_X12_pointText_115 rfl (Nat.le_refl 0) (Nat.le_refl 0) ⟨rfl, rfl, rfl, h⟩
                          · have h := h.2 hc
                            show WP l mX12_pointText (rm d 0 0) noX _ 0 0 115 [(2, t), (0, x1)] [] N Λ σ82
                            exact r_vret d_X12_pointText_115 rfl (Nat.le_refl 0) (Nat.le_refl 0) ⟨rfl, rfl, rfl, h⟩
                        · have h := h.2 hc
                          intro τ91 eτ91
                          have h := h τ91 eτ91
                          show WP l mX12_pointText (rm d 0 0) noX _ 0 0 115 [(2, t), (0, x1)] [] N Λ τ91
                          exact r_vret d_X12_pointText_115 rfl (Nat.le_refl 0) (Nat.le_refl 0) ⟨rfl, rfl, rfl, h⟩
                      · have h := h.2 hc
                        show WP l mX12_pointText (rm d 0 0) noX _ 0 0 115 [(2, t), (0, x1)] [] N Λ σ82
                        exact r_vret d_X12_pointText_115 rfl (Nat.le_refl 0) (Nat.le_refl 0) ⟨rfl, rfl, rfl, h⟩
              · have h := h.2 hc
                show WP l mX12_pointText (rm d 0 0) noX _ 0 0 83 [(2, t), (0, x1)] [] N Λ σ8
                refine r_aload_n (x := t) d_X12_pointText_83 rfl o_t.1 ?_
                refine r_iload_n (x := x1) d_X12_pointText_84 rfl ?_
                refine r_iconst (x := 1) d_X12_pointText_85 ⟨by decide, by decide⟩ ?_
                refine r_iadd d_X12_pointText_86 ?_
                refine x_callVV (Y2 := mX12_pointText) (c := t) (As := [(0, (addI x1 1))]) (S := []) d_X12_pointText_87 ok_mX12_pointText ml_X12_303 rfl (Nat.le_of_ble_eq_true rfl) (Nat.le_of_ble_eq_true rfl) rfl hd_1 kX12 o_t (CV.mono h (fun σ92 h => ?_))
                refine r_aload_n (x := t) d_X12_pointText_90 rfl o_t.1 ?_
                refine r_iload_n (x := x1) d_X12_pointText_91 rfl ?_
                refine r_iconst (x := 1) d_X12_pointText_92 ⟨by decide, by decide⟩ ?_
                refine r_iadd d_X12_pointText_93 ?_
                refine x_callVV (Y2 := mX12_pointText) (c := t) (As := [(0, (addI x1 1))]) (S := []) d_X12_pointText_94 ok_mX12_pointText ml_X12_303 rfl (Nat.le_of_ble_eq_true rfl) (Nat.le_of_ble_eq_true rfl) rfl hd_1 kX12 o_t (CV.mono h (fun σ93 h => ?_))
                refine r_aload_n (x := t) d_X12_pointText_97 rfl o_t.1 ?_
                refine r_aload_n (x := t) d_X12_pointText_98 rfl o_t.1 ?_
                refine x_callVI (Y2 := mX12_see) (c := t) (As := []) (S := [(2, t)]) d_X12_pointText_99 ok_mX12_see ml_X12_264 rfl (Nat.le_of_ble_eq_true rfl) (Nat.le_of_ble_eq_true rfl) rfl hd_1 kX12 o_t (c_X12_see (v_X12_see_0 o_t f_t_tape ?_))
                refine ⟨fun hc => ?_, fun hc => ?_⟩
                · have h := h.1 hc
                  show WP l mX12_pointText (rm d 0 0) noX _ 0 0 102 [(2, t), (0, x1)] [(0, (-1)), (2, t)] N Λ σ93
                  refine r_bipush (x := 41) d_X12_pointText_102 ⟨by decide, by decide⟩ (by decide) ?_
                  refine r_ic_ne (tgt := 111) d_X12_pointText_104 rfl (fun _ => ?_) (fun hc => absurd hc (by decide))
                  refine r_iconst (x := 0) d_X12_pointText_111 ⟨by decide, by decide⟩ ?_
                  refine x_callVV (Y2 := mX12_must) (c := t) (As := [(0, 0)]) (S := []) d_X12_pointText_112 ok_mX12_must ml_X12_286 rfl (Nat.le_of_ble_eq_true rfl) (Nat.le_of_ble_eq_true rfl) rfl hd_1 kX12 o_t (c_X12_must (v_X12_must_0 o_t he_1 ?_))
                  refine ⟨fun hc => ?_, fun hc => ?_⟩
                  · have h := h.1 hc
                    refine ⟨fun hc => ?_, fun hc => ?_⟩
                    · have h := h.1 hc
                      refine ⟨fun hc => ?_, fun hc => ?_⟩
                      · have h := h.1 hc
                        intro τ94 eτ94
                        have h := h τ94 eτ94
                        intro τ95 eτ95
                        have h := h τ95 eτ95
                        show WP l mX12_pointText (rm d 0 0) noX _ 0 0 115 [(2, t), (0, x1)] [] N Λ τ95
                        exact r_vret d_X12_pointText_115 rfl (Nat.le_refl 0) (Nat.le_refl 0) ⟨rfl, rfl, rfl, h⟩
                      · have h := h.2 hc
                        show WP l mX12_pointText (rm d 0 0) noX _ 0 0 115 [(2, t), (0, x1)] [] N Λ σ93
                        exact r_vret d_X12_pointText_115 rfl (Nat.le_refl 0) (Nat.le_refl 0) ⟨rfl, rfl, rfl, h⟩
                    · have h := h.2 hc
                      intro τ96 eτ96
                      have h := h τ96 eτ96
                      show WP l mX12_pointText (rm d 0 0) noX _ 0 0 115 [(2, t), (0, x1)] [] N Λ τ96
                      exact r_vret d_X12_pointText_115 rfl (Nat.le_refl 0) (Nat.le_refl 0) ⟨rfl, rfl, rfl, h⟩
                  · have h := h.2 hc
                    show WP l mX12_pointText (rm d 0 0) noX _ 0 0 115 [(2, t), (0, x1)] [] N Λ σ93
                    exact r_vret d_X12_pointText_115 rfl (Nat.le_refl 0) (Nat.le_refl 0) ⟨rfl, rfl, rfl, h⟩
                · have h := h.2 hc
                  refine ⟨h.1, ?_⟩
                  have h := h.2
                  show WP l mX12_pointText (rm d 0 0) noX _ 0 0 102 [(2, t), (0, x1)] [(0, (andI (σ93 t_tape (σ93 t 21)) 255)), (2, t)] N Λ σ93
                  refine r_bipush (x := 41) d_X12_pointText_102 ⟨by decide, by decide⟩ (by decide) ?_
                  refine r_ic_ne (tgt := 111) d_X12_pointText_104 rfl (fun hc => ?_) (fun hc => ?_)
                  · have h := h.1 hc
                    refine r_iconst (x := 0) d_X12_pointText_111 ⟨by decide, by decide⟩ ?_
                    refine x_callVV (Y2 := mX12_must) (c := t) (As := [(0, 0)]) (S := []) d_X12_pointText_112 ok_mX12_must ml_X12_286 rfl (Nat.le_of_ble_eq_true rfl) (Nat.le_of_ble_eq_true rfl) rfl hd_1 kX12 o_t (c_X12_must (v_X12_must_0 o_t he_1 ?_))
                    refine ⟨fun hc => ?_, fun hc => ?_⟩
                    · have h := h.1 hc
                      refine ⟨fun hc => ?_, fun hc => ?_⟩
                      · have h := h.1 hc
                        refine ⟨fun hc => ?_, fun hc => ?_⟩
                        · have h := h.1 hc
                          intro τ97 eτ97
                          have h := h τ97 eτ97
                          intro τ98 eτ98
                          have h := h τ98 eτ98
                          show WP l mX12_pointText (rm d 0 0) noX _ 0 0 115 [(2, t), (0, x1)] [] N Λ τ98
                          exact r_vret d_X12_pointText_115 rfl (Nat.le_refl 0) (Nat.le_refl 0) ⟨rfl, rfl, rfl, h⟩
                        · have h := h.2 hc
                          show WP l mX12_pointText (rm d 0 0) noX _ 0 0 115 [(2, t), (0, x1)] [] N Λ σ93
                          exact r_vret d_X12_pointText_115 rfl (Nat.le_refl 0) (Nat.le_refl 0) ⟨rfl, rfl, rfl, h⟩
                      · have h := h.2 hc
                        intro τ99 eτ99
                        have h := h τ99 eτ99
                        show WP l mX12_pointText (rm d 0 0) noX _ 0 0 115 [(2, t), (0, x1)] [] N Λ τ99
                        exact r_vret d_X12_pointText_115 rfl (Nat.le_refl 0) (Nat.le_refl 0) ⟨rfl, rfl, rfl, h⟩
                    · have h := h.2 hc
                      show WP l mX12_pointText (rm d 0 0) noX _ 0 0 115 [(2, t), (0, x1)] [] N Λ σ93
                      exact r_vret d_X12_pointText_115 rfl (Nat.le_refl 0) (Nat.le_refl 0) ⟨rfl, rfl, rfl, h⟩
                  · have h := h.2 hc
                    refine r_iconst (x := 1) d_X12_pointText_107 ⟨by decide, by decide⟩ ?_
                    refine r_goto (tgt := 112) d_X12_pointText_108 rfl ?_
                    refine x_callVV (Y2 := mX12_must) (c := t) (As := [(0, 1)]) (S := []) d_X12_pointText_112 ok_mX12_must ml_X12_286 rfl (Nat.le_of_ble_eq_true rfl) (Nat.le_of_ble_eq_true rfl) rfl hd_1 kX12 o_t (c_X12_must (v_X12_must_0 o_t he_1 ?_))
                    refine ⟨fun hc => ?_, fun hc => ?_⟩
                    · have h := h.1 hc
                      refine ⟨fun hc => ?_, fun hc => ?_⟩
                      · have h := h.1 hc
                        refine ⟨fun hc => ?_, fun hc => ?_⟩
                        · have h := h.1 hc
                          intro τ100 eτ100
                          have h := h τ100 eτ100
                          intro τ101 eτ101
                          have h := h τ101 eτ101
                          show WP l mX12_pointText (rm d 0 0) noX _ 0 0 115 [(2, t), (0, x1)] [] N Λ τ101
                          exact r_vret d_X12_pointText_115 rfl (Nat.le_refl 0) (Nat.le_refl 0) ⟨rfl, rfl, rfl, h⟩
                        · have h := h.2 hc
                          show WP l mX12_pointText (rm d 0 0) noX _ 0 0 115 [(2, t), (0, x1)] [] N Λ σ93
                          exact r_vret d_X12_pointText_115 rfl (Nat.le_refl 0) (Nat.le_refl 0) ⟨rfl, rfl, rfl, h⟩
                      · have h := h.2 hc
                        intro τ102 eτ102
                        have h := h τ102 eτ102
                        show WP l mX12_pointText (rm d 0 0) noX _ 0 0 115 [(2, t), (0, x1)] [] N Λ τ102
                        exact r_vret d_X12_pointText_115 rfl (Nat.le_refl 0) (Nat.le_refl 0) ⟨rfl, rfl, rfl, h⟩
                    · have h := h.2 hc
                      show WP l mX12_pointText (rm d 0 0) noX _ 0 0 115 [(2, t), (0, x1)] [] N Λ σ93
                      exact r_vret d_X12_pointText_115 rfl (Nat.le_refl 0) (Nat.le_refl 0) ⟨rfl, rfl, rfl, h⟩
            · have h := h.2 hc
              refine r_iconst (x := 1) d_X12_pointText_75 ⟨by decide, by decide⟩ ?_
              refine r_goto (tgt := 80) d_X12_pointText_76 rfl ?_
              refine x_callVV (Y2 := mX12_must) (c := t) (As := [(0, 1)]) (S := []) d_X12_pointText_80 ok_mX12_must ml_X12_286 rfl (Nat.le_of_ble_eq_true rfl) (Nat.le_of_ble_eq_true rfl) rfl hd_1 kX12 o_t (c_X12_must (v_X12_must_0 o_t he_1 ?_))
              refine ⟨fun hc => ?_, fun hc => ?_⟩
              · have h := h.1 hc
                refine ⟨fun hc => ?_, fun hc => ?_⟩
                · have h := h.1 hc
                  refine ⟨fun hc => ?_, fun hc => ?_⟩
                  · have h := h.1 hc
                    intro τ103 eτ103
                    have h := h τ103 eτ103
                    intro τ104 eτ104
                    have h := h τ104 eτ104
                    show WP l mX12_pointText (rm d 0 0) noX _ 0 0 83 [(2, t), (0, x1)] [] N Λ τ104
                    refine r_aload_n (x := t) d_X12_pointText_83 rfl o_t.1 ?_
                    refine r_iload_n (x := x1) d_X12_pointText_84 rfl ?_
                    refine r_iconst (x := 1) d_X12_pointText_85 ⟨by decide, by decide⟩ ?_
                    refine r_iadd d_X12_pointText_86 ?_
                    refine x_callVV (Y2 := mX12_pointText) (c := t) (As := [(0, (addI x1 1))]) (S := []) d_X12_pointText_87 ok_mX12_pointText ml_X12_303 rfl (Nat.le_of_ble_eq_true rfl) (Nat.le_of_ble_eq_true rfl) rfl hd_1 kX12 o_t (CV.mono h (fun σ105 h => ?_))
                    refine r_aload_n (x := t) d_X12_pointText_90 rfl o_t.1 ?_
                    refine r_iload_n (x := x1) d_X12_pointText_91 rfl ?_
                    refine r_iconst (x := 1) d_X12_pointText_92 ⟨by decide, by decide⟩ ?_
                    refine r_iadd d_X12_pointText_93 ?_
                    refine x_callVV (Y2 := mX12_pointText) (c := t) (As := [(0, (addI x1 1))]) (S := []) d_X12_pointText_94 ok_mX12_pointText ml_X12_303 rfl (Nat.le_of_ble_eq_true rfl) (Nat.le_of_ble_eq_true rfl) rfl hd_1 kX12 o_t (CV.mono h (fun σ106 h => ?_))
                    refine r_aload_n (x := t) d_X12_pointText_97 rfl o_t.1 ?_
                    refine r_aload_n (x := t) d_X12_pointText_98 rfl o_t.1 ?_
                    refine x_callVI (Y2 := mX12_see) (c := t) (As := []) (S := [(2, t)]) d_X12_pointText_99 ok_mX12_see ml_X12_264 rfl (Nat.le_of_ble_eq_true rfl) (Nat.le_of_ble_eq_true rfl) rfl hd_1 kX12 o_t (c_X12_see (v_X12_see_0 o_t f_t_tape ?_))
                    refine ⟨fun hc => ?_, fun hc => ?_⟩
                    · have h := h.1 hc
                      show WP l mX12_pointText (rm d 0 0) noX _ 0 0 102 [(2, t), (0, x1)] [(0, (-1)), (2, t)] N Λ σ106
                      refine r_bipush (x := 41) d_X12_pointText_102 ⟨by decide, by decide⟩ (by decide) ?_
                      refine r_ic_ne (tgt := 111) d_X12_pointText_104 rfl (fun _ => ?_) (fun hc => absurd hc (by decide))
                      refine r_iconst (x := 0) d_X12_pointText_111 ⟨by decide, by decide⟩ ?_
                      refine x_callVV (Y2 := mX12_must) (c := t) (As := [(0, 0)]) (S := []) d_X12_pointText_112 ok_mX12_must ml_X12_286 rfl (Nat.le_of_ble_eq_true rfl) (Nat.le_of_ble_eq_true rfl) rfl hd_1 kX12 o_t (c_X12_must (v_X12_must_0 o_t he_1 ?_))
                      refine ⟨fun hc => ?_, fun hc => ?_⟩
                      · have h := h.1 hc
                        refine ⟨fun hc => ?_, fun hc => ?_⟩
                        · have h := h.1 hc
                          refine ⟨fun hc => ?_, fun hc => ?_⟩
                          · have h := h.1 hc
                            intro τ107 eτ107
                            have h := h τ107 eτ107
                            intro τ108 eτ108
                            have h := h τ108 eτ108
                            show WP l mX12_pointText (rm d 0 0) noX _ 0 0 115 [(2, t), (0, x1)] [] N Λ τ108
                            exact r_vret d_X12_pointText_115 rfl (Nat.le_refl 0) (Nat.le_refl 0) ⟨rfl, rfl, rfl, h⟩
                          · have h := h.2 hc
                            show WP l mX12_pointText (rm d 0 0) noX _ 0 0 115 [(2, t), (0, x1)] [] N Λ σ106
                            exact r_vret d_X12_pointText_115 rfl (Nat.le_refl 0) (Nat.le_refl 0) ⟨rfl, rfl, rfl, h⟩
                        · have h := h.2 hc
                          intro τ109 eτ109
                          have h := h τ109 eτ109
                          show WP l mX12_pointText (rm d 0 0) noX _ 0 0 115 [(2, t), (0, x1)] [] N Λ τ109
                          exact r_vret d_X12_pointText_115 rfl (Nat.le_refl 0) (Nat.le_refl 0) ⟨rfl, rfl, rfl, h⟩
                      · have h := h.2 hc
                        show WP l mX12_pointText (rm d 0 0) noX _ 0 0 115 [(2, t), (0, x1)] [] N Λ σ106
                        exact r_vret d_X12_pointText_115 rfl (Nat.le_refl 0) (Nat.le_refl 0) ⟨rfl, rfl, rfl, h⟩
                    · have h := h.2 hc
                      refine ⟨h.1, ?_⟩
                      have h := h.2
                      show WP l mX12_pointText (rm d 0 0) noX _ 0 0 102 [(2, t), (0, x1)] [(0, (andI (σ106 t_tape (σ106 t 21)) 255)), (2, t)] N Λ σ106
                      refine r_bipush (x := 41) d_X12_pointText_102 ⟨by decide, by decide⟩ (by decide) ?_
                      refine r_ic_ne (tgt := 111) d_X12_pointText_104 rfl (fun hc => ?_) (fun hc => ?_)
                      · have h := h.1 hc
                        refine r_iconst (x := 0) d_X12_pointText_111 ⟨by decide, by decide⟩ ?_
                        refine x_callVV (Y2 := mX12_must) (c := t) (As := [(0, 0)]) (S := []) d_X12_pointText_112 ok_mX12_must ml_X12_286 rfl (Nat.le_of_ble_eq_true rfl) (Nat.le_of_ble_eq_true rfl) rfl hd_1 kX12 o_t (c_X12_must (v_X12_must_0 o_t he_1 ?_))
                        refine ⟨fun hc => ?_, fun hc => ?_⟩
                        · have h := h.1 hc
                          refine ⟨fun hc => ?_, fun hc => ?_⟩
                          · have h := h.1 hc
                            refine ⟨fun hc => ?_, fun hc => ?_⟩
                            · have h := h.1 hc
                              intro τ110 eτ110
                              have h := h τ110 eτ110
                              intro τ111 eτ111
                              have h := h τ111 eτ111
                              show WP l mX12_pointText (rm d 0 0) noX _ 0 0 115 [(2, t), (0, x1)] [] N Λ τ111
                              exact r_vret d_X12_pointText_115 rfl (Nat.le_refl 0) (Nat.le_refl 0) ⟨rfl, rfl, rfl, h⟩
                            · have h := h.2 hc
                              show WP l mX12_pointText (rm d 0 0) noX _ 0 0 115 [(2, t), (0, x1)] [] N Λ σ106
                              exact r_vret d_X12_pointText_115 rfl (Nat.le_refl 0) (Nat.le_refl 0) ⟨rfl, rfl, rfl, h⟩
                          · have h := h.2 hc
                            intro τ112 eτ112
                            have h := h τ112 eτ112
                            show WP l mX12_pointText (rm d 0 0) noX _ 0 0 115 [(2, t), (0, x1)] [] N Λ τ112
                            exact r_vret d_X12_pointText_115 rfl (Nat.le_refl 0) (Nat.le_refl 0) ⟨rfl, rfl, rfl, h⟩
                        · have h := h.2 hc
                          show WP l mX12_pointText (rm d 0 0) noX _ 0 0 115 [(2, t), (0, x1)] [] N Λ σ106
                          exact r_vret d_X12_pointText_115 rfl (Nat.le_refl 0) (Nat.le_refl 0) ⟨rfl, rfl, rfl, h⟩
                      · have h := h.2 hc
                        refine r_iconst (x := 1) d_X12_pointText_107 ⟨by decide, by decide⟩ ?_
                        refine r_goto (tgt := 112) d_X12_pointText_108 rfl ?_
                        refine x_callVV (Y2 := mX12_must) (c := t) (As := [(0, 1)]) (S := []) d_X12_pointText_112 ok_mX12_must ml_X12_286 rfl (Nat.le_of_ble_eq_true rfl) (Nat.le_of_ble_eq_true rfl) rfl hd_1 kX12 o_t (c_X12_must (v_X12_must_0 o_t he_1 ?_))
                        refine ⟨fun hc => ?_, fun hc => ?_⟩
                        · have h := h.1 hc
                          refine ⟨fun hc => ?_, fun hc => ?_⟩
                          · have h := h.1 hc
                            refine ⟨fun hc => ?_, fun hc => ?_⟩
                            · have h := h.1 hc
                              intro τ113 eτ113
                              have h := h τ113 eτ113
                              intro τ114 eτ114
                              have h := h τ114 eτ114
                              show WP l mX12_pointText (rm d 0 0) noX _ 0 0 115 [(2, t), (0, x1)] [] N Λ τ114
                              exact r_vret d_X12_pointText_115 rfl (Nat.le_refl 0) (Nat.le_refl 0) ⟨rfl, rfl, rfl, h⟩
                            · have h := h.2 hc
                              show WP l mX12_pointText (rm d 0 0) noX _ 0 0 115 [(2, t), (0, x1)] [] N Λ σ106
                              exact r_vret d_X12_pointText_115 rfl (Nat.le_refl 0) (Nat.le_refl 0) ⟨rfl, rfl, rfl, h⟩
                          · have h := h.2 hc
                            intro τ115 eτ115
                            have h := h τ115 eτ115
                            show WP l mX12_pointText (rm d 0 0) noX _ 0 0 115 [(2, t), (0, x1)] [] N Λ τ115
                            exact r_vret d_X12_pointText_115 rfl (Nat.le_refl 0) (Nat.le_refl 0) ⟨rfl, rfl, rfl, h⟩
                        · have h := h.2 hc
                          show WP l mX12_pointText (rm d 0 0) noX _ 0 0 115 [(2, t), (0, x1)] [] N Λ σ106
                          exact r_vret d_X12_pointText_115 rfl (Nat.le_refl 0) (Nat.le_refl 0) ⟨rfl, rfl, rfl, h⟩
                  · have h := h.2 hc
                    show WP l mX12_pointText (rm d 0 0) noX _ 0 0 83 [(2, t), (0, x1)] [] N Λ σ8
                    refine r_aload_n (x := t) d_X12_pointText_83 rfl o_t.1 ?_
                    refine r_iload_n (x := x1) d_X12_pointText_84 rfl ?_
                    refine r_iconst (x := 1) d_X12_pointText_85 ⟨by decide, by decide⟩ ?_
                    refine r_iadd d_X12_pointText_86 ?_
                    refine x_callVV (Y2 := mX12_pointText) (c := t) (As := [(0, (addI x1 1))]) (S := []) d_X12_pointText_87 ok_mX12_pointText ml_X12_303 rfl (Nat.le_of_ble_eq_true rfl) (Nat.le_of_ble_eq_true rfl) rfl hd_1 kX12 o_t (CV.mono h (fun σ116 h => ?_))
                    refine r_aload_n (x := t) d_X12_pointText_90 rfl o_t.1 ?_
                    refine r_iload_n (x := x1) d_X12_pointText_91 rfl ?_
                    refine r_iconst (x := 1) d_X12_pointText_92 ⟨by decide, by decide⟩ ?_
                    refine r_iadd d_X12_pointText_93 ?_
                    refine x_callVV (Y2 := mX12_pointText) (c := t) (As := [(0, (addI x1 1))]) (S := []) d_X12_pointText_94 ok_mX12_pointText ml_X12_303 rfl (Nat.le_of_ble_eq_true rfl) (Nat.le_of_ble_eq_true rfl) rfl hd_1 kX12 o_t (CV.mono h (fun σ117 h => ?_))
                    refine r_aload_n (x := t) d_X12_pointText_97 rfl o_t.1 ?_
                    refine r_aload_n (x := t) d_X12_pointText_98 rfl o_t.1 ?_
                    refine x_callVI (Y2 := mX12_see) (c := t) (As := []) (S := [(2, t)]) d_X12_pointText_99 ok_mX12_see ml_X12_264 rfl (Nat.le_of_ble_eq_true rfl) (Nat.le_of_ble_eq_true rfl) rfl hd_1 kX12 o_t (c_X12_see (v_X12_see_0 o_t f_t_tape ?_))
                    refine ⟨fun hc => ?_, fun hc => ?_⟩
                    · have h := h.1 hc
                      show WP l mX12_pointText (rm d 0 0) noX _ 0 0 102 [(2, t), (0, x1)] [(0, (-1)), (2, t)] N Λ σ117
                      refine r_bipush (x := 41) d_X12_pointText_102 ⟨by decide, by decide⟩ (by decide) ?_
                      refine r_ic_ne (tgt := 111) d_X12_pointText_104 rfl (fun _ => ?_) (fun hc => absurd hc (by decide))
                      refine r_iconst (x := 0) d_X12_pointText_111 ⟨by decide, by decide⟩ ?_
                      refine x_callVV (Y2 := mX12_must) (c := t) (As := [(0, 0)]) (S := []) d_X12_pointText_112 ok_mX12_must ml_X12_286 rfl (Nat.le_of_ble_eq_true rfl) (Nat.le_of_ble_eq_true rfl) rfl hd_1 kX12 o_t (c_X12_must (v_X12_must_0 o_t he_1 ?_))
                      refine ⟨fun hc => ?_, fun hc => ?_⟩
                      · have h := h.1 hc
                        refine ⟨fun hc => ?_, fun hc => ?_⟩
                        · have h := h.1 hc
                          refine ⟨fun hc => ?_, fun hc => ?_⟩
                          · have h := h.1 hc
                            intro τ118 eτ118
                            have h := h τ118 eτ118
                            intro τ119 eτ119
                            have h := h τ119 eτ119
                            show WP l mX12_pointText (rm d 0 0) noX _ 0 0 115 [(2, t), (0, x1)] [] N Λ τ119
                            exact r_vret d_X12_pointText_115 rfl (Nat.le_refl 0) (Nat.le_refl 0) ⟨rfl, rfl, rfl, h⟩
                          · have h := h.2 hc
                            show WP l mX12_pointText (rm d 0 0) noX _ 0 0 115 [(2, t), (0, x1)] [] N Λ σ117
                            exact r_vret d_X12_pointText_115 rfl (Nat.le_refl 0) (Nat.le_refl 0) ⟨rfl, rfl, rfl, h⟩
                        · have h := h.2 hc
                          intro τ120 eτ120
                          have h := h τ120 eτ120
                          show WP l mX12_pointText (rm d 0 0) noX _ 0 0 115 [(2, t), (0, x1)] [] N Λ τ120
                          exact r_vret d_X12_pointText_115 rfl (Nat.le_refl 0) (Nat.le_refl 0) ⟨rfl, rfl, rfl, h⟩
                      · have h := h.2 hc
                        show WP l mX12_pointText (rm d 0 0) noX _ 0 0 115 [(2, t), (0, x1)] [] N Λ σ117
                        exact r_vret d_X12_pointText_115 rfl (Nat.le_refl 0) (Nat.le_refl 0) ⟨rfl, rfl, rfl, h⟩
                    · have h := h.2 hc
                      refine ⟨h.1, ?_⟩
                      have h := h.2
                      show WP l mX12_pointText (rm d 0 0) noX _ 0 0 102 [(2, t), (0, x1)] [(0, (andI (σ117 t_tape (σ117 t 21)) 255)), (2, t)] N Λ σ117
                      refine r_bipush (x := 41) d_X12_pointText_102 ⟨by decide, by decide⟩ (by decide) ?_
                      refine r_ic_ne (tgt := 111) d_X12_pointText_104 rfl (fun hc => ?_) (fun hc => ?_)
                      · have h := h.1 hc
                        refine r_iconst (x := 0) d_X12_pointText_111 ⟨by decide, by decide⟩ ?_
                        refine x_callVV (Y2 := mX12_must) (c := t) (As := [(0, 0)]) (S := []) d_X12_pointText_112 ok_mX12_must ml_X12_286 rfl (Nat.le_of_ble_eq_true rfl) (Nat.le_of_ble_eq_true rfl) rfl hd_1 kX12 o_t (c_X12_must (v_X12_must_0 o_t he_1 ?_))
                        refine ⟨fun hc => ?_, fun hc => ?_⟩
                        · have h := h.1 hc
                          refine ⟨fun hc => ?_, fun hc => ?_⟩
                          · have h := h.1 hc
                            refine ⟨fun hc => ?_, fun hc => ?_⟩
                            · have h := h.1 hc
                              intro τ121 eτ121
                              have h := h τ121 eτ121
                              intro τ122 eτ122
                              have h := h τ122 eτ122
                              show WP l mX12_pointText (rm d 0 0) noX _ 0 0 115 [(2, t), (0, x1)] [] N Λ τ122
                              exact r_vret d_X12_pointText_115 rfl (Nat.le_refl 0) (Nat.le_refl 0) ⟨rfl, rfl, rfl, h⟩
                            · have h := h.2 hc
                              show WP l mX12_pointText (rm d 0 0) noX _ 0 0 115 [(2, t), (0, x1)] [] N Λ σ117
                              exact r_vret d_X12_pointText_115 rfl (Nat.le_refl 0) (Nat.le_refl 0) ⟨rfl, rfl, rfl, h⟩
                          · have h := h.2 hc
                            intro τ123 eτ123
                            have h := h τ123 eτ123
                            show WP l mX12_pointText (rm d 0 0) noX _ 0 0 115 [(2, t), (0, x1)] [] N Λ τ123
                            exact r_vret d_X12_pointText_115 rfl (Nat.le_refl 0) (Nat.le_refl 0) ⟨rfl, rfl, rfl, h⟩
                        · have h := h.2 hc
                          show WP l mX12_pointText (rm d 0 0) noX _ 0 0 115 [(2, t), (0, x1)] [] N Λ σ117
                          exact r_vret d_X12_pointText_115 rfl (Nat.le_refl 0) (Nat.le_refl 0) ⟨rfl, rfl, rfl, h⟩
                      · have h := h.2 hc
                        refine r_iconst (x := 1) d_X12_pointText_107 ⟨by decide, by decide⟩ ?_
                        refine r_goto (tgt := 112) d_X12_pointText_108 rfl ?_
                        refine x_callVV (Y2 := mX12_must) (c := t) (As := [(0, 1)]) (S := []) d_X12_pointText_112 ok_mX12_must ml_X12_286 rfl (Nat.le_of_ble_eq_true rfl) (Nat.le_of_ble_eq_true rfl) rfl hd_1 kX12 o_t (c_X12_must (v_X12_must_0 o_t he_1 ?_))
                        refine ⟨fun hc => ?_, fun hc => ?_⟩
                        · have h := h.1 hc
                          refine ⟨fun hc => ?_, fun hc => ?_⟩
                          · have h := h.1 hc
                            refine ⟨fun hc => ?_, fun hc => ?_⟩
                            · have h := h.1 hc
                              intro τ124 eτ124
                              have h := h τ124 eτ124
                              intro τ125 eτ125
                              have h := h τ125 eτ125
                              show WP l mX12_pointText (rm d 0 0) noX _ 0 0 115 [(2, t), (0, x1)] [] N Λ τ125
                              exact r_vret d_X12_pointText_115 rfl (Nat.le_refl 0) (Nat.le_refl 0) ⟨rfl, rfl, rfl, h⟩
                            · have h := h.2 hc
                              show WP l mX12_pointText (rm d 0 0) noX _ 0 0 115 [(2, t), (0, x1)] [] N Λ σ117
                              exact r_vret d_X12_pointText_115 rfl (Nat.le_refl 0) (Nat.le_refl 0) ⟨rfl, rfl, rfl, h⟩
                          · have h := h.2 hc
                            intro τ126 eτ126
                            have h := h τ126 eτ126
                            show WP l mX12_pointText (rm d 0 0) noX _ 0 0 115 [(2, t), (0, x1)] [] N Λ τ126
                            exact r_vret d_X12_pointText_115 rfl (Nat.le_refl 0) (Nat.le_refl 0) ⟨rfl, rfl, rfl, h⟩
                        · have h := h.2 hc
                          show WP l mX12_pointText (rm d 0 0) noX _ 0 0 115 [(2, t), (0, x1)] [] N Λ σ117
                          exact r_vret d_X12_pointText_115 rfl (Nat.le_refl 0) (Nat.le_refl 0) ⟨rfl, rfl, rfl, h⟩
                · have h := h.2 hc
                  intro τ127 eτ127
                  have h := h τ127 eτ127
                  show WP l mX12_pointText (rm d 0 0) noX _ 0 0 83 [(2, t), (0, x1)] [] N Λ τ127
                  refine r_aload_n (x := t) d_X12_pointText_83 rfl o_t.1 ?_
                  refine r_iload_n (x := x1) d_X12_pointText_84 rfl ?_
                  refine r_iconst (x := 1) d_X12_pointText_85 ⟨by decide, by decide⟩ ?_
                  refine r_iadd d_X12_pointText_86 ?_
                  refine x_callVV (Y2 := mX12_pointText) (c := t) (As := [(0, (addI x1 1))]) (S := []) d_X12_pointText_87 ok_mX12_pointText ml_X12_303 rfl (Nat.le_of_ble_eq_true rfl) (Nat.le_of_ble_eq_true rfl) rfl hd_1 kX12 o_t (CV.mono h (fun σ128 h => ?_))
                  refine r_aload_n (x := t) d_X12_pointText_90 rfl o_t.1 ?_
                  refine r_iload_n (x := x1) d_X12_pointText_91 rfl ?_
                  refine r_iconst (x := 1) d_X12_pointText_92 ⟨by decide, by decide⟩ ?_
                  refine r_iadd d_X12_pointText_93 ?_
                  refine x_callVV (Y2 := mX12_pointText) (c := t) (As := [(0, (addI x1 1))]) (S := []) d_X12_pointText_94 ok_mX12_pointText ml_X12_303 rfl (Nat.le_of_ble_eq_true rfl) (Nat.le_of_ble_eq_true rfl) rfl hd_1 kX12 o_t (CV.mono h (fun σ129 h => ?_))
                  refine r_aload_n (x := t) d_X12_pointText_97 rfl o_t.1 ?_
                  refine r_aload_n (x := t) d_X12_pointText_98 rfl o_t.1 ?_
                  refine x_callVI (Y2 := mX12_see) (c := t) (As := []) (S := [(2, t)]) d_X12_pointText_99 ok_mX12_see ml_X12_264 rfl (Nat.le_of_ble_eq_true rfl) (Nat.le_of_ble_eq_true rfl) rfl hd_1 kX12 o_t (c_X12_see (v_X12_see_0 o_t f_t_tape ?_))
                  refine ⟨fun hc => ?_, fun hc => ?_⟩
                  · have h := h.1 hc
                    show WP l mX12_pointText (rm d 0 0) noX _ 0 0 102 [(2, t), (0, x1)] [(0, (-1)), (2, t)] N Λ σ129
                    refine r_bipush (x := 41) d_X12_pointText_102 ⟨by decide, by decide⟩ (by decide) ?_
                    refine r_ic_ne (tgt := 111) d_X12_pointText_104 rfl (fun _ => ?_) (fun hc => absurd hc (by decide))
                    refine r_iconst (x := 0) d_X12_pointText_111 ⟨by decide, by decide⟩ ?_
                    refine x_callVV (Y2 := mX12_must) (c := t) (As := [(0, 0)]) (S := []) d_X12_pointText_112 ok_mX12_must ml_X12_286 rfl (Nat.le_of_ble_eq_true rfl) (Nat.le_of_ble_eq_true rfl) rfl hd_1 kX12 o_t (c_X12_must (v_X12_must_0 o_t he_1 ?_))
                    refine ⟨fun hc => ?_, fun hc => ?_⟩
                    · have h := h.1 hc
                      refine ⟨fun hc => ?_, fun hc => ?_⟩
                      · have h := h.1 hc
                        refine ⟨fun hc => ?_, fun hc => ?_⟩
                        · have h := h.1 hc
                          intro τ130 eτ130
                          have h := h τ130 eτ130
                          intro τ131 eτ131
                          have h := h τ131 eτ131
                          show WP l mX12_pointText (rm d 0 0) noX _ 0 0 115 [(2, t), (0, x1)] [] N Λ τ131
                          exact r_vret d_X12_pointText_115 rfl (Nat.le_refl 0) (Nat.le_refl 0) ⟨rfl, rfl, rfl, h⟩
                        · have h := h.2 hc
                          show WP l mX12_pointText (rm d 0 0) noX _ 0 0 115 [(2, t), (0, x1)] [] N Λ σ129
                          exact r_vret d_X12_pointText_115 rfl (Nat.le_refl 0) (Nat.le_refl 0) ⟨rfl, rfl, rfl, h⟩
                      · have h := h.2 hc
                        intro τ132 eτ132
                        have h := h τ132 eτ132
                        show WP l mX12_pointText (rm d 0 0) noX _ 0 0 115 [(2, t), (0, x1)] [] N Λ τ132
                        exact r_vret d_X12_pointText_115 rfl (Nat.le_refl 0) (Nat.le_refl 0) ⟨rfl, rfl, rfl, h⟩
                    · have h := h.2 hc
                      show WP l mX12_pointText (rm d 0 0) noX _ 0 0 115 [(2, t), (0, x1)] [] N Λ σ129
                      exact r_vret d_X12_pointText_115 rfl (Nat.le_refl 0) (Nat.le_refl 0) ⟨rfl, rfl, rfl, h⟩
                  · have h := h.2 hc
                    refine ⟨h.1, ?_⟩
                    have h := h.2
                    show WP l mX12_pointText (rm d 0 0) noX _ 0 0 102 [(2, t), (0, x1)] [(0, (andI (σ129 t_tape (σ129 t 21)) 255)), (2, t)] N Λ σ129
                    refine r_bipush (x := 41) d_X12_pointText_102 ⟨by decide, by decide⟩ (by decide) ?_
                    refine r_ic_ne (tgt := 111) d_X12_pointText_104 rfl (fun hc => ?_) (fun hc => ?_)
                    · have h := h.1 hc
                      refine r_iconst (x := 0) d_X12_pointText_111 ⟨by decide, by decide⟩ ?_
                      refine x_callVV (Y2 := mX12_must) (c := t) (As := [(0, 0)]) (S := []) d_X12_pointText_112 ok_mX12_must ml_X12_286 rfl (Nat.le_of_ble_eq_true rfl) (Nat.le_of_ble_eq_true rfl) rfl hd_1 kX12 o_t (c_X12_must (v_X12_must_0 o_t he_1 ?_))
                      refine ⟨fun hc => ?_, fun hc => ?_⟩
                      · have h := h.1 hc
                        refine ⟨fun hc => ?_, fun hc => ?_⟩
                        · have h := h.1 hc
                          refine ⟨fun hc => ?_, fun hc => ?_⟩
                          · have h := h.1 hc
                            intro τ133 eτ133
                            have h := h τ133 eτ133
                            intro τ134 eτ134
                            have h := h τ134 eτ134
                            show WP l mX12_pointText (rm d 0 0) noX _ 0 0 115 [(2, t), (0, x1)] [] N Λ τ134
                            exact r_vret d_X12_pointText_115 rfl (Nat.le_refl 0) (Nat.le_refl 0) ⟨rfl, rfl, rfl, h⟩
                          · have h := h.2 hc
                            show WP l mX12_pointText (rm d 0 0) noX _ 0 0 115 [(2, t), (0, x1)] [] N Λ σ129
                            exact r_vret d_X12_pointText_115 rfl (Nat.le_refl 0) (Nat.le_refl 0) ⟨rfl, rfl, rfl, h⟩
                        · have h := h.2 hc
                          intro τ135 eτ135
                          have h := h τ135 eτ135
                          show WP l mX12_pointText (rm d 0 0) noX _ 0 0 115 [(2, t), (0, x1)] [] N Λ τ135
                          exact r_vret d_X12_pointText_115 rfl (Nat.le_refl 0) (Nat.le_refl 0) ⟨rfl, rfl, rfl, h⟩
                      · have h := h.2 hc
                        show WP l mX12_pointText (rm d 0 0) noX _ 0 0 115 [(2, t), (0, x1)] [] N Λ σ129
                        exact r_vret d_X12_pointText_115 rfl (Nat.le_refl 0) (Nat.le_refl 0) ⟨rfl, rfl, rfl, h⟩
                    · have h := h.2 hc
                      refine r_iconst (x := 1) d_X12_pointText_107 ⟨by decide, by decide⟩ ?_
                      refine r_goto (tgt := 112) d_X12_pointText_108 rfl ?_
                      refine x_callVV (Y2 := mX12_must) (c := t) (As := [(0, 1)]) (S := []) d_X12_pointText_112 ok_mX12_must ml_X12_286 rfl (Nat.le_of_ble_eq_true rfl) (Nat.le_of_ble_eq_true rfl) rfl hd_1 kX12 o_t (c_X12_must (v_X12_must_0 o_t he_1 ?_))
                      refine ⟨fun hc => ?_, fun hc => ?_⟩
                      · have h := h.1 hc
                        refine ⟨fun hc => ?_, fun hc => ?_⟩
                        · have h := h.1 hc
                          refine ⟨fun hc => ?_, fun hc => ?_⟩
                          · have h := h.1 hc
                            intro τ136 eτ136
                            have h := h τ136 eτ136
                            intro τ137 eτ137
                            have h := h τ137 eτ137
                            show WP l mX12_pointText (rm d 0 0) noX _ 0 0 115 [(2, t), (0, x1)] [] N Λ τ137
                            exact r_vret d_X12_pointText_115 rfl (Nat.le_refl 0) (Nat.le_refl 0) ⟨rfl, rfl, rfl, h⟩
                          · have h := h.2 hc
                            show WP l mX12_pointText (rm d 0 0) noX _ 0 0 115 [(2, t), (0, x1)] [] N Λ σ129
                            exact r_vret d_X12_pointText_115 rfl (Nat.le_refl 0) (Nat.le_refl 0) ⟨rfl, rfl, rfl, h⟩
                        · have h := h.2 hc
                          intro τ138 eτ138
                          have h := h τ138 eτ138
                          show WP l mX12_pointText (rm d 0 0) noX _ 0 0 115 [(2, t), (0, x1)] [] N Λ τ138
                          exact r_vret d_X12_pointText_115 rfl (Nat.le_refl 0) (Nat.le_refl 0) ⟨rfl, rfl, rfl, h⟩
                      · have h := h.2 hc
                        show WP l mX12_pointText (rm d 0 0) noX _ 0 0 115 [(2, t), (0, x1)] [] N Λ σ129
                        exact r_vret d_X12_pointText_115 rfl (Nat.le_refl 0) (Nat.le_refl 0) ⟨rfl, rfl, rfl, h⟩
              · have h := h.2 hc
                show WP l mX12_pointText (rm d 0 0) noX _ 0 0 83 [(2, t), (0, x1)] [] N Λ σ8
                refine r_aload_n (x := t) d_X12_pointText_83 rfl o_t.1 ?_
                refine r_iload_n (x := x1) d_X12_pointText_84 rfl ?_
                refine r_iconst (x := 1) d_X12_pointText_85 ⟨by decide, by decide⟩ ?_
                refine r_iadd d_X12_pointText_86 ?_
                refine x_callVV (Y2 := mX12_pointText) (c := t) (As := [(0, (addI x1 1))]) (S := []) d_X12_pointText_87 ok_mX12_pointText ml_X12_303 rfl (Nat.le_of_ble_eq_true rfl) (Nat.le_of_ble_eq_true rfl) rfl hd_1 kX12 o_t (CV.mono h (fun σ139 h => ?_))
                refine r_aload_n (x := t) d_X12_pointText_90 rfl o_t.1 ?_
                refine r_iload_n (x := x1) d_X12_pointText_91 rfl ?_
                refine r_iconst (x := 1) d_X12_pointText_92 ⟨by decide, by decide⟩ ?_
                refine r_iadd d_X12_pointText_93 ?_
                refine x_callVV (Y2 := mX12_pointText) (c := t) (As := [(0, (addI x1 1))]) (S := []) d_X12_pointText_94 ok_mX12_pointText ml_X12_303 rfl (Nat.le_of_ble_eq_true rfl) (Nat.le_of_ble_eq_true rfl) rfl hd_1 kX12 o_t (CV.mono h (fun σ140 h => ?_))
                refine r_aload_n (x := t) d_X12_pointText_97 rfl o_t.1 ?_
                refine r_aload_n (x := t) d_X12_pointText_98 rfl o_t.1 ?_
                refine x_callVI (Y2 := mX12_see) (c := t) (As := []) (S := [(2, t)]) d_X12_pointText_99 ok_mX12_see ml_X12_264 rfl (Nat.le_of_ble_eq_true rfl) (Nat.le_of_ble_eq_true rfl) rfl hd_1 kX12 o_t (c_X12_see (v_X12_see_0 o_t f_t_tape ?_))
                refine ⟨fun hc => ?_, fun hc => ?_⟩
                · have h := h.1 hc
                  show WP l mX12_pointText (rm d 0 0) noX _ 0 0 102 [(2, t), (0, x1)] [(0, (-1)), (2, t)] N Λ σ140
                  refine r_bipush (x := 41) d_X12_pointText_102 ⟨by decide, by decide⟩ (by decide) ?_
                  refine r_ic_ne (tgt := 111) d_X12_pointText_104 rfl (fun _ => ?_) (fun hc => absurd hc (by decide))
                  refine r_iconst (x := 0) d_X12_pointText_111 ⟨by decide, by decide⟩ ?_
                  refine x_callVV (Y2 := mX12_must) (c := t) (As := [(0, 0)]) (S := []) d_X12_pointText_112 ok_mX12_must ml_X12_286 rfl (Nat.le_of_ble_eq_true rfl) (Nat.le_of_ble_eq_true rfl) rfl hd_1 kX12 o_t (c_X12_must (v_X12_must_0 o_t he_1 ?_))
                  refine ⟨fun hc => ?_, fun hc => ?_⟩
                  · have h := h.1 hc
                    refine ⟨fun hc => ?_, fun hc => ?_⟩
                    · have h := h.1 hc
                      refine ⟨fun hc => ?_, fun hc => ?_⟩
                      · have h := h.1 hc
                        intro τ141 eτ141
                        have h := h τ141 eτ141
                        intro τ142 eτ142
                        have h := h τ142 eτ142
                        show WP l mX12_pointText (rm d 0 0) noX _ 0 0 115 [(2, t), (0, x1)] [] N Λ τ142
                        exact r_vret d_X12_pointText_115 rfl (Nat.le_refl 0) (Nat.le_refl 0) ⟨rfl, rfl, rfl, h⟩
                      · have h := h.2 hc
                        show WP l mX12_pointText (rm d 0 0) noX _ 0 0 115 [(2, t), (0, x1)] [] N Λ σ140
                        exact r_vret d_X12_pointText_115 rfl (Nat.le_refl 0) (Nat.le_refl 0) ⟨rfl, rfl, rfl, h⟩
                    · have h := h.2 hc
                      intro τ143 eτ143
                      have h := h τ143 eτ143
                      show WP l mX12_pointText (rm d 0 0) noX _ 0 0 115 [(2, t), (0, x1)] [] N Λ τ143
                      exact r_vret d_X12_pointText_115 rfl (Nat.le_refl 0) (Nat.le_refl 0) ⟨rfl, rfl, rfl, h⟩
                  · have h := h.2 hc
                    show WP l mX12_pointText (rm d 0 0) noX _ 0 0 115 [(2, t), (0, x1)] [] N Λ σ140
                    exact r_vret d_X12_pointText_115 rfl (Nat.le_refl 0) (Nat.le_refl 0) ⟨rfl, rfl, rfl, h⟩
                · have h := h.2 hc
                  refine ⟨h.1, ?_⟩
                  have h := h.2
                  show WP l mX12_pointText (rm d 0 0) noX _ 0 0 102 [(2, t), (0, x1)] [(0, (andI (σ140 t_tape (σ140 t 21)) 255)), (2, t)] N Λ σ140
                  refine r_bipush (x := 41) d_X12_pointText_102 ⟨by decide, by decide⟩ (by decide) ?_
                  refine r_ic_ne (tgt := 111) d_X12_pointText_104 rfl (fun hc => ?_) (fun hc => ?_)
                  · have h := h.1 hc
                    refine r_iconst (x := 0) d_X12_pointText_111 ⟨by decide, by decide⟩ ?_
                    refine x_callVV (Y2 := mX12_must) (c := t) (As := [(0, 0)]) (S := []) d_X12_pointText_112 ok_mX12_must ml_X12_286 rfl (Nat.le_of_ble_eq_true rfl) (Nat.le_of_ble_eq_true rfl) rfl hd_1 kX12 o_t (c_X12_must (v_X12_must_0 o_t he_1 ?_))
                    refine ⟨fun hc => ?_, fun hc => ?_⟩
                    · have h := h.1 hc
                      refine ⟨fun hc => ?_, fun hc => ?_⟩
                      · have h := h.1 hc
                        refine ⟨fun hc => ?_, fun hc => ?_⟩
                        · have h := h.1 hc
                          intro τ144 eτ144
                          have h := h τ144 eτ144
                          intro τ145 eτ145
                          have h := h τ145 eτ145
                          show WP l mX12_pointText (rm d 0 0) noX _ 0 0 115 [(2, t), (0, x1)] [] N Λ τ145
                          exact r_vret d_X12_pointText_115 rfl (Nat.le_refl 0) (Nat.le_refl 0) ⟨rfl, rfl, rfl, h⟩
                        · have h := h.2 hc
                          show WP l mX12_pointText (rm d 0 0) noX _ 0 0 115 [(2, t), (0, x1)] [] N Λ σ140
                          exact r_vret d_X12_pointText_115 rfl (Nat.le_refl 0) (Nat.le_refl 0) ⟨rfl, rfl, rfl, h⟩
                      · have h := h.2 hc
                        intro τ146 eτ146
                        have h := h τ146 eτ146
                        show WP l mX12_pointText (rm d 0 0) noX _ 0 0 115 [(2, t), (0, x1)] [] N Λ τ146
                        exact r_vret d_X12_pointText_115 rfl (Nat.le_refl 0) (Nat.le_refl 0) ⟨rfl, rfl, rfl, h⟩
                    · have h := h.2 hc
                      show WP l mX12_pointText (rm d 0 0) noX _ 0 0 115 [(2, t), (0, x1)] [] N Λ σ140
                      exact r_vret d_X12_pointText_115 rfl (Nat.le_refl 0) (Nat.le_refl 0) ⟨rfl, rfl, rfl, h⟩
                  · have h := h.2 hc
                    refine r_iconst (x := 1) d_X12_pointText_107 ⟨by decide, by decide⟩ ?_
                    refine r_goto (tgt := 112) d_X12_pointText_108 rfl ?_
                    refine x_callVV (Y2 := mX12_must) (c := t) (As := [(0, 1)]) (S := []) d_X12_pointText_112 ok_mX12_must ml_X12_286 rfl (Nat.le_of_ble_eq_true rfl) (Nat.le_of_ble_eq_true rfl) rfl hd_1 kX12 o_t (c_X12_must (v_X12_must_0 o_t he_1 ?_))
                    refine ⟨fun hc => ?_, fun hc => ?_⟩
                    · have h := h.1 hc
                      refine ⟨fun hc => ?_, fun hc => ?_⟩
                      · have h := h.1 hc
                        refine ⟨fun hc => ?_, fun hc => ?_⟩
                        · have h := h.1 hc
                          intro τ147 eτ147
                          have h := h τ147 eτ147
                          intro τ148 eτ148
                          have h := h τ148 eτ148
                          show WP l mX12_pointText (rm d 0 0) noX _ 0 0 115 [(2, t), (0, x1)] [] N Λ τ148
                          exact r_vret d_X12_pointText_115 rfl (Nat.le_refl 0) (Nat.le_refl 0) ⟨rfl, rfl, rfl, h⟩
                        · have h := h.2 hc
                          show WP l mX12_pointText (rm d 0 0) noX _ 0 0 115 [(2, t), (0, x1)] [] N Λ σ140
                          exact r_vret d_X12_pointText_115 rfl (Nat.le_refl 0) (Nat.le_refl 0) ⟨rfl, rfl, rfl, h⟩
                      · have h := h.2 hc
                        intro τ149 eτ149
                        have h := h τ149 eτ149
                        show WP l mX12_pointText (rm d 0 0) noX _ 0 0 115 [(2, t), (0, x1)] [] N Λ τ149
                        exact r_vret d_X12_pointText_115 rfl (Nat.le_refl 0) (Nat.le_refl 0) ⟨rfl, rfl, rfl, h⟩
                    · have h := h.2 hc
                      show WP l mX12_pointText (rm d 0 0) noX _ 0 0 115 [(2, t), (0, x1)] [] N Λ σ140
                      exact r_vret d_X12_pointText_115 rfl (Nat.le_refl 0) (Nat.le_refl 0) ⟨rfl, rfl, rfl, h⟩
        · have h := h.2 hc
          refine r_aload_n (x := t) d_X12_pointText_31 rfl o_t.1 ?_
          refine r_iconst (x := 4) d_X12_pointText_32 ⟨by decide, by decide⟩ ?_
          refine r_aload_n (x := t) d_X12_pointText_33 rfl o_t.1 ?_
          refine r_getf (j := 21) (t := 0) (x := (σ t 21)) d_X12_pointText_34 kX12 (by decide) fl_X12_255 o_t.1 o_t.2.1 o_t.2.2.1 o_t.2.2.2 rfl rfl ?_
          refine x_callVV (Y2 := mX12_wrongs) (c := t) (As := [(0, 4), (0, (σ t 21))]) (S := []) d_X12_pointText_37 ok_mX12_wrongs ml_X12_276 rfl (Nat.le_of_ble_eq_true rfl) (Nat.le_of_ble_eq_true rfl) rfl hd_1 kX12 o_t (c_X12_wrongs (v_X12_wrongs_0 o_t ?_))
          refine ⟨fun hc => ?_, fun hc => ?_⟩
          · have h := h.1 hc
            intro τ150 eτ150
            have h := h τ150 eτ150
            intro τ151 eτ151
            have h := h τ151 eτ151
            show WP l mX12_pointText (rm d 0 0) noX _ 0 0 40 [(2, t), (0, x1)] [] N Λ τ151
            exact r_vret d_X12_pointText_40 rfl (Nat.le_refl 0) (Nat.le_refl 0) ⟨rfl, rfl, rfl, h⟩
          · have h := h.2 hc
            show WP l mX12_pointText (rm d 0 0) noX _ 0 0 40 [(2, t), (0, x1)] [] N Λ σ
            exact r_vret d_X12_pointText_40 rfl (Nat.le_refl 0) (Nat.le_refl 0) ⟨rfl, rfl, rfl, h⟩
      · have h := h.2 hc
        refine r_aload_n (x := t) d_X12_pointText_17 rfl o_t.1 ?_
        refine r_aload_n (x := t) d_X12_pointText_18 rfl o_t.1 ?_
        refine x_callVI (Y2 := mX12_seesLetter) (c := t) (As := []) (S := [(2, t)]) d_X12_pointText_19 ok_mX12_seesLetter ml_X12_283 rfl (Nat.le_of_ble_eq_true rfl) (Nat.le_of_ble_eq_true rfl) rfl hd_1 kX12 o_t (CI.mono h (fun v153 σ152 h => ?_))
        refine x_callVV (Y2 := mX12_must) (c := t) (As := [(0, v153)]) (S := []) d_X12_pointText_22 ok_mX12_must ml_X12_286 rfl (Nat.le_of_ble_eq_true rfl) (Nat.le_of_ble_eq_true rfl) rfl hd_1 kX12 o_t (c_X12_must (v_X12_must_0 o_t he_1 ?_))
        refine ⟨fun hc => ?_, fun hc => ?_⟩
        · have h := h.1 hc
          refine ⟨fun hc => ?_, fun hc => ?_⟩
          · have h := h.1 hc
            refine ⟨fun hc => ?_, fun hc => ?_⟩
            · have h := h.1 hc
              intro τ154 eτ154
              have h := h τ154 eτ154
              intro τ155 eτ155
              have h := h τ155 eτ155
              show WP l mX12_pointText (rm d 0 0) noX _ 0 0 25 [(2, t), (0, x1)] [] N Λ τ155
              exact r_vret d_X12_pointText_25 rfl (Nat.le_refl 0) (Nat.le_refl 0) ⟨rfl, rfl, rfl, h⟩
            · have h := h.2 hc
              show WP l mX12_pointText (rm d 0 0) noX _ 0 0 25 [(2, t), (0, x1)] [] N Λ σ152
              exact r_vret d_X12_pointText_25 rfl (Nat.le_refl 0) (Nat.le_refl 0) ⟨rfl, rfl, rfl, h⟩
          · have h := h.2 hc
            intro τ156 eτ156
            have h := h τ156 eτ156
            show WP l mX12_pointText (rm d 0 0) noX _ 0 0 25 [(2, t), (0, x1)] [] N Λ τ156
            exact r_vret d_X12_pointText_25 rfl (Nat.le_refl 0) (Nat.le_refl 0) ⟨rfl, rfl, rfl, h⟩
        · have h := h.2 hc
          show WP l mX12_pointText (rm d 0 0) noX _ 0 0 25 [(2, t), (0, x1)] [] N Λ σ152
          exact r_vret d_X12_pointText_25 rfl (Nat.le_refl 0) (Nat.le_refl 0) ⟨rfl, rfl, rfl, h⟩
  · have h := h.2 hc
    exact r_vret d_X12_pointText_7 rfl (Nat.le_refl 0) (Nat.le_refl 0) ⟨rfl, rfl, rfl, h⟩
theorem v_X12_figureText_0 {l : Launch} {d N : Nat} {Λ : Lay} {P : Mem → Prop} {σ : Mem} {t : Int}
    (h : WV l mX12_figureText d P 2 [(2, t), (0, 0)] [] N Λ σ) :
    WV l mX12_figureText d P 0 [(2, t), (3, 0)] [] N Λ σ := by
  refine r_iconst (x := 0) d_X12_figureText_0 ⟨by decide, by decide⟩ ?_
  refine r_istore_n (L2 := [(2, t), (0, 0)]) d_X12_figureText_1 (by decide) rfl rfl ?_
  exact h
theorem v_X12_figureText_2 {l : Launch} {d N : Nat} {Λ : Lay} {P : Mem → Prop} {σ : Mem} {x1 t : Int} (o_t : Ob N Λ t 21 36) (h0d : 1 ≤ d)
    (h : ((3 ≤ x1 → ((¬ (σ t 22) = 0 → P σ) ∧ ((σ t 22) = 0 → (((σ t 20) ≤ (σ t 21) → P σ) ∧ (¬ ((σ t 20) ≤ (σ t 21)) → (((σ t 22) = 0 → (∀ τ1, τ1 = st σ t 22 1 → (∀ τ2, τ2 = st τ1 t 23 (σ t 21) → P τ2))) ∧ (¬ ((σ t 22) = 0) → P σ))))))) ∧ (¬ (3 ≤ x1) → (CV l mX12_pointText (d - 1) [(2, t), (0, 0)] N Λ σ (fun σ3 => (∀ y4, y4 = addI x1 1 → WV l mX12_figureText d P 2 [(2, t), (0, y4)] [] N Λ σ3)))))) :
    WV l mX12_figureText d P 2 [(2, t), (0, x1)] [] N Λ σ := by
  have hd_1 : 1 ≤ d := Nat.le_trans (by decide) h0d
  refine r_iload_n (x := x1) d_X12_figureText_2 rfl ?_
  refine r_iconst (x := 3) d_X12_figureText_3 ⟨by decide, by decide⟩ ?_
  refine r_ic_ge (tgt := 18) d_X12_figureText_4 rfl (fun hc => ?_) (fun hc => ?_)
  · have h := h.1 hc
    refine r_aload_n (x := t) d_X12_figureText_18 rfl o_t.1 ?_
    refine r_getf (j := 22) (t := 0) (x := (σ t 22)) d_X12_figureText_19 kX12 (by decide) fl_X12_261 o_t.1 o_t.2.1 o_t.2.2.1 o_t.2.2.2 rfl rfl ?_
    refine r_if_ne (tgt := 45) d_X12_figureText_22 rfl (fun hc => ?_) (fun hc => ?_)
    · have h := h.1 hc
      exact r_vret d_X12_figureText_45 rfl (Nat.le_refl 0) (Nat.le_refl 0) ⟨rfl, rfl, rfl, h⟩
    · have h := h.2 hc
      refine r_aload_n (x := t) d_X12_figureText_25 rfl o_t.1 ?_
      refine r_getf (j := 21) (t := 0) (x := (σ t 21)) d_X12_figureText_26 kX12 (by decide) fl_X12_255 o_t.1 o_t.2.1 o_t.2.2.1 o_t.2.2.2 rfl rfl ?_
      refine r_aload_n (x := t) d_X12_figureText_29 rfl o_t.1 ?_
      refine r_getf (j := 20) (t := 0) (x := (σ t 20)) d_X12_figureText_30 kX12 (by decide) fl_X12_258 o_t.1 o_t.2.1 o_t.2.2.1 o_t.2.2.2 rfl rfl ?_
      refine r_ic_ge (tgt := 45) d_X12_figureText_33 rfl (fun hc => ?_) (fun hc => ?_)
      · have h := h.1 hc
        exact r_vret d_X12_figureText_45 rfl (Nat.le_refl 0) (Nat.le_refl 0) ⟨rfl, rfl, rfl, h⟩
      · have h := h.2 hc
        refine r_aload_n (x := t) d_X12_figureText_36 rfl o_t.1 ?_
        refine r_iconst (x := 1) d_X12_figureText_37 ⟨by decide, by decide⟩ ?_
        refine r_aload_n (x := t) d_X12_figureText_38 rfl o_t.1 ?_
        refine r_getf (j := 21) (t := 0) (x := (σ t 21)) d_X12_figureText_39 kX12 (by decide) fl_X12_255 o_t.1 o_t.2.1 o_t.2.2.1 o_t.2.2.2 rfl rfl ?_
        refine x_callVV (Y2 := mX12_wrongs) (c := t) (As := [(0, 1), (0, (σ t 21))]) (S := []) d_X12_figureText_42 ok_mX12_wrongs ml_X12_276 rfl (Nat.le_of_ble_eq_true rfl) (Nat.le_of_ble_eq_true rfl) rfl hd_1 kX12 o_t (c_X12_wrongs (v_X12_wrongs_0 o_t ?_))
        refine ⟨fun hc => ?_, fun hc => ?_⟩
        · have h := h.1 hc
          intro τ1 eτ1
          have h := h τ1 eτ1
          intro τ2 eτ2
          have h := h τ2 eτ2
          show WP l mX12_figureText (rm d 0 0) noX _ 0 0 45 [(2, t), (0, x1)] [] N Λ τ2
          exact r_vret d_X12_figureText_45 rfl (Nat.le_refl 0) (Nat.le_refl 0) ⟨rfl, rfl, rfl, h⟩
        · have h := h.2 hc
          show WP l mX12_figureText (rm d 0 0) noX _ 0 0 45 [(2, t), (0, x1)] [] N Λ σ
          exact r_vret d_X12_figureText_45 rfl (Nat.le_refl 0) (Nat.le_refl 0) ⟨rfl, rfl, rfl, h⟩
  · have h := h.2 hc
    refine r_aload_n (x := t) d_X12_figureText_7 rfl o_t.1 ?_
    refine r_iconst (x := 0) d_X12_figureText_8 ⟨by decide, by decide⟩ ?_
    refine x_callVV (Y2 := mX12_pointText) (c := t) (As := [(0, 0)]) (S := []) d_X12_figureText_9 ok_mX12_pointText ml_X12_303 rfl (Nat.le_of_ble_eq_true rfl) (Nat.le_of_ble_eq_true rfl) rfl hd_1 kX12 o_t (CV.mono h (fun σ3 h => ?_))
    refine x_iinc (x := x1) (L := [(2, t), (0, x1)]) d_X12_figureText_12 rfl (by decide) rfl (fun y4 ey4 => ?_)
    have h := h y4 ey4
    show WP _ _ _ _ _ _ _ _ [(2, t), (0, y4)] _ _ _ _
    refine r_goto (tgt := 2) d_X12_figureText_15 rfl ?_
    exact h
theorem v_X12_rowOf_0 {l : Launch} {d N : Nat} {Λ : Lay} {P : Int → Mem → Prop} {σ : Mem} {x0 x1 : Int}
    (h : P (addI (addI 6 (mulI 10 x0)) x1) σ) :
    WI l mX12_rowOf d P 0 [(0, x0), (0, x1)] [] N Λ σ := by
  refine r_bipush (x := 6) d_X12_rowOf_0 ⟨by decide, by decide⟩ (by decide) ?_
  refine r_bipush (x := 10) d_X12_rowOf_2 ⟨by decide, by decide⟩ (by decide) ?_
  refine r_iload_n (x := x0) d_X12_rowOf_4 rfl ?_
  refine r_imul d_X12_rowOf_5 ?_
  refine r_iadd d_X12_rowOf_6 ?_
  refine r_iload_n (x := x1) d_X12_rowOf_7 rfl ?_
  refine r_iadd d_X12_rowOf_8 ?_
  exact r_iret d_X12_rowOf_9 rfl rfl (Nat.le_refl 0) (Nat.le_refl 0) ⟨_, rfl, rfl, rfl, h⟩
theorem v_X12_timesRow_0 {l : Launch} {d N : Nat} {Λ : Lay} {P : Mem → Prop} {σ : Mem} {x1 t t_pool : Int} (o_t : Ob N Λ t 21 36) (f_t_pool : (Λ t).2.2 7 = t_pool) (h0d : 2 ≤ d)
    (h : (Ix N Λ t_pool 0 (mulI 161 5) ∧ (∀ τ1, τ1 = st σ t_pool (mulI 161 5) 0 → (CV l mX12_multiplies (d - 1) [(2, t), (0, 1), (0, x1), (0, 1), (0, 5)] N Λ τ1 (fun σ2 => (CV l mX12_copies (d - 1 - 1) [(2, t_pool), (0, (mulI 161 5)), (2, t_pool), (0, (mulI 161 1)), (0, 161)] N Λ σ2 (fun σ3 => P σ3))))))) :
    WV l mX12_timesRow d P 0 [(2, t), (0, x1)] [] N Λ σ := by
  have hd_1 : 1 ≤ d := Nat.le_trans (by decide) h0d
  have he_1 : 1 ≤ d - 1 := Nat.le_sub_of_add_le (Nat.le_trans (by decide) h0d)
  refine r_aload_n (x := t) d_X12_timesRow_0 rfl o_t.1 ?_
  refine r_iconst (x := 5) d_X12_timesRow_1 ⟨by decide, by decide⟩ ?_
  refine x_callVV (Y2 := mX12_empties) (c := t) (As := [(0, 5)]) (S := []) d_X12_timesRow_2 ok_mX12_empties ml_X12_105 rfl (Nat.le_of_ble_eq_true rfl) (Nat.le_of_ble_eq_true rfl) rfl hd_1 kX12 o_t (c_X12_empties (v_X12_empties_0 o_t f_t_pool ?_))
  refine ⟨h.1, ?_⟩
  have h := h.2
  intro τ1 eτ1
  have h := h τ1 eτ1
  show WP l mX12_timesRow (rm d 0 0) noX _ 0 0 5 [(2, t), (0, x1)] [] N Λ τ1
  refine r_aload_n (x := t) d_X12_timesRow_5 rfl o_t.1 ?_
  refine r_iconst (x := 1) d_X12_timesRow_6 ⟨by decide, by decide⟩ ?_
  refine r_iload_n (x := x1) d_X12_timesRow_7 rfl ?_
  refine r_iconst (x := 1) d_X12_timesRow_8 ⟨by decide, by decide⟩ ?_
  refine r_iconst (x := 5) d_X12_timesRow_9 ⟨by decide, by decide⟩ ?_
  refine x_callVV (Y2 := mX12_multiplies) (c := t) (As := [(0, 1), (0, x1), (0, 1), (0, 5)]) (S := []) d_X12_timesRow_10 ok_mX12_multiplies ml_X12_231 rfl (Nat.le_of_ble_eq_true rfl) (Nat.le_of_ble_eq_true rfl) rfl hd_1 kX12 o_t (CV.mono h (fun σ2 h => ?_))
  refine r_aload_n (x := t) d_X12_timesRow_13 rfl o_t.1 ?_
  refine r_iconst (x := 5) d_X12_timesRow_14 ⟨by decide, by decide⟩ ?_
  refine r_iconst (x := 1) d_X12_timesRow_15 ⟨by decide, by decide⟩ ?_
  refine x_callVV (Y2 := mX12_copiesRow) (c := t) (As := [(0, 5), (0, 1)]) (S := []) d_X12_timesRow_16 ok_mX12_copiesRow ml_X12_328 rfl (Nat.le_of_ble_eq_true rfl) (Nat.le_of_ble_eq_true rfl) rfl hd_1 kX12 o_t (c_X12_copiesRow (v_X12_copiesRow_0 o_t f_t_pool he_1 ?_))
  refine CV.mono h (fun σ3 h => ?_)
  show WP l mX12_timesRow (rm d 0 0) noX _ 0 0 19 [(2, t), (0, x1)] [] N Λ σ3
  exact r_vret d_X12_timesRow_19 rfl (Nat.le_refl 0) (Nat.le_refl 0) ⟨rfl, rfl, rfl, h⟩
theorem v_X12_addsBracket_0 {l : Launch} {d N : Nat} {Λ : Lay} {P : Mem → Prop} {σ : Mem} {x1 x2 x3 x4 x5 t t_pool : Int} (o_t : Ob N Λ t 21 36) (f_t_pool : (Λ t).2.2 7 = t_pool) (h0d : 3 ≤ d)
    (h : (Ix N Λ t_pool 0 (mulI 161 1) ∧ (∀ τ1, τ1 = st σ t_pool (mulI 161 1) 0 → (CV l mX12_putsBracket (d - 1) [(2, t), (0, (divI x4 100)), (0, (remI (divI x4 10) 10)), (0, (remI x4 10)), (0, 1)] N Λ τ1 (fun σ2 => (Ix N Λ t_pool 0 (mulI 161 5) ∧ (∀ τ3, τ3 = st σ2 t_pool (mulI 161 5) 0 → (CV l mX12_multiplies (d - 1 - 1) [(2, t), (0, 1), (0, (addI (addI 6 (mulI 10 x1)) (divI x4 100))), (0, 1), (0, 5)] N Λ τ3 (fun σ4 => (CV l mX12_copies (d - 1 - 1 - 1) [(2, t_pool), (0, (mulI 161 5)), (2, t_pool), (0, (mulI 161 1)), (0, 161)] N Λ σ4 (fun σ5 => (Ix N Λ t_pool 0 (mulI 161 5) ∧ (∀ τ6, τ6 = st σ5 t_pool (mulI 161 5) 0 → (CV l mX12_multiplies (d - 1 - 1) [(2, t), (0, 1), (0, (addI (addI 6 (mulI 10 x2)) (remI (divI x4 10) 10))), (0, 1), (0, 5)] N Λ τ6 (fun σ7 => (CV l mX12_copies (d - 1 - 1 - 1) [(2, t_pool), (0, (mulI 161 5)), (2, t_pool), (0, (mulI 161 1)), (0, 161)] N Λ σ7 (fun σ8 => (Ix N Λ t_pool 0 (mulI 161 5) ∧ (∀ τ9, τ9 = st σ8 t_pool (mulI 161 5) 0 → (CV l mX12_multiplies (d - 1 - 1) [(2, t), (0, 1), (0, (addI (addI 6 (mulI 10 x3)) (remI x4 10))), (0, 1), (0, 5)] N Λ τ9 (fun σ10 => (CV l mX12_copies (d - 1 - 1 - 1) [(2, t_pool), (0, (mulI 161 5)), (2, t_pool), (0, (mulI 161 1)), (0, 161)] N Λ σ10 (fun σ11 => WV l mX12_addsBracket d P 73 [(2, t), (0, x1), (0, x2), (0, x3), (0, x4), (0, x5), (0, 0)] [] N Λ σ11))))))))))))))))))))))) :
    WV l mX12_addsBracket d P 0 [(2, t), (0, x1), (0, x2), (0, x3), (0, x4), (0, x5), (3, 0)] [] N Λ σ := by
  have hd_1 : 1 ≤ d := Nat.le_trans (by decide) h0d
  have he_1 : 1 ≤ d - 1 := Nat.le_sub_of_add_le (Nat.le_trans (by decide) h0d)
  have he_2 : 2 ≤ d - 1 := Nat.le_sub_of_add_le (Nat.le_trans (by decide) h0d)
  refine r_aload_n (x := t) d_X12_addsBracket_0 rfl o_t.1 ?_
  refine r_iconst (x := 1) d_X12_addsBracket_1 ⟨by decide, by decide⟩ ?_
  refine x_callVV (Y2 := mX12_empties) (c := t) (As := [(0, 1)]) (S := []) d_X12_addsBracket_2 ok_mX12_empties ml_X12_105 rfl (Nat.le_of_ble_eq_true rfl) (Nat.le_of_ble_eq_true rfl) rfl hd_1 kX12 o_t (c_X12_empties (v_X12_empties_0 o_t f_t_pool ?_))
  refine ⟨h.1, ?_⟩
  have h := h.2
  intro τ1 eτ1
  have h := h τ1 eτ1
  show WP l mX12_addsBracket (rm d 0 0) noX _ 0 0 5 [(2, t), (0, x1), (0, x2), (0, x3), (0, x4), (0, x5), (3, 0)] [] N Λ τ1
  refine r_aload_n (x := t) d_X12_addsBracket_5 rfl o_t.1 ?_
  refine r_iload (x := x4) d_X12_addsBracket_6 rfl ?_
  refine r_bipush (x := 100) d_X12_addsBracket_8 ⟨by decide, by decide⟩ (by decide) ?_
  refine r_idiv d_X12_addsBracket_10 (by decide) ?_
  refine r_iload (x := x4) d_X12_addsBracket_11 rfl ?_
  refine r_bipush (x := 10) d_X12_addsBracket_13 ⟨by decide, by decide⟩ (by decide) ?_
  refine r_idiv d_X12_addsBracket_15 (by decide) ?_
  refine r_bipush (x := 10) d_X12_addsBracket_16 ⟨by decide, by decide⟩ (by decide) ?_
  refine r_irem d_X12_addsBracket_18 (by decide) ?_
  refine r_iload (x := x4) d_X12_addsBracket_19 rfl ?_
  refine r_bipush (x := 10) d_X12_addsBracket_21 ⟨by decide, by decide⟩ (by decide) ?_
  refine r_irem d_X12_addsBracket_23 (by decide) ?_
  refine r_iconst (x := 1) d_X12_addsBracket_24 ⟨by decide, by decide⟩ ?_
  refine x_callVV (Y2 := mX12_putsBracket) (c := t) (As := [(0, (divI x4 100)), (0, (remI (divI x4 10) 10)), (0, (remI x4 10)), (0, 1)]) (S := []) d_X12_addsBracket_25 ok_mX12_putsBracket ml_X12_211 rfl (Nat.le_of_ble_eq_true rfl) (Nat.le_of_ble_eq_true rfl) rfl hd_1 kX12 o_t (CV.mono h (fun σ2 h => ?_))
  refine r_aload_n (x := t) d_X12_addsBracket_28 rfl o_t.1 ?_
  refine r_iload_n (x := x1) d_X12_addsBracket_29 rfl ?_
  refine r_iload (x := x4) d_X12_addsBracket_30 rfl ?_
  refine r_bipush (x := 100) d_X12_addsBracket_32 ⟨by decide, by decide⟩ (by decide) ?_
  refine r_idiv d_X12_addsBracket_34 (by decide) ?_
  refine x_callSI (Y2 := mX12_rowOf) (As := [(0, x1), (0, (divI x4 100))]) (S := [(2, t)]) d_X12_addsBracket_35 ok_mX12_rowOf ml_X12_306 rfl (Nat.le_of_ble_eq_true rfl) (Nat.le_of_ble_eq_true rfl) rfl hd_1 (c_X12_rowOf (v_X12_rowOf_0 ?_))
  show WP l mX12_addsBracket (rm d 0 0) noX _ 0 0 38 [(2, t), (0, x1), (0, x2), (0, x3), (0, x4), (0, x5), (3, 0)] [(0, (addI (addI 6 (mulI 10 x1)) (divI x4 100))), (2, t)] N Λ σ2
  refine x_callVV (Y2 := mX12_timesRow) (c := t) (As := [(0, (addI (addI 6 (mulI 10 x1)) (divI x4 100)))]) (S := []) d_X12_addsBracket_38 ok_mX12_timesRow ml_X12_325 rfl (Nat.le_of_ble_eq_true rfl) (Nat.le_of_ble_eq_true rfl) rfl hd_1 kX12 o_t (c_X12_timesRow (v_X12_timesRow_0 o_t f_t_pool he_2 ?_))
  refine ⟨h.1, ?_⟩
  have h := h.2
  intro τ3 eτ3
  have h := h τ3 eτ3
  refine CV.mono h (fun σ4 h => ?_)
  refine CV.mono h (fun σ5 h => ?_)
  show WP l mX12_addsBracket (rm d 0 0) noX _ 0 0 41 [(2, t), (0, x1), (0, x2), (0, x3), (0, x4), (0, x5), (3, 0)] [] N Λ σ5
  refine r_aload_n (x := t) d_X12_addsBracket_41 rfl o_t.1 ?_
  refine r_iload_n (x := x2) d_X12_addsBracket_42 rfl ?_
  refine r_iload (x := x4) d_X12_addsBracket_43 rfl ?_
  refine r_bipush (x := 10) d_X12_addsBracket_45 ⟨by decide, by decide⟩ (by decide) ?_
  refine r_idiv d_X12_addsBracket_47 (by decide) ?_
  refine r_bipush (x := 10) d_X12_addsBracket_48 ⟨by decide, by decide⟩ (by decide) ?_
  refine r_irem d_X12_addsBracket_50 (by decide) ?_
  refine x_callSI (Y2 := mX12_rowOf) (As := [(0, x2), (0, (remI (divI x4 10) 10))]) (S := [(2, t)]) d_X12_addsBracket_51 ok_mX12_rowOf ml_X12_306 rfl (Nat.le_of_ble_eq_true rfl) (Nat.le_of_ble_eq_true rfl) rfl hd_1 (c_X12_rowOf (v_X12_rowOf_0 ?_))
  show WP l mX12_addsBracket (rm d 0 0) noX _ 0 0 54 [(2, t), (0, x1), (0, x2), (0, x3), (0, x4), (0, x5), (3, 0)] [(0, (addI (addI 6 (mulI 10 x2)) (remI (divI x4 10) 10))), (2, t)] N Λ σ5
  refine x_callVV (Y2 := mX12_timesRow) (c := t) (As := [(0, (addI (addI 6 (mulI 10 x2)) (remI (divI x4 10) 10)))]) (S := []) d_X12_addsBracket_54 ok_mX12_timesRow ml_X12_325 rfl (Nat.le_of_ble_eq_true rfl) (Nat.le_of_ble_eq_true rfl) rfl hd_1 kX12 o_t (c_X12_timesRow (v_X12_timesRow_0 o_t f_t_pool he_2 ?_))
  refine ⟨h.1, ?_⟩
  have h := h.2
  intro τ6 eτ6
  have h := h τ6 eτ6
  refine CV.mono h (fun σ7 h => ?_)
  refine CV.mono h (fun σ8 h => ?_)
  show WP l mX12_addsBracket (rm d 0 0) noX _ 0 0 57 [(2, t), (0, x1), (0, x2), (0, x3), (0, x4), (0, x5), (3, 0)] [] N Λ σ8
  refine r_aload_n (x := t) d_X12_addsBracket_57 rfl o_t.1 ?_
  refine r_iload_n (x := x3) d_X12_addsBracket_58 rfl ?_
  refine r_iload (x := x4) d_X12_addsBracket_59 rfl ?_
  refine r_bipush (x := 10) d_X12_addsBracket_61 ⟨by decide, by decide⟩ (by decide) ?_
  refine r_irem d_X12_addsBracket_63 (by decide) ?_
  refine x_callSI (Y2 := mX12_rowOf) (As := [(0, x3), (0, (remI x4 10))]) (S := [(2, t)]) d_X12_addsBracket_64 ok_mX12_rowOf ml_X12_306 rfl (Nat.le_of_ble_eq_true rfl) (Nat.le_of_ble_eq_true rfl) rfl hd_1 (c_X12_rowOf (v_X12_rowOf_0 ?_))
  show WP l mX12_addsBracket (rm d 0 0) noX _ 0 0 67 [(2, t), (0, x1), (0, x2), (0, x3), (0, x4), (0, x5), (3, 0)] [(0, (addI (addI 6 (mulI 10 x3)) (remI x4 10))), (2, t)] N Λ σ8
  refine x_callVV (Y2 := mX12_timesRow) (c := t) (As := [(0, (addI (addI 6 (mulI 10 x3)) (remI x4 10)))]) (S := []) d_X12_addsBracket_67 ok_mX12_timesRow ml_X12_325 rfl (Nat.le_of_ble_eq_true rfl) (Nat.le_of_ble_eq_true rfl) rfl hd_1 kX12 o_t (c_X12_timesRow (v_X12_timesRow_0 o_t f_t_pool he_2 ?_))
  refine ⟨h.1, ?_⟩
  have h := h.2
  intro τ9 eτ9
  have h := h τ9 eτ9
  refine CV.mono h (fun σ10 h => ?_)
  refine CV.mono h (fun σ11 h => ?_)
  show WP l mX12_addsBracket (rm d 0 0) noX _ 0 0 70 [(2, t), (0, x1), (0, x2), (0, x3), (0, x4), (0, x5), (3, 0)] [] N Λ σ11
  refine r_iconst (x := 0) d_X12_addsBracket_70 ⟨by decide, by decide⟩ ?_
  refine r_istore (L2 := [(2, t), (0, x1), (0, x2), (0, x3), (0, x4), (0, x5), (0, 0)]) d_X12_addsBracket_71 (by decide) rfl rfl ?_
  exact h
theorem v_X12_addsBracket_73 {l : Launch} {d N : Nat} {Λ : Lay} {P : Mem → Prop} {σ : Mem} {x1 x2 x3 x4 x5 x6 t t_pool : Int} (o_t : Ob N Λ t 21 36) (f_t_pool : (Λ t).2.2 7 = t_pool) (h0d : 1 ≤ d)
    (h : (Ix N Λ t_pool 0 (mulI 161 1) ∧ (((σ t_pool (mulI 161 1)) ≤ x6 → P σ) ∧ (¬ ((σ t_pool (mulI 161 1)) ≤ x6) → (Ix N Λ t_pool 0 (addI (addI (mulI 161 1) 1) (mulI 2 x6)) ∧ (Ix N Λ t_pool 0 (addI (addI (mulI 161 1) 2) (mulI 2 x6)) ∧ (CI l mX12_puts (d - 1) [(2, t), (0, x5), (0, (σ t_pool (addI (addI (mulI 161 1) 1) (mulI 2 x6)))), (1, (σ t_pool (addI (addI (mulI 161 1) 2) (mulI 2 x6))))] N Λ σ (fun v2 σ1 => (∀ y3, y3 = addI x6 1 → WV l mX12_addsBracket d P 73 [(2, t), (0, x1), (0, x2), (0, x3), (0, x4), (0, x5), (0, y3)] [] N Λ σ1))))))))) :
    WV l mX12_addsBracket d P 73 [(2, t), (0, x1), (0, x2), (0, x3), (0, x4), (0, x5), (0, x6)] [] N Λ σ := by
  have hd_1 : 1 ≤ d := Nat.le_trans (by decide) h0d
  refine r_iload (x := x6) d_X12_addsBracket_73 rfl ?_
  refine r_aload_n (x := t) d_X12_addsBracket_75 rfl o_t.1 ?_
  refine r_iconst (x := 1) d_X12_addsBracket_76 ⟨by decide, by decide⟩ ?_
  refine x_callVI (Y2 := mX12_many) (c := t) (As := [(0, 1)]) (S := [(0, x6)]) d_X12_addsBracket_77 ok_mX12_many ml_X12_113 rfl (Nat.le_of_ble_eq_true rfl) (Nat.le_of_ble_eq_true rfl) rfl hd_1 kX12 o_t (c_X12_many (v_X12_many_0 o_t f_t_pool ?_))
  refine ⟨h.1, ?_⟩
  have h := h.2
  show WP l mX12_addsBracket (rm d 0 0) noX _ 0 0 80 [(2, t), (0, x1), (0, x2), (0, x3), (0, x4), (0, x5), (0, x6)] [(0, (σ t_pool (mulI 161 1))), (0, x6)] N Λ σ
  refine r_ic_ge (tgt := 111) d_X12_addsBracket_80 rfl (fun hc => ?_) (fun hc => ?_)
  · have h := h.1 hc
    exact r_vret d_X12_addsBracket_111 rfl (Nat.le_refl 0) (Nat.le_refl 0) ⟨rfl, rfl, rfl, h⟩
  · have h := h.2 hc
    refine r_aload_n (x := t) d_X12_addsBracket_83 rfl o_t.1 ?_
    refine r_iload (x := x5) d_X12_addsBracket_84 rfl ?_
    refine r_aload_n (x := t) d_X12_addsBracket_86 rfl o_t.1 ?_
    refine r_iconst (x := 1) d_X12_addsBracket_87 ⟨by decide, by decide⟩ ?_
    refine r_iload (x := x6) d_X12_addsBracket_88 rfl ?_
    refine x_callVI (Y2 := mX12_key) (c := t) (As := [(0, 1), (0, x6)]) (S := [(0, x5), (2, t)]) d_X12_addsBracket_90 ok_mX12_key ml_X12_117 rfl (Nat.le_of_ble_eq_true rfl) (Nat.le_of_ble_eq_true rfl) rfl hd_1 kX12 o_t (c_X12_key (v_X12_key_0 o_t f_t_pool ?_))
    refine ⟨h.1, ?_⟩
    have h := h.2
    show WP l mX12_addsBracket (rm d 0 0) noX _ 0 0 93 [(2, t), (0, x1), (0, x2), (0, x3), (0, x4), (0, x5), (0, x6)] [(0, (σ t_pool (addI (addI (mulI 161 1) 1) (mulI 2 x6)))), (0, x5), (2, t)] N Λ σ
    refine r_aload_n (x := t) d_X12_addsBracket_93 rfl o_t.1 ?_
    refine r_iconst (x := 1) d_X12_addsBracket_94 ⟨by decide, by decide⟩ ?_
    refine r_iload (x := x6) d_X12_addsBracket_95 rfl ?_
    refine x_callVI (Y2 := mX12_number) (c := t) (As := [(0, 1), (0, x6)]) (S := [(0, (σ t_pool (addI (addI (mulI 161 1) 1) (mulI 2 x6)))), (0, x5), (2, t)]) d_X12_addsBracket_97 ok_mX12_number ml_X12_132 rfl (Nat.le_of_ble_eq_true rfl) (Nat.le_of_ble_eq_true rfl) rfl hd_1 kX12 o_t (c_X12_number (v_X12_number_0 o_t f_t_pool ?_))
    refine ⟨h.1, ?_⟩
    have h := h.2
    show WP l mX12_addsBracket (rm d 0 0) noX _ 0 0 100 [(2, t), (0, x1), (0, x2), (0, x3), (0, x4), (0, x5), (0, x6)] [(0, (σ t_pool (addI (addI (mulI 161 1) 2) (mulI 2 x6)))), (0, (σ t_pool (addI (addI (mulI 161 1) 1) (mulI 2 x6)))), (0, x5), (2, t)] N Λ σ
    refine r_i2l d_X12_addsBracket_100 ?_
    refine x_callVI (Y2 := mX12_puts) (c := t) (As := [(0, x5), (0, (σ t_pool (addI (addI (mulI 161 1) 1) (mulI 2 x6)))), (1, (σ t_pool (addI (addI (mulI 161 1) 2) (mulI 2 x6))))]) (S := []) d_X12_addsBracket_101 ok_mX12_puts ml_X12_147 rfl (Nat.le_of_ble_eq_true rfl) (Nat.le_of_ble_eq_true rfl) rfl hd_1 kX12 o_t (CI.mono h (fun v2 σ1 h => ?_))
    refine r_pop d_X12_addsBracket_104 rfl ?_
    refine x_iinc (x := x6) (L := [(2, t), (0, x1), (0, x2), (0, x3), (0, x4), (0, x5), (0, x6)]) d_X12_addsBracket_105 rfl (by decide) rfl (fun y3 ey3 => ?_)
    have h := h y3 ey3
    show WP _ _ _ _ _ _ _ _ [(2, t), (0, x1), (0, x2), (0, x3), (0, x4), (0, x5), (0, y3)] _ _ _ _
    refine r_goto (tgt := 73) d_X12_addsBracket_108 rfl ?_
    exact h
theorem v_X12_brackets_0 {l : Launch} {d N : Nat} {Λ : Lay} {P : Mem → Prop} {σ : Mem} {x1 x2 x3 x4 t t_pool : Int} (o_t : Ob N Λ t 21 36) (f_t_pool : (Λ t).2.2 7 = t_pool) (h0d : 1 ≤ d)
    (h : (Ix N Λ t_pool 0 (mulI 161 x4) ∧ (∀ τ1, τ1 = st σ t_pool (mulI 161 x4) 0 → WV l mX12_brackets d P 9 [(2, t), (0, x1), (0, x2), (0, x3), (0, x4), (0, 0), (3, 0), (3, 0), (3, 0)] [] N Λ τ1))) :
    WV l mX12_brackets d P 0 [(2, t), (0, x1), (0, x2), (0, x3), (0, x4), (3, 0), (3, 0), (3, 0), (3, 0)] [] N Λ σ := by
  have hd_1 : 1 ≤ d := Nat.le_trans (by decide) h0d
  refine r_aload_n (x := t) d_X12_brackets_0 rfl o_t.1 ?_
  refine r_iload (x := x4) d_X12_brackets_1 rfl ?_
  refine x_callVV (Y2 := mX12_empties) (c := t) (As := [(0, x4)]) (S := []) d_X12_brackets_3 ok_mX12_empties ml_X12_105 rfl (Nat.le_of_ble_eq_true rfl) (Nat.le_of_ble_eq_true rfl) rfl hd_1 kX12 o_t (c_X12_empties (v_X12_empties_0 o_t f_t_pool ?_))
  refine ⟨h.1, ?_⟩
  have h := h.2
  intro τ1 eτ1
  have h := h τ1 eτ1
  show WP l mX12_brackets (rm d 0 0) noX _ 0 0 6 [(2, t), (0, x1), (0, x2), (0, x3), (0, x4), (3, 0), (3, 0), (3, 0), (3, 0)] [] N Λ τ1
  refine r_iconst (x := 0) d_X12_brackets_6 ⟨by decide, by decide⟩ ?_
  refine r_istore (L2 := [(2, t), (0, x1), (0, x2), (0, x3), (0, x4), (0, 0), (3, 0), (3, 0), (3, 0)]) d_X12_brackets_7 (by decide) rfl rfl ?_
  exact h
theorem v_X12_brackets_9 {l : Launch} {d N : Nat} {Λ : Lay} {P : Mem → Prop} {σ : Mem} {x1 x2 x3 x4 x5 t : Int}
    (h : ((10 ≤ x5 → P σ) ∧ (¬ (10 ≤ x5) → WV l mX12_brackets d P 19 [(2, t), (0, x1), (0, x2), (0, x3), (0, x4), (0, x5), (0, 0), (3, 0), (3, 0)] [] N Λ σ))) :
    WV l mX12_brackets d P 9 [(2, t), (0, x1), (0, x2), (0, x3), (0, x4), (0, x5), (3, 0), (3, 0), (3, 0)] [] N Λ σ := by
  refine r_iload (x := x5) d_X12_brackets_9 rfl ?_
  refine r_bipush (x := 10) d_X12_brackets_11 ⟨by decide, by decide⟩ (by decide) ?_
  refine r_ic_ge (tgt := 157) d_X12_brackets_13 rfl (fun hc => ?_) (fun hc => ?_)
  · have h := h.1 hc
    exact r_vret d_X12_brackets_157 rfl (Nat.le_refl 0) (Nat.le_refl 0) ⟨rfl, rfl, rfl, h⟩
  · have h := h.2 hc
    refine r_iconst (x := 0) d_X12_brackets_16 ⟨by decide, by decide⟩ ?_
    refine r_istore (L2 := [(2, t), (0, x1), (0, x2), (0, x3), (0, x4), (0, x5), (0, 0), (3, 0), (3, 0)]) d_X12_brackets_17 (by decide) rfl rfl ?_
    exact h
theorem v_X12_brackets_19 {l : Launch} {d N : Nat} {Λ : Lay} {P : Mem → Prop} {σ : Mem} {x1 x2 x3 x4 x5 x6 t : Int}
    (h : ((10 ≤ x6 → (∀ y1, y1 = addI x5 1 → WV l mX12_brackets d P 9 [(2, t), (0, x1), (0, x2), (0, x3), (0, x4), (0, y1), (3, 0), (3, 0), (3, 0)] [] N Λ σ)) ∧ (¬ (10 ≤ x6) → WV l mX12_brackets d P 29 [(2, t), (0, x1), (0, x2), (0, x3), (0, x4), (0, x5), (0, x6), (0, 0), (3, 0)] [] N Λ σ))) :
    WV l mX12_brackets d P 19 [(2, t), (0, x1), (0, x2), (0, x3), (0, x4), (0, x5), (0, x6), (3, 0), (3, 0)] [] N Λ σ := by
  refine r_iload (x := x6) d_X12_brackets_19 rfl ?_
  refine r_bipush (x := 10) d_X12_brackets_21 ⟨by decide, by decide⟩ (by decide) ?_
  refine r_ic_ge (tgt := 151) d_X12_brackets_23 rfl (fun hc => ?_) (fun hc => ?_)
  · have h := h.1 hc
    refine x_iinc (x := x5) (L := [(2, t), (0, x1), (0, x2), (0, x3), (0, x4), (0, x5), (0, x6), (3, 0), (3, 0)]) d_X12_brackets_151 rfl (by decide) rfl (fun y1 ey1 => ?_)
    have h := h y1 ey1
    show WP _ _ _ _ _ _ _ _ [(2, t), (0, x1), (0, x2), (0, x3), (0, x4), (0, y1), (0, x6), (3, 0), (3, 0)] _ _ _ _
    refine r_goto (tgt := 9) d_X12_brackets_154 rfl ?_
    exact x_mask h ⟨Or.inr rfl, Or.inr rfl, Or.inr rfl, Or.inr rfl, Or.inr rfl, Or.inr rfl, Or.inl rfl, Or.inl rfl, Or.inl rfl, trivial⟩
  · have h := h.2 hc
    refine r_iconst (x := 0) d_X12_brackets_26 ⟨by decide, by decide⟩ ?_
    refine r_istore (L2 := [(2, t), (0, x1), (0, x2), (0, x3), (0, x4), (0, x5), (0, x6), (0, 0), (3, 0)]) d_X12_brackets_27 (by decide) rfl rfl ?_
    exact h
theorem v_X12_brackets_29 {l : Launch} {d N : Nat} {Λ : Lay} {P : Mem → Prop} {σ : Mem} {x1 x2 x3 x4 x5 x6 x7 t t_pool t_rankOf : Int} (o_t : Ob N Λ t 21 36) (f_t_pool : (Λ t).2.2 7 = t_pool) (f_t_rankOf : (Λ t).2.2 1 = t_rankOf) (h0d : 1 ≤ d)
    (h : ((10 ≤ x7 → (∀ y1, y1 = addI x6 1 → WV l mX12_brackets d P 19 [(2, t), (0, x1), (0, x2), (0, x3), (0, x4), (0, x5), (0, y1), (3, 0), (3, 0)] [] N Λ σ)) ∧ (¬ (10 ≤ x7) → ((¬ (σ t 8) = 0 → (∀ y2, y2 = addI x6 1 → WV l mX12_brackets d P 19 [(2, t), (0, x1), (0, x2), (0, x3), (0, x4), (0, x5), (0, y2), (3, 0), (3, 0)] [] N Λ σ)) ∧ ((σ t 8) = 0 → (Ix N Λ t_pool 0 (mulI 161 (addI (addI 6 (mulI 10 x1)) x5)) ∧ (((σ t_pool (mulI 161 (addI (addI 6 (mulI 10 x1)) x5))) ≤ 0 → (∀ y3, y3 = addI x7 1 → WV l mX12_brackets d P 29 [(2, t), (0, x1), (0, x2), (0, x3), (0, x4), (0, x5), (0, x6), (0, y3), (3, 0)] [] N Λ σ)) ∧ (¬ ((σ t_pool (mulI 161 (addI (addI 6 (mulI 10 x1)) x5))) ≤ 0) → (Ix N Λ t_pool 0 (mulI 161 (addI (addI 6 (mulI 10 x2)) x6)) ∧ (((σ t_pool (mulI 161 (addI (addI 6 (mulI 10 x2)) x6))) ≤ 0 → (∀ y4, y4 = addI x7 1 → WV l mX12_brackets d P 29 [(2, t), (0, x1), (0, x2), (0, x3), (0, x4), (0, x5), (0, x6), (0, y4), (3, 0)] [] N Λ σ)) ∧ (¬ ((σ t_pool (mulI 161 (addI (addI 6 (mulI 10 x2)) x6))) ≤ 0) → (Ix N Λ t_pool 0 (mulI 161 (addI (addI 6 (mulI 10 x3)) x7)) ∧ (((σ t_pool (mulI 161 (addI (addI 6 (mulI 10 x3)) x7))) ≤ 0 → (∀ y5, y5 = addI x7 1 → WV l mX12_brackets d P 29 [(2, t), (0, x1), (0, x2), (0, x3), (0, x4), (0, x5), (0, x6), (0, y5), (3, 0)] [] N Λ σ)) ∧ (¬ ((σ t_pool (mulI 161 (addI (addI 6 (mulI 10 x3)) x7))) ≤ 0) → (Ix N Λ t_rankOf 0 (addI (addI (mulI 100 x5) (mulI 10 x6)) x7) ∧ (((σ t_rankOf (addI (addI (mulI 100 x5) (mulI 10 x6)) x7)) = 0 → (∀ y6, y6 = addI x7 1 → WV l mX12_brackets d P 29 [(2, t), (0, x1), (0, x2), (0, x3), (0, x4), (0, x5), (0, x6), (0, y6), (3, 0)] [] N Λ σ)) ∧ (¬ ((σ t_rankOf (addI (addI (mulI 100 x5) (mulI 10 x6)) x7)) = 0) → (CV l mX12_addsBracket (d - 1) [(2, t), (0, x1), (0, x2), (0, x3), (0, (addI (addI (mulI 100 x5) (mulI 10 x6)) x7)), (0, x4)] N Λ σ (fun σ7 => (∀ y8, y8 = addI x7 1 → WV l mX12_brackets d P 29 [(2, t), (0, x1), (0, x2), (0, x3), (0, x4), (0, x5), (0, x6), (0, y8), (3, 0)] [] N Λ σ7)))))))))))))))))))) :
    WV l mX12_brackets d P 29 [(2, t), (0, x1), (0, x2), (0, x3), (0, x4), (0, x5), (0, x6), (0, x7), (3, 0)] [] N Λ σ := by
  have hd_1 : 1 ≤ d := Nat.le_trans (by decide) h0d
  refine r_iload (x := x7) d_X12_brackets_29 rfl ?_
  refine r_bipush (x := 10) d_X12_brackets_31 ⟨by decide, by decide⟩ (by decide) ?_
  refine r_ic_ge (tgt := 145) d_X12_brackets_33 rfl (fun hc => ?_) (fun hc => ?_)
  · have h := h.1 hc
    refine x_iinc (x := x6) (L := [(2, t), (0, x1), (0, x2), (0, x3), (0, x4), (0, x5), (0, x6), (0, x7), (3, 0)]) d_X12_brackets_145 rfl (by decide) rfl (fun y1 ey1 => ?_)
    have h := h y1 ey1
    show WP _ _ _ _ _ _ _ _ [(2, t), (0, x1), (0, x2), (0, x3), (0, x4), (0, x5), (0, y1), (0, x7), (3, 0)] _ _ _ _
    refine r_goto (tgt := 19) d_X12_brackets_148 rfl ?_
    exact x_mask h ⟨Or.inr rfl, Or.inr rfl, Or.inr rfl, Or.inr rfl, Or.inr rfl, Or.inr rfl, Or.inr rfl, Or.inl rfl, Or.inl rfl, trivial⟩
  · have h := h.2 hc
    refine r_aload_n (x := t) d_X12_brackets_36 rfl o_t.1 ?_
    refine r_getf (j := 8) (t := 0) (x := (σ t 8)) d_X12_brackets_37 kX12 (by decide) fl_X12_102 o_t.1 o_t.2.1 o_t.2.2.1 o_t.2.2.2 rfl rfl ?_
    refine r_if_ne (tgt := 145) d_X12_brackets_40 rfl (fun hc => ?_) (fun hc => ?_)
    · have h := h.1 hc
      refine x_iinc (x := x6) (L := [(2, t), (0, x1), (0, x2), (0, x3), (0, x4), (0, x5), (0, x6), (0, x7), (3, 0)]) d_X12_brackets_145 rfl (by decide) rfl (fun y2 ey2 => ?_)
      have h := h y2 ey2
      show WP _ _ _ _ _ _ _ _ [(2, t), (0, x1), (0, x2), (0, x3), (0, x4), (0, x5), (0, y2), (0, x7), (3, 0)] _ _ _ _
      refine r_goto (tgt := 19) d_X12_brackets_148 rfl ?_
      exact x_mask h ⟨Or.inr rfl, Or.inr rfl, Or.inr rfl, Or.inr rfl, Or.inr rfl, Or.inr rfl, Or.inr rfl, Or.inl rfl, Or.inl rfl, trivial⟩
    · have h := h.2 hc
      refine r_aload_n (x := t) d_X12_brackets_43 rfl o_t.1 ?_
      refine r_iload_n (x := x1) d_X12_brackets_44 rfl ?_
      refine r_iload (x := x5) d_X12_brackets_45 rfl ?_
      refine x_callSI (Y2 := mX12_rowOf) (As := [(0, x1), (0, x5)]) (S := [(2, t)]) d_X12_brackets_47 ok_mX12_rowOf ml_X12_306 rfl (Nat.le_of_ble_eq_true rfl) (Nat.le_of_ble_eq_true rfl) rfl hd_1 (c_X12_rowOf (v_X12_rowOf_0 ?_))
      show WP l mX12_brackets (rm d 0 0) noX _ 0 0 50 [(2, t), (0, x1), (0, x2), (0, x3), (0, x4), (0, x5), (0, x6), (0, x7), (3, 0)] [(0, (addI (addI 6 (mulI 10 x1)) x5)), (2, t)] N Λ σ
      refine x_callVI (Y2 := mX12_many) (c := t) (As := [(0, (addI (addI 6 (mulI 10 x1)) x5))]) (S := []) d_X12_brackets_50 ok_mX12_many ml_X12_113 rfl (Nat.le_of_ble_eq_true rfl) (Nat.le_of_ble_eq_true rfl) rfl hd_1 kX12 o_t (c_X12_many (v_X12_many_0 o_t f_t_pool ?_))
      refine ⟨h.1, ?_⟩
      have h := h.2
      show WP l mX12_brackets (rm d 0 0) noX _ 0 0 53 [(2, t), (0, x1), (0, x2), (0, x3), (0, x4), (0, x5), (0, x6), (0, x7), (3, 0)] [(0, (σ t_pool (mulI 161 (addI (addI 6 (mulI 10 x1)) x5))))] N Λ σ
      refine r_if_le (tgt := 86) d_X12_brackets_53 rfl (fun hc => ?_) (fun hc => ?_)
      · have h := h.1 hc
        refine r_iconst (x := 0) d_X12_brackets_86 ⟨by decide, by decide⟩ ?_
        refine r_istore (L2 := [(2, t), (0, x1), (0, x2), (0, x3), (0, x4), (0, x5), (0, x6), (0, x7), (0, 0)]) d_X12_brackets_87 (by decide) rfl rfl ?_
        refine r_iload (x := 0) d_X12_brackets_89 rfl ?_
        refine r_if_eq (tgt := 139) d_X12_brackets_91 rfl (fun _ => ?_) (fun hc => absurd hc (by decide))
        refine x_iinc (x := x7) (L := [(2, t), (0, x1), (0, x2), (0, x3), (0, x4), (0, x5), (0, x6), (0, x7), (0, 0)]) d_X12_brackets_139 rfl (by decide) rfl (fun y3 ey3 => ?_)
        have h := h y3 ey3
        show WP _ _ _ _ _ _ _ _ [(2, t), (0, x1), (0, x2), (0, x3), (0, x4), (0, x5), (0, x6), (0, y3), (0, 0)] _ _ _ _
        refine r_goto (tgt := 29) d_X12_brackets_142 rfl ?_
        exact x_mask h ⟨Or.inr rfl, Or.inr rfl, Or.inr rfl, Or.inr rfl, Or.inr rfl, Or.inr rfl, Or.inr rfl, Or.inr rfl, Or.inl rfl, trivial⟩
      · have h := h.2 hc
        refine r_aload_n (x := t) d_X12_brackets_56 rfl o_t.1 ?_
        refine r_iload_n (x := x2) d_X12_brackets_57 rfl ?_
        refine r_iload (x := x6) d_X12_brackets_58 rfl ?_
        refine x_callSI (Y2 := mX12_rowOf) (As := [(0, x2), (0, x6)]) (S := [(2, t)]) d_X12_brackets_60 ok_mX12_rowOf ml_X12_306 rfl (Nat.le_of_ble_eq_true rfl) (Nat.le_of_ble_eq_true rfl) rfl hd_1 (c_X12_rowOf (v_X12_rowOf_0 ?_))
        show WP l mX12_brackets (rm d 0 0) noX _ 0 0 63 [(2, t), (0, x1), (0, x2), (0, x3), (0, x4), (0, x5), (0, x6), (0, x7), (3, 0)] [(0, (addI (addI 6 (mulI 10 x2)) x6)), (2, t)] N Λ σ
        refine x_callVI (Y2 := mX12_many) (c := t) (As := [(0, (addI (addI 6 (mulI 10 x2)) x6))]) (S := []) d_X12_brackets_63 ok_mX12_many ml_X12_113 rfl (Nat.le_of_ble_eq_true rfl) (Nat.le_of_ble_eq_true rfl) rfl hd_1 kX12 o_t (c_X12_many (v_X12_many_0 o_t f_t_pool ?_))
        refine ⟨h.1, ?_⟩
        have h := h.2
        show WP l mX12_brackets (rm d 0 0) noX _ 0 0 66 [(2, t), (0, x1), (0, x2), (0, x3), (0, x4), (0, x5), (0, x6), (0, x7), (3, 0)] [(0, (σ t_pool (mulI 161 (addI (addI 6 (mulI 10 x2)) x6))))] N Λ σ
        refine r_if_le (tgt := 86) d_X12_brackets_66 rfl (fun hc => ?_) (fun hc => ?_)
        · have h := h.1 hc
          refine r_iconst (x := 0) d_X12_brackets_86 ⟨by decide, by decide⟩ ?_
          refine r_istore (L2 := [(2, t), (0, x1), (0, x2), (0, x3), (0, x4), (0, x5), (0, x6), (0, x7), (0, 0)]) d_X12_brackets_87 (by decide) rfl rfl ?_
          refine r_iload (x := 0) d_X12_brackets_89 rfl ?_
          refine r_if_eq (tgt := 139) d_X12_brackets_91 rfl (fun _ => ?_) (fun hc => absurd hc (by decide))
          refine x_iinc (x := x7) (L := [(2, t), (0, x1), (0, x2), (0, x3), (0, x4), (0, x5), (0, x6), (0, x7), (0, 0)]) d_X12_brackets_139 rfl (by decide) rfl (fun y4 ey4 => ?_)
          have h := h y4 ey4
          show WP _ _ _ _ _ _ _ _ [(2, t), (0, x1), (0, x2), (0, x3), (0, x4), (0, x5), (0, x6), (0, y4), (0, 0)] _ _ _ _
          refine r_goto (tgt := 29) d_X12_brackets_142 rfl ?_
          exact x_mask h ⟨Or.inr rfl, Or.inr rfl, Or.inr rfl, Or.inr rfl, Or.inr rfl, Or.inr rfl, Or.inr rfl, Or.inr rfl, Or.inl rfl, trivial⟩
        · have h := h.2 hc
          refine r_aload_n (x := t) d_X12_brackets_69 rfl o_t.1 ?_
          refine r_iload_n (x := x3) d_X12_brackets_70 rfl ?_
          refine r_iload (x := x7) d_X12_brackets_71 rfl ?_
          refine x_callSI (Y2 := mX12_rowOf) (As := [(0, x3), (0, x7)]) (S := [(2, t)]) d_X12_brackets_73 ok_mX12_rowOf ml_X12_306 rfl (Nat.le_of_ble_eq_true rfl) (Nat.le_of_ble_eq_true rfl) rfl hd_1 (c_X12_rowOf (v_X12_rowOf_0 ?_))
          show WP l mX12_brackets (rm d 0 0) noX _ 0 0 76 [(2, t), (0, x1), (0, x2), (0, x3), (0, x4), (0, x5), (0, x6), (0, x7), (3, 0)] [(0, (addI (addI 6 (mulI 10 x3)) x7)), (2, t)] N Λ σ
          refine x_callVI (Y2 := mX12_many) (c := t) (As := [(0, (addI (addI 6 (mulI 10 x3)) x7))]) (S := []) d_X12_brackets_76 ok_mX12_many ml_X12_113 rfl (Nat.le_of_ble_eq_true rfl) (Nat.le_of_ble_eq_true rfl) rfl hd_1 kX12 o_t (c_X12_many (v_X12_many_0 o_t f_t_pool ?_))
          refine ⟨h.1, ?_⟩
          have h := h.2
          show WP l mX12_brackets (rm d 0 0) noX _ 0 0 79 [(2, t), (0, x1), (0, x2), (0, x3), (0, x4), (0, x5), (0, x6), (0, x7), (3, 0)] [(0, (σ t_pool (mulI 161 (addI (addI 6 (mulI 10 x3)) x7))))] N Λ σ
          refine r_if_le (tgt := 86) d_X12_brackets_79 rfl (fun hc => ?_) (fun hc => ?_)
          · have h := h.1 hc
            refine r_iconst (x := 0) d_X12_brackets_86 ⟨by decide, by decide⟩ ?_
            refine r_istore (L2 := [(2, t), (0, x1), (0, x2), (0, x3), (0, x4), (0, x5), (0, x6), (0, x7), (0, 0)]) d_X12_brackets_87 (by decide) rfl rfl ?_
            refine r_iload (x := 0) d_X12_brackets_89 rfl ?_
            refine r_if_eq (tgt := 139) d_X12_brackets_91 rfl (fun _ => ?_) (fun hc => absurd hc (by decide))
            refine x_iinc (x := x7) (L := [(2, t), (0, x1), (0, x2), (0, x3), (0, x4), (0, x5), (0, x6), (0, x7), (0, 0)]) d_X12_brackets_139 rfl (by decide) rfl (fun y5 ey5 => ?_)
            have h := h y5 ey5
            show WP _ _ _ _ _ _ _ _ [(2, t), (0, x1), (0, x2), (0, x3), (0, x4), (0, x5), (0, x6), (0, y5), (0, 0)] _ _ _ _
            refine r_goto (tgt := 29) d_X12_brackets_142 rfl ?_
            exact x_mask h ⟨Or.inr rfl, Or.inr rfl, Or.inr rfl, Or.inr rfl, Or.inr rfl, Or.inr rfl, Or.inr rfl, Or.inr rfl, Or.inl rfl, trivial⟩
          · have h := h.2 hc
            refine r_iconst (x := 1) d_X12_brackets_82 ⟨by decide, by decide⟩ ?_
            refine r_goto (tgt := 87) d_X12_brackets_83 rfl ?_
            refine r_istore (L2 := [(2, t), (0, x1), (0, x2), (0, x3), (0, x4), (0, x5), (0, x6), (0, x7), (0, 1)]) d_X12_brackets_87 (by decide) rfl rfl ?_
            refine r_iload (x := 1) d_X12_brackets_89 rfl ?_
            refine r_if_eq (tgt := 139) d_X12_brackets_91 rfl (fun hc => absurd hc (by decide)) (fun _ => ?_)
            refine r_aload_n (x := t) d_X12_brackets_94 rfl o_t.1 ?_
            refine r_getf (j := 1) (t := 2) (x := t_rankOf) d_X12_brackets_95 kX12 (by decide) fl_X12_13 o_t.1 o_t.2.1 o_t.2.2.1 o_t.2.2.2 rfl f_t_rankOf ?_
            refine r_bipush (x := 100) d_X12_brackets_98 ⟨by decide, by decide⟩ (by decide) ?_
            refine r_iload (x := x5) d_X12_brackets_100 rfl ?_
            refine r_imul d_X12_brackets_102 ?_
            refine r_bipush (x := 10) d_X12_brackets_103 ⟨by decide, by decide⟩ (by decide) ?_
            refine r_iload (x := x6) d_X12_brackets_105 rfl ?_
            refine r_imul d_X12_brackets_107 ?_
            refine r_iadd d_X12_brackets_108 ?_
            refine r_iload (x := x7) d_X12_brackets_109 rfl ?_
            refine r_iadd d_X12_brackets_111 ?_
            refine x_iald d_X12_brackets_112 h.1 ?_
            have h := h.2
            refine r_if_eq (tgt := 139) d_X12_brackets_113 rfl (fun hc => ?_) (fun hc => ?_)
            · have h := h.1 hc
              refine x_iinc (x := x7) (L := [(2, t), (0, x1), (0, x2), (0, x3), (0, x4), (0, x5), (0, x6), (0, x7), (0, 1)]) d_X12_brackets_139 rfl (by decide) rfl (fun y6 ey6 => ?_)
              have h := h y6 ey6
              show WP _ _ _ _ _ _ _ _ [(2, t), (0, x1), (0, x2), (0, x3), (0, x4), (0, x5), (0, x6), (0, y6), (0, 1)] _ _ _ _
              refine r_goto (tgt := 29) d_X12_brackets_142 rfl ?_
              exact x_mask h ⟨Or.inr rfl, Or.inr rfl, Or.inr rfl, Or.inr rfl, Or.inr rfl, Or.inr rfl, Or.inr rfl, Or.inr rfl, Or.inl rfl, trivial⟩
            · have h := h.2 hc
              refine r_aload_n (x := t) d_X12_brackets_116 rfl o_t.1 ?_
              refine r_iload_n (x := x1) d_X12_brackets_117 rfl ?_
              refine r_iload_n (x := x2) d_X12_brackets_118 rfl ?_
              refine r_iload_n (x := x3) d_X12_brackets_119 rfl ?_
              refine r_bipush (x := 100) d_X12_brackets_120 ⟨by decide, by decide⟩ (by decide) ?_
              refine r_iload (x := x5) d_X12_brackets_122 rfl ?_
              refine r_imul d_X12_brackets_124 ?_
              refine r_bipush (x := 10) d_X12_brackets_125 ⟨by decide, by decide⟩ (by decide) ?_
              refine r_iload (x := x6) d_X12_brackets_127 rfl ?_
              refine r_imul d_X12_brackets_129 ?_
              refine r_iadd d_X12_brackets_130 ?_
              refine r_iload (x := x7) d_X12_brackets_131 rfl ?_
              refine r_iadd d_X12_brackets_133 ?_
              refine r_iload (x := x4) d_X12_brackets_134 rfl ?_
              refine x_callVV (Y2 := mX12_addsBracket) (c := t) (As := [(0, x1), (0, x2), (0, x3), (0, (addI (addI (mulI 100 x5) (mulI 10 x6)) x7)), (0, x4)]) (S := []) d_X12_brackets_136 ok_mX12_addsBracket ml_X12_321 rfl (Nat.le_of_ble_eq_true rfl) (Nat.le_of_ble_eq_true rfl) rfl hd_1 kX12 o_t (CV.mono h (fun σ7 h => ?_))
              refine x_iinc (x := x7) (L := [(2, t), (0, x1), (0, x2), (0, x3), (0, x4), (0, x5), (0, x6), (0, x7), (0, 1)]) d_X12_brackets_139 rfl (by decide) rfl (fun y8 ey8 => ?_)
              have h := h y8 ey8
              show WP _ _ _ _ _ _ _ _ [(2, t), (0, x1), (0, x2), (0, x3), (0, x4), (0, x5), (0, x6), (0, y8), (0, 1)] _ _ _ _
              refine r_goto (tgt := 29) d_X12_brackets_142 rfl ?_
              exact x_mask h ⟨Or.inr rfl, Or.inr rfl, Or.inr rfl, Or.inr rfl, Or.inr rfl, Or.inr rfl, Or.inr rfl, Or.inr rfl, Or.inl rfl, trivial⟩
theorem v_X12_putsProduct_0 {l : Launch} {d N : Nat} {Λ : Lay} {P : Mem → Prop} {σ : Mem} {x1 x2 x3 x5 t t_pool : Int} (o_t : Ob N Λ t 21 36) (f_t_pool : (Λ t).2.2 7 = t_pool) (h0d : 1 ≤ d)
    (h : (Ix N Λ t_pool 0 (mulI 161 5) ∧ (∀ τ1, τ1 = st σ t_pool (mulI 161 5) 0 → (CV l mX12_multiplies (d - 1) [(2, t), (0, x1), (0, x2), (0, 1), (0, 5)] N Λ τ1 (fun σ2 => WV l mX12_putsProduct d P 16 [(2, t), (0, x1), (0, x2), (1, x3), (3, 0), (0, x5), (0, 0)] [] N Λ σ2))))) :
    WV l mX12_putsProduct d P 0 [(2, t), (0, x1), (0, x2), (1, x3), (3, 0), (0, x5), (3, 0)] [] N Λ σ := by
  have hd_1 : 1 ≤ d := Nat.le_trans (by decide) h0d
  refine r_aload_n (x := t) d_X12_putsProduct_0 rfl o_t.1 ?_
  refine r_iconst (x := 5) d_X12_putsProduct_1 ⟨by decide, by decide⟩ ?_
  refine x_callVV (Y2 := mX12_empties) (c := t) (As := [(0, 5)]) (S := []) d_X12_putsProduct_2 ok_mX12_empties ml_X12_105 rfl (Nat.le_of_ble_eq_true rfl) (Nat.le_of_ble_eq_true rfl) rfl hd_1 kX12 o_t (c_X12_empties (v_X12_empties_0 o_t f_t_pool ?_))
  refine ⟨h.1, ?_⟩
  have h := h.2
  intro τ1 eτ1
  have h := h τ1 eτ1
  show WP l mX12_putsProduct (rm d 0 0) noX _ 0 0 5 [(2, t), (0, x1), (0, x2), (1, x3), (3, 0), (0, x5), (3, 0)] [] N Λ τ1
  refine r_aload_n (x := t) d_X12_putsProduct_5 rfl o_t.1 ?_
  refine r_iload_n (x := x1) d_X12_putsProduct_6 rfl ?_
  refine r_iload_n (x := x2) d_X12_putsProduct_7 rfl ?_
  refine r_iconst (x := 1) d_X12_putsProduct_8 ⟨by decide, by decide⟩ ?_
  refine r_iconst (x := 5) d_X12_putsProduct_9 ⟨by decide, by decide⟩ ?_
  refine x_callVV (Y2 := mX12_multiplies) (c := t) (As := [(0, x1), (0, x2), (0, 1), (0, 5)]) (S := []) d_X12_putsProduct_10 ok_mX12_multiplies ml_X12_231 rfl (Nat.le_of_ble_eq_true rfl) (Nat.le_of_ble_eq_true rfl) rfl hd_1 kX12 o_t (CV.mono h (fun σ2 h => ?_))
  refine r_iconst (x := 0) d_X12_putsProduct_13 ⟨by decide, by decide⟩ ?_
  refine r_istore (L2 := [(2, t), (0, x1), (0, x2), (1, x3), (3, 0), (0, x5), (0, 0)]) d_X12_putsProduct_14 (by decide) rfl rfl ?_
  exact h
theorem v_X12_putsProduct_16 {l : Launch} {d N : Nat} {Λ : Lay} {P : Mem → Prop} {σ : Mem} {x1 x2 x3 x5 x6 t t_pool : Int} (o_t : Ob N Λ t 21 36) (f_t_pool : (Λ t).2.2 7 = t_pool) (h0d : 1 ≤ d)
    (h : (Ix N Λ t_pool 0 (mulI 161 5) ∧ (((σ t_pool (mulI 161 5)) ≤ x6 → P σ) ∧ (¬ ((σ t_pool (mulI 161 5)) ≤ x6) → (Ix N Λ t_pool 0 (addI (addI (mulI 161 5) 1) (mulI 2 x6)) ∧ (Ix N Λ t_pool 0 (addI (addI (mulI 161 5) 2) (mulI 2 x6)) ∧ (CI l mX12_puts (d - 1) [(2, t), (0, x5), (0, (σ t_pool (addI (addI (mulI 161 5) 1) (mulI 2 x6)))), (1, (mulL x3 (σ t_pool (addI (addI (mulI 161 5) 2) (mulI 2 x6)))))] N Λ σ (fun v2 σ1 => (∀ y3, y3 = addI x6 1 → WV l mX12_putsProduct d P 16 [(2, t), (0, x1), (0, x2), (1, x3), (3, 0), (0, x5), (0, y3)] [] N Λ σ1))))))))) :
    WV l mX12_putsProduct d P 16 [(2, t), (0, x1), (0, x2), (1, x3), (3, 0), (0, x5), (0, x6)] [] N Λ σ := by
  have hd_1 : 1 ≤ d := Nat.le_trans (by decide) h0d
  refine r_iload (x := x6) d_X12_putsProduct_16 rfl ?_
  refine r_aload_n (x := t) d_X12_putsProduct_18 rfl o_t.1 ?_
  refine r_iconst (x := 5) d_X12_putsProduct_19 ⟨by decide, by decide⟩ ?_
  refine x_callVI (Y2 := mX12_many) (c := t) (As := [(0, 5)]) (S := [(0, x6)]) d_X12_putsProduct_20 ok_mX12_many ml_X12_113 rfl (Nat.le_of_ble_eq_true rfl) (Nat.le_of_ble_eq_true rfl) rfl hd_1 kX12 o_t (c_X12_many (v_X12_many_0 o_t f_t_pool ?_))
  refine ⟨h.1, ?_⟩
  have h := h.2
  show WP l mX12_putsProduct (rm d 0 0) noX _ 0 0 23 [(2, t), (0, x1), (0, x2), (1, x3), (3, 0), (0, x5), (0, x6)] [(0, (σ t_pool (mulI 161 5))), (0, x6)] N Λ σ
  refine r_ic_ge (tgt := 56) d_X12_putsProduct_23 rfl (fun hc => ?_) (fun hc => ?_)
  · have h := h.1 hc
    exact r_vret d_X12_putsProduct_56 rfl (Nat.le_refl 0) (Nat.le_refl 0) ⟨rfl, rfl, rfl, h⟩
  · have h := h.2 hc
    refine r_aload_n (x := t) d_X12_putsProduct_26 rfl o_t.1 ?_
    refine r_iload (x := x5) d_X12_putsProduct_27 rfl ?_
    refine r_aload_n (x := t) d_X12_putsProduct_29 rfl o_t.1 ?_
    refine r_iconst (x := 5) d_X12_putsProduct_30 ⟨by decide, by decide⟩ ?_
    refine r_iload (x := x6) d_X12_putsProduct_31 rfl ?_
    refine x_callVI (Y2 := mX12_key) (c := t) (As := [(0, 5), (0, x6)]) (S := [(0, x5), (2, t)]) d_X12_putsProduct_33 ok_mX12_key ml_X12_117 rfl (Nat.le_of_ble_eq_true rfl) (Nat.le_of_ble_eq_true rfl) rfl hd_1 kX12 o_t (c_X12_key (v_X12_key_0 o_t f_t_pool ?_))
    refine ⟨h.1, ?_⟩
    have h := h.2
    show WP l mX12_putsProduct (rm d 0 0) noX _ 0 0 36 [(2, t), (0, x1), (0, x2), (1, x3), (3, 0), (0, x5), (0, x6)] [(0, (σ t_pool (addI (addI (mulI 161 5) 1) (mulI 2 x6)))), (0, x5), (2, t)] N Λ σ
    refine r_lload_n (x := x3) d_X12_putsProduct_36 rfl ?_
    refine r_aload_n (x := t) d_X12_putsProduct_37 rfl o_t.1 ?_
    refine r_iconst (x := 5) d_X12_putsProduct_38 ⟨by decide, by decide⟩ ?_
    refine r_iload (x := x6) d_X12_putsProduct_39 rfl ?_
    refine x_callVI (Y2 := mX12_number) (c := t) (As := [(0, 5), (0, x6)]) (S := [(1, x3), (0, (σ t_pool (addI (addI (mulI 161 5) 1) (mulI 2 x6)))), (0, x5), (2, t)]) d_X12_putsProduct_41 ok_mX12_number ml_X12_132 rfl (Nat.le_of_ble_eq_true rfl) (Nat.le_of_ble_eq_true rfl) rfl hd_1 kX12 o_t (c_X12_number (v_X12_number_0 o_t f_t_pool ?_))
    refine ⟨h.1, ?_⟩
    have h := h.2
    show WP l mX12_putsProduct (rm d 0 0) noX _ 0 0 44 [(2, t), (0, x1), (0, x2), (1, x3), (3, 0), (0, x5), (0, x6)] [(0, (σ t_pool (addI (addI (mulI 161 5) 2) (mulI 2 x6)))), (1, x3), (0, (σ t_pool (addI (addI (mulI 161 5) 1) (mulI 2 x6)))), (0, x5), (2, t)] N Λ σ
    refine r_i2l d_X12_putsProduct_44 ?_
    refine r_lmul d_X12_putsProduct_45 ?_
    refine x_callVI (Y2 := mX12_puts) (c := t) (As := [(0, x5), (0, (σ t_pool (addI (addI (mulI 161 5) 1) (mulI 2 x6)))), (1, (mulL x3 (σ t_pool (addI (addI (mulI 161 5) 2) (mulI 2 x6)))))]) (S := []) d_X12_putsProduct_46 ok_mX12_puts ml_X12_147 rfl (Nat.le_of_ble_eq_true rfl) (Nat.le_of_ble_eq_true rfl) rfl hd_1 kX12 o_t (CI.mono h (fun v2 σ1 h => ?_))
    refine r_pop d_X12_putsProduct_49 rfl ?_
    refine x_iinc (x := x6) (L := [(2, t), (0, x1), (0, x2), (1, x3), (3, 0), (0, x5), (0, x6)]) d_X12_putsProduct_50 rfl (by decide) rfl (fun y3 ey3 => ?_)
    have h := h y3 ey3
    show WP _ _ _ _ _ _ _ _ [(2, t), (0, x1), (0, x2), (1, x3), (3, 0), (0, x5), (0, y3)] _ _ _ _
    refine r_goto (tgt := 16) d_X12_putsProduct_53 rfl ?_
    exact h
theorem v_X12_meets_0 {l : Launch} {d N : Nat} {Λ : Lay} {P : Mem → Prop} {σ : Mem} {x1 x2 t : Int} (o_t : Ob N Λ t 21 36) (h0d : 1 ≤ d)
    (h : (((σ t 8) = 0 → (CV l mX12_brackets (d - 1) [(2, t), (0, x1), (0, (addI x1 2)), (0, (addI x1 3)), (0, 3)] N Λ σ (fun σ1 => (CV l mX12_brackets (d - 1) [(2, t), (0, (addI x1 1)), (0, (addI x1 2)), (0, (addI x1 3)), (0, 4)] N Λ σ1 (fun σ2 => WV l mX12_meets d P 36 [(2, t), (0, x1), (0, x2), (0, 0)] [] N Λ σ2))))) ∧ (¬ ((σ t 8) = 0) → P σ))) :
    WV l mX12_meets d P 0 [(2, t), (0, x1), (0, x2), (3, 0)] [] N Λ σ := by
  have hd_1 : 1 ≤ d := Nat.le_trans (by decide) h0d
  refine r_aload_n (x := t) d_X12_meets_0 rfl o_t.1 ?_
  refine r_getf (j := 8) (t := 0) (x := (σ t 8)) d_X12_meets_1 kX12 (by decide) fl_X12_102 o_t.1 o_t.2.1 o_t.2.2.1 o_t.2.2.2 rfl rfl ?_
  refine r_if_eq (tgt := 8) d_X12_meets_4 rfl (fun hc => ?_) (fun hc => ?_)
  · have h := h.1 hc
    refine r_aload_n (x := t) d_X12_meets_8 rfl o_t.1 ?_
    refine r_iload_n (x := x1) d_X12_meets_9 rfl ?_
    refine r_iload_n (x := x1) d_X12_meets_10 rfl ?_
    refine r_iconst (x := 2) d_X12_meets_11 ⟨by decide, by decide⟩ ?_
    refine r_iadd d_X12_meets_12 ?_
    refine r_iload_n (x := x1) d_X12_meets_13 rfl ?_
    refine r_iconst (x := 3) d_X12_meets_14 ⟨by decide, by decide⟩ ?_
    refine r_iadd d_X12_meets_15 ?_
    refine r_iconst (x := 3) d_X12_meets_16 ⟨by decide, by decide⟩ ?_
    refine x_callVV (Y2 := mX12_brackets) (c := t) (As := [(0, x1), (0, (addI x1 2)), (0, (addI x1 3)), (0, 3)]) (S := []) d_X12_meets_17 ok_mX12_brackets ml_X12_315 rfl (Nat.le_of_ble_eq_true rfl) (Nat.le_of_ble_eq_true rfl) rfl hd_1 kX12 o_t (CV.mono h (fun σ1 h => ?_))
    refine r_aload_n (x := t) d_X12_meets_20 rfl o_t.1 ?_
    refine r_iload_n (x := x1) d_X12_meets_21 rfl ?_
    refine r_iconst (x := 1) d_X12_meets_22 ⟨by decide, by decide⟩ ?_
    refine r_iadd d_X12_meets_23 ?_
    refine r_iload_n (x := x1) d_X12_meets_24 rfl ?_
    refine r_iconst (x := 2) d_X12_meets_25 ⟨by decide, by decide⟩ ?_
    refine r_iadd d_X12_meets_26 ?_
    refine r_iload_n (x := x1) d_X12_meets_27 rfl ?_
    refine r_iconst (x := 3) d_X12_meets_28 ⟨by decide, by decide⟩ ?_
    refine r_iadd d_X12_meets_29 ?_
    refine r_iconst (x := 4) d_X12_meets_30 ⟨by decide, by decide⟩ ?_
    refine x_callVV (Y2 := mX12_brackets) (c := t) (As := [(0, (addI x1 1)), (0, (addI x1 2)), (0, (addI x1 3)), (0, 4)]) (S := []) d_X12_meets_31 ok_mX12_brackets ml_X12_315 rfl (Nat.le_of_ble_eq_true rfl) (Nat.le_of_ble_eq_true rfl) rfl hd_1 kX12 o_t (CV.mono h (fun σ2 h => ?_))
    refine r_iconst (x := 0) d_X12_meets_34 ⟨by decide, by decide⟩ ?_
    refine r_istore_n (L2 := [(2, t), (0, x1), (0, x2), (0, 0)]) d_X12_meets_35 (by decide) rfl rfl ?_
    exact h
  · have h := h.2 hc
    exact r_vret d_X12_meets_7 rfl (Nat.le_refl 0) (Nat.le_refl 0) ⟨rfl, rfl, rfl, h⟩
theorem v_X12_meets_36 {l : Launch} {d N : Nat} {Λ : Lay} {P : Mem → Prop} {σ : Mem} {x1 x2 x3 t : Int} (o_t : Ob N Λ t 21 36) (h0d : 1 ≤ d)
    (h : ((10 ≤ x3 → WV l mX12_meets d P 75 [(2, t), (0, x1), (0, x2), (0, 0)] [] N Λ σ) ∧ (¬ (10 ≤ x3) → ((¬ (σ t 8) = 0 → WV l mX12_meets d P 75 [(2, t), (0, x1), (0, x2), (0, 0)] [] N Λ σ) ∧ ((σ t 8) = 0 → (CV l mX12_putsProduct (d - 1) [(2, t), (0, 3), (0, (addI (addI 6 (mulI 10 (addI x1 1))) x3)), (1, 1), (0, (addI (addI 6 (mulI 10 x2)) x3))] N Λ σ (fun σ1 => (∀ y2, y2 = addI x3 1 → WV l mX12_meets d P 36 [(2, t), (0, x1), (0, x2), (0, y2)] [] N Λ σ1)))))))) :
    WV l mX12_meets d P 36 [(2, t), (0, x1), (0, x2), (0, x3)] [] N Λ σ := by
  have hd_1 : 1 ≤ d := Nat.le_trans (by decide) h0d
  refine r_iload_n (x := x3) d_X12_meets_36 rfl ?_
  refine r_bipush (x := 10) d_X12_meets_37 ⟨by decide, by decide⟩ (by decide) ?_
  refine r_ic_ge (tgt := 73) d_X12_meets_39 rfl (fun hc => ?_) (fun hc => ?_)
  · have h := h.1 hc
    refine r_iconst (x := 0) d_X12_meets_73 ⟨by decide, by decide⟩ ?_
    refine r_istore_n (L2 := [(2, t), (0, x1), (0, x2), (0, 0)]) d_X12_meets_74 (by decide) rfl rfl ?_
    exact h
  · have h := h.2 hc
    refine r_aload_n (x := t) d_X12_meets_42 rfl o_t.1 ?_
    refine r_getf (j := 8) (t := 0) (x := (σ t 8)) d_X12_meets_43 kX12 (by decide) fl_X12_102 o_t.1 o_t.2.1 o_t.2.2.1 o_t.2.2.2 rfl rfl ?_
    refine r_if_ne (tgt := 73) d_X12_meets_46 rfl (fun hc => ?_) (fun hc => ?_)
    · have h := h.1 hc
      refine r_iconst (x := 0) d_X12_meets_73 ⟨by decide, by decide⟩ ?_
      refine r_istore_n (L2 := [(2, t), (0, x1), (0, x2), (0, 0)]) d_X12_meets_74 (by decide) rfl rfl ?_
      exact h
    · have h := h.2 hc
      refine r_aload_n (x := t) d_X12_meets_49 rfl o_t.1 ?_
      refine r_iconst (x := 3) d_X12_meets_50 ⟨by decide, by decide⟩ ?_
      refine r_iload_n (x := x1) d_X12_meets_51 rfl ?_
      refine r_iconst (x := 1) d_X12_meets_52 ⟨by decide, by decide⟩ ?_
      refine r_iadd d_X12_meets_53 ?_
      refine r_iload_n (x := x3) d_X12_meets_54 rfl ?_
      refine x_callSI (Y2 := mX12_rowOf) (As := [(0, (addI x1 1)), (0, x3)]) (S := [(0, 3), (2, t)]) d_X12_meets_55 ok_mX12_rowOf ml_X12_306 rfl (Nat.le_of_ble_eq_true rfl) (Nat.le_of_ble_eq_true rfl) rfl hd_1 (c_X12_rowOf (v_X12_rowOf_0 ?_))
      show WP l mX12_meets (rm d 0 0) noX _ 0 0 58 [(2, t), (0, x1), (0, x2), (0, x3)] [(0, (addI (addI 6 (mulI 10 (addI x1 1))) x3)), (0, 3), (2, t)] N Λ σ
      refine r_lconst d_X12_meets_58 ?_
      skip
      refine r_iload_n (x := x2) d_X12_meets_59 rfl ?_
      refine r_iload_n (x := x3) d_X12_meets_60 rfl ?_
      refine x_callSI (Y2 := mX12_rowOf) (As := [(0, x2), (0, x3)]) (S := [(1, 1), (0, (addI (addI 6 (mulI 10 (addI x1 1))) x3)), (0, 3), (2, t)]) d_X12_meets_61 ok_mX12_rowOf ml_X12_306 rfl (Nat.le_of_ble_eq_true rfl) (Nat.le_of_ble_eq_true rfl) rfl hd_1 (c_X12_rowOf (v_X12_rowOf_0 ?_))
      show WP l mX12_meets (rm d 0 0) noX _ 0 0 64 [(2, t), (0, x1), (0, x2), (0, x3)] [(0, (addI (addI 6 (mulI 10 x2)) x3)), (1, 1), (0, (addI (addI 6 (mulI 10 (addI x1 1))) x3)), (0, 3), (2, t)] N Λ σ
      refine x_callVV (Y2 := mX12_putsProduct) (c := t) (As := [(0, 3), (0, (addI (addI 6 (mulI 10 (addI x1 1))) x3)), (1, 1), (0, (addI (addI 6 (mulI 10 x2)) x3))]) (S := []) d_X12_meets_64 ok_mX12_putsProduct ml_X12_318 rfl (Nat.le_of_ble_eq_true rfl) (Nat.le_of_ble_eq_true rfl) rfl hd_1 kX12 o_t (CV.mono h (fun σ1 h => ?_))
      refine x_iinc (x := x3) (L := [(2, t), (0, x1), (0, x2), (0, x3)]) d_X12_meets_67 rfl (by decide) rfl (fun y2 ey2 => ?_)
      have h := h y2 ey2
      show WP _ _ _ _ _ _ _ _ [(2, t), (0, x1), (0, x2), (0, y2)] _ _ _ _
      refine r_goto (tgt := 36) d_X12_meets_70 rfl ?_
      exact h
theorem v_X12_meets_75 {l : Launch} {d N : Nat} {Λ : Lay} {P : Mem → Prop} {σ : Mem} {x1 x2 x3 t : Int} (o_t : Ob N Λ t 21 36) (h0d : 1 ≤ d)
    (h : ((10 ≤ x3 → P σ) ∧ (¬ (10 ≤ x3) → ((¬ (σ t 8) = 0 → P σ) ∧ ((σ t 8) = 0 → (CV l mX12_putsProduct (d - 1) [(2, t), (0, 4), (0, (addI (addI 6 (mulI 10 x1)) x3)), (1, (-1)), (0, (addI (addI 6 (mulI 10 x2)) x3))] N Λ σ (fun σ1 => (∀ y2, y2 = addI x3 1 → WV l mX12_meets d P 75 [(2, t), (0, x1), (0, x2), (0, y2)] [] N Λ σ1)))))))) :
    WV l mX12_meets d P 75 [(2, t), (0, x1), (0, x2), (0, x3)] [] N Λ σ := by
  have hd_1 : 1 ≤ d := Nat.le_trans (by decide) h0d
  refine r_iload_n (x := x3) d_X12_meets_75 rfl ?_
  refine r_bipush (x := 10) d_X12_meets_76 ⟨by decide, by decide⟩ (by decide) ?_
  refine r_ic_ge (tgt := 112) d_X12_meets_78 rfl (fun hc => ?_) (fun hc => ?_)
  · have h := h.1 hc
    exact r_vret d_X12_meets_112 rfl (Nat.le_refl 0) (Nat.le_refl 0) ⟨rfl, rfl, rfl, h⟩
  · have h := h.2 hc
    refine r_aload_n (x := t) d_X12_meets_81 rfl o_t.1 ?_
    refine r_getf (j := 8) (t := 0) (x := (σ t 8)) d_X12_meets_82 kX12 (by decide) fl_X12_102 o_t.1 o_t.2.1 o_t.2.2.1 o_t.2.2.2 rfl rfl ?_
    refine r_if_ne (tgt := 112) d_X12_meets_85 rfl (fun hc => ?_) (fun hc => ?_)
    · have h := h.1 hc
      exact r_vret d_X12_meets_112 rfl (Nat.le_refl 0) (Nat.le_refl 0) ⟨rfl, rfl, rfl, h⟩
    · have h := h.2 hc
      refine r_aload_n (x := t) d_X12_meets_88 rfl o_t.1 ?_
      refine r_iconst (x := 4) d_X12_meets_89 ⟨by decide, by decide⟩ ?_
      refine r_iload_n (x := x1) d_X12_meets_90 rfl ?_
      refine r_iload_n (x := x3) d_X12_meets_91 rfl ?_
      refine x_callSI (Y2 := mX12_rowOf) (As := [(0, x1), (0, x3)]) (S := [(0, 4), (2, t)]) d_X12_meets_92 ok_mX12_rowOf ml_X12_306 rfl (Nat.le_of_ble_eq_true rfl) (Nat.le_of_ble_eq_true rfl) rfl hd_1 (c_X12_rowOf (v_X12_rowOf_0 ?_))
      show WP l mX12_meets (rm d 0 0) noX _ 0 0 95 [(2, t), (0, x1), (0, x2), (0, x3)] [(0, (addI (addI 6 (mulI 10 x1)) x3)), (0, 4), (2, t)] N Λ σ
      refine r_ldc2 (x := (-1)) d_X12_meets_95 ck_X12_166 (by decide) ?_
      refine r_iload_n (x := x2) d_X12_meets_98 rfl ?_
      refine r_iload_n (x := x3) d_X12_meets_99 rfl ?_
      refine x_callSI (Y2 := mX12_rowOf) (As := [(0, x2), (0, x3)]) (S := [(1, (-1)), (0, (addI (addI 6 (mulI 10 x1)) x3)), (0, 4), (2, t)]) d_X12_meets_100 ok_mX12_rowOf ml_X12_306 rfl (Nat.le_of_ble_eq_true rfl) (Nat.le_of_ble_eq_true rfl) rfl hd_1 (c_X12_rowOf (v_X12_rowOf_0 ?_))
      show WP l mX12_meets (rm d 0 0) noX _ 0 0 103 [(2, t), (0, x1), (0, x2), (0, x3)] [(0, (addI (addI 6 (mulI 10 x2)) x3)), (1, (-1)), (0, (addI (addI 6 (mulI 10 x1)) x3)), (0, 4), (2, t)] N Λ σ
      refine x_callVV (Y2 := mX12_putsProduct) (c := t) (As := [(0, 4), (0, (addI (addI 6 (mulI 10 x1)) x3)), (1, (-1)), (0, (addI (addI 6 (mulI 10 x2)) x3))]) (S := []) d_X12_meets_103 ok_mX12_putsProduct ml_X12_318 rfl (Nat.le_of_ble_eq_true rfl) (Nat.le_of_ble_eq_true rfl) rfl hd_1 kX12 o_t (CV.mono h (fun σ1 h => ?_))
      refine x_iinc (x := x3) (L := [(2, t), (0, x1), (0, x2), (0, x3)]) d_X12_meets_106 rfl (by decide) rfl (fun y2 ey2 => ?_)
      have h := h y2 ey2
      show WP _ _ _ _ _ _ _ _ [(2, t), (0, x1), (0, x2), (0, y2)] _ _ _ _
      refine r_goto (tgt := 75) d_X12_meets_109 rfl ?_
      exact h
theorem v_X12_point_0 {l : Launch} {d N : Nat} {Λ : Lay} {P : Mem → Prop} {σ : Mem} {x1 x2 t : Int} (o_t : Ob N Λ t 21 36)
    (h : (((σ t 8) = 0 → WV l mX12_point d P 10 [(2, t), (0, x1), (0, x2), (0, 0)] [] N Λ σ) ∧ (¬ ((σ t 8) = 0) → P σ))) :
    WV l mX12_point d P 0 [(2, t), (0, x1), (0, x2), (3, 0)] [] N Λ σ := by
  refine r_aload_n (x := t) d_X12_point_0 rfl o_t.1 ?_
  refine r_getf (j := 8) (t := 0) (x := (σ t 8)) d_X12_point_1 kX12 (by decide) fl_X12_102 o_t.1 o_t.2.1 o_t.2.2.1 o_t.2.2.2 rfl rfl ?_
  refine r_if_eq (tgt := 8) d_X12_point_4 rfl (fun hc => ?_) (fun hc => ?_)
  · have h := h.1 hc
    refine r_iconst (x := 0) d_X12_point_8 ⟨by decide, by decide⟩ ?_
    refine r_istore_n (L2 := [(2, t), (0, x1), (0, x2), (0, 0)]) d_X12_point_9 (by decide) rfl rfl ?_
    exact h
  · have h := h.2 hc
    exact r_vret d_X12_point_7 rfl (Nat.le_refl 0) (Nat.le_refl 0) ⟨rfl, rfl, rfl, h⟩
theorem v_X12_point_10 {l : Launch} {d N : Nat} {Λ : Lay} {P : Mem → Prop} {σ : Mem} {x1 x2 x3 t t_pool t_tape : Int} (o_t : Ob N Λ t 21 36) (f_t_tape : (Λ t).2.2 18 = t_tape) (f_t_pool : (Λ t).2.2 7 = t_pool) (h0d : 1 ≤ d)
    (h : ((10 ≤ x3 → (((σ t 20) ≤ (σ t 21) → (((σ t 20) ≤ (σ t 21) → (CI l mX12_puts (d - 1) [(2, t), (0, (addI (addI 6 (mulI 10 x1)) (subI (-1) 97))), (0, 0), (1, 1)] N Λ σ (fun v2 σ1 => (∀ τ3, τ3 = st σ1 t 21 (addI (σ1 t 21) 1) → P τ3)))) ∧ (¬ ((σ t 20) ≤ (σ t 21)) → (Ix N Λ t_tape 6 (σ t 21) ∧ (CI l mX12_puts (d - 1) [(2, t), (0, (addI (addI 6 (mulI 10 x1)) (subI (andI (σ t_tape (σ t 21)) 255) 97))), (0, 0), (1, 1)] N Λ σ (fun v5 σ4 => (∀ τ6, τ6 = st σ4 t 21 (addI (σ4 t 21) 1) → P τ6))))))) ∧ (¬ ((σ t 20) ≤ (σ t 21)) → (Ix N Λ t_tape 6 (σ t 21) ∧ (((andI (σ t_tape (σ t 21)) 255) = 40 → (∀ τ7, τ7 = st σ t 21 (addI (σ t 21) 1) → (CV l mX12_point (d - 1) [(2, t), (0, x2), (0, (addI x2 4))] N Λ τ7 (fun σ8 => (CV l mX12_point (d - 1) [(2, t), (0, (addI x2 1)), (0, (addI x2 4))] N Λ σ8 (fun σ9 => (∀ τ10, τ10 = st σ9 t 21 (addI (σ9 t 21) 1) → (CV l mX12_point (d - 1) [(2, t), (0, (addI x2 2)), (0, (addI x2 4))] N Λ τ10 (fun σ11 => (CV l mX12_point (d - 1) [(2, t), (0, (addI x2 3)), (0, (addI x2 4))] N Λ σ11 (fun σ12 => (∀ τ13, τ13 = st σ12 t 21 (addI (σ12 t 21) 1) → (CV l mX12_meets (d - 1) [(2, t), (0, x2), (0, x1)] N Λ τ13 (fun σ14 => P σ14)))))))))))))) ∧ (¬ ((andI (σ t_tape (σ t 21)) 255) = 40) → (((σ t 20) ≤ (σ t 21) → (CI l mX12_puts (d - 1) [(2, t), (0, (addI (addI 6 (mulI 10 x1)) (subI (-1) 97))), (0, 0), (1, 1)] N Λ σ (fun v16 σ15 => (∀ τ17, τ17 = st σ15 t 21 (addI (σ15 t 21) 1) → P τ17)))) ∧ (¬ ((σ t 20) ≤ (σ t 21)) → (Ix N Λ t_tape 6 (σ t 21) ∧ (CI l mX12_puts (d - 1) [(2, t), (0, (addI (addI 6 (mulI 10 x1)) (subI (andI (σ t_tape (σ t 21)) 255) 97))), (0, 0), (1, 1)] N Λ σ (fun v19 σ18 => (∀ τ20, τ20 = st σ18 t 21 (addI (σ18 t 21) 1) → P τ20)))))))))))) ∧ (¬ (10 ≤ x3) → (Ix N Λ t_pool 0 (mulI 161 (addI (addI 6 (mulI 10 x1)) x3)) ∧ (∀ τ21, τ21 = st σ t_pool (mulI 161 (addI (addI 6 (mulI 10 x1)) x3)) 0 → (∀ y22, y22 = addI x3 1 → WV l mX12_point d P 10 [(2, t), (0, x1), (0, x2), (0, y22)] [] N Λ τ21)))))) :
    WV l mX12_point d P 10 [(2, t), (0, x1), (0, x2), (0, x3)] [] N Λ σ := by
  have hd_1 : 1 ≤ d := Nat.le_trans (by decide) h0d
  refine r_iload_n (x := x3) d_X12_point_10 rfl ?_
  refine r_bipush (x := 10) d_X12_point_11 ⟨by decide, by decide⟩ (by decide) ?_
  refine r_ic_ge (tgt := 31) d_X12_point_13 rfl (fun hc => ?_) (fun hc => ?_)
  · have h := h.1 hc
    refine r_aload_n (x := t) d_X12_point_31 rfl o_t.1 ?_
    refine x_callVI (Y2 := mX12_see) (c := t) (As := []) (S := []) d_X12_point_32 ok_mX12_see ml_X12_264 rfl (Nat.le_of_ble_eq_true rfl) (Nat.le_of_ble_eq_true rfl) rfl hd_1 kX12 o_t (c_X12_see (v_X12_see_0 o_t f_t_tape ?_))
    refine ⟨fun hc => ?_, fun hc => ?_⟩
    · have h := h.1 hc
      show WP l mX12_point (rm d 0 0) noX _ 0 0 35 [(2, t), (0, x1), (0, x2), (0, x3)] [(0, (-1))] N Λ σ
      refine r_bipush (x := 40) d_X12_point_35 ⟨by decide, by decide⟩ (by decide) ?_
      refine r_ic_eq (tgt := 69) d_X12_point_37 rfl (fun hc => absurd hc (by decide)) (fun _ => ?_)
      refine r_aload_n (x := t) d_X12_point_40 rfl o_t.1 ?_
      refine r_iload_n (x := x1) d_X12_point_41 rfl ?_
      refine r_aload_n (x := t) d_X12_point_42 rfl o_t.1 ?_
      refine x_callVI (Y2 := mX12_see) (c := t) (As := []) (S := [(0, x1), (2, t)]) d_X12_point_43 ok_mX12_see ml_X12_264 rfl (Nat.le_of_ble_eq_true rfl) (Nat.le_of_ble_eq_true rfl) rfl hd_1 kX12 o_t (c_X12_see (v_X12_see_0 o_t f_t_tape ?_))
      refine ⟨fun hc => ?_, fun hc => ?_⟩
      · have h := h.1 hc
        show WP l mX12_point (rm d 0 0) noX _ 0 0 46 [(2, t), (0, x1), (0, x2), (0, x3)] [(0, (-1)), (0, x1), (2, t)] N Λ σ
        refine r_bipush (x := 97) d_X12_point_46 ⟨by decide, by decide⟩ (by decide) ?_
        refine r_isub d_X12_point_48 ?_
        refine x_callSI (Y2 := mX12_rowOf) (As := [(0, x1), (0, (subI (-1) 97))]) (S := [(2, t)]) d_X12_point_49 ok_mX12_rowOf ml_X12_306 rfl (Nat.le_of_ble_eq_true rfl) (Nat.le_of_ble_eq_true rfl) rfl hd_1 (c_X12_rowOf (v_X12_rowOf_0 ?_))
        show WP l mX12_point (rm d 0 0) noX _ 0 0 52 [(2, t), (0, x1), (0, x2), (0, x3)] [(0, (addI (addI 6 (mulI 10 x1)) (subI (-1) 97))), (2, t)] N Λ σ
        refine r_iconst (x := 0) d_X12_point_52 ⟨by decide, by decide⟩ ?_
        refine r_lconst d_X12_point_53 ?_
        skip
        refine x_callVI (Y2 := mX12_puts) (c := t) (As := [(0, (addI (addI 6 (mulI 10 x1)) (subI (-1) 97))), (0, 0), (1, 1)]) (S := []) d_X12_point_54 ok_mX12_puts ml_X12_147 rfl (Nat.le_of_ble_eq_true rfl) (Nat.le_of_ble_eq_true rfl) rfl hd_1 kX12 o_t (CI.mono h (fun v2 σ1 h => ?_))
        refine r_pop d_X12_point_57 rfl ?_
        refine r_aload_n (x := t) d_X12_point_58 rfl o_t.1 ?_
        refine r_dup d_X12_point_59 rfl ?_
        refine r_getf (j := 21) (t := 0) (x := (σ1 t 21)) d_X12_point_60 kX12 (by decide) fl_X12_255 o_t.1 o_t.2.1 o_t.2.2.1 o_t.2.2.2 rfl rfl ?_
        refine r_iconst (x := 1) d_X12_point_63 ⟨by decide, by decide⟩ ?_
        refine r_iadd d_X12_point_64 ?_
        refine r_putI (j := 21) d_X12_point_65 kX12 (by decide) fl_X12_255 rfl o_t.1 o_t.2.1 o_t.2.2.1 o_t.2.2.2 rfl ?_
        refine r_nmM (fun τ3 eτ3 => ?_)
        have h := h τ3 eτ3
        exact r_vret d_X12_point_68 rfl (Nat.le_refl 0) (Nat.le_refl 0) ⟨rfl, rfl, rfl, h⟩
      · have h := h.2 hc
        refine ⟨h.1, ?_⟩
        have h := h.2
        show WP l mX12_point (rm d 0 0) noX _ 0 0 46 [(2, t), (0, x1), (0, x2), (0, x3)] [(0, (andI (σ t_tape (σ t 21)) 255)), (0, x1), (2, t)] N Λ σ
        refine r_bipush (x := 97) d_X12_point_46 ⟨by decide, by decide⟩ (by decide) ?_
        refine r_isub d_X12_point_48 ?_
        refine x_callSI (Y2 := mX12_rowOf) (As := [(0, x1), (0, (subI (andI (σ t_tape (σ t 21)) 255) 97))]) (S := [(2, t)]) d_X12_point_49 ok_mX12_rowOf ml_X12_306 rfl (Nat.le_of_ble_eq_true rfl) (Nat.le_of_ble_eq_true rfl) rfl hd_1 (c_X12_rowOf (v_X12_rowOf_0 ?_))
        show WP l mX12_point (rm d 0 0) noX _ 0 0 52 [(2, t), (0, x1), (0, x2), (0, x3)] [(0, (addI (addI 6 (mulI 10 x1)) (subI (andI (σ t_tape (σ t 21)) 255) 97))), (2, t)] N Λ σ
        refine r_iconst (x := 0) d_X12_point_52 ⟨by decide, by decide⟩ ?_
        refine r_lconst d_X12_point_53 ?_
        skip
        refine x_callVI (Y2 := mX12_puts) (c := t) (As := [(0, (addI (addI 6 (mulI 10 x1)) (subI (andI (σ t_tape (σ t 21)) 255) 97))), (0, 0), (1, 1)]) (S := []) d_X12_point_54 ok_mX12_puts ml_X12_147 rfl (Nat.le_of_ble_eq_true rfl) (Nat.le_of_ble_eq_true rfl) rfl hd_1 kX12 o_t (CI.mono h (fun v5 σ4 h => ?_))
        refine r_pop d_X12_point_57 rfl ?_
        refine r_aload_n (x := t) d_X12_point_58 rfl o_t.1 ?_
        refine r_dup d_X12_point_59 rfl ?_
        refine r_getf (j := 21) (t := 0) (x := (σ4 t 21)) d_X12_point_60 kX12 (by decide) fl_X12_255 o_t.1 o_t.2.1 o_t.2.2.1 o_t.2.2.2 rfl rfl ?_
        refine r_iconst (x := 1) d_X12_point_63 ⟨by decide, by decide⟩ ?_
        refine r_iadd d_X12_point_64 ?_
        refine r_putI (j := 21) d_X12_point_65 kX12 (by decide) fl_X12_255 rfl o_t.1 o_t.2.1 o_t.2.2.1 o_t.2.2.2 rfl ?_
        refine r_nmM (fun τ6 eτ6 => ?_)
        have h := h τ6 eτ6
        exact r_vret d_X12_point_68 rfl (Nat.le_refl 0) (Nat.le_refl 0) ⟨rfl, rfl, rfl, h⟩
    · have h := h.2 hc
      refine ⟨h.1, ?_⟩
      have h := h.2
      show WP l mX12_point (rm d 0 0) noX _ 0 0 35 [(2, t), (0, x1), (0, x2), (0, x3)] [(0, (andI (σ t_tape (σ t 21)) 255))] N Λ σ
      refine r_bipush (x := 40) d_X12_point_35 ⟨by decide, by decide⟩ (by decide) ?_
      refine r_ic_eq (tgt := 69) d_X12_point_37 rfl (fun hc => ?_) (fun hc => ?_)
      · have h := h.1 hc
        refine r_aload_n (x := t) d_X12_point_69 rfl o_t.1 ?_
        refine r_dup d_X12_point_70 rfl ?_
        refine r_getf (j := 21) (t := 0) (x := (σ t 21)) d_X12_point_71 kX12 (by decide) fl_X12_255 o_t.1 o_t.2.1 o_t.2.2.1 o_t.2.2.2 rfl rfl ?_
        refine r_iconst (x := 1) d_X12_point_74 ⟨by decide, by decide⟩ ?_
        refine r_iadd d_X12_point_75 ?_
        refine r_putI (j := 21) d_X12_point_76 kX12 (by decide) fl_X12_255 rfl o_t.1 o_t.2.1 o_t.2.2.1 o_t.2.2.2 rfl ?_
        refine r_nmM (fun τ7 eτ7 => ?_)
        have h := h τ7 eτ7
        refine r_aload_n (x := t) d_X12_point_79 rfl o_t.1 ?_
        refine r_iload_n (x := x2) d_X12_point_80 rfl ?_
        refine r_iload_n (x := x2) d_X12_point_81 rfl ?_
        refine r_iconst (x := 4) d_X12_point_82 ⟨by decide, by decide⟩ ?_
        refine r_iadd d_X12_point_83 ?_
        refine x_callVV (Y2 := mX12_point) (c := t) (As := [(0, x2), (0, (addI x2 4))]) (S := []) d_X12_point_84 ok_mX12_point ml_X12_309 rfl (Nat.le_of_ble_eq_true rfl) (Nat.le_of_ble_eq_true rfl) rfl hd_1 kX12 o_t (CV.mono h (fun σ8 h => ?_))
        refine r_aload_n (x := t) d_X12_point_87 rfl o_t.1 ?_
        refine r_iload_n (x := x2) d_X12_point_88 rfl ?_
        refine r_iconst (x := 1) d_X12_point_89 ⟨by decide, by decide⟩ ?_
        refine r_iadd d_X12_point_90 ?_
        refine r_iload_n (x := x2) d_X12_point_91 rfl ?_
        refine r_iconst (x := 4) d_X12_point_92 ⟨by decide, by decide⟩ ?_
        refine r_iadd d_X12_point_93 ?_
        refine x_callVV (Y2 := mX12_point) (c := t) (As := [(0, (addI x2 1)), (0, (addI x2 4))]) (S := []) d_X12_point_94 ok_mX12_point ml_X12_309 rfl (Nat.le_of_ble_eq_true rfl) (Nat.le_of_ble_eq_true rfl) rfl hd_1 kX12 o_t (CV.mono h (fun σ9 h => ?_))
        refine r_aload_n (x := t) d_X12_point_97 rfl o_t.1 ?_
        refine r_dup d_X12_point_98 rfl ?_
        refine r_getf (j := 21) (t := 0) (x := (σ9 t 21)) d_X12_point_99 kX12 (by decide) fl_X12_255 o_t.1 o_t.2.1 o_t.2.2.1 o_t.2.2.2 rfl rfl ?_
        refine r_iconst (x := 1) d_X12_point_102 ⟨by decide, by decide⟩ ?_
        refine r_iadd d_X12_point_103 ?_
        refine r_putI (j := 21) d_X12_point_104 kX12 (by decide) fl_X12_255 rfl o_t.1 o_t.2.1 o_t.2.2.1 o_t.2.2.2 rfl ?_
        refine r_nmM (fun τ10 eτ10 => ?_)
        have h := h τ10 eτ10
        refine r_aload_n (x := t) d_X12_point_107 rfl o_t.1 ?_
        refine r_iload_n (x := x2) d_X12_point_108 rfl ?_
        refine r_iconst (x := 2) d_X12_point_109 ⟨by decide, by decide⟩ ?_
        refine r_iadd d_X12_point_110 ?_
        refine r_iload_n (x := x2) d_X12_point_111 rfl ?_
        refine r_iconst (x := 4) d_X12_point_112 ⟨by decide, by decide⟩ ?_
        refine r_iadd d_X12_point_113 ?_
        refine x_callVV (Y2 := mX12_point) (c := t) (As := [(0, (addI x2 2)), (0, (addI x2 4))]) (S := []) d_X12_point_114 ok_mX12_point ml_X12_309 rfl (Nat.le_of_ble_eq_true rfl) (Nat.le_of_ble_eq_true rfl) rfl hd_1 kX12 o_t (CV.mono h (fun σ11 h => ?_))
        refine r_aload_n (x := t) d_X12_point_117 rfl o_t.1 ?_
        refine r_iload_n (x := x2) d_X12_point_118 rfl ?_
        refine r_iconst (x := 3) d_X12_point_119 ⟨by decide, by decide⟩ ?_
        refine r_iadd d_X12_point_120 ?_
        refine r_iload_n (x := x2) d_X12_point_121 rfl ?_
        refine r_iconst (x := 4) d_X12_point_122 ⟨by decide, by decide⟩ ?_
        refine r_iadd d_X12_point_123 ?_
        refine x_callVV (Y2 := mX12_point) (c := t) (As := [(0, (addI x2 3)), (0, (addI x2 4))]) (S := []) d_X12_point_124 ok_mX12_point ml_X12_309 rfl (Nat.le_of_ble_eq_true rfl) (Nat.le_of_ble_eq_true rfl) rfl hd_1 kX12 o_t (CV.mono h (fun σ12 h => ?_))
        refine r_aload_n (x := t) d_X12_point_127 rfl o_t.1 ?_
        refine r_dup d_X12_point_128 rfl ?_
        refine r_getf (j := 21) (t := 0) (x := (σ12 t 21)) d_X12_point_129 kX12 (by decide) fl_X12_255 o_t.1 o_t.2.1 o_t.2.2.1 o_t.2.2.2 rfl rfl ?_
        refine r_iconst (x := 1) d_X12_point_132 ⟨by decide, by decide⟩ ?_
        refine r_iadd d_X12_point_133 ?_
        refine r_putI (j := 21) d_X12_point_134 kX12 (by decide) fl_X12_255 rfl o_t.1 o_t.2.1 o_t.2.2.1 o_t.2.2.2 rfl ?_
        refine r_nmM (fun τ13 eτ13 => ?_)
        have h := h τ13 eτ13
        refine r_aload_n (x := t) d_X12_point_137 rfl o_t.1 ?_
        refine r_iload_n (x := x2) d_X12_point_138 rfl ?_
        refine r_iload_n (x := x1) d_X12_point_139 rfl ?_
        refine x_callVV (Y2 := mX12_meets) (c := t) (As := [(0, x2), (0, x1)]) (S := []) d_X12_point_140 ok_mX12_meets ml_X12_312 rfl (Nat.le_of_ble_eq_true rfl) (Nat.le_of_ble_eq_true rfl) rfl hd_1 kX12 o_t (CV.mono h (fun σ14 h => ?_))
        exact r_vret d_X12_point_143 rfl (Nat.le_refl 0) (Nat.le_refl 0) ⟨rfl, rfl, rfl, h⟩
      · have h := h.2 hc
        refine r_aload_n (x := t) d_X12_point_40 rfl o_t.1 ?_
        refine r_iload_n (x := x1) d_X12_point_41 rfl ?_
        refine r_aload_n (x := t) d_X12_point_42 rfl o_t.1 ?_
        refine x_callVI (Y2 := mX12_see) (c := t) (As := []) (S := [(0, x1), (2, t)]) d_X12_point_43 ok_mX12_see ml_X12_264 rfl (Nat.le_of_ble_eq_true rfl) (Nat.le_of_ble_eq_true rfl) rfl hd_1 kX12 o_t (c_X12_see (v_X12_see_0 o_t f_t_tape ?_))
        refine ⟨fun hc => ?_, fun hc => ?_⟩
        · have h := h.1 hc
          show WP l mX12_point (rm d 0 0) noX _ 0 0 46 [(2, t), (0, x1), (0, x2), (0, x3)] [(0, (-1)), (0, x1), (2, t)] N Λ σ
          refine r_bipush (x := 97) d_X12_point_46 ⟨by decide, by decide⟩ (by decide) ?_
          refine r_isub d_X12_point_48 ?_
          refine x_callSI (Y2 := mX12_rowOf) (As := [(0, x1), (0, (subI (-1) 97))]) (S := [(2, t)]) d_X12_point_49 ok_mX12_rowOf ml_X12_306 rfl (Nat.le_of_ble_eq_true rfl) (Nat.le_of_ble_eq_true rfl) rfl hd_1 (c_X12_rowOf (v_X12_rowOf_0 ?_))
          show WP l mX12_point (rm d 0 0) noX _ 0 0 52 [(2, t), (0, x1), (0, x2), (0, x3)] [(0, (addI (addI 6 (mulI 10 x1)) (subI (-1) 97))), (2, t)] N Λ σ
          refine r_iconst (x := 0) d_X12_point_52 ⟨by decide, by decide⟩ ?_
          refine r_lconst d_X12_point_53 ?_
          skip
          refine x_callVI (Y2 := mX12_puts) (c := t) (As := [(0, (addI (addI 6 (mulI 10 x1)) (subI (-1) 97))), (0, 0), (1, 1)]) (S := []) d_X12_point_54 ok_mX12_puts ml_X12_147 rfl (Nat.le_of_ble_eq_true rfl) (Nat.le_of_ble_eq_true rfl) rfl hd_1 kX12 o_t (CI.mono h (fun v16 σ15 h => ?_))
          refine r_pop d_X12_point_57 rfl ?_
          refine r_aload_n (x := t) d_X12_point_58 rfl o_t.1 ?_
          refine r_dup d_X12_point_59 rfl ?_
          refine r_getf (j := 21) (t := 0) (x := (σ15 t 21)) d_X12_point_60 kX12 (by decide) fl_X12_255 o_t.1 o_t.2.1 o_t.2.2.1 o_t.2.2.2 rfl rfl ?_
          refine r_iconst (x := 1) d_X12_point_63 ⟨by decide, by decide⟩ ?_
          refine r_iadd d_X12_point_64 ?_
          refine r_putI (j := 21) d_X12_point_65 kX12 (by decide) fl_X12_255 rfl o_t.1 o_t.2.1 o_t.2.2.1 o_t.2.2.2 rfl ?_
          refine r_nmM (fun τ17 eτ17 => ?_)
          have h := h τ17 eτ17
          exact r_vret d_X12_point_68 rfl (Nat.le_refl 0) (Nat.le_refl 0) ⟨rfl, rfl, rfl, h⟩
        · have h := h.2 hc
          refine ⟨h.1, ?_⟩
          have h := h.2
          show WP l mX12_point (rm d 0 0) noX _ 0 0 46 [(2, t), (0, x1), (0, x2), (0, x3)] [(0, (andI (σ t_tape (σ t 21)) 255)), (0, x1), (2, t)] N Λ σ
          refine r_bipush (x := 97) d_X12_point_46 ⟨by decide, by decide⟩ (by decide) ?_
          refine r_isub d_X12_point_48 ?_
          refine x_callSI (Y2 := mX12_rowOf) (As := [(0, x1), (0, (subI (andI (σ t_tape (σ t 21)) 255) 97))]) (S := [(2, t)]) d_X12_point_49 ok_mX12_rowOf ml_X12_306 rfl (Nat.le_of_ble_eq_true rfl) (Nat.le_of_ble_eq_true rfl) rfl hd_1 (c_X12_rowOf (v_X12_rowOf_0 ?_))
          show WP l mX12_point (rm d 0 0) noX _ 0 0 52 [(2, t), (0, x1), (0, x2), (0, x3)] [(0, (addI (addI 6 (mulI 10 x1)) (subI (andI (σ t_tape (σ t 21)) 255) 97))), (2, t)] N Λ σ
          refine r_iconst (x := 0) d_X12_point_52 ⟨by decide, by decide⟩ ?_
          refine r_lconst d_X12_point_53 ?_
          skip
          refine x_callVI (Y2 := mX12_puts) (c := t) (As := [(0, (addI (addI 6 (mulI 10 x1)) (subI (andI (σ t_tape (σ t 21)) 255) 97))), (0, 0), (1, 1)]) (S := []) d_X12_point_54 ok_mX12_puts ml_X12_147 rfl (Nat.le_of_ble_eq_true rfl) (Nat.le_of_ble_eq_true rfl) rfl hd_1 kX12 o_t (CI.mono h (fun v19 σ18 h => ?_))
          refine r_pop d_X12_point_57 rfl ?_
          refine r_aload_n (x := t) d_X12_point_58 rfl o_t.1 ?_
          refine r_dup d_X12_point_59 rfl ?_
          refine r_getf (j := 21) (t := 0) (x := (σ18 t 21)) d_X12_point_60 kX12 (by decide) fl_X12_255 o_t.1 o_t.2.1 o_t.2.2.1 o_t.2.2.2 rfl rfl ?_
          refine r_iconst (x := 1) d_X12_point_63 ⟨by decide, by decide⟩ ?_
          refine r_iadd d_X12_point_64 ?_
          refine r_putI (j := 21) d_X12_point_65 kX12 (by decide) fl_X12_255 rfl o_t.1 o_t.2.1 o_t.2.2.1 o_t.2.2.2 rfl ?_
          refine r_nmM (fun τ20 eτ20 => ?_)
          have h := h τ20 eτ20
          exact r_vret d_X12_point_68 rfl (Nat.le_refl 0) (Nat.le_refl 0) ⟨rfl, rfl, rfl, h⟩
  · have h := h.2 hc
    refine r_aload_n (x := t) d_X12_point_16 rfl o_t.1 ?_
    refine r_iload_n (x := x1) d_X12_point_17 rfl ?_
    refine r_iload_n (x := x3) d_X12_point_18 rfl ?_
    refine x_callSI (Y2 := mX12_rowOf) (As := [(0, x1), (0, x3)]) (S := [(2, t)]) d_X12_point_19 ok_mX12_rowOf ml_X12_306 rfl (Nat.le_of_ble_eq_true rfl) (Nat.le_of_ble_eq_true rfl) rfl hd_1 (c_X12_rowOf (v_X12_rowOf_0 ?_))
    show WP l mX12_point (rm d 0 0) noX _ 0 0 22 [(2, t), (0, x1), (0, x2), (0, x3)] [(0, (addI (addI 6 (mulI 10 x1)) x3)), (2, t)] N Λ σ
    refine x_callVV (Y2 := mX12_empties) (c := t) (As := [(0, (addI (addI 6 (mulI 10 x1)) x3))]) (S := []) d_X12_point_22 ok_mX12_empties ml_X12_105 rfl (Nat.le_of_ble_eq_true rfl) (Nat.le_of_ble_eq_true rfl) rfl hd_1 kX12 o_t (c_X12_empties (v_X12_empties_0 o_t f_t_pool ?_))
    refine ⟨h.1, ?_⟩
    have h := h.2
    intro τ21 eτ21
    have h := h τ21 eτ21
    show WP l mX12_point (rm d 0 0) noX _ 0 0 25 [(2, t), (0, x1), (0, x2), (0, x3)] [] N Λ τ21
    refine x_iinc (x := x3) (L := [(2, t), (0, x1), (0, x2), (0, x3)]) d_X12_point_25 rfl (by decide) rfl (fun y22 ey22 => ?_)
    have h := h y22 ey22
    show WP _ _ _ _ _ _ _ _ [(2, t), (0, x1), (0, x2), (0, y22)] _ _ _ _
    refine r_goto (tgt := 10) d_X12_point_28 rfl ?_
    exact h
