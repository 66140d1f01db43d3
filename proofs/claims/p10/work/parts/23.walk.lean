theorem d_X9_take_0 : DC mX9_take 0 (.bipush 24) 2 2 := ⟨by decide +kernel, rfl⟩
theorem d_X9_take_2 : DC mX9_take 2 (.istore_n 2) 1 3 := ⟨by decide +kernel, rfl⟩
theorem d_X9_take_3 : DC mX9_take 3 (.iload_n 2) 1 4 := ⟨by decide +kernel, rfl⟩
theorem d_X9_take_4 : DC mX9_take 4 (.ifCond .lt 45) 3 7 := ⟨by decide +kernel, rfl⟩
theorem d_X9_take_7 : DC mX9_take 7 (.aload_n 0) 1 8 := ⟨by decide +kernel, rfl⟩
theorem d_X9_take_8 : DC mX9_take 8 (.getfield 15) 3 11 := ⟨by decide +kernel, rfl⟩
theorem d_X9_take_11 : DC mX9_take 11 (.sipush 300) 3 14 := ⟨by decide +kernel, rfl⟩
theorem d_X9_take_14 : DC mX9_take 14 (.if_icmp .ge 35) 3 17 := ⟨by decide +kernel, rfl⟩
theorem d_X9_take_17 : DC mX9_take 17 (.aload_n 0) 1 18 := ⟨by decide +kernel, rfl⟩
theorem d_X9_take_18 : DC mX9_take 18 (.getfield 9) 3 21 := ⟨by decide +kernel, rfl⟩
theorem d_X9_take_21 : DC mX9_take 21 (.aload_n 0) 1 22 := ⟨by decide +kernel, rfl⟩
theorem d_X9_take_22 : DC mX9_take 22 (.getfield 15) 3 25 := ⟨by decide +kernel, rfl⟩
theorem d_X9_take_25 : DC mX9_take 25 (.iload_n 1) 1 26 := ⟨by decide +kernel, rfl⟩
theorem d_X9_take_26 : DC mX9_take 26 (.iload_n 2) 1 27 := ⟨by decide +kernel, rfl⟩
theorem d_X9_take_27 : DC mX9_take 27 (.ishr) 1 28 := ⟨by decide +kernel, rfl⟩
theorem d_X9_take_28 : DC mX9_take 28 (.sipush 255) 3 31 := ⟨by decide +kernel, rfl⟩
theorem d_X9_take_31 : DC mX9_take 31 (.iand) 1 32 := ⟨by decide +kernel, rfl⟩
theorem d_X9_take_32 : DC mX9_take 32 (.iastore) 1 33 := ⟨by decide +kernel, rfl⟩
theorem d_X9_take_33 : DC mX9_take 33 (.aload_n 0) 1 34 := ⟨by decide +kernel, rfl⟩
theorem d_X9_take_34 : DC mX9_take 34 (.dup) 1 35 := ⟨by decide +kernel, rfl⟩
theorem d_X9_take_35 : DC mX9_take 35 (.getfield 15) 3 38 := ⟨by decide +kernel, rfl⟩
theorem d_X9_take_38 : DC mX9_take 38 (.iconst 1) 1 39 := ⟨by decide +kernel, rfl⟩
theorem d_X9_take_39 : DC mX9_take 39 (.iadd) 1 40 := ⟨by decide +kernel, rfl⟩
theorem d_X9_take_40 : DC mX9_take 40 (.putfield 15) 3 43 := ⟨by decide +kernel, rfl⟩
theorem d_X9_take_43 : DC mX9_take 43 (.iinc 2 (-8)) 3 46 := ⟨by decide +kernel, rfl⟩
theorem d_X9_take_46 : DC mX9_take 46 (.goto (-43)) 3 49 := ⟨by decide +kernel, rfl⟩
theorem d_X9_take_49 : DC mX9_take 49 (.return_) 1 50 := ⟨by decide +kernel, rfl⟩
theorem d_X9_isSign_0 : DC mX9_isSign 0 (.iload_n 0) 1 1 := ⟨by decide +kernel, rfl⟩
theorem d_X9_isSign_1 : DC mX9_isSign 1 (.bipush 43) 2 3 := ⟨by decide +kernel, rfl⟩
theorem d_X9_isSign_3 : DC mX9_isSign 3 (.if_icmp .eq 9) 3 6 := ⟨by decide +kernel, rfl⟩
theorem d_X9_isSign_6 : DC mX9_isSign 6 (.iload_n 0) 1 7 := ⟨by decide +kernel, rfl⟩
theorem d_X9_isSign_7 : DC mX9_isSign 7 (.bipush 45) 2 9 := ⟨by decide +kernel, rfl⟩
theorem d_X9_isSign_9 : DC mX9_isSign 9 (.if_icmp .ne 7) 3 12 := ⟨by decide +kernel, rfl⟩
theorem d_X9_isSign_12 : DC mX9_isSign 12 (.iconst 1) 1 13 := ⟨by decide +kernel, rfl⟩
theorem d_X9_isSign_13 : DC mX9_isSign 13 (.goto 4) 3 16 := ⟨by decide +kernel, rfl⟩
theorem d_X9_isSign_16 : DC mX9_isSign 16 (.iconst 0) 1 17 := ⟨by decide +kernel, rfl⟩
theorem d_X9_isSign_17 : DC mX9_isSign 17 (.ireturn) 1 18 := ⟨by decide +kernel, rfl⟩
theorem d_X9_isDigit_0 : DC mX9_isDigit 0 (.iload_n 0) 1 1 := ⟨by decide +kernel, rfl⟩
theorem d_X9_isDigit_1 : DC mX9_isDigit 1 (.bipush 48) 2 3 := ⟨by decide +kernel, rfl⟩
theorem d_X9_isDigit_3 : DC mX9_isDigit 3 (.if_icmp .lt 13) 3 6 := ⟨by decide +kernel, rfl⟩
theorem d_X9_isDigit_6 : DC mX9_isDigit 6 (.iload_n 0) 1 7 := ⟨by decide +kernel, rfl⟩
theorem d_X9_isDigit_7 : DC mX9_isDigit 7 (.bipush 57) 2 9 := ⟨by decide +kernel, rfl⟩
theorem d_X9_isDigit_9 : DC mX9_isDigit 9 (.if_icmp .gt 7) 3 12 := ⟨by decide +kernel, rfl⟩
theorem d_X9_isDigit_12 : DC mX9_isDigit 12 (.iconst 1) 1 13 := ⟨by decide +kernel, rfl⟩
theorem d_X9_isDigit_13 : DC mX9_isDigit 13 (.goto 4) 3 16 := ⟨by decide +kernel, rfl⟩
theorem d_X9_isDigit_16 : DC mX9_isDigit 16 (.iconst 0) 1 17 := ⟨by decide +kernel, rfl⟩
theorem d_X9_isDigit_17 : DC mX9_isDigit 17 (.ireturn) 1 18 := ⟨by decide +kernel, rfl⟩
theorem d_X9_note_0 : DC mX9_note 0 (.aload_n 0) 1 1 := ⟨by decide +kernel, rfl⟩
theorem d_X9_note_1 : DC mX9_note 1 (.iload_n 1) 1 2 := ⟨by decide +kernel, rfl⟩
theorem d_X9_note_2 : DC mX9_note 2 (.putfield 19) 3 5 := ⟨by decide +kernel, rfl⟩
theorem d_X9_note_5 : DC mX9_note 5 (.aload_n 0) 1 6 := ⟨by decide +kernel, rfl⟩
theorem d_X9_note_6 : DC mX9_note 6 (.iload_n 2) 1 7 := ⟨by decide +kernel, rfl⟩
theorem d_X9_note_7 : DC mX9_note 7 (.putfield 22) 3 10 := ⟨by decide +kernel, rfl⟩
theorem d_X9_note_10 : DC mX9_note 10 (.iload_n 1) 1 11 := ⟨by decide +kernel, rfl⟩
theorem d_X9_note_11 : DC mX9_note 11 (.ifCond .ne 7) 3 14 := ⟨by decide +kernel, rfl⟩
theorem d_X9_note_14 : DC mX9_note 14 (.iconst 1) 1 15 := ⟨by decide +kernel, rfl⟩
theorem d_X9_note_15 : DC mX9_note 15 (.goto 4) 3 18 := ⟨by decide +kernel, rfl⟩
theorem d_X9_note_18 : DC mX9_note 18 (.iconst 0) 1 19 := ⟨by decide +kernel, rfl⟩
theorem d_X9_note_19 : DC mX9_note 19 (.ireturn) 1 20 := ⟨by decide +kernel, rfl⟩
theorem d_X9_behind_0 : DC mX9_behind 0 (.iload_n 0) 1 1 := ⟨by decide +kernel, rfl⟩
theorem d_X9_behind_1 : DC mX9_behind 1 (.iconst 3) 1 2 := ⟨by decide +kernel, rfl⟩
theorem d_X9_behind_2 : DC mX9_behind 2 (.if_icmp .lt 24) 3 5 := ⟨by decide +kernel, rfl⟩
theorem d_X9_behind_5 : DC mX9_behind 5 (.iload_n 0) 1 6 := ⟨by decide +kernel, rfl⟩
theorem d_X9_behind_6 : DC mX9_behind 6 (.bipush 6) 2 8 := ⟨by decide +kernel, rfl⟩
theorem d_X9_behind_8 : DC mX9_behind 8 (.if_icmp .ge 18) 3 11 := ⟨by decide +kernel, rfl⟩
theorem d_X9_behind_11 : DC mX9_behind 11 (.iload_n 1) 1 12 := ⟨by decide +kernel, rfl⟩
theorem d_X9_behind_12 : DC mX9_behind 12 (.invokestatic 43) 3 15 := ⟨by decide +kernel, rfl⟩
theorem d_X9_behind_15 : DC mX9_behind 15 (.ifCond .eq 9) 3 18 := ⟨by decide +kernel, rfl⟩
theorem d_X9_behind_18 : DC mX9_behind 18 (.iload_n 0) 1 19 := ⟨by decide +kernel, rfl⟩
theorem d_X9_behind_19 : DC mX9_behind 19 (.iconst 1) 1 20 := ⟨by decide +kernel, rfl⟩
theorem d_X9_behind_20 : DC mX9_behind 20 (.iadd) 1 21 := ⟨by decide +kernel, rfl⟩
theorem d_X9_behind_21 : DC mX9_behind 21 (.goto 4) 3 24 := ⟨by decide +kernel, rfl⟩
theorem d_X9_behind_24 : DC mX9_behind 24 (.iconst (-1)) 1 25 := ⟨by decide +kernel, rfl⟩
theorem d_X9_behind_25 : DC mX9_behind 25 (.ireturn) 1 26 := ⟨by decide +kernel, rfl⟩
theorem d_X9_behind_26 : DC mX9_behind 26 (.iload_n 0) 1 27 := ⟨by decide +kernel, rfl⟩
theorem d_X9_behind_27 : DC mX9_behind 27 (.bipush 6) 2 29 := ⟨by decide +kernel, rfl⟩
theorem d_X9_behind_29 : DC mX9_behind 29 (.if_icmp .ne 16) 3 32 := ⟨by decide +kernel, rfl⟩
theorem d_X9_behind_32 : DC mX9_behind 32 (.iload_n 1) 1 33 := ⟨by decide +kernel, rfl⟩
theorem d_X9_behind_33 : DC mX9_behind 33 (.bipush 93) 2 35 := ⟨by decide +kernel, rfl⟩
theorem d_X9_behind_35 : DC mX9_behind 35 (.if_icmp .ne 8) 3 38 := ⟨by decide +kernel, rfl⟩
theorem d_X9_behind_38 : DC mX9_behind 38 (.bipush 7) 2 40 := ⟨by decide +kernel, rfl⟩
theorem d_X9_behind_40 : DC mX9_behind 40 (.goto 4) 3 43 := ⟨by decide +kernel, rfl⟩
theorem d_X9_behind_43 : DC mX9_behind 43 (.iconst (-1)) 1 44 := ⟨by decide +kernel, rfl⟩
theorem d_X9_behind_44 : DC mX9_behind 44 (.ireturn) 1 45 := ⟨by decide +kernel, rfl⟩
theorem d_X9_behind_45 : DC mX9_behind 45 (.iload_n 1) 1 46 := ⟨by decide +kernel, rfl⟩
theorem d_X9_behind_46 : DC mX9_behind 46 (.bipush 91) 2 48 := ⟨by decide +kernel, rfl⟩
theorem d_X9_behind_48 : DC mX9_behind 48 (.if_icmp .ne 5) 3 51 := ⟨by decide +kernel, rfl⟩
theorem d_X9_behind_51 : DC mX9_behind 51 (.iconst 3) 1 52 := ⟨by decide +kernel, rfl⟩
theorem d_X9_behind_52 : DC mX9_behind 52 (.ireturn) 1 53 := ⟨by decide +kernel, rfl⟩
theorem d_X9_behind_53 : DC mX9_behind 53 (.iload_n 1) 1 54 := ⟨by decide +kernel, rfl⟩
theorem d_X9_behind_54 : DC mX9_behind 54 (.invokestatic 47) 3 57 := ⟨by decide +kernel, rfl⟩
theorem d_X9_behind_57 : DC mX9_behind 57 (.ifCond .eq 14) 3 60 := ⟨by decide +kernel, rfl⟩
theorem d_X9_behind_60 : DC mX9_behind 60 (.iload_n 0) 1 61 := ⟨by decide +kernel, rfl⟩
theorem d_X9_behind_61 : DC mX9_behind 61 (.iconst 1) 1 62 := ⟨by decide +kernel, rfl⟩
theorem d_X9_behind_62 : DC mX9_behind 62 (.if_icmp .ne 7) 3 65 := ⟨by decide +kernel, rfl⟩
theorem d_X9_behind_65 : DC mX9_behind 65 (.iconst (-1)) 1 66 := ⟨by decide +kernel, rfl⟩
theorem d_X9_behind_66 : DC mX9_behind 66 (.goto 4) 3 69 := ⟨by decide +kernel, rfl⟩
theorem d_X9_behind_69 : DC mX9_behind 69 (.iconst 1) 1 70 := ⟨by decide +kernel, rfl⟩
theorem d_X9_behind_70 : DC mX9_behind 70 (.ireturn) 1 71 := ⟨by decide +kernel, rfl⟩
theorem d_X9_behind_71 : DC mX9_behind 71 (.iload_n 1) 1 72 := ⟨by decide +kernel, rfl⟩
theorem d_X9_behind_72 : DC mX9_behind 72 (.invokestatic 50) 3 75 := ⟨by decide +kernel, rfl⟩
theorem d_X9_behind_75 : DC mX9_behind 75 (.ifCond .eq 13) 3 78 := ⟨by decide +kernel, rfl⟩
theorem d_X9_behind_78 : DC mX9_behind 78 (.iload_n 0) 1 79 := ⟨by decide +kernel, rfl⟩
theorem d_X9_behind_79 : DC mX9_behind 79 (.bipush 7) 2 81 := ⟨by decide +kernel, rfl⟩
theorem d_X9_behind_81 : DC mX9_behind 81 (.if_icmp .eq 7) 3 84 := ⟨by decide +kernel, rfl⟩
theorem d_X9_behind_84 : DC mX9_behind 84 (.iconst 2) 1 85 := ⟨by decide +kernel, rfl⟩
theorem d_X9_behind_85 : DC mX9_behind 85 (.goto 4) 3 88 := ⟨by decide +kernel, rfl⟩
theorem d_X9_behind_88 : DC mX9_behind 88 (.iconst (-1)) 1 89 := ⟨by decide +kernel, rfl⟩
theorem d_X9_behind_89 : DC mX9_behind 89 (.ireturn) 1 90 := ⟨by decide +kernel, rfl⟩
theorem d_X9_tellsPolynomial_0 : DC mX9_tellsPolynomial 0 (.iconst 0) 1 1 := ⟨by decide +kernel, rfl⟩
theorem d_X9_tellsPolynomial_1 : DC mX9_tellsPolynomial 1 (.istore_n 2) 1 2 := ⟨by decide +kernel, rfl⟩
theorem d_X9_tellsPolynomial_2 : DC mX9_tellsPolynomial 2 (.iconst 0) 1 3 := ⟨by decide +kernel, rfl⟩
theorem d_X9_tellsPolynomial_3 : DC mX9_tellsPolynomial 3 (.istore_n 3) 1 4 := ⟨by decide +kernel, rfl⟩
theorem d_X9_tellsPolynomial_4 : DC mX9_tellsPolynomial 4 (.iconst 0) 1 5 := ⟨by decide +kernel, rfl⟩
theorem d_X9_tellsPolynomial_5 : DC mX9_tellsPolynomial 5 (.istore 4) 2 7 := ⟨by decide +kernel, rfl⟩
theorem d_X9_tellsPolynomial_7 : DC mX9_tellsPolynomial 7 (.iconst 0) 1 8 := ⟨by decide +kernel, rfl⟩
theorem d_X9_tellsPolynomial_8 : DC mX9_tellsPolynomial 8 (.istore 5) 2 10 := ⟨by decide +kernel, rfl⟩
theorem d_X9_tellsPolynomial_10 : DC mX9_tellsPolynomial 10 (.iload 5) 2 12 := ⟨by decide +kernel, rfl⟩
theorem d_X9_tellsPolynomial_12 : DC mX9_tellsPolynomial 12 (.iload_n 1) 1 13 := ⟨by decide +kernel, rfl⟩
theorem d_X9_tellsPolynomial_13 : DC mX9_tellsPolynomial 13 (.if_icmp .ge 100) 3 16 := ⟨by decide +kernel, rfl⟩
theorem d_X9_tellsPolynomial_16 : DC mX9_tellsPolynomial 16 (.iload_n 2) 1 17 := ⟨by decide +kernel, rfl⟩
theorem d_X9_tellsPolynomial_17 : DC mX9_tellsPolynomial 17 (.aload_n 0) 1 18 := ⟨by decide +kernel, rfl⟩
theorem d_X9_tellsPolynomial_18 : DC mX9_tellsPolynomial 18 (.getfield 9) 3 21 := ⟨by decide +kernel, rfl⟩
theorem d_X9_tellsPolynomial_21 : DC mX9_tellsPolynomial 21 (.iload 5) 2 23 := ⟨by decide +kernel, rfl⟩
theorem d_X9_tellsPolynomial_23 : DC mX9_tellsPolynomial 23 (.iaload) 1 24 := ⟨by decide +kernel, rfl⟩
theorem d_X9_tellsPolynomial_24 : DC mX9_tellsPolynomial 24 (.invokestatic 35) 3 27 := ⟨by decide +kernel, rfl⟩
theorem d_X9_tellsPolynomial_27 : DC mX9_tellsPolynomial 27 (.istore 6) 2 29 := ⟨by decide +kernel, rfl⟩
theorem d_X9_tellsPolynomial_29 : DC mX9_tellsPolynomial 29 (.iload 6) 2 31 := ⟨by decide +kernel, rfl⟩
theorem d_X9_tellsPolynomial_31 : DC mX9_tellsPolynomial 31 (.iconst (-1)) 1 32 := ⟨by decide +kernel, rfl⟩
theorem d_X9_tellsPolynomial_32 : DC mX9_tellsPolynomial 32 (.if_icmp .ne 11) 3 35 := ⟨by decide +kernel, rfl⟩
theorem d_X9_tellsPolynomial_35 : DC mX9_tellsPolynomial 35 (.aload_n 0) 1 36 := ⟨by decide +kernel, rfl⟩
theorem d_X9_tellsPolynomial_36 : DC mX9_tellsPolynomial 36 (.iconst 1) 1 37 := ⟨by decide +kernel, rfl⟩
theorem d_X9_tellsPolynomial_37 : DC mX9_tellsPolynomial 37 (.iload 5) 2 39 := ⟨by decide +kernel, rfl⟩
theorem d_X9_tellsPolynomial_39 : DC mX9_tellsPolynomial 39 (.invokevirtual 39) 3 42 := ⟨by decide +kernel, rfl⟩
theorem d_X9_tellsPolynomial_42 : DC mX9_tellsPolynomial 42 (.ireturn) 1 43 := ⟨by decide +kernel, rfl⟩
theorem d_X9_tellsPolynomial_43 : DC mX9_tellsPolynomial 43 (.iload 6) 2 45 := ⟨by decide +kernel, rfl⟩
theorem d_X9_tellsPolynomial_45 : DC mX9_tellsPolynomial 45 (.iconst 2) 1 46 := ⟨by decide +kernel, rfl⟩
theorem d_X9_tellsPolynomial_46 : DC mX9_tellsPolynomial 46 (.if_icmp .ne 9) 3 49 := ⟨by decide +kernel, rfl⟩
theorem d_X9_tellsPolynomial_49 : DC mX9_tellsPolynomial 49 (.iload_n 3) 1 50 := ⟨by decide +kernel, rfl⟩
theorem d_X9_tellsPolynomial_50 : DC mX9_tellsPolynomial 50 (.iconst 1) 1 51 := ⟨by decide +kernel, rfl⟩
theorem d_X9_tellsPolynomial_51 : DC mX9_tellsPolynomial 51 (.iadd) 1 52 := ⟨by decide +kernel, rfl⟩
theorem d_X9_tellsPolynomial_52 : DC mX9_tellsPolynomial 52 (.goto 4) 3 55 := ⟨by decide +kernel, rfl⟩
theorem d_X9_tellsPolynomial_55 : DC mX9_tellsPolynomial 55 (.iconst 0) 1 56 := ⟨by decide +kernel, rfl⟩
theorem d_X9_tellsPolynomial_56 : DC mX9_tellsPolynomial 56 (.istore_n 3) 1 57 := ⟨by decide +kernel, rfl⟩
theorem d_X9_tellsPolynomial_57 : DC mX9_tellsPolynomial 57 (.iload_n 3) 1 58 := ⟨by decide +kernel, rfl⟩
theorem d_X9_tellsPolynomial_58 : DC mX9_tellsPolynomial 58 (.iconst 4) 1 59 := ⟨by decide +kernel, rfl⟩
theorem d_X9_tellsPolynomial_59 : DC mX9_tellsPolynomial 59 (.if_icmp .le 13) 3 62 := ⟨by decide +kernel, rfl⟩
theorem d_X9_tellsPolynomial_62 : DC mX9_tellsPolynomial 62 (.aload_n 0) 1 63 := ⟨by decide +kernel, rfl⟩
theorem d_X9_tellsPolynomial_63 : DC mX9_tellsPolynomial 63 (.iconst 2) 1 64 := ⟨by decide +kernel, rfl⟩
theorem d_X9_tellsPolynomial_64 : DC mX9_tellsPolynomial 64 (.iload 5) 2 66 := ⟨by decide +kernel, rfl⟩
theorem d_X9_tellsPolynomial_66 : DC mX9_tellsPolynomial 66 (.iconst 4) 1 67 := ⟨by decide +kernel, rfl⟩
theorem d_X9_tellsPolynomial_67 : DC mX9_tellsPolynomial 67 (.isub) 1 68 := ⟨by decide +kernel, rfl⟩
theorem d_X9_tellsPolynomial_68 : DC mX9_tellsPolynomial 68 (.invokevirtual 39) 3 71 := ⟨by decide +kernel, rfl⟩
theorem d_X9_tellsPolynomial_71 : DC mX9_tellsPolynomial 71 (.ireturn) 1 72 := ⟨by decide +kernel, rfl⟩
theorem d_X9_tellsPolynomial_72 : DC mX9_tellsPolynomial 72 (.iload 6) 2 74 := ⟨by decide +kernel, rfl⟩
theorem d_X9_tellsPolynomial_74 : DC mX9_tellsPolynomial 74 (.iconst 1) 1 75 := ⟨by decide +kernel, rfl⟩
theorem d_X9_tellsPolynomial_75 : DC mX9_tellsPolynomial 75 (.if_icmp .ne 6) 3 78 := ⟨by decide +kernel, rfl⟩
theorem d_X9_tellsPolynomial_78 : DC mX9_tellsPolynomial 78 (.iconst 0) 1 79 := ⟨by decide +kernel, rfl⟩
theorem d_X9_tellsPolynomial_79 : DC mX9_tellsPolynomial 79 (.istore 4) 2 81 := ⟨by decide +kernel, rfl⟩
theorem d_X9_tellsPolynomial_81 : DC mX9_tellsPolynomial 81 (.iload 6) 2 83 := ⟨by decide +kernel, rfl⟩
theorem d_X9_tellsPolynomial_83 : DC mX9_tellsPolynomial 83 (.iconst 3) 1 84 := ⟨by decide +kernel, rfl⟩
theorem d_X9_tellsPolynomial_84 : DC mX9_tellsPolynomial 84 (.if_icmp .ne 6) 3 87 := ⟨by decide +kernel, rfl⟩
theorem d_X9_tellsPolynomial_87 : DC mX9_tellsPolynomial 87 (.iinc 4 1) 3 90 := ⟨by decide +kernel, rfl⟩
theorem d_X9_tellsPolynomial_90 : DC mX9_tellsPolynomial 90 (.iload 4) 2 92 := ⟨by decide +kernel, rfl⟩
theorem d_X9_tellsPolynomial_92 : DC mX9_tellsPolynomial 92 (.iconst 4) 1 93 := ⟨by decide +kernel, rfl⟩
theorem d_X9_tellsPolynomial_93 : DC mX9_tellsPolynomial 93 (.if_icmp .le 11) 3 96 := ⟨by decide +kernel, rfl⟩
theorem d_X9_tellsPolynomial_96 : DC mX9_tellsPolynomial 96 (.aload_n 0) 1 97 := ⟨by decide +kernel, rfl⟩
theorem d_X9_tellsPolynomial_97 : DC mX9_tellsPolynomial 97 (.iconst 3) 1 98 := ⟨by decide +kernel, rfl⟩
theorem d_X9_tellsPolynomial_98 : DC mX9_tellsPolynomial 98 (.iload 5) 2 100 := ⟨by decide +kernel, rfl⟩
theorem d_X9_tellsPolynomial_100 : DC mX9_tellsPolynomial 100 (.invokevirtual 39) 3 103 := ⟨by decide +kernel, rfl⟩
theorem d_X9_tellsPolynomial_103 : DC mX9_tellsPolynomial 103 (.ireturn) 1 104 := ⟨by decide +kernel, rfl⟩
theorem d_X9_tellsPolynomial_104 : DC mX9_tellsPolynomial 104 (.iload 6) 2 106 := ⟨by decide +kernel, rfl⟩
theorem d_X9_tellsPolynomial_106 : DC mX9_tellsPolynomial 106 (.istore_n 2) 1 107 := ⟨by decide +kernel, rfl⟩
theorem d_X9_tellsPolynomial_107 : DC mX9_tellsPolynomial 107 (.iinc 5 1) 3 110 := ⟨by decide +kernel, rfl⟩
theorem d_X9_tellsPolynomial_110 : DC mX9_tellsPolynomial 110 (.goto (-100)) 3 113 := ⟨by decide +kernel, rfl⟩
theorem d_X9_tellsPolynomial_113 : DC mX9_tellsPolynomial 113 (.iload_n 2) 1 114 := ⟨by decide +kernel, rfl⟩
theorem d_X9_tellsPolynomial_114 : DC mX9_tellsPolynomial 114 (.ifCond .eq 14) 3 117 := ⟨by decide +kernel, rfl⟩
theorem d_X9_tellsPolynomial_117 : DC mX9_tellsPolynomial 117 (.iload_n 2) 1 118 := ⟨by decide +kernel, rfl⟩
theorem d_X9_tellsPolynomial_118 : DC mX9_tellsPolynomial 118 (.iconst 2) 1 119 := ⟨by decide +kernel, rfl⟩
theorem d_X9_tellsPolynomial_119 : DC mX9_tellsPolynomial 119 (.if_icmp .eq 9) 3 122 := ⟨by decide +kernel, rfl⟩
theorem d_X9_tellsPolynomial_122 : DC mX9_tellsPolynomial 122 (.iload_n 2) 1 123 := ⟨by decide +kernel, rfl⟩
theorem d_X9_tellsPolynomial_123 : DC mX9_tellsPolynomial 123 (.bipush 7) 2 125 := ⟨by decide +kernel, rfl⟩
theorem d_X9_tellsPolynomial_125 : DC mX9_tellsPolynomial 125 (.if_icmp .ne 7) 3 128 := ⟨by decide +kernel, rfl⟩
theorem d_X9_tellsPolynomial_128 : DC mX9_tellsPolynomial 128 (.iconst 1) 1 129 := ⟨by decide +kernel, rfl⟩
theorem d_X9_tellsPolynomial_129 : DC mX9_tellsPolynomial 129 (.goto 4) 3 132 := ⟨by decide +kernel, rfl⟩
theorem d_X9_tellsPolynomial_132 : DC mX9_tellsPolynomial 132 (.iconst 0) 1 133 := ⟨by decide +kernel, rfl⟩
theorem d_X9_tellsPolynomial_133 : DC mX9_tellsPolynomial 133 (.istore 5) 2 135 := ⟨by decide +kernel, rfl⟩
theorem d_X9_tellsPolynomial_135 : DC mX9_tellsPolynomial 135 (.iload 5) 2 137 := ⟨by decide +kernel, rfl⟩
theorem d_X9_tellsPolynomial_137 : DC mX9_tellsPolynomial 137 (.ifCond .eq 12) 3 140 := ⟨by decide +kernel, rfl⟩
theorem d_X9_tellsPolynomial_140 : DC mX9_tellsPolynomial 140 (.aload_n 0) 1 141 := ⟨by decide +kernel, rfl⟩
theorem d_X9_tellsPolynomial_141 : DC mX9_tellsPolynomial 141 (.iconst 0) 1 142 := ⟨by decide +kernel, rfl⟩
theorem d_X9_tellsPolynomial_142 : DC mX9_tellsPolynomial 142 (.iconst (-1)) 1 143 := ⟨by decide +kernel, rfl⟩
theorem d_X9_tellsPolynomial_143 : DC mX9_tellsPolynomial 143 (.invokevirtual 39) 3 146 := ⟨by decide +kernel, rfl⟩
theorem d_X9_tellsPolynomial_146 : DC mX9_tellsPolynomial 146 (.goto 9) 3 149 := ⟨by decide +kernel, rfl⟩
theorem d_X9_tellsPolynomial_149 : DC mX9_tellsPolynomial 149 (.aload_n 0) 1 150 := ⟨by decide +kernel, rfl⟩
theorem d_X9_tellsPolynomial_150 : DC mX9_tellsPolynomial 150 (.iconst 1) 1 151 := ⟨by decide +kernel, rfl⟩
theorem d_X9_tellsPolynomial_151 : DC mX9_tellsPolynomial 151 (.iload_n 1) 1 152 := ⟨by decide +kernel, rfl⟩
theorem d_X9_tellsPolynomial_152 : DC mX9_tellsPolynomial 152 (.invokevirtual 39) 3 155 := ⟨by decide +kernel, rfl⟩
theorem d_X9_tellsPolynomial_155 : DC mX9_tellsPolynomial 155 (.ireturn) 1 156 := ⟨by decide +kernel, rfl⟩
theorem d_X9_layRead_0 : DC mX9_layRead 0 (.iload_n 3) 1 1 := ⟨by decide +kernel, rfl⟩
theorem d_X9_layRead_1 : DC mX9_layRead 1 (.iconst (-1)) 1 2 := ⟨by decide +kernel, rfl⟩
theorem d_X9_layRead_2 : DC mX9_layRead 2 (.if_icmp .ne 7) 3 5 := ⟨by decide +kernel, rfl⟩
theorem d_X9_layRead_5 : DC mX9_layRead 5 (.lconst 1) 1 6 := ⟨by decide +kernel, rfl⟩
theorem d_X9_layRead_6 : DC mX9_layRead 6 (.goto 5) 3 9 := ⟨by decide +kernel, rfl⟩
theorem d_X9_layRead_9 : DC mX9_layRead 9 (.iload_n 3) 1 10 := ⟨by decide +kernel, rfl⟩
theorem d_X9_layRead_10 : DC mX9_layRead 10 (.i2l) 1 11 := ⟨by decide +kernel, rfl⟩
theorem d_X9_layRead_11 : DC mX9_layRead 11 (.lstore 4) 2 13 := ⟨by decide +kernel, rfl⟩
theorem d_X9_layRead_13 : DC mX9_layRead 13 (.aload_n 1) 1 14 := ⟨by decide +kernel, rfl⟩
theorem d_X9_layRead_14 : DC mX9_layRead 14 (.aload_n 0) 1 15 := ⟨by decide +kernel, rfl⟩
theorem d_X9_layRead_15 : DC mX9_layRead 15 (.getfield 31) 3 18 := ⟨by decide +kernel, rfl⟩
theorem d_X9_layRead_18 : DC mX9_layRead 18 (.getfield 81) 3 21 := ⟨by decide +kernel, rfl⟩
theorem d_X9_layRead_21 : DC mX9_layRead 21 (.iload_n 2) 1 22 := ⟨by decide +kernel, rfl⟩
theorem d_X9_layRead_22 : DC mX9_layRead 22 (.i2l) 1 23 := ⟨by decide +kernel, rfl⟩
theorem d_X9_layRead_23 : DC mX9_layRead 23 (.lload 4) 2 25 := ⟨by decide +kernel, rfl⟩
theorem d_X9_layRead_25 : DC mX9_layRead 25 (.lmul) 1 26 := ⟨by decide +kernel, rfl⟩
theorem d_X9_layRead_26 : DC mX9_layRead 26 (.aload_n 0) 1 27 := ⟨by decide +kernel, rfl⟩
theorem d_X9_layRead_27 : DC mX9_layRead 27 (.getfield 31) 3 30 := ⟨by decide +kernel, rfl⟩
theorem d_X9_layRead_30 : DC mX9_layRead 30 (.getfield 85) 3 33 := ⟨by decide +kernel, rfl⟩
theorem d_X9_layRead_33 : DC mX9_layRead 33 (.i2l) 1 34 := ⟨by decide +kernel, rfl⟩
theorem d_X9_layRead_34 : DC mX9_layRead 34 (.lmul) 1 35 := ⟨by decide +kernel, rfl⟩
theorem d_X9_layRead_35 : DC mX9_layRead 35 (.invokevirtual 88) 3 38 := ⟨by decide +kernel, rfl⟩
theorem d_X9_layRead_38 : DC mX9_layRead 38 (.ireturn) 1 39 := ⟨by decide +kernel, rfl⟩
theorem d_X9_readPolynomial_0 : DC mX9_readPolynomial 0 (.aload_n 2) 1 1 := ⟨by decide +kernel, rfl⟩
theorem d_X9_readPolynomial_1 : DC mX9_readPolynomial 1 (.invokevirtual 53) 3 4 := ⟨by decide +kernel, rfl⟩
theorem d_X9_readPolynomial_4 : DC mX9_readPolynomial 4 (.aload_n 0) 1 5 := ⟨by decide +kernel, rfl⟩
theorem d_X9_readPolynomial_5 : DC mX9_readPolynomial 5 (.getfield 31) 3 8 := ⟨by decide +kernel, rfl⟩
theorem d_X9_readPolynomial_8 : DC mX9_readPolynomial 8 (.lconst 0) 1 9 := ⟨by decide +kernel, rfl⟩
theorem d_X9_readPolynomial_9 : DC mX9_readPolynomial 9 (.invokevirtual 58) 3 12 := ⟨by decide +kernel, rfl⟩
theorem d_X9_readPolynomial_12 : DC mX9_readPolynomial 12 (.iconst 0) 1 13 := ⟨by decide +kernel, rfl⟩
theorem d_X9_readPolynomial_13 : DC mX9_readPolynomial 13 (.istore_n 3) 1 14 := ⟨by decide +kernel, rfl⟩
theorem d_X9_readPolynomial_14 : DC mX9_readPolynomial 14 (.iconst 1) 1 15 := ⟨by decide +kernel, rfl⟩
theorem d_X9_readPolynomial_15 : DC mX9_readPolynomial 15 (.istore 4) 2 17 := ⟨by decide +kernel, rfl⟩
theorem d_X9_readPolynomial_17 : DC mX9_readPolynomial 17 (.iconst (-1)) 1 18 := ⟨by decide +kernel, rfl⟩
theorem d_X9_readPolynomial_18 : DC mX9_readPolynomial 18 (.istore 5) 2 20 := ⟨by decide +kernel, rfl⟩
theorem d_X9_readPolynomial_20 : DC mX9_readPolynomial 20 (.iconst 0) 1 21 := ⟨by decide +kernel, rfl⟩
theorem d_X9_readPolynomial_21 : DC mX9_readPolynomial 21 (.istore 6) 2 23 := ⟨by decide +kernel, rfl⟩
theorem d_X9_readPolynomial_23 : DC mX9_readPolynomial 23 (.iload 6) 2 25 := ⟨by decide +kernel, rfl⟩
theorem d_X9_readPolynomial_25 : DC mX9_readPolynomial 25 (.iload_n 1) 1 26 := ⟨by decide +kernel, rfl⟩
theorem d_X9_readPolynomial_26 : DC mX9_readPolynomial 26 (.if_icmp .ge 166) 3 29 := ⟨by decide +kernel, rfl⟩
theorem d_X9_readPolynomial_29 : DC mX9_readPolynomial 29 (.iload_n 3) 1 30 := ⟨by decide +kernel, rfl⟩
theorem d_X9_readPolynomial_30 : DC mX9_readPolynomial 30 (.ifCond .ne 162) 3 33 := ⟨by decide +kernel, rfl⟩
theorem d_X9_readPolynomial_33 : DC mX9_readPolynomial 33 (.aload_n 0) 1 34 := ⟨by decide +kernel, rfl⟩
theorem d_X9_readPolynomial_34 : DC mX9_readPolynomial 34 (.getfield 9) 3 37 := ⟨by decide +kernel, rfl⟩
theorem d_X9_readPolynomial_37 : DC mX9_readPolynomial 37 (.iload 6) 2 39 := ⟨by decide +kernel, rfl⟩
theorem d_X9_readPolynomial_39 : DC mX9_readPolynomial 39 (.iaload) 1 40 := ⟨by decide +kernel, rfl⟩
theorem d_X9_readPolynomial_40 : DC mX9_readPolynomial 40 (.istore 7) 2 42 := ⟨by decide +kernel, rfl⟩
theorem d_X9_readPolynomial_42 : DC mX9_readPolynomial 42 (.iload 7) 2 44 := ⟨by decide +kernel, rfl⟩
theorem d_X9_readPolynomial_44 : DC mX9_readPolynomial 44 (.invokestatic 47) 3 47 := ⟨by decide +kernel, rfl⟩
theorem d_X9_readPolynomial_47 : DC mX9_readPolynomial 47 (.ifCond .eq 50) 3 50 := ⟨by decide +kernel, rfl⟩
theorem d_X9_readPolynomial_50 : DC mX9_readPolynomial 50 (.iload 6) 2 52 := ⟨by decide +kernel, rfl⟩
theorem d_X9_readPolynomial_52 : DC mX9_readPolynomial 52 (.ifCond .ne 7) 3 55 := ⟨by decide +kernel, rfl⟩
theorem d_X9_readPolynomial_55 : DC mX9_readPolynomial 55 (.iconst 0) 1 56 := ⟨by decide +kernel, rfl⟩
theorem d_X9_readPolynomial_56 : DC mX9_readPolynomial 56 (.goto 12) 3 59 := ⟨by decide +kernel, rfl⟩
theorem d_X9_readPolynomial_59 : DC mX9_readPolynomial 59 (.aload_n 0) 1 60 := ⟨by decide +kernel, rfl⟩
theorem d_X9_readPolynomial_60 : DC mX9_readPolynomial 60 (.aload_n 2) 1 61 := ⟨by decide +kernel, rfl⟩
theorem d_X9_readPolynomial_61 : DC mX9_readPolynomial 61 (.iload 4) 2 63 := ⟨by decide +kernel, rfl⟩
theorem d_X9_readPolynomial_63 : DC mX9_readPolynomial 63 (.iload 5) 2 65 := ⟨by decide +kernel, rfl⟩
theorem d_X9_readPolynomial_65 : DC mX9_readPolynomial 65 (.invokevirtual 62) 3 68 := ⟨by decide +kernel, rfl⟩
theorem d_X9_readPolynomial_68 : DC mX9_readPolynomial 68 (.istore_n 3) 1 69 := ⟨by decide +kernel, rfl⟩
theorem d_X9_readPolynomial_69 : DC mX9_readPolynomial 69 (.aload_n 0) 1 70 := ⟨by decide +kernel, rfl⟩
theorem d_X9_readPolynomial_70 : DC mX9_readPolynomial 70 (.getfield 31) 3 73 := ⟨by decide +kernel, rfl⟩
theorem d_X9_readPolynomial_73 : DC mX9_readPolynomial 73 (.lconst 0) 1 74 := ⟨by decide +kernel, rfl⟩
theorem d_X9_readPolynomial_74 : DC mX9_readPolynomial 74 (.invokevirtual 58) 3 77 := ⟨by decide +kernel, rfl⟩
theorem d_X9_readPolynomial_77 : DC mX9_readPolynomial 77 (.iload 7) 2 79 := ⟨by decide +kernel, rfl⟩
theorem d_X9_readPolynomial_79 : DC mX9_readPolynomial 79 (.bipush 45) 2 81 := ⟨by decide +kernel, rfl⟩
theorem d_X9_readPolynomial_81 : DC mX9_readPolynomial 81 (.if_icmp .ne 7) 3 84 := ⟨by decide +kernel, rfl⟩
theorem d_X9_readPolynomial_84 : DC mX9_readPolynomial 84 (.iconst (-1)) 1 85 := ⟨by decide +kernel, rfl⟩
theorem d_X9_readPolynomial_85 : DC mX9_readPolynomial 85 (.goto 4) 3 88 := ⟨by decide +kernel, rfl⟩
theorem d_X9_readPolynomial_88 : DC mX9_readPolynomial 88 (.iconst 1) 1 89 := ⟨by decide +kernel, rfl⟩
theorem d_X9_readPolynomial_89 : DC mX9_readPolynomial 89 (.istore 4) 2 91 := ⟨by decide +kernel, rfl⟩
theorem d_X9_readPolynomial_91 : DC mX9_readPolynomial 91 (.iconst (-1)) 1 92 := ⟨by decide +kernel, rfl⟩
theorem d_X9_readPolynomial_92 : DC mX9_readPolynomial 92 (.istore 5) 2 94 := ⟨by decide +kernel, rfl⟩
theorem d_X9_readPolynomial_94 : DC mX9_readPolynomial 94 (.goto 92) 3 97 := ⟨by decide +kernel, rfl⟩
theorem d_X9_readPolynomial_97 : DC mX9_readPolynomial 97 (.iload 7) 2 99 := ⟨by decide +kernel, rfl⟩
theorem d_X9_readPolynomial_99 : DC mX9_readPolynomial 99 (.invokestatic 50) 3 102 := ⟨by decide +kernel, rfl⟩
theorem d_X9_readPolynomial_102 : DC mX9_readPolynomial 102 (.ifCond .eq 23) 3 105 := ⟨by decide +kernel, rfl⟩
theorem d_X9_readPolynomial_105 : DC mX9_readPolynomial 105 (.bipush 10) 2 107 := ⟨by decide +kernel, rfl⟩
theorem d_X9_readPolynomial_107 : DC mX9_readPolynomial 107 (.iload 5) 2 109 := ⟨by decide +kernel, rfl⟩
theorem d_X9_readPolynomial_109 : DC mX9_readPolynomial 109 (.iconst 0) 1 110 := ⟨by decide +kernel, rfl⟩
theorem d_X9_readPolynomial_110 : DC mX9_readPolynomial 110 (.invokestatic 66) 3 113 := ⟨by decide +kernel, rfl⟩
theorem d_X9_readPolynomial_113 : DC mX9_readPolynomial 113 (.imul) 1 114 := ⟨by decide +kernel, rfl⟩
theorem d_X9_readPolynomial_114 : DC mX9_readPolynomial 114 (.iload 7) 2 116 := ⟨by decide +kernel, rfl⟩
theorem d_X9_readPolynomial_116 : DC mX9_readPolynomial 116 (.iadd) 1 117 := ⟨by decide +kernel, rfl⟩
theorem d_X9_readPolynomial_117 : DC mX9_readPolynomial 117 (.bipush 48) 2 119 := ⟨by decide +kernel, rfl⟩
theorem d_X9_readPolynomial_119 : DC mX9_readPolynomial 119 (.isub) 1 120 := ⟨by decide +kernel, rfl⟩
theorem d_X9_readPolynomial_120 : DC mX9_readPolynomial 120 (.istore 5) 2 122 := ⟨by decide +kernel, rfl⟩
theorem d_X9_readPolynomial_122 : DC mX9_readPolynomial 122 (.goto 64) 3 125 := ⟨by decide +kernel, rfl⟩
theorem d_X9_readPolynomial_125 : DC mX9_readPolynomial 125 (.iload 7) 2 127 := ⟨by decide +kernel, rfl⟩
theorem d_X9_readPolynomial_127 : DC mX9_readPolynomial 127 (.bipush 91) 2 129 := ⟨by decide +kernel, rfl⟩
theorem d_X9_readPolynomial_129 : DC mX9_readPolynomial 129 (.if_icmp .ne 57) 3 132 := ⟨by decide +kernel, rfl⟩
theorem d_X9_readPolynomial_132 : DC mX9_readPolynomial 132 (.iload 6) 2 134 := ⟨by decide +kernel, rfl⟩
theorem d_X9_readPolynomial_134 : DC mX9_readPolynomial 134 (.iconst 3) 1 135 := ⟨by decide +kernel, rfl⟩
theorem d_X9_readPolynomial_135 : DC mX9_readPolynomial 135 (.iadd) 1 136 := ⟨by decide +kernel, rfl⟩
theorem d_X9_readPolynomial_136 : DC mX9_readPolynomial 136 (.iload_n 1) 1 137 := ⟨by decide +kernel, rfl⟩
theorem d_X9_readPolynomial_137 : DC mX9_readPolynomial 137 (.if_icmp .ge 49) 3 140 := ⟨by decide +kernel, rfl⟩
theorem d_X9_readPolynomial_140 : DC mX9_readPolynomial 140 (.aload_n 0) 1 141 := ⟨by decide +kernel, rfl⟩
theorem d_X9_readPolynomial_141 : DC mX9_readPolynomial 141 (.getfield 31) 3 144 := ⟨by decide +kernel, rfl⟩
theorem d_X9_readPolynomial_144 : DC mX9_readPolynomial 144 (.aload_n 0) 1 145 := ⟨by decide +kernel, rfl⟩
theorem d_X9_readPolynomial_145 : DC mX9_readPolynomial 145 (.getfield 9) 3 148 := ⟨by decide +kernel, rfl⟩
theorem d_X9_readPolynomial_148 : DC mX9_readPolynomial 148 (.iload 6) 2 150 := ⟨by decide +kernel, rfl⟩
theorem d_X9_readPolynomial_150 : DC mX9_readPolynomial 150 (.iconst 1) 1 151 := ⟨by decide +kernel, rfl⟩
theorem d_X9_readPolynomial_151 : DC mX9_readPolynomial 151 (.iadd) 1 152 := ⟨by decide +kernel, rfl⟩
theorem d_X9_readPolynomial_152 : DC mX9_readPolynomial 152 (.iaload) 1 153 := ⟨by decide +kernel, rfl⟩
theorem d_X9_readPolynomial_153 : DC mX9_readPolynomial 153 (.bipush 97) 2 155 := ⟨by decide +kernel, rfl⟩
theorem d_X9_readPolynomial_155 : DC mX9_readPolynomial 155 (.isub) 1 156 := ⟨by decide +kernel, rfl⟩
theorem d_X9_readPolynomial_156 : DC mX9_readPolynomial 156 (.aload_n 0) 1 157 := ⟨by decide +kernel, rfl⟩
theorem d_X9_readPolynomial_157 : DC mX9_readPolynomial 157 (.getfield 9) 3 160 := ⟨by decide +kernel, rfl⟩
theorem d_X9_readPolynomial_160 : DC mX9_readPolynomial 160 (.iload 6) 2 162 := ⟨by decide +kernel, rfl⟩
theorem d_X9_readPolynomial_162 : DC mX9_readPolynomial 162 (.iconst 2) 1 163 := ⟨by decide +kernel, rfl⟩
theorem d_X9_readPolynomial_163 : DC mX9_readPolynomial 163 (.iadd) 1 164 := ⟨by decide +kernel, rfl⟩
theorem d_X9_readPolynomial_164 : DC mX9_readPolynomial 164 (.iaload) 1 165 := ⟨by decide +kernel, rfl⟩
theorem d_X9_readPolynomial_165 : DC mX9_readPolynomial 165 (.bipush 97) 2 167 := ⟨by decide +kernel, rfl⟩
theorem d_X9_readPolynomial_167 : DC mX9_readPolynomial 167 (.isub) 1 168 := ⟨by decide +kernel, rfl⟩
theorem d_X9_readPolynomial_168 : DC mX9_readPolynomial 168 (.aload_n 0) 1 169 := ⟨by decide +kernel, rfl⟩
theorem d_X9_readPolynomial_169 : DC mX9_readPolynomial 169 (.getfield 9) 3 172 := ⟨by decide +kernel, rfl⟩
theorem d_X9_readPolynomial_172 : DC mX9_readPolynomial 172 (.iload 6) 2 174 := ⟨by decide +kernel, rfl⟩
theorem d_X9_readPolynomial_174 : DC mX9_readPolynomial 174 (.iconst 3) 1 175 := ⟨by decide +kernel, rfl⟩
theorem d_X9_readPolynomial_175 : DC mX9_readPolynomial 175 (.iadd) 1 176 := ⟨by decide +kernel, rfl⟩
theorem d_X9_readPolynomial_176 : DC mX9_readPolynomial 176 (.iaload) 1 177 := ⟨by decide +kernel, rfl⟩
theorem d_X9_readPolynomial_177 : DC mX9_readPolynomial 177 (.bipush 97) 2 179 := ⟨by decide +kernel, rfl⟩
theorem d_X9_readPolynomial_179 : DC mX9_readPolynomial 179 (.isub) 1 180 := ⟨by decide +kernel, rfl⟩
theorem d_X9_readPolynomial_180 : DC mX9_readPolynomial 180 (.invokestatic 71) 3 183 := ⟨by decide +kernel, rfl⟩
theorem d_X9_readPolynomial_183 : DC mX9_readPolynomial 183 (.invokevirtual 77) 3 186 := ⟨by decide +kernel, rfl⟩
theorem d_X9_readPolynomial_186 : DC mX9_readPolynomial 186 (.iinc 6 1) 3 189 := ⟨by decide +kernel, rfl⟩
theorem d_X9_readPolynomial_189 : DC mX9_readPolynomial 189 (.goto (-166)) 3 192 := ⟨by decide +kernel, rfl⟩
theorem d_X9_readPolynomial_192 : DC mX9_readPolynomial 192 (.iload_n 3) 1 193 := ⟨by decide +kernel, rfl⟩
theorem d_X9_readPolynomial_193 : DC mX9_readPolynomial 193 (.ifCond .ne 19) 3 196 := ⟨by decide +kernel, rfl⟩
theorem d_X9_readPolynomial_196 : DC mX9_readPolynomial 196 (.iload_n 1) 1 197 := ⟨by decide +kernel, rfl⟩
theorem d_X9_readPolynomial_197 : DC mX9_readPolynomial 197 (.ifCond .le 15) 3 200 := ⟨by decide +kernel, rfl⟩
theorem d_X9_readPolynomial_200 : DC mX9_readPolynomial 200 (.aload_n 0) 1 201 := ⟨by decide +kernel, rfl⟩
theorem d_X9_readPolynomial_201 : DC mX9_readPolynomial 201 (.aload_n 2) 1 202 := ⟨by decide +kernel, rfl⟩
theorem d_X9_readPolynomial_202 : DC mX9_readPolynomial 202 (.iload 4) 2 204 := ⟨by decide +kernel, rfl⟩
theorem d_X9_readPolynomial_204 : DC mX9_readPolynomial 204 (.iload 5) 2 206 := ⟨by decide +kernel, rfl⟩
theorem d_X9_readPolynomial_206 : DC mX9_readPolynomial 206 (.invokevirtual 62) 3 209 := ⟨by decide +kernel, rfl⟩
theorem d_X9_readPolynomial_209 : DC mX9_readPolynomial 209 (.goto 4) 3 212 := ⟨by decide +kernel, rfl⟩
theorem d_X9_readPolynomial_212 : DC mX9_readPolynomial 212 (.iload_n 3) 1 213 := ⟨by decide +kernel, rfl⟩
theorem d_X9_readPolynomial_213 : DC mX9_readPolynomial 213 (.ireturn) 1 214 := ⟨by decide +kernel, rfl⟩
theorem d_X9_isPointDue_0 : DC mX9_isPointDue 0 (.iload_n 1) 1 1 := ⟨by decide +kernel, rfl⟩
theorem d_X9_isPointDue_1 : DC mX9_isPointDue 1 (.ifCond .ne 19) 3 4 := ⟨by decide +kernel, rfl⟩
theorem d_X9_isPointDue_4 : DC mX9_isPointDue 4 (.aload_n 0) 1 5 := ⟨by decide +kernel, rfl⟩
theorem d_X9_isPointDue_5 : DC mX9_isPointDue 5 (.getfield 25) 3 8 := ⟨by decide +kernel, rfl⟩
theorem d_X9_isPointDue_8 : DC mX9_isPointDue 8 (.iconst 0) 1 9 := ⟨by decide +kernel, rfl⟩
theorem d_X9_isPointDue_9 : DC mX9_isPointDue 9 (.iaload) 1 10 := ⟨by decide +kernel, rfl⟩
theorem d_X9_isPointDue_10 : DC mX9_isPointDue 10 (.iconst 3) 1 11 := ⟨by decide +kernel, rfl⟩
theorem d_X9_isPointDue_11 : DC mX9_isPointDue 11 (.if_icmp .ge 7) 3 14 := ⟨by decide +kernel, rfl⟩
theorem d_X9_isPointDue_14 : DC mX9_isPointDue 14 (.iconst 1) 1 15 := ⟨by decide +kernel, rfl⟩
theorem d_X9_isPointDue_15 : DC mX9_isPointDue 15 (.goto 4) 3 18 := ⟨by decide +kernel, rfl⟩
theorem d_X9_isPointDue_18 : DC mX9_isPointDue 18 (.iconst 0) 1 19 := ⟨by decide +kernel, rfl⟩
theorem d_X9_isPointDue_19 : DC mX9_isPointDue 19 (.ireturn) 1 20 := ⟨by decide +kernel, rfl⟩
theorem d_X9_isPointDue_20 : DC mX9_isPointDue 20 (.aload_n 0) 1 21 := ⟨by decide +kernel, rfl⟩
theorem d_X9_isPointDue_21 : DC mX9_isPointDue 21 (.getfield 25) 3 24 := ⟨by decide +kernel, rfl⟩
theorem d_X9_isPointDue_24 : DC mX9_isPointDue 24 (.iload_n 1) 1 25 := ⟨by decide +kernel, rfl⟩
theorem d_X9_isPointDue_25 : DC mX9_isPointDue 25 (.iaload) 1 26 := ⟨by decide +kernel, rfl⟩
theorem d_X9_isPointDue_26 : DC mX9_isPointDue 26 (.iconst 2) 1 27 := ⟨by decide +kernel, rfl⟩
theorem d_X9_isPointDue_27 : DC mX9_isPointDue 27 (.if_icmp .eq 17) 3 30 := ⟨by decide +kernel, rfl⟩
theorem d_X9_isPointDue_30 : DC mX9_isPointDue 30 (.aload_n 0) 1 31 := ⟨by decide +kernel, rfl⟩
theorem d_X9_isPointDue_31 : DC mX9_isPointDue 31 (.getfield 25) 3 34 := ⟨by decide +kernel, rfl⟩
theorem d_X9_isPointDue_34 : DC mX9_isPointDue 34 (.iload_n 1) 1 35 := ⟨by decide +kernel, rfl⟩
theorem d_X9_isPointDue_35 : DC mX9_isPointDue 35 (.iaload) 1 36 := ⟨by decide +kernel, rfl⟩
theorem d_X9_isPointDue_36 : DC mX9_isPointDue 36 (.iconst 5) 1 37 := ⟨by decide +kernel, rfl⟩
theorem d_X9_isPointDue_37 : DC mX9_isPointDue 37 (.if_icmp .ge 7) 3 40 := ⟨by decide +kernel, rfl⟩
theorem d_X9_isPointDue_40 : DC mX9_isPointDue 40 (.iconst 1) 1 41 := ⟨by decide +kernel, rfl⟩
theorem d_X9_isPointDue_41 : DC mX9_isPointDue 41 (.goto 4) 3 44 := ⟨by decide +kernel, rfl⟩
theorem d_X9_isPointDue_44 : DC mX9_isPointDue 44 (.iconst 0) 1 45 := ⟨by decide +kernel, rfl⟩
theorem d_X9_isPointDue_45 : DC mX9_isPointDue 45 (.ireturn) 1 46 := ⟨by decide +kernel, rfl⟩
theorem d_X9_tellsFigure_0 : DC mX9_tellsFigure 0 (.iconst 0) 1 1 := ⟨by decide +kernel, rfl⟩
theorem d_X9_tellsFigure_1 : DC mX9_tellsFigure 1 (.istore_n 2) 1 2 := ⟨by decide +kernel, rfl⟩
theorem d_X9_tellsFigure_2 : DC mX9_tellsFigure 2 (.aload_n 0) 1 3 := ⟨by decide +kernel, rfl⟩
theorem d_X9_tellsFigure_3 : DC mX9_tellsFigure 3 (.getfield 25) 3 6 := ⟨by decide +kernel, rfl⟩
theorem d_X9_tellsFigure_6 : DC mX9_tellsFigure 6 (.iconst 0) 1 7 := ⟨by decide +kernel, rfl⟩
theorem d_X9_tellsFigure_7 : DC mX9_tellsFigure 7 (.iconst 0) 1 8 := ⟨by decide +kernel, rfl⟩
theorem d_X9_tellsFigure_8 : DC mX9_tellsFigure 8 (.iastore) 1 9 := ⟨by decide +kernel, rfl⟩
theorem d_X9_tellsFigure_9 : DC mX9_tellsFigure 9 (.iconst 0) 1 10 := ⟨by decide +kernel, rfl⟩
theorem d_X9_tellsFigure_10 : DC mX9_tellsFigure 10 (.istore_n 3) 1 11 := ⟨by decide +kernel, rfl⟩
theorem d_X9_tellsFigure_11 : DC mX9_tellsFigure 11 (.iload_n 3) 1 12 := ⟨by decide +kernel, rfl⟩
theorem d_X9_tellsFigure_12 : DC mX9_tellsFigure 12 (.iload_n 1) 1 13 := ⟨by decide +kernel, rfl⟩
theorem d_X9_tellsFigure_13 : DC mX9_tellsFigure 13 (.if_icmp .ge 167) 3 16 := ⟨by decide +kernel, rfl⟩
theorem d_X9_tellsFigure_16 : DC mX9_tellsFigure 16 (.aload_n 0) 1 17 := ⟨by decide +kernel, rfl⟩
theorem d_X9_tellsFigure_17 : DC mX9_tellsFigure 17 (.getfield 9) 3 20 := ⟨by decide +kernel, rfl⟩
theorem d_X9_tellsFigure_20 : DC mX9_tellsFigure 20 (.iload_n 3) 1 21 := ⟨by decide +kernel, rfl⟩
theorem d_X9_tellsFigure_21 : DC mX9_tellsFigure 21 (.iaload) 1 22 := ⟨by decide +kernel, rfl⟩
theorem d_X9_tellsFigure_22 : DC mX9_tellsFigure 22 (.istore 4) 2 24 := ⟨by decide +kernel, rfl⟩
theorem d_X9_tellsFigure_24 : DC mX9_tellsFigure 24 (.aload_n 0) 1 25 := ⟨by decide +kernel, rfl⟩
theorem d_X9_tellsFigure_25 : DC mX9_tellsFigure 25 (.iload_n 2) 1 26 := ⟨by decide +kernel, rfl⟩
theorem d_X9_tellsFigure_26 : DC mX9_tellsFigure 26 (.invokevirtual 92) 3 29 := ⟨by decide +kernel, rfl⟩
theorem d_X9_tellsFigure_29 : DC mX9_tellsFigure 29 (.istore 5) 2 31 := ⟨by decide +kernel, rfl⟩
theorem d_X9_tellsFigure_31 : DC mX9_tellsFigure 31 (.iload 5) 2 33 := ⟨by decide +kernel, rfl⟩
theorem d_X9_tellsFigure_33 : DC mX9_tellsFigure 33 (.ifCond .eq 22) 3 36 := ⟨by decide +kernel, rfl⟩
theorem d_X9_tellsFigure_36 : DC mX9_tellsFigure 36 (.iload 4) 2 38 := ⟨by decide +kernel, rfl⟩
theorem d_X9_tellsFigure_38 : DC mX9_tellsFigure 38 (.bipush 40) 2 40 := ⟨by decide +kernel, rfl⟩
theorem d_X9_tellsFigure_40 : DC mX9_tellsFigure 40 (.if_icmp .ne 15) 3 43 := ⟨by decide +kernel, rfl⟩
theorem d_X9_tellsFigure_43 : DC mX9_tellsFigure 43 (.iload_n 2) 1 44 := ⟨by decide +kernel, rfl⟩
theorem d_X9_tellsFigure_44 : DC mX9_tellsFigure 44 (.iconst 2) 1 45 := ⟨by decide +kernel, rfl⟩
theorem d_X9_tellsFigure_45 : DC mX9_tellsFigure 45 (.if_icmp .lt 10) 3 48 := ⟨by decide +kernel, rfl⟩
theorem d_X9_tellsFigure_48 : DC mX9_tellsFigure 48 (.aload_n 0) 1 49 := ⟨by decide +kernel, rfl⟩
theorem d_X9_tellsFigure_49 : DC mX9_tellsFigure 49 (.iconst 4) 1 50 := ⟨by decide +kernel, rfl⟩
theorem d_X9_tellsFigure_50 : DC mX9_tellsFigure 50 (.iload_n 3) 1 51 := ⟨by decide +kernel, rfl⟩
theorem d_X9_tellsFigure_51 : DC mX9_tellsFigure 51 (.invokevirtual 39) 3 54 := ⟨by decide +kernel, rfl⟩
theorem d_X9_tellsFigure_54 : DC mX9_tellsFigure 54 (.ireturn) 1 55 := ⟨by decide +kernel, rfl⟩
theorem d_X9_tellsFigure_55 : DC mX9_tellsFigure 55 (.iload 5) 2 57 := ⟨by decide +kernel, rfl⟩
theorem d_X9_tellsFigure_57 : DC mX9_tellsFigure 57 (.ifCond .eq 23) 3 60 := ⟨by decide +kernel, rfl⟩
theorem d_X9_tellsFigure_60 : DC mX9_tellsFigure 60 (.iload 4) 2 62 := ⟨by decide +kernel, rfl⟩
theorem d_X9_tellsFigure_62 : DC mX9_tellsFigure 62 (.bipush 40) 2 64 := ⟨by decide +kernel, rfl⟩
theorem d_X9_tellsFigure_64 : DC mX9_tellsFigure 64 (.if_icmp .ne 16) 3 67 := ⟨by decide +kernel, rfl⟩
theorem d_X9_tellsFigure_67 : DC mX9_tellsFigure 67 (.iinc 2 1) 3 70 := ⟨by decide +kernel, rfl⟩
theorem d_X9_tellsFigure_70 : DC mX9_tellsFigure 70 (.aload_n 0) 1 71 := ⟨by decide +kernel, rfl⟩
theorem d_X9_tellsFigure_71 : DC mX9_tellsFigure 71 (.getfield 25) 3 74 := ⟨by decide +kernel, rfl⟩
theorem d_X9_tellsFigure_74 : DC mX9_tellsFigure 74 (.iload_n 2) 1 75 := ⟨by decide +kernel, rfl⟩
theorem d_X9_tellsFigure_75 : DC mX9_tellsFigure 75 (.iconst 0) 1 76 := ⟨by decide +kernel, rfl⟩
theorem d_X9_tellsFigure_76 : DC mX9_tellsFigure 76 (.iastore) 1 77 := ⟨by decide +kernel, rfl⟩
theorem d_X9_tellsFigure_77 : DC mX9_tellsFigure 77 (.goto 97) 3 80 := ⟨by decide +kernel, rfl⟩
theorem d_X9_tellsFigure_80 : DC mX9_tellsFigure 80 (.iload 5) 2 82 := ⟨by decide +kernel, rfl⟩
theorem d_X9_tellsFigure_82 : DC mX9_tellsFigure 82 (.ifCond .eq 14) 3 85 := ⟨by decide +kernel, rfl⟩
theorem d_X9_tellsFigure_85 : DC mX9_tellsFigure 85 (.iload 4) 2 87 := ⟨by decide +kernel, rfl⟩
theorem d_X9_tellsFigure_87 : DC mX9_tellsFigure 87 (.invokestatic 43) 3 90 := ⟨by decide +kernel, rfl⟩
theorem d_X9_tellsFigure_90 : DC mX9_tellsFigure 90 (.ifCond .eq 40) 3 93 := ⟨by decide +kernel, rfl⟩
theorem d_X9_tellsFigure_93 : DC mX9_tellsFigure 93 (.goto 24) 3 96 := ⟨by decide +kernel, rfl⟩
theorem d_X9_tellsFigure_96 : DC mX9_tellsFigure 96 (.iload_n 2) 1 97 := ⟨by decide +kernel, rfl⟩
theorem d_X9_tellsFigure_97 : DC mX9_tellsFigure 97 (.ifCond .le 33) 3 100 := ⟨by decide +kernel, rfl⟩
theorem d_X9_tellsFigure_100 : DC mX9_tellsFigure 100 (.aload_n 0) 1 101 := ⟨by decide +kernel, rfl⟩
theorem d_X9_tellsFigure_101 : DC mX9_tellsFigure 101 (.getfield 25) 3 104 := ⟨by decide +kernel, rfl⟩
theorem d_X9_tellsFigure_104 : DC mX9_tellsFigure 104 (.iload_n 2) 1 105 := ⟨by decide +kernel, rfl⟩
theorem d_X9_tellsFigure_105 : DC mX9_tellsFigure 105 (.iaload) 1 106 := ⟨by decide +kernel, rfl⟩
theorem d_X9_tellsFigure_106 : DC mX9_tellsFigure 106 (.iconst 2) 1 107 := ⟨by decide +kernel, rfl⟩
theorem d_X9_tellsFigure_107 : DC mX9_tellsFigure 107 (.if_icmp .ne 23) 3 110 := ⟨by decide +kernel, rfl⟩
theorem d_X9_tellsFigure_110 : DC mX9_tellsFigure 110 (.iload 4) 2 112 := ⟨by decide +kernel, rfl⟩
theorem d_X9_tellsFigure_112 : DC mX9_tellsFigure 112 (.bipush 94) 2 114 := ⟨by decide +kernel, rfl⟩
theorem d_X9_tellsFigure_114 : DC mX9_tellsFigure 114 (.if_icmp .ne 16) 3 117 := ⟨by decide +kernel, rfl⟩
theorem d_X9_tellsFigure_117 : DC mX9_tellsFigure 117 (.aload_n 0) 1 118 := ⟨by decide +kernel, rfl⟩
theorem d_X9_tellsFigure_118 : DC mX9_tellsFigure 118 (.getfield 25) 3 121 := ⟨by decide +kernel, rfl⟩
theorem d_X9_tellsFigure_121 : DC mX9_tellsFigure 121 (.iload_n 2) 1 122 := ⟨by decide +kernel, rfl⟩
theorem d_X9_tellsFigure_122 : DC mX9_tellsFigure 122 (.dup2) 1 123 := ⟨by decide +kernel, rfl⟩
theorem d_X9_tellsFigure_123 : DC mX9_tellsFigure 123 (.iaload) 1 124 := ⟨by decide +kernel, rfl⟩
theorem d_X9_tellsFigure_124 : DC mX9_tellsFigure 124 (.iconst 1) 1 125 := ⟨by decide +kernel, rfl⟩
theorem d_X9_tellsFigure_125 : DC mX9_tellsFigure 125 (.iadd) 1 126 := ⟨by decide +kernel, rfl⟩
theorem d_X9_tellsFigure_126 : DC mX9_tellsFigure 126 (.iastore) 1 127 := ⟨by decide +kernel, rfl⟩
theorem d_X9_tellsFigure_127 : DC mX9_tellsFigure 127 (.goto 47) 3 130 := ⟨by decide +kernel, rfl⟩
theorem d_X9_tellsFigure_130 : DC mX9_tellsFigure 130 (.iload_n 2) 1 131 := ⟨by decide +kernel, rfl⟩
theorem d_X9_tellsFigure_131 : DC mX9_tellsFigure 131 (.ifCond .le 36) 3 134 := ⟨by decide +kernel, rfl⟩
theorem d_X9_tellsFigure_134 : DC mX9_tellsFigure 134 (.aload_n 0) 1 135 := ⟨by decide +kernel, rfl⟩
theorem d_X9_tellsFigure_135 : DC mX9_tellsFigure 135 (.getfield 25) 3 138 := ⟨by decide +kernel, rfl⟩
theorem d_X9_tellsFigure_138 : DC mX9_tellsFigure 138 (.iload_n 2) 1 139 := ⟨by decide +kernel, rfl⟩
theorem d_X9_tellsFigure_139 : DC mX9_tellsFigure 139 (.iaload) 1 140 := ⟨by decide +kernel, rfl⟩
theorem d_X9_tellsFigure_140 : DC mX9_tellsFigure 140 (.iconst 5) 1 141 := ⟨by decide +kernel, rfl⟩
theorem d_X9_tellsFigure_141 : DC mX9_tellsFigure 141 (.if_icmp .ne 26) 3 144 := ⟨by decide +kernel, rfl⟩
theorem d_X9_tellsFigure_144 : DC mX9_tellsFigure 144 (.iload 4) 2 146 := ⟨by decide +kernel, rfl⟩
theorem d_X9_tellsFigure_146 : DC mX9_tellsFigure 146 (.bipush 41) 2 148 := ⟨by decide +kernel, rfl⟩
theorem d_X9_tellsFigure_148 : DC mX9_tellsFigure 148 (.if_icmp .ne 19) 3 151 := ⟨by decide +kernel, rfl⟩
theorem d_X9_tellsFigure_151 : DC mX9_tellsFigure 151 (.iinc 2 (-1)) 3 154 := ⟨by decide +kernel, rfl⟩
theorem d_X9_tellsFigure_154 : DC mX9_tellsFigure 154 (.aload_n 0) 1 155 := ⟨by decide +kernel, rfl⟩
theorem d_X9_tellsFigure_155 : DC mX9_tellsFigure 155 (.getfield 25) 3 158 := ⟨by decide +kernel, rfl⟩
theorem d_X9_tellsFigure_158 : DC mX9_tellsFigure 158 (.iload_n 2) 1 159 := ⟨by decide +kernel, rfl⟩
theorem d_X9_tellsFigure_159 : DC mX9_tellsFigure 159 (.dup2) 1 160 := ⟨by decide +kernel, rfl⟩
theorem d_X9_tellsFigure_160 : DC mX9_tellsFigure 160 (.iaload) 1 161 := ⟨by decide +kernel, rfl⟩
theorem d_X9_tellsFigure_161 : DC mX9_tellsFigure 161 (.iconst 1) 1 162 := ⟨by decide +kernel, rfl⟩
theorem d_X9_tellsFigure_162 : DC mX9_tellsFigure 162 (.iadd) 1 163 := ⟨by decide +kernel, rfl⟩
theorem d_X9_tellsFigure_163 : DC mX9_tellsFigure 163 (.iastore) 1 164 := ⟨by decide +kernel, rfl⟩
theorem d_X9_tellsFigure_164 : DC mX9_tellsFigure 164 (.goto 10) 3 167 := ⟨by decide +kernel, rfl⟩
theorem d_X9_tellsFigure_167 : DC mX9_tellsFigure 167 (.aload_n 0) 1 168 := ⟨by decide +kernel, rfl⟩
theorem d_X9_tellsFigure_168 : DC mX9_tellsFigure 168 (.iconst 1) 1 169 := ⟨by decide +kernel, rfl⟩
theorem d_X9_tellsFigure_169 : DC mX9_tellsFigure 169 (.iload_n 3) 1 170 := ⟨by decide +kernel, rfl⟩
theorem d_X9_tellsFigure_170 : DC mX9_tellsFigure 170 (.invokevirtual 39) 3 173 := ⟨by decide +kernel, rfl⟩
theorem d_X9_tellsFigure_173 : DC mX9_tellsFigure 173 (.ireturn) 1 174 := ⟨by decide +kernel, rfl⟩
theorem d_X9_tellsFigure_174 : DC mX9_tellsFigure 174 (.iinc 3 1) 3 177 := ⟨by decide +kernel, rfl⟩
theorem d_X9_tellsFigure_177 : DC mX9_tellsFigure 177 (.goto (-166)) 3 180 := ⟨by decide +kernel, rfl⟩
theorem d_X9_tellsFigure_180 : DC mX9_tellsFigure 180 (.iload_n 2) 1 181 := ⟨by decide +kernel, rfl⟩
theorem d_X9_tellsFigure_181 : DC mX9_tellsFigure 181 (.ifCond .ne 17) 3 184 := ⟨by decide +kernel, rfl⟩
theorem d_X9_tellsFigure_184 : DC mX9_tellsFigure 184 (.aload_n 0) 1 185 := ⟨by decide +kernel, rfl⟩
theorem d_X9_tellsFigure_185 : DC mX9_tellsFigure 185 (.getfield 25) 3 188 := ⟨by decide +kernel, rfl⟩
theorem d_X9_tellsFigure_188 : DC mX9_tellsFigure 188 (.iconst 0) 1 189 := ⟨by decide +kernel, rfl⟩
theorem d_X9_tellsFigure_189 : DC mX9_tellsFigure 189 (.iaload) 1 190 := ⟨by decide +kernel, rfl⟩
theorem d_X9_tellsFigure_190 : DC mX9_tellsFigure 190 (.iconst 3) 1 191 := ⟨by decide +kernel, rfl⟩
theorem d_X9_tellsFigure_191 : DC mX9_tellsFigure 191 (.if_icmp .ne 7) 3 194 := ⟨by decide +kernel, rfl⟩
theorem d_X9_tellsFigure_194 : DC mX9_tellsFigure 194 (.iconst 1) 1 195 := ⟨by decide +kernel, rfl⟩
theorem d_X9_tellsFigure_195 : DC mX9_tellsFigure 195 (.goto 4) 3 198 := ⟨by decide +kernel, rfl⟩
theorem d_X9_tellsFigure_198 : DC mX9_tellsFigure 198 (.iconst 0) 1 199 := ⟨by decide +kernel, rfl⟩
theorem d_X9_tellsFigure_199 : DC mX9_tellsFigure 199 (.istore_n 3) 1 200 := ⟨by decide +kernel, rfl⟩
theorem d_X9_tellsFigure_200 : DC mX9_tellsFigure 200 (.iload_n 3) 1 201 := ⟨by decide +kernel, rfl⟩
theorem d_X9_tellsFigure_201 : DC mX9_tellsFigure 201 (.ifCond .eq 12) 3 204 := ⟨by decide +kernel, rfl⟩
theorem d_X9_tellsFigure_204 : DC mX9_tellsFigure 204 (.aload_n 0) 1 205 := ⟨by decide +kernel, rfl⟩
theorem d_X9_tellsFigure_205 : DC mX9_tellsFigure 205 (.iconst 0) 1 206 := ⟨by decide +kernel, rfl⟩
theorem d_X9_tellsFigure_206 : DC mX9_tellsFigure 206 (.iconst (-1)) 1 207 := ⟨by decide +kernel, rfl⟩
theorem d_X9_tellsFigure_207 : DC mX9_tellsFigure 207 (.invokevirtual 39) 3 210 := ⟨by decide +kernel, rfl⟩
theorem d_X9_tellsFigure_210 : DC mX9_tellsFigure 210 (.goto 9) 3 213 := ⟨by decide +kernel, rfl⟩
theorem d_X9_tellsFigure_213 : DC mX9_tellsFigure 213 (.aload_n 0) 1 214 := ⟨by decide +kernel, rfl⟩
theorem d_X9_tellsFigure_214 : DC mX9_tellsFigure 214 (.iconst 1) 1 215 := ⟨by decide +kernel, rfl⟩
theorem d_X9_tellsFigure_215 : DC mX9_tellsFigure 215 (.iload_n 1) 1 216 := ⟨by decide +kernel, rfl⟩
theorem d_X9_tellsFigure_216 : DC mX9_tellsFigure 216 (.invokevirtual 39) 3 219 := ⟨by decide +kernel, rfl⟩
theorem d_X9_tellsFigure_219 : DC mX9_tellsFigure 219 (.ireturn) 1 220 := ⟨by decide +kernel, rfl⟩
theorem d_X10_renamed_0 : DC mX10_renamed 0 (.iload_n 0) 1 1 := ⟨by decide +kernel, rfl⟩
theorem d_X10_renamed_1 : DC mX10_renamed 1 (.iload_n 1) 1 2 := ⟨by decide +kernel, rfl⟩
theorem d_X10_renamed_2 : DC mX10_renamed 2 (.if_icmp .ne 5) 3 5 := ⟨by decide +kernel, rfl⟩
theorem d_X10_renamed_5 : DC mX10_renamed 5 (.iload_n 2) 1 6 := ⟨by decide +kernel, rfl⟩
theorem d_X10_renamed_6 : DC mX10_renamed 6 (.ireturn) 1 7 := ⟨by decide +kernel, rfl⟩
theorem d_X10_renamed_7 : DC mX10_renamed 7 (.iload_n 3) 1 8 := ⟨by decide +kernel, rfl⟩
theorem d_X10_renamed_8 : DC mX10_renamed 8 (.ifCond .eq 12) 3 11 := ⟨by decide +kernel, rfl⟩
theorem d_X10_renamed_11 : DC mX10_renamed 11 (.iload_n 0) 1 12 := ⟨by decide +kernel, rfl⟩
theorem d_X10_renamed_12 : DC mX10_renamed 12 (.iload_n 2) 1 13 := ⟨by decide +kernel, rfl⟩
theorem d_X10_renamed_13 : DC mX10_renamed 13 (.if_icmp .ne 7) 3 16 := ⟨by decide +kernel, rfl⟩
theorem d_X10_renamed_16 : DC mX10_renamed 16 (.iload_n 1) 1 17 := ⟨by decide +kernel, rfl⟩
theorem d_X10_renamed_17 : DC mX10_renamed 17 (.goto 4) 3 20 := ⟨by decide +kernel, rfl⟩
theorem d_X10_renamed_20 : DC mX10_renamed 20 (.iload_n 0) 1 21 := ⟨by decide +kernel, rfl⟩
theorem d_X10_renamed_21 : DC mX10_renamed 21 (.ireturn) 1 22 := ⟨by decide +kernel, rfl⟩
theorem d_X10_rename_0 : DC mX10_rename 0 (.aload_n 0) 1 1 := ⟨by decide +kernel, rfl⟩
theorem d_X10_rename_1 : DC mX10_rename 1 (.lconst 0) 1 2 := ⟨by decide +kernel, rfl⟩
theorem d_X10_rename_2 : DC mX10_rename 2 (.invokevirtual 32) 3 5 := ⟨by decide +kernel, rfl⟩
theorem d_X10_rename_5 : DC mX10_rename 5 (.lload_n 1) 1 6 := ⟨by decide +kernel, rfl⟩
theorem d_X10_rename_6 : DC mX10_rename 6 (.invokestatic 36) 3 9 := ⟨by decide +kernel, rfl⟩
theorem d_X10_rename_9 : DC mX10_rename 9 (.istore 6) 2 11 := ⟨by decide +kernel, rfl⟩
theorem d_X10_rename_11 : DC mX10_rename 11 (.iconst 0) 1 12 := ⟨by decide +kernel, rfl⟩
theorem d_X10_rename_12 : DC mX10_rename 12 (.istore 7) 2 14 := ⟨by decide +kernel, rfl⟩
theorem d_X10_rename_14 : DC mX10_rename 14 (.iload 7) 2 16 := ⟨by decide +kernel, rfl⟩
theorem d_X10_rename_16 : DC mX10_rename 16 (.iload 6) 2 18 := ⟨by decide +kernel, rfl⟩
theorem d_X10_rename_18 : DC mX10_rename 18 (.if_icmp .ge 63) 3 21 := ⟨by decide +kernel, rfl⟩
theorem d_X10_rename_21 : DC mX10_rename 21 (.iconst 0) 1 22 := ⟨by decide +kernel, rfl⟩
theorem d_X10_rename_22 : DC mX10_rename 22 (.istore 8) 2 24 := ⟨by decide +kernel, rfl⟩
theorem d_X10_rename_24 : DC mX10_rename 24 (.iconst 0) 1 25 := ⟨by decide +kernel, rfl⟩
theorem d_X10_rename_25 : DC mX10_rename 25 (.istore 9) 2 27 := ⟨by decide +kernel, rfl⟩
theorem d_X10_rename_27 : DC mX10_rename 27 (.iload 9) 2 29 := ⟨by decide +kernel, rfl⟩
theorem d_X10_rename_29 : DC mX10_rename 29 (.iconst 3) 1 30 := ⟨by decide +kernel, rfl⟩
theorem d_X10_rename_30 : DC mX10_rename 30 (.if_icmp .ge 39) 3 33 := ⟨by decide +kernel, rfl⟩
theorem d_X10_rename_33 : DC mX10_rename 33 (.lload_n 1) 1 34 := ⟨by decide +kernel, rfl⟩
theorem d_X10_rename_34 : DC mX10_rename 34 (.iload 7) 2 36 := ⟨by decide +kernel, rfl⟩
theorem d_X10_rename_36 : DC mX10_rename 36 (.invokestatic 40) 3 39 := ⟨by decide +kernel, rfl⟩
theorem d_X10_rename_39 : DC mX10_rename 39 (.iload 9) 2 41 := ⟨by decide +kernel, rfl⟩
theorem d_X10_rename_41 : DC mX10_rename 41 (.invokestatic 44) 3 44 := ⟨by decide +kernel, rfl⟩
theorem d_X10_rename_44 : DC mX10_rename 44 (.istore 10) 2 46 := ⟨by decide +kernel, rfl⟩
theorem d_X10_rename_46 : DC mX10_rename 46 (.iload 8) 2 48 := ⟨by decide +kernel, rfl⟩
theorem d_X10_rename_48 : DC mX10_rename 48 (.iconst 4) 1 49 := ⟨by decide +kernel, rfl⟩
theorem d_X10_rename_49 : DC mX10_rename 49 (.ishl) 1 50 := ⟨by decide +kernel, rfl⟩
theorem d_X10_rename_50 : DC mX10_rename 50 (.iload 10) 2 52 := ⟨by decide +kernel, rfl⟩
theorem d_X10_rename_52 : DC mX10_rename 52 (.iload_n 3) 1 53 := ⟨by decide +kernel, rfl⟩
theorem d_X10_rename_53 : DC mX10_rename 53 (.iload 4) 2 55 := ⟨by decide +kernel, rfl⟩
theorem d_X10_rename_55 : DC mX10_rename 55 (.iload 5) 2 57 := ⟨by decide +kernel, rfl⟩
theorem d_X10_rename_57 : DC mX10_rename 57 (.invokestatic 48) 3 60 := ⟨by decide +kernel, rfl⟩
theorem d_X10_rename_60 : DC mX10_rename 60 (.ior) 1 61 := ⟨by decide +kernel, rfl⟩
theorem d_X10_rename_61 : DC mX10_rename 61 (.istore 8) 2 63 := ⟨by decide +kernel, rfl⟩
theorem d_X10_rename_63 : DC mX10_rename 63 (.iinc 9 1) 3 66 := ⟨by decide +kernel, rfl⟩
theorem d_X10_rename_66 : DC mX10_rename 66 (.goto (-39)) 3 69 := ⟨by decide +kernel, rfl⟩
theorem d_X10_rename_69 : DC mX10_rename 69 (.aload_n 0) 1 70 := ⟨by decide +kernel, rfl⟩
theorem d_X10_rename_70 : DC mX10_rename 70 (.iload 8) 2 72 := ⟨by decide +kernel, rfl⟩
theorem d_X10_rename_72 : DC mX10_rename 72 (.invokevirtual 52) 3 75 := ⟨by decide +kernel, rfl⟩
theorem d_X10_rename_75 : DC mX10_rename 75 (.iinc 7 1) 3 78 := ⟨by decide +kernel, rfl⟩
theorem d_X10_rename_78 : DC mX10_rename 78 (.goto (-64)) 3 81 := ⟨by decide +kernel, rfl⟩
theorem d_X10_rename_81 : DC mX10_rename 81 (.return_) 1 82 := ⟨by decide +kernel, rfl⟩
theorem v_X9_take_0 {l : Launch} {d N : Nat} {Λ : Lay} {P : Mem → Prop} {σ : Mem} {x1 t : Int}
    (h : WV l mX9_take d P 3 [(2, t), (0, x1), (0, 24)] [] N Λ σ) :
    WV l mX9_take d P 0 [(2, t), (0, x1), (3, 0)] [] N Λ σ := by
  refine r_bipush (x := 24) d_X9_take_0 ⟨by decide, by decide⟩ (by decide) ?_
  refine r_istore_n (L2 := [(2, t), (0, x1), (0, 24)]) d_X9_take_2 (by decide) rfl rfl ?_
  exact h
theorem v_X9_take_3 {l : Launch} {d N : Nat} {Λ : Lay} {P : Mem → Prop} {σ : Mem} {x1 x2 t t_bytes : Int} (o_t : Ob N Λ t 18 6) (f_t_bytes : (Λ t).2.2 0 = t_bytes)
    (h : ((x2 < 0 → P σ) ∧ (¬ (x2 < 0) → ((300 ≤ (σ t 1) → P σ) ∧ (¬ (300 ≤ (σ t 1)) → (Ix N Λ t_bytes 0 (σ t 1) ∧ (∀ τ1, τ1 = st σ t_bytes (σ t 1) (andI (shrI x1 x2) 255) → (∀ τ2, τ2 = st τ1 t 1 (addI (τ1 t 1) 1) → (∀ y3, y3 = addI x2 (-8) → WV l mX9_take d P 3 [(2, t), (0, x1), (0, y3)] [] N Λ τ2))))))))) :
    WV l mX9_take d P 3 [(2, t), (0, x1), (0, x2)] [] N Λ σ := by
  refine r_iload_n (x := x2) d_X9_take_3 rfl ?_
  refine r_if_lt (tgt := 49) d_X9_take_4 rfl (fun hc => ?_) (fun hc => ?_)
  · have h := h.1 hc
    exact r_vret d_X9_take_49 rfl (Nat.le_refl 0) (Nat.le_refl 0) ⟨rfl, rfl, rfl, h⟩
  · have h := h.2 hc
    refine r_aload_n (x := t) d_X9_take_7 rfl o_t.1 ?_
    refine r_getf (j := 1) (t := 0) (x := (σ t 1)) d_X9_take_8 kX9 (by decide) fl_X9_15 o_t.1 o_t.2.1 o_t.2.2.1 o_t.2.2.2 rfl rfl ?_
    refine r_sipush (x := 300) d_X9_take_11 ⟨by decide, by decide⟩ (by decide) ?_
    refine r_ic_ge (tgt := 49) d_X9_take_14 rfl (fun hc => ?_) (fun hc => ?_)
    · have h := h.1 hc
      exact r_vret d_X9_take_49 rfl (Nat.le_refl 0) (Nat.le_refl 0) ⟨rfl, rfl, rfl, h⟩
    · have h := h.2 hc
      refine r_aload_n (x := t) d_X9_take_17 rfl o_t.1 ?_
      refine r_getf (j := 0) (t := 2) (x := t_bytes) d_X9_take_18 kX9 (by decide) fl_X9_9 o_t.1 o_t.2.1 o_t.2.2.1 o_t.2.2.2 rfl f_t_bytes ?_
      refine r_aload_n (x := t) d_X9_take_21 rfl o_t.1 ?_
      refine r_getf (j := 1) (t := 0) (x := (σ t 1)) d_X9_take_22 kX9 (by decide) fl_X9_15 o_t.1 o_t.2.1 o_t.2.2.1 o_t.2.2.2 rfl rfl ?_
      refine r_iload_n (x := x1) d_X9_take_25 rfl ?_
      refine r_iload_n (x := x2) d_X9_take_26 rfl ?_
      refine r_ishr d_X9_take_27 ?_
      refine r_sipush (x := 255) d_X9_take_28 ⟨by decide, by decide⟩ (by decide) ?_
      refine r_iand d_X9_take_31 ?_
      refine x_iast d_X9_take_32 h.1 ?_
      have h := h.2
      refine r_nmM (fun τ1 eτ1 => ?_)
      have h := h τ1 eτ1
      refine r_aload_n (x := t) d_X9_take_33 rfl o_t.1 ?_
      refine r_dup d_X9_take_34 rfl ?_
      refine r_getf (j := 1) (t := 0) (x := (τ1 t 1)) d_X9_take_35 kX9 (by decide) fl_X9_15 o_t.1 o_t.2.1 o_t.2.2.1 o_t.2.2.2 rfl rfl ?_
      refine r_iconst (x := 1) d_X9_take_38 ⟨by decide, by decide⟩ ?_
      refine r_iadd d_X9_take_39 ?_
      refine r_putI (j := 1) d_X9_take_40 kX9 (by decide) fl_X9_15 rfl o_t.1 o_t.2.1 o_t.2.2.1 o_t.2.2.2 rfl ?_
      refine r_nmM (fun τ2 eτ2 => ?_)
      have h := h τ2 eτ2
      refine x_iinc (x := x2) (L := [(2, t), (0, x1), (0, x2)]) d_X9_take_43 rfl (by decide) rfl (fun y3 ey3 => ?_)
      have h := h y3 ey3
      show WP _ _ _ _ _ _ _ _ [(2, t), (0, x1), (0, y3)] _ _ _ _
      refine r_goto (tgt := 3) d_X9_take_46 rfl ?_
      exact h
theorem v_X9_isSign_0 {l : Launch} {d N : Nat} {Λ : Lay} {P : Int → Mem → Prop} {σ : Mem} {x0 : Int}
    (h : ((x0 = 43 → P 1 σ) ∧ (¬ (x0 = 43) → ((¬ x0 = 45 → P 0 σ) ∧ (x0 = 45 → P 1 σ))))) :
    WI l mX9_isSign d P 0 [(0, x0)] [] N Λ σ := by
  refine r_iload_n (x := x0) d_X9_isSign_0 rfl ?_
  refine r_bipush (x := 43) d_X9_isSign_1 ⟨by decide, by decide⟩ (by decide) ?_
  refine r_ic_eq (tgt := 12) d_X9_isSign_3 rfl (fun hc => ?_) (fun hc => ?_)
  · have h := h.1 hc
    refine r_iconst (x := 1) d_X9_isSign_12 ⟨by decide, by decide⟩ ?_
    refine r_goto (tgt := 17) d_X9_isSign_13 rfl ?_
    exact r_iret d_X9_isSign_17 rfl (by decide) (Nat.le_refl 0) (Nat.le_refl 0) ⟨_, rfl, rfl, rfl, h⟩
  · have h := h.2 hc
    refine r_iload_n (x := x0) d_X9_isSign_6 rfl ?_
    refine r_bipush (x := 45) d_X9_isSign_7 ⟨by decide, by decide⟩ (by decide) ?_
    refine r_ic_ne (tgt := 16) d_X9_isSign_9 rfl (fun hc => ?_) (fun hc => ?_)
    · have h := h.1 hc
      refine r_iconst (x := 0) d_X9_isSign_16 ⟨by decide, by decide⟩ ?_
      exact r_iret d_X9_isSign_17 rfl (by decide) (Nat.le_refl 0) (Nat.le_refl 0) ⟨_, rfl, rfl, rfl, h⟩
    · have h := h.2 hc
      refine r_iconst (x := 1) d_X9_isSign_12 ⟨by decide, by decide⟩ ?_
      refine r_goto (tgt := 17) d_X9_isSign_13 rfl ?_
      exact r_iret d_X9_isSign_17 rfl (by decide) (Nat.le_refl 0) (Nat.le_refl 0) ⟨_, rfl, rfl, rfl, h⟩
theorem v_X9_isDigit_0 {l : Launch} {d N : Nat} {Λ : Lay} {P : Int → Mem → Prop} {σ : Mem} {x0 : Int}
    (h : ((x0 < 48 → P 0 σ) ∧ (¬ (x0 < 48) → ((57 < x0 → P 0 σ) ∧ (¬ (57 < x0) → P 1 σ))))) :
    WI l mX9_isDigit d P 0 [(0, x0)] [] N Λ σ := by
  refine r_iload_n (x := x0) d_X9_isDigit_0 rfl ?_
  refine r_bipush (x := 48) d_X9_isDigit_1 ⟨by decide, by decide⟩ (by decide) ?_
  refine r_ic_lt (tgt := 16) d_X9_isDigit_3 rfl (fun hc => ?_) (fun hc => ?_)
  · have h := h.1 hc
    refine r_iconst (x := 0) d_X9_isDigit_16 ⟨by decide, by decide⟩ ?_
    exact r_iret d_X9_isDigit_17 rfl (by decide) (Nat.le_refl 0) (Nat.le_refl 0) ⟨_, rfl, rfl, rfl, h⟩
  · have h := h.2 hc
    refine r_iload_n (x := x0) d_X9_isDigit_6 rfl ?_
    refine r_bipush (x := 57) d_X9_isDigit_7 ⟨by decide, by decide⟩ (by decide) ?_
    refine r_ic_gt (tgt := 16) d_X9_isDigit_9 rfl (fun hc => ?_) (fun hc => ?_)
    · have h := h.1 hc
      refine r_iconst (x := 0) d_X9_isDigit_16 ⟨by decide, by decide⟩ ?_
      exact r_iret d_X9_isDigit_17 rfl (by decide) (Nat.le_refl 0) (Nat.le_refl 0) ⟨_, rfl, rfl, rfl, h⟩
    · have h := h.2 hc
      refine r_iconst (x := 1) d_X9_isDigit_12 ⟨by decide, by decide⟩ ?_
      refine r_goto (tgt := 17) d_X9_isDigit_13 rfl ?_
      exact r_iret d_X9_isDigit_17 rfl (by decide) (Nat.le_refl 0) (Nat.le_refl 0) ⟨_, rfl, rfl, rfl, h⟩
theorem v_X9_note_0 {l : Launch} {d N : Nat} {Λ : Lay} {P : Int → Mem → Prop} {σ : Mem} {x1 x2 t : Int} (o_t : Ob N Λ t 18 6)
    (h : (∀ τ1, τ1 = st σ t 2 x1 → (∀ τ2, τ2 = st τ1 t 3 x2 → ((¬ x1 = 0 → P 0 τ2) ∧ (x1 = 0 → P 1 τ2))))) :
    WI l mX9_note d P 0 [(2, t), (0, x1), (0, x2)] [] N Λ σ := by
  refine r_aload_n (x := t) d_X9_note_0 rfl o_t.1 ?_
  refine r_iload_n (x := x1) d_X9_note_1 rfl ?_
  refine r_putI (j := 2) d_X9_note_2 kX9 (by decide) fl_X9_19 rfl o_t.1 o_t.2.1 o_t.2.2.1 o_t.2.2.2 rfl ?_
  refine r_nmM (fun τ1 eτ1 => ?_)
  have h := h τ1 eτ1
  refine r_aload_n (x := t) d_X9_note_5 rfl o_t.1 ?_
  refine r_iload_n (x := x2) d_X9_note_6 rfl ?_
  refine r_putI (j := 3) d_X9_note_7 kX9 (by decide) fl_X9_22 rfl o_t.1 o_t.2.1 o_t.2.2.1 o_t.2.2.2 rfl ?_
  refine r_nmM (fun τ2 eτ2 => ?_)
  have h := h τ2 eτ2
  refine r_iload_n (x := x1) d_X9_note_10 rfl ?_
  refine r_if_ne (tgt := 18) d_X9_note_11 rfl (fun hc => ?_) (fun hc => ?_)
  · have h := h.1 hc
    refine r_iconst (x := 0) d_X9_note_18 ⟨by decide, by decide⟩ ?_
    exact r_iret d_X9_note_19 rfl (by decide) (Nat.le_refl 0) (Nat.le_refl 0) ⟨_, rfl, rfl, rfl, h⟩
  · have h := h.2 hc
    refine r_iconst (x := 1) d_X9_note_14 ⟨by decide, by decide⟩ ?_
    refine r_goto (tgt := 19) d_X9_note_15 rfl ?_
    exact r_iret d_X9_note_19 rfl (by decide) (Nat.le_refl 0) (Nat.le_refl 0) ⟨_, rfl, rfl, rfl, h⟩
theorem v_X9_behind_0 {l : Launch} {d N : Nat} {Λ : Lay} {P : Int → Mem → Prop} {σ : Mem} {x0 x1 : Int} (h0d : 1 ≤ d)
    (h : ((x0 < 3 → ((¬ x0 = 6 → ((¬ x1 = 91 → ((x1 = 43 → ((¬ x0 = 1 → P 1 σ) ∧ (x0 = 1 → P (-1) σ))) ∧ (¬ (x1 = 43) → ((¬ x1 = 45 → ((x1 < 48 → P (-1) σ) ∧ (¬ (x1 < 48) → ((57 < x1 → P (-1) σ) ∧ (¬ (57 < x1) → ((x0 = 7 → P (-1) σ) ∧ (¬ (x0 = 7) → P 2 σ))))))) ∧ (x1 = 45 → ((¬ x0 = 1 → P 1 σ) ∧ (x0 = 1 → P (-1) σ))))))) ∧ (x1 = 91 → P 3 σ))) ∧ (x0 = 6 → ((¬ x1 = 93 → P (-1) σ) ∧ (x1 = 93 → P 7 σ))))) ∧ (¬ (x0 < 3) → ((6 ≤ x0 → ((¬ x0 = 6 → ((¬ x1 = 91 → ((x1 = 43 → ((¬ x0 = 1 → P 1 σ) ∧ (x0 = 1 → P (-1) σ))) ∧ (¬ (x1 = 43) → ((¬ x1 = 45 → ((x1 < 48 → P (-1) σ) ∧ (¬ (x1 < 48) → ((57 < x1 → P (-1) σ) ∧ (¬ (57 < x1) → ((x0 = 7 → P (-1) σ) ∧ (¬ (x0 = 7) → P 2 σ))))))) ∧ (x1 = 45 → ((¬ x0 = 1 → P 1 σ) ∧ (x0 = 1 → P (-1) σ))))))) ∧ (x1 = 91 → P 3 σ))) ∧ (x0 = 6 → ((¬ x1 = 93 → P (-1) σ) ∧ (x1 = 93 → P 7 σ))))) ∧ (¬ (6 ≤ x0) → ((x1 < 97 → P (-1) σ) ∧ (¬ (x1 < 97) → ((106 < x1 → P (-1) σ) ∧ (¬ (106 < x1) → P (addI x0 1) σ))))))))) :
    WI l mX9_behind d P 0 [(0, x0), (0, x1)] [] N Λ σ := by
  have hd_1 : 1 ≤ d := Nat.le_trans (by decide) h0d
  refine r_iload_n (x := x0) d_X9_behind_0 rfl ?_
  refine r_iconst (x := 3) d_X9_behind_1 ⟨by decide, by decide⟩ ?_
  refine r_ic_lt (tgt := 26) d_X9_behind_2 rfl (fun hc => ?_) (fun hc => ?_)
  · have h := h.1 hc
    refine r_iload_n (x := x0) d_X9_behind_26 rfl ?_
    refine r_bipush (x := 6) d_X9_behind_27 ⟨by decide, by decide⟩ (by decide) ?_
    refine r_ic_ne (tgt := 45) d_X9_behind_29 rfl (fun hc => ?_) (fun hc => ?_)
    · have h := h.1 hc
      refine r_iload_n (x := x1) d_X9_behind_45 rfl ?_
      refine r_bipush (x := 91) d_X9_behind_46 ⟨by decide, by decide⟩ (by decide) ?_
      refine r_ic_ne (tgt := 53) d_X9_behind_48 rfl (fun hc => ?_) (fun hc => ?_)
      · have h := h.1 hc
        refine r_iload_n (x := x1) d_X9_behind_53 rfl ?_
        refine x_callSI (Y2 := mX9_isSign) (As := [(0, x1)]) (S := []) d_X9_behind_54 ok_mX9_isSign ml_X9_47 rfl (Nat.le_of_ble_eq_true rfl) (Nat.le_of_ble_eq_true rfl) rfl hd_1 (c_X9_isSign (v_X9_isSign_0 ?_))
        refine ⟨fun hc => ?_, fun hc => ?_⟩
        · have h := h.1 hc
          show WP l mX9_behind (rm d 0 0) noX _ 0 0 57 [(0, x0), (0, x1)] [(0, 1)] N Λ σ
          refine r_if_eq (tgt := 71) d_X9_behind_57 rfl (fun hc => absurd hc (by decide)) (fun _ => ?_)
          refine r_iload_n (x := x0) d_X9_behind_60 rfl ?_
          refine r_iconst (x := 1) d_X9_behind_61 ⟨by decide, by decide⟩ ?_
          refine r_ic_ne (tgt := 69) d_X9_behind_62 rfl (fun hc => ?_) (fun hc => ?_)
          · have h := h.1 hc
            refine r_iconst (x := 1) d_X9_behind_69 ⟨by decide, by decide⟩ ?_
            exact r_iret d_X9_behind_70 rfl rfl (Nat.le_refl 0) (Nat.le_refl 0) ⟨_, rfl, rfl, rfl, h⟩
          · have h := h.2 hc
            refine r_iconst (x := (-1)) d_X9_behind_65 ⟨by decide, by decide⟩ ?_
            refine r_goto (tgt := 70) d_X9_behind_66 rfl ?_
            exact r_iret d_X9_behind_70 rfl rfl (Nat.le_refl 0) (Nat.le_refl 0) ⟨_, rfl, rfl, rfl, h⟩
        · have h := h.2 hc
          refine ⟨fun hc => ?_, fun hc => ?_⟩
          · have h := h.1 hc
            show WP l mX9_behind (rm d 0 0) noX _ 0 0 57 [(0, x0), (0, x1)] [(0, 0)] N Λ σ
            refine r_if_eq (tgt := 71) d_X9_behind_57 rfl (fun _ => ?_) (fun hc => absurd hc (by decide))
            refine r_iload_n (x := x1) d_X9_behind_71 rfl ?_
            refine x_callSI (Y2 := mX9_isDigit) (As := [(0, x1)]) (S := []) d_X9_behind_72 ok_mX9_isDigit ml_X9_50 rfl (Nat.le_of_ble_eq_true rfl) (Nat.le_of_ble_eq_true rfl) rfl hd_1 (c_X9_isDigit (v_X9_isDigit_0 ?_))
            refine ⟨fun hc => ?_, fun hc => ?_⟩
            · have h := h.1 hc
              show WP l mX9_behind (rm d 0 0) noX _ 0 0 75 [(0, x0), (0, x1)] [(0, 0)] N Λ σ
              refine r_if_eq (tgt := 88) d_X9_behind_75 rfl (fun _ => ?_) (fun hc => absurd hc (by decide))
              refine r_iconst (x := (-1)) d_X9_behind_88 ⟨by decide, by decide⟩ ?_
              exact r_iret d_X9_behind_89 rfl rfl (Nat.le_refl 0) (Nat.le_refl 0) ⟨_, rfl, rfl, rfl, h⟩
            · have h := h.2 hc
              refine ⟨fun hc => ?_, fun hc => ?_⟩
              · have h := h.1 hc
                show WP l mX9_behind (rm d 0 0) noX _ 0 0 75 [(0, x0), (0, x1)] [(0, 0)] N Λ σ
                refine r_if_eq (tgt := 88) d_X9_behind_75 rfl (fun _ => ?_) (fun hc => absurd hc (by decide))
                refine r_iconst (x := (-1)) d_X9_behind_88 ⟨by decide, by decide⟩ ?_
                exact r_iret d_X9_behind_89 rfl rfl (Nat.le_refl 0) (Nat.le_refl 0) ⟨_, rfl, rfl, rfl, h⟩
              · have h := h.2 hc
                show WP l mX9_behind (rm d 0 0) noX _ 0 0 75 [(0, x0), (0, x1)] [(0, 1)] N Λ σ
                refine r_if_eq (tgt := 88) d_X9_behind_75 rfl (fun hc => absurd hc (by decide)) (fun _ => ?_)
                refine r_iload_n (x := x0) d_X9_behind_78 rfl ?_
                refine r_bipush (x := 7) d_X9_behind_79 ⟨by decide, by decide⟩ (by decide) ?_
                refine r_ic_eq (tgt := 88) d_X9_behind_81 rfl (fun hc => ?_) (fun hc => ?_)
                · have h := h.1 hc
                  refine r_iconst (x := (-1)) d_X9_behind_88 ⟨by decide, by decide⟩ ?_
                  exact r_iret d_X9_behind_89 rfl rfl (Nat.le_refl 0) (Nat.le_refl 0) ⟨_, rfl, rfl, rfl, h⟩
                · have h := h.2 hc
                  refine r_iconst (x := 2) d_X9_behind_84 ⟨by decide, by decide⟩ ?_
                  refine r_goto (tgt := 89) d_X9_behind_85 rfl ?_
                  exact r_iret d_X9_behind_89 rfl rfl (Nat.le_refl 0) (Nat.le_refl 0) ⟨_, rfl, rfl, rfl, h⟩
          · have h := h.2 hc
            show WP l mX9_behind (rm d 0 0) noX _ 0 0 57 [(0, x0), (0, x1)] [(0, 1)] N Λ σ
            refine r_if_eq (tgt := 71) d_X9_behind_57 rfl (fun hc => absurd hc (by decide)) (fun _ => ?_)
            refine r_iload_n (x := x0) d_X9_behind_60 rfl ?_
            refine r_iconst (x := 1) d_X9_behind_61 ⟨by decide, by decide⟩ ?_
            refine r_ic_ne (tgt := 69) d_X9_behind_62 rfl (fun hc => ?_) (fun hc => ?_)
            · have h := h.1 hc
              refine r_iconst (x := 1) d_X9_behind_69 ⟨by decide, by decide⟩ ?_
              exact r_iret d_X9_behind_70 rfl rfl (Nat.le_refl 0) (Nat.le_refl 0) ⟨_, rfl, rfl, rfl, h⟩
            · have h := h.2 hc
              refine r_iconst (x := (-1)) d_X9_behind_65 ⟨by decide, by decide⟩ ?_
              refine r_goto (tgt := 70) d_X9_behind_66 rfl ?_
              exact r_iret d_X9_behind_70 rfl rfl (Nat.le_refl 0) (Nat.le_refl 0) ⟨_, rfl, rfl, rfl, h⟩
      · have h := h.2 hc
        refine r_iconst (x := 3) d_X9_behind_51 ⟨by decide, by decide⟩ ?_
        exact r_iret d_X9_behind_52 rfl rfl (Nat.le_refl 0) (Nat.le_refl 0) ⟨_, rfl, rfl, rfl, h⟩
    · have h := h.2 hc
      refine r_iload_n (x := x1) d_X9_behind_32 rfl ?_
      refine r_bipush (x := 93) d_X9_behind_33 ⟨by decide, by decide⟩ (by decide) ?_
      refine r_ic_ne (tgt := 43) d_X9_behind_35 rfl (fun hc => ?_) (fun hc => ?_)
      · have h := h.1 hc
        refine r_iconst (x := (-1)) d_X9_behind_43 ⟨by decide, by decide⟩ ?_
        exact r_iret d_X9_behind_44 rfl rfl (Nat.le_refl 0) (Nat.le_refl 0) ⟨_, rfl, rfl, rfl, h⟩
      · have h := h.2 hc
        refine r_bipush (x := 7) d_X9_behind_38 ⟨by decide, by decide⟩ (by decide) ?_
        refine r_goto (tgt := 44) d_X9_behind_40 rfl ?_
        exact r_iret d_X9_behind_44 rfl rfl (Nat.le_refl 0) (Nat.le_refl 0) ⟨_, rfl, rfl, rfl, h⟩
  · have h := h.2 hc
    refine r_iload_n (x := x0) d_X9_behind_5 rfl ?_
    refine r_bipush (x := 6) d_X9_behind_6 ⟨by decide, by decide⟩ (by decide) ?_
    refine r_ic_ge (tgt := 26) d_X9_behind_8 rfl (fun hc => ?_) (fun hc => ?_)
    · have h := h.1 hc
      refine r_iload_n (x := x0) d_X9_behind_26 rfl ?_
      refine r_bipush (x := 6) d_X9_behind_27 ⟨by decide, by decide⟩ (by decide) ?_
      refine r_ic_ne (tgt := 45) d_X9_behind_29 rfl (fun hc => ?_) (fun hc => ?_)
      · have h := h.1 hc
        refine r_iload_n (x := x1) d_X9_behind_45 rfl ?_
        refine r_bipush (x := 91) d_X9_behind_46 ⟨by decide, by decide⟩ (by decide) ?_
        refine r_ic_ne (tgt := 53) d_X9_behind_48 rfl (fun hc => ?_) (fun hc => ?_)
        · have h := h.1 hc
          refine r_iload_n (x := x1) d_X9_behind_53 rfl ?_
          refine x_callSI (Y2 := mX9_isSign) (As := [(0, x1)]) (S := []) d_X9_behind_54 ok_mX9_isSign ml_X9_47 rfl (Nat.le_of_ble_eq_true rfl) (Nat.le_of_ble_eq_true rfl) rfl hd_1 (c_X9_isSign (v_X9_isSign_0 ?_))
          refine ⟨fun hc => ?_, fun hc => ?_⟩
          · have h := h.1 hc
            show WP l mX9_behind (rm d 0 0) noX _ 0 0 57 [(0, x0), (0, x1)] [(0, 1)] N Λ σ
            refine r_if_eq (tgt := 71) d_X9_behind_57 rfl (fun hc => absurd hc (by decide)) (fun _ => ?_)
            refine r_iload_n (x := x0) d_X9_behind_60 rfl ?_
            refine r_iconst (x := 1) d_X9_behind_61 ⟨by decide, by decide⟩ ?_
            refine r_ic_ne (tgt := 69) d_X9_behind_62 rfl (fun hc => ?_) (fun hc => ?_)
            · have h := h.1 hc
              refine r_iconst (x := 1) d_X9_behind_69 ⟨by decide, by decide⟩ ?_
              exact r_iret d_X9_behind_70 rfl rfl (Nat.le_refl 0) (Nat.le_refl 0) ⟨_, rfl, rfl, rfl, h⟩
            · have h := h.2 hc
              refine r_iconst (x := (-1)) d_X9_behind_65 ⟨by decide, by decide⟩ ?_
              refine r_goto (tgt := 70) d_X9_behind_66 rfl ?_
              exact r_iret d_X9_behind_70 rfl rfl (Nat.le_refl 0) (Nat.le_refl 0) ⟨_, rfl, rfl, rfl, h⟩
          · have h := h.2 hc
            refine ⟨fun hc => ?_, fun hc => ?_⟩
            · have h := h.1 hc
              show WP l mX9_behind (rm d 0 0) noX _ 0 0 57 [(0, x0), (0, x1)] [(0, 0)] N Λ σ
              refine r_if_eq (tgt := 71) d_X9_behind_57 rfl (fun _ => ?_) (fun hc => absurd hc (by decide))
              refine r_iload_n (x := x1) d_X9_behind_71 rfl ?_
              refine x_callSI (Y2 := mX9_isDigit) (As := [(0, x1)]) (S := []) d_X9_behind_72 ok_mX9_isDigit ml_X9_50 rfl (Nat.le_of_ble_eq_true rfl) (Nat.le_of_ble_eq_true rfl) rfl hd_1 (c_X9_isDigit (v_X9_isDigit_0 ?_))
              refine ⟨fun hc => ?_, fun hc => ?_⟩
              · have h := h.1 hc
                show WP l mX9_behind (rm d 0 0) noX _ 0 0 75 [(0, x0), (0, x1)] [(0, 0)] N Λ σ
                refine r_if_eq (tgt := 88) d_X9_behind_75 rfl (fun _ => ?_) (fun hc => absurd hc (by decide))
                refine r_iconst (x := (-1)) d_X9_behind_88 ⟨by decide, by decide⟩ ?_
                exact r_iret d_X9_behind_89 rfl rfl (Nat.le_refl 0) (Nat.le_refl 0) ⟨_, rfl, rfl, rfl, h⟩
              · have h := h.2 hc
                refine ⟨fun hc => ?_, fun hc => ?_⟩
                · have h := h.1 hc
                  show WP l mX9_behind (rm d 0 0) noX _ 0 0 75 [(0, x0), (0, x1)] [(0, 0)] N Λ σ
                  refine r_if_eq (tgt := 88) d_X9_behind_75 rfl (fun _ => ?_) (fun hc => absurd hc (by decide))
                  refine r_iconst (x := (-1)) d_X9_behind_88 ⟨by decide, by decide⟩ ?_
                  exact r_iret d_X9_behind_89 rfl rfl (Nat.le_refl 0) (Nat.le_refl 0) ⟨_, rfl, rfl, rfl, h⟩
                · have h := h.2 hc
                  show WP l mX9_behind (rm d 0 0) noX _ 0 0 75 [(0, x0), (0, x1)] [(0, 1)] N Λ σ
                  refine r_if_eq (tgt := 88) d_X9_behind_75 rfl (fun hc => absurd hc (by decide)) (fun _ => ?_)
                  refine r_iload_n (x := x0) d_X9_behind_78 rfl ?_
                  refine r_bipush (x := 7) d_X9_behind_79 ⟨by decide, by decide⟩ (by decide) ?_
                  refine r_ic_eq (tgt := 88) d_X9_behind_81 rfl (fun hc => ?_) (fun hc => ?_)
                  · have h := h.1 hc
                    refine r_iconst (x := (-1)) d_X9_behind_88 ⟨by decide, by decide⟩ ?_
                    exact r_iret d_X9_behind_89 rfl rfl (Nat.le_refl 0) (Nat.le_refl 0) ⟨_, rfl, rfl, rfl, h⟩
                  · have h := h.2 hc
                    refine r_iconst (x := 2) d_X9_behind_84 ⟨by decide, by decide⟩ ?_
                    refine r_goto (tgt := 89) d_X9_behind_85 rfl ?_
                    exact r_iret d_X9_behind_89 rfl rfl (Nat.le_refl 0) (Nat.le_refl 0) ⟨_, rfl, rfl, rfl, h⟩
            · have h := h.2 hc
              show WP l mX9_behind (rm d 0 0) noX _ 0 0 57 [(0, x0), (0, x1)] [(0, 1)] N Λ σ
              refine r_if_eq (tgt := 71) d_X9_behind_57 rfl (fun hc => absurd hc (by decide)) (fun _ => ?_)
              refine r_iload_n (x := x0) d_X9_behind_60 rfl ?_
              refine r_iconst (x := 1) d_X9_behind_61 ⟨by decide, by decide⟩ ?_
              refine r_ic_ne (tgt := 69) d_X9_behind_62 rfl (fun hc => ?_) (fun hc => ?_)
              · have h := h.1 hc
                refine r_iconst (x := 1) d_X9_behind_69 ⟨by decide, by decide⟩ ?_
                exact r_iret d_X9_behind_70 rfl rfl (Nat.le_refl 0) (Nat.le_refl 0) ⟨_, rfl, rfl, rfl, h⟩
              · have h := h.2 hc
                refine r_iconst (x := (-1)) d_X9_behind_65 ⟨by decide, by decide⟩ ?_
                refine r_goto (tgt := 70) d_X9_behind_66 rfl ?_
                exact r_iret d_X9_behind_70 rfl rfl (Nat.le_refl 0) (Nat.le_refl 0) ⟨_, rfl, rfl, rfl, h⟩
        · have h := h.2 hc
          refine r_iconst (x := 3) d_X9_behind_51 ⟨by decide, by decide⟩ ?_
          exact r_iret d_X9_behind_52 rfl rfl (Nat.le_refl 0) (Nat.le_refl 0) ⟨_, rfl, rfl, rfl, h⟩
      · have h := h.2 hc
        refine r_iload_n (x := x1) d_X9_behind_32 rfl ?_
        refine r_bipush (x := 93) d_X9_behind_33 ⟨by decide, by decide⟩ (by decide) ?_
        refine r_ic_ne (tgt := 43) d_X9_behind_35 rfl (fun hc => ?_) (fun hc => ?_)
        · have h := h.1 hc
          refine r_iconst (x := (-1)) d_X9_behind_43 ⟨by decide, by decide⟩ ?_
          exact r_iret d_X9_behind_44 rfl rfl (Nat.le_refl 0) (Nat.le_refl 0) ⟨_, rfl, rfl, rfl, h⟩
        · have h := h.2 hc
          refine r_bipush (x := 7) d_X9_behind_38 ⟨by decide, by decide⟩ (by decide) ?_
          refine r_goto (tgt := 44) d_X9_behind_40 rfl ?_
          exact r_iret d_X9_behind_44 rfl rfl (Nat.le_refl 0) (Nat.le_refl 0) ⟨_, rfl, rfl, rfl, h⟩
    · have h := h.2 hc
      refine r_iload_n (x := x1) d_X9_behind_11 rfl ?_
      refine x_callSI (Y2 := mX9_isLetterByte) (As := [(0, x1)]) (S := []) d_X9_behind_12 ok_mX9_isLetterByte ml_X9_43 rfl (Nat.le_of_ble_eq_true rfl) (Nat.le_of_ble_eq_true rfl) rfl hd_1 (c_X9_isLetterByte (v_X9_isLetterByte_0 ?_))
      refine ⟨fun hc => ?_, fun hc => ?_⟩
      · have h := h.1 hc
        show WP l mX9_behind (rm d 0 0) noX _ 0 0 15 [(0, x0), (0, x1)] [(0, 0)] N Λ σ
        refine r_if_eq (tgt := 24) d_X9_behind_15 rfl (fun _ => ?_) (fun hc => absurd hc (by decide))
        refine r_iconst (x := (-1)) d_X9_behind_24 ⟨by decide, by decide⟩ ?_
        exact r_iret d_X9_behind_25 rfl rfl (Nat.le_refl 0) (Nat.le_refl 0) ⟨_, rfl, rfl, rfl, h⟩
      · have h := h.2 hc
        refine ⟨fun hc => ?_, fun hc => ?_⟩
        · have h := h.1 hc
          show WP l mX9_behind (rm d 0 0) noX _ 0 0 15 [(0, x0), (0, x1)] [(0, 0)] N Λ σ
          refine r_if_eq (tgt := 24) d_X9_behind_15 rfl (fun _ => ?_) (fun hc => absurd hc (by decide))
          refine r_iconst (x := (-1)) d_X9_behind_24 ⟨by decide, by decide⟩ ?_
          exact r_iret d_X9_behind_25 rfl rfl (Nat.le_refl 0) (Nat.le_refl 0) ⟨_, rfl, rfl, rfl, h⟩
        · have h := h.2 hc
          show WP l mX9_behind (rm d 0 0) noX _ 0 0 15 [(0, x0), (0, x1)] [(0, 1)] N Λ σ
          refine r_if_eq (tgt := 24) d_X9_behind_15 rfl (fun hc => absurd hc (by decide)) (fun _ => ?_)
          refine r_iload_n (x := x0) d_X9_behind_18 rfl ?_
          refine r_iconst (x := 1) d_X9_behind_19 ⟨by decide, by decide⟩ ?_
          refine r_iadd d_X9_behind_20 ?_
          refine r_goto (tgt := 25) d_X9_behind_21 rfl ?_
          exact r_iret d_X9_behind_25 rfl rfl (Nat.le_refl 0) (Nat.le_refl 0) ⟨_, rfl, rfl, rfl, h⟩
theorem v_X9_tellsPolynomial_0 {l : Launch} {d N : Nat} {Λ : Lay} {P : Int → Mem → Prop} {σ : Mem} {x1 t : Int}
    (h : WI l mX9_tellsPolynomial d P 10 [(2, t), (0, x1), (0, 0), (0, 0), (0, 0), (0, 0), (3, 0)] [] N Λ σ) :
    WI l mX9_tellsPolynomial d P 0 [(2, t), (0, x1), (3, 0), (3, 0), (3, 0), (3, 0), (3, 0)] [] N Λ σ := by
  refine r_iconst (x := 0) d_X9_tellsPolynomial_0 ⟨by decide, by decide⟩ ?_
  refine r_istore_n (L2 := [(2, t), (0, x1), (0, 0), (3, 0), (3, 0), (3, 0), (3, 0)]) d_X9_tellsPolynomial_1 (by decide) rfl rfl ?_
  refine r_iconst (x := 0) d_X9_tellsPolynomial_2 ⟨by decide, by decide⟩ ?_
  refine r_istore_n (L2 := [(2, t), (0, x1), (0, 0), (0, 0), (3, 0), (3, 0), (3, 0)]) d_X9_tellsPolynomial_3 (by decide) rfl rfl ?_
  refine r_iconst (x := 0) d_X9_tellsPolynomial_4 ⟨by decide, by decide⟩ ?_
  refine r_istore (L2 := [(2, t), (0, x1), (0, 0), (0, 0), (0, 0), (3, 0), (3, 0)]) d_X9_tellsPolynomial_5 (by decide) rfl rfl ?_
  refine r_iconst (x := 0) d_X9_tellsPolynomial_7 ⟨by decide, by decide⟩ ?_
  refine r_istore (L2 := [(2, t), (0, x1), (0, 0), (0, 0), (0, 0), (0, 0), (3, 0)]) d_X9_tellsPolynomial_8 (by decide) rfl rfl ?_
  exact h
theorem v_X9_tellsPolynomial_10 {l : Launch} {d N : Nat} {Λ : Lay} {P : Int → Mem → Prop} {σ : Mem} {x1 x2 x3 x4 x5 t t_bytes : Int} (o_t : Ob N Λ t 18 6) (f_t_bytes : (Λ t).2.2 0 = t_bytes) (h0d : 1 ≤ d)
    (h : ((x1 ≤ x5 → ((x2 = 0 → (∀ τ1, τ1 = st σ t 2 0 → (∀ τ2, τ2 = st τ1 t 3 (-1) → ((¬ (0 : Int) = 0 → P 0 τ2) ∧ ((0 : Int) = 0 → P 1 τ2))))) ∧ (¬ (x2 = 0) → ((x2 = 2 → (∀ τ3, τ3 = st σ t 2 0 → (∀ τ4, τ4 = st τ3 t 3 (-1) → ((¬ (0 : Int) = 0 → P 0 τ4) ∧ ((0 : Int) = 0 → P 1 τ4))))) ∧ (¬ (x2 = 2) → ((¬ x2 = 7 → (∀ τ5, τ5 = st σ t 2 1 → (∀ τ6, τ6 = st τ5 t 3 x1 → ((¬ (1 : Int) = 0 → P 0 τ6) ∧ ((1 : Int) = 0 → P 1 τ6))))) ∧ (x2 = 7 → (∀ τ7, τ7 = st σ t 2 0 → (∀ τ8, τ8 = st τ7 t 3 (-1) → ((¬ (0 : Int) = 0 → P 0 τ8) ∧ ((0 : Int) = 0 → P 1 τ8))))))))))) ∧ (¬ (x1 ≤ x5) → (Ix N Λ t_bytes 0 x5 ∧ (CI l mX9_behind (d - 1) [(0, x2), (0, (σ t_bytes x5))] N Λ σ (fun v10 σ9 => ((¬ v10 = (-1) → ((¬ v10 = 2 → ((¬ v10 = 1 → ((¬ v10 = 3 → ((x4 ≤ 4 → (∀ y11, y11 = addI x5 1 → WI l mX9_tellsPolynomial d P 10 [(2, t), (0, x1), (0, v10), (0, 0), (0, x4), (0, y11), (3, 0)] [] N Λ σ9)) ∧ (¬ (x4 ≤ 4) → (∀ τ12, τ12 = st σ9 t 2 3 → (∀ τ13, τ13 = st τ12 t 3 x5 → ((¬ (3 : Int) = 0 → P 0 τ13) ∧ ((3 : Int) = 0 → P 1 τ13))))))) ∧ (v10 = 3 → (∀ y14, y14 = addI x4 1 → ((y14 ≤ 4 → (∀ y15, y15 = addI x5 1 → WI l mX9_tellsPolynomial d P 10 [(2, t), (0, x1), (0, v10), (0, 0), (0, y14), (0, y15), (3, 0)] [] N Λ σ9)) ∧ (¬ (y14 ≤ 4) → (∀ τ16, τ16 = st σ9 t 2 3 → (∀ τ17, τ17 = st τ16 t 3 x5 → ((¬ (3 : Int) = 0 → P 0 τ17) ∧ ((3 : Int) = 0 → P 1 τ17)))))))))) ∧ (v10 = 1 → ((¬ v10 = 3 → (∀ y18, y18 = addI x5 1 → WI l mX9_tellsPolynomial d P 10 [(2, t), (0, x1), (0, v10), (0, 0), (0, 0), (0, y18), (3, 0)] [] N Λ σ9)) ∧ (v10 = 3 → (∀ y19, y19 = addI 0 1 → ((y19 ≤ 4 → (∀ y20, y20 = addI x5 1 → WI l mX9_tellsPolynomial d P 10 [(2, t), (0, x1), (0, v10), (0, 0), (0, y19), (0, y20), (3, 0)] [] N Λ σ9)) ∧ (¬ (y19 ≤ 4) → (∀ τ21, τ21 = st σ9 t 2 3 → (∀ τ22, τ22 = st τ21 t 3 x5 → ((¬ (3 : Int) = 0 → P 0 τ22) ∧ ((3 : Int) = 0 → P 1 τ22)))))))))))) ∧ (v10 = 2 → (∀ y23, y23 = (addI x3 1) → ((y23 ≤ 4 → ((¬ v10 = 1 → ((¬ v10 = 3 → ((x4 ≤ 4 → (∀ y24, y24 = addI x5 1 → WI l mX9_tellsPolynomial d P 10 [(2, t), (0, x1), (0, v10), (0, y23), (0, x4), (0, y24), (3, 0)] [] N Λ σ9)) ∧ (¬ (x4 ≤ 4) → (∀ τ25, τ25 = st σ9 t 2 3 → (∀ τ26, τ26 = st τ25 t 3 x5 → ((¬ (3 : Int) = 0 → P 0 τ26) ∧ ((3 : Int) = 0 → P 1 τ26))))))) ∧ (v10 = 3 → (∀ y27, y27 = addI x4 1 → ((y27 ≤ 4 → (∀ y28, y28 = addI x5 1 → WI l mX9_tellsPolynomial d P 10 [(2, t), (0, x1), (0, v10), (0, y23), (0, y27), (0, y28), (3, 0)] [] N Λ σ9)) ∧ (¬ (y27 ≤ 4) → (∀ τ29, τ29 = st σ9 t 2 3 → (∀ τ30, τ30 = st τ29 t 3 x5 → ((¬ (3 : Int) = 0 → P 0 τ30) ∧ ((3 : Int) = 0 → P 1 τ30)))))))))) ∧ (v10 = 1 → ((¬ v10 = 3 → (∀ y31, y31 = addI x5 1 → WI l mX9_tellsPolynomial d P 10 [(2, t), (0, x1), (0, v10), (0, y23), (0, 0), (0, y31), (3, 0)] [] N Λ σ9)) ∧ (v10 = 3 → (∀ y32, y32 = addI 0 1 → ((y32 ≤ 4 → (∀ y33, y33 = addI x5 1 → WI l mX9_tellsPolynomial d P 10 [(2, t), (0, x1), (0, v10), (0, y23), (0, y32), (0, y33), (3, 0)] [] N Λ σ9)) ∧ (¬ (y32 ≤ 4) → (∀ τ34, τ34 = st σ9 t 2 3 → (∀ τ35, τ35 = st τ34 t 3 x5 → ((¬ (3 : Int) = 0 → P 0 τ35) ∧ ((3 : Int) = 0 → P 1 τ35)))))))))))) ∧ (¬ (y23 ≤ 4) → (∀ τ36, τ36 = st σ9 t 2 2 → (∀ τ37, τ37 = st τ36 t 3 (subI x5 4) → ((¬ (2 : Int) = 0 → P 0 τ37) ∧ ((2 : Int) = 0 → P 1 τ37)))))))))) ∧ (v10 = (-1) → (∀ τ38, τ38 = st σ9 t 2 1 → (∀ τ39, τ39 = st τ38 t 3 x5 → ((¬ (1 : Int) = 0 → P 0 τ39) ∧ ((1 : Int) = 0 → P 1 τ39)))))))))))) :
    WI l mX9_tellsPolynomial d P 10 [(2, t), (0, x1), (0, x2), (0, x3), (0, x4), (0, x5), (3, 0)] [] N Λ σ := by
  have hd_1 : 1 ≤ d := Nat.le_trans (by decide) h0d
  refine r_iload (x := x5) d_X9_tellsPolynomial_10 rfl ?_
  refine r_iload_n (x := x1) d_X9_tellsPolynomial_12 rfl ?_
  refine r_ic_ge (tgt := 113) d_X9_tellsPolynomial_13 rfl (fun hc => ?_) (fun hc => ?_)
  · have h := h.1 hc
    refine r_iload_n (x := x2) d_X9_tellsPolynomial_113 rfl ?_
    refine r_if_eq (tgt := 128) d_X9_tellsPolynomial_114 rfl (fun hc => ?_) (fun hc => ?_)
    · have h := h.1 hc
      refine r_iconst (x := 1) d_X9_tellsPolynomial_128 ⟨by decide, by decide⟩ ?_
      refine r_goto (tgt := 133) d_X9_tellsPolynomial_129 rfl ?_
      refine r_istore (L2 := [(2, t), (0, x1), (0, x2), (0, x3), (0, x4), (0, 1), (3, 0)]) d_X9_tellsPolynomial_133 (by decide) rfl rfl ?_
      refine r_iload (x := 1) d_X9_tellsPolynomial_135 rfl ?_
      refine r_if_eq (tgt := 149) d_X9_tellsPolynomial_137 rfl (fun hc => absurd hc (by decide)) (fun _ => ?_)
      refine r_aload_n (x := t) d_X9_tellsPolynomial_140 rfl o_t.1 ?_
      refine r_iconst (x := 0) d_X9_tellsPolynomial_141 ⟨by decide, by decide⟩ ?_
      refine r_iconst (x := (-1)) d_X9_tellsPolynomial_142 ⟨by decide, by decide⟩ ?_
      refine x_callVI (Y2 := mX9_note) (c := t) (As := [(0, 0), (0, (-1))]) (S := []) d_X9_tellsPolynomial_143 ok_mX9_note ml_X9_39 rfl (Nat.le_of_ble_eq_true rfl) (Nat.le_of_ble_eq_true rfl) rfl hd_1 kX9 o_t (c_X9_note (v_X9_note_0 o_t ?_))
      intro τ1 eτ1
      have h := h τ1 eτ1
      intro τ2 eτ2
      have h := h τ2 eτ2
      refine ⟨fun hc => ?_, fun hc => ?_⟩
      · have h := h.1 hc
        show WP l mX9_tellsPolynomial (rm d 0 0) noX _ 0 0 146 [(2, t), (0, x1), (0, x2), (0, x3), (0, x4), (0, 1), (3, 0)] [(0, 0)] N Λ τ2
        refine r_goto (tgt := 155) d_X9_tellsPolynomial_146 rfl ?_
        exact r_iret d_X9_tellsPolynomial_155 rfl (by decide) (Nat.le_refl 0) (Nat.le_refl 0) ⟨_, rfl, rfl, rfl, h⟩
      · have h := h.2 hc
        show WP l mX9_tellsPolynomial (rm d 0 0) noX _ 0 0 146 [(2, t), (0, x1), (0, x2), (0, x3), (0, x4), (0, 1), (3, 0)] [(0, 1)] N Λ τ2
        refine r_goto (tgt := 155) d_X9_tellsPolynomial_146 rfl ?_
        exact r_iret d_X9_tellsPolynomial_155 rfl (by decide) (Nat.le_refl 0) (Nat.le_refl 0) ⟨_, rfl, rfl, rfl, h⟩
    · have h := h.2 hc
      refine r_iload_n (x := x2) d_X9_tellsPolynomial_117 rfl ?_
      refine r_iconst (x := 2) d_X9_tellsPolynomial_118 ⟨by decide, by decide⟩ ?_
      refine r_ic_eq (tgt := 128) d_X9_tellsPolynomial_119 rfl (fun hc => ?_) (fun hc => ?_)
      · have h := h.1 hc
        refine r_iconst (x := 1) d_X9_tellsPolynomial_128 ⟨by decide, by decide⟩ ?_
        refine r_goto (tgt := 133) d_X9_tellsPolynomial_129 rfl ?_
        refine r_istore (L2 := [(2, t), (0, x1), (0, x2), (0, x3), (0, x4), (0, 1), (3, 0)]) d_X9_tellsPolynomial_133 (by decide) rfl rfl ?_
        refine r_iload (x := 1) d_X9_tellsPolynomial_135 rfl ?_
        refine r_if_eq (tgt := 149) d_X9_tellsPolynomial_137 rfl (fun hc => absurd hc (by decide)) (fun _ => ?_)
        refine r_aload_n (x := t) d_X9_tellsPolynomial_140 rfl o_t.1 ?_
        refine r_iconst (x := 0) d_X9_tellsPolynomial_141 ⟨by decide, by decide⟩ ?_
        refine r_iconst (x := (-1)) d_X9_tellsPolynomial_142 ⟨by decide, by decide⟩ ?_
        refine x_callVI (Y2 := mX9_note) (c := t) (As := [(0, 0), (0, (-1))]) (S := []) d_X9_tellsPolynomial_143 ok_mX9_note ml_X9_39 rfl (Nat.le_of_ble_eq_true rfl) (Nat.le_of_ble_eq_true rfl) rfl hd_1 kX9 o_t (c_X9_note (v_X9_note_0 o_t ?_))
        intro τ3 eτ3
        have h := h τ3 eτ3
        intro τ4 eτ4
        have h := h τ4 eτ4
        refine ⟨fun hc => ?_, fun hc => ?_⟩
        · have h := h.1 hc
          show WP l mX9_tellsPolynomial (rm d 0 0) noX _ 0 0 146 [(2, t), (0, x1), (0, x2), (0, x3), (0, x4), (0, 1), (3, 0)] [(0, 0)] N Λ τ4
          refine r_goto (tgt := 155) d_X9_tellsPolynomial_146 rfl ?_
          exact r_iret d_X9_tellsPolynomial_155 rfl (by decide) (Nat.le_refl 0) (Nat.le_refl 0) ⟨_, rfl, rfl, rfl, h⟩
        · have h := h.2 hc
          show WP l mX9_tellsPolynomial (rm d 0 0) noX _ 0 0 146 [(2, t), (0, x1), (0, x2), (0, x3), (0, x4), (0, 1), (3, 0)] [(0, 1)] N Λ τ4
          refine r_goto (tgt := 155) d_X9_tellsPolynomial_146 rfl ?_
          exact r_iret d_X9_tellsPolynomial_155 rfl (by decide) (Nat.le_refl 0) (Nat.le_refl 0) ⟨_, rfl, rfl, rfl, h⟩
      · have h := h.2 hc
        refine r_iload_n (x := x2) d_X9_tellsPolynomial_122 rfl ?_
        refine r_bipush (x := 7) d_X9_tellsPolynomial_123 ⟨by decide, by decide⟩ (by decide) ?_
        refine r_ic_ne (tgt := 132) d_X9_tellsPolynomial_125 rfl (fun hc => ?_) (fun hc => ?_)
        · have h := h.1 hc
          refine r_iconst (x := 0) d_X9_tellsPolynomial_132 ⟨by decide, by decide⟩ ?_
          refine r_istore (L2 := [(2, t), (0, x1), (0, x2), (0, x3), (0, x4), (0, 0), (3, 0)]) d_X9_tellsPolynomial_133 (by decide) rfl rfl ?_
          refine r_iload (x := 0) d_X9_tellsPolynomial_135 rfl ?_
          refine r_if_eq (tgt := 149) d_X9_tellsPolynomial_137 rfl (fun _ => ?_) (fun hc => absurd hc (by decide))
          refine r_aload_n (x := t) d_X9_tellsPolynomial_149 rfl o_t.1 ?_
          refine r_iconst (x := 1) d_X9_tellsPolynomial_150 ⟨by decide, by decide⟩ ?_
          refine r_iload_n (x := x1) d_X9_tellsPolynomial_151 rfl ?_
          refine x_callVI (Y2 := mX9_note) (c := t) (As := [(0, 1), (0, x1)]) (S := []) d_X9_tellsPolynomial_152 ok_mX9_note ml_X9_39 rfl (Nat.le_of_ble_eq_true rfl) (Nat.le_of_ble_eq_true rfl) rfl hd_1 kX9 o_t (c_X9_note (v_X9_note_0 o_t ?_))
          intro τ5 eτ5
          have h := h τ5 eτ5
          intro τ6 eτ6
          have h := h τ6 eτ6
          refine ⟨fun hc => ?_, fun hc => ?_⟩
          · have h := h.1 hc
            show WP l mX9_tellsPolynomial (rm d 0 0) noX _ 0 0 155 [(2, t), (0, x1), (0, x2), (0, x3), (0, x4), (0, 0), (3, 0)] [(0, 0)] N Λ τ6
            exact r_iret d_X9_tellsPolynomial_155 rfl (by decide) (Nat.le_refl 0) (Nat.le_refl 0) ⟨_, rfl, rfl, rfl, h⟩
          · have h := h.2 hc
            show WP l mX9_tellsPolynomial (rm d 0 0) noX _ 0 0 155 [(2, t), (0, x1), (0, x2), (0, x3), (0, x4), (0, 0), (3, 0)] [(0, 1)] N Λ τ6
            exact r_iret d_X9_tellsPolynomial_155 rfl (by decide) (Nat.le_refl 0) (Nat.le_refl 0) ⟨_, rfl, rfl, rfl, h⟩
        · have h := h.2 hc
          refine r_iconst (x := 1) d_X9_tellsPolynomial_128 ⟨by decide, by decide⟩ ?_
          refine r_goto (tgt := 133) d_X9_tellsPolynomial_129 rfl ?_
          refine r_istore (L2 := [(2, t), (0, x1), (0, x2), (0, x3), (0, x4), (0, 1), (3, 0)]) d_X9_tellsPolynomial_133 (by decide) rfl rfl ?_
          refine r_iload (x := 1) d_X9_tellsPolynomial_135 rfl ?_
          refine r_if_eq (tgt := 149) d_X9_tellsPolynomial_137 rfl (fun hc => absurd hc (by decide)) (fun _ => ?_)
          refine r_aload_n (x := t) d_X9_tellsPolynomial_140 rfl o_t.1 ?_
          refine r_iconst (x := 0) d_X9_tellsPolynomial_141 ⟨by decide, by decide⟩ ?_
          refine r_iconst (x := (-1)) d_X9_tellsPolynomial_142 ⟨by decide, by decide⟩ ?_
          refine x_callVI (Y2 := mX9_note) (c := t) (As := [(0, 0), (0, (-1))]) (S := []) d_X9_tellsPolynomial_143 ok_mX9_note ml_X9_39 rfl (Nat.le_of_ble_eq_true rfl) (Nat.le_of_ble_eq_true rfl) rfl hd_1 kX9 o_t (c_X9_note (v_X9_note_0 o_t ?_))
          intro τ7 eτ7
          have h := h τ7 eτ7
          intro τ8 eτ8
          have h := h τ8 eτ8
          refine ⟨fun hc => ?_, fun hc => ?_⟩
          · have h := h.1 hc
            show WP l mX9_tellsPolynomial (rm d 0 0) noX _ 0 0 146 [(2, t), (0, x1), (0, x2), (0, x3), (0, x4), (0, 1), (3, 0)] [(0, 0)] N Λ τ8
            refine r_goto (tgt := 155) d_X9_tellsPolynomial_146 rfl ?_
            exact r_iret d_X9_tellsPolynomial_155 rfl (by decide) (Nat.le_refl 0) (Nat.le_refl 0) ⟨_, rfl, rfl, rfl, h⟩
          · have h := h.2 hc
            show WP l mX9_tellsPolynomial (rm d 0 0) noX _ 0 0 146 [(2, t), (0, x1), (0, x2), (0, x3), (0, x4), (0, 1), (3, 0)] [(0, 1)] N Λ τ8
            refine r_goto (tgt := 155) d_X9_tellsPolynomial_146 rfl ?_
            exact r_iret d_X9_tellsPolynomial_155 rfl (by decide) (Nat.le_refl 0) (Nat.le_refl 0) ⟨_, rfl, rfl, rfl, h⟩
  · have h := h.2 hc
    refine r_iload_n (x := x2) d_X9_tellsPolynomial_16 rfl ?_
    refine r_aload_n (x := t) d_X9_tellsPolynomial_17 rfl o_t.1 ?_
    refine r_getf (j := 0) (t := 2) (x := t_bytes) d_X9_tellsPolynomial_18 kX9 (by decide) fl_X9_9 o_t.1 o_t.2.1 o_t.2.2.1 o_t.2.2.2 rfl f_t_bytes ?_
    refine r_iload (x := x5) d_X9_tellsPolynomial_21 rfl ?_
    refine x_iald d_X9_tellsPolynomial_23 h.1 ?_
    have h := h.2
    refine x_callSI (Y2 := mX9_behind) (As := [(0, x2), (0, (σ t_bytes x5))]) (S := []) d_X9_tellsPolynomial_24 ok_mX9_behind ml_X9_35 rfl (Nat.le_of_ble_eq_true rfl) (Nat.le_of_ble_eq_true rfl) rfl hd_1 (CI.mono h (fun v10 σ9 h => ?_))
    refine r_istore (L2 := [(2, t), (0, x1), (0, x2), (0, x3), (0, x4), (0, x5), (0, v10)]) d_X9_tellsPolynomial_27 (by decide) rfl rfl ?_
    refine r_iload (x := v10) d_X9_tellsPolynomial_29 rfl ?_
    refine r_iconst (x := (-1)) d_X9_tellsPolynomial_31 ⟨by decide, by decide⟩ ?_
    refine r_ic_ne (tgt := 43) d_X9_tellsPolynomial_32 rfl (fun hc => ?_) (fun hc => ?_)
    · have h := h.1 hc
      refine r_iload (x := v10) d_X9_tellsPolynomial_43 rfl ?_
      refine r_iconst (x := 2) d_X9_tellsPolynomial_45 ⟨by decide, by decide⟩ ?_
      refine r_ic_ne (tgt := 55) d_X9_tellsPolynomial_46 rfl (fun hc => ?_) (fun hc => ?_)
      · have h := h.1 hc
        refine r_iconst (x := 0) d_X9_tellsPolynomial_55 ⟨by decide, by decide⟩ ?_
        refine r_istore_n (L2 := [(2, t), (0, x1), (0, x2), (0, 0), (0, x4), (0, x5), (0, v10)]) d_X9_tellsPolynomial_56 (by decide) rfl rfl ?_
        refine r_iload_n (x := 0) d_X9_tellsPolynomial_57 rfl ?_
        refine r_iconst (x := 4) d_X9_tellsPolynomial_58 ⟨by decide, by decide⟩ ?_
        refine r_ic_le (tgt := 72) d_X9_tellsPolynomial_59 rfl (fun _ => ?_) (fun hc => absurd hc (by decide))
        refine r_iload (x := v10) d_X9_tellsPolynomial_72 rfl ?_
        refine r_iconst (x := 1) d_X9_tellsPolynomial_74 ⟨by decide, by decide⟩ ?_
        refine r_ic_ne (tgt := 81) d_X9_tellsPolynomial_75 rfl (fun hc => ?_) (fun hc => ?_)
        · have h := h.1 hc
          refine r_iload (x := v10) d_X9_tellsPolynomial_81 rfl ?_
          refine r_iconst (x := 3) d_X9_tellsPolynomial_83 ⟨by decide, by decide⟩ ?_
          refine r_ic_ne (tgt := 90) d_X9_tellsPolynomial_84 rfl (fun hc => ?_) (fun hc => ?_)
          · have h := h.1 hc
            refine r_iload (x := x4) d_X9_tellsPolynomial_90 rfl ?_
            refine r_iconst (x := 4) d_X9_tellsPolynomial_92 ⟨by decide, by decide⟩ ?_
            refine r_ic_le (tgt := 104) d_X9_tellsPolynomial_93 rfl (fun hc => ?_) (fun hc => ?_)
            · have h := h.1 hc
              refine r_iload (x := v10) d_X9_tellsPolynomial_104 rfl ?_
              refine r_istore_n (L2 := [(2, t), (0, x1), (0, v10), (0, 0), (0, x4), (0, x5), (0, v10)]) d_X9_tellsPolynomial_106 (by decide) rfl rfl ?_
              refine x_iinc (x := x5) (L := [(2, t), (0, x1), (0, v10), (0, 0), (0, x4), (0, x5), (0, v10)]) d_X9_tellsPolynomial_107 rfl (by decide) rfl (fun y11 ey11 => ?_)
              have h := h y11 ey11
              show WP _ _ _ _ _ _ _ _ [(2, t), (0, x1), (0, v10), (0, 0), (0, x4), (0, y11), (0, v10)] _ _ _ _
              refine r_goto (tgt := 10) d_X9_tellsPolynomial_110 rfl ?_
              exact x_mask h ⟨Or.inr rfl, Or.inr rfl, Or.inr rfl, Or.inr rfl, Or.inr rfl, Or.inr rfl, Or.inl rfl, trivial⟩
            · have h := h.2 hc
              refine r_aload_n (x := t) d_X9_tellsPolynomial_96 rfl o_t.1 ?_
              refine r_iconst (x := 3) d_X9_tellsPolynomial_97 ⟨by decide, by decide⟩ ?_
              refine r_iload (x := x5) d_X9_tellsPolynomial_98 rfl ?_
              refine x_callVI (Y2 := mX9_note) (c := t) (As := [(0, 3), (0, x5)]) (S := []) d_X9_tellsPolynomial_100 ok_mX9_note ml_X9_39 rfl (Nat.le_of_ble_eq_true rfl) (Nat.le_of_ble_eq_true rfl) rfl hd_1 kX9 o_t (c_X9_note (v_X9_note_0 o_t ?_))
              intro τ12 eτ12
              have h := h τ12 eτ12
              intro τ13 eτ13
              have h := h τ13 eτ13
              refine ⟨fun hc => ?_, fun hc => ?_⟩
              · have h := h.1 hc
                show WP l mX9_tellsPolynomial (rm d 0 0) noX _ 0 0 103 [(2, t), (0, x1), (0, x2), (0, 0), (0, x4), (0, x5), (0, v10)] [(0, 0)] N Λ τ13
                exact r_iret d_X9_tellsPolynomial_103 rfl (by decide) (Nat.le_refl 0) (Nat.le_refl 0) ⟨_, rfl, rfl, rfl, h⟩
              · have h := h.2 hc
                show WP l mX9_tellsPolynomial (rm d 0 0) noX _ 0 0 103 [(2, t), (0, x1), (0, x2), (0, 0), (0, x4), (0, x5), (0, v10)] [(0, 1)] N Λ τ13
                exact r_iret d_X9_tellsPolynomial_103 rfl (by decide) (Nat.le_refl 0) (Nat.le_refl 0) ⟨_, rfl, rfl, rfl, h⟩
          · have h := h.2 hc
            refine x_iinc (x := x4) (L := [(2, t), (0, x1), (0, x2), (0, 0), (0, x4), (0, x5), (0, v10)]) d_X9_tellsPolynomial_87 rfl (by decide) rfl (fun y14 ey14 => ?_)
            have h := h y14 ey14
            show WP _ _ _ _ _ _ _ _ [(2, t), (0, x1), (0, x2), (0, 0), (0, y14), (0, x5), (0, v10)] _ _ _ _
            refine r_iload (x := y14) d_X9_tellsPolynomial_90 rfl ?_
            refine r_iconst (x := 4) d_X9_tellsPolynomial_92 ⟨by decide, by decide⟩ ?_
            refine r_ic_le (tgt := 104) d_X9_tellsPolynomial_93 rfl (fun hc => ?_) (fun hc => ?_)
            · have h := h.1 hc
              refine r_iload (x := v10) d_X9_tellsPolynomial_104 rfl ?_
              refine r_istore_n (L2 := [(2, t), (0, x1), (0, v10), (0, 0), (0, y14), (0, x5), (0, v10)]) d_X9_tellsPolynomial_106 (by decide) rfl rfl ?_
              refine x_iinc (x := x5) (L := [(2, t), (0, x1), (0, v10), (0, 0), (0, y14), (0, x5), (0, v10)]) d_X9_tellsPolynomial_107 rfl (by decide) rfl (fun y15 ey15 => ?_)
              have h := h y15 ey15
              show WP _ _ _ _ _ _ _ _ [(2, t), (0, x1), (0, v10), (0, 0), (0, y14), (0, y15), (0, v10)] _ _ _ _
              refine r_goto (tgt := 10) d_X9_tellsPolynomial_110 rfl ?_
              exact x_mask h ⟨Or.inr rfl, Or.inr rfl, Or.inr rfl, Or.inr rfl, Or.inr rfl, Or.inr rfl, Or.inl rfl, trivial⟩
            · have h := h.2 hc
              refine r_aload_n (x := t) d_X9_tellsPolynomial_96 rfl o_t.1 ?_
              refine r_iconst (x := 3) d_X9_tellsPolynomial_97 ⟨by decide, by decide⟩ ?_
              refine r_iload (x := x5) d_X9_tellsPolynomial_98 rfl ?_
              refine x_callVI (Y2 := mX9_note) (c := t) (As := [(0, 3), (0, x5)]) (S := []) d_X9_tellsPolynomial_100 ok_mX9_note ml_X9_39 rfl (Nat.le_of_ble_eq_true rfl) (Nat.le_of_ble_eq_true rfl) rfl hd_1 kX9 o_t (c_X9_note (v_X9_note_0 o_t ?_))
              intro τ16 eτ16
              have h := h τ16 eτ16
              intro τ17 eτ17
              have h := h τ17 eτ17
              refine ⟨fun hc => ?_, fun hc => ?_⟩
              · have h := h.1 hc
                show WP l mX9_tellsPolynomial (rm d 0 0) noX _ 0 0 103 [(2, t), (0, x1), (0, x2), (0, 0), (0, y14), (0, x5), (0, v10)] [(0, 0)] N Λ τ17
                exact r_iret d_X9_tellsPolynomial_103 rfl (by decide) (Nat.le_refl 0) (Nat.le_refl 0) ⟨_, rfl, rfl, rfl, h⟩
              · have h := h.2 hc
                show WP l mX9_tellsPolynomial (rm d 0 0) noX _ 0 0 103 [(2, t), (0, x1), (0, x2), (0, 0), (0, y14), (0, x5), (0, v10)] [(0, 1)] N Λ τ17
                exact r_iret d_X9_tellsPolynomial_103 rfl (by decide) (Nat.le_refl 0) (Nat.le_refl 0) ⟨_, rfl, rfl, rfl, h⟩
        · have h := h.2 hc
          refine r_iconst (x := 0) d_X9_tellsPolynomial_78 ⟨by decide, by decide⟩ ?_
          refine r_istore (L2 := [(2, t), (0, x1), (0, x2), (0, 0), (0, 0), (0, x5), (0, v10)]) d_X9_tellsPolynomial_79 (by decide) rfl rfl ?_
          refine r_iload (x := v10) d_X9_tellsPolynomial_81 rfl ?_
          refine r_iconst (x := 3) d_X9_tellsPolynomial_83 ⟨by decide, by decide⟩ ?_
          refine r_ic_ne (tgt := 90) d_X9_tellsPolynomial_84 rfl (fun hc => ?_) (fun hc => ?_)
          · have h := h.1 hc
            refine r_iload (x := 0) d_X9_tellsPolynomial_90 rfl ?_
            refine r_iconst (x := 4) d_X9_tellsPolynomial_92 ⟨by decide, by decide⟩ ?_
            refine r_ic_le (tgt := 104) d_X9_tellsPolynomial_93 rfl (fun _ => ?_) (fun hc => absurd hc (by decide))
            refine r_iload (x := v10) d_X9_tellsPolynomial_104 rfl ?_
            refine r_istore_n (L2 := [(2, t), (0, x1), (0, v10), (0, 0), (0, 0), (0, x5), (0, v10)]) d_X9_tellsPolynomial_106 (by decide) rfl rfl ?_
            refine x_iinc (x := x5) (L := [(2, t), (0, x1), (0, v10), (0, 0), (0, 0), (0, x5), (0, v10)]) d_X9_tellsPolynomial_107 rfl (by decide) rfl (fun y18 ey18 => ?_)
            have h := h y18 ey18
            show WP _ _ _ _ _ _ _ _ [(2, t), (0, x1), (0, v10), (0, 0), (0, 0), (0, y18), (0, v10)] _ _ _ _
            refine r_goto (tgt := 10) d_X9_tellsPolynomial_110 rfl ?_
            exact x_mask h ⟨Or.inr rfl, Or.inr rfl, Or.inr rfl, Or.inr rfl, Or.inr rfl, Or.inr rfl, Or.inl rfl, trivial⟩
          · have h := h.2 hc
            refine x_iinc (x := 0) (L := [(2, t), (0, x1), (0, x2), (0, 0), (0, 0), (0, x5), (0, v10)]) d_X9_tellsPolynomial_87 rfl (by decide) rfl (fun y19 ey19 => ?_)
            have h := h y19 ey19
            show WP _ _ _ _ _ _ _ _ [(2, t), (0, x1), (0, x2), (0, 0), (0, y19), (0, x5), (0, v10)] _ _ _ _
            refine r_iload (x := y19) d_X9_tellsPolynomial_90 rfl ?_
            refine r_iconst (x := 4) d_X9_tellsPolynomial_92 ⟨by decide, by decide⟩ ?_
            refine r_ic_le (tgt := 104) d_X9_tellsPolynomial_93 rfl (fun hc => ?_) (fun hc => ?_)
            · have h := h.1 hc
              refine r_iload (x := v10) d_X9_tellsPolynomial_104 rfl ?_
              refine r_istore_n (L2 := [(2, t), (0, x1), (0, v10), (0, 0), (0, y19), (0, x5), (0, v10)]) d_X9_tellsPolynomial_106 (by decide) rfl rfl ?_
              refine x_iinc (x := x5) (L := [(2, t), (0, x1), (0, v10), (0, 0), (0, y19), (0, x5), (0, v10)]) d_X9_tellsPolynomial_107 rfl (by decide) rfl (fun y20 ey20 => ?_)
              have h := h y20 ey20
              show WP _ _ _ _ _ _ _ _ [(2, t), (0, x1), (0, v10), (0, 0), (0, y19), (0, y20), (0, v10)] _ _ _ _
              refine r_goto (tgt := 10) d_X9_tellsPolynomial_110 rfl ?_
              exact x_mask h ⟨Or.inr rfl, Or.inr rfl, Or.inr rfl, Or.inr rfl, Or.inr rfl, Or.inr rfl, Or.inl rfl, trivial⟩
            · have h := h.2 hc
              refine r_aload_n (x := t) d_X9_tellsPolynomial_96 rfl o_t.1 ?_
              refine r_iconst (x := 3) d_X9_tellsPolynomial_97 ⟨by decide, by decide⟩ ?_
              refine r_iload (x := x5) d_X9_tellsPolynomial_98 rfl ?_
              refine x_callVI (Y2 := mX9_note) (c := t) (As := [(0, 3), (0, x5)]) (S := []) d_X9_tellsPolynomial_100 ok_mX9_note ml_X9_39 rfl (Nat.le_of_ble_eq_true rfl) (Nat.le_of_ble_eq_true rfl) rfl hd_1 kX9 o_t (c_X9_note (v_X9_note_0 o_t ?_))
              intro τ21 eτ21
              have h := h τ21 eτ21
              intro τ22 eτ22
              have h := h τ22 eτ22
              refine ⟨fun hc => ?_, fun hc => ?_⟩
              · have h := h.1 hc
                show WP l mX9_tellsPolynomial (rm d 0 0) noX _ 0 0 103 [(2, t), (0, x1), (0, x2), (0, 0), (0, y19), (0, x5), (0, v10)] [(0, 0)] N Λ τ22
                exact r_iret d_X9_tellsPolynomial_103 rfl (by decide) (Nat.le_refl 0) (Nat.le_refl 0) ⟨_, rfl, rfl, rfl, h⟩
              · have h := h.2 hc
                show WP l mX9_tellsPolynomial (rm d 0 0) noX _ 0 0 103 [(2, t), (0, x1), (0, x2), (0, 0), (0, y19), (0, x5), (0, v10)] [(0, 1)] N Λ τ22
                exact r_iret d_X9_tellsPolynomial_103 rfl (by decide) (Nat.le_refl 0) (Nat.le_refl 0) ⟨_, rfl, rfl, rfl, h⟩
      · have h := h.2 hc
        refine r_iload_n (x := x3) d_X9_tellsPolynomial_49 rfl ?_
        refine r_iconst (x := 1) d_X9_tellsPolynomial_50 ⟨by decide, by decide⟩ ?_
        refine r_iadd d_X9_tellsPolynomial_51 ?_
        refine r_goto (tgt := 56) d_X9_tellsPolynomial_52 rfl ?_
        refine r_nm (fun y23 ey23 => ?_)
        have h := h y23 ey23
        refine r_istore_n (L2 := [(2, t), (0, x1), (0, x2), (0, y23), (0, x4), (0, x5), (0, v10)]) d_X9_tellsPolynomial_56 (by decide) rfl rfl ?_
        refine r_iload_n (x := y23) d_X9_tellsPolynomial_57 rfl ?_
        refine r_iconst (x := 4) d_X9_tellsPolynomial_58 ⟨by decide, by decide⟩ ?_
        refine r_ic_le (tgt := 72) d_X9_tellsPolynomial_59 rfl (fun hc => ?_) (fun hc => ?_)
        · have h := h.1 hc
          refine r_iload (x := v10) d_X9_tellsPolynomial_72 rfl ?_
          refine r_iconst (x := 1) d_X9_tellsPolynomial_74 ⟨by decide, by decide⟩ ?_
          refine r_ic_ne (tgt := 81) d_X9_tellsPolynomial_75 rfl (fun hc => ?_) (fun hc => ?_)
          · have h := h.1 hc
            refine r_iload (x := v10) d_X9_tellsPolynomial_81 rfl ?_
            refine r_iconst (x := 3) d_X9_tellsPolynomial_83 ⟨by decide, by decide⟩ ?_
            refine r_ic_ne (tgt := 90) d_X9_tellsPolynomial_84 rfl (fun hc => ?_) (fun hc => ?_)
            · have h := h.1 hc
              refine r_iload (x := x4) d_X9_tellsPolynomial_90 rfl ?_
              refine r_iconst (x := 4) d_X9_tellsPolynomial_92 ⟨by decide, by decide⟩ ?_
              refine r_ic_le (tgt := 104) d_X9_tellsPolynomial_93 rfl (fun hc => ?_) (fun hc => ?_)
              · have h := h.1 hc
                refine r_iload (x := v10) d_X9_tellsPolynomial_104 rfl ?_
                refine r_istore_n (L2 := [(2, t), (0, x1), (0, v10), (0, y23), (0, x4), (0, x5), (0, v10)]) d_X9_tellsPolynomial_106 (by decide) rfl rfl ?_
                refine x_iinc (x := x5) (L := [(2, t), (0, x1), (0, v10), (0, y23), (0, x4), (0, x5), (0, v10)]) d_X9_tellsPolynomial_107 rfl (by decide) rfl (fun y24 ey24 => ?_)
                have h := h y24 ey24
                show WP _ _ _ _ _ _ _ _ [(2, t), (0, x1), (0, v10), (0, y23), (0, x4), (0, y24), (0, v10)] _ _ _ _
                refine r_goto (tgt := 10) d_X9_tellsPolynomial_110 rfl ?_
                exact x_mask h ⟨Or.inr rfl, Or.inr rfl, Or.inr rfl, Or.inr rfl, Or.inr rfl, Or.inr rfl, Or.inl rfl, trivial⟩
              · have h := h.2 hc
                refine r_aload_n (x := t) d_X9_tellsPolynomial_96 rfl o_t.1 ?_
                refine r_iconst (x := 3) d_X9_tellsPolynomial_97 ⟨by decide, by decide⟩ ?_
                refine r_iload (x := x5) d_X9_tellsPolynomial_98 rfl ?_
                refine x_callVI (Y2 := mX9_note) (c := t) (As := [(0, 3), (0, x5)]) (S := []) d_X9_tellsPolynomial_100 ok_mX9_note ml_X9_39 rfl (Nat.le_of_ble_eq_true rfl) (Nat.le_of_ble_eq_true rfl) rfl hd_1 kX9 o_t (c_X9_note (v_X9_note_0 o_t ?_))
                intro τ25 eτ25
                have h := h τ25 eτ25
                intro τ26 eτ26
                have h := h τ26 eτ26
                refine ⟨fun hc => ?_, fun hc => ?_⟩
                · have h := h.1 hc
                  show WP l mX9_tellsPolynomial (rm d 0 0) noX _ 0 0 103 [(2, t), (0, x1), (0, x2), (0, y23), (0, x4), (0, x5), (0, v10)] [(0, 0)] N Λ τ26
                  exact r_iret d_X9_tellsPolynomial_103 rfl (by decide) (Nat.le_refl 0) (Nat.le_refl 0) ⟨_, rfl, rfl, rfl, h⟩
                · have h := h.2 hc
                  show WP l mX9_tellsPolynomial (rm d 0 0) noX _ 0 0 103 [(2, t), (0, x1), (0, x2), (0, y23), (0, x4), (0, x5), (0, v10)] [(0, 1)] N Λ τ26
                  exact r_iret d_X9_tellsPolynomial_103 rfl (by decide) (Nat.le_refl 0) (Nat.le_refl 0) ⟨_, rfl, rfl, rfl, h⟩
            · have h := h.2 hc
              refine x_iinc (x := x4) (L := [(2, t), (0, x1), (0, x2), (0, y23), (0, x4), (0, x5), (0, v10)]) d_X9_tellsPolynomial_87 rfl (by decide) rfl (fun y27 ey27 => ?_)
              have h := h y27 ey27
              show WP _ _ _ _ _ _ _ _ [(2, t), (0, x1), (0, x2), (0, y23), (0, y27), (0, x5), (0, v10)] _ _ _ _
              refine r_iload (x := y27) d_X9_tellsPolynomial_90 rfl ?_
              refine r_iconst (x := 4) d_X9_tellsPolynomial_92 ⟨by decide, by decide⟩ ?_
              refine r_ic_le (tgt := 104) d_X9_tellsPolynomial_93 rfl (fun hc => ?_) (fun hc => ?_)
              · have h := h.1 hc
                refine r_iload (x := v10) d_X9_tellsPolynomial_104 rfl ?_
                refine r_istore_n (L2 := [(2, t), (0, x1), (0, v10), (0, y23), (0, y27), (0, x5), (0, v10)]) d_X9_tellsPolynomial_106 (by decide) rfl rfl ?_
                refine x_iinc (x := x5) (L := [(2, t), (0, x1), (0, v10), (0, y23), (0, y27), (0, x5), (0, v10)]) d_X9_tellsPolynomial_107 rfl (by decide) rfl (fun y28 ey28 => ?_)
                have h := h y28 ey28
                show WP _ _ _ _ _ _ _ _ [(2, t), (0, x1), (0, v10), (0, y23), (0, y27), (0, y28), (0, v10)] _ _ _ _
                refine r_goto (tgt := 10) d_X9_tellsPolynomial_110 rfl ?_
                exact x_mask h ⟨Or.inr rfl, Or.inr rfl, Or.inr rfl, Or.inr rfl, Or.inr rfl, Or.inr rfl, Or.inl rfl, trivial⟩
              · have h := h.2 hc
                refine r_aload_n (x := t) d_X9_tellsPolynomial_96 rfl o_t.1 ?_
                refine r_iconst (x := 3) d_X9_tellsPolynomial_97 ⟨by decide, by decide⟩ ?_
                refine r_iload (x := x5) d_X9_tellsPolynomial_98 rfl ?_
                refine x_callVI (Y2 := mX9_note) (c := t) (As := [(0, 3), (0, x5)]) (S := []) d_X9_tellsPolynomial_100 ok_mX9_note ml_X9_39 rfl (Nat.le_of_ble_eq_true rfl) (Nat.le_of_ble_eq_true rfl) rfl hd_1 kX9 o_t (c_X9_note (v_X9_note_0 o_t ?_))
                intro τ29 eτ29
                have h := h τ29 eτ29
                intro τ30 eτ30
                have h := h τ30 eτ30
                refine ⟨fun hc => ?_, fun hc => ?_⟩
                · have h := h.1 hc
                  show WP l mX9_tellsPolynomial (rm d 0 0) noX _ 0 0 103 [(2, t), (0, x1), (0, x2), (0, y23), (0, y27), (0, x5), (0, v10)] [(0, 0)] N Λ τ30
                  exact r_iret d_X9_tellsPolynomial_103 rfl (by decide) (Nat.le_refl 0) (Nat.le_refl 0) ⟨_, rfl, rfl, rfl, h⟩
                · have h := h.2 hc
                  show WP l mX9_tellsPolynomial (rm d 0 0) noX _ 0 0 103 [(2, t), (0, x1), (0, x2), (0, y23), (0, y27), (0, x5), (0, v10)] [(0, 1)] N Λ τ30
                  exact r_iret d_X9_tellsPolynomial_103 rfl (by decide) (Nat.le_refl 0) (Nat.le_refl 0) ⟨_, rfl, rfl, rfl, h⟩
          · have h := h.2 hc
            refine r_iconst (x := 0) d_X9_tellsPolynomial_78 ⟨by decide, by decide⟩ ?_
            refine r_istore (L2 := [(2, t), (0, x1), (0, x2), (0, y23), (0, 0), (0, x5), (0, v10)]) d_X9_tellsPolynomial_79 (by decide) rfl rfl ?_
            refine r_iload (x := v10) d_X9_tellsPolynomial_81 rfl ?_
            refine r_iconst (x := 3) d_X9_tellsPolynomial_83 ⟨by decide, by decide⟩ ?_
            refine r_ic_ne (tgt := 90) d_X9_tellsPolynomial_84 rfl (fun hc => ?_) (fun hc => ?_)
            · have h := h.1 hc
              refine r_iload (x := 0) d_X9_tellsPolynomial_90 rfl ?_
              refine r_iconst (x := 4) d_X9_tellsPolynomial_92 ⟨by decide, by decide⟩ ?_
              refine r_ic_le (tgt := 104) d_X9_tellsPolynomial_93 rfl (fun _ => ?_) (fun hc => absurd hc (by decide))
              refine r_iload (x := v10) d_X9_tellsPolynomial_104 rfl ?_
              refine r_istore_n (L2 := [(2, t), (0, x1), (0, v10), (0, y23), (0, 0), (0, x5), (0, v10)]) d_X9_tellsPolynomial_106 (by decide) rfl rfl ?_
              refine x_iinc (x := x5) (L := [(2, t), (0, x1), (0, v10), (0, y23), (0, 0), (0, x5), (0, v10)]) d_X9_tellsPolynomial_107 rfl (by decide) rfl (fun y31 ey31 => ?_)
              have h := h y31 ey31
              show WP _ _ _ _ _ _ _ _ [(2, t), (0, x1), (0, v10), (0, y23), (0, 0), (0, y31), (0, v10)] _ _ _ _
              refine r_goto (tgt := 10) d_X9_tellsPolynomial_110 rfl ?_
              exact x_mask h ⟨Or.inr rfl, Or.inr rfl, Or.inr rfl, Or.inr rfl, Or.inr rfl, Or.inr rfl, Or.inl rfl, trivial⟩
            · have h := h.2 hc
              refine x_iinc (x := 0) (L := [(2, t), (0, x1), (0, x2), (0, y23), (0, 0), (0, x5), (0, v10)]) d_X9_tellsPolynomial_87 rfl (by decide) rfl (fun y32 ey32 => ?_)
              have h := h y32 ey32
              show WP _ _ _ _ _ _ _ _ [(2, t), (0, x1), (0, x2), (0, y23), (0, y32), (0, x5), (0, v10)] _ _ _ _
              refine r_iload (x := y32) d_X9_tellsPolynomial_90 rfl ?_
              refine r_iconst (x := 4) d_X9_tellsPolynomial_92 ⟨by decide, by decide⟩ ?_
              refine r_ic_le (tgt := 104) d_X9_tellsPolynomial_93 rfl (fun hc => ?_) (fun hc => ?_)
              · have h := h.1 hc
                refine r_iload (x := v10) d_X9_tellsPolynomial_104 rfl ?_
                refine r_istore_n (L2 := [(2, t), (0, x1), (0, v10), (0, y23), (0, y32), (0, x5), (0, v10)]) d_X9_tellsPolynomial_106 (by decide) rfl rfl ?_
                refine x_iinc (x := x5) (L := [(2, t), (0, x1), (0, v10), (0, y23), (0, y32), (0, x5), (0, v10)]) d_X9_tellsPolynomial_107 rfl (by decide) rfl (fun y33 ey33 => ?_)
                have h := h y33 ey33
                show WP _ _ _ _ _ _ _ _ [(2, t), (0, x1), (0, v10), (0, y23), (0, y32), (0, y33), (0, v10)] _ _ _ _
                refine r_goto (tgt := 10) d_X9_tellsPolynomial_110 rfl ?_
                exact x_mask h ⟨Or.inr rfl, Or.inr rfl, Or.inr rfl, Or.inr rfl, Or.inr rfl, Or.inr rfl, Or.inl rfl, trivial⟩
              · have h := h.2 hc
                refine r_aload_n (x := t) d_X9_tellsPolynomial_96 rfl o_t.1 ?_
                refine r_iconst (x := 3) d_X9_tellsPolynomial_97 ⟨by decide, by decide⟩ ?_
                refine r_iload (x := x5) d_X9_tellsPolynomial_98 rfl ?_
                refine x_callVI (Y2 := mX9_note) (c := t) (As := [(0, 3), (0, x5)]) (S := []) d_X9_tellsPolynomial_100 ok_mX9_note ml_X9_39 rfl (Nat.le_of_ble_eq_true rfl) (Nat.le_of_ble_eq_true rfl) rfl hd_1 kX9 o_t (c_X9_note (v_X9_note_0 o_t ?_))
                intro τ34 eτ34
                have h := h τ34 eτ34
                intro τ35 eτ35
                have h := h τ35 eτ35
                refine ⟨fun hc => ?_, fun hc => ?_⟩
                · have h := h.1 hc
                  show WP l mX9_tellsPolynomial (rm d 0 0) noX _ 0 0 103 [(2, t), (0, x1), (0, x2), (0, y23), (0, y32), (0, x5), (0, v10)] [(0, 0)] N Λ τ35
                  exact r_iret d_X9_tellsPolynomial_103 rfl (by decide) (Nat.le_refl 0) (Nat.le_refl 0) ⟨_, rfl, rfl, rfl, h⟩
                · have h := h.2 hc
                  show WP l mX9_tellsPolynomial (rm d 0 0) noX _ 0 0 103 [(2, t), (0, x1), (0, x2), (0, y23), (0, y32), (0, x5), (0, v10)] [(0, 1)] N Λ τ35
                  exact r_iret d_X9_tellsPolynomial_103 rfl (by decide) (Nat.le_refl 0) (Nat.le_refl 0) ⟨_, rfl, rfl, rfl, h⟩
        · have h := h.2 hc
          refine r_aload_n (x := t) d_X9_tellsPolynomial_62 rfl o_t.1 ?_
          refine r_iconst (x := 2) d_X9_tellsPolynomial_63 ⟨by decide, by decide⟩ ?_
          refine r_iload (x := x5) d_X9_tellsPolynomial_64 rfl ?_
          refine r_iconst (x := 4) d_X9_tellsPolynomial_66 ⟨by decide, by decide⟩ ?_
          refine r_isub d_X9_tellsPolynomial_67 ?_
          refine x_callVI (Y2 := mX9_note) (c := t) (As := [(0, 2), (0, (subI x5 4))]) (S := []) d_X9_tellsPolynomial_68 ok_mX9_note ml_X9_39 rfl (Nat.le_of_ble_eq_true rfl) (Nat.le_of_ble_eq_true rfl) rfl hd_1 kX9 o_t (c_X9_note (v_X9_note_0 o_t ?_))
          intro τ36 eτ36
          have h := h τ36 eτ36
          intro τ37 eτ37
          have h := h τ37 eτ37
          refine ⟨fun hc => ?_, fun hc => ?_⟩
          · have h := h.1 hc
            show WP l mX9_tellsPolynomial (rm d 0 0) noX _ 0 0 71 [(2, t), (0, x1), (0, x2), (0, y23), (0, x4), (0, x5), (0, v10)] [(0, 0)] N Λ τ37
            exact r_iret d_X9_tellsPolynomial_71 rfl (by decide) (Nat.le_refl 0) (Nat.le_refl 0) ⟨_, rfl, rfl, rfl, h⟩
          · have h := h.2 hc
            show WP l mX9_tellsPolynomial (rm d 0 0) noX _ 0 0 71 [(2, t), (0, x1), (0, x2), (0, y23), (0, x4), (0, x5), (0, v10)] [(0, 1)] N Λ τ37
            exact r_iret d_X9_tellsPolynomial_71 rfl (by decide) (Nat.le_refl 0) (Nat.le_refl 0) ⟨_, rfl, rfl, rfl, h⟩
    · have h := h.2 hc
      refine r_aload_n (x := t) d_X9_tellsPolynomial_35 rfl o_t.1 ?_
      refine r_iconst (x := 1) d_X9_tellsPolynomial_36 ⟨by decide, by decide⟩ ?_
      refine r_iload (x := x5) d_X9_tellsPolynomial_37 rfl ?_
      refine x_callVI (Y2 := mX9_note) (c := t) (As := [(0, 1), (0, x5)]) (S := []) d_X9_tellsPolynomial_39 ok_mX9_note ml_X9_39 rfl (Nat.le_of_ble_eq_true rfl) (Nat.le_of_ble_eq_true rfl) rfl hd_1 kX9 o_t (c_X9_note (v_X9_note_0 o_t ?_))
      intro τ38 eτ38
      have h := h τ38 eτ38
      intro τ39 eτ39
      have h := h τ39 eτ39
      refine ⟨fun hc => ?_, fun hc => ?_⟩
      · have h := h.1 hc
        show WP l mX9_tellsPolynomial (rm d 0 0) noX _ 0 0 42 [(2, t), (0, x1), (0, x2), (0, x3), (0, x4), (0, x5), (0, v10)] [(0, 0)] N Λ τ39
        exact r_iret d_X9_tellsPolynomial_42 rfl (by decide) (Nat.le_refl 0) (Nat.le_refl 0) ⟨_, rfl, rfl, rfl, h⟩
      · have h := h.2 hc
        show WP l mX9_tellsPolynomial (rm d 0 0) noX _ 0 0 42 [(2, t), (0, x1), (0, x2), (0, x3), (0, x4), (0, x5), (0, v10)] [(0, 1)] N Λ τ39
        exact r_iret d_X9_tellsPolynomial_42 rfl (by decide) (Nat.le_refl 0) (Nat.le_refl 0) ⟨_, rfl, rfl, rfl, h⟩
theorem v_X9_layRead_0 {l : Launch} {d N : Nat} {Λ : Lay} {P : Int → Mem → Prop} {σ : Mem} {x2 x3 a1 t t_term : Int} (o_a1 : Ob N Λ a1 15 3) (o_t : Ob N Λ t 18 6) (f_t_term : (Λ t).2.2 5 = t_term) (o_t_term : Ob N Λ t_term 19 2) (h0d : 1 ≤ d)
    (h : ((¬ x3 = (-1) → (CI l mX5_lay (d - 1) [(2, a1), (1, (σ t_term 0)), (1, (mulL (mulL x2 x3) (σ t_term 1)))] N Λ σ (fun v2 σ1 => P v2 σ1))) ∧ (x3 = (-1) → (CI l mX5_lay (d - 1) [(2, a1), (1, (σ t_term 0)), (1, (mulL (mulL x2 1) (σ t_term 1)))] N Λ σ (fun v4 σ3 => P v4 σ3))))) :
    WI l mX9_layRead d P 0 [(2, t), (2, a1), (0, x2), (0, x3), (3, 0), (3, 0)] [] N Λ σ := by
  have hd_1 : 1 ≤ d := Nat.le_trans (by decide) h0d
  refine r_iload_n (x := x3) d_X9_layRead_0 rfl ?_
  refine r_iconst (x := (-1)) d_X9_layRead_1 ⟨by decide, by decide⟩ ?_
  refine r_ic_ne (tgt := 9) d_X9_layRead_2 rfl (fun hc => ?_) (fun hc => ?_)
  · have h := h.1 hc
    refine r_iload_n (x := x3) d_X9_layRead_9 rfl ?_
    refine r_i2l d_X9_layRead_10 ?_
    refine r_lstore (L2 := [(2, t), (2, a1), (0, x2), (0, x3), (1, x3), (3, 0)]) d_X9_layRead_11 (by decide) rfl rfl ?_
    refine r_aload_n (x := a1) d_X9_layRead_13 rfl o_a1.1 ?_
    refine r_aload_n (x := t) d_X9_layRead_14 rfl o_t.1 ?_
    refine r_getf (j := 5) (t := 2) (x := t_term) d_X9_layRead_15 kX9 (by decide) fl_X9_31 o_t.1 o_t.2.1 o_t.2.2.1 o_t.2.2.2 rfl f_t_term ?_
    refine r_getf (j := 0) (t := 1) (x := (σ t_term 0)) d_X9_layRead_18 kX10 (by decide) fl_X9_81 o_t_term.1 o_t_term.2.1 o_t_term.2.2.1 o_t_term.2.2.2 rfl rfl ?_
    refine r_iload_n (x := x2) d_X9_layRead_21 rfl ?_
    refine r_i2l d_X9_layRead_22 ?_
    refine r_lload (x := x3) d_X9_layRead_23 rfl ?_
    refine r_lmul d_X9_layRead_25 ?_
    refine r_aload_n (x := t) d_X9_layRead_26 rfl o_t.1 ?_
    refine r_getf (j := 5) (t := 2) (x := t_term) d_X9_layRead_27 kX9 (by decide) fl_X9_31 o_t.1 o_t.2.1 o_t.2.2.1 o_t.2.2.2 rfl f_t_term ?_
    refine r_getf (j := 1) (t := 0) (x := (σ t_term 1)) d_X9_layRead_30 kX10 (by decide) fl_X9_85 o_t_term.1 o_t_term.2.1 o_t_term.2.2.1 o_t_term.2.2.2 rfl rfl ?_
    refine r_i2l d_X9_layRead_33 ?_
    refine r_lmul d_X9_layRead_34 ?_
    refine x_callVI (Y2 := mX5_lay) (c := a1) (As := [(1, (σ t_term 0)), (1, (mulL (mulL x2 x3) (σ t_term 1)))]) (S := []) d_X9_layRead_35 ok_mX5_lay ml_X9_88 rfl (Nat.le_of_ble_eq_true rfl) (Nat.le_of_ble_eq_true rfl) rfl hd_1 kX5 o_a1 (CI.mono h (fun v2 σ1 h => ?_))
    exact r_iret d_X9_layRead_38 rfl rfl (Nat.le_refl 0) (Nat.le_refl 0) ⟨_, rfl, rfl, rfl, h⟩
  · have h := h.2 hc
    refine r_lconst d_X9_layRead_5 ?_
    skip
    refine r_goto (tgt := 11) d_X9_layRead_6 rfl ?_
    refine r_lstore (L2 := [(2, t), (2, a1), (0, x2), (0, x3), (1, 1), (3, 0)]) d_X9_layRead_11 (by decide) rfl rfl ?_
    refine r_aload_n (x := a1) d_X9_layRead_13 rfl o_a1.1 ?_
    refine r_aload_n (x := t) d_X9_layRead_14 rfl o_t.1 ?_
    refine r_getf (j := 5) (t := 2) (x := t_term) d_X9_layRead_15 kX9 (by decide) fl_X9_31 o_t.1 o_t.2.1 o_t.2.2.1 o_t.2.2.2 rfl f_t_term ?_
    refine r_getf (j := 0) (t := 1) (x := (σ t_term 0)) d_X9_layRead_18 kX10 (by decide) fl_X9_81 o_t_term.1 o_t_term.2.1 o_t_term.2.2.1 o_t_term.2.2.2 rfl rfl ?_
    refine r_iload_n (x := x2) d_X9_layRead_21 rfl ?_
    refine r_i2l d_X9_layRead_22 ?_
    refine r_lload (x := 1) d_X9_layRead_23 rfl ?_
    refine r_lmul d_X9_layRead_25 ?_
    refine r_aload_n (x := t) d_X9_layRead_26 rfl o_t.1 ?_
    refine r_getf (j := 5) (t := 2) (x := t_term) d_X9_layRead_27 kX9 (by decide) fl_X9_31 o_t.1 o_t.2.1 o_t.2.2.1 o_t.2.2.2 rfl f_t_term ?_
    refine r_getf (j := 1) (t := 0) (x := (σ t_term 1)) d_X9_layRead_30 kX10 (by decide) fl_X9_85 o_t_term.1 o_t_term.2.1 o_t_term.2.2.1 o_t_term.2.2.2 rfl rfl ?_
    refine r_i2l d_X9_layRead_33 ?_
    refine r_lmul d_X9_layRead_34 ?_
    refine x_callVI (Y2 := mX5_lay) (c := a1) (As := [(1, (σ t_term 0)), (1, (mulL (mulL x2 1) (σ t_term 1)))]) (S := []) d_X9_layRead_35 ok_mX5_lay ml_X9_88 rfl (Nat.le_of_ble_eq_true rfl) (Nat.le_of_ble_eq_true rfl) rfl hd_1 kX5 o_a1 (CI.mono h (fun v4 σ3 h => ?_))
    exact r_iret d_X9_layRead_38 rfl rfl (Nat.le_refl 0) (Nat.le_refl 0) ⟨_, rfl, rfl, rfl, h⟩
theorem v_X9_readPolynomial_0 {l : Launch} {d N : Nat} {Λ : Lay} {P : Int → Mem → Prop} {σ : Mem} {x1 a2 t t_term : Int} (o_a2 : Ob N Λ a2 15 3) (o_t : Ob N Λ t 18 6) (f_t_term : (Λ t).2.2 5 = t_term) (o_t_term : Ob N Λ t_term 19 2) (h0d : 1 ≤ d)
    (h : (∀ τ1, τ1 = st σ a2 2 0 → (∀ τ2, τ2 = st τ1 t_term 0 0 → (∀ τ3, τ3 = st τ2 t_term 1 1 → WI l mX9_readPolynomial d P 23 [(2, t), (0, x1), (2, a2), (0, 0), (0, 1), (0, (-1)), (0, 0), (3, 0)] [] N Λ τ3)))) :
    WI l mX9_readPolynomial d P 0 [(2, t), (0, x1), (2, a2), (3, 0), (3, 0), (3, 0), (3, 0), (3, 0)] [] N Λ σ := by
  have hd_1 : 1 ≤ d := Nat.le_trans (by decide) h0d
  refine r_aload_n (x := a2) d_X9_readPolynomial_0 rfl o_a2.1 ?_
  refine x_callVV (Y2 := mX5_empty) (c := a2) (As := []) (S := []) d_X9_readPolynomial_1 ok_mX5_empty ml_X9_53 rfl (Nat.le_of_ble_eq_true rfl) (Nat.le_of_ble_eq_true rfl) rfl hd_1 kX5 o_a2 (c_X5_empty (v_X5_empty_0 o_a2 ?_))
  intro τ1 eτ1
  have h := h τ1 eτ1
  show WP l mX9_readPolynomial (rm d 0 0) noX _ 0 0 4 [(2, t), (0, x1), (2, a2), (3, 0), (3, 0), (3, 0), (3, 0), (3, 0)] [] N Λ τ1
  refine r_aload_n (x := t) d_X9_readPolynomial_4 rfl o_t.1 ?_
  refine r_getf (j := 5) (t := 2) (x := t_term) d_X9_readPolynomial_5 kX9 (by decide) fl_X9_31 o_t.1 o_t.2.1 o_t.2.2.1 o_t.2.2.2 rfl f_t_term ?_
  refine r_lconst d_X9_readPolynomial_8 ?_
  skip
  refine x_callVV (Y2 := mX10_begin) (c := t_term) (As := [(1, 0)]) (S := []) d_X9_readPolynomial_9 ok_mX10_begin ml_X9_58 rfl (Nat.le_of_ble_eq_true rfl) (Nat.le_of_ble_eq_true rfl) rfl hd_1 kX10 o_t_term (c_X10_begin (v_X10_begin_0 o_t_term ?_))
  intro τ2 eτ2
  have h := h τ2 eτ2
  intro τ3 eτ3
  have h := h τ3 eτ3
  show WP l mX9_readPolynomial (rm d 0 0) noX _ 0 0 12 [(2, t), (0, x1), (2, a2), (3, 0), (3, 0), (3, 0), (3, 0), (3, 0)] [] N Λ τ3
  refine r_iconst (x := 0) d_X9_readPolynomial_12 ⟨by decide, by decide⟩ ?_
  refine r_istore_n (L2 := [(2, t), (0, x1), (2, a2), (0, 0), (3, 0), (3, 0), (3, 0), (3, 0)]) d_X9_readPolynomial_13 (by decide) rfl rfl ?_
  refine r_iconst (x := 1) d_X9_readPolynomial_14 ⟨by decide, by decide⟩ ?_
  refine r_istore (L2 := [(2, t), (0, x1), (2, a2), (0, 0), (0, 1), (3, 0), (3, 0), (3, 0)]) d_X9_readPolynomial_15 (by decide) rfl rfl ?_
  refine r_iconst (x := (-1)) d_X9_readPolynomial_17 ⟨by decide, by decide⟩ ?_
  refine r_istore (L2 := [(2, t), (0, x1), (2, a2), (0, 0), (0, 1), (0, (-1)), (3, 0), (3, 0)]) d_X9_readPolynomial_18 (by decide) rfl rfl ?_
  refine r_iconst (x := 0) d_X9_readPolynomial_20 ⟨by decide, by decide⟩ ?_
  refine r_istore (L2 := [(2, t), (0, x1), (2, a2), (0, 0), (0, 1), (0, (-1)), (0, 0), (3, 0)]) d_X9_readPolynomial_21 (by decide) rfl rfl ?_
  exact h
theorem v_X9_readPolynomial_23 {l : Launch} {d N : Nat} {Λ : Lay} {P : Int → Mem → Prop} {σ : Mem} {x1 x3 x4 x5 x6 a2 t t_bytes t_term : Int} (o_t : Ob N Λ t 18 6) (o_a2 : Ob N Λ a2 15 3) (f_t_term : (Λ t).2.2 5 = t_term) (o_t_term : Ob N Λ t_term 19 2) (f_t_bytes : (Λ t).2.2 0 = t_bytes) (h0d : 2 ≤ d)
    (h : ((x1 ≤ x6 → ((¬ x3 = 0 → P x3 σ) ∧ (x3 = 0 → ((x1 ≤ 0 → P x3 σ) ∧ (¬ (x1 ≤ 0) → ((¬ x5 = (-1) → (CI l mX5_lay (d - 1 - 1) [(2, a2), (1, (σ t_term 0)), (1, (mulL (mulL x4 x5) (σ t_term 1)))] N Λ σ (fun v1 σ2 => P v1 σ2))) ∧ (x5 = (-1) → (CI l mX5_lay (d - 1 - 1) [(2, a2), (1, (σ t_term 0)), (1, (mulL (mulL x4 1) (σ t_term 1)))] N Λ σ (fun v3 σ4 => P v3 σ4))))))))) ∧ (¬ (x1 ≤ x6) → ((¬ x3 = 0 → ((¬ x3 = 0 → P x3 σ) ∧ (x3 = 0 → ((x1 ≤ 0 → P x3 σ) ∧ (¬ (x1 ≤ 0) → ((¬ x5 = (-1) → (CI l mX5_lay (d - 1 - 1) [(2, a2), (1, (σ t_term 0)), (1, (mulL (mulL x4 x5) (σ t_term 1)))] N Λ σ (fun v5 σ6 => P v5 σ6))) ∧ (x5 = (-1) → (CI l mX5_lay (d - 1 - 1) [(2, a2), (1, (σ t_term 0)), (1, (mulL (mulL x4 1) (σ t_term 1)))] N Λ σ (fun v7 σ8 => P v7 σ8))))))))) ∧ (x3 = 0 → (Ix N Λ t_bytes 0 x6 ∧ (∀ y9, y9 = (σ t_bytes x6) → ((y9 = 43 → ((¬ x6 = 0 → ((¬ x5 = (-1) → (CI l mX5_lay (d - 1 - 1) [(2, a2), (1, (σ t_term 0)), (1, (mulL (mulL x4 x5) (σ t_term 1)))] N Λ σ (fun v10 σ11 => (∀ τ12, τ12 = st σ11 t_term 0 0 → (∀ τ13, τ13 = st τ12 t_term 1 1 → ((¬ y9 = 45 → (∀ y14, y14 = addI x6 1 → WI l mX9_readPolynomial d P 23 [(2, t), (0, x1), (2, a2), (0, v10), (0, 1), (0, (-1)), (0, y14), (3, 0)] [] N Λ τ13)) ∧ (y9 = 45 → (∀ y15, y15 = addI x6 1 → WI l mX9_readPolynomial d P 23 [(2, t), (0, x1), (2, a2), (0, v10), (0, (-1)), (0, (-1)), (0, y15), (3, 0)] [] N Λ τ13)))))))) ∧ (x5 = (-1) → (CI l mX5_lay (d - 1 - 1) [(2, a2), (1, (σ t_term 0)), (1, (mulL (mulL x4 1) (σ t_term 1)))] N Λ σ (fun v16 σ17 => (∀ τ18, τ18 = st σ17 t_term 0 0 → (∀ τ19, τ19 = st τ18 t_term 1 1 → ((¬ y9 = 45 → (∀ y20, y20 = addI x6 1 → WI l mX9_readPolynomial d P 23 [(2, t), (0, x1), (2, a2), (0, v16), (0, 1), (0, (-1)), (0, y20), (3, 0)] [] N Λ τ19)) ∧ (y9 = 45 → (∀ y21, y21 = addI x6 1 → WI l mX9_readPolynomial d P 23 [(2, t), (0, x1), (2, a2), (0, v16), (0, (-1)), (0, (-1)), (0, y21), (3, 0)] [] N Λ τ19)))))))))) ∧ (x6 = 0 → (∀ τ22, τ22 = st σ t_term 0 0 → (∀ τ23, τ23 = st τ22 t_term 1 1 → ((¬ y9 = 45 → (∀ y24, y24 = addI x6 1 → WI l mX9_readPolynomial d P 23 [(2, t), (0, x1), (2, a2), (0, 0), (0, 1), (0, (-1)), (0, y24), (3, 0)] [] N Λ τ23)) ∧ (y9 = 45 → (∀ y25, y25 = addI x6 1 → WI l mX9_readPolynomial d P 23 [(2, t), (0, x1), (2, a2), (0, 0), (0, (-1)), (0, (-1)), (0, y25), (3, 0)] [] N Λ τ23)))))))) ∧ (¬ (y9 = 43) → ((¬ y9 = 45 → ((y9 < 48 → ((¬ y9 = 91 → (∀ y26, y26 = addI x6 1 → WI l mX9_readPolynomial d P 23 [(2, t), (0, x1), (2, a2), (0, x3), (0, x4), (0, x5), (0, y26), (3, 0)] [] N Λ σ)) ∧ (y9 = 91 → ((x1 ≤ (addI x6 3) → (∀ y27, y27 = addI x6 1 → WI l mX9_readPolynomial d P 23 [(2, t), (0, x1), (2, a2), (0, x3), (0, x4), (0, x5), (0, y27), (3, 0)] [] N Λ σ)) ∧ (¬ (x1 ≤ (addI x6 3)) → (Ix N Λ t_bytes 0 (addI x6 1) ∧ (Ix N Λ t_bytes 0 (addI x6 2) ∧ (Ix N Λ t_bytes 0 (addI x6 3) ∧ (CV l mX10_attach (d - 1) [(2, t_term), (0, (orI (orI (shlI (subI (σ t_bytes (addI x6 1)) 97) 8) (shlI (subI (σ t_bytes (addI x6 2)) 97) 4)) (subI (σ t_bytes (addI x6 3)) 97)))] N Λ σ (fun σ28 => (∀ y29, y29 = addI x6 1 → WI l mX9_readPolynomial d P 23 [(2, t), (0, x1), (2, a2), (0, x3), (0, x4), (0, x5), (0, y29), (3, 0)] [] N Λ σ28))))))))))) ∧ (¬ (y9 < 48) → ((57 < y9 → ((¬ y9 = 91 → (∀ y30, y30 = addI x6 1 → WI l mX9_readPolynomial d P 23 [(2, t), (0, x1), (2, a2), (0, x3), (0, x4), (0, x5), (0, y30), (3, 0)] [] N Λ σ)) ∧ (y9 = 91 → ((x1 ≤ (addI x6 3) → (∀ y31, y31 = addI x6 1 → WI l mX9_readPolynomial d P 23 [(2, t), (0, x1), (2, a2), (0, x3), (0, x4), (0, x5), (0, y31), (3, 0)] [] N Λ σ)) ∧ (¬ (x1 ≤ (addI x6 3)) → (Ix N Λ t_bytes 0 (addI x6 1) ∧ (Ix N Λ t_bytes 0 (addI x6 2) ∧ (Ix N Λ t_bytes 0 (addI x6 3) ∧ (CV l mX10_attach (d - 1) [(2, t_term), (0, (orI (orI (shlI (subI (σ t_bytes (addI x6 1)) 97) 8) (shlI (subI (σ t_bytes (addI x6 2)) 97) 4)) (subI (σ t_bytes (addI x6 3)) 97)))] N Λ σ (fun σ32 => (∀ y33, y33 = addI x6 1 → WI l mX9_readPolynomial d P 23 [(2, t), (0, x1), (2, a2), (0, x3), (0, x4), (0, x5), (0, y33), (3, 0)] [] N Λ σ32))))))))))) ∧ (¬ (57 < y9) → ((x5 < 0 → (∀ y34, y34 = (subI (addI (mulI 10 0) y9) 48) → (∀ y35, y35 = addI x6 1 → WI l mX9_readPolynomial d P 23 [(2, t), (0, x1), (2, a2), (0, x3), (0, x4), (0, y34), (0, y35), (3, 0)] [] N Λ σ))) ∧ (¬ (x5 < 0) → (∀ y36, y36 = (subI (addI (mulI 10 x5) y9) 48) → (∀ y37, y37 = addI x6 1 → WI l mX9_readPolynomial d P 23 [(2, t), (0, x1), (2, a2), (0, x3), (0, x4), (0, y36), (0, y37), (3, 0)] [] N Λ σ))))))))) ∧ (y9 = 45 → ((¬ x6 = 0 → ((¬ x5 = (-1) → (CI l mX5_lay (d - 1 - 1) [(2, a2), (1, (σ t_term 0)), (1, (mulL (mulL x4 x5) (σ t_term 1)))] N Λ σ (fun v38 σ39 => (∀ τ40, τ40 = st σ39 t_term 0 0 → (∀ τ41, τ41 = st τ40 t_term 1 1 → ((¬ y9 = 45 → (∀ y42, y42 = addI x6 1 → WI l mX9_readPolynomial d P 23 [(2, t), (0, x1), (2, a2), (0, v38), (0, 1), (0, (-1)), (0, y42), (3, 0)] [] N Λ τ41)) ∧ (y9 = 45 → (∀ y43, y43 = addI x6 1 → WI l mX9_readPolynomial d P 23 [(2, t), (0, x1), (2, a2), (0, v38), (0, (-1)), (0, (-1)), (0, y43), (3, 0)] [] N Λ τ41)))))))) ∧ (x5 = (-1) → (CI l mX5_lay (d - 1 - 1) [(2, a2), (1, (σ t_term 0)), (1, (mulL (mulL x4 1) (σ t_term 1)))] N Λ σ (fun v44 σ45 => (∀ τ46, τ46 = st σ45 t_term 0 0 → (∀ τ47, τ47 = st τ46 t_term 1 1 → ((¬ y9 = 45 → (∀ y48, y48 = addI x6 1 → WI l mX9_readPolynomial d P 23 [(2, t), (0, x1), (2, a2), (0, v44), (0, 1), (0, (-1)), (0, y48), (3, 0)] [] N Λ τ47)) ∧ (y9 = 45 → (∀ y49, y49 = addI x6 1 → WI l mX9_readPolynomial d P 23 [(2, t), (0, x1), (2, a2), (0, v44), (0, (-1)), (0, (-1)), (0, y49), (3, 0)] [] N Λ τ47)))))))))) ∧ (x6 = 0 → (∀ τ50, τ50 = st σ t_term 0 0 → (∀ τ51, τ51 = st τ50 t_term 1 1 → ((¬ y9 = 45 → (∀ y52, y52 = addI x6 1 → WI l mX9_readPolynomial d P 23 [(2, t), (0, x1), (2, a2), (0, 0), (0, 1), (0, (-1)), (0, y52), (3, 0)] [] N Λ τ51)) ∧ (y9 = 45 → (∀ y53, y53 = addI x6 1 → WI l mX9_readPolynomial d P 23 [(2, t), (0, x1), (2, a2), (0, 0), (0, (-1)), (0, (-1)), (0, y53), (3, 0)] [] N Λ τ51)))))))))))))))))) :
    WI l mX9_readPolynomial d P 23 [(2, t), (0, x1), (2, a2), (0, x3), (0, x4), (0, x5), (0, x6), (3, 0)] [] N Λ σ := by
  have hd_1 : 1 ≤ d := Nat.le_trans (by decide) h0d
  have he_1 : 1 ≤ d - 1 := Nat.le_sub_of_add_le (Nat.le_trans (by decide) h0d)
  refine r_iload (x := x6) d_X9_readPolynomial_23 rfl ?_
  refine r_iload_n (x := x1) d_X9_readPolynomial_25 rfl ?_
  refine r_ic_ge (tgt := 192) d_X9_readPolynomial_26 rfl (fun hc => ?_) (fun hc => ?_)
  · have h := h.1 hc
    refine r_iload_n (x := x3) d_X9_readPolynomial_192 rfl ?_
    refine r_if_ne (tgt := 212) d_X9_readPolynomial_193 rfl (fun hc => ?_) (fun hc => ?_)
    · have h := h.1 hc
      refine r_iload_n (x := x3) d_X9_readPolynomial_212 rfl ?_
      exact r_iret d_X9_readPolynomial_213 rfl rfl (Nat.le_refl 0) (Nat.le_refl 0) ⟨_, rfl, rfl, rfl, h⟩
    · have h := h.2 hc
      refine r_iload_n (x := x1) d_X9_readPolynomial_196 rfl ?_
      refine r_if_le (tgt := 212) d_X9_readPolynomial_197 rfl (fun hc => ?_) (fun hc => ?_)
      · have h := h.1 hc
        refine r_iload_n (x := x3) d_X9_readPolynomial_212 rfl ?_
        exact r_iret d_X9_readPolynomial_213 rfl rfl (Nat.le_refl 0) (Nat.le_refl 0) ⟨_, rfl, rfl, rfl, h⟩
      · have h := h.2 hc
        refine r_aload_n (x := t) d_X9_readPolynomial_200 rfl o_t.1 ?_
        refine r_aload_n (x := a2) d_X9_readPolynomial_201 rfl o_a2.1 ?_
        refine r_iload (x := x4) d_X9_readPolynomial_202 rfl ?_
        refine r_iload (x := x5) d_X9_readPolynomial_204 rfl ?_
        refine x_callVI (Y2 := mX9_layRead) (c := t) (As := [(2, a2), (0, x4), (0, x5)]) (S := []) d_X9_readPolynomial_206 ok_mX9_layRead ml_X9_62 rfl (Nat.le_of_ble_eq_true rfl) (Nat.le_of_ble_eq_true rfl) rfl hd_1 kX9 o_t (c_X9_layRead (v_X9_layRead_0 o_a2 o_t f_t_term o_t_term he_1 ?_))
        refine ⟨fun hc => ?_, fun hc => ?_⟩
        · have h := h.1 hc
          refine CI.mono h (fun v1 σ2 h => ?_)
          show WP l mX9_readPolynomial (rm d 0 0) noX _ 0 0 209 [(2, t), (0, x1), (2, a2), (0, x3), (0, x4), (0, x5), (0, x6), (3, 0)] [(0, v1)] N Λ σ2
          refine r_goto (tgt := 213) d_X9_readPolynomial_209 rfl ?_
          exact r_iret d_X9_readPolynomial_213 rfl rfl (Nat.le_refl 0) (Nat.le_refl 0) ⟨_, rfl, rfl, rfl, h⟩
        · have h := h.2 hc
          refine CI.mono h (fun v3 σ4 h => ?_)
          show WP l mX9_readPolynomial (rm d 0 0) noX _ 0 0 209 [(2, t), (0, x1), (2, a2), (0, x3), (0, x4), (0, x5), (0, x6), (3, 0)] [(0, v3)] N Λ σ4
          refine r_goto (tgt := 213) d_X9_readPolynomial_209 rfl ?_
          exact r_iret d_X9_readPolynomial_213 rfl rfl (Nat.le_refl 0) (Nat.le_refl 0) ⟨_, rfl, rfl, rfl, h⟩
  · have h := h.2 hc
    refine r_iload_n (x := x3) d_X9_readPolynomial_29 rfl ?_
    refine r_if_ne (tgt := 192) d_X9_readPolynomial_30 rfl (fun hc => ?_) (fun hc => ?_)
    · have h := h.1 hc
      refine r_iload_n (x := x3) d_X9_readPolynomial_192 rfl ?_
      refine r_if_ne (tgt := 212) d_X9_readPolynomial_193 rfl (fun hc => ?_) (fun hc => ?_)
      · have h := h.1 hc
        refine r_iload_n (x := x3) d_X9_readPolynomial_212 rfl ?_
        exact r_iret d_X9_readPolynomial_213 rfl rfl (Nat.le_refl 0) (Nat.le_refl 0) ⟨_, rfl, rfl, rfl, h⟩
      · have h := h.2 hc
        refine r_iload_n (x := x1) d_X9_readPolynomial_196 rfl ?_
        refine r_if_le (tgt := 212) d_X9_readPolynomial_197 rfl (fun hc => ?_) (fun hc => ?_)
        · have h := h.1 hc
          refine r_iload_n (x := x3) d_X9_readPolynomial_212 rfl ?_
          exact r_iret d_X9_readPolynomial_213 rfl rfl (Nat.le_refl 0) (Nat.le_refl 0) ⟨_, rfl, rfl, rfl, h⟩
        · have h := h.2 hc
          refine r_aload_n (x := t) d_X9_readPolynomial_200 rfl o_t.1 ?_
          refine r_aload_n (x := a2) d_X9_readPolynomial_201 rfl o_a2.1 ?_
          refine r_iload (x := x4) d_X9_readPolynomial_202 rfl ?_
          refine r_iload (x := x5) d_X9_readPolynomial_204 rfl ?_
          refine x_callVI (Y2 := mX9_layRead) (c := t) (As := [(2, a2), (0, x4), (0, x5)]) (S := []) d_X9_readPolynomial_206 ok_mX9_layRead ml_X9_62 rfl (Nat.le_of_ble_eq_true rfl) (Nat.le_of_ble_eq_true rfl) rfl hd_1 kX9 o_t (c_X9_layRead (v_X9_layRead_0 o_a2 o_t f_t_term o_t_term he_1 ?_))
          refine ⟨fun hc => ?_, fun hc => ?_⟩
          · have h := h.1 hc
            refine CI.mono h (fun v5 σ6 h => ?_)
            show WP l mX9_readPolynomial (rm d 0 0) noX _ 0 0 209 [(2, t), (0, x1), (2, a2), (0, x3), (0, x4), (0, x5), (0, x6), (3, 0)] [(0, v5)] N Λ σ6
            refine r_goto (tgt := 213) d_X9_readPolynomial_209 rfl ?_
            exact r_iret d_X9_readPolynomial_213 rfl rfl (Nat.le_refl 0) (Nat.le_refl 0) ⟨_, rfl, rfl, rfl, h⟩
          · have h := h.2 hc
            refine CI.mono h (fun v7 σ8 h => ?_)
            show WP l mX9_readPolynomial (rm d 0 0) noX _ 0 0 209 [(2, t), (0, x1), (2, a2), (0, x3), (0, x4), (0, x5), (0, x6), (3, 0)] [(0, v7)] N Λ σ8
            refine r_goto (tgt := 213) d_X9_readPolynomial_209 rfl ?_
            exact r_iret d_X9_readPolynomial_213 rfl rfl (Nat.le_refl 0) (Nat.le_refl 0) ⟨_, rfl, rfl, rfl, h⟩
    · have h := h.2 hc
      refine r_aload_n (x := t) d_X9_readPolynomial_33 rfl o_t.1 ?_
      refine r_getf (j := 0) (t := 2) (x := t_bytes) d_X9_readPolynomial_34 kX9 (by decide) fl_X9_9 o_t.1 o_t.2.1 o_t.2.2.1 o_t.2.2.2 rfl f_t_bytes ?_
      refine r_iload (x := x6) d_X9_readPolynomial_37 rfl ?_
      refine x_iald d_X9_readPolynomial_39 h.1 ?_
      have h := h.2
      refine r_nm (fun y9 ey9 => ?_)
      have h := h y9 ey9
      refine r_istore (L2 := [(2, t), (0, x1), (2, a2), (0, x3), (0, x4), (0, x5), (0, x6), (0, y9)]) d_X9_readPolynomial_40 (by decide) rfl rfl ?_
      refine r_iload (x := y9) d_X9_readPolynomial_42 rfl ?_
      refine x_callSI (Y2 := mX9_isSign) (As := [(0, y9)]) (S := []) d_X9_readPolynomial_44 ok_mX9_isSign ml_X9_47 rfl (Nat.le_of_ble_eq_true rfl) (Nat.le_of_ble_eq_true rfl) rfl hd_1 (c_X9_isSign (v_X9_isSign_0 ?_))
      refine ⟨fun hc => ?_, fun hc => ?_⟩
      · have h := h.1 hc
        show WP l mX9_readPolynomial (rm d 0 0) noX _ 0 0 47 [(2, t), (0, x1), (2, a2), (0, x3), (0, x4), (0, x5), (0, x6), (0, y9)] [(0, 1)] N Λ σ
        refine r_if_eq (tgt := 97) d_X9_readPolynomial_47 rfl (fun hc => absurd hc (by decide)) (fun _ => ?_)
        refine r_iload (x := x6) d_X9_readPolynomial_50 rfl ?_
        refine r_if_ne (tgt := 59) d_X9_readPolynomial_52 rfl (fun hc => ?_) (fun hc => ?_)
        · have h := h.1 hc
          refine r_aload_n (x := t) d_X9_readPolynomial_59 rfl o_t.1 ?_
          refine r_aload_n (x := a2) d_X9_readPolynomial_60 rfl o_a2.1 ?_
          refine r_iload (x := x4) d_X9_readPolynomial_61 rfl ?_
          refine r_iload (x := x5) d_X9_readPolynomial_63 rfl ?_
          refine x_callVI (Y2 := mX9_layRead) (c := t) (As := [(2, a2), (0, x4), (0, x5)]) (S := []) d_X9_readPolynomial_65 ok_mX9_layRead ml_X9_62 rfl (Nat.le_of_ble_eq_true rfl) (Nat.le_of_ble_eq_true rfl) rfl hd_1 kX9 o_t (c_X9_layRead (v_X9_layRead_0 o_a2 o_t f_t_term o_t_term he_1 ?_))
          refine ⟨fun hc => ?_, fun hc => ?_⟩
          · have h := h.1 hc
            refine CI.mono h (fun v10 σ11 h => ?_)
            show WP l mX9_readPolynomial (rm d 0 0) noX _ 0 0 68 [(2, t), (0, x1), (2, a2), (0, x3), (0, x4), (0, x5), (0, x6), (0, y9)] [(0, v10)] N Λ σ11
            refine r_istore_n (L2 := [(2, t), (0, x1), (2, a2), (0, v10), (0, x4), (0, x5), (0, x6), (0, y9)]) d_X9_readPolynomial_68 (by decide) rfl rfl ?_
            refine r_aload_n (x := t) d_X9_readPolynomial_69 rfl o_t.1 ?_
            refine r_getf (j := 5) (t := 2) (x := t_term) d_X9_readPolynomial_70 kX9 (by decide) fl_X9_31 o_t.1 o_t.2.1 o_t.2.2.1 o_t.2.2.2 rfl f_t_term ?_
            refine r_lconst d_X9_readPolynomial_73 ?_
            skip
            refine x_callVV (Y2 := mX10_begin) (c := t_term) (As := [(1, 0)]) (S := []) d_X9_readPolynomial_74 ok_mX10_begin ml_X9_58 rfl (Nat.le_of_ble_eq_true rfl) (Nat.le_of_ble_eq_true rfl) rfl hd_1 kX10 o_t_term (c_X10_begin (v_X10_begin_0 o_t_term ?_))
            intro τ12 eτ12
            have h := h τ12 eτ12
            intro τ13 eτ13
            have h := h τ13 eτ13
            show WP l mX9_readPolynomial (rm d 0 0) noX _ 0 0 77 [(2, t), (0, x1), (2, a2), (0, v10), (0, x4), (0, x5), (0, x6), (0, y9)] [] N Λ τ13
            refine r_iload (x := y9) d_X9_readPolynomial_77 rfl ?_
            refine r_bipush (x := 45) d_X9_readPolynomial_79 ⟨by decide, by decide⟩ (by decide) ?_
            refine r_ic_ne (tgt := 88) d_X9_readPolynomial_81 rfl (fun hc => ?_) (fun hc => ?_)
            · have h := h.1 hc
              refine r_iconst (x := 1) d_X9_readPolynomial_88 ⟨by decide, by decide⟩ ?_
              refine r_istore (L2 := [(2, t), (0, x1), (2, a2), (0, v10), (0, 1), (0, x5), (0, x6), (0, y9)]) d_X9_readPolynomial_89 (by decide) rfl rfl ?_
              refine r_iconst (x := (-1)) d_X9_readPolynomial_91 ⟨by decide, by decide⟩ ?_
              refine r_istore (L2 := [(2, t), (0, x1), (2, a2), (0, v10), (0, 1), (0, (-1)), (0, x6), (0, y9)]) d_X9_readPolynomial_92 (by decide) rfl rfl ?_
              refine r_goto (tgt := 186) d_X9_readPolynomial_94 rfl ?_
              refine x_iinc (x := x6) (L := [(2, t), (0, x1), (2, a2), (0, v10), (0, 1), (0, (-1)), (0, x6), (0, y9)]) d_X9_readPolynomial_186 rfl (by decide) rfl (fun y14 ey14 => ?_)
              have h := h y14 ey14
              show WP _ _ _ _ _ _ _ _ [(2, t), (0, x1), (2, a2), (0, v10), (0, 1), (0, (-1)), (0, y14), (0, y9)] _ _ _ _
              refine r_goto (tgt := 23) d_X9_readPolynomial_189 rfl ?_
              exact x_mask h ⟨Or.inr rfl, Or.inr rfl, Or.inr rfl, Or.inr rfl, Or.inr rfl, Or.inr rfl, Or.inr rfl, Or.inl rfl, trivial⟩
            · have h := h.2 hc
              refine r_iconst (x := (-1)) d_X9_readPolynomial_84 ⟨by decide, by decide⟩ ?_
              refine r_goto (tgt := 89) d_X9_readPolynomial_85 rfl ?_
              refine r_istore (L2 := [(2, t), (0, x1), (2, a2), (0, v10), (0, (-1)), (0, x5), (0, x6), (0, y9)]) d_X9_readPolynomial_89 (by decide) rfl rfl ?_
              refine r_iconst (x := (-1)) d_X9_readPolynomial_91 ⟨by decide, by decide⟩ ?_
              refine r_istore (L2 := [(2, t), (0, x1), (2, a2), (0, v10), (0, (-1)), (0, (-1)), (0, x6), (0, y9)]) d_X9_readPolynomial_92 (by decide) rfl rfl ?_
              refine r_goto (tgt := 186) d_X9_readPolynomial_94 rfl ?_
              refine x_iinc (x := x6) (L := [(2, t), (0, x1), (2, a2), (0, v10), (0, (-1)), (0, (-1)), (0, x6), (0, y9)]) d_X9_readPolynomial_186 rfl (by decide) rfl (fun y15 ey15 => ?_)
              have h := h y15 ey15
              show WP _ _ _ _ _ _ _ _ [(2, t), (0, x1), (2, a2), (0, v10), (0, (-1)), (0, (-1)), (0, y15), (0, y9)] _ _ _ _
              refine r_goto (tgt := 23) d_X9_readPolynomial_189 rfl ?_
              exact x_mask h ⟨Or.inr rfl, Or.inr rfl, Or.inr rfl, Or.inr rfl, Or.inr rfl, Or.inr rfl, Or.inr rfl, Or.inl rfl, trivial⟩
          · have h := h.2 hc
            refine CI.mono h (fun v16 σ17 h => ?_)
            show WP l mX9_readPolynomial (rm d 0 0) noX _ 0 0 68 [(2, t), (0, x1), (2, a2), (0, x3), (0, x4), (0, x5), (0, x6), (0, y9)] [(0, v16)] N Λ σ17
            refine r_istore_n (L2 := [(2, t), (0, x1), (2, a2), (0, v16), (0, x4), (0, x5), (0, x6), (0, y9)]) d_X9_readPolynomial_68 (by decide) rfl rfl ?_
            refine r_aload_n (x := t) d_X9_readPolynomial_69 rfl o_t.1 ?_
            refine r_getf (j := 5) (t := 2) (x := t_term) d_X9_readPolynomial_70 kX9 (by decide) fl_X9_31 o_t.1 o_t.2.1 o_t.2.2.1 o_t.2.2.2 rfl f_t_term ?_
            refine r_lconst d_X9_readPolynomial_73 ?_
            skip
            refine x_callVV (Y2 := mX10_begin) (c := t_term) (As := [(1, 0)]) (S := []) d_X9_readPolynomial_74 ok_mX10_begin ml_X9_58 rfl (Nat.le_of_ble_eq_true rfl) (Nat.le_of_ble_eq_true rfl) rfl hd_1 kX10 o_t_term (c_X10_begin (v_X10_begin_0 o_t_term ?_))
            intro τ18 eτ18
            have h := h τ18 eτ18
            intro τ19 eτ19
            have h := h τ19 eτ19
            show WP l mX9_readPolynomial (rm d 0 0) noX _ 0 0 77 [(2, t), (0, x1), (2, a2), (0, v16), (0, x4), (0, x5), (0, x6), (0, y9)] [] N Λ τ19
            refine r_iload (x := y9) d_X9_readPolynomial_77 rfl ?_
            refine r_bipush (x := 45) d_X9_readPolynomial_79 ⟨by decide, by decide⟩ (by decide) ?_
            refine r_ic_ne (tgt := 88) d_X9_readPolynomial_81 rfl (fun hc => ?_) (fun hc => ?_)
            · have h := h.1 hc
              refine r_iconst (x := 1) d_X9_readPolynomial_88 ⟨by decide, by decide⟩ ?_
              refine r_istore (L2 := [(2, t), (0, x1), (2, a2), (0, v16), (0, 1), (0, x5), (0, x6), (0, y9)]) d_X9_readPolynomial_89 (by decide) rfl rfl ?_
              refine r_iconst (x := (-1)) d_X9_readPolynomial_91 ⟨by decide, by decide⟩ ?_
              refine r_istore (L2 := [(2, t), (0, x1), (2, a2), (0, v16), (0, 1), (0, (-1)), (0, x6), (0, y9)]) d_X9_readPolynomial_92 (by decide) rfl rfl ?_
              refine r_goto (tgt := 186) d_X9_readPolynomial_94 rfl ?_
              refine x_iinc (x := x6) (L := [(2, t), (0, x1), (2, a2), (0, v16), (0, 1), (0, (-1)), (0, x6), (0, y9)]) d_X9_readPolynomial_186 rfl (by decide) rfl (fun y20 ey20 => ?_)
              have h := h y20 ey20
              show WP _ _ _ _ _ _ _ _ [(2, t), (0, x1), (2, a2), (0, v16), (0, 1), (0, (-1)), (0, y20), (0, y9)] _ _ _ _
              refine r_goto (tgt := 23) d_X9_readPolynomial_189 rfl ?_
              exact x_mask h ⟨Or.inr rfl, Or.inr rfl, Or.inr rfl, Or.inr rfl, Or.inr rfl, Or.inr rfl, Or.inr rfl, Or.inl rfl, trivial⟩
            · have h := h.2 hc
              refine r_iconst (x := (-1)) d_X9_readPolynomial_84 ⟨by decide, by decide⟩ ?_
              refine r_goto (tgt := 89) d_X9_readPolynomial_85 rfl ?_
              refine r_istore (L2 := [(2, t), (0, x1), (2, a2), (0, v16), (0, (-1)), (0, x5), (0, x6), (0, y9)]) d_X9_readPolynomial_89 (by decide) rfl rfl ?_
              refine r_iconst (x := (-1)) d_X9_readPolynomial_91 ⟨by decide, by decide⟩ ?_
              refine r_istore (L2 := [(2, t), (0, x1), (2, a2), (0, v16), (0, (-1)), (0, (-1)), (0, x6), (0, y9)]) d_X9_readPolynomial_92 (by decide) rfl rfl ?_
              refine r_goto (tgt := 186) d_X9_readPolynomial_94 rfl ?_
              refine x_iinc (x := x6) (L := [(2, t), (0, x1), (2, a2), (0, v16), (0, (-1)), (0, (-1)), (0, x6), (0, y9)]) d_X9_readPolynomial_186 rfl (by decide) rfl (fun y21 ey21 => ?_)
              have h := h y21 ey21
              show WP _ _ _ _ _ _ _ _ [(2, t), (0, x1), (2, a2), (0, v16), (0, (-1)), (0, (-1)), (0, y21), (0, y9)] _ _ _ _
              refine r_goto (tgt := 23) d_X9_readPolynomial_189 rfl ?_
              exact x_mask h ⟨Or.inr rfl, Or.inr rfl, Or.inr rfl, Or.inr rfl, Or.inr rfl, Or.inr rfl, Or.inr rfl, Or.inl rfl, trivial⟩
        · have h := h.2 hc
          refine r_iconst (x := 0) d_X9_readPolynomial_55 ⟨by decide, by decide⟩ ?_
          refine r_goto (tgt := 68) d_X9_readPolynomial_56 rfl ?_
          refine r_istore_n (L2 := [(2, t), (0, x1), (2, a2), (0, 0), (0, x4), (0, x5), (0, x6), (0, y9)]) d_X9_readPolynomial_68 (by decide) rfl rfl ?_
          refine r_aload_n (x := t) d_X9_readPolynomial_69 rfl o_t.1 ?_
          refine r_getf (j := 5) (t := 2) (x := t_term) d_X9_readPolynomial_70 kX9 (by decide) fl_X9_31 o_t.1 o_t.2.1 o_t.2.2.1 o_t.2.2.2 rfl f_t_term ?_
          refine r_lconst d_X9_readPolynomial_73 ?_
          skip
          refine x_callVV (Y2 := mX10_begin) (c := t_term) (As := [(1, 0)]) (S := []) d_X9_readPolynomial_74 ok_mX10_begin ml_X9_58 rfl (Nat.le_of_ble_eq_true rfl) (Nat.le_of_ble_eq_true rfl) rfl hd_1 kX10 o_t_term (c_X10_begin (v_X10_begin_0 o_t_term ?_))
          intro τ22 eτ22
          have h := h τ22 eτ22
          intro τ23 eτ23
          have h := h τ23 eτ23
          show WP l mX9_readPolynomial (rm d 0 0) noX _ 0 0 77 [(2, t), (0, x1), (2, a2), (0, 0), (0, x4), (0, x5), (0, x6), (0, y9)] [] N Λ τ23
          refine r_iload (x := y9) d_X9_readPolynomial_77 rfl ?_
          refine r_bipush (x := 45) d_X9_readPolynomial_79 ⟨by decide, by decide⟩ (by decide) ?_
          refine r_ic_ne (tgt := 88) d_X9_readPolynomial_81 rfl (fun hc => ?_) (fun hc => ?_)
          · have h := h.1 hc
            refine r_iconst (x := 1) d_X9_readPolynomial_88 ⟨by decide, by decide⟩ ?_
            refine r_istore (L2 := [(2, t), (0, x1), (2, a2), (0, 0), (0, 1), (0, x5), (0, x6), (0, y9)]) d_X9_readPolynomial_89 (by decide) rfl rfl ?_
            refine r_iconst (x := (-1)) d_X9_readPolynomial_91 ⟨by decide, by decide⟩ ?_
            refine r_istore (L2 := [(2, t), (0, x1), (2, a2), (0, 0), (0, 1), (0, (-1)), (0, x6), (0, y9)]) d_X9_readPolynomial_92 (by decide) rfl rfl ?_
            refine r_goto (tgt := 186) d_X9_readPolynomial_94 rfl ?_
            refine x_iinc (x := x6) (L := [(2, t), (0, x1), (2, a2), (0, 0), (0, 1), (0, (-1)), (0, x6), (0, y9)]) d_X9_readPolynomial_186 rfl (by decide) rfl (fun y24 ey24 => ?_)
            have h := h y24 ey24
            show WP _ _ _ _ _ _ _ _ [(2, t), (0, x1), (2, a2), (0, 0), (0, 1), (0, (-1)), (0, y24), (0, y9)] _ _ _ _
            refine r_goto (tgt := 23) d_X9_readPolynomial_189 rfl ?_
            exact x_mask h ⟨Or.inr rfl, Or.inr rfl, Or.inr rfl, Or.inr rfl, Or.inr rfl, Or.inr rfl, Or.inr rfl, Or.inl rfl, trivial⟩
          · have h := h.2 hc
            refine r_iconst (x := (-1)) d_X9_readPolynomial_84 ⟨by decide, by decide⟩ ?_
            refine r_goto (tgt := 89) d_X9_readPolynomial_85 rfl ?_
            refine r_istore (L2 := [(2, t), (0, x1), (2, a2), (0, 0), (0, (-1)), (0, x5), (0, x6), (0, y9)]) d_X9_readPolynomial_89 (by decide) rfl rfl ?_
            refine r_iconst (x := (-1)) d_X9_readPolynomial_91 ⟨by decide, by decide⟩ ?_
            refine r_istore (L2 := [(2, t), (0, x1), (2, a2), (0, 0), (0, (-1)), (0, (-1)), (0, x6), (0, y9)]) d_X9_readPolynomial_92 (by decide) rfl rfl ?_
            refine r_goto (tgt := 186) d_X9_readPolynomial_94 rfl ?_
            refine x_iinc (x := x6) (L := [(2, t), (0, x1), (2, a2), (0, 0), (0, (-1)), (0, (-1)), (0, x6), (0, y9)]) d_X9_readPolynomial_186 rfl (by decide) rfl (fun y25 ey25 => ?_)
            have h := h y25 ey25
            show WP _ _ _ _ _ _ _ _ [(2, t), (0, x1), (2, a2), (0, 0), (0, (-1)), (0, (-1)), (0, y25), (0, y9)] _ _ _ _
            refine r_goto (tgt := 23) d_X9_readPolynomial_189 rfl ?_
            exact x_mask h ⟨Or.inr rfl, Or.inr rfl, Or.inr rfl, Or.inr rfl, Or.inr rfl, Or.inr rfl, Or.inr rfl, Or.inl rfl, trivial⟩
      · have h := h.2 hc
        refine ⟨fun hc => ?_, fun hc => ?_⟩
        · have h := h.1 hc
          show WP l mX9_readPolynomial (rm d 0 0) noX _ 0 0 47 [(2, t), (0, x1), (2, a2), (0, x3), (0, x4), (0, x5), (0, x6), (0, y9)] [(0, 0)] N Λ σ
          refine r_if_eq (tgt := 97) d_X9_readPolynomial_47 rfl (fun _ => ?_) (fun hc => absurd hc (by decide))
          refine r_iload (x := y9) d_X9_readPolynomial_97 rfl ?_
          refine x_callSI (Y2 := mX9_isDigit) (As := [(0, y9)]) (S := []) d_X9_readPolynomial_99 ok_mX9_isDigit ml_X9_50 rfl (Nat.le_of_ble_eq_true rfl) (Nat.le_of_ble_eq_true rfl) rfl hd_1 (c_X9_isDigit (v_X9_isDigit_0 ?_))
          refine ⟨fun hc => ?_, fun hc => ?_⟩
          · have h := h.1 hc
            show WP l mX9_readPolynomial (rm d 0 0) noX _ 0 0 102 [(2, t), (0, x1), (2, a2), (0, x3), (0, x4), (0, x5), (0, x6), (0, y9)] [(0, 0)] N Λ σ
            refine r_if_eq (tgt := 125) d_X9_readPolynomial_102 rfl (fun _ => ?_) (fun hc => absurd hc (by decide))
            refine r_iload (x := y9) d_X9_readPolynomial_125 rfl ?_
            refine r_bipush (x := 91) d_X9_readPolynomial_127 ⟨by decide, by decide⟩ (by decide) ?_
            refine r_ic_ne (tgt := 186) d_X9_readPolynomial_129 rfl (fun hc => ?_) (fun hc => ?_)
            · have h := h.1 hc
              refine x_iinc (x := x6) (L := [(2, t), (0, x1), (2, a2), (0, x3), (0, x4), (0, x5), (0, x6), (0, y9)]) d_X9_readPolynomial_186 rfl (by decide) rfl (fun y26 ey26 => ?_)
              have h := h y26 ey26
              show WP _ _ _ _ _ _ _ _ [(2, t), (0, x1), (2, a2), (0, x3), (0, x4), (0, x5), (0, y26), (0, y9)] _ _ _ _
              refine r_goto (tgt := 23) d_X9_readPolynomial_189 rfl ?_
              exact x_mask h ⟨Or.inr rfl, Or.inr rfl, Or.inr rfl, Or.inr rfl, Or.inr rfl, Or.inr rfl, Or.inr rfl, Or.inl rfl, trivial⟩
            · have h := h.2 hc
              refine r_iload (x := x6) d_X9_readPolynomial_132 rfl ?_
              refine r_iconst (x := 3) d_X9_readPolynomial_134 ⟨by decide, by decide⟩ ?_
              refine r_iadd d_X9_readPolynomial_135 ?_
              refine r_iload_n (x := x1) d_X9_readPolynomial_136 rfl ?_
              refine r_ic_ge (tgt := 186) d_X9_readPolynomial_137 rfl (fun hc => ?_) (fun hc => ?_)
              · have h := h.1 hc
                refine x_iinc (x := x6) (L := [(2, t), (0, x1), (2, a2), (0, x3), (0, x4), (0, x5), (0, x6), (0, y9)]) d_X9_readPolynomial_186 rfl (by decide) rfl (fun y27 ey27 => ?_)
                have h := h y27 ey27
                show WP _ _ _ _ _ _ _ _ [(2, t), (0, x1), (2, a2), (0, x3), (0, x4), (0, x5), (0, y27), (0, y9)] _ _ _ _
                refine r_goto (tgt := 23) d_X9_readPolynomial_189 rfl ?_
                exact x_mask h ⟨Or.inr rfl, Or.inr rfl, Or.inr rfl, Or.inr rfl, Or.inr rfl, Or.inr rfl, Or.inr rfl, Or.inl rfl, trivial⟩
              · have h := h.2 hc
                refine r_aload_n (x := t) d_X9_readPolynomial_140 rfl o_t.1 ?_
                refine r_getf (j := 5) (t := 2) (x := t_term) d_X9_readPolynomial_141 kX9 (by decide) fl_X9_31 o_t.1 o_t.2.1 o_t.2.2.1 o_t.2.2.2 rfl f_t_term ?_
                refine r_aload_n (x := t) d_X9_readPolynomial_144 rfl o_t.1 ?_
                refine r_getf (j := 0) (t := 2) (x := t_bytes) d_X9_readPolynomial_145 kX9 (by decide) fl_X9_9 o_t.1 o_t.2.1 o_t.2.2.1 o_t.2.2.2 rfl f_t_bytes ?_
                refine r_iload (x := x6) d_X9_readPolynomial_148 rfl ?_
                refine r_iconst (x := 1) d_X9_readPolynomial_150 ⟨by decide, by decide⟩ ?_
                refine r_iadd d_X9_readPolynomial_151 ?_
                refine x_iald d_X9_readPolynomial_152 h.1 ?_
                have h := h.2
                refine r_bipush (x := 97) d_X9_readPolynomial_153 ⟨by decide, by decide⟩ (by decide) ?_
                refine r_isub d_X9_readPolynomial_155 ?_
                refine r_aload_n (x := t) d_X9_readPolynomial_156 rfl o_t.1 ?_
                refine r_getf (j := 0) (t := 2) (x := t_bytes) d_X9_readPolynomial_157 kX9 (by decide) fl_X9_9 o_t.1 o_t.2.1 o_t.2.2.1 o_t.2.2.2 rfl f_t_bytes ?_
                refine r_iload (x := x6) d_X9_readPolynomial_160 rfl ?_
                refine r_iconst (x := 2) d_X9_readPolynomial_162 ⟨by decide, by decide⟩ ?_
                refine r_iadd d_X9_readPolynomial_163 ?_
                refine x_iald d_X9_readPolynomial_164 h.1 ?_
                have h := h.2
                refine r_bipush (x := 97) d_X9_readPolynomial_165 ⟨by decide, by decide⟩ (by decide) ?_
                refine r_isub d_X9_readPolynomial_167 ?_
                refine r_aload_n (x := t) d_X9_readPolynomial_168 rfl o_t.1 ?_
                refine r_getf (j := 0) (t := 2) (x := t_bytes) d_X9_readPolynomial_169 kX9 (by decide) fl_X9_9 o_t.1 o_t.2.1 o_t.2.2.1 o_t.2.2.2 rfl f_t_bytes ?_
                refine r_iload (x := x6) d_X9_readPolynomial_172 rfl ?_
                refine r_iconst (x := 3) d_X9_readPolynomial_174 ⟨by decide, by decide⟩ ?_
                refine r_iadd d_X9_readPolynomial_175 ?_
                refine x_iald d_X9_readPolynomial_176 h.1 ?_
                have h := h.2
                refine r_bipush (x := 97) d_X9_readPolynomial_177 ⟨by decide, by decide⟩ (by decide) ?_
                refine r_isub d_X9_readPolynomial_179 ?_
                refine x_callSI (Y2 := mX6_row) (As := [(0, (subI (σ t_bytes (addI x6 1)) 97)), (0, (subI (σ t_bytes (addI x6 2)) 97)), (0, (subI (σ t_bytes (addI x6 3)) 97))]) (S := [(2, t_term)]) d_X9_readPolynomial_180 ok_mX6_row ml_X9_71 rfl (Nat.le_of_ble_eq_true rfl) (Nat.le_of_ble_eq_true rfl) rfl hd_1 (c_X6_row (v_X6_row_0 ?_))
                show WP l mX9_readPolynomial (rm d 0 0) noX _ 0 0 183 [(2, t), (0, x1), (2, a2), (0, x3), (0, x4), (0, x5), (0, x6), (0, y9)] [(0, (orI (orI (shlI (subI (σ t_bytes (addI x6 1)) 97) 8) (shlI (subI (σ t_bytes (addI x6 2)) 97) 4)) (subI (σ t_bytes (addI x6 3)) 97))), (2, t_term)] N Λ σ
                refine x_callVV (Y2 := mX10_attach) (c := t_term) (As := [(0, (orI (orI (shlI (subI (σ t_bytes (addI x6 1)) 97) 8) (shlI (subI (σ t_bytes (addI x6 2)) 97) 4)) (subI (σ t_bytes (addI x6 3)) 97)))]) (S := []) d_X9_readPolynomial_183 ok_mX10_attach ml_X9_77 rfl (Nat.le_of_ble_eq_true rfl) (Nat.le_of_ble_eq_true rfl) rfl hd_1 kX10 o_t_term (CV.mono h (fun σ28 h => ?_))
                refine x_iinc (x := x6) (L := [(2, t), (0, x1), (2, a2), (0, x3), (0, x4), (0, x5), (0, x6), (0, y9)]) d_X9_readPolynomial_186 rfl (by decide) rfl (fun y29 ey29 => ?_)
                have h := h y29 ey29
                show WP _ _ _ _ _ _ _ _ [(2, t), (0, x1), (2, a2), (0, x3), (0, x4), (0, x5), (0, y29), (0, y9)] _ _ _ _
                refine r_goto (tgt := 23) d_X9_readPolynomial_189 rfl ?_
                exact x_mask h ⟨Or.inr rfl, Or.inr rfl, Or.inr rfl, Or.inr rfl, Or.inr rfl, Or.inr rfl, Or.inr rfl, Or.inl rfl, trivial⟩
          · have h := h.2 hc
            refine ⟨fun hc => ?_, fun hc => ?_⟩
            · have h := h.1 hc
              show WP l mX9_readPolynomial (rm d 0 0) noX _ 0 0 102 [(2, t), (0, x1), (2, a2), (0, x3), (0, x4), (0, x5), (0, x6), (0, y9)] [(0, 0)] N Λ σ
              refine r_if_eq (tgt := 125) d_X9_readPolynomial_102 rfl (fun _ => ?_) (fun hc => absurd hc (by decide))
              refine r_iload (x := y9) d_X9_readPolynomial_125 rfl ?_
              refine r_bipush (x := 91) d_X9_readPolynomial_127 ⟨by decide, by decide⟩ (by decide) ?_
              refine r_ic_ne (tgt := 186) d_X9_readPolynomial_129 rfl (fun hc => ?_) (fun hc => ?_)
              · have h := h.1 hc
                refine x_iinc (x := x6) (L := [(2, t), (0, x1), (2, a2), (0, x3), (0, x4), (0, x5), (0, x6), (0, y9)]) d_X9_readPolynomial_186 rfl (by decide) rfl (fun y30 ey30 => ?_)
                have h := h y30 ey30
                show WP _ _ _ _ _ _ _ _ [(2, t), (0, x1), (2, a2), (0, x3), (0, x4), (0, x5), (0, y30), (0, y9)] _ _ _ _
                refine r_goto (tgt := 23) d_X9_readPolynomial_189 rfl ?_
                exact x_mask h ⟨Or.inr rfl, Or.inr rfl, Or.inr rfl, Or.inr rfl, Or.inr rfl, Or.inr rfl, Or.inr rfl, Or.inl rfl, trivial⟩
              · have h := h.2 hc
                refine r_iload (x := x6) d_X9_readPolynomial_132 rfl ?_
                refine r_iconst (x := 3) d_X9_readPolynomial_134 ⟨by decide, by decide⟩ ?_
                refine r_iadd d_X9_readPolynomial_135 ?_
                refine r_iload_n (x := x1) d_X9_readPolynomial_136 rfl ?_
                refine r_ic_ge (tgt := 186) d_X9_readPolynomial_137 rfl (fun hc => ?_) (fun hc => ?_)
                · have h := h.1 hc
                  refine x_iinc (x := x6) (L := [(2, t), (0, x1), (2, a2), (0, x3), (0, x4), (0, x5), (0, x6), (0, y9)]) d_X9_readPolynomial_186 rfl (by decide) rfl (fun y31 ey31 => ?_)
                  have h := h y31 ey31
                  show WP _ _ _ _ _ _ _ _ [(2, t), (0, x1), (2, a2), (0, x3), (0, x4), (0, x5), (0, y31), (0, y9)] _ _ _ _
                  refine r_goto (tgt := 23) d_X9_readPolynomial_189 rfl ?_
                  exact x_mask h ⟨Or.inr rfl, Or.inr rfl, Or.inr rfl, Or.inr rfl, Or.inr rfl, Or.inr rfl, Or.inr rfl, Or.inl rfl, trivial⟩
                · have h := h.2 hc
                  refine r_aload_n (x := t) d_X9_readPolynomial_140 rfl o_t.1 ?_
                  refine r_getf (j := 5) (t := 2) (x := t_term) d_X9_readPolynomial_141 kX9 (by decide) fl_X9_31 o_t.1 o_t.2.1 o_t.2.2.1 o_t.2.2.2 rfl f_t_term ?_
                  refine r_aload_n (x := t) d_X9_readPolynomial_144 rfl o_t.1 ?_
                  refine r_getf (j := 0) (t := 2) (x := t_bytes) d_X9_readPolynomial_145 kX9 (by decide) fl_X9_9 o_t.1 o_t.2.1 o_t.2.2.1 o_t.2.2.2 rfl f_t_bytes ?_
                  refine r_iload (x := x6) d_X9_readPolynomial_148 rfl ?_
                  refine r_iconst (x := 1) d_X9_readPolynomial_150 ⟨by decide, by decide⟩ ?_
                  refine r_iadd d_X9_readPolynomial_151 ?_
                  refine x_iald d_X9_readPolynomial_152 h.1 ?_
                  have h := h.2
                  refine r_bipush (x := 97) d_X9_readPolynomial_153 ⟨by decide, by decide⟩ (by decide) ?_
                  refine r_isub d_X9_readPolynomial_155 ?_
                  refine r_aload_n (x := t) d_X9_readPolynomial_156 rfl o_t.1 ?_
                  refine r_getf (j := 0) (t := 2) (x := t_bytes) d_X9_readPolynomial_157 kX9 (by decide) fl_X9_9 o_t.1 o_t.2.1 o_t.2.2.1 o_t.2.2.2 rfl f_t_bytes ?_
                  refine r_iload (x := x6) d_X9_readPolynomial_160 rfl ?_
                  refine r_iconst (x := 2) d_X9_readPolynomial_162 ⟨by decide, by decide⟩ ?_
                  refine r_iadd d_X9_readPolynomial_163 ?_
                  refine x_iald d_X9_readPolynomial_164 h.1 ?_
                  have h := h.2
                  refine r_bipush (x := 97) d_X9_readPolynomial_165 ⟨by decide, by decide⟩ (by decide) ?_
                  refine r_isub d_X9_readPolynomial_167 ?_
                  refine r_aload_n (x := t) d_X9_readPolynomial_168 rfl o_t.1 ?_
                  refine r_getf (j := 0) (t := 2) (x := t_bytes) d_X9_readPolynomial_169 kX9 (by decide) fl_X9_9 o_t.1 o_t.2.1 o_t.2.2.1 o_t.2.2.2 rfl f_t_bytes ?_
                  refine r_iload (x := x6) d_X9_readPolynomial_172 rfl ?_
                  refine r_iconst (x := 3) d_X9_readPolynomial_174 ⟨by decide, by decide⟩ ?_
                  refine r_iadd d_X9_readPolynomial_175 ?_
                  refine x_iald d_X9_readPolynomial_176 h.1 ?_
                  have h := h.2
                  refine r_bipush (x := 97) d_X9_readPolynomial_177 ⟨by decide, by decide⟩ (by decide) ?_
                  refine r_isub d_X9_readPolynomial_179 ?_
                  refine x_callSI (Y2 := mX6_row) (As := [(0, (subI (σ t_bytes (addI x6 1)) 97)), (0, (subI (σ t_bytes (addI x6 2)) 97)), (0, (subI (σ t_bytes (addI x6 3)) 97))]) (S := [(2, t_term)]) d_X9_readPolynomial_180 ok_mX6_row ml_X9_71 rfl (Nat.le_of_ble_eq_true rfl) (Nat.le_of_ble_eq_true rfl) rfl hd_1 (c_X6_row (v_X6_row_0 ?_))
                  show WP l mX9_readPolynomial (rm d 0 0) noX _ 0 0 183 [(2, t), (0, x1), (2, a2), (0, x3), (0, x4), (0, x5), (0, x6), (0, y9)] [(0, (orI (orI (shlI (subI (σ t_bytes (addI x6 1)) 97) 8) (shlI (subI (σ t_bytes (addI x6 2)) 97) 4)) (subI (σ t_bytes (addI x6 3)) 97))), (2, t_term)] N Λ σ
                  refine x_callVV (Y2 := mX10_attach) (c := t_term) (As := [(0, (orI (orI (shlI (subI (σ t_bytes (addI x6 1)) 97) 8) (shlI (subI (σ t_bytes (addI x6 2)) 97) 4)) (subI (σ t_bytes (addI x6 3)) 97)))]) (S := []) d_X9_readPolynomial_183 ok_mX10_attach ml_X9_77 rfl (Nat.le_of_ble_eq_true rfl) (Nat.le_of_ble_eq_true rfl) rfl hd_1 kX10 o_t_term (CV.mono h (fun σ32 h => ?_))
                  refine x_iinc (x := x6) (L := [(2, t), (0, x1), (2, a2), (0, x3), (0, x4), (0, x5), (0, x6), (0, y9)]) d_X9_readPolynomial_186 rfl (by decide) rfl (fun y33 ey33 => ?_)
                  have h := h y33 ey33
                  show WP _ _ _ _ _ _ _ _ [(2, t), (0, x1), (2, a2), (0, x3), (0, x4), (0, x5), (0, y33), (0, y9)] _ _ _ _
                  refine r_goto (tgt := 23) d_X9_readPolynomial_189 rfl ?_
                  exact x_mask h ⟨Or.inr rfl, Or.inr rfl, Or.inr rfl, Or.inr rfl, Or.inr rfl, Or.inr rfl, Or.inr rfl, Or.inl rfl, trivial⟩
            · have h := h.2 hc
              show WP l mX9_readPolynomial (rm d 0 0) noX _ 0 0 102 [(2, t), (0, x1), (2, a2), (0, x3), (0, x4), (0, x5), (0, x6), (0, y9)] [(0, 1)] N Λ σ
              refine r_if_eq (tgt := 125) d_X9_readPolynomial_102 rfl (fun hc => absurd hc (by decide)) (fun _ => ?_)
              refine r_bipush (x := 10) d_X9_readPolynomial_105 ⟨by decide, by decide⟩ (by decide) ?_
              refine r_iload (x := x5) d_X9_readPolynomial_107 rfl ?_
              refine r_iconst (x := 0) d_X9_readPolynomial_109 ⟨by decide, by decide⟩ ?_
              refine x_callSI (Y2 := mJ9_max_7cf53) (As := [(0, x5), (0, 0)]) (S := [(0, 10)]) d_X9_readPolynomial_110 ok_mJ9_max_7cf53 ml_X9_66 rfl (Nat.le_of_ble_eq_true rfl) (Nat.le_of_ble_eq_true rfl) rfl hd_1 (c_J9_max_7cf53 (v_J9_max_7cf53_0 ?_))
              refine ⟨fun hc => ?_, fun hc => ?_⟩
              · have h := h.1 hc
                show WP l mX9_readPolynomial (rm d 0 0) noX _ 0 0 113 [(2, t), (0, x1), (2, a2), (0, x3), (0, x4), (0, x5), (0, x6), (0, y9)] [(0, 0), (0, 10)] N Λ σ
                refine r_imul d_X9_readPolynomial_113 ?_
                refine r_iload (x := y9) d_X9_readPolynomial_114 rfl ?_
                refine r_iadd d_X9_readPolynomial_116 ?_
                refine r_bipush (x := 48) d_X9_readPolynomial_117 ⟨by decide, by decide⟩ (by decide) ?_
                refine r_isub d_X9_readPolynomial_119 ?_
                refine r_nm (fun y34 ey34 => ?_)
                have h := h y34 ey34
                refine r_istore (L2 := [(2, t), (0, x1), (2, a2), (0, x3), (0, x4), (0, y34), (0, x6), (0, y9)]) d_X9_readPolynomial_120 (by decide) rfl rfl ?_
                refine r_goto (tgt := 186) d_X9_readPolynomial_122 rfl ?_
                refine x_iinc (x := x6) (L := [(2, t), (0, x1), (2, a2), (0, x3), (0, x4), (0, y34), (0, x6), (0, y9)]) d_X9_readPolynomial_186 rfl (by decide) rfl (fun y35 ey35 => ?_)
                have h := h y35 ey35
                show WP _ _ _ _ _ _ _ _ [(2, t), (0, x1), (2, a2), (0, x3), (0, x4), (0, y34), (0, y35), (0, y9)] _ _ _ _
                refine r_goto (tgt := 23) d_X9_readPolynomial_189 rfl ?_
                exact x_mask h ⟨Or.inr rfl, Or.inr rfl, Or.inr rfl, Or.inr rfl, Or.inr rfl, Or.inr rfl, Or.inr rfl, Or.inl rfl, trivial⟩
              · have h := h.2 hc
                show WP l mX9_readPolynomial (rm d 0 0) noX _ 0 0 113 [(2, t), (0, x1), (2, a2), (0, x3), (0, x4), (0, x5), (0, x6), (0, y9)] [(0, x5), (0, 10)] N Λ σ
                refine r_imul d_X9_readPolynomial_113 ?_
                refine r_iload (x := y9) d_X9_readPolynomial_114 rfl ?_
                refine r_iadd d_X9_readPolynomial_116 ?_
                refine r_bipush (x := 48) d_X9_readPolynomial_117 ⟨by decide, by decide⟩ (by decide) ?_
                refine r_isub d_X9_readPolynomial_119 ?_
                refine r_nm (fun y36 ey36 => ?_)
                have h := h y36 ey36
                refine r_istore (L2 := [(2, t), (0, x1), (2, a2), (0, x3), (0, x4), (0, y36), (0, x6), (0, y9)]) d_X9_readPolynomial_120 (by decide) rfl rfl ?_
                refine r_goto (tgt := 186) d_X9_readPolynomial_122 rfl ?_
                refine x_iinc (x := x6) (L := [(2, t), (0, x1), (2, a2), (0, x3), (0, x4), (0, y36), (0, x6), (0, y9)]) d_X9_readPolynomial_186 rfl (by decide) rfl (fun y37 ey37 => ?_)
                have h := h y37 ey37
                show WP _ _ _ _ _ _ _ _ [(2, t), (0, x1), (2, a2), (0, x3), (0, x4), (0, y36), (0, y37), (0, y9)] _ _ _ _
                refine r_goto (tgt := 23) d_X9_readPolynomial_189 rfl ?_
                exact x_mask h ⟨Or.inr rfl, Or.inr rfl, Or.inr rfl, Or.inr rfl, Or.inr rfl, Or.inr rfl, Or.inr rfl, Or.inl rfl, trivial⟩
        · have h := h.2 hc
          show WP l mX9_readPolynomial (rm d 0 0) noX _ 0 0 47 [(2, t), (0, x1), (2, a2), (0, x3), (0, x4), (0, x5), (0, x6), (0, y9)] [(0, 1)] N Λ σ
          refine r_if_eq (tgt := 97) d_X9_readPolynomial_47 rfl (fun hc => absurd hc (by decide)) (fun _ => ?_)
          refine r_iload (x := x6) d_X9_readPolynomial_50 rfl ?_
          refine r_if_ne (tgt := 59) d_X9_readPolynomial_52 rfl (fun hc => ?_) (fun hc => ?_)
          · have h := h.1 hc
            refine r_aload_n (x := t) d_X9_readPolynomial_59 rfl o_t.1 ?_
            refine r_aload_n (x := a2) d_X9_readPolynomial_60 rfl o_a2.1 ?_
            refine r_iload (x := x4) d_X9_readPolynomial_61 rfl ?_
            refine r_iload (x := x5) d_X9_readPolynomial_63 rfl ?_
            refine x_callVI (Y2 := mX9_layRead) (c := t) (As := [(2, a2), (0, x4), (0, x5)]) (S := []) d_X9_readPolynomial_65 ok_mX9_layRead ml_X9_62 rfl (Nat.le_of_ble_eq_true rfl) (Nat.le_of_ble_eq_true rfl) rfl hd_1 kX9 o_t (c_X9_layRead (v_X9_layRead_0 o_a2 o_t f_t_term o_t_term he_1 ?_))
            refine ⟨fun hc => ?_, fun hc => ?_⟩
            · have h := h.1 hc
              refine CI.mono h (fun v38 σ39 h => ?_)
              show WP l mX9_readPolynomial (rm d 0 0) noX _ 0 0 68 [(2, t), (0, x1), (2, a2), (0, x3), (0, x4), (0, x5), (0, x6), (0, y9)] [(0, v38)] N Λ σ39
              refine r_istore_n (L2 := [(2, t), (0, x1), (2, a2), (0, v38), (0, x4), (0, x5), (0, x6), (0, y9)]) d_X9_readPolynomial_68 (by decide) rfl rfl ?_
              refine r_aload_n (x := t) d_X9_readPolynomial_69 rfl o_t.1 ?_
              refine r_getf (j := 5) (t := 2) (x := t_term) d_X9_readPolynomial_70 kX9 (by decide) fl_X9_31 o_t.1 o_t.2.1 o_t.2.2.1 o_t.2.2.2 rfl f_t_term ?_
              refine r_lconst d_X9_readPolynomial_73 ?_
              skip
              refine x_callVV (Y2 := mX10_begin) (c := t_term) (As := [(1, 0)]) (S := []) d_X9_readPolynomial_74 ok_mX10_begin ml_X9_58 rfl (Nat.le_of_ble_eq_true rfl) (Nat.le_of_ble_eq_true rfl) rfl hd_1 kX10 o_t_term (c_X10_begin (v_X10_begin_0 o_t_term ?_))
              intro τ40 eτ40
              have h := h τ40 eτ40
              intro τ41 eτ41
              have h := h τ41 eτ41
              show WP l mX9_readPolynomial (rm d 0 0) noX _ 0 0 77 [(2, t), (0, x1), (2, a2), (0, v38), (0, x4), (0, x5), (0, x6), (0, y9)] [] N Λ τ41
              refine r_iload (x := y9) d_X9_readPolynomial_77 rfl ?_
              refine r_bipush (x := 45) d_X9_readPolynomial_79 ⟨by decide, by decide⟩ (by decide) ?_
              refine r_ic_ne (tgt := 88) d_X9_readPolynomial_81 rfl (fun hc => ?_) (fun hc => ?_)
              · have h := h.1 hc
                refine r_iconst (x := 1) d_X9_readPolynomial_88 ⟨by decide, by decide⟩ ?_
                refine r_istore (L2 := [(2, t), (0, x1), (2, a2), (0, v38), (0, 1), (0, x5), (0, x6), (0, y9)]) d_X9_readPolynomial_89 (by decide) rfl rfl ?_
                refine r_iconst (x := (-1)) d_X9_readPolynomial_91 ⟨by decide, by decide⟩ ?_
                refine r_istore (L2 := [(2, t), (0, x1), (2, a2), (0, v38), (0, 1), (0, (-1)), (0, x6), (0, y9)]) d_X9_readPolynomial_92 (by decide) rfl rfl ?_
                refine r_goto (tgt := 186) d_X9_readPolynomial_94 rfl ?_
                refine x_iinc (x := x6) (L := [(2, t), (0, x1), (2, a2), (0, v38), (0, 1), (0, (-1)), (0, x6), (0, y9)]) d_X9_readPolynomial_186 rfl (by decide) rfl (fun y42 ey42 => ?_)
                have h := h y42 ey42
                show WP _ _ _ _ _ _ _ _ [(2, t), (0, x1), (2, a2), (0, v38), (0, 1), (0, (-1)), (0, y42), (0, y9)] _ _ _ _
                refine r_goto (tgt := 23) d_X9_readPolynomial_189 rfl ?_
                exact x_mask h ⟨Or.inr rfl, Or.inr rfl, Or.inr rfl, Or.inr rfl, Or.inr rfl, Or.inr rfl, Or.inr rfl, Or.inl rfl, trivial⟩
              · have h := h.2 hc
                refine r_iconst (x := (-1)) d_X9_readPolynomial_84 ⟨by decide, by decide⟩ ?_
                refine r_goto (tgt := 89) d_X9_readPolynomial_85 rfl ?_
                refine r_istore (L2 := [(2, t), (0, x1), (2, a2), (0, v38), (0, (-1)), (0, x5), (0, x6), (0, y9)]) d_X9_readPolynomial_89 (by decide) rfl rfl ?_
                refine r_iconst (x := (-1)) d_X9_readPolynomial_91 ⟨by decide, by decide⟩ ?_
                refine r_istore (L2 := [(2, t), (0, x1), (2, a2), (0, v38), (0, (-1)), (0, (-1)), (0, x6), (0, y9)]) d_X9_readPolynomial_92 (by decide) rfl rfl ?_
                refine r_goto (tgt := 186) d_X9_readPolynomial_94 rfl ?_
                refine x_iinc (x := x6) (L := [(2, t), (0, x1), (2, a2), (0, v38), (0, (-1)), (0, (-1)), (0, x6), (0, y9)]) d_X9_readPolynomial_186 rfl (by decide) rfl (fun y43 ey43 => ?_)
                have h := h y43 ey43
                show WP _ _ _ _ _ _ _ _ [(2, t), (0, x1), (2, a2), (0, v38), (0, (-1)), (0, (-1)), (0, y43), (0, y9)] _ _ _ _
                refine r_goto (tgt := 23) d_X9_readPolynomial_189 rfl ?_
                exact x_mask h ⟨Or.inr rfl, Or.inr rfl, Or.inr rfl, Or.inr rfl, Or.inr rfl, Or.inr rfl, Or.inr rfl, Or.inl rfl, trivial⟩
            · have h := h.2 hc
              refine CI.mono h (fun v44 σ45 h => ?_)
              show WP l mX9_readPolynomial (rm d 0 0) noX _ 0 0 68 [(2, t), (0, x1), (2, a2), (0, x3), (0, x4), (0, x5), (0, x6), (0, y9)] [(0, v44)] N Λ σ45
              refine r_istore_n (L2 := [(2, t), (0, x1), (2, a2), (0, v44), (0, x4), (0, x5), (0, x6), (0, y9)]) d_X9_readPolynomial_68 (by decide) rfl rfl ?_
              refine r_aload_n (x := t) d_X9_readPolynomial_69 rfl o_t.1 ?_
              refine r_getf (j := 5) (t := 2) (x := t_term) d_X9_readPolynomial_70 kX9 (by decide) fl_X9_31 o_t.1 o_t.2.1 o_t.2.2.1 o_t.2.2.2 rfl f_t_term ?_
              refine r_lconst d_X9_readPolynomial_73 ?_
              skip
              refine x_callVV (Y2 := mX10_begin) (c := t_term) (As := [(1, 0)]) (S := []) d_X9_readPolynomial_74 ok_mX10_begin ml_X9_58 rfl (Nat.le_of_ble_eq_true rfl) (Nat.le_of_ble_eq_true rfl) rfl hd_1 kX10 o_t_term (c_X10_begin (v_X10_begin_0 o_t_term ?_))
              intro τ46 eτ46
              have h := h τ46 eτ46
              intro τ47 eτ47
              have h := h τ47 eτ47
              show WP l mX9_readPolynomial (rm d 0 0) noX _ 0 0 77 [(2, t), (0, x1), (2, a2), (0, v44), (0, x4), (0, x5), (0, x6), (0, y9)] [] N Λ τ47
              refine r_iload (x := y9) d_X9_readPolynomial_77 rfl ?_
              refine r_bipush (x := 45) d_X9_readPolynomial_79 ⟨by decide, by decide⟩ (by decide) ?_
              refine r_ic_ne (tgt := 88) d_X9_readPolynomial_81 rfl (fun hc => ?_) (fun hc => ?_)
              · have h := h.1 hc
                refine r_iconst (x := 1) d_X9_readPolynomial_88 ⟨by decide, by decide⟩ ?_
                refine r_istore (L2 := [(2, t), (0, x1), (2, a2), (0, v44), (0, 1), (0, x5), (0, x6), (0, y9)]) d_X9_readPolynomial_89 (by decide) rfl rfl ?_
                refine r_iconst (x := (-1)) d_X9_readPolynomial_91 ⟨by decide, by decide⟩ ?_
                refine r_istore (L2 := [(2, t), (0, x1), (2, a2), (0, v44), (0, 1), (0, (-1)), (0, x6), (0, y9)]) d_X9_readPolynomial_92 (by decide) rfl rfl ?_
                refine r_goto (tgt := 186) d_X9_readPolynomial_94 rfl ?_
                refine x_iinc (x := x6) (L := [(2, t), (0, x1), (2, a2), (0, v44), (0, 1), (0, (-1)), (0, x6), (0, y9)]) d_X9_readPolynomial_186 rfl (by decide) rfl (fun y48 ey48 => ?_)
                have h := h y48 ey48
                show WP _ _ _ _ _ _ _ _ [(2, t), (0, x1), (2, a2), (0, v44), (0, 1), (0, (-1)), (0, y48), (0, y9)] _ _ _ _
                refine r_goto (tgt := 23) d_X9_readPolynomial_189 rfl ?_
                exact x_mask h ⟨Or.inr rfl, Or.inr rfl, Or.inr rfl, Or.inr rfl, Or.inr rfl, Or.inr rfl, Or.inr rfl, Or.inl rfl, trivial⟩
              · have h := h.2 hc
                refine r_iconst (x := (-1)) d_X9_readPolynomial_84 ⟨by decide, by decide⟩ ?_
                refine r_goto (tgt := 89) d_X9_readPolynomial_85 rfl ?_
                refine r_istore (L2 := [(2, t), (0, x1), (2, a2), (0, v44), (0, (-1)), (0, x5), (0, x6), (0, y9)]) d_X9_readPolynomial_89 (by decide) rfl rfl ?_
                refine r_iconst (x := (-1)) d_X9_readPolynomial_91 ⟨by decide, by decide⟩ ?_
                refine r_istore (L2 := [(2, t), (0, x1), (2, a2), (0, v44), (0, (-1)), (0, (-1)), (0, x6), (0, y9)]) d_X9_readPolynomial_92 (by decide) rfl rfl ?_
                refine r_goto (tgt := 186) d_X9_readPolynomial_94 rfl ?_
                refine x_iinc (x := x6) (L := [(2, t), (0, x1), (2, a2), (0, v44), (0, (-1)), (0, (-1)), (0, x6), (0, y9)]) d_X9_readPolynomial_186 rfl (by decide) rfl (fun y49 ey49 => ?_)
                have h := h y49 ey49
                show WP _ _ _ _ _ _ _ _ [(2, t), (0, x1), (2, a2), (0, v44), (0, (-1)), (0, (-1)), (0, y49), (0, y9)] _ _ _ _
                refine r_goto (tgt := 23) d_X9_readPolynomial_189 rfl ?_
                exact x_mask h ⟨Or.inr rfl, Or.inr rfl, Or.inr rfl, Or.inr rfl, Or.inr rfl, Or.inr rfl, Or.inr rfl, Or.inl rfl, trivial⟩
          · have h := h.2 hc
            refine r_iconst (x := 0) d_X9_readPolynomial_55 ⟨by decide, by decide⟩ ?_
            refine r_goto (tgt := 68) d_X9_readPolynomial_56 rfl ?_
            refine r_istore_n (L2 := [(2, t), (0, x1), (2, a2), (0, 0), (0, x4), (0, x5), (0, x6), (0, y9)]) d_X9_readPolynomial_68 (by decide) rfl rfl ?_
            refine r_aload_n (x := t) d_X9_readPolynomial_69 rfl o_t.1 ?_
            refine r_getf (j := 5) (t := 2) (x := t_term) d_X9_readPolynomial_70 kX9 (by decide) fl_X9_31 o_t.1 o_t.2.1 o_t.2.2.1 o_t.2.2.2 rfl f_t_term ?_
            refine r_lconst d_X9_readPolynomial_73 ?_
            skip
            refine x_callVV (Y2 := mX10_begin) (c := t_term) (As := [(1, 0)]) (S := []) d_X9_readPolynomial_74 ok_mX10_begin ml_X9_58 rfl (Nat.le_of_ble_eq_true rfl) (Nat.le_of_ble_eq_true rfl) rfl hd_1 kX10 o_t_term (c_X10_begin (v_X10_begin_0 o_t_term ?_))
            intro τ50 eτ50
            have h := h τ50 eτ50
            intro τ51 eτ51
            have h := h τ51 eτ51
            show WP l mX9_readPolynomial (rm d 0 0) noX _ 0 0 77 [(2, t), (0, x1), (2, a2), (0, 0), (0, x4), (0, x5), (0, x6), (0, y9)] [] N Λ τ51
            refine r_iload (x := y9) d_X9_readPolynomial_77 rfl ?_
            refine r_bipush (x := 45) d_X9_readPolynomial_79 ⟨by decide, by decide⟩ (by decide) ?_
            refine r_ic_ne (tgt := 88) d_X9_readPolynomial_81 rfl (fun hc => ?_) (fun hc => ?_)
            · have h := h.1 hc
              refine r_iconst (x := 1) d_X9_readPolynomial_88 ⟨by decide, by decide⟩ ?_
              refine r_istore (L2 := [(2, t), (0, x1), (2, a2), (0, 0), (0, 1), (0, x5), (0, x6), (0, y9)]) d_X9_readPolynomial_89 (by decide) rfl rfl ?_
              refine r_iconst (x := (-1)) d_X9_readPolynomial_91 ⟨by decide, by decide⟩ ?_
              refine r_istore (L2 := [(2, t), (0, x1), (2, a2), (0, 0), (0, 1), (0, (-1)), (0, x6), (0, y9)]) d_X9_readPolynomial_92 (by decide) rfl rfl ?_
              refine r_goto (tgt := 186) d_X9_readPolynomial_94 rfl ?_
              refine x_iinc (x := x6) (L := [(2, t), (0, x1), (2, a2), (0, 0), (0, 1), (0, (-1)), (0, x6), (0, y9)]) d_X9_readPolynomial_186 rfl (by decide) rfl (fun y52 ey52 => ?_)
              have h := h y52 ey52
              show WP _ _ _ _ _ _ _ _ [(2, t), (0, x1), (2, a2), (0, 0), (0, 1), (0, (-1)), (0, y52), (0, y9)] _ _ _ _
              refine r_goto (tgt := 23) d_X9_readPolynomial_189 rfl ?_
              exact x_mask h ⟨Or.inr rfl, Or.inr rfl, Or.inr rfl, Or.inr rfl, Or.inr rfl, Or.inr rfl, Or.inr rfl, Or.inl rfl, trivial⟩
            · have h := h.2 hc
              refine r_iconst (x := (-1)) d_X9_readPolynomial_84 ⟨by decide, by decide⟩ ?_
              refine r_goto (tgt := 89) d_X9_readPolynomial_85 rfl ?_
              refine r_istore (L2 := [(2, t), (0, x1), (2, a2), (0, 0), (0, (-1)), (0, x5), (0, x6), (0, y9)]) d_X9_readPolynomial_89 (by decide) rfl rfl ?_
              refine r_iconst (x := (-1)) d_X9_readPolynomial_91 ⟨by decide, by decide⟩ ?_
              refine r_istore (L2 := [(2, t), (0, x1), (2, a2), (0, 0), (0, (-1)), (0, (-1)), (0, x6), (0, y9)]) d_X9_readPolynomial_92 (by decide) rfl rfl ?_
              refine r_goto (tgt := 186) d_X9_readPolynomial_94 rfl ?_
              refine x_iinc (x := x6) (L := [(2, t), (0, x1), (2, a2), (0, 0), (0, (-1)), (0, (-1)), (0, x6), (0, y9)]) d_X9_readPolynomial_186 rfl (by decide) rfl (fun y53 ey53 => ?_)
              have h := h y53 ey53
              show WP _ _ _ _ _ _ _ _ [(2, t), (0, x1), (2, a2), (0, 0), (0, (-1)), (0, (-1)), (0, y53), (0, y9)] _ _ _ _
              refine r_goto (tgt := 23) d_X9_readPolynomial_189 rfl ?_
              exact x_mask h ⟨Or.inr rfl, Or.inr rfl, Or.inr rfl, Or.inr rfl, Or.inr rfl, Or.inr rfl, Or.inr rfl, Or.inl rfl, trivial⟩
theorem v_X9_isPointDue_0 {l : Launch} {d N : Nat} {Λ : Lay} {P : Int → Mem → Prop} {σ : Mem} {x1 t t_due : Int} (o_t : Ob N Λ t 18 6) (f_t_due : (Λ t).2.2 4 = t_due)
    (h : ((¬ x1 = 0 → (Ix N Λ t_due 0 x1 ∧ (((σ t_due x1) = 2 → P 0 σ) ∧ (¬ ((σ t_due x1) = 2) → (Ix N Λ t_due 0 x1 ∧ ((5 ≤ (σ t_due x1) → P 0 σ) ∧ (¬ (5 ≤ (σ t_due x1)) → P 1 σ))))))) ∧ (x1 = 0 → (Ix N Λ t_due 0 0 ∧ ((3 ≤ (σ t_due 0) → P 0 σ) ∧ (¬ (3 ≤ (σ t_due 0)) → P 1 σ)))))) :
    WI l mX9_isPointDue d P 0 [(2, t), (0, x1)] [] N Λ σ := by
  refine r_iload_n (x := x1) d_X9_isPointDue_0 rfl ?_
  refine r_if_ne (tgt := 20) d_X9_isPointDue_1 rfl (fun hc => ?_) (fun hc => ?_)
  · have h := h.1 hc
    refine r_aload_n (x := t) d_X9_isPointDue_20 rfl o_t.1 ?_
    refine r_getf (j := 4) (t := 2) (x := t_due) d_X9_isPointDue_21 kX9 (by decide) fl_X9_25 o_t.1 o_t.2.1 o_t.2.2.1 o_t.2.2.2 rfl f_t_due ?_
    refine r_iload_n (x := x1) d_X9_isPointDue_24 rfl ?_
    refine x_iald d_X9_isPointDue_25 h.1 ?_
    have h := h.2
    refine r_iconst (x := 2) d_X9_isPointDue_26 ⟨by decide, by decide⟩ ?_
    refine r_ic_eq (tgt := 44) d_X9_isPointDue_27 rfl (fun hc => ?_) (fun hc => ?_)
    · have h := h.1 hc
      refine r_iconst (x := 0) d_X9_isPointDue_44 ⟨by decide, by decide⟩ ?_
      exact r_iret d_X9_isPointDue_45 rfl (by decide) (Nat.le_refl 0) (Nat.le_refl 0) ⟨_, rfl, rfl, rfl, h⟩
    · have h := h.2 hc
      refine r_aload_n (x := t) d_X9_isPointDue_30 rfl o_t.1 ?_
      refine r_getf (j := 4) (t := 2) (x := t_due) d_X9_isPointDue_31 kX9 (by decide) fl_X9_25 o_t.1 o_t.2.1 o_t.2.2.1 o_t.2.2.2 rfl f_t_due ?_
      refine r_iload_n (x := x1) d_X9_isPointDue_34 rfl ?_
      refine x_iald d_X9_isPointDue_35 h.1 ?_
      have h := h.2
      refine r_iconst (x := 5) d_X9_isPointDue_36 ⟨by decide, by decide⟩ ?_
      refine r_ic_ge (tgt := 44) d_X9_isPointDue_37 rfl (fun hc => ?_) (fun hc => ?_)
      · have h := h.1 hc
        refine r_iconst (x := 0) d_X9_isPointDue_44 ⟨by decide, by decide⟩ ?_
        exact r_iret d_X9_isPointDue_45 rfl (by decide) (Nat.le_refl 0) (Nat.le_refl 0) ⟨_, rfl, rfl, rfl, h⟩
      · have h := h.2 hc
        refine r_iconst (x := 1) d_X9_isPointDue_40 ⟨by decide, by decide⟩ ?_
        refine r_goto (tgt := 45) d_X9_isPointDue_41 rfl ?_
        exact r_iret d_X9_isPointDue_45 rfl (by decide) (Nat.le_refl 0) (Nat.le_refl 0) ⟨_, rfl, rfl, rfl, h⟩
  · have h := h.2 hc
    refine r_aload_n (x := t) d_X9_isPointDue_4 rfl o_t.1 ?_
    refine r_getf (j := 4) (t := 2) (x := t_due) d_X9_isPointDue_5 kX9 (by decide) fl_X9_25 o_t.1 o_t.2.1 o_t.2.2.1 o_t.2.2.2 rfl f_t_due ?_
    refine r_iconst (x := 0) d_X9_isPointDue_8 ⟨by decide, by decide⟩ ?_
    refine x_iald d_X9_isPointDue_9 h.1 ?_
    have h := h.2
    refine r_iconst (x := 3) d_X9_isPointDue_10 ⟨by decide, by decide⟩ ?_
    refine r_ic_ge (tgt := 18) d_X9_isPointDue_11 rfl (fun hc => ?_) (fun hc => ?_)
    · have h := h.1 hc
      refine r_iconst (x := 0) d_X9_isPointDue_18 ⟨by decide, by decide⟩ ?_
      exact r_iret d_X9_isPointDue_19 rfl (by decide) (Nat.le_refl 0) (Nat.le_refl 0) ⟨_, rfl, rfl, rfl, h⟩
    · have h := h.2 hc
      refine r_iconst (x := 1) d_X9_isPointDue_14 ⟨by decide, by decide⟩ ?_
      refine r_goto (tgt := 19) d_X9_isPointDue_15 rfl ?_
      exact r_iret d_X9_isPointDue_19 rfl (by decide) (Nat.le_refl 0) (Nat.le_refl 0) ⟨_, rfl, rfl, rfl, h⟩
theorem v_X9_tellsFigure_0 {l : Launch} {d N : Nat} {Λ : Lay} {P : Int → Mem → Prop} {σ : Mem} {x1 t t_due : Int} (o_t : Ob N Λ t 18 6) (f_t_due : (Λ t).2.2 4 = t_due)
    (h : (Ix N Λ t_due 0 0 ∧ (∀ τ1, τ1 = st σ t_due 0 0 → WI l mX9_tellsFigure d P 11 [(2, t), (0, x1), (0, 0), (0, 0), (3, 0), (3, 0)] [] N Λ τ1))) :
    WI l mX9_tellsFigure d P 0 [(2, t), (0, x1), (3, 0), (3, 0), (3, 0), (3, 0)] [] N Λ σ := by
  refine r_iconst (x := 0) d_X9_tellsFigure_0 ⟨by decide, by decide⟩ ?_
  refine r_istore_n (L2 := [(2, t), (0, x1), (0, 0), (3, 0), (3, 0), (3, 0)]) d_X9_tellsFigure_1 (by decide) rfl rfl ?_
  refine r_aload_n (x := t) d_X9_tellsFigure_2 rfl o_t.1 ?_
  refine r_getf (j := 4) (t := 2) (x := t_due) d_X9_tellsFigure_3 kX9 (by decide) fl_X9_25 o_t.1 o_t.2.1 o_t.2.2.1 o_t.2.2.2 rfl f_t_due ?_
  refine r_iconst (x := 0) d_X9_tellsFigure_6 ⟨by decide, by decide⟩ ?_
  refine r_iconst (x := 0) d_X9_tellsFigure_7 ⟨by decide, by decide⟩ ?_
  refine x_iast d_X9_tellsFigure_8 h.1 ?_
  have h := h.2
  refine r_nmM (fun τ1 eτ1 => ?_)
  have h := h τ1 eτ1
  refine r_iconst (x := 0) d_X9_tellsFigure_9 ⟨by decide, by decide⟩ ?_
  refine r_istore_n (L2 := [(2, t), (0, x1), (0, 0), (0, 0), (3, 0), (3, 0)]) d_X9_tellsFigure_10 (by decide) rfl rfl ?_
  exact h
theorem v_X9_tellsFigure_11 {l : Launch} {d N : Nat} {Λ : Lay} {P : Int → Mem → Prop} {σ : Mem} {x1 x2 x3 t t_bytes t_due : Int} (o_t : Ob N Λ t 18 6) (f_t_due : (Λ t).2.2 4 = t_due) (f_t_bytes : (Λ t).2.2 0 = t_bytes) (h0d : 1 ≤ d)
    (h : ((x1 ≤ x3 → ((¬ x2 = 0 → WI l mX9_tellsFigure d P 198 [(2, t), (0, x1), (0, x2), (0, x3), (3, 0), (3, 0)] [] N Λ σ) ∧ (x2 = 0 → (Ix N Λ t_due 0 0 ∧ ((¬ (σ t_due 0) = 3 → WI l mX9_tellsFigure d P 198 [(2, t), (0, x1), (0, x2), (0, x3), (3, 0), (3, 0)] [] N Λ σ) ∧ ((σ t_due 0) = 3 → WI l mX9_tellsFigure d P 199 [(2, t), (0, x1), (0, x2), (0, x3), (3, 0), (3, 0)] [(0, 1)] N Λ σ)))))) ∧ (¬ (x1 ≤ x3) → (Ix N Λ t_bytes 0 x3 ∧ (∀ y1, y1 = (σ t_bytes x3) → (CI l mX9_isPointDue (d - 1) [(2, t), (0, x2)] N Λ σ (fun v3 σ2 => ((v3 = 0 → WI l mX9_tellsFigure d P 55 [(2, t), (0, x1), (0, x2), (0, x3), (0, y1), (0, v3)] [] N Λ σ2) ∧ (¬ (v3 = 0) → ((¬ y1 = 40 → WI l mX9_tellsFigure d P 55 [(2, t), (0, x1), (0, x2), (0, x3), (0, y1), (0, v3)] [] N Λ σ2) ∧ (y1 = 40 → ((x2 < 2 → WI l mX9_tellsFigure d P 55 [(2, t), (0, x1), (0, x2), (0, x3), (0, y1), (0, v3)] [] N Λ σ2) ∧ (¬ (x2 < 2) → (∀ τ4, τ4 = st σ2 t 2 4 → (∀ τ5, τ5 = st τ4 t 3 x3 → ((¬ (4 : Int) = 0 → P 0 τ5) ∧ ((4 : Int) = 0 → P 1 τ5))))))))))))))))) :
    WI l mX9_tellsFigure d P 11 [(2, t), (0, x1), (0, x2), (0, x3), (3, 0), (3, 0)] [] N Λ σ := by
  have hd_1 : 1 ≤ d := Nat.le_trans (by decide) h0d
  refine r_iload_n (x := x3) d_X9_tellsFigure_11 rfl ?_
  refine r_iload_n (x := x1) d_X9_tellsFigure_12 rfl ?_
  refine r_ic_ge (tgt := 180) d_X9_tellsFigure_13 rfl (fun hc => ?_) (fun hc => ?_)
  · have h := h.1 hc
    refine r_iload_n (x := x2) d_X9_tellsFigure_180 rfl ?_
    refine r_if_ne (tgt := 198) d_X9_tellsFigure_181 rfl (fun hc => ?_) (fun hc => ?_)
    · have h := h.1 hc
      exact h
    · have h := h.2 hc
      refine r_aload_n (x := t) d_X9_tellsFigure_184 rfl o_t.1 ?_
      refine r_getf (j := 4) (t := 2) (x := t_due) d_X9_tellsFigure_185 kX9 (by decide) fl_X9_25 o_t.1 o_t.2.1 o_t.2.2.1 o_t.2.2.2 rfl f_t_due ?_
      refine r_iconst (x := 0) d_X9_tellsFigure_188 ⟨by decide, by decide⟩ ?_
      refine x_iald d_X9_tellsFigure_189 h.1 ?_
      have h := h.2
      refine r_iconst (x := 3) d_X9_tellsFigure_190 ⟨by decide, by decide⟩ ?_
      refine r_ic_ne (tgt := 198) d_X9_tellsFigure_191 rfl (fun hc => ?_) (fun hc => ?_)
      · have h := h.1 hc
        exact h
      · have h := h.2 hc
        refine r_iconst (x := 1) d_X9_tellsFigure_194 ⟨by decide, by decide⟩ ?_
        refine r_goto (tgt := 199) d_X9_tellsFigure_195 rfl ?_
        exact h
  · have h := h.2 hc
    refine r_aload_n (x := t) d_X9_tellsFigure_16 rfl o_t.1 ?_
    refine r_getf (j := 0) (t := 2) (x := t_bytes) d_X9_tellsFigure_17 kX9 (by decide) fl_X9_9 o_t.1 o_t.2.1 o_t.2.2.1 o_t.2.2.2 rfl f_t_bytes ?_
    refine r_iload_n (x := x3) d_X9_tellsFigure_20 rfl ?_
    refine x_iald d_X9_tellsFigure_21 h.1 ?_
    have h := h.2
    refine r_nm (fun y1 ey1 => ?_)
    have h := h y1 ey1
    refine r_istore (L2 := [(2, t), (0, x1), (0, x2), (0, x3), (0, y1), (3, 0)]) d_X9_tellsFigure_22 (by decide) rfl rfl ?_
    refine r_aload_n (x := t) d_X9_tellsFigure_24 rfl o_t.1 ?_
    refine r_iload_n (x := x2) d_X9_tellsFigure_25 rfl ?_
    refine x_callVI (Y2 := mX9_isPointDue) (c := t) (As := [(0, x2)]) (S := []) d_X9_tellsFigure_26 ok_mX9_isPointDue ml_X9_92 rfl (Nat.le_of_ble_eq_true rfl) (Nat.le_of_ble_eq_true rfl) rfl hd_1 kX9 o_t (CI.mono h (fun v3 σ2 h => ?_))
    refine r_istore (L2 := [(2, t), (0, x1), (0, x2), (0, x3), (0, y1), (0, v3)]) d_X9_tellsFigure_29 (by decide) rfl rfl ?_
    refine r_iload (x := v3) d_X9_tellsFigure_31 rfl ?_
    refine r_if_eq (tgt := 55) d_X9_tellsFigure_33 rfl (fun hc => ?_) (fun hc => ?_)
    · have h := h.1 hc
      exact h
    · have h := h.2 hc
      refine r_iload (x := y1) d_X9_tellsFigure_36 rfl ?_
      refine r_bipush (x := 40) d_X9_tellsFigure_38 ⟨by decide, by decide⟩ (by decide) ?_
      refine r_ic_ne (tgt := 55) d_X9_tellsFigure_40 rfl (fun hc => ?_) (fun hc => ?_)
      · have h := h.1 hc
        exact h
      · have h := h.2 hc
        refine r_iload_n (x := x2) d_X9_tellsFigure_43 rfl ?_
        refine r_iconst (x := 2) d_X9_tellsFigure_44 ⟨by decide, by decide⟩ ?_
        refine r_ic_lt (tgt := 55) d_X9_tellsFigure_45 rfl (fun hc => ?_) (fun hc => ?_)
        · have h := h.1 hc
          exact h
        · have h := h.2 hc
          refine r_aload_n (x := t) d_X9_tellsFigure_48 rfl o_t.1 ?_
          refine r_iconst (x := 4) d_X9_tellsFigure_49 ⟨by decide, by decide⟩ ?_
          refine r_iload_n (x := x3) d_X9_tellsFigure_50 rfl ?_
          refine x_callVI (Y2 := mX9_note) (c := t) (As := [(0, 4), (0, x3)]) (S := []) d_X9_tellsFigure_51 ok_mX9_note ml_X9_39 rfl (Nat.le_of_ble_eq_true rfl) (Nat.le_of_ble_eq_true rfl) rfl hd_1 kX9 o_t (c_X9_note (v_X9_note_0 o_t ?_))
          intro τ4 eτ4
          have h := h τ4 eτ4
          intro τ5 eτ5
          have h := h τ5 eτ5
          refine ⟨fun hc => ?_, fun hc => ?_⟩
          · have h := h.1 hc
            show WP l mX9_tellsFigure (rm d 0 0) noX _ 0 0 54 [(2, t), (0, x1), (0, x2), (0, x3), (0, y1), (0, v3)] [(0, 0)] N Λ τ5
            exact r_iret d_X9_tellsFigure_54 rfl (by decide) (Nat.le_refl 0) (Nat.le_refl 0) ⟨_, rfl, rfl, rfl, h⟩
          · have h := h.2 hc
            show WP l mX9_tellsFigure (rm d 0 0) noX _ 0 0 54 [(2, t), (0, x1), (0, x2), (0, x3), (0, y1), (0, v3)] [(0, 1)] N Λ τ5
            exact r_iret d_X9_tellsFigure_54 rfl (by decide) (Nat.le_refl 0) (Nat.le_refl 0) ⟨_, rfl, rfl, rfl, h⟩
theorem v_X9_tellsFigure_55 {l : Launch} {d N : Nat} {Λ : Lay} {P : Int → Mem → Prop} {σ : Mem} {x1 x2 x3 x4 x5 t t_due : Int} (o_t : Ob N Λ t 18 6) (f_t_due : (Λ t).2.2 4 = t_due)
    (h : ((x5 = 0 → WI l mX9_tellsFigure d P 80 [(2, t), (0, x1), (0, x2), (0, x3), (0, x4), (0, x5)] [] N Λ σ) ∧ (¬ (x5 = 0) → ((¬ x4 = 40 → WI l mX9_tellsFigure d P 80 [(2, t), (0, x1), (0, x2), (0, x3), (0, x4), (0, x5)] [] N Λ σ) ∧ (x4 = 40 → (∀ y1, y1 = addI x2 1 → (Ix N Λ t_due 0 y1 ∧ (∀ τ2, τ2 = st σ t_due y1 0 → WI l mX9_tellsFigure d P 174 [(2, t), (0, x1), (0, y1), (0, x3), (0, x4), (0, x5)] [] N Λ τ2)))))))) :
    WI l mX9_tellsFigure d P 55 [(2, t), (0, x1), (0, x2), (0, x3), (0, x4), (0, x5)] [] N Λ σ := by
  refine r_iload (x := x5) d_X9_tellsFigure_55 rfl ?_
  refine r_if_eq (tgt := 80) d_X9_tellsFigure_57 rfl (fun hc => ?_) (fun hc => ?_)
  · have h := h.1 hc
    exact h
  · have h := h.2 hc
    refine r_iload (x := x4) d_X9_tellsFigure_60 rfl ?_
    refine r_bipush (x := 40) d_X9_tellsFigure_62 ⟨by decide, by decide⟩ (by decide) ?_
    refine r_ic_ne (tgt := 80) d_X9_tellsFigure_64 rfl (fun hc => ?_) (fun hc => ?_)
    · have h := h.1 hc
      exact h
    · have h := h.2 hc
      refine x_iinc (x := x2) (L := [(2, t), (0, x1), (0, x2), (0, x3), (0, x4), (0, x5)]) d_X9_tellsFigure_67 rfl (by decide) rfl (fun y1 ey1 => ?_)
      have h := h y1 ey1
      show WP _ _ _ _ _ _ _ _ [(2, t), (0, x1), (0, y1), (0, x3), (0, x4), (0, x5)] _ _ _ _
      refine r_aload_n (x := t) d_X9_tellsFigure_70 rfl o_t.1 ?_
      refine r_getf (j := 4) (t := 2) (x := t_due) d_X9_tellsFigure_71 kX9 (by decide) fl_X9_25 o_t.1 o_t.2.1 o_t.2.2.1 o_t.2.2.2 rfl f_t_due ?_
      refine r_iload_n (x := y1) d_X9_tellsFigure_74 rfl ?_
      refine r_iconst (x := 0) d_X9_tellsFigure_75 ⟨by decide, by decide⟩ ?_
      refine x_iast d_X9_tellsFigure_76 h.1 ?_
      have h := h.2
      refine r_nmM (fun τ2 eτ2 => ?_)
      have h := h τ2 eτ2
      refine r_goto (tgt := 174) d_X9_tellsFigure_77 rfl ?_
      exact h
theorem v_X9_tellsFigure_80 {l : Launch} {d N : Nat} {Λ : Lay} {P : Int → Mem → Prop} {σ : Mem} {x1 x2 x3 x4 x5 t t_due : Int} (o_t : Ob N Λ t 18 6) (f_t_due : (Λ t).2.2 4 = t_due) (h0d : 1 ≤ d)
    (h : ((x5 = 0 → ((x2 ≤ 0 → WI l mX9_tellsFigure d P 130 [(2, t), (0, x1), (0, x2), (0, x3), (0, x4), (0, x5)] [] N Λ σ) ∧ (¬ (x2 ≤ 0) → (Ix N Λ t_due 0 x2 ∧ ((¬ (σ t_due x2) = 2 → WI l mX9_tellsFigure d P 130 [(2, t), (0, x1), (0, x2), (0, x3), (0, x4), (0, x5)] [] N Λ σ) ∧ ((σ t_due x2) = 2 → ((¬ x4 = 94 → WI l mX9_tellsFigure d P 130 [(2, t), (0, x1), (0, x2), (0, x3), (0, x4), (0, x5)] [] N Λ σ) ∧ (x4 = 94 → WI l mX9_tellsFigure d P 117 [(2, t), (0, x1), (0, x2), (0, x3), (0, x4), (0, x5)] [] N Λ σ)))))))) ∧ (¬ (x5 = 0) → ((x4 < 97 → WI l mX9_tellsFigure d P 130 [(2, t), (0, x1), (0, x2), (0, x3), (0, x4), (0, x5)] [] N Λ σ) ∧ (¬ (x4 < 97) → ((106 < x4 → WI l mX9_tellsFigure d P 130 [(2, t), (0, x1), (0, x2), (0, x3), (0, x4), (0, x5)] [] N Λ σ) ∧ (¬ (106 < x4) → WI l mX9_tellsFigure d P 117 [(2, t), (0, x1), (0, x2), (0, x3), (0, x4), (0, x5)] [] N Λ σ))))))) :
    WI l mX9_tellsFigure d P 80 [(2, t), (0, x1), (0, x2), (0, x3), (0, x4), (0, x5)] [] N Λ σ := by
  have hd_1 : 1 ≤ d := Nat.le_trans (by decide) h0d
  refine r_iload (x := x5) d_X9_tellsFigure_80 rfl ?_
  refine r_if_eq (tgt := 96) d_X9_tellsFigure_82 rfl (fun hc => ?_) (fun hc => ?_)
  · have h := h.1 hc
    refine r_iload_n (x := x2) d_X9_tellsFigure_96 rfl ?_
    refine r_if_le (tgt := 130) d_X9_tellsFigure_97 rfl (fun hc => ?_) (fun hc => ?_)
    · have h := h.1 hc
      exact h
    · have h := h.2 hc
      refine r_aload_n (x := t) d_X9_tellsFigure_100 rfl o_t.1 ?_
      refine r_getf (j := 4) (t := 2) (x := t_due) d_X9_tellsFigure_101 kX9 (by decide) fl_X9_25 o_t.1 o_t.2.1 o_t.2.2.1 o_t.2.2.2 rfl f_t_due ?_
      refine r_iload_n (x := x2) d_X9_tellsFigure_104 rfl ?_
      refine x_iald d_X9_tellsFigure_105 h.1 ?_
      have h := h.2
      refine r_iconst (x := 2) d_X9_tellsFigure_106 ⟨by decide, by decide⟩ ?_
      refine r_ic_ne (tgt := 130) d_X9_tellsFigure_107 rfl (fun hc => ?_) (fun hc => ?_)
      · have h := h.1 hc
        exact h
      · have h := h.2 hc
        refine r_iload (x := x4) d_X9_tellsFigure_110 rfl ?_
        refine r_bipush (x := 94) d_X9_tellsFigure_112 ⟨by decide, by decide⟩ (by decide) ?_
        refine r_ic_ne (tgt := 130) d_X9_tellsFigure_114 rfl (fun hc => ?_) (fun hc => ?_)
        · have h := h.1 hc
          exact h
        · have h := h.2 hc
          exact h
  · have h := h.2 hc
    refine r_iload (x := x4) d_X9_tellsFigure_85 rfl ?_
    refine x_callSI (Y2 := mX9_isLetterByte) (As := [(0, x4)]) (S := []) d_X9_tellsFigure_87 ok_mX9_isLetterByte ml_X9_43 rfl (Nat.le_of_ble_eq_true rfl) (Nat.le_of_ble_eq_true rfl) rfl hd_1 (c_X9_isLetterByte (v_X9_isLetterByte_0 ?_))
    refine ⟨fun hc => ?_, fun hc => ?_⟩
    · have h := h.1 hc
      show WP l mX9_tellsFigure (rm d 0 0) noX _ 0 0 90 [(2, t), (0, x1), (0, x2), (0, x3), (0, x4), (0, x5)] [(0, 0)] N Λ σ
      refine r_if_eq (tgt := 130) d_X9_tellsFigure_90 rfl (fun _ => ?_) (fun hc => absurd hc (by decide))
      exact h
    · have h := h.2 hc
      refine ⟨fun hc => ?_, fun hc => ?_⟩
      · have h := h.1 hc
        show WP l mX9_tellsFigure (rm d 0 0) noX _ 0 0 90 [(2, t), (0, x1), (0, x2), (0, x3), (0, x4), (0, x5)] [(0, 0)] N Λ σ
        refine r_if_eq (tgt := 130) d_X9_tellsFigure_90 rfl (fun _ => ?_) (fun hc => absurd hc (by decide))
        exact h
      · have h := h.2 hc
        show WP l mX9_tellsFigure (rm d 0 0) noX _ 0 0 90 [(2, t), (0, x1), (0, x2), (0, x3), (0, x4), (0, x5)] [(0, 1)] N Λ σ
        refine r_if_eq (tgt := 130) d_X9_tellsFigure_90 rfl (fun hc => absurd hc (by decide)) (fun _ => ?_)
        refine r_goto (tgt := 117) d_X9_tellsFigure_93 rfl ?_
        exact h
theorem v_X9_tellsFigure_117 {l : Launch} {d N : Nat} {Λ : Lay} {P : Int → Mem → Prop} {σ : Mem} {x1 x2 x3 x4 x5 t t_due : Int} (o_t : Ob N Λ t 18 6) (f_t_due : (Λ t).2.2 4 = t_due)
    (h : (Ix N Λ t_due 0 x2 ∧ (Ix N Λ t_due 0 x2 ∧ (∀ τ1, τ1 = st σ t_due x2 (addI (σ t_due x2) 1) → WI l mX9_tellsFigure d P 174 [(2, t), (0, x1), (0, x2), (0, x3), (0, x4), (0, x5)] [] N Λ τ1)))) :
    WI l mX9_tellsFigure d P 117 [(2, t), (0, x1), (0, x2), (0, x3), (0, x4), (0, x5)] [] N Λ σ := by
  refine r_aload_n (x := t) d_X9_tellsFigure_117 rfl o_t.1 ?_
  refine r_getf (j := 4) (t := 2) (x := t_due) d_X9_tellsFigure_118 kX9 (by decide) fl_X9_25 o_t.1 o_t.2.1 o_t.2.2.1 o_t.2.2.2 rfl f_t_due ?_
  refine r_iload_n (x := x2) d_X9_tellsFigure_121 rfl ?_
  refine r_dup2 d_X9_tellsFigure_122 rfl rfl ?_
  refine x_iald d_X9_tellsFigure_123 h.1 ?_
  have h := h.2
  refine r_iconst (x := 1) d_X9_tellsFigure_124 ⟨by decide, by decide⟩ ?_
  refine r_iadd d_X9_tellsFigure_125 ?_
  refine x_iast d_X9_tellsFigure_126 h.1 ?_
  have h := h.2
  refine r_nmM (fun τ1 eτ1 => ?_)
  have h := h τ1 eτ1
  refine r_goto (tgt := 174) d_X9_tellsFigure_127 rfl ?_
  exact h
theorem v_X9_tellsFigure_130 {l : Launch} {d N : Nat} {Λ : Lay} {P : Int → Mem → Prop} {σ : Mem} {x1 x2 x3 x4 x5 t t_due : Int} (o_t : Ob N Λ t 18 6) (f_t_due : (Λ t).2.2 4 = t_due)
    (h : ((x2 ≤ 0 → WI l mX9_tellsFigure d P 167 [(2, t), (0, x1), (0, x2), (0, x3), (0, x4), (0, x5)] [] N Λ σ) ∧ (¬ (x2 ≤ 0) → (Ix N Λ t_due 0 x2 ∧ ((¬ (σ t_due x2) = 5 → WI l mX9_tellsFigure d P 167 [(2, t), (0, x1), (0, x2), (0, x3), (0, x4), (0, x5)] [] N Λ σ) ∧ ((σ t_due x2) = 5 → ((¬ x4 = 41 → WI l mX9_tellsFigure d P 167 [(2, t), (0, x1), (0, x2), (0, x3), (0, x4), (0, x5)] [] N Λ σ) ∧ (x4 = 41 → (∀ y1, y1 = addI x2 (-1) → (Ix N Λ t_due 0 y1 ∧ (Ix N Λ t_due 0 y1 ∧ (∀ τ2, τ2 = st σ t_due y1 (addI (σ t_due y1) 1) → WI l mX9_tellsFigure d P 174 [(2, t), (0, x1), (0, y1), (0, x3), (0, x4), (0, x5)] [] N Λ τ2)))))))))))) :
    WI l mX9_tellsFigure d P 130 [(2, t), (0, x1), (0, x2), (0, x3), (0, x4), (0, x5)] [] N Λ σ := by
  refine r_iload_n (x := x2) d_X9_tellsFigure_130 rfl ?_
  refine r_if_le (tgt := 167) d_X9_tellsFigure_131 rfl (fun hc => ?_) (fun hc => ?_)
  · have h := h.1 hc
    exact h
  · have h := h.2 hc
    refine r_aload_n (x := t) d_X9_tellsFigure_134 rfl o_t.1 ?_
    refine r_getf (j := 4) (t := 2) (x := t_due) d_X9_tellsFigure_135 kX9 (by decide) fl_X9_25 o_t.1 o_t.2.1 o_t.2.2.1 o_t.2.2.2 rfl f_t_due ?_
    refine r_iload_n (x := x2) d_X9_tellsFigure_138 rfl ?_
    refine x_iald d_X9_tellsFigure_139 h.1 ?_
    have h := h.2
    refine r_iconst (x := 5) d_X9_tellsFigure_140 ⟨by decide, by decide⟩ ?_
    refine r_ic_ne (tgt := 167) d_X9_tellsFigure_141 rfl (fun hc => ?_) (fun hc => ?_)
    · have h := h.1 hc
      exact h
    · have h := h.2 hc
      refine r_iload (x := x4) d_X9_tellsFigure_144 rfl ?_
      refine r_bipush (x := 41) d_X9_tellsFigure_146 ⟨by decide, by decide⟩ (by decide) ?_
      refine r_ic_ne (tgt := 167) d_X9_tellsFigure_148 rfl (fun hc => ?_) (fun hc => ?_)
      · have h := h.1 hc
        exact h
      · have h := h.2 hc
        refine x_iinc (x := x2) (L := [(2, t), (0, x1), (0, x2), (0, x3), (0, x4), (0, x5)]) d_X9_tellsFigure_151 rfl (by decide) rfl (fun y1 ey1 => ?_)
        have h := h y1 ey1
        show WP _ _ _ _ _ _ _ _ [(2, t), (0, x1), (0, y1), (0, x3), (0, x4), (0, x5)] _ _ _ _
        refine r_aload_n (x := t) d_X9_tellsFigure_154 rfl o_t.1 ?_
        refine r_getf (j := 4) (t := 2) (x := t_due) d_X9_tellsFigure_155 kX9 (by decide) fl_X9_25 o_t.1 o_t.2.1 o_t.2.2.1 o_t.2.2.2 rfl f_t_due ?_
        refine r_iload_n (x := y1) d_X9_tellsFigure_158 rfl ?_
        refine r_dup2 d_X9_tellsFigure_159 rfl rfl ?_
        refine x_iald d_X9_tellsFigure_160 h.1 ?_
        have h := h.2
        refine r_iconst (x := 1) d_X9_tellsFigure_161 ⟨by decide, by decide⟩ ?_
        refine r_iadd d_X9_tellsFigure_162 ?_
        refine x_iast d_X9_tellsFigure_163 h.1 ?_
        have h := h.2
        refine r_nmM (fun τ2 eτ2 => ?_)
        have h := h τ2 eτ2
        refine r_goto (tgt := 174) d_X9_tellsFigure_164 rfl ?_
        exact h
theorem v_X9_tellsFigure_167 {l : Launch} {d N : Nat} {Λ : Lay} {P : Int → Mem → Prop} {σ : Mem} {x1 x2 x3 x4 x5 t : Int} (o_t : Ob N Λ t 18 6) (h0d : 1 ≤ d)
    (h : (∀ τ1, τ1 = st σ t 2 1 → (∀ τ2, τ2 = st τ1 t 3 x3 → ((¬ (1 : Int) = 0 → P 0 τ2) ∧ ((1 : Int) = 0 → P 1 τ2))))) :
    WI l mX9_tellsFigure d P 167 [(2, t), (0, x1), (0, x2), (0, x3), (0, x4), (0, x5)] [] N Λ σ := by
  have hd_1 : 1 ≤ d := Nat.le_trans (by decide) h0d
  refine r_aload_n (x := t) d_X9_tellsFigure_167 rfl o_t.1 ?_
  refine r_iconst (x := 1) d_X9_tellsFigure_168 ⟨by decide, by decide⟩ ?_
  refine r_iload_n (x := x3) d_X9_tellsFigure_169 rfl ?_
  refine x_callVI (Y2 := mX9_note) (c := t) (As := [(0, 1), (0, x3)]) (S := []) d_X9_tellsFigure_170 ok_mX9_note ml_X9_39 rfl (Nat.le_of_ble_eq_true rfl) (Nat.le_of_ble_eq_true rfl) rfl hd_1 kX9 o_t (c_X9_note (v_X9_note_0 o_t ?_))
  intro τ1 eτ1
  have h := h τ1 eτ1
  intro τ2 eτ2
  have h := h τ2 eτ2
  refine ⟨fun hc => ?_, fun hc => ?_⟩
  · have h := h.1 hc
    show WP l mX9_tellsFigure (rm d 0 0) noX _ 0 0 173 [(2, t), (0, x1), (0, x2), (0, x3), (0, x4), (0, x5)] [(0, 0)] N Λ τ2
    exact r_iret d_X9_tellsFigure_173 rfl (by decide) (Nat.le_refl 0) (Nat.le_refl 0) ⟨_, rfl, rfl, rfl, h⟩
  · have h := h.2 hc
    show WP l mX9_tellsFigure (rm d 0 0) noX _ 0 0 173 [(2, t), (0, x1), (0, x2), (0, x3), (0, x4), (0, x5)] [(0, 1)] N Λ τ2
    exact r_iret d_X9_tellsFigure_173 rfl (by decide) (Nat.le_refl 0) (Nat.le_refl 0) ⟨_, rfl, rfl, rfl, h⟩
theorem v_X9_tellsFigure_174 {l : Launch} {d N : Nat} {Λ : Lay} {P : Int → Mem → Prop} {σ : Mem} {x1 x2 x3 x4 x5 t : Int}
    (h : (∀ y1, y1 = addI x3 1 → WI l mX9_tellsFigure d P 11 [(2, t), (0, x1), (0, x2), (0, y1), (3, 0), (3, 0)] [] N Λ σ)) :
    WI l mX9_tellsFigure d P 174 [(2, t), (0, x1), (0, x2), (0, x3), (0, x4), (0, x5)] [] N Λ σ := by
  refine x_iinc (x := x3) (L := [(2, t), (0, x1), (0, x2), (0, x3), (0, x4), (0, x5)]) d_X9_tellsFigure_174 rfl (by decide) rfl (fun y1 ey1 => ?_)
  have h := h y1 ey1
  show WP _ _ _ _ _ _ _ _ [(2, t), (0, x1), (0, x2), (0, y1), (0, x4), (0, x5)] _ _ _ _
  refine r_goto (tgt := 11) d_X9_tellsFigure_177 rfl ?_
  exact x_mask h ⟨Or.inr rfl, Or.inr rfl, Or.inr rfl, Or.inr rfl, Or.inl rfl, Or.inl rfl, trivial⟩
theorem v_X9_tellsFigure_198 {l : Launch} {d N : Nat} {Λ : Lay} {P : Int → Mem → Prop} {σ : Mem} {x1 x2 x3 t : Int}
    (h : WI l mX9_tellsFigure d P 199 [(2, t), (0, x1), (0, x2), (0, x3), (3, 0), (3, 0)] [(0, 0)] N Λ σ) :
    WI l mX9_tellsFigure d P 198 [(2, t), (0, x1), (0, x2), (0, x3), (3, 0), (3, 0)] [] N Λ σ := by
  refine r_iconst (x := 0) d_X9_tellsFigure_198 ⟨by decide, by decide⟩ ?_
  exact h
theorem v_X9_tellsFigure_199 {l : Launch} {d N : Nat} {Λ : Lay} {P : Int → Mem → Prop} {σ : Mem} {x1 x2 x3 w0 t : Int} (o_t : Ob N Λ t 18 6) (h0d : 1 ≤ d)
    (h : ((w0 = 0 → (∀ τ1, τ1 = st σ t 2 1 → (∀ τ2, τ2 = st τ1 t 3 x1 → ((¬ (1 : Int) = 0 → WI l mX9_tellsFigure d P 219 [(2, t), (0, x1), (0, x2), (0, w0), (3, 0), (3, 0)] [(0, 0)] N Λ τ2) ∧ ((1 : Int) = 0 → WI l mX9_tellsFigure d P 219 [(2, t), (0, x1), (0, x2), (0, w0), (3, 0), (3, 0)] [(0, 1)] N Λ τ2))))) ∧ (¬ (w0 = 0) → (∀ τ3, τ3 = st σ t 2 0 → (∀ τ4, τ4 = st τ3 t 3 (-1) → ((¬ (0 : Int) = 0 → WI l mX9_tellsFigure d P 219 [(2, t), (0, x1), (0, x2), (0, w0), (3, 0), (3, 0)] [(0, 0)] N Λ τ4) ∧ ((0 : Int) = 0 → WI l mX9_tellsFigure d P 219 [(2, t), (0, x1), (0, x2), (0, w0), (3, 0), (3, 0)] [(0, 1)] N Λ τ4))))))) :
    WI l mX9_tellsFigure d P 199 [(2, t), (0, x1), (0, x2), (0, x3), (3, 0), (3, 0)] [(0, w0)] N Λ σ := by
  have hd_1 : 1 ≤ d := Nat.le_trans (by decide) h0d
  refine r_istore_n (L2 := [(2, t), (0, x1), (0, x2), (0, w0), (3, 0), (3, 0)]) d_X9_tellsFigure_199 (by decide) rfl rfl ?_
  refine r_iload_n (x := w0) d_X9_tellsFigure_200 rfl ?_
  refine r_if_eq (tgt := 213) d_X9_tellsFigure_201 rfl (fun hc => ?_) (fun hc => ?_)
  · have h := h.1 hc
    refine r_aload_n (x := t) d_X9_tellsFigure_213 rfl o_t.1 ?_
    refine r_iconst (x := 1) d_X9_tellsFigure_214 ⟨by decide, by decide⟩ ?_
    refine r_iload_n (x := x1) d_X9_tellsFigure_215 rfl ?_
    refine x_callVI (Y2 := mX9_note) (c := t) (As := [(0, 1), (0, x1)]) (S := []) d_X9_tellsFigure_216 ok_mX9_note ml_X9_39 rfl (Nat.le_of_ble_eq_true rfl) (Nat.le_of_ble_eq_true rfl) rfl hd_1 kX9 o_t (c_X9_note (v_X9_note_0 o_t ?_))
    intro τ1 eτ1
    have h := h τ1 eτ1
    intro τ2 eτ2
    have h := h τ2 eτ2
    refine ⟨fun hc => ?_, fun hc => ?_⟩
    · have h := h.1 hc
      show WP l mX9_tellsFigure (rm d 0 0) noX _ 0 0 219 [(2, t), (0, x1), (0, x2), (0, w0), (3, 0), (3, 0)] [(0, 0)] N Λ τ2
      exact h
    · have h := h.2 hc
      show WP l mX9_tellsFigure (rm d 0 0) noX _ 0 0 219 [(2, t), (0, x1), (0, x2), (0, w0), (3, 0), (3, 0)] [(0, 1)] N Λ τ2
      exact h
  · have h := h.2 hc
    refine r_aload_n (x := t) d_X9_tellsFigure_204 rfl o_t.1 ?_
    refine r_iconst (x := 0) d_X9_tellsFigure_205 ⟨by decide, by decide⟩ ?_
    refine r_iconst (x := (-1)) d_X9_tellsFigure_206 ⟨by decide, by decide⟩ ?_
    refine x_callVI (Y2 := mX9_note) (c := t) (As := [(0, 0), (0, (-1))]) (S := []) d_X9_tellsFigure_207 ok_mX9_note ml_X9_39 rfl (Nat.le_of_ble_eq_true rfl) (Nat.le_of_ble_eq_true rfl) rfl hd_1 kX9 o_t (c_X9_note (v_X9_note_0 o_t ?_))
    intro τ3 eτ3
    have h := h τ3 eτ3
    intro τ4 eτ4
    have h := h τ4 eτ4
    refine ⟨fun hc => ?_, fun hc => ?_⟩
    · have h := h.1 hc
      show WP l mX9_tellsFigure (rm d 0 0) noX _ 0 0 210 [(2, t), (0, x1), (0, x2), (0, w0), (3, 0), (3, 0)] [(0, 0)] N Λ τ4
      refine r_goto (tgt := 219) d_X9_tellsFigure_210 rfl ?_
      exact h
    · have h := h.2 hc
      show WP l mX9_tellsFigure (rm d 0 0) noX _ 0 0 210 [(2, t), (0, x1), (0, x2), (0, w0), (3, 0), (3, 0)] [(0, 1)] N Λ τ4
      refine r_goto (tgt := 219) d_X9_tellsFigure_210 rfl ?_
      exact h
theorem v_X9_tellsFigure_219 {l : Launch} {d N : Nat} {Λ : Lay} {P : Int → Mem → Prop} {σ : Mem} {x1 x2 x3 w0 t : Int}
    (h : (((w0 : Int) = 0 ∨ (w0 : Int) = 1) ∧ P w0 σ)) :
    WI l mX9_tellsFigure d P 219 [(2, t), (0, x1), (0, x2), (0, x3), (3, 0), (3, 0)] [(0, w0)] N Λ σ := by
  exact r_iret d_X9_tellsFigure_219 rfl (nbool h.1) (Nat.le_refl 0) (Nat.le_refl 0) ⟨_, rfl, rfl, rfl, h.2⟩
theorem v_X10_renamed_0 {l : Launch} {d N : Nat} {Λ : Lay} {P : Int → Mem → Prop} {σ : Mem} {x0 x1 x2 x3 : Int}
    (h : ((¬ x0 = x1 → ((x3 = 0 → P x0 σ) ∧ (¬ (x3 = 0) → ((¬ x0 = x2 → P x0 σ) ∧ (x0 = x2 → P x1 σ))))) ∧ (x0 = x1 → P x2 σ))) :
    WI l mX10_renamed d P 0 [(0, x0), (0, x1), (0, x2), (0, x3)] [] N Λ σ := by
  refine r_iload_n (x := x0) d_X10_renamed_0 rfl ?_
  refine r_iload_n (x := x1) d_X10_renamed_1 rfl ?_
  refine r_ic_ne (tgt := 7) d_X10_renamed_2 rfl (fun hc => ?_) (fun hc => ?_)
  · have h := h.1 hc
    refine r_iload_n (x := x3) d_X10_renamed_7 rfl ?_
    refine r_if_eq (tgt := 20) d_X10_renamed_8 rfl (fun hc => ?_) (fun hc => ?_)
    · have h := h.1 hc
      refine r_iload_n (x := x0) d_X10_renamed_20 rfl ?_
      exact r_iret d_X10_renamed_21 rfl rfl (Nat.le_refl 0) (Nat.le_refl 0) ⟨_, rfl, rfl, rfl, h⟩
    · have h := h.2 hc
      refine r_iload_n (x := x0) d_X10_renamed_11 rfl ?_
      refine r_iload_n (x := x2) d_X10_renamed_12 rfl ?_
      refine r_ic_ne (tgt := 20) d_X10_renamed_13 rfl (fun hc => ?_) (fun hc => ?_)
      · have h := h.1 hc
        refine r_iload_n (x := x0) d_X10_renamed_20 rfl ?_
        exact r_iret d_X10_renamed_21 rfl rfl (Nat.le_refl 0) (Nat.le_refl 0) ⟨_, rfl, rfl, rfl, h⟩
      · have h := h.2 hc
        refine r_iload_n (x := x1) d_X10_renamed_16 rfl ?_
        refine r_goto (tgt := 21) d_X10_renamed_17 rfl ?_
        exact r_iret d_X10_renamed_21 rfl rfl (Nat.le_refl 0) (Nat.le_refl 0) ⟨_, rfl, rfl, rfl, h⟩
  · have h := h.2 hc
    refine r_iload_n (x := x2) d_X10_renamed_5 rfl ?_
    exact r_iret d_X10_renamed_6 rfl rfl (Nat.le_refl 0) (Nat.le_refl 0) ⟨_, rfl, rfl, rfl, h⟩
theorem v_X10_rename_0 {l : Launch} {d N : Nat} {Λ : Lay} {P : Mem → Prop} {σ : Mem} {x1 x3 x4 x5 t : Int} (o_t : Ob N Λ t 19 2) (h0d : 1 ≤ d)
    (h : (∀ τ1, τ1 = st σ t 0 0 → (∀ τ2, τ2 = st τ1 t 1 1 → (CI l mX6_bracketsIn (d - 1) [(1, x1)] N Λ τ2 (fun v4 σ3 => WV l mX10_rename d P 14 [(2, t), (1, x1), (3, 0), (0, x3), (0, x4), (0, x5), (0, v4), (0, 0), (3, 0), (3, 0), (3, 0)] [] N Λ σ3))))) :
    WV l mX10_rename d P 0 [(2, t), (1, x1), (3, 0), (0, x3), (0, x4), (0, x5), (3, 0), (3, 0), (3, 0), (3, 0), (3, 0)] [] N Λ σ := by
  have hd_1 : 1 ≤ d := Nat.le_trans (by decide) h0d
  refine r_aload_n (x := t) d_X10_rename_0 rfl o_t.1 ?_
  refine r_lconst d_X10_rename_1 ?_
  skip
  refine x_callVV (Y2 := mX10_begin) (c := t) (As := [(1, 0)]) (S := []) d_X10_rename_2 ok_mX10_begin ml_X10_32 rfl (Nat.le_of_ble_eq_true rfl) (Nat.le_of_ble_eq_true rfl) rfl hd_1 kX10 o_t (c_X10_begin (v_X10_begin_0 o_t ?_))
  intro τ1 eτ1
  have h := h τ1 eτ1
  intro τ2 eτ2
  have h := h τ2 eτ2
  show WP l mX10_rename (rm d 0 0) noX _ 0 0 5 [(2, t), (1, x1), (3, 0), (0, x3), (0, x4), (0, x5), (3, 0), (3, 0), (3, 0), (3, 0), (3, 0)] [] N Λ τ2
  refine r_lload_n (x := x1) d_X10_rename_5 rfl ?_
  refine x_callSI (Y2 := mX6_bracketsIn) (As := [(1, x1)]) (S := []) d_X10_rename_6 ok_mX6_bracketsIn ml_X10_36 rfl (Nat.le_of_ble_eq_true rfl) (Nat.le_of_ble_eq_true rfl) rfl hd_1 (CI.mono h (fun v4 σ3 h => ?_))
  refine r_istore (L2 := [(2, t), (1, x1), (3, 0), (0, x3), (0, x4), (0, x5), (0, v4), (3, 0), (3, 0), (3, 0), (3, 0)]) d_X10_rename_9 (by decide) rfl rfl ?_
  refine r_iconst (x := 0) d_X10_rename_11 ⟨by decide, by decide⟩ ?_
  refine r_istore (L2 := [(2, t), (1, x1), (3, 0), (0, x3), (0, x4), (0, x5), (0, v4), (0, 0), (3, 0), (3, 0), (3, 0)]) d_X10_rename_12 (by decide) rfl rfl ?_
  exact h
theorem v_X10_rename_14 {l : Launch} {d N : Nat} {Λ : Lay} {P : Mem → Prop} {σ : Mem} {x1 x3 x4 x5 x6 x7 t : Int}
    (h : ((x6 ≤ x7 → P σ) ∧ (¬ (x6 ≤ x7) → WV l mX10_rename d P 27 [(2, t), (1, x1), (3, 0), (0, x3), (0, x4), (0, x5), (0, x6), (0, x7), (0, 0), (0, 0), (3, 0)] [] N Λ σ))) :
    WV l mX10_rename d P 14 [(2, t), (1, x1), (3, 0), (0, x3), (0, x4), (0, x5), (0, x6), (0, x7), (3, 0), (3, 0), (3, 0)] [] N Λ σ := by
  refine r_iload (x := x7) d_X10_rename_14 rfl ?_
  refine r_iload (x := x6) d_X10_rename_16 rfl ?_
  refine r_ic_ge (tgt := 81) d_X10_rename_18 rfl (fun hc => ?_) (fun hc => ?_)
  · have h := h.1 hc
    exact r_vret d_X10_rename_81 rfl (Nat.le_refl 0) (Nat.le_refl 0) ⟨rfl, rfl, rfl, h⟩
  · have h := h.2 hc
    refine r_iconst (x := 0) d_X10_rename_21 ⟨by decide, by decide⟩ ?_
    refine r_istore (L2 := [(2, t), (1, x1), (3, 0), (0, x3), (0, x4), (0, x5), (0, x6), (0, x7), (0, 0), (3, 0), (3, 0)]) d_X10_rename_22 (by decide) rfl rfl ?_
    refine r_iconst (x := 0) d_X10_rename_24 ⟨by decide, by decide⟩ ?_
    refine r_istore (L2 := [(2, t), (1, x1), (3, 0), (0, x3), (0, x4), (0, x5), (0, x6), (0, x7), (0, 0), (0, 0), (3, 0)]) d_X10_rename_25 (by decide) rfl rfl ?_
    exact h
theorem v_X10_rename_27 {l : Launch} {d N : Nat} {Λ : Lay} {P : Mem → Prop} {σ : Mem} {x1 x3 x4 x5 x6 x7 x8 x9 t : Int} (o_t : Ob N Λ t 19 2) (h0d : 1 ≤ d)
    (h : ((3 ≤ x9 → (CV l mX10_attach (d - 1) [(2, t), (0, x8)] N Λ σ (fun σ1 => (∀ y2, y2 = addI x7 1 → WV l mX10_rename d P 14 [(2, t), (1, x1), (3, 0), (0, x3), (0, x4), (0, x5), (0, x6), (0, y2), (3, 0), (3, 0), (3, 0)] [] N Λ σ1)))) ∧ (¬ (3 ≤ x9) → (∀ y3, y3 = (andI (shrI (andI (l2iI (ushrL x1 (mulI 12 (subI 3 x7)))) 4095) (mulI 4 (subI 2 x9))) 15) → ((¬ y3 = x3 → ((x5 = 0 → (∀ y4, y4 = (orI (shlI x8 4) y3) → (∀ y5, y5 = addI x9 1 → WV l mX10_rename d P 27 [(2, t), (1, x1), (3, 0), (0, x3), (0, x4), (0, x5), (0, x6), (0, x7), (0, y4), (0, y5), (3, 0)] [] N Λ σ))) ∧ (¬ (x5 = 0) → ((¬ y3 = x4 → (∀ y6, y6 = (orI (shlI x8 4) y3) → (∀ y7, y7 = addI x9 1 → WV l mX10_rename d P 27 [(2, t), (1, x1), (3, 0), (0, x3), (0, x4), (0, x5), (0, x6), (0, x7), (0, y6), (0, y7), (3, 0)] [] N Λ σ))) ∧ (y3 = x4 → (∀ y8, y8 = (orI (shlI x8 4) x3) → (∀ y9, y9 = addI x9 1 → WV l mX10_rename d P 27 [(2, t), (1, x1), (3, 0), (0, x3), (0, x4), (0, x5), (0, x6), (0, x7), (0, y8), (0, y9), (3, 0)] [] N Λ σ))))))) ∧ (y3 = x3 → (∀ y10, y10 = (orI (shlI x8 4) x4) → (∀ y11, y11 = addI x9 1 → WV l mX10_rename d P 27 [(2, t), (1, x1), (3, 0), (0, x3), (0, x4), (0, x5), (0, x6), (0, x7), (0, y10), (0, y11), (3, 0)] [] N Λ σ)))))))) :
    WV l mX10_rename d P 27 [(2, t), (1, x1), (3, 0), (0, x3), (0, x4), (0, x5), (0, x6), (0, x7), (0, x8), (0, x9), (3, 0)] [] N Λ σ := by
  have hd_1 : 1 ≤ d := Nat.le_trans (by decide) h0d
  refine r_iload (x := x9) d_X10_rename_27 rfl ?_
  refine r_iconst (x := 3) d_X10_rename_29 ⟨by decide, by decide⟩ ?_
  refine r_ic_ge (tgt := 69) d_X10_rename_30 rfl (fun hc => ?_) (fun hc => ?_)
  · have h := h.1 hc
    refine r_aload_n (x := t) d_X10_rename_69 rfl o_t.1 ?_
    refine r_iload (x := x8) d_X10_rename_70 rfl ?_
    refine x_callVV (Y2 := mX10_attach) (c := t) (As := [(0, x8)]) (S := []) d_X10_rename_72 ok_mX10_attach ml_X10_52 rfl (Nat.le_of_ble_eq_true rfl) (Nat.le_of_ble_eq_true rfl) rfl hd_1 kX10 o_t (CV.mono h (fun σ1 h => ?_))
    refine x_iinc (x := x7) (L := [(2, t), (1, x1), (3, 0), (0, x3), (0, x4), (0, x5), (0, x6), (0, x7), (0, x8), (0, x9), (3, 0)]) d_X10_rename_75 rfl (by decide) rfl (fun y2 ey2 => ?_)
    have h := h y2 ey2
    show WP _ _ _ _ _ _ _ _ [(2, t), (1, x1), (3, 0), (0, x3), (0, x4), (0, x5), (0, x6), (0, y2), (0, x8), (0, x9), (3, 0)] _ _ _ _
    refine r_goto (tgt := 14) d_X10_rename_78 rfl ?_
    exact x_mask h ⟨Or.inr rfl, Or.inr rfl, Or.inl rfl, Or.inr rfl, Or.inr rfl, Or.inr rfl, Or.inr rfl, Or.inr rfl, Or.inl rfl, Or.inl rfl, Or.inl rfl, trivial⟩
  · have h := h.2 hc
    refine r_lload_n (x := x1) d_X10_rename_33 rfl ?_
    refine r_iload (x := x7) d_X10_rename_34 rfl ?_
    refine x_callSI (Y2 := mX6_bracketAt) (As := [(1, x1), (0, x7)]) (S := []) d_X10_rename_36 ok_mX6_bracketAt ml_X10_40 rfl (Nat.le_of_ble_eq_true rfl) (Nat.le_of_ble_eq_true rfl) rfl hd_1 (c_X6_bracketAt (v_X6_bracketAt_0 ?_))
    show WP l mX10_rename (rm d 0 0) noX _ 0 0 39 [(2, t), (1, x1), (3, 0), (0, x3), (0, x4), (0, x5), (0, x6), (0, x7), (0, x8), (0, x9), (3, 0)] [(0, (andI (l2iI (ushrL x1 (mulI 12 (subI 3 x7)))) 4095))] N Λ σ
    refine r_iload (x := x9) d_X10_rename_39 rfl ?_
    refine x_callSI (Y2 := mX6_letter) (As := [(0, (andI (l2iI (ushrL x1 (mulI 12 (subI 3 x7)))) 4095)), (0, x9)]) (S := []) d_X10_rename_41 ok_mX6_letter ml_X10_44 rfl (Nat.le_of_ble_eq_true rfl) (Nat.le_of_ble_eq_true rfl) rfl hd_1 (c_X6_letter (v_X6_letter_0 ?_))
    show WP l mX10_rename (rm d 0 0) noX _ 0 0 44 [(2, t), (1, x1), (3, 0), (0, x3), (0, x4), (0, x5), (0, x6), (0, x7), (0, x8), (0, x9), (3, 0)] [(0, (andI (shrI (andI (l2iI (ushrL x1 (mulI 12 (subI 3 x7)))) 4095) (mulI 4 (subI 2 x9))) 15))] N Λ σ
    refine r_nm (fun y3 ey3 => ?_)
    have h := h y3 ey3
    refine r_istore (L2 := [(2, t), (1, x1), (3, 0), (0, x3), (0, x4), (0, x5), (0, x6), (0, x7), (0, x8), (0, x9), (0, y3)]) d_X10_rename_44 (by decide) rfl rfl ?_
    refine r_iload (x := x8) d_X10_rename_46 rfl ?_
    refine r_iconst (x := 4) d_X10_rename_48 ⟨by decide, by decide⟩ ?_
    refine r_ishl d_X10_rename_49 ?_
    refine r_iload (x := y3) d_X10_rename_50 rfl ?_
    refine r_iload_n (x := x3) d_X10_rename_52 rfl ?_
    refine r_iload (x := x4) d_X10_rename_53 rfl ?_
    refine r_iload (x := x5) d_X10_rename_55 rfl ?_
    refine x_callSI (Y2 := mX10_renamed) (As := [(0, y3), (0, x3), (0, x4), (0, x5)]) (S := [(0, (shlI x8 4))]) d_X10_rename_57 ok_mX10_renamed ml_X10_48 rfl (Nat.le_of_ble_eq_true rfl) (Nat.le_of_ble_eq_true rfl) rfl hd_1 (c_X10_renamed (v_X10_renamed_0 ?_))
    refine ⟨fun hc => ?_, fun hc => ?_⟩
    · have h := h.1 hc
      refine ⟨fun hc => ?_, fun hc => ?_⟩
      · have h := h.1 hc
        show WP l mX10_rename (rm d 0 0) noX _ 0 0 60 [(2, t), (1, x1), (3, 0), (0, x3), (0, x4), (0, x5), (0, x6), (0, x7), (0, x8), (0, x9), (0, y3)] [(0, y3), (0, (shlI x8 4))] N Λ σ
        refine r_ior d_X10_rename_60 ?_
        refine r_nm (fun y4 ey4 => ?_)
        have h := h y4 ey4
        refine r_istore (L2 := [(2, t), (1, x1), (3, 0), (0, x3), (0, x4), (0, x5), (0, x6), (0, x7), (0, y4), (0, x9), (0, y3)]) d_X10_rename_61 (by decide) rfl rfl ?_
        refine x_iinc (x := x9) (L := [(2, t), (1, x1), (3, 0), (0, x3), (0, x4), (0, x5), (0, x6), (0, x7), (0, y4), (0, x9), (0, y3)]) d_X10_rename_63 rfl (by decide) rfl (fun y5 ey5 => ?_)
        have h := h y5 ey5
        show WP _ _ _ _ _ _ _ _ [(2, t), (1, x1), (3, 0), (0, x3), (0, x4), (0, x5), (0, x6), (0, x7), (0, y4), (0, y5), (0, y3)] _ _ _ _
        refine r_goto (tgt := 27) d_X10_rename_66 rfl ?_
        exact x_mask h ⟨Or.inr rfl, Or.inr rfl, Or.inl rfl, Or.inr rfl, Or.inr rfl, Or.inr rfl, Or.inr rfl, Or.inr rfl, Or.inr rfl, Or.inr rfl, Or.inl rfl, trivial⟩
      · have h := h.2 hc
        refine ⟨fun hc => ?_, fun hc => ?_⟩
        · have h := h.1 hc
          show WP l mX10_rename (rm d 0 0) noX _ 0 0 60 [(2, t), (1, x1), (3, 0), (0, x3), (0, x4), (0, x5), (0, x6), (0, x7), (0, x8), (0, x9), (0, y3)] [(0, y3), (0, (shlI x8 4))] N Λ σ
          refine r_ior d_X10_rename_60 ?_
          refine r_nm (fun y6 ey6 => ?_)
          have h := h y6 ey6
          refine r_istore (L2 := [(2, t), (1, x1), (3, 0), (0, x3), (0, x4), (0, x5), (0, x6), (0, x7), (0, y6), (0, x9), (0, y3)]) d_X10_rename_61 (by decide) rfl rfl ?_
          refine x_iinc (x := x9) (L := [(2, t), (1, x1), (3, 0), (0, x3), (0, x4), (0, x5), (0, x6), (0, x7), (0, y6), (0, x9), (0, y3)]) d_X10_rename_63 rfl (by decide) rfl (fun y7 ey7 => ?_)
          have h := h y7 ey7
          show WP _ _ _ _ _ _ _ _ [(2, t), (1, x1), (3, 0), (0, x3), (0, x4), (0, x5), (0, x6), (0, x7), (0, y6), (0, y7), (0, y3)] _ _ _ _
          refine r_goto (tgt := 27) d_X10_rename_66 rfl ?_
          exact x_mask h ⟨Or.inr rfl, Or.inr rfl, Or.inl rfl, Or.inr rfl, Or.inr rfl, Or.inr rfl, Or.inr rfl, Or.inr rfl, Or.inr rfl, Or.inr rfl, Or.inl rfl, trivial⟩
        · have h := h.2 hc
          show WP l mX10_rename (rm d 0 0) noX _ 0 0 60 [(2, t), (1, x1), (3, 0), (0, x3), (0, x4), (0, x5), (0, x6), (0, x7), (0, x8), (0, x9), (0, y3)] [(0, x3), (0, (shlI x8 4))] N Λ σ
          refine r_ior d_X10_rename_60 ?_
          refine r_nm (fun y8 ey8 => ?_)
          have h := h y8 ey8
          refine r_istore (L2 := [(2, t), (1, x1), (3, 0), (0, x3), (0, x4), (0, x5), (0, x6), (0, x7), (0, y8), (0, x9), (0, y3)]) d_X10_rename_61 (by decide) rfl rfl ?_
          refine x_iinc (x := x9) (L := [(2, t), (1, x1), (3, 0), (0, x3), (0, x4), (0, x5), (0, x6), (0, x7), (0, y8), (0, x9), (0, y3)]) d_X10_rename_63 rfl (by decide) rfl (fun y9 ey9 => ?_)
          have h := h y9 ey9
          show WP _ _ _ _ _ _ _ _ [(2, t), (1, x1), (3, 0), (0, x3), (0, x4), (0, x5), (0, x6), (0, x7), (0, y8), (0, y9), (0, y3)] _ _ _ _
          refine r_goto (tgt := 27) d_X10_rename_66 rfl ?_
          exact x_mask h ⟨Or.inr rfl, Or.inr rfl, Or.inl rfl, Or.inr rfl, Or.inr rfl, Or.inr rfl, Or.inr rfl, Or.inr rfl, Or.inr rfl, Or.inr rfl, Or.inl rfl, trivial⟩
    · have h := h.2 hc
      show WP l mX10_rename (rm d 0 0) noX _ 0 0 60 [(2, t), (1, x1), (3, 0), (0, x3), (0, x4), (0, x5), (0, x6), (0, x7), (0, x8), (0, x9), (0, y3)] [(0, x4), (0, (shlI x8 4))] N Λ σ
      refine r_ior d_X10_rename_60 ?_
      refine r_nm (fun y10 ey10 => ?_)
      have h := h y10 ey10
      refine r_istore (L2 := [(2, t), (1, x1), (3, 0), (0, x3), (0, x4), (0, x5), (0, x6), (0, x7), (0, y10), (0, x9), (0, y3)]) d_X10_rename_61 (by decide) rfl rfl ?_
      refine x_iinc (x := x9) (L := [(2, t), (1, x1), (3, 0), (0, x3), (0, x4), (0, x5), (0, x6), (0, x7), (0, y10), (0, x9), (0, y3)]) d_X10_rename_63 rfl (by decide) rfl (fun y11 ey11 => ?_)
      have h := h y11 ey11
      show WP _ _ _ _ _ _ _ _ [(2, t), (1, x1), (3, 0), (0, x3), (0, x4), (0, x5), (0, x6), (0, x7), (0, y10), (0, y11), (0, y3)] _ _ _ _
      refine r_goto (tgt := 27) d_X10_rename_66 rfl ?_
      exact x_mask h ⟨Or.inr rfl, Or.inr rfl, Or.inl rfl, Or.inr rfl, Or.inr rfl, Or.inr rfl, Or.inr rfl, Or.inr rfl, Or.inr rfl, Or.inr rfl, Or.inl rfl, trivial⟩
