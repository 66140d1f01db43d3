theorem d_X11_equal_0 : DC mX11_equal 0 (.aload_n 0) 1 1 := ⟨by decide +kernel, rfl⟩
theorem d_X11_equal_1 : DC mX11_equal 1 (.iconst 0) 1 2 := ⟨by decide +kernel, rfl⟩
theorem d_X11_equal_2 : DC mX11_equal 2 (.putfield 90) 3 5 := ⟨by decide +kernel, rfl⟩
theorem d_X11_equal_5 : DC mX11_equal 5 (.iload_n 1) 1 6 := ⟨by decide +kernel, rfl⟩
theorem d_X11_equal_6 : DC mX11_equal 6 (.invokestatic 143) 3 9 := ⟨by decide +kernel, rfl⟩
theorem d_X11_equal_9 : DC mX11_equal 9 (.ifCond .eq 10) 3 12 := ⟨by decide +kernel, rfl⟩
theorem d_X11_equal_12 : DC mX11_equal 12 (.iload_n 2) 1 13 := ⟨by decide +kernel, rfl⟩
theorem d_X11_equal_13 : DC mX11_equal 13 (.invokestatic 143) 3 16 := ⟨by decide +kernel, rfl⟩
theorem d_X11_equal_16 : DC mX11_equal 16 (.ifCond .ne 6) 3 19 := ⟨by decide +kernel, rfl⟩
theorem d_X11_equal_19 : DC mX11_equal 19 (.bipush (-2)) 2 21 := ⟨by decide +kernel, rfl⟩
theorem d_X11_equal_21 : DC mX11_equal 21 (.ireturn) 1 22 := ⟨by decide +kernel, rfl⟩
theorem d_X11_equal_22 : DC mX11_equal 22 (.aload_n 0) 1 23 := ⟨by decide +kernel, rfl⟩
theorem d_X11_equal_23 : DC mX11_equal 23 (.getfield 41) 3 26 := ⟨by decide +kernel, rfl⟩
theorem d_X11_equal_26 : DC mX11_equal 26 (.aload_n 0) 1 27 := ⟨by decide +kernel, rfl⟩
theorem d_X11_equal_27 : DC mX11_equal 27 (.getfield 10) 3 30 := ⟨by decide +kernel, rfl⟩
theorem d_X11_equal_30 : DC mX11_equal 30 (.getfield 146) 3 33 := ⟨by decide +kernel, rfl⟩
theorem d_X11_equal_33 : DC mX11_equal 33 (.iload_n 1) 1 34 := ⟨by decide +kernel, rfl⟩
theorem d_X11_equal_34 : DC mX11_equal 34 (.aaload) 1 35 := ⟨by decide +kernel, rfl⟩
theorem d_X11_equal_35 : DC mX11_equal 35 (.aload_n 0) 1 36 := ⟨by decide +kernel, rfl⟩
theorem d_X11_equal_36 : DC mX11_equal 36 (.getfield 83) 3 39 := ⟨by decide +kernel, rfl⟩
theorem d_X11_equal_39 : DC mX11_equal 39 (.invokevirtual 212) 3 42 := ⟨by decide +kernel, rfl⟩
theorem d_X11_equal_42 : DC mX11_equal 42 (.istore_n 3) 1 43 := ⟨by decide +kernel, rfl⟩
theorem d_X11_equal_43 : DC mX11_equal 43 (.iload_n 3) 1 44 := ⟨by decide +kernel, rfl⟩
theorem d_X11_equal_44 : DC mX11_equal 44 (.ifCond .ne 24) 3 47 := ⟨by decide +kernel, rfl⟩
theorem d_X11_equal_47 : DC mX11_equal 47 (.aload_n 0) 1 48 := ⟨by decide +kernel, rfl⟩
theorem d_X11_equal_48 : DC mX11_equal 48 (.getfield 41) 3 51 := ⟨by decide +kernel, rfl⟩
theorem d_X11_equal_51 : DC mX11_equal 51 (.aload_n 0) 1 52 := ⟨by decide +kernel, rfl⟩
theorem d_X11_equal_52 : DC mX11_equal 52 (.getfield 10) 3 55 := ⟨by decide +kernel, rfl⟩
theorem d_X11_equal_55 : DC mX11_equal 55 (.getfield 146) 3 58 := ⟨by decide +kernel, rfl⟩
theorem d_X11_equal_58 : DC mX11_equal 58 (.iload_n 2) 1 59 := ⟨by decide +kernel, rfl⟩
theorem d_X11_equal_59 : DC mX11_equal 59 (.aaload) 1 60 := ⟨by decide +kernel, rfl⟩
theorem d_X11_equal_60 : DC mX11_equal 60 (.aload_n 0) 1 61 := ⟨by decide +kernel, rfl⟩
theorem d_X11_equal_61 : DC mX11_equal 61 (.getfield 87) 3 64 := ⟨by decide +kernel, rfl⟩
theorem d_X11_equal_64 : DC mX11_equal 64 (.invokevirtual 212) 3 67 := ⟨by decide +kernel, rfl⟩
theorem d_X11_equal_67 : DC mX11_equal 67 (.istore_n 3) 1 68 := ⟨by decide +kernel, rfl⟩
theorem d_X11_equal_68 : DC mX11_equal 68 (.iload_n 3) 1 69 := ⟨by decide +kernel, rfl⟩
theorem d_X11_equal_69 : DC mX11_equal 69 (.ifCond .eq 9) 3 72 := ⟨by decide +kernel, rfl⟩
theorem d_X11_equal_72 : DC mX11_equal 72 (.aload_n 0) 1 73 := ⟨by decide +kernel, rfl⟩
theorem d_X11_equal_73 : DC mX11_equal 73 (.iload_n 3) 1 74 := ⟨by decide +kernel, rfl⟩
theorem d_X11_equal_74 : DC mX11_equal 74 (.invokevirtual 271) 3 77 := ⟨by decide +kernel, rfl⟩
theorem d_X11_equal_77 : DC mX11_equal 77 (.ireturn) 1 78 := ⟨by decide +kernel, rfl⟩
theorem d_X11_equal_78 : DC mX11_equal 78 (.aload_n 0) 1 79 := ⟨by decide +kernel, rfl⟩
theorem d_X11_equal_79 : DC mX11_equal 79 (.getfield 83) 3 82 := ⟨by decide +kernel, rfl⟩
theorem d_X11_equal_82 : DC mX11_equal 82 (.aload_n 0) 1 83 := ⟨by decide +kernel, rfl⟩
theorem d_X11_equal_83 : DC mX11_equal 83 (.getfield 87) 3 86 := ⟨by decide +kernel, rfl⟩
theorem d_X11_equal_86 : DC mX11_equal 86 (.invokevirtual 274) 3 89 := ⟨by decide +kernel, rfl⟩
theorem d_X11_equal_89 : DC mX11_equal 89 (.ifCond .eq 7) 3 92 := ⟨by decide +kernel, rfl⟩
theorem d_X11_equal_92 : DC mX11_equal 92 (.iconst 1) 1 93 := ⟨by decide +kernel, rfl⟩
theorem d_X11_equal_93 : DC mX11_equal 93 (.goto 4) 3 96 := ⟨by decide +kernel, rfl⟩
theorem d_X11_equal_96 : DC mX11_equal 96 (.iconst 0) 1 97 := ⟨by decide +kernel, rfl⟩
theorem d_X11_equal_97 : DC mX11_equal 97 (.ireturn) 1 98 := ⟨by decide +kernel, rfl⟩
theorem d_X11_forms_0 : DC mX11_forms 0 (.iload_n 1) 1 1 := ⟨by decide +kernel, rfl⟩
theorem d_X11_forms_1 : DC mX11_forms 1 (.invokestatic 143) 3 4 := ⟨by decide +kernel, rfl⟩
theorem d_X11_forms_4 : DC mX11_forms 4 (.ifCond .ne 6) 3 7 := ⟨by decide +kernel, rfl⟩
theorem d_X11_forms_7 : DC mX11_forms 7 (.bipush (-2)) 2 9 := ⟨by decide +kernel, rfl⟩
theorem d_X11_forms_9 : DC mX11_forms 9 (.ireturn) 1 10 := ⟨by decide +kernel, rfl⟩
theorem d_X11_forms_10 : DC mX11_forms 10 (.aload_n 0) 1 11 := ⟨by decide +kernel, rfl⟩
theorem d_X11_forms_11 : DC mX11_forms 11 (.getfield 10) 3 14 := ⟨by decide +kernel, rfl⟩
theorem d_X11_forms_14 : DC mX11_forms 14 (.getfield 146) 3 17 := ⟨by decide +kernel, rfl⟩
theorem d_X11_forms_17 : DC mX11_forms 17 (.iload_n 1) 1 18 := ⟨by decide +kernel, rfl⟩
theorem d_X11_forms_18 : DC mX11_forms 18 (.aaload) 1 19 := ⟨by decide +kernel, rfl⟩
theorem d_X11_forms_19 : DC mX11_forms 19 (.astore_n 2) 1 20 := ⟨by decide +kernel, rfl⟩
theorem d_X11_forms_20 : DC mX11_forms 20 (.aload_n 2) 1 21 := ⟨by decide +kernel, rfl⟩
theorem d_X11_forms_21 : DC mX11_forms 21 (.getfield 150) 3 24 := ⟨by decide +kernel, rfl⟩
theorem d_X11_forms_24 : DC mX11_forms 24 (.ifCond .ne 7) 3 27 := ⟨by decide +kernel, rfl⟩
theorem d_X11_forms_27 : DC mX11_forms 27 (.iconst (-1)) 1 28 := ⟨by decide +kernel, rfl⟩
theorem d_X11_forms_28 : DC mX11_forms 28 (.goto 16) 3 31 := ⟨by decide +kernel, rfl⟩
theorem d_X11_forms_31 : DC mX11_forms 31 (.aload_n 0) 1 32 := ⟨by decide +kernel, rfl⟩
theorem d_X11_forms_32 : DC mX11_forms 32 (.getfield 55) 3 35 := ⟨by decide +kernel, rfl⟩
theorem d_X11_forms_35 : DC mX11_forms 35 (.aload_n 2) 1 36 := ⟨by decide +kernel, rfl⟩
theorem d_X11_forms_36 : DC mX11_forms 36 (.getfield 241) 3 39 := ⟨by decide +kernel, rfl⟩
theorem d_X11_forms_39 : DC mX11_forms 39 (.iconst 0) 1 40 := ⟨by decide +kernel, rfl⟩
theorem d_X11_forms_40 : DC mX11_forms 40 (.laload) 1 41 := ⟨by decide +kernel, rfl⟩
theorem d_X11_forms_41 : DC mX11_forms 41 (.invokevirtual 278) 3 44 := ⟨by decide +kernel, rfl⟩
theorem d_X11_forms_44 : DC mX11_forms 44 (.ireturn) 1 45 := ⟨by decide +kernel, rfl⟩
theorem d_X11_form_0 : DC mX11_form 0 (.iload_n 1) 1 1 := ⟨by decide +kernel, rfl⟩
theorem d_X11_form_1 : DC mX11_form 1 (.invokestatic 143) 3 4 := ⟨by decide +kernel, rfl⟩
theorem d_X11_form_4 : DC mX11_form 4 (.ifCond .ne 6) 3 7 := ⟨by decide +kernel, rfl⟩
theorem d_X11_form_7 : DC mX11_form 7 (.bipush (-2)) 2 9 := ⟨by decide +kernel, rfl⟩
theorem d_X11_form_9 : DC mX11_form 9 (.ireturn) 1 10 := ⟨by decide +kernel, rfl⟩
theorem d_X11_form_10 : DC mX11_form 10 (.iload_n 2) 1 11 := ⟨by decide +kernel, rfl⟩
theorem d_X11_form_11 : DC mX11_form 11 (.ifCond .lt 7) 3 14 := ⟨by decide +kernel, rfl⟩
theorem d_X11_form_14 : DC mX11_form 14 (.iload_n 3) 1 15 := ⟨by decide +kernel, rfl⟩
theorem d_X11_form_15 : DC mX11_form 15 (.ifCond .ge 6) 3 18 := ⟨by decide +kernel, rfl⟩
theorem d_X11_form_18 : DC mX11_form 18 (.bipush (-3)) 2 20 := ⟨by decide +kernel, rfl⟩
theorem d_X11_form_20 : DC mX11_form 20 (.ireturn) 1 21 := ⟨by decide +kernel, rfl⟩
theorem d_X11_form_21 : DC mX11_form 21 (.aload_n 0) 1 22 := ⟨by decide +kernel, rfl⟩
theorem d_X11_form_22 : DC mX11_form 22 (.getfield 10) 3 25 := ⟨by decide +kernel, rfl⟩
theorem d_X11_form_25 : DC mX11_form 25 (.getfield 146) 3 28 := ⟨by decide +kernel, rfl⟩
theorem d_X11_form_28 : DC mX11_form 28 (.iload_n 1) 1 29 := ⟨by decide +kernel, rfl⟩
theorem d_X11_form_29 : DC mX11_form 29 (.aaload) 1 30 := ⟨by decide +kernel, rfl⟩
theorem d_X11_form_30 : DC mX11_form 30 (.astore 4) 2 32 := ⟨by decide +kernel, rfl⟩
theorem d_X11_form_32 : DC mX11_form 32 (.aload 4) 2 34 := ⟨by decide +kernel, rfl⟩
theorem d_X11_form_34 : DC mX11_form 34 (.getfield 150) 3 37 := ⟨by decide +kernel, rfl⟩
theorem d_X11_form_37 : DC mX11_form 37 (.ifCond .ne 7) 3 40 := ⟨by decide +kernel, rfl⟩
theorem d_X11_form_40 : DC mX11_form 40 (.iconst (-1)) 1 41 := ⟨by decide +kernel, rfl⟩
theorem d_X11_form_41 : DC mX11_form 41 (.goto 19) 3 44 := ⟨by decide +kernel, rfl⟩
theorem d_X11_form_44 : DC mX11_form 44 (.aload_n 0) 1 45 := ⟨by decide +kernel, rfl⟩
theorem d_X11_form_45 : DC mX11_form 45 (.getfield 55) 3 48 := ⟨by decide +kernel, rfl⟩
theorem d_X11_form_48 : DC mX11_form 48 (.aload 4) 2 50 := ⟨by decide +kernel, rfl⟩
theorem d_X11_form_50 : DC mX11_form 50 (.getfield 241) 3 53 := ⟨by decide +kernel, rfl⟩
theorem d_X11_form_53 : DC mX11_form 53 (.iconst 0) 1 54 := ⟨by decide +kernel, rfl⟩
theorem d_X11_form_54 : DC mX11_form 54 (.laload) 1 55 := ⟨by decide +kernel, rfl⟩
theorem d_X11_form_55 : DC mX11_form 55 (.iload_n 2) 1 56 := ⟨by decide +kernel, rfl⟩
theorem d_X11_form_56 : DC mX11_form 56 (.iload_n 3) 1 57 := ⟨by decide +kernel, rfl⟩
theorem d_X11_form_57 : DC mX11_form 57 (.invokevirtual 281) 3 60 := ⟨by decide +kernel, rfl⟩
theorem d_X11_form_60 : DC mX11_form 60 (.ireturn) 1 61 := ⟨by decide +kernel, rfl⟩
theorem d_X11_rank_0 : DC mX11_rank 0 (.aload_n 0) 1 1 := ⟨by decide +kernel, rfl⟩
theorem d_X11_rank_1 : DC mX11_rank 1 (.iconst 0) 1 2 := ⟨by decide +kernel, rfl⟩
theorem d_X11_rank_2 : DC mX11_rank 2 (.putfield 90) 3 5 := ⟨by decide +kernel, rfl⟩
theorem d_X11_rank_5 : DC mX11_rank 5 (.iload_n 1) 1 6 := ⟨by decide +kernel, rfl⟩
theorem d_X11_rank_6 : DC mX11_rank 6 (.ifCond .lt 9) 3 9 := ⟨by decide +kernel, rfl⟩
theorem d_X11_rank_9 : DC mX11_rank 9 (.iload_n 1) 1 10 := ⟨by decide +kernel, rfl⟩
theorem d_X11_rank_10 : DC mX11_rank 10 (.bipush 64) 2 12 := ⟨by decide +kernel, rfl⟩
theorem d_X11_rank_12 : DC mX11_rank 12 (.if_icmp .lt 6) 3 15 := ⟨by decide +kernel, rfl⟩
theorem d_X11_rank_15 : DC mX11_rank 15 (.bipush (-2)) 2 17 := ⟨by decide +kernel, rfl⟩
theorem d_X11_rank_17 : DC mX11_rank 17 (.ireturn) 1 18 := ⟨by decide +kernel, rfl⟩
theorem d_X11_rank_18 : DC mX11_rank 18 (.aload_n 0) 1 19 := ⟨by decide +kernel, rfl⟩
theorem d_X11_rank_19 : DC mX11_rank 19 (.getfield 62) 3 22 := ⟨by decide +kernel, rfl⟩
theorem d_X11_rank_22 : DC mX11_rank 22 (.invokevirtual 285) 3 25 := ⟨by decide +kernel, rfl⟩
theorem d_X11_rank_25 : DC mX11_rank 25 (.iconst 0) 1 26 := ⟨by decide +kernel, rfl⟩
theorem d_X11_rank_26 : DC mX11_rank 26 (.istore_n 2) 1 27 := ⟨by decide +kernel, rfl⟩
theorem d_X11_rank_27 : DC mX11_rank 27 (.iload_n 2) 1 28 := ⟨by decide +kernel, rfl⟩
theorem d_X11_rank_28 : DC mX11_rank 28 (.bipush 6) 2 30 := ⟨by decide +kernel, rfl⟩
theorem d_X11_rank_30 : DC mX11_rank 30 (.if_icmp .ge 60) 3 33 := ⟨by decide +kernel, rfl⟩
theorem d_X11_rank_33 : DC mX11_rank 33 (.iload_n 1) 1 34 := ⟨by decide +kernel, rfl⟩
theorem d_X11_rank_34 : DC mX11_rank 34 (.iload_n 2) 1 35 := ⟨by decide +kernel, rfl⟩
theorem d_X11_rank_35 : DC mX11_rank 35 (.ishr) 1 36 := ⟨by decide +kernel, rfl⟩
theorem d_X11_rank_36 : DC mX11_rank 36 (.iconst 1) 1 37 := ⟨by decide +kernel, rfl⟩
theorem d_X11_rank_37 : DC mX11_rank 37 (.iand) 1 38 := ⟨by decide +kernel, rfl⟩
theorem d_X11_rank_38 : DC mX11_rank 38 (.iconst 1) 1 39 := ⟨by decide +kernel, rfl⟩
theorem d_X11_rank_39 : DC mX11_rank 39 (.if_icmp .ne 45) 3 42 := ⟨by decide +kernel, rfl⟩
theorem d_X11_rank_42 : DC mX11_rank 42 (.aload_n 0) 1 43 := ⟨by decide +kernel, rfl⟩
theorem d_X11_rank_43 : DC mX11_rank 43 (.getfield 41) 3 46 := ⟨by decide +kernel, rfl⟩
theorem d_X11_rank_46 : DC mX11_rank 46 (.aload_n 0) 1 47 := ⟨by decide +kernel, rfl⟩
theorem d_X11_rank_47 : DC mX11_rank 47 (.getfield 10) 3 50 := ⟨by decide +kernel, rfl⟩
theorem d_X11_rank_50 : DC mX11_rank 50 (.getfield 146) 3 53 := ⟨by decide +kernel, rfl⟩
theorem d_X11_rank_53 : DC mX11_rank 53 (.iload_n 2) 1 54 := ⟨by decide +kernel, rfl⟩
theorem d_X11_rank_54 : DC mX11_rank 54 (.aaload) 1 55 := ⟨by decide +kernel, rfl⟩
theorem d_X11_rank_55 : DC mX11_rank 55 (.aload_n 0) 1 56 := ⟨by decide +kernel, rfl⟩
theorem d_X11_rank_56 : DC mX11_rank 56 (.getfield 83) 3 59 := ⟨by decide +kernel, rfl⟩
theorem d_X11_rank_59 : DC mX11_rank 59 (.invokevirtual 212) 3 62 := ⟨by decide +kernel, rfl⟩
theorem d_X11_rank_62 : DC mX11_rank 62 (.istore_n 3) 1 63 := ⟨by decide +kernel, rfl⟩
theorem d_X11_rank_63 : DC mX11_rank 63 (.iload_n 3) 1 64 := ⟨by decide +kernel, rfl⟩
theorem d_X11_rank_64 : DC mX11_rank 64 (.ifCond .eq 9) 3 67 := ⟨by decide +kernel, rfl⟩
theorem d_X11_rank_67 : DC mX11_rank 67 (.aload_n 0) 1 68 := ⟨by decide +kernel, rfl⟩
theorem d_X11_rank_68 : DC mX11_rank 68 (.iload_n 3) 1 69 := ⟨by decide +kernel, rfl⟩
theorem d_X11_rank_69 : DC mX11_rank 69 (.invokevirtual 271) 3 72 := ⟨by decide +kernel, rfl⟩
theorem d_X11_rank_72 : DC mX11_rank 72 (.ireturn) 1 73 := ⟨by decide +kernel, rfl⟩
theorem d_X11_rank_73 : DC mX11_rank 73 (.aload_n 0) 1 74 := ⟨by decide +kernel, rfl⟩
theorem d_X11_rank_74 : DC mX11_rank 74 (.getfield 62) 3 77 := ⟨by decide +kernel, rfl⟩
theorem d_X11_rank_77 : DC mX11_rank 77 (.aload_n 0) 1 78 := ⟨by decide +kernel, rfl⟩
theorem d_X11_rank_78 : DC mX11_rank 78 (.getfield 83) 3 81 := ⟨by decide +kernel, rfl⟩
theorem d_X11_rank_81 : DC mX11_rank 81 (.invokevirtual 286) 3 84 := ⟨by decide +kernel, rfl⟩
theorem d_X11_rank_84 : DC mX11_rank 84 (.iinc 2 1) 3 87 := ⟨by decide +kernel, rfl⟩
theorem d_X11_rank_87 : DC mX11_rank 87 (.goto (-60)) 3 90 := ⟨by decide +kernel, rfl⟩
theorem d_X11_rank_90 : DC mX11_rank 90 (.aload_n 0) 1 91 := ⟨by decide +kernel, rfl⟩
theorem d_X11_rank_91 : DC mX11_rank 91 (.getfield 62) 3 94 := ⟨by decide +kernel, rfl⟩
theorem d_X11_rank_94 : DC mX11_rank 94 (.invokevirtual 289) 3 97 := ⟨by decide +kernel, rfl⟩
theorem d_X11_rank_97 : DC mX11_rank 97 (.ireturn) 1 98 := ⟨by decide +kernel, rfl⟩
theorem d_X11_factor_0 : DC mX11_factor 0 (.aload_n 0) 1 1 := ⟨by decide +kernel, rfl⟩
theorem d_X11_factor_1 : DC mX11_factor 1 (.iconst 0) 1 2 := ⟨by decide +kernel, rfl⟩
theorem d_X11_factor_2 : DC mX11_factor 2 (.putfield 90) 3 5 := ⟨by decide +kernel, rfl⟩
theorem d_X11_factor_5 : DC mX11_factor 5 (.iload_n 1) 1 6 := ⟨by decide +kernel, rfl⟩
theorem d_X11_factor_6 : DC mX11_factor 6 (.invokestatic 143) 3 9 := ⟨by decide +kernel, rfl⟩
theorem d_X11_factor_9 : DC mX11_factor 9 (.ifCond .eq 13) 3 12 := ⟨by decide +kernel, rfl⟩
theorem d_X11_factor_12 : DC mX11_factor 12 (.iload_n 2) 1 13 := ⟨by decide +kernel, rfl⟩
theorem d_X11_factor_13 : DC mX11_factor 13 (.ifCond .lt 9) 3 16 := ⟨by decide +kernel, rfl⟩
theorem d_X11_factor_16 : DC mX11_factor 16 (.iload_n 2) 1 17 := ⟨by decide +kernel, rfl⟩
theorem d_X11_factor_17 : DC mX11_factor 17 (.bipush 6) 2 19 := ⟨by decide +kernel, rfl⟩
theorem d_X11_factor_19 : DC mX11_factor 19 (.if_icmp .le 6) 3 22 := ⟨by decide +kernel, rfl⟩
theorem d_X11_factor_22 : DC mX11_factor 22 (.bipush (-2)) 2 24 := ⟨by decide +kernel, rfl⟩
theorem d_X11_factor_24 : DC mX11_factor 24 (.ireturn) 1 25 := ⟨by decide +kernel, rfl⟩
theorem d_X11_factor_25 : DC mX11_factor 25 (.aload_n 0) 1 26 := ⟨by decide +kernel, rfl⟩
theorem d_X11_factor_26 : DC mX11_factor 26 (.getfield 10) 3 29 := ⟨by decide +kernel, rfl⟩
theorem d_X11_factor_29 : DC mX11_factor 29 (.getfield 146) 3 32 := ⟨by decide +kernel, rfl⟩
theorem d_X11_factor_32 : DC mX11_factor 32 (.iload_n 1) 1 33 := ⟨by decide +kernel, rfl⟩
theorem d_X11_factor_33 : DC mX11_factor 33 (.aaload) 1 34 := ⟨by decide +kernel, rfl⟩
theorem d_X11_factor_34 : DC mX11_factor 34 (.astore_n 3) 1 35 := ⟨by decide +kernel, rfl⟩
theorem d_X11_factor_35 : DC mX11_factor 35 (.aload_n 3) 1 36 := ⟨by decide +kernel, rfl⟩
theorem d_X11_factor_36 : DC mX11_factor 36 (.getfield 150) 3 39 := ⟨by decide +kernel, rfl⟩
theorem d_X11_factor_39 : DC mX11_factor 39 (.ifCond .eq 19) 3 42 := ⟨by decide +kernel, rfl⟩
theorem d_X11_factor_42 : DC mX11_factor 42 (.aload_n 0) 1 43 := ⟨by decide +kernel, rfl⟩
theorem d_X11_factor_43 : DC mX11_factor 43 (.getfield 69) 3 46 := ⟨by decide +kernel, rfl⟩
theorem d_X11_factor_46 : DC mX11_factor 46 (.aload_n 3) 1 47 := ⟨by decide +kernel, rfl⟩
theorem d_X11_factor_47 : DC mX11_factor 47 (.getfield 241) 3 50 := ⟨by decide +kernel, rfl⟩
theorem d_X11_factor_50 : DC mX11_factor 50 (.iconst 0) 1 51 := ⟨by decide +kernel, rfl⟩
theorem d_X11_factor_51 : DC mX11_factor 51 (.laload) 1 52 := ⟨by decide +kernel, rfl⟩
theorem d_X11_factor_52 : DC mX11_factor 52 (.invokevirtual 292) 3 55 := ⟨by decide +kernel, rfl⟩
theorem d_X11_factor_55 : DC mX11_factor 55 (.ifCond .ne 5) 3 58 := ⟨by decide +kernel, rfl⟩
theorem d_X11_factor_58 : DC mX11_factor 58 (.iconst 0) 1 59 := ⟨by decide +kernel, rfl⟩
theorem d_X11_factor_59 : DC mX11_factor 59 (.ireturn) 1 60 := ⟨by decide +kernel, rfl⟩
theorem d_X11_factor_60 : DC mX11_factor 60 (.aload_n 0) 1 61 := ⟨by decide +kernel, rfl⟩
theorem d_X11_factor_61 : DC mX11_factor 61 (.getfield 41) 3 64 := ⟨by decide +kernel, rfl⟩
theorem d_X11_factor_64 : DC mX11_factor 64 (.aload_n 0) 1 65 := ⟨by decide +kernel, rfl⟩
theorem d_X11_factor_65 : DC mX11_factor 65 (.getfield 10) 3 68 := ⟨by decide +kernel, rfl⟩
theorem d_X11_factor_68 : DC mX11_factor 68 (.getfield 146) 3 71 := ⟨by decide +kernel, rfl⟩
theorem d_X11_factor_71 : DC mX11_factor 71 (.iload_n 1) 1 72 := ⟨by decide +kernel, rfl⟩
theorem d_X11_factor_72 : DC mX11_factor 72 (.aaload) 1 73 := ⟨by decide +kernel, rfl⟩
theorem d_X11_factor_73 : DC mX11_factor 73 (.aload_n 0) 1 74 := ⟨by decide +kernel, rfl⟩
theorem d_X11_factor_74 : DC mX11_factor 74 (.getfield 83) 3 77 := ⟨by decide +kernel, rfl⟩
theorem d_X11_factor_77 : DC mX11_factor 77 (.invokevirtual 212) 3 80 := ⟨by decide +kernel, rfl⟩
theorem d_X11_factor_80 : DC mX11_factor 80 (.istore 4) 2 82 := ⟨by decide +kernel, rfl⟩
theorem d_X11_factor_82 : DC mX11_factor 82 (.iload 4) 2 84 := ⟨by decide +kernel, rfl⟩
theorem d_X11_factor_84 : DC mX11_factor 84 (.ifCond .eq 10) 3 87 := ⟨by decide +kernel, rfl⟩
theorem d_X11_factor_87 : DC mX11_factor 87 (.aload_n 0) 1 88 := ⟨by decide +kernel, rfl⟩
theorem d_X11_factor_88 : DC mX11_factor 88 (.iload 4) 2 90 := ⟨by decide +kernel, rfl⟩
theorem d_X11_factor_90 : DC mX11_factor 90 (.invokevirtual 271) 3 93 := ⟨by decide +kernel, rfl⟩
theorem d_X11_factor_93 : DC mX11_factor 93 (.ireturn) 1 94 := ⟨by decide +kernel, rfl⟩
theorem d_X11_factor_94 : DC mX11_factor 94 (.aload_n 0) 1 95 := ⟨by decide +kernel, rfl⟩
theorem d_X11_factor_95 : DC mX11_factor 95 (.getfield 69) 3 98 := ⟨by decide +kernel, rfl⟩
theorem d_X11_factor_98 : DC mX11_factor 98 (.aload_n 0) 1 99 := ⟨by decide +kernel, rfl⟩
theorem d_X11_factor_99 : DC mX11_factor 99 (.getfield 83) 3 102 := ⟨by decide +kernel, rfl⟩
theorem d_X11_factor_102 : DC mX11_factor 102 (.invokevirtual 296) 3 105 := ⟨by decide +kernel, rfl⟩
theorem d_X11_factor_105 : DC mX11_factor 105 (.ifCond .ne 5) 3 108 := ⟨by decide +kernel, rfl⟩
theorem d_X11_factor_108 : DC mX11_factor 108 (.iconst 0) 1 109 := ⟨by decide +kernel, rfl⟩
theorem d_X11_factor_109 : DC mX11_factor 109 (.ireturn) 1 110 := ⟨by decide +kernel, rfl⟩
theorem d_X11_factor_110 : DC mX11_factor 110 (.iload_n 2) 1 111 := ⟨by decide +kernel, rfl⟩
theorem d_X11_factor_111 : DC mX11_factor 111 (.ifCond .ne 13) 3 114 := ⟨by decide +kernel, rfl⟩
theorem d_X11_factor_114 : DC mX11_factor 114 (.aload_n 0) 1 115 := ⟨by decide +kernel, rfl⟩
theorem d_X11_factor_115 : DC mX11_factor 115 (.getfield 69) 3 118 := ⟨by decide +kernel, rfl⟩
theorem d_X11_factor_118 : DC mX11_factor 118 (.getfield 299) 3 121 := ⟨by decide +kernel, rfl⟩
theorem d_X11_factor_121 : DC mX11_factor 121 (.goto 15) 3 124 := ⟨by decide +kernel, rfl⟩
theorem d_X11_factor_124 : DC mX11_factor 124 (.aload_n 0) 1 125 := ⟨by decide +kernel, rfl⟩
theorem d_X11_factor_125 : DC mX11_factor 125 (.getfield 69) 3 128 := ⟨by decide +kernel, rfl⟩
theorem d_X11_factor_128 : DC mX11_factor 128 (.iload_n 2) 1 129 := ⟨by decide +kernel, rfl⟩
theorem d_X11_factor_129 : DC mX11_factor 129 (.iconst 1) 1 130 := ⟨by decide +kernel, rfl⟩
theorem d_X11_factor_130 : DC mX11_factor 130 (.isub) 1 131 := ⟨by decide +kernel, rfl⟩
theorem d_X11_factor_131 : DC mX11_factor 131 (.invokevirtual 302) 3 134 := ⟨by decide +kernel, rfl⟩
theorem d_X11_factor_134 : DC mX11_factor 134 (.iconst 1) 1 135 := ⟨by decide +kernel, rfl⟩
theorem d_X11_factor_135 : DC mX11_factor 135 (.iadd) 1 136 := ⟨by decide +kernel, rfl⟩
theorem d_X11_factor_136 : DC mX11_factor 136 (.ireturn) 1 137 := ⟨by decide +kernel, rfl⟩
theorem d_X11_isFinal_0 : DC mX11_isFinal 0 (.aload_n 0) 1 1 := ⟨by decide +kernel, rfl⟩
theorem d_X11_isFinal_1 : DC mX11_isFinal 1 (.iconst 0) 1 2 := ⟨by decide +kernel, rfl⟩
theorem d_X11_isFinal_2 : DC mX11_isFinal 2 (.putfield 90) 3 5 := ⟨by decide +kernel, rfl⟩
theorem d_X11_isFinal_5 : DC mX11_isFinal 5 (.iload_n 1) 1 6 := ⟨by decide +kernel, rfl⟩
theorem d_X11_isFinal_6 : DC mX11_isFinal 6 (.invokestatic 143) 3 9 := ⟨by decide +kernel, rfl⟩
theorem d_X11_isFinal_9 : DC mX11_isFinal 9 (.ifCond .ne 6) 3 12 := ⟨by decide +kernel, rfl⟩
theorem d_X11_isFinal_12 : DC mX11_isFinal 12 (.bipush (-2)) 2 14 := ⟨by decide +kernel, rfl⟩
theorem d_X11_isFinal_14 : DC mX11_isFinal 14 (.ireturn) 1 15 := ⟨by decide +kernel, rfl⟩
theorem d_X11_isFinal_15 : DC mX11_isFinal 15 (.aload_n 0) 1 16 := ⟨by decide +kernel, rfl⟩
theorem d_X11_isFinal_16 : DC mX11_isFinal 16 (.getfield 41) 3 19 := ⟨by decide +kernel, rfl⟩
theorem d_X11_isFinal_19 : DC mX11_isFinal 19 (.aload_n 0) 1 20 := ⟨by decide +kernel, rfl⟩
theorem d_X11_isFinal_20 : DC mX11_isFinal 20 (.getfield 10) 3 23 := ⟨by decide +kernel, rfl⟩
theorem d_X11_isFinal_23 : DC mX11_isFinal 23 (.getfield 146) 3 26 := ⟨by decide +kernel, rfl⟩
theorem d_X11_isFinal_26 : DC mX11_isFinal 26 (.iload_n 1) 1 27 := ⟨by decide +kernel, rfl⟩
theorem d_X11_isFinal_27 : DC mX11_isFinal 27 (.aaload) 1 28 := ⟨by decide +kernel, rfl⟩
theorem d_X11_isFinal_28 : DC mX11_isFinal 28 (.aload_n 0) 1 29 := ⟨by decide +kernel, rfl⟩
theorem d_X11_isFinal_29 : DC mX11_isFinal 29 (.getfield 83) 3 32 := ⟨by decide +kernel, rfl⟩
theorem d_X11_isFinal_32 : DC mX11_isFinal 32 (.invokevirtual 212) 3 35 := ⟨by decide +kernel, rfl⟩
theorem d_X11_isFinal_35 : DC mX11_isFinal 35 (.istore_n 2) 1 36 := ⟨by decide +kernel, rfl⟩
theorem d_X11_isFinal_36 : DC mX11_isFinal 36 (.iload_n 2) 1 37 := ⟨by decide +kernel, rfl⟩
theorem d_X11_isFinal_37 : DC mX11_isFinal 37 (.ifCond .eq 9) 3 40 := ⟨by decide +kernel, rfl⟩
theorem d_X11_isFinal_40 : DC mX11_isFinal 40 (.aload_n 0) 1 41 := ⟨by decide +kernel, rfl⟩
theorem d_X11_isFinal_41 : DC mX11_isFinal 41 (.iload_n 2) 1 42 := ⟨by decide +kernel, rfl⟩
theorem d_X11_isFinal_42 : DC mX11_isFinal 42 (.invokevirtual 271) 3 45 := ⟨by decide +kernel, rfl⟩
theorem d_X11_isFinal_45 : DC mX11_isFinal 45 (.ireturn) 1 46 := ⟨by decide +kernel, rfl⟩
theorem d_X11_isFinal_46 : DC mX11_isFinal 46 (.aload_n 0) 1 47 := ⟨by decide +kernel, rfl⟩
theorem d_X11_isFinal_47 : DC mX11_isFinal 47 (.getfield 83) 3 50 := ⟨by decide +kernel, rfl⟩
theorem d_X11_isFinal_50 : DC mX11_isFinal 50 (.getfield 150) 3 53 := ⟨by decide +kernel, rfl⟩
theorem d_X11_isFinal_53 : DC mX11_isFinal 53 (.ifCond .eq 5) 3 56 := ⟨by decide +kernel, rfl⟩
theorem d_X11_isFinal_56 : DC mX11_isFinal 56 (.iconst 0) 1 57 := ⟨by decide +kernel, rfl⟩
theorem d_X11_isFinal_57 : DC mX11_isFinal 57 (.ireturn) 1 58 := ⟨by decide +kernel, rfl⟩
theorem d_X11_isFinal_58 : DC mX11_isFinal 58 (.aload_n 0) 1 59 := ⟨by decide +kernel, rfl⟩
theorem d_X11_isFinal_59 : DC mX11_isFinal 59 (.getfield 10) 3 62 := ⟨by decide +kernel, rfl⟩
theorem d_X11_isFinal_62 : DC mX11_isFinal 62 (.aload_n 0) 1 63 := ⟨by decide +kernel, rfl⟩
theorem d_X11_isFinal_63 : DC mX11_isFinal 63 (.getfield 87) 3 66 := ⟨by decide +kernel, rfl⟩
theorem d_X11_isFinal_66 : DC mX11_isFinal 66 (.aload_n 0) 1 67 := ⟨by decide +kernel, rfl⟩
theorem d_X11_isFinal_67 : DC mX11_isFinal 67 (.getfield 10) 3 70 := ⟨by decide +kernel, rfl⟩
theorem d_X11_isFinal_70 : DC mX11_isFinal 70 (.getfield 146) 3 73 := ⟨by decide +kernel, rfl⟩
theorem d_X11_isFinal_73 : DC mX11_isFinal 73 (.iload_n 1) 1 74 := ⟨by decide +kernel, rfl⟩
theorem d_X11_isFinal_74 : DC mX11_isFinal 74 (.aaload) 1 75 := ⟨by decide +kernel, rfl⟩
theorem d_X11_isFinal_75 : DC mX11_isFinal 75 (.invokevirtual 215) 3 78 := ⟨by decide +kernel, rfl⟩
theorem d_X11_isFinal_78 : DC mX11_isFinal 78 (.aload_n 0) 1 79 := ⟨by decide +kernel, rfl⟩
theorem d_X11_isFinal_79 : DC mX11_isFinal 79 (.getfield 87) 3 82 := ⟨by decide +kernel, rfl⟩
theorem d_X11_isFinal_82 : DC mX11_isFinal 82 (.getfield 150) 3 85 := ⟨by decide +kernel, rfl⟩
theorem d_X11_isFinal_85 : DC mX11_isFinal 85 (.iconst 1) 1 86 := ⟨by decide +kernel, rfl⟩
theorem d_X11_isFinal_86 : DC mX11_isFinal 86 (.if_icmp .ne 26) 3 89 := ⟨by decide +kernel, rfl⟩
theorem d_X11_isFinal_89 : DC mX11_isFinal 89 (.aload_n 0) 1 90 := ⟨by decide +kernel, rfl⟩
theorem d_X11_isFinal_90 : DC mX11_isFinal 90 (.getfield 10) 3 93 := ⟨by decide +kernel, rfl⟩
theorem d_X11_isFinal_93 : DC mX11_isFinal 93 (.aload_n 0) 1 94 := ⟨by decide +kernel, rfl⟩
theorem d_X11_isFinal_94 : DC mX11_isFinal 94 (.getfield 87) 3 97 := ⟨by decide +kernel, rfl⟩
theorem d_X11_isFinal_97 : DC mX11_isFinal 97 (.getfield 241) 3 100 := ⟨by decide +kernel, rfl⟩
theorem d_X11_isFinal_100 : DC mX11_isFinal 100 (.iconst 0) 1 101 := ⟨by decide +kernel, rfl⟩
theorem d_X11_isFinal_101 : DC mX11_isFinal 101 (.laload) 1 102 := ⟨by decide +kernel, rfl⟩
theorem d_X11_isFinal_102 : DC mX11_isFinal 102 (.invokevirtual 305) 3 105 := ⟨by decide +kernel, rfl⟩
theorem d_X11_isFinal_105 : DC mX11_isFinal 105 (.ifCond .eq 7) 3 108 := ⟨by decide +kernel, rfl⟩
theorem d_X11_isFinal_108 : DC mX11_isFinal 108 (.iconst 1) 1 109 := ⟨by decide +kernel, rfl⟩
theorem d_X11_isFinal_109 : DC mX11_isFinal 109 (.goto 4) 3 112 := ⟨by decide +kernel, rfl⟩
theorem d_X11_isFinal_112 : DC mX11_isFinal 112 (.iconst 0) 1 113 := ⟨by decide +kernel, rfl⟩
theorem d_X11_isFinal_113 : DC mX11_isFinal 113 (.ireturn) 1 114 := ⟨by decide +kernel, rfl⟩
theorem d_X11_known_0 : DC mX11_known 0 (.iload_n 1) 1 1 := ⟨by decide +kernel, rfl⟩
theorem d_X11_known_1 : DC mX11_known 1 (.iload_n 2) 1 2 := ⟨by decide +kernel, rfl⟩
theorem d_X11_known_2 : DC mX11_known 2 (.iload_n 3) 1 3 := ⟨by decide +kernel, rfl⟩
theorem d_X11_known_3 : DC mX11_known 3 (.invokestatic 160) 3 6 := ⟨by decide +kernel, rfl⟩
theorem d_X11_known_6 : DC mX11_known 6 (.ifCond .ne 6) 3 9 := ⟨by decide +kernel, rfl⟩
theorem d_X11_known_9 : DC mX11_known 9 (.bipush (-2)) 2 11 := ⟨by decide +kernel, rfl⟩
theorem d_X11_known_11 : DC mX11_known 11 (.ireturn) 1 12 := ⟨by decide +kernel, rfl⟩
theorem d_X11_known_12 : DC mX11_known 12 (.iload_n 1) 1 13 := ⟨by decide +kernel, rfl⟩
theorem d_X11_known_13 : DC mX11_known 13 (.iload_n 2) 1 14 := ⟨by decide +kernel, rfl⟩
theorem d_X11_known_14 : DC mX11_known 14 (.iload_n 3) 1 15 := ⟨by decide +kernel, rfl⟩
theorem d_X11_known_15 : DC mX11_known 15 (.invokestatic 167) 3 18 := ⟨by decide +kernel, rfl⟩
theorem d_X11_known_18 : DC mX11_known 18 (.invokestatic 219) 3 21 := ⟨by decide +kernel, rfl⟩
theorem d_X11_known_21 : DC mX11_known 21 (.invokestatic 222) 3 24 := ⟨by decide +kernel, rfl⟩
theorem d_X11_known_24 : DC mX11_known 24 (.istore 4) 2 26 := ⟨by decide +kernel, rfl⟩
theorem d_X11_known_26 : DC mX11_known 26 (.iload 4) 2 28 := ⟨by decide +kernel, rfl⟩
theorem d_X11_known_28 : DC mX11_known 28 (.ifCond .ne 8) 3 31 := ⟨by decide +kernel, rfl⟩
theorem d_X11_known_31 : DC mX11_known 31 (.bipush (-3)) 2 33 := ⟨by decide +kernel, rfl⟩
theorem d_X11_known_33 : DC mX11_known 33 (.goto 12) 3 36 := ⟨by decide +kernel, rfl⟩
theorem d_X11_known_36 : DC mX11_known 36 (.aload_n 0) 1 37 := ⟨by decide +kernel, rfl⟩
theorem d_X11_known_37 : DC mX11_known 37 (.getfield 10) 3 40 := ⟨by decide +kernel, rfl⟩
theorem d_X11_known_40 : DC mX11_known 40 (.iload 4) 2 42 := ⟨by decide +kernel, rfl⟩
theorem d_X11_known_42 : DC mX11_known 42 (.invokevirtual 227) 3 45 := ⟨by decide +kernel, rfl⟩
theorem d_X11_known_45 : DC mX11_known 45 (.ireturn) 1 46 := ⟨by decide +kernel, rfl⟩
theorem d_X11_at_0 : DC mX11_at 0 (.iload_n 1) 1 1 := ⟨by decide +kernel, rfl⟩
theorem d_X11_at_1 : DC mX11_at 1 (.invokestatic 205) 3 4 := ⟨by decide +kernel, rfl⟩
theorem d_X11_at_4 : DC mX11_at 4 (.ifCond .eq 12) 3 7 := ⟨by decide +kernel, rfl⟩
theorem d_X11_at_7 : DC mX11_at 7 (.iload_n 2) 1 8 := ⟨by decide +kernel, rfl⟩
theorem d_X11_at_8 : DC mX11_at 8 (.ifCond .lt 8) 3 11 := ⟨by decide +kernel, rfl⟩
theorem d_X11_at_11 : DC mX11_at 11 (.iload_n 2) 1 12 := ⟨by decide +kernel, rfl⟩
theorem d_X11_at_12 : DC mX11_at 12 (.iconst 2) 1 13 := ⟨by decide +kernel, rfl⟩
theorem d_X11_at_13 : DC mX11_at 13 (.if_icmp .le 6) 3 16 := ⟨by decide +kernel, rfl⟩
theorem d_X11_at_16 : DC mX11_at 16 (.bipush (-100)) 2 18 := ⟨by decide +kernel, rfl⟩
theorem d_X11_at_18 : DC mX11_at 18 (.ireturn) 1 19 := ⟨by decide +kernel, rfl⟩
theorem d_X11_at_19 : DC mX11_at 19 (.aload_n 0) 1 20 := ⟨by decide +kernel, rfl⟩
theorem d_X11_at_20 : DC mX11_at 20 (.getfield 10) 3 23 := ⟨by decide +kernel, rfl⟩
theorem d_X11_at_23 : DC mX11_at 23 (.getfield 237) 3 26 := ⟨by decide +kernel, rfl⟩
theorem d_X11_at_26 : DC mX11_at 26 (.iconst 3) 1 27 := ⟨by decide +kernel, rfl⟩
theorem d_X11_at_27 : DC mX11_at 27 (.iload_n 1) 1 28 := ⟨by decide +kernel, rfl⟩
theorem d_X11_at_28 : DC mX11_at 28 (.imul) 1 29 := ⟨by decide +kernel, rfl⟩
theorem d_X11_at_29 : DC mX11_at 29 (.iload_n 2) 1 30 := ⟨by decide +kernel, rfl⟩
theorem d_X11_at_30 : DC mX11_at 30 (.iadd) 1 31 := ⟨by decide +kernel, rfl⟩
theorem d_X11_at_31 : DC mX11_at 31 (.iaload) 1 32 := ⟨by decide +kernel, rfl⟩
theorem d_X11_at_32 : DC mX11_at 32 (.ireturn) 1 33 := ⟨by decide +kernel, rfl⟩
theorem d_X11_worth_0 : DC mX11_worth 0 (.iload_n 1) 1 1 := ⟨by decide +kernel, rfl⟩
theorem d_X11_worth_1 : DC mX11_worth 1 (.iload_n 2) 1 2 := ⟨by decide +kernel, rfl⟩
theorem d_X11_worth_2 : DC mX11_worth 2 (.iload_n 3) 1 3 := ⟨by decide +kernel, rfl⟩
theorem d_X11_worth_3 : DC mX11_worth 3 (.invokestatic 160) 3 6 := ⟨by decide +kernel, rfl⟩
theorem d_X11_worth_6 : DC mX11_worth 6 (.ifCond .eq 16) 3 9 := ⟨by decide +kernel, rfl⟩
theorem d_X11_worth_9 : DC mX11_worth 9 (.aload_n 0) 1 10 := ⟨by decide +kernel, rfl⟩
theorem d_X11_worth_10 : DC mX11_worth 10 (.getfield 10) 3 13 := ⟨by decide +kernel, rfl⟩
theorem d_X11_worth_13 : DC mX11_worth 13 (.iload_n 1) 1 14 := ⟨by decide +kernel, rfl⟩
theorem d_X11_worth_14 : DC mX11_worth 14 (.iload_n 2) 1 15 := ⟨by decide +kernel, rfl⟩
theorem d_X11_worth_15 : DC mX11_worth 15 (.iload_n 3) 1 16 := ⟨by decide +kernel, rfl⟩
theorem d_X11_worth_16 : DC mX11_worth 16 (.invokevirtual 308) 3 19 := ⟨by decide +kernel, rfl⟩
theorem d_X11_worth_19 : DC mX11_worth 19 (.goto 5) 3 22 := ⟨by decide +kernel, rfl⟩
theorem d_X11_worth_22 : DC mX11_worth 22 (.ldc 240) 2 24 := ⟨by decide +kernel, rfl⟩
theorem d_X11_worth_24 : DC mX11_worth 24 (.ireturn) 1 25 := ⟨by decide +kernel, rfl⟩
theorem d_X11_value_0 : DC mX11_value 0 (.iload_n 1) 1 1 := ⟨by decide +kernel, rfl⟩
theorem d_X11_value_1 : DC mX11_value 1 (.invokestatic 143) 3 4 := ⟨by decide +kernel, rfl⟩
theorem d_X11_value_4 : DC mX11_value 4 (.ifCond .ne 7) 3 7 := ⟨by decide +kernel, rfl⟩
theorem d_X11_value_7 : DC mX11_value 7 (.ldc2_w 311) 3 10 := ⟨by decide +kernel, rfl⟩
theorem d_X11_value_10 : DC mX11_value 10 (.lreturn) 1 11 := ⟨by decide +kernel, rfl⟩
theorem d_X11_value_11 : DC mX11_value 11 (.aload_n 0) 1 12 := ⟨by decide +kernel, rfl⟩
theorem d_X11_value_12 : DC mX11_value 12 (.getfield 10) 3 15 := ⟨by decide +kernel, rfl⟩
theorem d_X11_value_15 : DC mX11_value 15 (.aload_n 0) 1 16 := ⟨by decide +kernel, rfl⟩
theorem d_X11_value_16 : DC mX11_value 16 (.getfield 10) 3 19 := ⟨by decide +kernel, rfl⟩
theorem d_X11_value_19 : DC mX11_value 19 (.getfield 146) 3 22 := ⟨by decide +kernel, rfl⟩
theorem d_X11_value_22 : DC mX11_value 22 (.iload_n 1) 1 23 := ⟨by decide +kernel, rfl⟩
theorem d_X11_value_23 : DC mX11_value 23 (.aaload) 1 24 := ⟨by decide +kernel, rfl⟩
theorem d_X11_value_24 : DC mX11_value 24 (.invokevirtual 313) 3 27 := ⟨by decide +kernel, rfl⟩
theorem d_X11_value_27 : DC mX11_value 27 (.lreturn) 1 28 := ⟨by decide +kernel, rfl⟩
theorem d_X11_undo_0 : DC mX11_undo 0 (.iload_n 1) 1 1 := ⟨by decide +kernel, rfl⟩
theorem d_X11_undo_1 : DC mX11_undo 1 (.iconst 1) 1 2 := ⟨by decide +kernel, rfl⟩
theorem d_X11_undo_2 : DC mX11_undo 2 (.if_icmp .lt 20) 3 5 := ⟨by decide +kernel, rfl⟩
theorem d_X11_undo_5 : DC mX11_undo 5 (.iload_n 1) 1 6 := ⟨by decide +kernel, rfl⟩
theorem d_X11_undo_6 : DC mX11_undo 6 (.bipush 10) 2 8 := ⟨by decide +kernel, rfl⟩
theorem d_X11_undo_8 : DC mX11_undo 8 (.if_icmp .gt 14) 3 11 := ⟨by decide +kernel, rfl⟩
theorem d_X11_undo_11 : DC mX11_undo 11 (.iload_n 1) 1 12 := ⟨by decide +kernel, rfl⟩
theorem d_X11_undo_12 : DC mX11_undo 12 (.aload_n 0) 1 13 := ⟨by decide +kernel, rfl⟩
theorem d_X11_undo_13 : DC mX11_undo 13 (.getfield 19) 3 16 := ⟨by decide +kernel, rfl⟩
theorem d_X11_undo_16 : DC mX11_undo 16 (.getfield 317) 3 19 := ⟨by decide +kernel, rfl⟩
theorem d_X11_undo_19 : DC mX11_undo 19 (.if_icmp .le 6) 3 22 := ⟨by decide +kernel, rfl⟩
theorem d_X11_undo_22 : DC mX11_undo 22 (.bipush (-3)) 2 24 := ⟨by decide +kernel, rfl⟩
theorem d_X11_undo_24 : DC mX11_undo 24 (.ireturn) 1 25 := ⟨by decide +kernel, rfl⟩
theorem d_X11_undo_25 : DC mX11_undo 25 (.aload_n 0) 1 26 := ⟨by decide +kernel, rfl⟩
theorem d_X11_undo_26 : DC mX11_undo 26 (.getfield 19) 3 29 := ⟨by decide +kernel, rfl⟩
theorem d_X11_undo_29 : DC mX11_undo 29 (.iload_n 1) 1 30 := ⟨by decide +kernel, rfl⟩
theorem d_X11_undo_30 : DC mX11_undo 30 (.aload_n 0) 1 31 := ⟨by decide +kernel, rfl⟩
theorem d_X11_undo_31 : DC mX11_undo 31 (.getfield 10) 3 34 := ⟨by decide +kernel, rfl⟩
theorem d_X11_undo_34 : DC mX11_undo 34 (.invokevirtual 318) 3 37 := ⟨by decide +kernel, rfl⟩
theorem d_X11_undo_37 : DC mX11_undo 37 (.aload_n 0) 1 38 := ⟨by decide +kernel, rfl⟩
theorem d_X11_undo_38 : DC mX11_undo 38 (.getfield 19) 3 41 := ⟨by decide +kernel, rfl⟩
theorem d_X11_undo_41 : DC mX11_undo 41 (.getfield 317) 3 44 := ⟨by decide +kernel, rfl⟩
theorem d_X11_undo_44 : DC mX11_undo 44 (.ireturn) 1 45 := ⟨by decide +kernel, rfl⟩
theorem d_X11_image_0 : DC mX11_image 0 (.iload_n 1) 1 1 := ⟨by decide +kernel, rfl⟩
theorem d_X11_image_1 : DC mX11_image 1 (.ifCond .lt 8) 3 4 := ⟨by decide +kernel, rfl⟩
theorem d_X11_image_4 : DC mX11_image 4 (.iload_n 1) 1 5 := ⟨by decide +kernel, rfl⟩
theorem d_X11_image_5 : DC mX11_image 5 (.iconst 2) 1 6 := ⟨by decide +kernel, rfl⟩
theorem d_X11_image_6 : DC mX11_image 6 (.if_icmp .lt 6) 3 9 := ⟨by decide +kernel, rfl⟩
theorem d_X11_image_9 : DC mX11_image 9 (.bipush (-2)) 2 11 := ⟨by decide +kernel, rfl⟩
theorem d_X11_image_11 : DC mX11_image 11 (.ireturn) 1 12 := ⟨by decide +kernel, rfl⟩
theorem d_X11_image_12 : DC mX11_image 12 (.aload_n 0) 1 13 := ⟨by decide +kernel, rfl⟩
theorem d_X11_image_13 : DC mX11_image 13 (.getfield 23) 3 16 := ⟨by decide +kernel, rfl⟩
theorem d_X11_image_16 : DC mX11_image 16 (.iload_n 1) 1 17 := ⟨by decide +kernel, rfl⟩
theorem d_X11_image_17 : DC mX11_image 17 (.aaload) 1 18 := ⟨by decide +kernel, rfl⟩
theorem d_X11_image_18 : DC mX11_image 18 (.aload_n 0) 1 19 := ⟨by decide +kernel, rfl⟩
theorem d_X11_image_19 : DC mX11_image 19 (.getfield 10) 3 22 := ⟨by decide +kernel, rfl⟩
theorem d_X11_image_22 : DC mX11_image 22 (.invokevirtual 322) 3 25 := ⟨by decide +kernel, rfl⟩
theorem d_X11_image_25 : DC mX11_image 25 (.aload_n 0) 1 26 := ⟨by decide +kernel, rfl⟩
theorem d_X11_image_26 : DC mX11_image 26 (.getfield 27) 3 29 := ⟨by decide +kernel, rfl⟩
theorem d_X11_image_29 : DC mX11_image 29 (.iload_n 1) 1 30 := ⟨by decide +kernel, rfl⟩
theorem d_X11_image_30 : DC mX11_image 30 (.iconst 1) 1 31 := ⟨by decide +kernel, rfl⟩
theorem d_X11_image_31 : DC mX11_image 31 (.bastore) 1 32 := ⟨by decide +kernel, rfl⟩
theorem d_X11_image_32 : DC mX11_image 32 (.iconst 0) 1 33 := ⟨by decide +kernel, rfl⟩
theorem d_X11_image_33 : DC mX11_image 33 (.ireturn) 1 34 := ⟨by decide +kernel, rfl⟩
theorem d_X11_restore_0 : DC mX11_restore 0 (.iload_n 1) 1 1 := ⟨by decide +kernel, rfl⟩
theorem d_X11_restore_1 : DC mX11_restore 1 (.ifCond .lt 8) 3 4 := ⟨by decide +kernel, rfl⟩
theorem d_X11_restore_4 : DC mX11_restore 4 (.iload_n 1) 1 5 := ⟨by decide +kernel, rfl⟩
theorem d_X11_restore_5 : DC mX11_restore 5 (.iconst 2) 1 6 := ⟨by decide +kernel, rfl⟩
theorem d_X11_restore_6 : DC mX11_restore 6 (.if_icmp .lt 6) 3 9 := ⟨by decide +kernel, rfl⟩
theorem d_X11_restore_9 : DC mX11_restore 9 (.bipush (-2)) 2 11 := ⟨by decide +kernel, rfl⟩
theorem d_X11_restore_11 : DC mX11_restore 11 (.ireturn) 1 12 := ⟨by decide +kernel, rfl⟩
theorem d_X11_restore_12 : DC mX11_restore 12 (.aload_n 0) 1 13 := ⟨by decide +kernel, rfl⟩
theorem d_X11_restore_13 : DC mX11_restore 13 (.getfield 27) 3 16 := ⟨by decide +kernel, rfl⟩
theorem d_X11_restore_16 : DC mX11_restore 16 (.iload_n 1) 1 17 := ⟨by decide +kernel, rfl⟩
theorem d_X11_restore_17 : DC mX11_restore 17 (.baload) 1 18 := ⟨by decide +kernel, rfl⟩
theorem d_X11_restore_18 : DC mX11_restore 18 (.ifCond .ne 6) 3 21 := ⟨by decide +kernel, rfl⟩
theorem d_X11_restore_21 : DC mX11_restore 21 (.bipush (-6)) 2 23 := ⟨by decide +kernel, rfl⟩
theorem d_X11_restore_23 : DC mX11_restore 23 (.ireturn) 1 24 := ⟨by decide +kernel, rfl⟩
theorem d_X11_restore_24 : DC mX11_restore 24 (.aload_n 0) 1 25 := ⟨by decide +kernel, rfl⟩
theorem d_X11_restore_25 : DC mX11_restore 25 (.getfield 10) 3 28 := ⟨by decide +kernel, rfl⟩
theorem d_X11_restore_28 : DC mX11_restore 28 (.aload_n 0) 1 29 := ⟨by decide +kernel, rfl⟩
theorem d_X11_restore_29 : DC mX11_restore 29 (.getfield 23) 3 32 := ⟨by decide +kernel, rfl⟩
theorem d_X11_restore_32 : DC mX11_restore 32 (.iload_n 1) 1 33 := ⟨by decide +kernel, rfl⟩
theorem d_X11_restore_33 : DC mX11_restore 33 (.aaload) 1 34 := ⟨by decide +kernel, rfl⟩
theorem d_X11_restore_34 : DC mX11_restore 34 (.invokevirtual 322) 3 37 := ⟨by decide +kernel, rfl⟩
theorem d_X11_restore_37 : DC mX11_restore 37 (.aload_n 0) 1 38 := ⟨by decide +kernel, rfl⟩
theorem d_X11_restore_38 : DC mX11_restore 38 (.getfield 19) 3 41 := ⟨by decide +kernel, rfl⟩
theorem d_X11_restore_41 : DC mX11_restore 41 (.invokevirtual 324) 3 44 := ⟨by decide +kernel, rfl⟩
theorem d_X11_restore_44 : DC mX11_restore 44 (.iconst 0) 1 45 := ⟨by decide +kernel, rfl⟩
theorem d_X11_restore_45 : DC mX11_restore 45 (.ireturn) 1 46 := ⟨by decide +kernel, rfl⟩
theorem d_X11_count_0 : DC mX11_count 0 (.iload_n 1) 1 1 := ⟨by decide +kernel, rfl⟩
theorem d_X11_count_1 : DC mX11_count 1 (.tableswitch 89 0 5 #[39, 47, 56, 65, 73, 81]) 39 40 := ⟨by decide +kernel, rfl⟩
theorem d_X11_count_40 : DC mX11_count 40 (.aload_n 0) 1 41 := ⟨by decide +kernel, rfl⟩
theorem d_X11_count_41 : DC mX11_count 41 (.getfield 10) 3 44 := ⟨by decide +kernel, rfl⟩
theorem d_X11_count_44 : DC mX11_count 44 (.invokevirtual 327) 3 47 := ⟨by decide +kernel, rfl⟩
theorem d_X11_count_47 : DC mX11_count 47 (.ireturn) 1 48 := ⟨by decide +kernel, rfl⟩
theorem d_X11_count_48 : DC mX11_count 48 (.aload_n 0) 1 49 := ⟨by decide +kernel, rfl⟩
theorem d_X11_count_49 : DC mX11_count 49 (.getfield 10) 3 52 := ⟨by decide +kernel, rfl⟩
theorem d_X11_count_52 : DC mX11_count 52 (.iconst 0) 1 53 := ⟨by decide +kernel, rfl⟩
theorem d_X11_count_53 : DC mX11_count 53 (.invokevirtual 330) 3 56 := ⟨by decide +kernel, rfl⟩
theorem d_X11_count_56 : DC mX11_count 56 (.ireturn) 1 57 := ⟨by decide +kernel, rfl⟩
theorem d_X11_count_57 : DC mX11_count 57 (.aload_n 0) 1 58 := ⟨by decide +kernel, rfl⟩
theorem d_X11_count_58 : DC mX11_count 58 (.getfield 10) 3 61 := ⟨by decide +kernel, rfl⟩
theorem d_X11_count_61 : DC mX11_count 61 (.iconst 1) 1 62 := ⟨by decide +kernel, rfl⟩
theorem d_X11_count_62 : DC mX11_count 62 (.invokevirtual 330) 3 65 := ⟨by decide +kernel, rfl⟩
theorem d_X11_count_65 : DC mX11_count 65 (.ireturn) 1 66 := ⟨by decide +kernel, rfl⟩
theorem d_X11_count_66 : DC mX11_count 66 (.aload_n 0) 1 67 := ⟨by decide +kernel, rfl⟩
theorem d_X11_count_67 : DC mX11_count 67 (.getfield 34) 3 70 := ⟨by decide +kernel, rfl⟩
theorem d_X11_count_70 : DC mX11_count 70 (.getfield 94) 3 73 := ⟨by decide +kernel, rfl⟩
theorem d_X11_count_73 : DC mX11_count 73 (.ireturn) 1 74 := ⟨by decide +kernel, rfl⟩
theorem d_X11_count_74 : DC mX11_count 74 (.aload_n 0) 1 75 := ⟨by decide +kernel, rfl⟩
theorem d_X11_count_75 : DC mX11_count 75 (.getfield 19) 3 78 := ⟨by decide +kernel, rfl⟩
theorem d_X11_count_78 : DC mX11_count 78 (.getfield 317) 3 81 := ⟨by decide +kernel, rfl⟩
theorem d_X11_count_81 : DC mX11_count 81 (.ireturn) 1 82 := ⟨by decide +kernel, rfl⟩
theorem d_X11_count_82 : DC mX11_count 82 (.aload_n 0) 1 83 := ⟨by decide +kernel, rfl⟩
theorem d_X11_count_83 : DC mX11_count 83 (.getfield 10) 3 86 := ⟨by decide +kernel, rfl⟩
theorem d_X11_count_86 : DC mX11_count 86 (.invokevirtual 333) 3 89 := ⟨by decide +kernel, rfl⟩
theorem d_X11_count_89 : DC mX11_count 89 (.ireturn) 1 90 := ⟨by decide +kernel, rfl⟩
theorem d_X11_count_90 : DC mX11_count 90 (.iconst (-1)) 1 91 := ⟨by decide +kernel, rfl⟩
theorem d_X11_count_91 : DC mX11_count 91 (.ireturn) 1 92 := ⟨by decide +kernel, rfl⟩
theorem v_X11_equal_0 {l : Launch} {d N : Nat} {Λ : Lay} {P : Int → Mem → Prop} {σ : Mem} {x1 x2 t t_now t_now_shelves t_other t_straightener t_work : Int} (o_t : Ob N Λ t 20 14) (f_t_straightener : (Λ t).2.2 5 = t_straightener) (f_t_now : (Λ t).2.2 0 = t_now) (o_t_now : Ob N Λ t_now 16 3) (f_t_now_shelves : (Λ t_now).2.2 0 = t_now_shelves) (f_t_work : (Λ t).2.2 11 = t_work) (o_t_straightener : Ob N Λ t_straightener 17 2) (f_t_other : (Λ t).2.2 12 = t_other) (o_t_work : Ob N Λ t_work 15 3) (h0d : 1 ≤ d)
    (h : (∀ τ1, τ1 = st σ t 13 0 → ((x1 < 0 → P (-2) τ1) ∧ (¬ (x1 < 0) → ((6 ≤ x1 → P (-2) τ1) ∧ (¬ (6 ≤ x1) → ((x2 < 0 → P (-2) τ1) ∧ (¬ (x2 < 0) → ((6 ≤ x2 → P (-2) τ1) ∧ (¬ (6 ≤ x2) → (Ix N Λ t_now_shelves 3 x1 ∧ (∀ b2, b2 = (Λ t_now_shelves).2.2 x1 → (Ob N Λ b2 15 3 ∧ (CI l mX8_straighten (d - 1) [(2, t_straightener), (2, b2), (2, t_work)] N Λ τ1 (fun v4 σ3 => ((¬ v4 = 0 → ((v4 = 0 → (CI l mX5_isLike (d - 1) [(2, t_work), (2, t_other)] N Λ σ3 (fun v6 σ5 => ((v6 = 0 → P 0 σ5) ∧ (¬ (v6 = 0) → P 1 σ5))))) ∧ (¬ (v4 = 0) → (∀ τ7, τ7 = st σ3 t 13 v4 → ((¬ v4 = 4 → P (-4) τ7) ∧ (v4 = 4 → P (-7) τ7)))))) ∧ (v4 = 0 → (Ix N Λ t_now_shelves 3 x2 ∧ (∀ b8, b8 = (Λ t_now_shelves).2.2 x2 → (Ob N Λ b8 15 3 ∧ (CI l mX8_straighten (d - 1) [(2, t_straightener), (2, b8), (2, t_other)] N Λ σ3 (fun v10 σ9 => ((v10 = 0 → (CI l mX5_isLike (d - 1) [(2, t_work), (2, t_other)] N Λ σ9 (fun v12 σ11 => ((v12 = 0 → P 0 σ11) ∧ (¬ (v12 = 0) → P 1 σ11))))) ∧ (¬ (v10 = 0) → (∀ τ13, τ13 = st σ9 t 13 v10 → ((¬ v10 = 4 → P (-4) τ13) ∧ (v10 = 4 → P (-7) τ13))))))))))))))))))))))))))) :
    WI l mX11_equal d P 0 [(2, t), (0, x1), (0, x2), (3, 0)] [] N Λ σ := by
  have hd_1 : 1 ≤ d := Nat.le_trans (by decide) h0d
  refine r_aload_n (x := t) d_X11_equal_0 rfl o_t.1 ?_
  refine r_iconst (x := 0) d_X11_equal_1 ⟨by decide, by decide⟩ ?_
  refine r_putI (j := 13) d_X11_equal_2 kX11 (by decide) fl_X11_90 rfl o_t.1 o_t.2.1 o_t.2.2.1 o_t.2.2.2 rfl ?_
  refine r_nmM (fun τ1 eτ1 => ?_)
  have h := h τ1 eτ1
  refine r_iload_n (x := x1) d_X11_equal_5 rfl ?_
  refine x_callSI (Y2 := mX11_isShelf) (As := [(0, x1)]) (S := []) d_X11_equal_6 ok_mX11_isShelf ml_X11_143 rfl (Nat.le_of_ble_eq_true rfl) (Nat.le_of_ble_eq_true rfl) rfl hd_1 (c_X11_isShelf (v_X11_isShelf_0 ?_))
  refine ⟨fun hc => ?_, fun hc => ?_⟩
  · have h := h.1 hc
    show WP l mX11_equal (rm d 0 0) noX _ 0 0 9 [(2, t), (0, x1), (0, x2), (3, 0)] [(0, 0)] N Λ τ1
    refine r_if_eq (tgt := 19) d_X11_equal_9 rfl (fun _ => ?_) (fun hc => absurd hc (by decide))
    refine r_bipush (x := (-2)) d_X11_equal_19 ⟨by decide, by decide⟩ (by decide) ?_
    exact r_iret d_X11_equal_21 rfl rfl (Nat.le_refl 0) (Nat.le_refl 0) ⟨_, rfl, rfl, rfl, h⟩
  · have h := h.2 hc
    refine ⟨fun hc => ?_, fun hc => ?_⟩
    · have h := h.1 hc
      show WP l mX11_equal (rm d 0 0) noX _ 0 0 9 [(2, t), (0, x1), (0, x2), (3, 0)] [(0, 0)] N Λ τ1
      refine r_if_eq (tgt := 19) d_X11_equal_9 rfl (fun _ => ?_) (fun hc => absurd hc (by decide))
      refine r_bipush (x := (-2)) d_X11_equal_19 ⟨by decide, by decide⟩ (by decide) ?_
      exact r_iret d_X11_equal_21 rfl rfl (Nat.le_refl 0) (Nat.le_refl 0) ⟨_, rfl, rfl, rfl, h⟩
    · have h := h.2 hc
      show WP l mX11_equal (rm d 0 0) noX _ 0 0 9 [(2, t), (0, x1), (0, x2), (3, 0)] [(0, 1)] N Λ τ1
      refine r_if_eq (tgt := 19) d_X11_equal_9 rfl (fun hc => absurd hc (by decide)) (fun _ => ?_)
      refine r_iload_n (x := x2) d_X11_equal_12 rfl ?_
      refine x_callSI (Y2 := mX11_isShelf) (As := [(0, x2)]) (S := []) d_X11_equal_13 ok_mX11_isShelf ml_X11_143 rfl (Nat.le_of_ble_eq_true rfl) (Nat.le_of_ble_eq_true rfl) rfl hd_1 (c_X11_isShelf (v_X11_isShelf_0 ?_))
      refine ⟨fun hc => ?_, fun hc => ?_⟩
      · have h := h.1 hc
        show WP l mX11_equal (rm d 0 0) noX _ 0 0 16 [(2, t), (0, x1), (0, x2), (3, 0)] [(0, 0)] N Λ τ1
        refine r_if_ne (tgt := 22) d_X11_equal_16 rfl (fun hc => absurd hc (by decide)) (fun _ => ?_)
        refine r_bipush (x := (-2)) d_X11_equal_19 ⟨by decide, by decide⟩ (by decide) ?_
        exact r_iret d_X11_equal_21 rfl rfl (Nat.le_refl 0) (Nat.le_refl 0) ⟨_, rfl, rfl, rfl, h⟩
      · have h := h.2 hc
        refine ⟨fun hc => ?_, fun hc => ?_⟩
        · have h := h.1 hc
          show WP l mX11_equal (rm d 0 0) noX _ 0 0 16 [(2, t), (0, x1), (0, x2), (3, 0)] [(0, 0)] N Λ τ1
          refine r_if_ne (tgt := 22) d_X11_equal_16 rfl (fun hc => absurd hc (by decide)) (fun _ => ?_)
          refine r_bipush (x := (-2)) d_X11_equal_19 ⟨by decide, by decide⟩ (by decide) ?_
          exact r_iret d_X11_equal_21 rfl rfl (Nat.le_refl 0) (Nat.le_refl 0) ⟨_, rfl, rfl, rfl, h⟩
        · have h := h.2 hc
          show WP l mX11_equal (rm d 0 0) noX _ 0 0 16 [(2, t), (0, x1), (0, x2), (3, 0)] [(0, 1)] N Λ τ1
          refine r_if_ne (tgt := 22) d_X11_equal_16 rfl (fun _ => ?_) (fun hc => absurd hc (by decide))
          refine r_aload_n (x := t) d_X11_equal_22 rfl o_t.1 ?_
          refine r_getf (j := 5) (t := 2) (x := t_straightener) d_X11_equal_23 kX11 (by decide) fl_X11_41 o_t.1 o_t.2.1 o_t.2.2.1 o_t.2.2.2 rfl f_t_straightener ?_
          refine r_aload_n (x := t) d_X11_equal_26 rfl o_t.1 ?_
          refine r_getf (j := 0) (t := 2) (x := t_now) d_X11_equal_27 kX11 (by decide) fl_X11_10 o_t.1 o_t.2.1 o_t.2.2.1 o_t.2.2.2 rfl f_t_now ?_
          refine r_getf (j := 0) (t := 2) (x := t_now_shelves) d_X11_equal_30 kX7 (by decide) fl_X11_146 o_t_now.1 o_t_now.2.1 o_t_now.2.2.1 o_t_now.2.2.2 rfl f_t_now_shelves ?_
          refine r_iload_n (x := x1) d_X11_equal_33 rfl ?_
          refine x_aald (t := 3) (by decide) d_X11_equal_34 h.1 (fun b2 eb2 => ?_)
          have h := h.2 b2 eb2
          have oob2 := h.1
          have h := h.2
          refine r_aload_n (x := t) d_X11_equal_35 rfl o_t.1 ?_
          refine r_getf (j := 11) (t := 2) (x := t_work) d_X11_equal_36 kX11 (by decide) fl_X11_83 o_t.1 o_t.2.1 o_t.2.2.1 o_t.2.2.2 rfl f_t_work ?_
          refine x_callVI (Y2 := mX8_straighten) (c := t_straightener) (As := [(2, b2), (2, t_work)]) (S := []) d_X11_equal_39 ok_mX8_straighten ml_X11_212 rfl (Nat.le_of_ble_eq_true rfl) (Nat.le_of_ble_eq_true rfl) rfl hd_1 kX8 o_t_straightener (CI.mono h (fun v4 σ3 h => ?_))
          refine r_istore_n (L2 := [(2, t), (0, x1), (0, x2), (0, v4)]) d_X11_equal_42 (by decide) rfl rfl ?_
          refine r_iload_n (x := v4) d_X11_equal_43 rfl ?_
          refine r_if_ne (tgt := 68) d_X11_equal_44 rfl (fun hc => ?_) (fun hc => ?_)
          · have h := h.1 hc
            refine r_iload_n (x := v4) d_X11_equal_68 rfl ?_
            refine r_if_eq (tgt := 78) d_X11_equal_69 rfl (fun hc => ?_) (fun hc => ?_)
            · have h := h.1 hc
              refine r_aload_n (x := t) d_X11_equal_78 rfl o_t.1 ?_
              refine r_getf (j := 11) (t := 2) (x := t_work) d_X11_equal_79 kX11 (by decide) fl_X11_83 o_t.1 o_t.2.1 o_t.2.2.1 o_t.2.2.2 rfl f_t_work ?_
              refine r_aload_n (x := t) d_X11_equal_82 rfl o_t.1 ?_
              refine r_getf (j := 12) (t := 2) (x := t_other) d_X11_equal_83 kX11 (by decide) fl_X11_87 o_t.1 o_t.2.1 o_t.2.2.1 o_t.2.2.2 rfl f_t_other ?_
              refine x_callVI (Y2 := mX5_isLike) (c := t_work) (As := [(2, t_other)]) (S := []) d_X11_equal_86 ok_mX5_isLike ml_X11_274 rfl (Nat.le_of_ble_eq_true rfl) (Nat.le_of_ble_eq_true rfl) rfl hd_1 kX5 o_t_work (CI.mono h (fun v6 σ5 h => ?_))
              refine r_if_eq (tgt := 96) d_X11_equal_89 rfl (fun hc => ?_) (fun hc => ?_)
              · have h := h.1 hc
                refine r_iconst (x := 0) d_X11_equal_96 ⟨by decide, by decide⟩ ?_
                exact r_iret d_X11_equal_97 rfl rfl (Nat.le_refl 0) (Nat.le_refl 0) ⟨_, rfl, rfl, rfl, h⟩
              · have h := h.2 hc
                refine r_iconst (x := 1) d_X11_equal_92 ⟨by decide, by decide⟩ ?_
                refine r_goto (tgt := 97) d_X11_equal_93 rfl ?_
                exact r_iret d_X11_equal_97 rfl rfl (Nat.le_refl 0) (Nat.le_refl 0) ⟨_, rfl, rfl, rfl, h⟩
            · have h := h.2 hc
              refine r_aload_n (x := t) d_X11_equal_72 rfl o_t.1 ?_
              refine r_iload_n (x := v4) d_X11_equal_73 rfl ?_
              refine x_callVI (Y2 := mX11_refused) (c := t) (As := [(0, v4)]) (S := []) d_X11_equal_74 ok_mX11_refused ml_X11_271 rfl (Nat.le_of_ble_eq_true rfl) (Nat.le_of_ble_eq_true rfl) rfl hd_1 kX11 o_t (c_X11_refused (v_X11_refused_0 o_t ?_))
              intro τ7 eτ7
              have h := h τ7 eτ7
              refine ⟨fun hc => ?_, fun hc => ?_⟩
              · have h := h.1 hc
                show WP l mX11_equal (rm d 0 0) noX _ 0 0 77 [(2, t), (0, x1), (0, x2), (0, v4)] [(0, (-4))] N Λ τ7
                exact r_iret d_X11_equal_77 rfl rfl (Nat.le_refl 0) (Nat.le_refl 0) ⟨_, rfl, rfl, rfl, h⟩
              · have h := h.2 hc
                show WP l mX11_equal (rm d 0 0) noX _ 0 0 77 [(2, t), (0, x1), (0, x2), (0, v4)] [(0, (-7))] N Λ τ7
                exact r_iret d_X11_equal_77 rfl rfl (Nat.le_refl 0) (Nat.le_refl 0) ⟨_, rfl, rfl, rfl, h⟩
          · have h := h.2 hc
            refine r_aload_n (x := t) d_X11_equal_47 rfl o_t.1 ?_
            refine r_getf (j := 5) (t := 2) (x := t_straightener) d_X11_equal_48 kX11 (by decide) fl_X11_41 o_t.1 o_t.2.1 o_t.2.2.1 o_t.2.2.2 rfl f_t_straightener ?_
            refine r_aload_n (x := t) d_X11_equal_51 rfl o_t.1 ?_
            refine r_getf (j := 0) (t := 2) (x := t_now) d_X11_equal_52 kX11 (by decide) fl_X11_10 o_t.1 o_t.2.1 o_t.2.2.1 o_t.2.2.2 rfl f_t_now ?_
            refine r_getf (j := 0) (t := 2) (x := t_now_shelves) d_X11_equal_55 kX7 (by decide) fl_X11_146 o_t_now.1 o_t_now.2.1 o_t_now.2.2.1 o_t_now.2.2.2 rfl f_t_now_shelves ?_
            refine r_iload_n (x := x2) d_X11_equal_58 rfl ?_
            refine x_aald (t := 3) (by decide) d_X11_equal_59 h.1 (fun b8 eb8 => ?_)
            have h := h.2 b8 eb8
            have oob8 := h.1
            have h := h.2
            refine r_aload_n (x := t) d_X11_equal_60 rfl o_t.1 ?_
            refine r_getf (j := 12) (t := 2) (x := t_other) d_X11_equal_61 kX11 (by decide) fl_X11_87 o_t.1 o_t.2.1 o_t.2.2.1 o_t.2.2.2 rfl f_t_other ?_
            refine x_callVI (Y2 := mX8_straighten) (c := t_straightener) (As := [(2, b8), (2, t_other)]) (S := []) d_X11_equal_64 ok_mX8_straighten ml_X11_212 rfl (Nat.le_of_ble_eq_true rfl) (Nat.le_of_ble_eq_true rfl) rfl hd_1 kX8 o_t_straightener (CI.mono h (fun v10 σ9 h => ?_))
            refine r_istore_n (L2 := [(2, t), (0, x1), (0, x2), (0, v10)]) d_X11_equal_67 (by decide) rfl rfl ?_
            refine r_iload_n (x := v10) d_X11_equal_68 rfl ?_
            refine r_if_eq (tgt := 78) d_X11_equal_69 rfl (fun hc => ?_) (fun hc => ?_)
            · have h := h.1 hc
              refine r_aload_n (x := t) d_X11_equal_78 rfl o_t.1 ?_
              refine r_getf (j := 11) (t := 2) (x := t_work) d_X11_equal_79 kX11 (by decide) fl_X11_83 o_t.1 o_t.2.1 o_t.2.2.1 o_t.2.2.2 rfl f_t_work ?_
              refine r_aload_n (x := t) d_X11_equal_82 rfl o_t.1 ?_
              refine r_getf (j := 12) (t := 2) (x := t_other) d_X11_equal_83 kX11 (by decide) fl_X11_87 o_t.1 o_t.2.1 o_t.2.2.1 o_t.2.2.2 rfl f_t_other ?_
              refine x_callVI (Y2 := mX5_isLike) (c := t_work) (As := [(2, t_other)]) (S := []) d_X11_equal_86 ok_mX5_isLike ml_X11_274 rfl (Nat.le_of_ble_eq_true rfl) (Nat.le_of_ble_eq_true rfl) rfl hd_1 kX5 o_t_work (CI.mono h (fun v12 σ11 h => ?_))
              refine r_if_eq (tgt := 96) d_X11_equal_89 rfl (fun hc => ?_) (fun hc => ?_)
              · have h := h.1 hc
                refine r_iconst (x := 0) d_X11_equal_96 ⟨by decide, by decide⟩ ?_
                exact r_iret d_X11_equal_97 rfl rfl (Nat.le_refl 0) (Nat.le_refl 0) ⟨_, rfl, rfl, rfl, h⟩
              · have h := h.2 hc
                refine r_iconst (x := 1) d_X11_equal_92 ⟨by decide, by decide⟩ ?_
                refine r_goto (tgt := 97) d_X11_equal_93 rfl ?_
                exact r_iret d_X11_equal_97 rfl rfl (Nat.le_refl 0) (Nat.le_refl 0) ⟨_, rfl, rfl, rfl, h⟩
            · have h := h.2 hc
              refine r_aload_n (x := t) d_X11_equal_72 rfl o_t.1 ?_
              refine r_iload_n (x := v10) d_X11_equal_73 rfl ?_
              refine x_callVI (Y2 := mX11_refused) (c := t) (As := [(0, v10)]) (S := []) d_X11_equal_74 ok_mX11_refused ml_X11_271 rfl (Nat.le_of_ble_eq_true rfl) (Nat.le_of_ble_eq_true rfl) rfl hd_1 kX11 o_t (c_X11_refused (v_X11_refused_0 o_t ?_))
              intro τ13 eτ13
              have h := h τ13 eτ13
              refine ⟨fun hc => ?_, fun hc => ?_⟩
              · have h := h.1 hc
                show WP l mX11_equal (rm d 0 0) noX _ 0 0 77 [(2, t), (0, x1), (0, x2), (0, v10)] [(0, (-4))] N Λ τ13
                exact r_iret d_X11_equal_77 rfl rfl (Nat.le_refl 0) (Nat.le_refl 0) ⟨_, rfl, rfl, rfl, h⟩
              · have h := h.2 hc
                show WP l mX11_equal (rm d 0 0) noX _ 0 0 77 [(2, t), (0, x1), (0, x2), (0, v10)] [(0, (-7))] N Λ τ13
                exact r_iret d_X11_equal_77 rfl rfl (Nat.le_refl 0) (Nat.le_refl 0) ⟨_, rfl, rfl, rfl, h⟩
theorem v_X11_forms_0 {l : Launch} {d N : Nat} {Λ : Lay} {P : Int → Mem → Prop} {σ : Mem} {x1 t t_forms t_now t_now_shelves : Int} (o_t : Ob N Λ t 20 14) (f_t_now : (Λ t).2.2 0 = t_now) (o_t_now : Ob N Λ t_now 16 3) (f_t_now_shelves : (Λ t_now).2.2 0 = t_now_shelves) (f_t_forms : (Λ t).2.2 7 = t_forms) (o_t_forms : Ob N Λ t_forms 13 5) (h0d : 2 ≤ d)
    (h : ((x1 < 0 → P (-2) σ) ∧ (¬ (x1 < 0) → ((6 ≤ x1 → P (-2) σ) ∧ (¬ (6 ≤ x1) → (Ix N Λ t_now_shelves 3 x1 ∧ (∀ b1, b1 = (Λ t_now_shelves).2.2 x1 → (Ob N Λ b1 15 3 ∧ ((¬ (σ b1 2) = 0 → (∀ b2, b2 = (Λ b1).2.2 0 → (Ix N Λ b2 1 0 ∧ (CV l mX3_begin (d - 1 - 1) [(2, t_forms), (1, (σ b2 0)), (0, 1000000)] N Λ σ (fun σ3 => (CI l mX3_fill (d - 1 - 1) [(2, t_forms), (0, 0)] N Λ σ3 (fun v4 σ5 => P (σ5 t_forms 4) σ5))))))) ∧ ((σ b1 2) = 0 → P (-1) σ)))))))))) :
    WI l mX11_forms d P 0 [(2, t), (0, x1), (3, 0)] [] N Λ σ := by
  have hd_1 : 1 ≤ d := Nat.le_trans (by decide) h0d
  have he_1 : 1 ≤ d - 1 := Nat.le_sub_of_add_le (Nat.le_trans (by decide) h0d)
  refine r_iload_n (x := x1) d_X11_forms_0 rfl ?_
  refine x_callSI (Y2 := mX11_isShelf) (As := [(0, x1)]) (S := []) d_X11_forms_1 ok_mX11_isShelf ml_X11_143 rfl (Nat.le_of_ble_eq_true rfl) (Nat.le_of_ble_eq_true rfl) rfl hd_1 (c_X11_isShelf (v_X11_isShelf_0 ?_))
  refine ⟨fun hc => ?_, fun hc => ?_⟩
  · have h := h.1 hc
    show WP l mX11_forms (rm d 0 0) noX _ 0 0 4 [(2, t), (0, x1), (3, 0)] [(0, 0)] N Λ σ
    refine r_if_ne (tgt := 10) d_X11_forms_4 rfl (fun hc => absurd hc (by decide)) (fun _ => ?_)
    refine r_bipush (x := (-2)) d_X11_forms_7 ⟨by decide, by decide⟩ (by decide) ?_
    exact r_iret d_X11_forms_9 rfl rfl (Nat.le_refl 0) (Nat.le_refl 0) ⟨_, rfl, rfl, rfl, h⟩
  · have h := h.2 hc
    refine ⟨fun hc => ?_, fun hc => ?_⟩
    · have h := h.1 hc
      show WP l mX11_forms (rm d 0 0) noX _ 0 0 4 [(2, t), (0, x1), (3, 0)] [(0, 0)] N Λ σ
      refine r_if_ne (tgt := 10) d_X11_forms_4 rfl (fun hc => absurd hc (by decide)) (fun _ => ?_)
      refine r_bipush (x := (-2)) d_X11_forms_7 ⟨by decide, by decide⟩ (by decide) ?_
      exact r_iret d_X11_forms_9 rfl rfl (Nat.le_refl 0) (Nat.le_refl 0) ⟨_, rfl, rfl, rfl, h⟩
    · have h := h.2 hc
      show WP l mX11_forms (rm d 0 0) noX _ 0 0 4 [(2, t), (0, x1), (3, 0)] [(0, 1)] N Λ σ
      refine r_if_ne (tgt := 10) d_X11_forms_4 rfl (fun _ => ?_) (fun hc => absurd hc (by decide))
      refine r_aload_n (x := t) d_X11_forms_10 rfl o_t.1 ?_
      refine r_getf (j := 0) (t := 2) (x := t_now) d_X11_forms_11 kX11 (by decide) fl_X11_10 o_t.1 o_t.2.1 o_t.2.2.1 o_t.2.2.2 rfl f_t_now ?_
      refine r_getf (j := 0) (t := 2) (x := t_now_shelves) d_X11_forms_14 kX7 (by decide) fl_X11_146 o_t_now.1 o_t_now.2.1 o_t_now.2.2.1 o_t_now.2.2.2 rfl f_t_now_shelves ?_
      refine r_iload_n (x := x1) d_X11_forms_17 rfl ?_
      refine x_aald (t := 3) (by decide) d_X11_forms_18 h.1 (fun b1 eb1 => ?_)
      have h := h.2 b1 eb1
      have oob1 := h.1
      have h := h.2
      refine r_astore_n (L2 := [(2, t), (0, x1), (2, b1)]) d_X11_forms_19 (by decide) rfl rfl oob1.1 ?_
      refine r_aload_n (x := b1) d_X11_forms_20 rfl oob1.1 ?_
      refine r_getf (j := 2) (t := 0) (x := (σ b1 2)) d_X11_forms_21 kX5 (by decide) fl_X11_150 oob1.1 oob1.2.1 oob1.2.2.1 oob1.2.2.2 rfl rfl ?_
      refine r_if_ne (tgt := 31) d_X11_forms_24 rfl (fun hc => ?_) (fun hc => ?_)
      · have h := h.1 hc
        refine r_aload_n (x := t) d_X11_forms_31 rfl o_t.1 ?_
        refine r_getf (j := 7) (t := 2) (x := t_forms) d_X11_forms_32 kX11 (by decide) fl_X11_55 o_t.1 o_t.2.1 o_t.2.2.1 o_t.2.2.2 rfl f_t_forms ?_
        refine r_aload_n (x := b1) d_X11_forms_35 rfl oob1.1 ?_
        refine r_nmR (j := 0) d_X11_forms_36 kX5 (by decide) fl_X11_241 oob1 rfl (fun b2 eb2 => ?_)
        have h := h b2 eb2
        refine r_iconst (x := 0) d_X11_forms_39 ⟨by decide, by decide⟩ ?_
        refine x_lald d_X11_forms_40 h.1 ?_
        have h := h.2
        refine x_callVI (Y2 := mX3_countAll) (c := t_forms) (As := [(1, (σ b2 0))]) (S := []) d_X11_forms_41 ok_mX3_countAll ml_X11_278 rfl (Nat.le_of_ble_eq_true rfl) (Nat.le_of_ble_eq_true rfl) rfl hd_1 kX3 o_t_forms (c_X3_countAll (v_X3_countAll_0 o_t_forms he_1 ?_))
        refine CV.mono h (fun σ3 h => ?_)
        refine CI.mono h (fun v4 σ5 h => ?_)
        show WP l mX11_forms (rm d 0 0) noX _ 0 0 44 [(2, t), (0, x1), (2, b1)] [(0, (σ5 t_forms 4))] N Λ σ5
        exact r_iret d_X11_forms_44 rfl rfl (Nat.le_refl 0) (Nat.le_refl 0) ⟨_, rfl, rfl, rfl, h⟩
      · have h := h.2 hc
        refine r_iconst (x := (-1)) d_X11_forms_27 ⟨by decide, by decide⟩ ?_
        refine r_goto (tgt := 44) d_X11_forms_28 rfl ?_
        exact r_iret d_X11_forms_44 rfl rfl (Nat.le_refl 0) (Nat.le_refl 0) ⟨_, rfl, rfl, rfl, h⟩
theorem v_X11_form_0 {l : Launch} {d N : Nat} {Λ : Lay} {P : Int → Mem → Prop} {σ : Mem} {x1 x2 x3 t t_forms t_forms_cells t_now t_now_shelves : Int} (o_t : Ob N Λ t 20 14) (f_t_now : (Λ t).2.2 0 = t_now) (o_t_now : Ob N Λ t_now 16 3) (f_t_now_shelves : (Λ t_now).2.2 0 = t_now_shelves) (f_t_forms : (Λ t).2.2 7 = t_forms) (o_t_forms : Ob N Λ t_forms 13 5) (f_t_forms_cells : (Λ t_forms).2.2 1 = t_forms_cells) (h0d : 2 ≤ d)
    (h : ((x1 < 0 → P (-2) σ) ∧ (¬ (x1 < 0) → ((6 ≤ x1 → P (-2) σ) ∧ (¬ (6 ≤ x1) → ((x2 < 0 → P (-3) σ) ∧ (¬ (x2 < 0) → ((0 ≤ x3 → (Ix N Λ t_now_shelves 3 x1 ∧ (∀ b1, b1 = (Λ t_now_shelves).2.2 x1 → (Ob N Λ b1 15 3 ∧ ((¬ (σ b1 2) = 0 → (∀ b2, b2 = (Λ b1).2.2 0 → (Ix N Λ b2 1 0 ∧ (CV l mX3_begin (d - 1 - 1) [(2, t_forms), (1, (σ b2 0)), (0, x2)] N Λ σ (fun σ3 => (((σ3 t_forms 2) ≤ x3 → P (-1) σ3) ∧ (¬ ((σ3 t_forms 2) ≤ x3) → (CI l mX3_fill (d - 1 - 1) [(2, t_forms), (0, 0)] N Λ σ3 (fun v4 σ5 => ((¬ v4 = 0 → (Ix N Λ t_forms_cells 0 x3 ∧ P (σ5 t_forms_cells x3) σ5)) ∧ (v4 = 0 → P (-1) σ5))))))))))) ∧ ((σ b1 2) = 0 → P (-1) σ)))))) ∧ (¬ (0 ≤ x3) → P (-3) σ))))))))) :
    WI l mX11_form d P 0 [(2, t), (0, x1), (0, x2), (0, x3), (3, 0)] [] N Λ σ := by
  have hd_1 : 1 ≤ d := Nat.le_trans (by decide) h0d
  have he_1 : 1 ≤ d - 1 := Nat.le_sub_of_add_le (Nat.le_trans (by decide) h0d)
  refine r_iload_n (x := x1) d_X11_form_0 rfl ?_
  refine x_callSI (Y2 := mX11_isShelf) (As := [(0, x1)]) (S := []) d_X11_form_1 ok_mX11_isShelf ml_X11_143 rfl (Nat.le_of_ble_eq_true rfl) (Nat.le_of_ble_eq_true rfl) rfl hd_1 (c_X11_isShelf (v_X11_isShelf_0 ?_))
  refine ⟨fun hc => ?_, fun hc => ?_⟩
  · have h := h.1 hc
    show WP l mX11_form (rm d 0 0) noX _ 0 0 4 [(2, t), (0, x1), (0, x2), (0, x3), (3, 0)] [(0, 0)] N Λ σ
    refine r_if_ne (tgt := 10) d_X11_form_4 rfl (fun hc => absurd hc (by decide)) (fun _ => ?_)
    refine r_bipush (x := (-2)) d_X11_form_7 ⟨by decide, by decide⟩ (by decide) ?_
    exact r_iret d_X11_form_9 rfl rfl (Nat.le_refl 0) (Nat.le_refl 0) ⟨_, rfl, rfl, rfl, h⟩
  · have h := h.2 hc
    refine ⟨fun hc => ?_, fun hc => ?_⟩
    · have h := h.1 hc
      show WP l mX11_form (rm d 0 0) noX _ 0 0 4 [(2, t), (0, x1), (0, x2), (0, x3), (3, 0)] [(0, 0)] N Λ σ
      refine r_if_ne (tgt := 10) d_X11_form_4 rfl (fun hc => absurd hc (by decide)) (fun _ => ?_)
      refine r_bipush (x := (-2)) d_X11_form_7 ⟨by decide, by decide⟩ (by decide) ?_
      exact r_iret d_X11_form_9 rfl rfl (Nat.le_refl 0) (Nat.le_refl 0) ⟨_, rfl, rfl, rfl, h⟩
    · have h := h.2 hc
      show WP l mX11_form (rm d 0 0) noX _ 0 0 4 [(2, t), (0, x1), (0, x2), (0, x3), (3, 0)] [(0, 1)] N Λ σ
      refine r_if_ne (tgt := 10) d_X11_form_4 rfl (fun _ => ?_) (fun hc => absurd hc (by decide))
      refine r_iload_n (x := x2) d_X11_form_10 rfl ?_
      refine r_if_lt (tgt := 18) d_X11_form_11 rfl (fun hc => ?_) (fun hc => ?_)
      · have h := h.1 hc
        refine r_bipush (x := (-3)) d_X11_form_18 ⟨by decide, by decide⟩ (by decide) ?_
        exact r_iret d_X11_form_20 rfl rfl (Nat.le_refl 0) (Nat.le_refl 0) ⟨_, rfl, rfl, rfl, h⟩
      · have h := h.2 hc
        refine r_iload_n (x := x3) d_X11_form_14 rfl ?_
        refine r_if_ge (tgt := 21) d_X11_form_15 rfl (fun hc => ?_) (fun hc => ?_)
        · have h := h.1 hc
          refine r_aload_n (x := t) d_X11_form_21 rfl o_t.1 ?_
          refine r_getf (j := 0) (t := 2) (x := t_now) d_X11_form_22 kX11 (by decide) fl_X11_10 o_t.1 o_t.2.1 o_t.2.2.1 o_t.2.2.2 rfl f_t_now ?_
          refine r_getf (j := 0) (t := 2) (x := t_now_shelves) d_X11_form_25 kX7 (by decide) fl_X11_146 o_t_now.1 o_t_now.2.1 o_t_now.2.2.1 o_t_now.2.2.2 rfl f_t_now_shelves ?_
          refine r_iload_n (x := x1) d_X11_form_28 rfl ?_
          refine x_aald (t := 3) (by decide) d_X11_form_29 h.1 (fun b1 eb1 => ?_)
          have h := h.2 b1 eb1
          have oob1 := h.1
          have h := h.2
          refine r_astore (L2 := [(2, t), (0, x1), (0, x2), (0, x3), (2, b1)]) d_X11_form_30 (by decide) rfl rfl oob1.1 ?_
          refine r_aload (x := b1) d_X11_form_32 rfl oob1.1 ?_
          refine r_getf (j := 2) (t := 0) (x := (σ b1 2)) d_X11_form_34 kX5 (by decide) fl_X11_150 oob1.1 oob1.2.1 oob1.2.2.1 oob1.2.2.2 rfl rfl ?_
          refine r_if_ne (tgt := 44) d_X11_form_37 rfl (fun hc => ?_) (fun hc => ?_)
          · have h := h.1 hc
            refine r_aload_n (x := t) d_X11_form_44 rfl o_t.1 ?_
            refine r_getf (j := 7) (t := 2) (x := t_forms) d_X11_form_45 kX11 (by decide) fl_X11_55 o_t.1 o_t.2.1 o_t.2.2.1 o_t.2.2.2 rfl f_t_forms ?_
            refine r_aload (x := b1) d_X11_form_48 rfl oob1.1 ?_
            refine r_nmR (j := 0) d_X11_form_50 kX5 (by decide) fl_X11_241 oob1 rfl (fun b2 eb2 => ?_)
            have h := h b2 eb2
            refine r_iconst (x := 0) d_X11_form_53 ⟨by decide, by decide⟩ ?_
            refine x_lald d_X11_form_54 h.1 ?_
            have h := h.2
            refine r_iload_n (x := x2) d_X11_form_55 rfl ?_
            refine r_iload_n (x := x3) d_X11_form_56 rfl ?_
            refine x_callVI (Y2 := mX3_letterOf) (c := t_forms) (As := [(1, (σ b2 0)), (0, x2), (0, x3)]) (S := []) d_X11_form_57 ok_mX3_letterOf ml_X11_281 rfl (Nat.le_of_ble_eq_true rfl) (Nat.le_of_ble_eq_true rfl) rfl hd_1 kX3 o_t_forms (c_X3_letterOf (v_X3_letterOf_0 o_t_forms f_t_forms_cells he_1 ?_))
            refine CV.mono h (fun σ3 h => ?_)
            refine ⟨fun hc => ?_, fun hc => ?_⟩
            · have h := h.1 hc
              show WP l mX11_form (rm d 0 0) noX _ 0 0 60 [(2, t), (0, x1), (0, x2), (0, x3), (2, b1)] [(0, (-1))] N Λ σ3
              exact r_iret d_X11_form_60 rfl rfl (Nat.le_refl 0) (Nat.le_refl 0) ⟨_, rfl, rfl, rfl, h⟩
            · have h := h.2 hc
              refine CI.mono h (fun v4 σ5 h => ?_)
              refine ⟨fun hc => ?_, fun hc => ?_⟩
              · have h := h.1 hc
                refine ⟨h.1, ?_⟩
                have h := h.2
                show WP l mX11_form (rm d 0 0) noX _ 0 0 60 [(2, t), (0, x1), (0, x2), (0, x3), (2, b1)] [(0, (σ5 t_forms_cells x3))] N Λ σ5
                exact r_iret d_X11_form_60 rfl rfl (Nat.le_refl 0) (Nat.le_refl 0) ⟨_, rfl, rfl, rfl, h⟩
              · have h := h.2 hc
                show WP l mX11_form (rm d 0 0) noX _ 0 0 60 [(2, t), (0, x1), (0, x2), (0, x3), (2, b1)] [(0, (-1))] N Λ σ5
                exact r_iret d_X11_form_60 rfl rfl (Nat.le_refl 0) (Nat.le_refl 0) ⟨_, rfl, rfl, rfl, h⟩
          · have h := h.2 hc
            refine r_iconst (x := (-1)) d_X11_form_40 ⟨by decide, by decide⟩ ?_
            refine r_goto (tgt := 60) d_X11_form_41 rfl ?_
            exact r_iret d_X11_form_60 rfl rfl (Nat.le_refl 0) (Nat.le_refl 0) ⟨_, rfl, rfl, rfl, h⟩
        · have h := h.2 hc
          refine r_bipush (x := (-3)) d_X11_form_18 ⟨by decide, by decide⟩ (by decide) ?_
          exact r_iret d_X11_form_20 rfl rfl (Nat.le_refl 0) (Nat.le_refl 0) ⟨_, rfl, rfl, rfl, h⟩
theorem v_X11_rank_0 {l : Launch} {d N : Nat} {Λ : Lay} {P : Int → Mem → Prop} {σ : Mem} {x1 t t_elimination : Int} (o_t : Ob N Λ t 20 14) (f_t_elimination : (Λ t).2.2 8 = t_elimination) (o_t_elimination : Ob N Λ t_elimination 10 4) (h0d : 1 ≤ d)
    (h : (∀ τ1, τ1 = st σ t 13 0 → ((x1 < 0 → P (-2) τ1) ∧ (¬ (x1 < 0) → ((x1 < 64 → (∀ τ2, τ2 = st τ1 t_elimination 2 0 → (∀ τ3, τ3 = st τ2 t_elimination 3 0 → WI l mX11_rank d P 27 [(2, t), (0, x1), (0, 0), (3, 0)] [] N Λ τ3))) ∧ (¬ (x1 < 64) → P (-2) τ1)))))) :
    WI l mX11_rank d P 0 [(2, t), (0, x1), (3, 0), (3, 0)] [] N Λ σ := by
  have hd_1 : 1 ≤ d := Nat.le_trans (by decide) h0d
  refine r_aload_n (x := t) d_X11_rank_0 rfl o_t.1 ?_
  refine r_iconst (x := 0) d_X11_rank_1 ⟨by decide, by decide⟩ ?_
  refine r_putI (j := 13) d_X11_rank_2 kX11 (by decide) fl_X11_90 rfl o_t.1 o_t.2.1 o_t.2.2.1 o_t.2.2.2 rfl ?_
  refine r_nmM (fun τ1 eτ1 => ?_)
  have h := h τ1 eτ1
  refine r_iload_n (x := x1) d_X11_rank_5 rfl ?_
  refine r_if_lt (tgt := 15) d_X11_rank_6 rfl (fun hc => ?_) (fun hc => ?_)
  · have h := h.1 hc
    refine r_bipush (x := (-2)) d_X11_rank_15 ⟨by decide, by decide⟩ (by decide) ?_
    exact r_iret d_X11_rank_17 rfl rfl (Nat.le_refl 0) (Nat.le_refl 0) ⟨_, rfl, rfl, rfl, h⟩
  · have h := h.2 hc
    refine r_iload_n (x := x1) d_X11_rank_9 rfl ?_
    refine r_bipush (x := 64) d_X11_rank_10 ⟨by decide, by decide⟩ (by decide) ?_
    refine r_ic_lt (tgt := 18) d_X11_rank_12 rfl (fun hc => ?_) (fun hc => ?_)
    · have h := h.1 hc
      refine r_aload_n (x := t) d_X11_rank_18 rfl o_t.1 ?_
      refine r_getf (j := 8) (t := 2) (x := t_elimination) d_X11_rank_19 kX11 (by decide) fl_X11_62 o_t.1 o_t.2.1 o_t.2.2.1 o_t.2.2.2 rfl f_t_elimination ?_
      refine x_callVV (Y2 := mX0_begin) (c := t_elimination) (As := []) (S := []) d_X11_rank_22 ok_mX0_begin ml_X11_285 rfl (Nat.le_of_ble_eq_true rfl) (Nat.le_of_ble_eq_true rfl) rfl hd_1 kX0 o_t_elimination (c_X0_begin (v_X0_begin_0 o_t_elimination ?_))
      intro τ2 eτ2
      have h := h τ2 eτ2
      intro τ3 eτ3
      have h := h τ3 eτ3
      show WP l mX11_rank (rm d 0 0) noX _ 0 0 25 [(2, t), (0, x1), (3, 0), (3, 0)] [] N Λ τ3
      refine r_iconst (x := 0) d_X11_rank_25 ⟨by decide, by decide⟩ ?_
      refine r_istore_n (L2 := [(2, t), (0, x1), (0, 0), (3, 0)]) d_X11_rank_26 (by decide) rfl rfl ?_
      exact h
    · have h := h.2 hc
      refine r_bipush (x := (-2)) d_X11_rank_15 ⟨by decide, by decide⟩ (by decide) ?_
      exact r_iret d_X11_rank_17 rfl rfl (Nat.le_refl 0) (Nat.le_refl 0) ⟨_, rfl, rfl, rfl, h⟩
theorem v_X11_rank_27 {l : Launch} {d N : Nat} {Λ : Lay} {P : Int → Mem → Prop} {σ : Mem} {x1 x2 t t_elimination t_now t_now_shelves t_straightener t_work : Int} (o_t : Ob N Λ t 20 14) (f_t_elimination : (Λ t).2.2 8 = t_elimination) (o_t_elimination : Ob N Λ t_elimination 10 4) (f_t_straightener : (Λ t).2.2 5 = t_straightener) (f_t_now : (Λ t).2.2 0 = t_now) (o_t_now : Ob N Λ t_now 16 3) (f_t_now_shelves : (Λ t_now).2.2 0 = t_now_shelves) (f_t_work : (Λ t).2.2 11 = t_work) (o_t_straightener : Ob N Λ t_straightener 17 2) (h0d : 1 ≤ d)
    (h : ((6 ≤ x2 → (CI l mX0_independentRows (d - 1) [(2, t_elimination)] N Λ σ (fun v2 σ1 => P v2 σ1))) ∧ (¬ (6 ≤ x2) → ((¬ (andI (shrI x1 x2) 1) = 1 → (∀ y3, y3 = addI x2 1 → WI l mX11_rank d P 27 [(2, t), (0, x1), (0, y3), (3, 0)] [] N Λ σ)) ∧ ((andI (shrI x1 x2) 1) = 1 → (Ix N Λ t_now_shelves 3 x2 ∧ (∀ b4, b4 = (Λ t_now_shelves).2.2 x2 → (Ob N Λ b4 15 3 ∧ (CI l mX8_straighten (d - 1) [(2, t_straightener), (2, b4), (2, t_work)] N Λ σ (fun v6 σ5 => ((v6 = 0 → (CV l mX0_takeRow (d - 1) [(2, t_elimination), (2, t_work)] N Λ σ5 (fun σ7 => (∀ y8, y8 = addI x2 1 → WI l mX11_rank d P 27 [(2, t), (0, x1), (0, y8), (3, 0)] [] N Λ σ7)))) ∧ (¬ (v6 = 0) → (∀ τ9, τ9 = st σ5 t 13 v6 → ((¬ v6 = 4 → P (-4) τ9) ∧ (v6 = 4 → P (-7) τ9))))))))))))))) :
    WI l mX11_rank d P 27 [(2, t), (0, x1), (0, x2), (3, 0)] [] N Λ σ := by
  have hd_1 : 1 ≤ d := Nat.le_trans (by decide) h0d
  refine r_iload_n (x := x2) d_X11_rank_27 rfl ?_
  refine r_bipush (x := 6) d_X11_rank_28 ⟨by decide, by decide⟩ (by decide) ?_
  refine r_ic_ge (tgt := 90) d_X11_rank_30 rfl (fun hc => ?_) (fun hc => ?_)
  · have h := h.1 hc
    refine r_aload_n (x := t) d_X11_rank_90 rfl o_t.1 ?_
    refine r_getf (j := 8) (t := 2) (x := t_elimination) d_X11_rank_91 kX11 (by decide) fl_X11_62 o_t.1 o_t.2.1 o_t.2.2.1 o_t.2.2.2 rfl f_t_elimination ?_
    refine x_callVI (Y2 := mX0_independentRows) (c := t_elimination) (As := []) (S := []) d_X11_rank_94 ok_mX0_independentRows ml_X11_289 rfl (Nat.le_of_ble_eq_true rfl) (Nat.le_of_ble_eq_true rfl) rfl hd_1 kX0 o_t_elimination (CI.mono h (fun v2 σ1 h => ?_))
    exact r_iret d_X11_rank_97 rfl rfl (Nat.le_refl 0) (Nat.le_refl 0) ⟨_, rfl, rfl, rfl, h⟩
  · have h := h.2 hc
    refine r_iload_n (x := x1) d_X11_rank_33 rfl ?_
    refine r_iload_n (x := x2) d_X11_rank_34 rfl ?_
    refine r_ishr d_X11_rank_35 ?_
    refine r_iconst (x := 1) d_X11_rank_36 ⟨by decide, by decide⟩ ?_
    refine r_iand d_X11_rank_37 ?_
    refine r_iconst (x := 1) d_X11_rank_38 ⟨by decide, by decide⟩ ?_
    refine r_ic_ne (tgt := 84) d_X11_rank_39 rfl (fun hc => ?_) (fun hc => ?_)
    · have h := h.1 hc
      refine x_iinc (x := x2) (L := [(2, t), (0, x1), (0, x2), (3, 0)]) d_X11_rank_84 rfl (by decide) rfl (fun y3 ey3 => ?_)
      have h := h y3 ey3
      show WP _ _ _ _ _ _ _ _ [(2, t), (0, x1), (0, y3), (3, 0)] _ _ _ _
      refine r_goto (tgt := 27) d_X11_rank_87 rfl ?_
      exact h
    · have h := h.2 hc
      refine r_aload_n (x := t) d_X11_rank_42 rfl o_t.1 ?_
      refine r_getf (j := 5) (t := 2) (x := t_straightener) d_X11_rank_43 kX11 (by decide) fl_X11_41 o_t.1 o_t.2.1 o_t.2.2.1 o_t.2.2.2 rfl f_t_straightener ?_
      refine r_aload_n (x := t) d_X11_rank_46 rfl o_t.1 ?_
      refine r_getf (j := 0) (t := 2) (x := t_now) d_X11_rank_47 kX11 (by decide) fl_X11_10 o_t.1 o_t.2.1 o_t.2.2.1 o_t.2.2.2 rfl f_t_now ?_
      refine r_getf (j := 0) (t := 2) (x := t_now_shelves) d_X11_rank_50 kX7 (by decide) fl_X11_146 o_t_now.1 o_t_now.2.1 o_t_now.2.2.1 o_t_now.2.2.2 rfl f_t_now_shelves ?_
      refine r_iload_n (x := x2) d_X11_rank_53 rfl ?_
      refine x_aald (t := 3) (by decide) d_X11_rank_54 h.1 (fun b4 eb4 => ?_)
      have h := h.2 b4 eb4
      have oob4 := h.1
      have h := h.2
      refine r_aload_n (x := t) d_X11_rank_55 rfl o_t.1 ?_
      refine r_getf (j := 11) (t := 2) (x := t_work) d_X11_rank_56 kX11 (by decide) fl_X11_83 o_t.1 o_t.2.1 o_t.2.2.1 o_t.2.2.2 rfl f_t_work ?_
      refine x_callVI (Y2 := mX8_straighten) (c := t_straightener) (As := [(2, b4), (2, t_work)]) (S := []) d_X11_rank_59 ok_mX8_straighten ml_X11_212 rfl (Nat.le_of_ble_eq_true rfl) (Nat.le_of_ble_eq_true rfl) rfl hd_1 kX8 o_t_straightener (CI.mono h (fun v6 σ5 h => ?_))
      refine r_istore_n (L2 := [(2, t), (0, x1), (0, x2), (0, v6)]) d_X11_rank_62 (by decide) rfl rfl ?_
      refine r_iload_n (x := v6) d_X11_rank_63 rfl ?_
      refine r_if_eq (tgt := 73) d_X11_rank_64 rfl (fun hc => ?_) (fun hc => ?_)
      · have h := h.1 hc
        refine r_aload_n (x := t) d_X11_rank_73 rfl o_t.1 ?_
        refine r_getf (j := 8) (t := 2) (x := t_elimination) d_X11_rank_74 kX11 (by decide) fl_X11_62 o_t.1 o_t.2.1 o_t.2.2.1 o_t.2.2.2 rfl f_t_elimination ?_
        refine r_aload_n (x := t) d_X11_rank_77 rfl o_t.1 ?_
        refine r_getf (j := 11) (t := 2) (x := t_work) d_X11_rank_78 kX11 (by decide) fl_X11_83 o_t.1 o_t.2.1 o_t.2.2.1 o_t.2.2.2 rfl f_t_work ?_
        refine x_callVV (Y2 := mX0_takeRow) (c := t_elimination) (As := [(2, t_work)]) (S := []) d_X11_rank_81 ok_mX0_takeRow ml_X11_286 rfl (Nat.le_of_ble_eq_true rfl) (Nat.le_of_ble_eq_true rfl) rfl hd_1 kX0 o_t_elimination (CV.mono h (fun σ7 h => ?_))
        refine x_iinc (x := x2) (L := [(2, t), (0, x1), (0, x2), (0, v6)]) d_X11_rank_84 rfl (by decide) rfl (fun y8 ey8 => ?_)
        have h := h y8 ey8
        show WP _ _ _ _ _ _ _ _ [(2, t), (0, x1), (0, y8), (0, v6)] _ _ _ _
        refine r_goto (tgt := 27) d_X11_rank_87 rfl ?_
        exact x_mask h ⟨Or.inr rfl, Or.inr rfl, Or.inr rfl, Or.inl rfl, trivial⟩
      · have h := h.2 hc
        refine r_aload_n (x := t) d_X11_rank_67 rfl o_t.1 ?_
        refine r_iload_n (x := v6) d_X11_rank_68 rfl ?_
        refine x_callVI (Y2 := mX11_refused) (c := t) (As := [(0, v6)]) (S := []) d_X11_rank_69 ok_mX11_refused ml_X11_271 rfl (Nat.le_of_ble_eq_true rfl) (Nat.le_of_ble_eq_true rfl) rfl hd_1 kX11 o_t (c_X11_refused (v_X11_refused_0 o_t ?_))
        intro τ9 eτ9
        have h := h τ9 eτ9
        refine ⟨fun hc => ?_, fun hc => ?_⟩
        · have h := h.1 hc
          show WP l mX11_rank (rm d 0 0) noX _ 0 0 72 [(2, t), (0, x1), (0, x2), (0, v6)] [(0, (-4))] N Λ τ9
          exact r_iret d_X11_rank_72 rfl rfl (Nat.le_refl 0) (Nat.le_refl 0) ⟨_, rfl, rfl, rfl, h⟩
        · have h := h.2 hc
          show WP l mX11_rank (rm d 0 0) noX _ 0 0 72 [(2, t), (0, x1), (0, x2), (0, v6)] [(0, (-7))] N Λ τ9
          exact r_iret d_X11_rank_72 rfl rfl (Nat.le_refl 0) (Nat.le_refl 0) ⟨_, rfl, rfl, rfl, h⟩
theorem v_X11_factor_0 {l : Launch} {d N : Nat} {Λ : Lay} {P : Int → Mem → Prop} {σ : Mem} {x1 x2 t t_factors t_factors_letters t_factors_row t_now t_now_shelves t_straightener t_work : Int} (o_t : Ob N Λ t 20 14) (f_t_now : (Λ t).2.2 0 = t_now) (o_t_now : Ob N Λ t_now 16 3) (f_t_now_shelves : (Λ t_now).2.2 0 = t_now_shelves) (f_t_factors : (Λ t).2.2 9 = t_factors) (o_t_factors : Ob N Λ t_factors 11 6) (f_t_straightener : (Λ t).2.2 5 = t_straightener) (f_t_work : (Λ t).2.2 11 = t_work) (o_t_straightener : Ob N Λ t_straightener 17 2) (f_t_factors_letters : (Λ t_factors).2.2 1 = t_factors_letters) (f_t_factors_row : (Λ t_factors).2.2 2 = t_factors_row) (h0d : 1 ≤ d)
    (h : (∀ τ1, τ1 = st σ t 13 0 → ((x1 < 0 → P (-2) τ1) ∧ (¬ (x1 < 0) → ((6 ≤ x1 → P (-2) τ1) ∧ (¬ (6 ≤ x1) → ((x2 < 0 → P (-2) τ1) ∧ (¬ (x2 < 0) → ((x2 ≤ 6 → (Ix N Λ t_now_shelves 3 x1 ∧ (∀ b2, b2 = (Λ t_now_shelves).2.2 x1 → (Ob N Λ b2 15 3 ∧ (((τ1 b2 2) = 0 → P 0 τ1) ∧ (¬ ((τ1 b2 2) = 0) → (∀ b3, b3 = (Λ b2).2.2 0 → (Ix N Λ b3 1 0 ∧ (CI l mX1_takeLetters (d - 1) [(2, t_factors), (1, (τ1 b3 0))] N Λ τ1 (fun v5 σ4 => ((¬ v5 = 0 → (Ix N Λ t_now_shelves 3 x1 ∧ (∀ b6, b6 = (Λ t_now_shelves).2.2 x1 → (Ob N Λ b6 15 3 ∧ (CI l mX8_straighten (d - 1) [(2, t_straightener), (2, b6), (2, t_work)] N Λ σ4 (fun v8 σ7 => ((v8 = 0 → (CI l mX1_search (d - 1) [(2, t_factors), (2, t_work)] N Λ σ7 (fun v10 σ9 => ((¬ v10 = 0 → ((¬ x2 = 0 → (((subI x2 1) < 0 → P (addI (-1) 1) σ9) ∧ (¬ ((subI x2 1) < 0) → (((subI x2 1) < 6 → (Ix N Λ t_factors_row 0 (subI x2 1) ∧ (Ix N Λ t_factors_letters 0 (σ9 t_factors_row (subI x2 1)) ∧ P (addI (σ9 t_factors_letters (σ9 t_factors_row (subI x2 1))) 1) σ9))) ∧ (¬ ((subI x2 1) < 6) → P (addI (-1) 1) σ9))))) ∧ (x2 = 0 → P (σ9 t_factors 0) σ9))) ∧ (v10 = 0 → P 0 σ9))))) ∧ (¬ (v8 = 0) → (∀ τ11, τ11 = st σ7 t 13 v8 → ((¬ v8 = 4 → P (-4) τ11) ∧ (v8 = 4 → P (-7) τ11))))))))))) ∧ (v5 = 0 → P 0 σ4)))))))))))) ∧ (¬ (x2 ≤ 6) → P (-2) τ1)))))))))) :
    WI l mX11_factor d P 0 [(2, t), (0, x1), (0, x2), (3, 0), (3, 0)] [] N Λ σ := by
  have hd_1 : 1 ≤ d := Nat.le_trans (by decide) h0d
  refine r_aload_n (x := t) d_X11_factor_0 rfl o_t.1 ?_
  refine r_iconst (x := 0) d_X11_factor_1 ⟨by decide, by decide⟩ ?_
  refine r_putI (j := 13) d_X11_factor_2 kX11 (by decide) fl_X11_90 rfl o_t.1 o_t.2.1 o_t.2.2.1 o_t.2.2.2 rfl ?_
  refine r_nmM (fun τ1 eτ1 => ?_)
  have h := h τ1 eτ1
  refine r_iload_n (x := x1) d_X11_factor_5 rfl ?_
  refine x_callSI (Y2 := mX11_isShelf) (As := [(0, x1)]) (S := []) d_X11_factor_6 ok_mX11_isShelf ml_X11_143 rfl (Nat.le_of_ble_eq_true rfl) (Nat.le_of_ble_eq_true rfl) rfl hd_1 (c_X11_isShelf (v_X11_isShelf_0 ?_))
  refine ⟨fun hc => ?_, fun hc => ?_⟩
  · have h := h.1 hc
    show WP l mX11_factor (rm d 0 0) noX _ 0 0 9 [(2, t), (0, x1), (0, x2), (3, 0), (3, 0)] [(0, 0)] N Λ τ1
    refine r_if_eq (tgt := 22) d_X11_factor_9 rfl (fun _ => ?_) (fun hc => absurd hc (by decide))
    refine r_bipush (x := (-2)) d_X11_factor_22 ⟨by decide, by decide⟩ (by decide) ?_
    exact r_iret d_X11_factor_24 rfl rfl (Nat.le_refl 0) (Nat.le_refl 0) ⟨_, rfl, rfl, rfl, h⟩
  · have h := h.2 hc
    refine ⟨fun hc => ?_, fun hc => ?_⟩
    · have h := h.1 hc
      show WP l mX11_factor (rm d 0 0) noX _ 0 0 9 [(2, t), (0, x1), (0, x2), (3, 0), (3, 0)] [(0, 0)] N Λ τ1
      refine r_if_eq (tgt := 22) d_X11_factor_9 rfl (fun _ => ?_) (fun hc => absurd hc (by decide))
      refine r_bipush (x := (-2)) d_X11_factor_22 ⟨by decide, by decide⟩ (by decide) ?_
      exact r_iret d_X11_factor_24 rfl rfl (Nat.le_refl 0) (Nat.le_refl 0) ⟨_, rfl, rfl, rfl, h⟩
    · have h := h.2 hc
      show WP l mX11_factor (rm d 0 0) noX _ 0 0 9 [(2, t), (0, x1), (0, x2), (3, 0), (3, 0)] [(0, 1)] N Λ τ1
      refine r_if_eq (tgt := 22) d_X11_factor_9 rfl (fun hc => absurd hc (by decide)) (fun _ => ?_)
      refine r_iload_n (x := x2) d_X11_factor_12 rfl ?_
      refine r_if_lt (tgt := 22) d_X11_factor_13 rfl (fun hc => ?_) (fun hc => ?_)
      · have h := h.1 hc
        refine r_bipush (x := (-2)) d_X11_factor_22 ⟨by decide, by decide⟩ (by decide) ?_
        exact r_iret d_X11_factor_24 rfl rfl (Nat.le_refl 0) (Nat.le_refl 0) ⟨_, rfl, rfl, rfl, h⟩
      · have h := h.2 hc
        refine r_iload_n (x := x2) d_X11_factor_16 rfl ?_
        refine r_bipush (x := 6) d_X11_factor_17 ⟨by decide, by decide⟩ (by decide) ?_
        refine r_ic_le (tgt := 25) d_X11_factor_19 rfl (fun hc => ?_) (fun hc => ?_)
        · have h := h.1 hc
          refine r_aload_n (x := t) d_X11_factor_25 rfl o_t.1 ?_
          refine r_getf (j := 0) (t := 2) (x := t_now) d_X11_factor_26 kX11 (by decide) fl_X11_10 o_t.1 o_t.2.1 o_t.2.2.1 o_t.2.2.2 rfl f_t_now ?_
          refine r_getf (j := 0) (t := 2) (x := t_now_shelves) d_X11_factor_29 kX7 (by decide) fl_X11_146 o_t_now.1 o_t_now.2.1 o_t_now.2.2.1 o_t_now.2.2.2 rfl f_t_now_shelves ?_
          refine r_iload_n (x := x1) d_X11_factor_32 rfl ?_
          refine x_aald (t := 3) (by decide) d_X11_factor_33 h.1 (fun b2 eb2 => ?_)
          have h := h.2 b2 eb2
          have oob2 := h.1
          have h := h.2
          refine r_astore_n (L2 := [(2, t), (0, x1), (0, x2), (2, b2), (3, 0)]) d_X11_factor_34 (by decide) rfl rfl oob2.1 ?_
          refine r_aload_n (x := b2) d_X11_factor_35 rfl oob2.1 ?_
          refine r_getf (j := 2) (t := 0) (x := (τ1 b2 2)) d_X11_factor_36 kX5 (by decide) fl_X11_150 oob2.1 oob2.2.1 oob2.2.2.1 oob2.2.2.2 rfl rfl ?_
          refine r_if_eq (tgt := 58) d_X11_factor_39 rfl (fun hc => ?_) (fun hc => ?_)
          · have h := h.1 hc
            refine r_iconst (x := 0) d_X11_factor_58 ⟨by decide, by decide⟩ ?_
            exact r_iret d_X11_factor_59 rfl rfl (Nat.le_refl 0) (Nat.le_refl 0) ⟨_, rfl, rfl, rfl, h⟩
          · have h := h.2 hc
            refine r_aload_n (x := t) d_X11_factor_42 rfl o_t.1 ?_
            refine r_getf (j := 9) (t := 2) (x := t_factors) d_X11_factor_43 kX11 (by decide) fl_X11_69 o_t.1 o_t.2.1 o_t.2.2.1 o_t.2.2.2 rfl f_t_factors ?_
            refine r_aload_n (x := b2) d_X11_factor_46 rfl oob2.1 ?_
            refine r_nmR (j := 0) d_X11_factor_47 kX5 (by decide) fl_X11_241 oob2 rfl (fun b3 eb3 => ?_)
            have h := h b3 eb3
            refine r_iconst (x := 0) d_X11_factor_50 ⟨by decide, by decide⟩ ?_
            refine x_lald d_X11_factor_51 h.1 ?_
            have h := h.2
            refine x_callVI (Y2 := mX1_takeLetters) (c := t_factors) (As := [(1, (τ1 b3 0))]) (S := []) d_X11_factor_52 ok_mX1_takeLetters ml_X11_292 rfl (Nat.le_of_ble_eq_true rfl) (Nat.le_of_ble_eq_true rfl) rfl hd_1 kX1 o_t_factors (CI.mono h (fun v5 σ4 h => ?_))
            refine r_if_ne (tgt := 60) d_X11_factor_55 rfl (fun hc => ?_) (fun hc => ?_)
            · have h := h.1 hc
              refine r_aload_n (x := t) d_X11_factor_60 rfl o_t.1 ?_
              refine r_getf (j := 5) (t := 2) (x := t_straightener) d_X11_factor_61 kX11 (by decide) fl_X11_41 o_t.1 o_t.2.1 o_t.2.2.1 o_t.2.2.2 rfl f_t_straightener ?_
              refine r_aload_n (x := t) d_X11_factor_64 rfl o_t.1 ?_
              refine r_getf (j := 0) (t := 2) (x := t_now) d_X11_factor_65 kX11 (by decide) fl_X11_10 o_t.1 o_t.2.1 o_t.2.2.1 o_t.2.2.2 rfl f_t_now ?_
              refine r_getf (j := 0) (t := 2) (x := t_now_shelves) d_X11_factor_68 kX7 (by decide) fl_X11_146 o_t_now.1 o_t_now.2.1 o_t_now.2.2.1 o_t_now.2.2.2 rfl f_t_now_shelves ?_
              refine r_iload_n (x := x1) d_X11_factor_71 rfl ?_
              refine x_aald (t := 3) (by decide) d_X11_factor_72 h.1 (fun b6 eb6 => ?_)
              have h := h.2 b6 eb6
              have oob6 := h.1
              have h := h.2
              refine r_aload_n (x := t) d_X11_factor_73 rfl o_t.1 ?_
              refine r_getf (j := 11) (t := 2) (x := t_work) d_X11_factor_74 kX11 (by decide) fl_X11_83 o_t.1 o_t.2.1 o_t.2.2.1 o_t.2.2.2 rfl f_t_work ?_
              refine x_callVI (Y2 := mX8_straighten) (c := t_straightener) (As := [(2, b6), (2, t_work)]) (S := []) d_X11_factor_77 ok_mX8_straighten ml_X11_212 rfl (Nat.le_of_ble_eq_true rfl) (Nat.le_of_ble_eq_true rfl) rfl hd_1 kX8 o_t_straightener (CI.mono h (fun v8 σ7 h => ?_))
              refine r_istore (L2 := [(2, t), (0, x1), (0, x2), (2, b2), (0, v8)]) d_X11_factor_80 (by decide) rfl rfl ?_
              refine r_iload (x := v8) d_X11_factor_82 rfl ?_
              refine r_if_eq (tgt := 94) d_X11_factor_84 rfl (fun hc => ?_) (fun hc => ?_)
              · have h := h.1 hc
                refine r_aload_n (x := t) d_X11_factor_94 rfl o_t.1 ?_
                refine r_getf (j := 9) (t := 2) (x := t_factors) d_X11_factor_95 kX11 (by decide) fl_X11_69 o_t.1 o_t.2.1 o_t.2.2.1 o_t.2.2.2 rfl f_t_factors ?_
                refine r_aload_n (x := t) d_X11_factor_98 rfl o_t.1 ?_
                refine r_getf (j := 11) (t := 2) (x := t_work) d_X11_factor_99 kX11 (by decide) fl_X11_83 o_t.1 o_t.2.1 o_t.2.2.1 o_t.2.2.2 rfl f_t_work ?_
                refine x_callVI (Y2 := mX1_search) (c := t_factors) (As := [(2, t_work)]) (S := []) d_X11_factor_102 ok_mX1_search ml_X11_296 rfl (Nat.le_of_ble_eq_true rfl) (Nat.le_of_ble_eq_true rfl) rfl hd_1 kX1 o_t_factors (CI.mono h (fun v10 σ9 h => ?_))
                refine r_if_ne (tgt := 110) d_X11_factor_105 rfl (fun hc => ?_) (fun hc => ?_)
                · have h := h.1 hc
                  refine r_iload_n (x := x2) d_X11_factor_110 rfl ?_
                  refine r_if_ne (tgt := 124) d_X11_factor_111 rfl (fun hc => ?_) (fun hc => ?_)
                  · have h := h.1 hc
                    refine r_aload_n (x := t) d_X11_factor_124 rfl o_t.1 ?_
                    refine r_getf (j := 9) (t := 2) (x := t_factors) d_X11_factor_125 kX11 (by decide) fl_X11_69 o_t.1 o_t.2.1 o_t.2.2.1 o_t.2.2.2 rfl f_t_factors ?_
                    refine r_iload_n (x := x2) d_X11_factor_128 rfl ?_
                    refine r_iconst (x := 1) d_X11_factor_129 ⟨by decide, by decide⟩ ?_
                    refine r_isub d_X11_factor_130 ?_
                    refine x_callVI (Y2 := mX1_letterOfRow) (c := t_factors) (As := [(0, (subI x2 1))]) (S := []) d_X11_factor_131 ok_mX1_letterOfRow ml_X11_302 rfl (Nat.le_of_ble_eq_true rfl) (Nat.le_of_ble_eq_true rfl) rfl hd_1 kX1 o_t_factors (c_X1_letterOfRow (v_X1_letterOfRow_0 o_t_factors f_t_factors_letters f_t_factors_row ?_))
                    refine ⟨fun hc => ?_, fun hc => ?_⟩
                    · have h := h.1 hc
                      show WP l mX11_factor (rm d 0 0) noX _ 0 0 134 [(2, t), (0, x1), (0, x2), (2, b2), (0, v8)] [(0, (-1))] N Λ σ9
                      refine r_iconst (x := 1) d_X11_factor_134 ⟨by decide, by decide⟩ ?_
                      refine r_iadd d_X11_factor_135 ?_
                      exact r_iret d_X11_factor_136 rfl rfl (Nat.le_refl 0) (Nat.le_refl 0) ⟨_, rfl, rfl, rfl, h⟩
                    · have h := h.2 hc
                      refine ⟨fun hc => ?_, fun hc => ?_⟩
                      · have h := h.1 hc
                        refine ⟨h.1, ?_⟩
                        have h := h.2
                        refine ⟨h.1, ?_⟩
                        have h := h.2
                        show WP l mX11_factor (rm d 0 0) noX _ 0 0 134 [(2, t), (0, x1), (0, x2), (2, b2), (0, v8)] [(0, (σ9 t_factors_letters (σ9 t_factors_row (subI x2 1))))] N Λ σ9
                        refine r_iconst (x := 1) d_X11_factor_134 ⟨by decide, by decide⟩ ?_
                        refine r_iadd d_X11_factor_135 ?_
                        exact r_iret d_X11_factor_136 rfl rfl (Nat.le_refl 0) (Nat.le_refl 0) ⟨_, rfl, rfl, rfl, h⟩
                      · have h := h.2 hc
                        show WP l mX11_factor (rm d 0 0) noX _ 0 0 134 [(2, t), (0, x1), (0, x2), (2, b2), (0, v8)] [(0, (-1))] N Λ σ9
                        refine r_iconst (x := 1) d_X11_factor_134 ⟨by decide, by decide⟩ ?_
                        refine r_iadd d_X11_factor_135 ?_
                        exact r_iret d_X11_factor_136 rfl rfl (Nat.le_refl 0) (Nat.le_refl 0) ⟨_, rfl, rfl, rfl, h⟩
                  · have h := h.2 hc
                    refine r_aload_n (x := t) d_X11_factor_114 rfl o_t.1 ?_
                    refine r_getf (j := 9) (t := 2) (x := t_factors) d_X11_factor_115 kX11 (by decide) fl_X11_69 o_t.1 o_t.2.1 o_t.2.2.1 o_t.2.2.2 rfl f_t_factors ?_
                    refine r_getf (j := 0) (t := 0) (x := (σ9 t_factors 0)) d_X11_factor_118 kX1 (by decide) fl_X11_299 o_t_factors.1 o_t_factors.2.1 o_t_factors.2.2.1 o_t_factors.2.2.2 rfl rfl ?_
                    refine r_goto (tgt := 136) d_X11_factor_121 rfl ?_
                    exact r_iret d_X11_factor_136 rfl rfl (Nat.le_refl 0) (Nat.le_refl 0) ⟨_, rfl, rfl, rfl, h⟩
                · have h := h.2 hc
                  refine r_iconst (x := 0) d_X11_factor_108 ⟨by decide, by decide⟩ ?_
                  exact r_iret d_X11_factor_109 rfl rfl (Nat.le_refl 0) (Nat.le_refl 0) ⟨_, rfl, rfl, rfl, h⟩
              · have h := h.2 hc
                refine r_aload_n (x := t) d_X11_factor_87 rfl o_t.1 ?_
                refine r_iload (x := v8) d_X11_factor_88 rfl ?_
                refine x_callVI (Y2 := mX11_refused) (c := t) (As := [(0, v8)]) (S := []) d_X11_factor_90 ok_mX11_refused ml_X11_271 rfl (Nat.le_of_ble_eq_true rfl) (Nat.le_of_ble_eq_true rfl) rfl hd_1 kX11 o_t (c_X11_refused (v_X11_refused_0 o_t ?_))
                intro τ11 eτ11
                have h := h τ11 eτ11
                refine ⟨fun hc => ?_, fun hc => ?_⟩
                · have h := h.1 hc
                  show WP l mX11_factor (rm d 0 0) noX _ 0 0 93 [(2, t), (0, x1), (0, x2), (2, b2), (0, v8)] [(0, (-4))] N Λ τ11
                  exact r_iret d_X11_factor_93 rfl rfl (Nat.le_refl 0) (Nat.le_refl 0) ⟨_, rfl, rfl, rfl, h⟩
                · have h := h.2 hc
                  show WP l mX11_factor (rm d 0 0) noX _ 0 0 93 [(2, t), (0, x1), (0, x2), (2, b2), (0, v8)] [(0, (-7))] N Λ τ11
                  exact r_iret d_X11_factor_93 rfl rfl (Nat.le_refl 0) (Nat.le_refl 0) ⟨_, rfl, rfl, rfl, h⟩
            · have h := h.2 hc
              refine r_iconst (x := 0) d_X11_factor_58 ⟨by decide, by decide⟩ ?_
              exact r_iret d_X11_factor_59 rfl rfl (Nat.le_refl 0) (Nat.le_refl 0) ⟨_, rfl, rfl, rfl, h⟩
        · have h := h.2 hc
          refine r_bipush (x := (-2)) d_X11_factor_22 ⟨by decide, by decide⟩ (by decide) ?_
          exact r_iret d_X11_factor_24 rfl rfl (Nat.le_refl 0) (Nat.le_refl 0) ⟨_, rfl, rfl, rfl, h⟩
theorem v_X11_isFinal_0 {l : Launch} {d N : Nat} {Λ : Lay} {P : Int → Mem → Prop} {σ : Mem} {x1 t t_now t_now_shelves t_other t_other_keys t_straightener t_work : Int} (o_t : Ob N Λ t 20 14) (f_t_straightener : (Λ t).2.2 5 = t_straightener) (f_t_now : (Λ t).2.2 0 = t_now) (o_t_now : Ob N Λ t_now 16 3) (f_t_now_shelves : (Λ t_now).2.2 0 = t_now_shelves) (f_t_work : (Λ t).2.2 11 = t_work) (o_t_straightener : Ob N Λ t_straightener 17 2) (o_t_work : Ob N Λ t_work 15 3) (f_t_other : (Λ t).2.2 12 = t_other) (o_t_other : Ob N Λ t_other 15 3) (f_t_other_keys : (Λ t_other).2.2 0 = t_other_keys) (h0d : 2 ≤ d)
    (h : (∀ τ1, τ1 = st σ t 13 0 → ((x1 < 0 → P (-2) τ1) ∧ (¬ (x1 < 0) → ((6 ≤ x1 → P (-2) τ1) ∧ (¬ (6 ≤ x1) → (Ix N Λ t_now_shelves 3 x1 ∧ (∀ b2, b2 = (Λ t_now_shelves).2.2 x1 → (Ob N Λ b2 15 3 ∧ (CI l mX8_straighten (d - 1) [(2, t_straightener), (2, b2), (2, t_work)] N Λ τ1 (fun v4 σ3 => ((v4 = 0 → (((σ3 t_work 2) = 0 → (Ix N Λ t_now_shelves 3 x1 ∧ (∀ b5, b5 = (Λ t_now_shelves).2.2 x1 → (Ob N Λ b5 15 3 ∧ (CV l mX7_reduceTo (d - 1) [(2, t_now), (2, t_other), (2, b5)] N Λ σ3 (fun σ6 => ((¬ (σ6 t_other 2) = 1 → P 0 σ6) ∧ ((σ6 t_other 2) = 1 → (Ix N Λ t_other_keys 1 0 ∧ (CI l mX6_bracketsIn (d - 1 - 1) [(1, (σ6 t_other_keys 0))] N Λ σ6 (fun v7 σ8 => ((v7 ≤ 0 → P 0 σ8) ∧ (¬ (v7 ≤ 0) → (CI l mX7_bracketsThatAre (d - 1 - 1) [(2, t_now), (1, (σ6 t_other_keys 0)), (0, 1)] N Λ σ8 (fun v9 σ10 => ((¬ v9 = v7 → P 0 σ10) ∧ (v9 = v7 → P 1 σ10))))))))))))))))) ∧ (¬ ((σ3 t_work 2) = 0) → P 0 σ3))) ∧ (¬ (v4 = 0) → (∀ τ11, τ11 = st σ3 t 13 v4 → ((¬ v4 = 4 → P (-4) τ11) ∧ (v4 = 4 → P (-7) τ11)))))))))))))))) :
    WI l mX11_isFinal d P 0 [(2, t), (0, x1), (3, 0)] [] N Λ σ := by
  have hd_1 : 1 ≤ d := Nat.le_trans (by decide) h0d
  have he_1 : 1 ≤ d - 1 := Nat.le_sub_of_add_le (Nat.le_trans (by decide) h0d)
  refine r_aload_n (x := t) d_X11_isFinal_0 rfl o_t.1 ?_
  refine r_iconst (x := 0) d_X11_isFinal_1 ⟨by decide, by decide⟩ ?_
  refine r_putI (j := 13) d_X11_isFinal_2 kX11 (by decide) fl_X11_90 rfl o_t.1 o_t.2.1 o_t.2.2.1 o_t.2.2.2 rfl ?_
  refine r_nmM (fun τ1 eτ1 => ?_)
  have h := h τ1 eτ1
  refine r_iload_n (x := x1) d_X11_isFinal_5 rfl ?_
  refine x_callSI (Y2 := mX11_isShelf) (As := [(0, x1)]) (S := []) d_X11_isFinal_6 ok_mX11_isShelf ml_X11_143 rfl (Nat.le_of_ble_eq_true rfl) (Nat.le_of_ble_eq_true rfl) rfl hd_1 (c_X11_isShelf (v_X11_isShelf_0 ?_))
  refine ⟨fun hc => ?_, fun hc => ?_⟩
  · have h := h.1 hc
    show WP l mX11_isFinal (rm d 0 0) noX _ 0 0 9 [(2, t), (0, x1), (3, 0)] [(0, 0)] N Λ τ1
    refine r_if_ne (tgt := 15) d_X11_isFinal_9 rfl (fun hc => absurd hc (by decide)) (fun _ => ?_)
    refine r_bipush (x := (-2)) d_X11_isFinal_12 ⟨by decide, by decide⟩ (by decide) ?_
    exact r_iret d_X11_isFinal_14 rfl rfl (Nat.le_refl 0) (Nat.le_refl 0) ⟨_, rfl, rfl, rfl, h⟩
  · have h := h.2 hc
    refine ⟨fun hc => ?_, fun hc => ?_⟩
    · have h := h.1 hc
      show WP l mX11_isFinal (rm d 0 0) noX _ 0 0 9 [(2, t), (0, x1), (3, 0)] [(0, 0)] N Λ τ1
      refine r_if_ne (tgt := 15) d_X11_isFinal_9 rfl (fun hc => absurd hc (by decide)) (fun _ => ?_)
      refine r_bipush (x := (-2)) d_X11_isFinal_12 ⟨by decide, by decide⟩ (by decide) ?_
      exact r_iret d_X11_isFinal_14 rfl rfl (Nat.le_refl 0) (Nat.le_refl 0) ⟨_, rfl, rfl, rfl, h⟩
    · have h := h.2 hc
      show WP l mX11_isFinal (rm d 0 0) noX _ 0 0 9 [(2, t), (0, x1), (3, 0)] [(0, 1)] N Λ τ1
      refine r_if_ne (tgt := 15) d_X11_isFinal_9 rfl (fun _ => ?_) (fun hc => absurd hc (by decide))
      refine r_aload_n (x := t) d_X11_isFinal_15 rfl o_t.1 ?_
      refine r_getf (j := 5) (t := 2) (x := t_straightener) d_X11_isFinal_16 kX11 (by decide) fl_X11_41 o_t.1 o_t.2.1 o_t.2.2.1 o_t.2.2.2 rfl f_t_straightener ?_
      refine r_aload_n (x := t) d_X11_isFinal_19 rfl o_t.1 ?_
      refine r_getf (j := 0) (t := 2) (x := t_now) d_X11_isFinal_20 kX11 (by decide) fl_X11_10 o_t.1 o_t.2.1 o_t.2.2.1 o_t.2.2.2 rfl f_t_now ?_
      refine r_getf (j := 0) (t := 2) (x := t_now_shelves) d_X11_isFinal_23 kX7 (by decide) fl_X11_146 o_t_now.1 o_t_now.2.1 o_t_now.2.2.1 o_t_now.2.2.2 rfl f_t_now_shelves ?_
      refine r_iload_n (x := x1) d_X11_isFinal_26 rfl ?_
      refine x_aald (t := 3) (by decide) d_X11_isFinal_27 h.1 (fun b2 eb2 => ?_)
      have h := h.2 b2 eb2
      have oob2 := h.1
      have h := h.2
      refine r_aload_n (x := t) d_X11_isFinal_28 rfl o_t.1 ?_
      refine r_getf (j := 11) (t := 2) (x := t_work) d_X11_isFinal_29 kX11 (by decide) fl_X11_83 o_t.1 o_t.2.1 o_t.2.2.1 o_t.2.2.2 rfl f_t_work ?_
      refine x_callVI (Y2 := mX8_straighten) (c := t_straightener) (As := [(2, b2), (2, t_work)]) (S := []) d_X11_isFinal_32 ok_mX8_straighten ml_X11_212 rfl (Nat.le_of_ble_eq_true rfl) (Nat.le_of_ble_eq_true rfl) rfl hd_1 kX8 o_t_straightener (CI.mono h (fun v4 σ3 h => ?_))
      refine r_istore_n (L2 := [(2, t), (0, x1), (0, v4)]) d_X11_isFinal_35 (by decide) rfl rfl ?_
      refine r_iload_n (x := v4) d_X11_isFinal_36 rfl ?_
      refine r_if_eq (tgt := 46) d_X11_isFinal_37 rfl (fun hc => ?_) (fun hc => ?_)
      · have h := h.1 hc
        refine r_aload_n (x := t) d_X11_isFinal_46 rfl o_t.1 ?_
        refine r_getf (j := 11) (t := 2) (x := t_work) d_X11_isFinal_47 kX11 (by decide) fl_X11_83 o_t.1 o_t.2.1 o_t.2.2.1 o_t.2.2.2 rfl f_t_work ?_
        refine r_getf (j := 2) (t := 0) (x := (σ3 t_work 2)) d_X11_isFinal_50 kX5 (by decide) fl_X11_150 o_t_work.1 o_t_work.2.1 o_t_work.2.2.1 o_t_work.2.2.2 rfl rfl ?_
        refine r_if_eq (tgt := 58) d_X11_isFinal_53 rfl (fun hc => ?_) (fun hc => ?_)
        · have h := h.1 hc
          refine r_aload_n (x := t) d_X11_isFinal_58 rfl o_t.1 ?_
          refine r_getf (j := 0) (t := 2) (x := t_now) d_X11_isFinal_59 kX11 (by decide) fl_X11_10 o_t.1 o_t.2.1 o_t.2.2.1 o_t.2.2.2 rfl f_t_now ?_
          refine r_aload_n (x := t) d_X11_isFinal_62 rfl o_t.1 ?_
          refine r_getf (j := 12) (t := 2) (x := t_other) d_X11_isFinal_63 kX11 (by decide) fl_X11_87 o_t.1 o_t.2.1 o_t.2.2.1 o_t.2.2.2 rfl f_t_other ?_
          refine r_aload_n (x := t) d_X11_isFinal_66 rfl o_t.1 ?_
          refine r_getf (j := 0) (t := 2) (x := t_now) d_X11_isFinal_67 kX11 (by decide) fl_X11_10 o_t.1 o_t.2.1 o_t.2.2.1 o_t.2.2.2 rfl f_t_now ?_
          refine r_getf (j := 0) (t := 2) (x := t_now_shelves) d_X11_isFinal_70 kX7 (by decide) fl_X11_146 o_t_now.1 o_t_now.2.1 o_t_now.2.2.1 o_t_now.2.2.2 rfl f_t_now_shelves ?_
          refine r_iload_n (x := x1) d_X11_isFinal_73 rfl ?_
          refine x_aald (t := 3) (by decide) d_X11_isFinal_74 h.1 (fun b5 eb5 => ?_)
          have h := h.2 b5 eb5
          have oob5 := h.1
          have h := h.2
          refine x_callVV (Y2 := mX7_reduceTo) (c := t_now) (As := [(2, t_other), (2, b5)]) (S := []) d_X11_isFinal_75 ok_mX7_reduceTo ml_X11_215 rfl (Nat.le_of_ble_eq_true rfl) (Nat.le_of_ble_eq_true rfl) rfl hd_1 kX7 o_t_now (CV.mono h (fun σ6 h => ?_))
          refine r_aload_n (x := t) d_X11_isFinal_78 rfl o_t.1 ?_
          refine r_getf (j := 12) (t := 2) (x := t_other) d_X11_isFinal_79 kX11 (by decide) fl_X11_87 o_t.1 o_t.2.1 o_t.2.2.1 o_t.2.2.2 rfl f_t_other ?_
          refine r_getf (j := 2) (t := 0) (x := (σ6 t_other 2)) d_X11_isFinal_82 kX5 (by decide) fl_X11_150 o_t_other.1 o_t_other.2.1 o_t_other.2.2.1 o_t_other.2.2.2 rfl rfl ?_
          refine r_iconst (x := 1) d_X11_isFinal_85 ⟨by decide, by decide⟩ ?_
          refine r_ic_ne (tgt := 112) d_X11_isFinal_86 rfl (fun hc => ?_) (fun hc => ?_)
          · have h := h.1 hc
            refine r_iconst (x := 0) d_X11_isFinal_112 ⟨by decide, by decide⟩ ?_
            exact r_iret d_X11_isFinal_113 rfl rfl (Nat.le_refl 0) (Nat.le_refl 0) ⟨_, rfl, rfl, rfl, h⟩
          · have h := h.2 hc
            refine r_aload_n (x := t) d_X11_isFinal_89 rfl o_t.1 ?_
            refine r_getf (j := 0) (t := 2) (x := t_now) d_X11_isFinal_90 kX11 (by decide) fl_X11_10 o_t.1 o_t.2.1 o_t.2.2.1 o_t.2.2.2 rfl f_t_now ?_
            refine r_aload_n (x := t) d_X11_isFinal_93 rfl o_t.1 ?_
            refine r_getf (j := 12) (t := 2) (x := t_other) d_X11_isFinal_94 kX11 (by decide) fl_X11_87 o_t.1 o_t.2.1 o_t.2.2.1 o_t.2.2.2 rfl f_t_other ?_
            refine r_getf (j := 0) (t := 2) (x := t_other_keys) d_X11_isFinal_97 kX5 (by decide) fl_X11_241 o_t_other.1 o_t_other.2.1 o_t_other.2.2.1 o_t_other.2.2.2 rfl f_t_other_keys ?_
            refine r_iconst (x := 0) d_X11_isFinal_100 ⟨by decide, by decide⟩ ?_
            refine x_lald d_X11_isFinal_101 h.1 ?_
            have h := h.2
            refine x_callVI (Y2 := mX7_cannotVanish) (c := t_now) (As := [(1, (σ6 t_other_keys 0))]) (S := []) d_X11_isFinal_102 ok_mX7_cannotVanish ml_X11_305 rfl (Nat.le_of_ble_eq_true rfl) (Nat.le_of_ble_eq_true rfl) rfl hd_1 kX7 o_t_now (c_X7_cannotVanish (v_X7_cannotVanish_0 o_t_now he_1 ?_))
            refine CI.mono h (fun v7 σ8 h => ?_)
            refine ⟨fun hc => ?_, fun hc => ?_⟩
            · have h := h.1 hc
              show WP l mX11_isFinal (rm d 0 0) noX _ 0 0 105 [(2, t), (0, x1), (0, v4)] [(0, 0)] N Λ σ8
              refine r_if_eq (tgt := 112) d_X11_isFinal_105 rfl (fun _ => ?_) (fun hc => absurd hc (by decide))
              refine r_iconst (x := 0) d_X11_isFinal_112 ⟨by decide, by decide⟩ ?_
              exact r_iret d_X11_isFinal_113 rfl rfl (Nat.le_refl 0) (Nat.le_refl 0) ⟨_, rfl, rfl, rfl, h⟩
            · have h := h.2 hc
              refine CI.mono h (fun v9 σ10 h => ?_)
              refine ⟨fun hc => ?_, fun hc => ?_⟩
              · have h := h.1 hc
                show WP l mX11_isFinal (rm d 0 0) noX _ 0 0 105 [(2, t), (0, x1), (0, v4)] [(0, 0)] N Λ σ10
                refine r_if_eq (tgt := 112) d_X11_isFinal_105 rfl (fun _ => ?_) (fun hc => absurd hc (by decide))
                refine r_iconst (x := 0) d_X11_isFinal_112 ⟨by decide, by decide⟩ ?_
                exact r_iret d_X11_isFinal_113 rfl rfl (Nat.le_refl 0) (Nat.le_refl 0) ⟨_, rfl, rfl, rfl, h⟩
              · have h := h.2 hc
                show WP l mX11_isFinal (rm d 0 0) noX _ 0 0 105 [(2, t), (0, x1), (0, v4)] [(0, 1)] N Λ σ10
                refine r_if_eq (tgt := 112) d_X11_isFinal_105 rfl (fun hc => absurd hc (by decide)) (fun _ => ?_)
                refine r_iconst (x := 1) d_X11_isFinal_108 ⟨by decide, by decide⟩ ?_
                refine r_goto (tgt := 113) d_X11_isFinal_109 rfl ?_
                exact r_iret d_X11_isFinal_113 rfl rfl (Nat.le_refl 0) (Nat.le_refl 0) ⟨_, rfl, rfl, rfl, h⟩
        · have h := h.2 hc
          refine r_iconst (x := 0) d_X11_isFinal_56 ⟨by decide, by decide⟩ ?_
          exact r_iret d_X11_isFinal_57 rfl rfl (Nat.le_refl 0) (Nat.le_refl 0) ⟨_, rfl, rfl, rfl, h⟩
      · have h := h.2 hc
        refine r_aload_n (x := t) d_X11_isFinal_40 rfl o_t.1 ?_
        refine r_iload_n (x := v4) d_X11_isFinal_41 rfl ?_
        refine x_callVI (Y2 := mX11_refused) (c := t) (As := [(0, v4)]) (S := []) d_X11_isFinal_42 ok_mX11_refused ml_X11_271 rfl (Nat.le_of_ble_eq_true rfl) (Nat.le_of_ble_eq_true rfl) rfl hd_1 kX11 o_t (c_X11_refused (v_X11_refused_0 o_t ?_))
        intro τ11 eτ11
        have h := h τ11 eτ11
        refine ⟨fun hc => ?_, fun hc => ?_⟩
        · have h := h.1 hc
          show WP l mX11_isFinal (rm d 0 0) noX _ 0 0 45 [(2, t), (0, x1), (0, v4)] [(0, (-4))] N Λ τ11
          exact r_iret d_X11_isFinal_45 rfl rfl (Nat.le_refl 0) (Nat.le_refl 0) ⟨_, rfl, rfl, rfl, h⟩
        · have h := h.2 hc
          show WP l mX11_isFinal (rm d 0 0) noX _ 0 0 45 [(2, t), (0, x1), (0, v4)] [(0, (-7))] N Λ τ11
          exact r_iret d_X11_isFinal_45 rfl rfl (Nat.le_refl 0) (Nat.le_refl 0) ⟨_, rfl, rfl, rfl, h⟩
theorem v_X11_known_0 {l : Launch} {d N : Nat} {Λ : Lay} {P : Int → Mem → Prop} {σ : Mem} {x1 x2 x3 t t_now t_now_facts : Int} (o_t : Ob N Λ t 20 14) (f_t_now : (Λ t).2.2 0 = t_now) (o_t_now : Ob N Λ t_now 16 3) (f_t_now_facts : (Λ t_now).2.2 2 = t_now_facts) (h0d : 3 ≤ d)
    (h : (CI l mX11_areLetters (d - 1) [(0, x1), (0, x2), (0, x3)] N Λ σ (fun v2 σ1 => ((¬ v2 = 0 → (CI l mX6_ordered (d - 1) [(0, (orI (orI (shlI x1 8) (shlI x2 4)) x3))] N Λ σ1 (fun v4 σ3 => ((0 ≤ v4 → ((¬ v4 = 0 → (∀ y5, y5 = (andI (shrI v4 (mulI 4 (subI 2 0))) 15) → (∀ y6, y6 = (andI (shrI v4 (mulI 4 (subI 2 1))) 15) → (∀ y7, y7 = (andI (shrI v4 (mulI 4 (subI 2 2))) 15) → (Ix N Λ t_now_facts 0 (addI (addI (divI (mulI (mulI y7 (subI y7 1)) (subI y7 2)) 6) (divI (mulI y6 (subI y6 1)) 2)) y5) ∧ P (σ3 t_now_facts (addI (addI (divI (mulI (mulI y7 (subI y7 1)) (subI y7 2)) 6) (divI (mulI y6 (subI y6 1)) 2)) y5)) σ3))))) ∧ (v4 = 0 → P (-3) σ3))) ∧ (¬ (0 ≤ v4) → (∀ y8, y8 = (negI v4) → ((¬ y8 = 0 → (∀ y9, y9 = (andI (shrI y8 (mulI 4 (subI 2 0))) 15) → (∀ y10, y10 = (andI (shrI y8 (mulI 4 (subI 2 1))) 15) → (∀ y11, y11 = (andI (shrI y8 (mulI 4 (subI 2 2))) 15) → (Ix N Λ t_now_facts 0 (addI (addI (divI (mulI (mulI y11 (subI y11 1)) (subI y11 2)) 6) (divI (mulI y10 (subI y10 1)) 2)) y9) ∧ P (σ3 t_now_facts (addI (addI (divI (mulI (mulI y11 (subI y11 1)) (subI y11 2)) 6) (divI (mulI y10 (subI y10 1)) 2)) y9)) σ3))))) ∧ (y8 = 0 → P (-3) σ3)))))))) ∧ (v2 = 0 → P (-2) σ1))))) :
    WI l mX11_known d P 0 [(2, t), (0, x1), (0, x2), (0, x3), (3, 0)] [] N Λ σ := by
  have hd_1 : 1 ≤ d := Nat.le_trans (by decide) h0d
  have he_1 : 1 ≤ d - 1 := Nat.le_sub_of_add_le (Nat.le_trans (by decide) h0d)
  have he_2 : 2 ≤ d - 1 := Nat.le_sub_of_add_le (Nat.le_trans (by decide) h0d)
  refine r_iload_n (x := x1) d_X11_known_0 rfl ?_
  refine r_iload_n (x := x2) d_X11_known_1 rfl ?_
  refine r_iload_n (x := x3) d_X11_known_2 rfl ?_
  refine x_callSI (Y2 := mX11_areLetters) (As := [(0, x1), (0, x2), (0, x3)]) (S := []) d_X11_known_3 ok_mX11_areLetters ml_X11_160 rfl (Nat.le_of_ble_eq_true rfl) (Nat.le_of_ble_eq_true rfl) rfl hd_1 (CI.mono h (fun v2 σ1 h => ?_))
  refine r_if_ne (tgt := 12) d_X11_known_6 rfl (fun hc => ?_) (fun hc => ?_)
  · have h := h.1 hc
    refine r_iload_n (x := x1) d_X11_known_12 rfl ?_
    refine r_iload_n (x := x2) d_X11_known_13 rfl ?_
    refine r_iload_n (x := x3) d_X11_known_14 rfl ?_
    refine x_callSI (Y2 := mX6_row) (As := [(0, x1), (0, x2), (0, x3)]) (S := []) d_X11_known_15 ok_mX6_row ml_X11_167 rfl (Nat.le_of_ble_eq_true rfl) (Nat.le_of_ble_eq_true rfl) rfl hd_1 (c_X6_row (v_X6_row_0 ?_))
    show WP l mX11_known (rm d 0 0) noX _ 0 0 18 [(2, t), (0, x1), (0, x2), (0, x3), (3, 0)] [(0, (orI (orI (shlI x1 8) (shlI x2 4)) x3))] N Λ σ1
    refine x_callSI (Y2 := mX6_ordered) (As := [(0, (orI (orI (shlI x1 8) (shlI x2 4)) x3))]) (S := []) d_X11_known_18 ok_mX6_ordered ml_X11_219 rfl (Nat.le_of_ble_eq_true rfl) (Nat.le_of_ble_eq_true rfl) rfl hd_1 (CI.mono h (fun v4 σ3 h => ?_))
    refine x_callSI (Y2 := mJ9_abs_0f7a4) (As := [(0, v4)]) (S := []) d_X11_known_21 ok_mJ9_abs_0f7a4 ml_X11_222 rfl (Nat.le_of_ble_eq_true rfl) (Nat.le_of_ble_eq_true rfl) rfl hd_1 (c_J9_abs_0f7a4 (v_J9_abs_0f7a4_0 ?_))
    refine ⟨fun hc => ?_, fun hc => ?_⟩
    · have h := h.1 hc
      show WP l mX11_known (rm d 0 0) noX _ 0 0 24 [(2, t), (0, x1), (0, x2), (0, x3), (3, 0)] [(0, v4)] N Λ σ3
      refine r_istore (L2 := [(2, t), (0, x1), (0, x2), (0, x3), (0, v4)]) d_X11_known_24 (by decide) rfl rfl ?_
      refine r_iload (x := v4) d_X11_known_26 rfl ?_
      refine r_if_ne (tgt := 36) d_X11_known_28 rfl (fun hc => ?_) (fun hc => ?_)
      · have h := h.1 hc
        refine r_aload_n (x := t) d_X11_known_36 rfl o_t.1 ?_
        refine r_getf (j := 0) (t := 2) (x := t_now) d_X11_known_37 kX11 (by decide) fl_X11_10 o_t.1 o_t.2.1 o_t.2.2.1 o_t.2.2.2 rfl f_t_now ?_
        refine r_iload (x := v4) d_X11_known_40 rfl ?_
        refine x_callVI (Y2 := mX7_factOf) (c := t_now) (As := [(0, v4)]) (S := []) d_X11_known_42 ok_mX7_factOf ml_X11_227 rfl (Nat.le_of_ble_eq_true rfl) (Nat.le_of_ble_eq_true rfl) rfl hd_1 kX7 o_t_now (c_X7_factOf (v_X7_factOf_0 o_t_now f_t_now_facts he_2 ?_))
        intro y5 ey5
        have h := h y5 ey5
        intro y6 ey6
        have h := h y6 ey6
        intro y7 ey7
        have h := h y7 ey7
        refine ⟨h.1, ?_⟩
        have h := h.2
        show WP l mX11_known (rm d 0 0) noX _ 0 0 45 [(2, t), (0, x1), (0, x2), (0, x3), (0, v4)] [(0, (σ3 t_now_facts (addI (addI (divI (mulI (mulI y7 (subI y7 1)) (subI y7 2)) 6) (divI (mulI y6 (subI y6 1)) 2)) y5)))] N Λ σ3
        exact r_iret d_X11_known_45 rfl rfl (Nat.le_refl 0) (Nat.le_refl 0) ⟨_, rfl, rfl, rfl, h⟩
      · have h := h.2 hc
        refine r_bipush (x := (-3)) d_X11_known_31 ⟨by decide, by decide⟩ (by decide) ?_
        refine r_goto (tgt := 45) d_X11_known_33 rfl ?_
        exact r_iret d_X11_known_45 rfl rfl (Nat.le_refl 0) (Nat.le_refl 0) ⟨_, rfl, rfl, rfl, h⟩
    · have h := h.2 hc
      show WP l mX11_known (rm d 0 0) noX _ 0 0 24 [(2, t), (0, x1), (0, x2), (0, x3), (3, 0)] [(0, (negI v4))] N Λ σ3
      refine r_nm (fun y8 ey8 => ?_)
      have h := h y8 ey8
      refine r_istore (L2 := [(2, t), (0, x1), (0, x2), (0, x3), (0, y8)]) d_X11_known_24 (by decide) rfl rfl ?_
      refine r_iload (x := y8) d_X11_known_26 rfl ?_
      refine r_if_ne (tgt := 36) d_X11_known_28 rfl (fun hc => ?_) (fun hc => ?_)
      · have h := h.1 hc
        refine r_aload_n (x := t) d_X11_known_36 rfl o_t.1 ?_
        refine r_getf (j := 0) (t := 2) (x := t_now) d_X11_known_37 kX11 (by decide) fl_X11_10 o_t.1 o_t.2.1 o_t.2.2.1 o_t.2.2.2 rfl f_t_now ?_
        refine r_iload (x := y8) d_X11_known_40 rfl ?_
        refine x_callVI (Y2 := mX7_factOf) (c := t_now) (As := [(0, y8)]) (S := []) d_X11_known_42 ok_mX7_factOf ml_X11_227 rfl (Nat.le_of_ble_eq_true rfl) (Nat.le_of_ble_eq_true rfl) rfl hd_1 kX7 o_t_now (c_X7_factOf (v_X7_factOf_0 o_t_now f_t_now_facts he_2 ?_))
        intro y9 ey9
        have h := h y9 ey9
        intro y10 ey10
        have h := h y10 ey10
        intro y11 ey11
        have h := h y11 ey11
        refine ⟨h.1, ?_⟩
        have h := h.2
        show WP l mX11_known (rm d 0 0) noX _ 0 0 45 [(2, t), (0, x1), (0, x2), (0, x3), (0, y8)] [(0, (σ3 t_now_facts (addI (addI (divI (mulI (mulI y11 (subI y11 1)) (subI y11 2)) 6) (divI (mulI y10 (subI y10 1)) 2)) y9)))] N Λ σ3
        exact r_iret d_X11_known_45 rfl rfl (Nat.le_refl 0) (Nat.le_refl 0) ⟨_, rfl, rfl, rfl, h⟩
      · have h := h.2 hc
        refine r_bipush (x := (-3)) d_X11_known_31 ⟨by decide, by decide⟩ (by decide) ?_
        refine r_goto (tgt := 45) d_X11_known_33 rfl ?_
        exact r_iret d_X11_known_45 rfl rfl (Nat.le_refl 0) (Nat.le_refl 0) ⟨_, rfl, rfl, rfl, h⟩
  · have h := h.2 hc
    refine r_bipush (x := (-2)) d_X11_known_9 ⟨by decide, by decide⟩ (by decide) ?_
    exact r_iret d_X11_known_11 rfl rfl (Nat.le_refl 0) (Nat.le_refl 0) ⟨_, rfl, rfl, rfl, h⟩
theorem v_X11_at_0 {l : Launch} {d N : Nat} {Λ : Lay} {P : Int → Mem → Prop} {σ : Mem} {x1 x2 t t_now t_now_places : Int} (o_t : Ob N Λ t 20 14) (f_t_now : (Λ t).2.2 0 = t_now) (o_t_now : Ob N Λ t_now 16 3) (f_t_now_places : (Λ t_now).2.2 1 = t_now_places) (h0d : 1 ≤ d)
    (h : ((x1 < 0 → P (-100) σ) ∧ (¬ (x1 < 0) → ((10 ≤ x1 → P (-100) σ) ∧ (¬ (10 ≤ x1) → ((x2 < 0 → P (-100) σ) ∧ (¬ (x2 < 0) → ((x2 ≤ 2 → (Ix N Λ t_now_places 0 (addI (mulI 3 x1) x2) ∧ P (σ t_now_places (addI (mulI 3 x1) x2)) σ)) ∧ (¬ (x2 ≤ 2) → P (-100) σ))))))))) :
    WI l mX11_at d P 0 [(2, t), (0, x1), (0, x2)] [] N Λ σ := by
  have hd_1 : 1 ≤ d := Nat.le_trans (by decide) h0d
  refine r_iload_n (x := x1) d_X11_at_0 rfl ?_
  refine x_callSI (Y2 := mX11_isLetter) (As := [(0, x1)]) (S := []) d_X11_at_1 ok_mX11_isLetter ml_X11_205 rfl (Nat.le_of_ble_eq_true rfl) (Nat.le_of_ble_eq_true rfl) rfl hd_1 (c_X11_isLetter (v_X11_isLetter_0 ?_))
  refine ⟨fun hc => ?_, fun hc => ?_⟩
  · have h := h.1 hc
    show WP l mX11_at (rm d 0 0) noX _ 0 0 4 [(2, t), (0, x1), (0, x2)] [(0, 0)] N Λ σ
    refine r_if_eq (tgt := 16) d_X11_at_4 rfl (fun _ => ?_) (fun hc => absurd hc (by decide))
    refine r_bipush (x := (-100)) d_X11_at_16 ⟨by decide, by decide⟩ (by decide) ?_
    exact r_iret d_X11_at_18 rfl rfl (Nat.le_refl 0) (Nat.le_refl 0) ⟨_, rfl, rfl, rfl, h⟩
  · have h := h.2 hc
    refine ⟨fun hc => ?_, fun hc => ?_⟩
    · have h := h.1 hc
      show WP l mX11_at (rm d 0 0) noX _ 0 0 4 [(2, t), (0, x1), (0, x2)] [(0, 0)] N Λ σ
      refine r_if_eq (tgt := 16) d_X11_at_4 rfl (fun _ => ?_) (fun hc => absurd hc (by decide))
      refine r_bipush (x := (-100)) d_X11_at_16 ⟨by decide, by decide⟩ (by decide) ?_
      exact r_iret d_X11_at_18 rfl rfl (Nat.le_refl 0) (Nat.le_refl 0) ⟨_, rfl, rfl, rfl, h⟩
    · have h := h.2 hc
      show WP l mX11_at (rm d 0 0) noX _ 0 0 4 [(2, t), (0, x1), (0, x2)] [(0, 1)] N Λ σ
      refine r_if_eq (tgt := 16) d_X11_at_4 rfl (fun hc => absurd hc (by decide)) (fun _ => ?_)
      refine r_iload_n (x := x2) d_X11_at_7 rfl ?_
      refine r_if_lt (tgt := 16) d_X11_at_8 rfl (fun hc => ?_) (fun hc => ?_)
      · have h := h.1 hc
        refine r_bipush (x := (-100)) d_X11_at_16 ⟨by decide, by decide⟩ (by decide) ?_
        exact r_iret d_X11_at_18 rfl rfl (Nat.le_refl 0) (Nat.le_refl 0) ⟨_, rfl, rfl, rfl, h⟩
      · have h := h.2 hc
        refine r_iload_n (x := x2) d_X11_at_11 rfl ?_
        refine r_iconst (x := 2) d_X11_at_12 ⟨by decide, by decide⟩ ?_
        refine r_ic_le (tgt := 19) d_X11_at_13 rfl (fun hc => ?_) (fun hc => ?_)
        · have h := h.1 hc
          refine r_aload_n (x := t) d_X11_at_19 rfl o_t.1 ?_
          refine r_getf (j := 0) (t := 2) (x := t_now) d_X11_at_20 kX11 (by decide) fl_X11_10 o_t.1 o_t.2.1 o_t.2.2.1 o_t.2.2.2 rfl f_t_now ?_
          refine r_getf (j := 1) (t := 2) (x := t_now_places) d_X11_at_23 kX7 (by decide) fl_X11_237 o_t_now.1 o_t_now.2.1 o_t_now.2.2.1 o_t_now.2.2.2 rfl f_t_now_places ?_
          refine r_iconst (x := 3) d_X11_at_26 ⟨by decide, by decide⟩ ?_
          refine r_iload_n (x := x1) d_X11_at_27 rfl ?_
          refine r_imul d_X11_at_28 ?_
          refine r_iload_n (x := x2) d_X11_at_29 rfl ?_
          refine r_iadd d_X11_at_30 ?_
          refine x_iald d_X11_at_31 h.1 ?_
          have h := h.2
          exact r_iret d_X11_at_32 rfl rfl (Nat.le_refl 0) (Nat.le_refl 0) ⟨_, rfl, rfl, rfl, h⟩
        · have h := h.2 hc
          refine r_bipush (x := (-100)) d_X11_at_16 ⟨by decide, by decide⟩ (by decide) ?_
          exact r_iret d_X11_at_18 rfl rfl (Nat.le_refl 0) (Nat.le_refl 0) ⟨_, rfl, rfl, rfl, h⟩
theorem v_X11_worth_0 {l : Launch} {d N : Nat} {Λ : Lay} {P : Int → Mem → Prop} {σ : Mem} {x1 x2 x3 t t_now : Int} (o_t : Ob N Λ t 20 14) (f_t_now : (Λ t).2.2 0 = t_now) (o_t_now : Ob N Λ t_now 16 3) (h0d : 1 ≤ d)
    (h : (CI l mX11_areLetters (d - 1) [(0, x1), (0, x2), (0, x3)] N Λ σ (fun v2 σ1 => ((v2 = 0 → P (-2147483648) σ1) ∧ (¬ (v2 = 0) → (CI l mX7_determinant (d - 1) [(2, t_now), (0, x1), (0, x2), (0, x3)] N Λ σ1 (fun v4 σ3 => P v4 σ3))))))) :
    WI l mX11_worth d P 0 [(2, t), (0, x1), (0, x2), (0, x3)] [] N Λ σ := by
  have hd_1 : 1 ≤ d := Nat.le_trans (by decide) h0d
  refine r_iload_n (x := x1) d_X11_worth_0 rfl ?_
  refine r_iload_n (x := x2) d_X11_worth_1 rfl ?_
  refine r_iload_n (x := x3) d_X11_worth_2 rfl ?_
  refine x_callSI (Y2 := mX11_areLetters) (As := [(0, x1), (0, x2), (0, x3)]) (S := []) d_X11_worth_3 ok_mX11_areLetters ml_X11_160 rfl (Nat.le_of_ble_eq_true rfl) (Nat.le_of_ble_eq_true rfl) rfl hd_1 (CI.mono h (fun v2 σ1 h => ?_))
  refine r_if_eq (tgt := 22) d_X11_worth_6 rfl (fun hc => ?_) (fun hc => ?_)
  · have h := h.1 hc
    refine r_ldc (x := (-2147483648)) d_X11_worth_22 ck_X11_240 (by decide) ?_
    exact r_iret d_X11_worth_24 rfl rfl (Nat.le_refl 0) (Nat.le_refl 0) ⟨_, rfl, rfl, rfl, h⟩
  · have h := h.2 hc
    refine r_aload_n (x := t) d_X11_worth_9 rfl o_t.1 ?_
    refine r_getf (j := 0) (t := 2) (x := t_now) d_X11_worth_10 kX11 (by decide) fl_X11_10 o_t.1 o_t.2.1 o_t.2.2.1 o_t.2.2.2 rfl f_t_now ?_
    refine r_iload_n (x := x1) d_X11_worth_13 rfl ?_
    refine r_iload_n (x := x2) d_X11_worth_14 rfl ?_
    refine r_iload_n (x := x3) d_X11_worth_15 rfl ?_
    refine x_callVI (Y2 := mX7_determinant) (c := t_now) (As := [(0, x1), (0, x2), (0, x3)]) (S := []) d_X11_worth_16 ok_mX7_determinant ml_X11_308 rfl (Nat.le_of_ble_eq_true rfl) (Nat.le_of_ble_eq_true rfl) rfl hd_1 kX7 o_t_now (CI.mono h (fun v4 σ3 h => ?_))
    refine r_goto (tgt := 24) d_X11_worth_19 rfl ?_
    exact r_iret d_X11_worth_24 rfl rfl (Nat.le_refl 0) (Nat.le_refl 0) ⟨_, rfl, rfl, rfl, h⟩
theorem v_X11_value_0 {l : Launch} {d N : Nat} {Λ : Lay} {P : Int → Mem → Prop} {σ : Mem} {x1 t t_now t_now_shelves : Int} (o_t : Ob N Λ t 20 14) (f_t_now : (Λ t).2.2 0 = t_now) (o_t_now : Ob N Λ t_now 16 3) (f_t_now_shelves : (Λ t_now).2.2 0 = t_now_shelves) (h0d : 1 ≤ d)
    (h : ((x1 < 0 → P (-9223372036854775808) σ) ∧ (¬ (x1 < 0) → ((6 ≤ x1 → P (-9223372036854775808) σ) ∧ (¬ (6 ≤ x1) → (Ix N Λ t_now_shelves 3 x1 ∧ (∀ b1, b1 = (Λ t_now_shelves).2.2 x1 → (Ob N Λ b1 15 3 ∧ (CL l mX7_worthOf (d - 1) [(2, t_now), (2, b1)] N Λ σ (fun v3 σ2 => P v3 σ2)))))))))) :
    WL l mX11_value d P 0 [(2, t), (0, x1)] [] N Λ σ := by
  have hd_1 : 1 ≤ d := Nat.le_trans (by decide) h0d
  refine r_iload_n (x := x1) d_X11_value_0 rfl ?_
  refine x_callSI (Y2 := mX11_isShelf) (As := [(0, x1)]) (S := []) d_X11_value_1 ok_mX11_isShelf ml_X11_143 rfl (Nat.le_of_ble_eq_true rfl) (Nat.le_of_ble_eq_true rfl) rfl hd_1 (c_X11_isShelf (v_X11_isShelf_0 ?_))
  refine ⟨fun hc => ?_, fun hc => ?_⟩
  · have h := h.1 hc
    show WP l mX11_value (rm d 0 0) noX _ 0 0 4 [(2, t), (0, x1)] [(0, 0)] N Λ σ
    refine r_if_ne (tgt := 11) d_X11_value_4 rfl (fun hc => absurd hc (by decide)) (fun _ => ?_)
    refine r_ldc2 (x := (-9223372036854775808)) d_X11_value_7 ck_X11_311 (by decide) ?_
    exact r_lret d_X11_value_10 rfl (Nat.le_refl 0) (Nat.le_refl 0) ⟨_, rfl, rfl, rfl, h⟩
  · have h := h.2 hc
    refine ⟨fun hc => ?_, fun hc => ?_⟩
    · have h := h.1 hc
      show WP l mX11_value (rm d 0 0) noX _ 0 0 4 [(2, t), (0, x1)] [(0, 0)] N Λ σ
      refine r_if_ne (tgt := 11) d_X11_value_4 rfl (fun hc => absurd hc (by decide)) (fun _ => ?_)
      refine r_ldc2 (x := (-9223372036854775808)) d_X11_value_7 ck_X11_311 (by decide) ?_
      exact r_lret d_X11_value_10 rfl (Nat.le_refl 0) (Nat.le_refl 0) ⟨_, rfl, rfl, rfl, h⟩
    · have h := h.2 hc
      show WP l mX11_value (rm d 0 0) noX _ 0 0 4 [(2, t), (0, x1)] [(0, 1)] N Λ σ
      refine r_if_ne (tgt := 11) d_X11_value_4 rfl (fun _ => ?_) (fun hc => absurd hc (by decide))
      refine r_aload_n (x := t) d_X11_value_11 rfl o_t.1 ?_
      refine r_getf (j := 0) (t := 2) (x := t_now) d_X11_value_12 kX11 (by decide) fl_X11_10 o_t.1 o_t.2.1 o_t.2.2.1 o_t.2.2.2 rfl f_t_now ?_
      refine r_aload_n (x := t) d_X11_value_15 rfl o_t.1 ?_
      refine r_getf (j := 0) (t := 2) (x := t_now) d_X11_value_16 kX11 (by decide) fl_X11_10 o_t.1 o_t.2.1 o_t.2.2.1 o_t.2.2.2 rfl f_t_now ?_
      refine r_getf (j := 0) (t := 2) (x := t_now_shelves) d_X11_value_19 kX7 (by decide) fl_X11_146 o_t_now.1 o_t_now.2.1 o_t_now.2.2.1 o_t_now.2.2.2 rfl f_t_now_shelves ?_
      refine r_iload_n (x := x1) d_X11_value_22 rfl ?_
      refine x_aald (t := 3) (by decide) d_X11_value_23 h.1 (fun b1 eb1 => ?_)
      have h := h.2 b1 eb1
      have oob1 := h.1
      have h := h.2
      refine x_callVL (Y2 := mX7_worthOf) (c := t_now) (As := [(2, b1)]) (S := []) d_X11_value_24 ok_mX7_worthOf ml_X11_313 rfl (Nat.le_of_ble_eq_true rfl) (Nat.le_of_ble_eq_true rfl) rfl hd_1 kX7 o_t_now (CL.mono h (fun v3 σ2 h => ?_))
      exact r_lret d_X11_value_27 rfl (Nat.le_refl 0) (Nat.le_refl 0) ⟨_, rfl, rfl, rfl, h⟩
theorem v_X11_undo_0 {l : Launch} {d N : Nat} {Λ : Lay} {P : Int → Mem → Prop} {σ : Mem} {x1 t t_history t_now : Int} (o_t : Ob N Λ t 20 14) (f_t_history : (Λ t).2.2 1 = t_history) (o_t_history : Ob N Λ t_history 14 3) (f_t_now : (Λ t).2.2 0 = t_now) (h0d : 1 ≤ d)
    (h : ((x1 < 1 → P (-3) σ) ∧ (¬ (x1 < 1) → ((10 < x1 → P (-3) σ) ∧ (¬ (10 < x1) → ((x1 ≤ (σ t_history 0) → (CV l mX4_goBack (d - 1) [(2, t_history), (0, x1), (2, t_now)] N Λ σ (fun σ1 => P (σ1 t_history 0) σ1))) ∧ (¬ (x1 ≤ (σ t_history 0)) → P (-3) σ))))))) :
    WI l mX11_undo d P 0 [(2, t), (0, x1)] [] N Λ σ := by
  have hd_1 : 1 ≤ d := Nat.le_trans (by decide) h0d
  refine r_iload_n (x := x1) d_X11_undo_0 rfl ?_
  refine r_iconst (x := 1) d_X11_undo_1 ⟨by decide, by decide⟩ ?_
  refine r_ic_lt (tgt := 22) d_X11_undo_2 rfl (fun hc => ?_) (fun hc => ?_)
  · have h := h.1 hc
    refine r_bipush (x := (-3)) d_X11_undo_22 ⟨by decide, by decide⟩ (by decide) ?_
    exact r_iret d_X11_undo_24 rfl rfl (Nat.le_refl 0) (Nat.le_refl 0) ⟨_, rfl, rfl, rfl, h⟩
  · have h := h.2 hc
    refine r_iload_n (x := x1) d_X11_undo_5 rfl ?_
    refine r_bipush (x := 10) d_X11_undo_6 ⟨by decide, by decide⟩ (by decide) ?_
    refine r_ic_gt (tgt := 22) d_X11_undo_8 rfl (fun hc => ?_) (fun hc => ?_)
    · have h := h.1 hc
      refine r_bipush (x := (-3)) d_X11_undo_22 ⟨by decide, by decide⟩ (by decide) ?_
      exact r_iret d_X11_undo_24 rfl rfl (Nat.le_refl 0) (Nat.le_refl 0) ⟨_, rfl, rfl, rfl, h⟩
    · have h := h.2 hc
      refine r_iload_n (x := x1) d_X11_undo_11 rfl ?_
      refine r_aload_n (x := t) d_X11_undo_12 rfl o_t.1 ?_
      refine r_getf (j := 1) (t := 2) (x := t_history) d_X11_undo_13 kX11 (by decide) fl_X11_19 o_t.1 o_t.2.1 o_t.2.2.1 o_t.2.2.2 rfl f_t_history ?_
      refine r_getf (j := 0) (t := 0) (x := (σ t_history 0)) d_X11_undo_16 kX4 (by decide) fl_X11_317 o_t_history.1 o_t_history.2.1 o_t_history.2.2.1 o_t_history.2.2.2 rfl rfl ?_
      refine r_ic_le (tgt := 25) d_X11_undo_19 rfl (fun hc => ?_) (fun hc => ?_)
      · have h := h.1 hc
        refine r_aload_n (x := t) d_X11_undo_25 rfl o_t.1 ?_
        refine r_getf (j := 1) (t := 2) (x := t_history) d_X11_undo_26 kX11 (by decide) fl_X11_19 o_t.1 o_t.2.1 o_t.2.2.1 o_t.2.2.2 rfl f_t_history ?_
        refine r_iload_n (x := x1) d_X11_undo_29 rfl ?_
        refine r_aload_n (x := t) d_X11_undo_30 rfl o_t.1 ?_
        refine r_getf (j := 0) (t := 2) (x := t_now) d_X11_undo_31 kX11 (by decide) fl_X11_10 o_t.1 o_t.2.1 o_t.2.2.1 o_t.2.2.2 rfl f_t_now ?_
        refine x_callVV (Y2 := mX4_goBack) (c := t_history) (As := [(0, x1), (2, t_now)]) (S := []) d_X11_undo_34 ok_mX4_goBack ml_X11_318 rfl (Nat.le_of_ble_eq_true rfl) (Nat.le_of_ble_eq_true rfl) rfl hd_1 kX4 o_t_history (CV.mono h (fun σ1 h => ?_))
        refine r_aload_n (x := t) d_X11_undo_37 rfl o_t.1 ?_
        refine r_getf (j := 1) (t := 2) (x := t_history) d_X11_undo_38 kX11 (by decide) fl_X11_19 o_t.1 o_t.2.1 o_t.2.2.1 o_t.2.2.2 rfl f_t_history ?_
        refine r_getf (j := 0) (t := 0) (x := (σ1 t_history 0)) d_X11_undo_41 kX4 (by decide) fl_X11_317 o_t_history.1 o_t_history.2.1 o_t_history.2.2.1 o_t_history.2.2.2 rfl rfl ?_
        exact r_iret d_X11_undo_44 rfl rfl (Nat.le_refl 0) (Nat.le_refl 0) ⟨_, rfl, rfl, rfl, h⟩
      · have h := h.2 hc
        refine r_bipush (x := (-3)) d_X11_undo_22 ⟨by decide, by decide⟩ (by decide) ?_
        exact r_iret d_X11_undo_24 rfl rfl (Nat.le_refl 0) (Nat.le_refl 0) ⟨_, rfl, rfl, rfl, h⟩
theorem v_X11_image_0 {l : Launch} {d N : Nat} {Λ : Lay} {P : Int → Mem → Prop} {σ : Mem} {x1 t t_images t_made t_now : Int} (o_t : Ob N Λ t 20 14) (f_t_images : (Λ t).2.2 2 = t_images) (f_t_now : (Λ t).2.2 0 = t_now) (f_t_made : (Λ t).2.2 3 = t_made) (h0d : 1 ≤ d)
    (h : ((x1 < 0 → P (-2) σ) ∧ (¬ (x1 < 0) → ((x1 < 2 → (Ix N Λ t_images 4 x1 ∧ (∀ b1, b1 = (Λ t_images).2.2 x1 → (Ob N Λ b1 16 3 ∧ (CV l mX7_take (d - 1) [(2, b1), (2, t_now)] N Λ σ (fun σ2 => (Ix N Λ t_made 2 x1 ∧ (((1 : Int) = 0 ∨ (1 : Int) = 1) ∧ (∀ τ3, τ3 = st σ2 t_made x1 1 → P 0 τ3))))))))) ∧ (¬ (x1 < 2) → P (-2) σ))))) :
    WI l mX11_image d P 0 [(2, t), (0, x1)] [] N Λ σ := by
  have hd_1 : 1 ≤ d := Nat.le_trans (by decide) h0d
  refine r_iload_n (x := x1) d_X11_image_0 rfl ?_
  refine r_if_lt (tgt := 9) d_X11_image_1 rfl (fun hc => ?_) (fun hc => ?_)
  · have h := h.1 hc
    refine r_bipush (x := (-2)) d_X11_image_9 ⟨by decide, by decide⟩ (by decide) ?_
    exact r_iret d_X11_image_11 rfl rfl (Nat.le_refl 0) (Nat.le_refl 0) ⟨_, rfl, rfl, rfl, h⟩
  · have h := h.2 hc
    refine r_iload_n (x := x1) d_X11_image_4 rfl ?_
    refine r_iconst (x := 2) d_X11_image_5 ⟨by decide, by decide⟩ ?_
    refine r_ic_lt (tgt := 12) d_X11_image_6 rfl (fun hc => ?_) (fun hc => ?_)
    · have h := h.1 hc
      refine r_aload_n (x := t) d_X11_image_12 rfl o_t.1 ?_
      refine r_getf (j := 2) (t := 2) (x := t_images) d_X11_image_13 kX11 (by decide) fl_X11_23 o_t.1 o_t.2.1 o_t.2.2.1 o_t.2.2.2 rfl f_t_images ?_
      refine r_iload_n (x := x1) d_X11_image_16 rfl ?_
      refine x_aald (t := 4) (by decide) d_X11_image_17 h.1 (fun b1 eb1 => ?_)
      have h := h.2 b1 eb1
      have oob1 := h.1
      have h := h.2
      refine r_aload_n (x := t) d_X11_image_18 rfl o_t.1 ?_
      refine r_getf (j := 0) (t := 2) (x := t_now) d_X11_image_19 kX11 (by decide) fl_X11_10 o_t.1 o_t.2.1 o_t.2.2.1 o_t.2.2.2 rfl f_t_now ?_
      refine x_callVV (Y2 := mX7_take) (c := b1) (As := [(2, t_now)]) (S := []) d_X11_image_22 ok_mX7_take ml_X11_322 rfl (Nat.le_of_ble_eq_true rfl) (Nat.le_of_ble_eq_true rfl) rfl hd_1 kX7 oob1 (CV.mono h (fun σ2 h => ?_))
      refine r_aload_n (x := t) d_X11_image_25 rfl o_t.1 ?_
      refine r_getf (j := 3) (t := 2) (x := t_made) d_X11_image_26 kX11 (by decide) fl_X11_27 o_t.1 o_t.2.1 o_t.2.2.1 o_t.2.2.2 rfl f_t_made ?_
      refine r_iload_n (x := x1) d_X11_image_29 rfl ?_
      refine r_iconst (x := 1) d_X11_image_30 ⟨by decide, by decide⟩ ?_
      refine x_zast d_X11_image_31 h.1 h.2.1 ?_
      have h := h.2.2
      refine r_nmM (fun τ3 eτ3 => ?_)
      have h := h τ3 eτ3
      refine r_iconst (x := 0) d_X11_image_32 ⟨by decide, by decide⟩ ?_
      exact r_iret d_X11_image_33 rfl rfl (Nat.le_refl 0) (Nat.le_refl 0) ⟨_, rfl, rfl, rfl, h⟩
    · have h := h.2 hc
      refine r_bipush (x := (-2)) d_X11_image_9 ⟨by decide, by decide⟩ (by decide) ?_
      exact r_iret d_X11_image_11 rfl rfl (Nat.le_refl 0) (Nat.le_refl 0) ⟨_, rfl, rfl, rfl, h⟩
theorem v_X11_restore_0 {l : Launch} {d N : Nat} {Λ : Lay} {P : Int → Mem → Prop} {σ : Mem} {x1 t t_history t_images t_made t_now : Int} (o_t : Ob N Λ t 20 14) (f_t_made : (Λ t).2.2 3 = t_made) (f_t_now : (Λ t).2.2 0 = t_now) (f_t_images : (Λ t).2.2 2 = t_images) (o_t_now : Ob N Λ t_now 16 3) (f_t_history : (Λ t).2.2 1 = t_history) (o_t_history : Ob N Λ t_history 14 3) (h0d : 1 ≤ d)
    (h : ((x1 < 0 → P (-2) σ) ∧ (¬ (x1 < 0) → ((x1 < 2 → (Ix N Λ t_made 2 x1 ∧ ((¬ (σ t_made x1) = 0 → (Ix N Λ t_images 4 x1 ∧ (∀ b1, b1 = (Λ t_images).2.2 x1 → (Ob N Λ b1 16 3 ∧ (CV l mX7_take (d - 1) [(2, t_now), (2, b1)] N Λ σ (fun σ2 => (∀ τ3, τ3 = st σ2 t_history 0 0 → P 0 τ3))))))) ∧ ((σ t_made x1) = 0 → P (-6) σ)))) ∧ (¬ (x1 < 2) → P (-2) σ))))) :
    WI l mX11_restore d P 0 [(2, t), (0, x1)] [] N Λ σ := by
  have hd_1 : 1 ≤ d := Nat.le_trans (by decide) h0d
  refine r_iload_n (x := x1) d_X11_restore_0 rfl ?_
  refine r_if_lt (tgt := 9) d_X11_restore_1 rfl (fun hc => ?_) (fun hc => ?_)
  · have h := h.1 hc
    refine r_bipush (x := (-2)) d_X11_restore_9 ⟨by decide, by decide⟩ (by decide) ?_
    exact r_iret d_X11_restore_11 rfl rfl (Nat.le_refl 0) (Nat.le_refl 0) ⟨_, rfl, rfl, rfl, h⟩
  · have h := h.2 hc
    refine r_iload_n (x := x1) d_X11_restore_4 rfl ?_
    refine r_iconst (x := 2) d_X11_restore_5 ⟨by decide, by decide⟩ ?_
    refine r_ic_lt (tgt := 12) d_X11_restore_6 rfl (fun hc => ?_) (fun hc => ?_)
    · have h := h.1 hc
      refine r_aload_n (x := t) d_X11_restore_12 rfl o_t.1 ?_
      refine r_getf (j := 3) (t := 2) (x := t_made) d_X11_restore_13 kX11 (by decide) fl_X11_27 o_t.1 o_t.2.1 o_t.2.2.1 o_t.2.2.2 rfl f_t_made ?_
      refine r_iload_n (x := x1) d_X11_restore_16 rfl ?_
      refine x_zald d_X11_restore_17 h.1 ?_
      have h := h.2
      refine r_if_ne (tgt := 24) d_X11_restore_18 rfl (fun hc => ?_) (fun hc => ?_)
      · have h := h.1 hc
        refine r_aload_n (x := t) d_X11_restore_24 rfl o_t.1 ?_
        refine r_getf (j := 0) (t := 2) (x := t_now) d_X11_restore_25 kX11 (by decide) fl_X11_10 o_t.1 o_t.2.1 o_t.2.2.1 o_t.2.2.2 rfl f_t_now ?_
        refine r_aload_n (x := t) d_X11_restore_28 rfl o_t.1 ?_
        refine r_getf (j := 2) (t := 2) (x := t_images) d_X11_restore_29 kX11 (by decide) fl_X11_23 o_t.1 o_t.2.1 o_t.2.2.1 o_t.2.2.2 rfl f_t_images ?_
        refine r_iload_n (x := x1) d_X11_restore_32 rfl ?_
        refine x_aald (t := 4) (by decide) d_X11_restore_33 h.1 (fun b1 eb1 => ?_)
        have h := h.2 b1 eb1
        have oob1 := h.1
        have h := h.2
        refine x_callVV (Y2 := mX7_take) (c := t_now) (As := [(2, b1)]) (S := []) d_X11_restore_34 ok_mX7_take ml_X11_322 rfl (Nat.le_of_ble_eq_true rfl) (Nat.le_of_ble_eq_true rfl) rfl hd_1 kX7 o_t_now (CV.mono h (fun σ2 h => ?_))
        refine r_aload_n (x := t) d_X11_restore_37 rfl o_t.1 ?_
        refine r_getf (j := 1) (t := 2) (x := t_history) d_X11_restore_38 kX11 (by decide) fl_X11_19 o_t.1 o_t.2.1 o_t.2.2.1 o_t.2.2.2 rfl f_t_history ?_
        refine x_callVV (Y2 := mX4_forget) (c := t_history) (As := []) (S := []) d_X11_restore_41 ok_mX4_forget ml_X11_324 rfl (Nat.le_of_ble_eq_true rfl) (Nat.le_of_ble_eq_true rfl) rfl hd_1 kX4 o_t_history (c_X4_forget (v_X4_forget_0 o_t_history ?_))
        intro τ3 eτ3
        have h := h τ3 eτ3
        show WP l mX11_restore (rm d 0 0) noX _ 0 0 44 [(2, t), (0, x1)] [] N Λ τ3
        refine r_iconst (x := 0) d_X11_restore_44 ⟨by decide, by decide⟩ ?_
        exact r_iret d_X11_restore_45 rfl rfl (Nat.le_refl 0) (Nat.le_refl 0) ⟨_, rfl, rfl, rfl, h⟩
      · have h := h.2 hc
        refine r_bipush (x := (-6)) d_X11_restore_21 ⟨by decide, by decide⟩ (by decide) ?_
        exact r_iret d_X11_restore_23 rfl rfl (Nat.le_refl 0) (Nat.le_refl 0) ⟨_, rfl, rfl, rfl, h⟩
    · have h := h.2 hc
      refine r_bipush (x := (-2)) d_X11_restore_9 ⟨by decide, by decide⟩ (by decide) ?_
      exact r_iret d_X11_restore_11 rfl rfl (Nat.le_refl 0) (Nat.le_refl 0) ⟨_, rfl, rfl, rfl, h⟩
theorem v_X11_count_0 {l : Launch} {d N : Nat} {Λ : Lay} {P : Int → Mem → Prop} {σ : Mem} {x1 t t_history t_now t_tape : Int} (o_t : Ob N Λ t 20 14) (f_t_now : (Λ t).2.2 0 = t_now) (o_t_now : Ob N Λ t_now 16 3) (f_t_tape : (Λ t).2.2 4 = t_tape) (o_t_tape : Ob N Λ t_tape 18 6) (f_t_history : (Λ t).2.2 1 = t_history) (o_t_history : Ob N Λ t_history 14 3) (h0d : 1 ≤ d)
    (h : ((x1 < 0 ∨ 5 < x1 → P (-1) σ) ∧ (x1 = 0 → (CI l mX7_allTerms (d - 1) [(2, t_now)] N Λ σ (fun v2 σ1 => P v2 σ1))) ∧ (x1 = 1 → (CI l mX7_factsThatAre (d - 1) [(2, t_now), (0, 0)] N Λ σ (fun v4 σ3 => P v4 σ3))) ∧ (x1 = 2 → (CI l mX7_factsThatAre (d - 1) [(2, t_now), (0, 1)] N Λ σ (fun v6 σ5 => P v6 σ5))) ∧ (x1 = 3 → P (σ t_tape 1) σ) ∧ (x1 = 4 → P (σ t_history 0) σ) ∧ (x1 = 5 → (CI l mX7_bracketsWorthZero (d - 1) [(2, t_now)] N Λ σ (fun v8 σ7 => P v8 σ7))))) :
    WI l mX11_count d P 0 [(2, t), (0, x1)] [] N Λ σ := by
  have hd_1 : 1 ≤ d := Nat.le_trans (by decide) h0d
  refine r_iload_n (x := x1) d_X11_count_0 rfl ?_
  by_cases hr : x1 < 0 ∨ 5 < x1
  · have h := h.1 hr
    refine r_tout (tgt := 90) d_X11_count_1 hr rfl ?_
    refine r_iconst (x := (-1)) d_X11_count_90 ⟨by decide, by decide⟩ ?_
    exact r_iret d_X11_count_91 rfl rfl (Nat.le_refl 0) (Nat.le_refl 0) ⟨_, rfl, rfl, rfl, h⟩
  · have h := h.2
    by_cases hk0 : x1 = 0
    · have h := h.1 hk0
      refine r_tin (off := 39) (tgt := 40) d_X11_count_1 (by rw [hk0]; decide) (by rw [hk0]; decide) (by rw [hk0]; rfl) rfl ?_
      refine r_aload_n (x := t) d_X11_count_40 rfl o_t.1 ?_
      refine r_getf (j := 0) (t := 2) (x := t_now) d_X11_count_41 kX11 (by decide) fl_X11_10 o_t.1 o_t.2.1 o_t.2.2.1 o_t.2.2.2 rfl f_t_now ?_
      refine x_callVI (Y2 := mX7_allTerms) (c := t_now) (As := []) (S := []) d_X11_count_44 ok_mX7_allTerms ml_X11_327 rfl (Nat.le_of_ble_eq_true rfl) (Nat.le_of_ble_eq_true rfl) rfl hd_1 kX7 o_t_now (CI.mono h (fun v2 σ1 h => ?_))
      exact r_iret d_X11_count_47 rfl rfl (Nat.le_refl 0) (Nat.le_refl 0) ⟨_, rfl, rfl, rfl, h⟩
    have h := h.2
    by_cases hk1 : x1 = 1
    · have h := h.1 hk1
      refine r_tin (off := 47) (tgt := 48) d_X11_count_1 (by rw [hk1]; decide) (by rw [hk1]; decide) (by rw [hk1]; rfl) rfl ?_
      refine r_aload_n (x := t) d_X11_count_48 rfl o_t.1 ?_
      refine r_getf (j := 0) (t := 2) (x := t_now) d_X11_count_49 kX11 (by decide) fl_X11_10 o_t.1 o_t.2.1 o_t.2.2.1 o_t.2.2.2 rfl f_t_now ?_
      refine r_iconst (x := 0) d_X11_count_52 ⟨by decide, by decide⟩ ?_
      refine x_callVI (Y2 := mX7_factsThatAre) (c := t_now) (As := [(0, 0)]) (S := []) d_X11_count_53 ok_mX7_factsThatAre ml_X11_330 rfl (Nat.le_of_ble_eq_true rfl) (Nat.le_of_ble_eq_true rfl) rfl hd_1 kX7 o_t_now (CI.mono h (fun v4 σ3 h => ?_))
      exact r_iret d_X11_count_56 rfl rfl (Nat.le_refl 0) (Nat.le_refl 0) ⟨_, rfl, rfl, rfl, h⟩
    have h := h.2
    by_cases hk2 : x1 = 2
    · have h := h.1 hk2
      refine r_tin (off := 56) (tgt := 57) d_X11_count_1 (by rw [hk2]; decide) (by rw [hk2]; decide) (by rw [hk2]; rfl) rfl ?_
      refine r_aload_n (x := t) d_X11_count_57 rfl o_t.1 ?_
      refine r_getf (j := 0) (t := 2) (x := t_now) d_X11_count_58 kX11 (by decide) fl_X11_10 o_t.1 o_t.2.1 o_t.2.2.1 o_t.2.2.2 rfl f_t_now ?_
      refine r_iconst (x := 1) d_X11_count_61 ⟨by decide, by decide⟩ ?_
      refine x_callVI (Y2 := mX7_factsThatAre) (c := t_now) (As := [(0, 1)]) (S := []) d_X11_count_62 ok_mX7_factsThatAre ml_X11_330 rfl (Nat.le_of_ble_eq_true rfl) (Nat.le_of_ble_eq_true rfl) rfl hd_1 kX7 o_t_now (CI.mono h (fun v6 σ5 h => ?_))
      exact r_iret d_X11_count_65 rfl rfl (Nat.le_refl 0) (Nat.le_refl 0) ⟨_, rfl, rfl, rfl, h⟩
    have h := h.2
    by_cases hk3 : x1 = 3
    · have h := h.1 hk3
      refine r_tin (off := 65) (tgt := 66) d_X11_count_1 (by rw [hk3]; decide) (by rw [hk3]; decide) (by rw [hk3]; rfl) rfl ?_
      refine r_aload_n (x := t) d_X11_count_66 rfl o_t.1 ?_
      refine r_getf (j := 4) (t := 2) (x := t_tape) d_X11_count_67 kX11 (by decide) fl_X11_34 o_t.1 o_t.2.1 o_t.2.2.1 o_t.2.2.2 rfl f_t_tape ?_
      refine r_getf (j := 1) (t := 0) (x := (σ t_tape 1)) d_X11_count_70 kX9 (by decide) fl_X11_94 o_t_tape.1 o_t_tape.2.1 o_t_tape.2.2.1 o_t_tape.2.2.2 rfl rfl ?_
      exact r_iret d_X11_count_73 rfl rfl (Nat.le_refl 0) (Nat.le_refl 0) ⟨_, rfl, rfl, rfl, h⟩
    have h := h.2
    by_cases hk4 : x1 = 4
    · have h := h.1 hk4
      refine r_tin (off := 73) (tgt := 74) d_X11_count_1 (by rw [hk4]; decide) (by rw [hk4]; decide) (by rw [hk4]; rfl) rfl ?_
      refine r_aload_n (x := t) d_X11_count_74 rfl o_t.1 ?_
      refine r_getf (j := 1) (t := 2) (x := t_history) d_X11_count_75 kX11 (by decide) fl_X11_19 o_t.1 o_t.2.1 o_t.2.2.1 o_t.2.2.2 rfl f_t_history ?_
      refine r_getf (j := 0) (t := 0) (x := (σ t_history 0)) d_X11_count_78 kX4 (by decide) fl_X11_317 o_t_history.1 o_t_history.2.1 o_t_history.2.2.1 o_t_history.2.2.2 rfl rfl ?_
      exact r_iret d_X11_count_81 rfl rfl (Nat.le_refl 0) (Nat.le_refl 0) ⟨_, rfl, rfl, rfl, h⟩
    have h := h.2
    by_cases hk5 : x1 = 5
    · have h := h hk5
      refine r_tin (off := 81) (tgt := 82) d_X11_count_1 (by rw [hk5]; decide) (by rw [hk5]; decide) (by rw [hk5]; rfl) rfl ?_
      refine r_aload_n (x := t) d_X11_count_82 rfl o_t.1 ?_
      refine r_getf (j := 0) (t := 2) (x := t_now) d_X11_count_83 kX11 (by decide) fl_X11_10 o_t.1 o_t.2.1 o_t.2.2.1 o_t.2.2.2 rfl f_t_now ?_
      refine x_callVI (Y2 := mX7_bracketsWorthZero) (c := t_now) (As := []) (S := []) d_X11_count_86 ok_mX7_bracketsWorthZero ml_X11_333 rfl (Nat.le_of_ble_eq_true rfl) (Nat.le_of_ble_eq_true rfl) rfl hd_1 kX7 o_t_now (CI.mono h (fun v8 σ7 h => ?_))
      exact r_iret d_X11_count_89 rfl rfl (Nat.le_refl 0) (Nat.le_refl 0) ⟨_, rfl, rfl, rfl, h⟩
    exact (tsw_5 hr hk0 hk1 hk2 hk3 hk4 hk5).elim
