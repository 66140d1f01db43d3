theorem d_X4_keep_0 : DC mX4_keep 0 (.aload_n 0) 1 1 := ⟨by decide +kernel, rfl⟩
theorem d_X4_keep_1 : DC mX4_keep 1 (.getfield 17) 3 4 := ⟨by decide +kernel, rfl⟩
theorem d_X4_keep_4 : DC mX4_keep 4 (.aload_n 0) 1 5 := ⟨by decide +kernel, rfl⟩
theorem d_X4_keep_5 : DC mX4_keep 5 (.getfield 21) 3 8 := ⟨by decide +kernel, rfl⟩
theorem d_X4_keep_8 : DC mX4_keep 8 (.aaload) 1 9 := ⟨by decide +kernel, rfl⟩
theorem d_X4_keep_9 : DC mX4_keep 9 (.aload_n 1) 1 10 := ⟨by decide +kernel, rfl⟩
theorem d_X4_keep_10 : DC mX4_keep 10 (.invokevirtual 25) 3 13 := ⟨by decide +kernel, rfl⟩
theorem d_X4_keep_13 : DC mX4_keep 13 (.aload_n 0) 1 14 := ⟨by decide +kernel, rfl⟩
theorem d_X4_keep_14 : DC mX4_keep 14 (.aload_n 0) 1 15 := ⟨by decide +kernel, rfl⟩
theorem d_X4_keep_15 : DC mX4_keep 15 (.getfield 21) 3 18 := ⟨by decide +kernel, rfl⟩
theorem d_X4_keep_18 : DC mX4_keep 18 (.iconst 1) 1 19 := ⟨by decide +kernel, rfl⟩
theorem d_X4_keep_19 : DC mX4_keep 19 (.iadd) 1 20 := ⟨by decide +kernel, rfl⟩
theorem d_X4_keep_20 : DC mX4_keep 20 (.bipush 10) 2 22 := ⟨by decide +kernel, rfl⟩
theorem d_X4_keep_22 : DC mX4_keep 22 (.irem) 1 23 := ⟨by decide +kernel, rfl⟩
theorem d_X4_keep_23 : DC mX4_keep 23 (.putfield 21) 3 26 := ⟨by decide +kernel, rfl⟩
theorem d_X4_keep_26 : DC mX4_keep 26 (.aload_n 0) 1 27 := ⟨by decide +kernel, rfl⟩
theorem d_X4_keep_27 : DC mX4_keep 27 (.aload_n 0) 1 28 := ⟨by decide +kernel, rfl⟩
theorem d_X4_keep_28 : DC mX4_keep 28 (.getfield 9) 3 31 := ⟨by decide +kernel, rfl⟩
theorem d_X4_keep_31 : DC mX4_keep 31 (.iconst 1) 1 32 := ⟨by decide +kernel, rfl⟩
theorem d_X4_keep_32 : DC mX4_keep 32 (.iadd) 1 33 := ⟨by decide +kernel, rfl⟩
theorem d_X4_keep_33 : DC mX4_keep 33 (.bipush 10) 2 35 := ⟨by decide +kernel, rfl⟩
theorem d_X4_keep_35 : DC mX4_keep 35 (.invokestatic 29) 3 38 := ⟨by decide +kernel, rfl⟩
theorem d_X4_keep_38 : DC mX4_keep 38 (.putfield 9) 3 41 := ⟨by decide +kernel, rfl⟩
theorem d_X4_keep_41 : DC mX4_keep 41 (.return_) 1 42 := ⟨by decide +kernel, rfl⟩
theorem d_X4_goBack_0 : DC mX4_goBack 0 (.aload_n 0) 1 1 := ⟨by decide +kernel, rfl⟩
theorem d_X4_goBack_1 : DC mX4_goBack 1 (.aload_n 0) 1 2 := ⟨by decide +kernel, rfl⟩
theorem d_X4_goBack_2 : DC mX4_goBack 2 (.getfield 21) 3 5 := ⟨by decide +kernel, rfl⟩
theorem d_X4_goBack_5 : DC mX4_goBack 5 (.iload_n 1) 1 6 := ⟨by decide +kernel, rfl⟩
theorem d_X4_goBack_6 : DC mX4_goBack 6 (.isub) 1 7 := ⟨by decide +kernel, rfl⟩
theorem d_X4_goBack_7 : DC mX4_goBack 7 (.bipush 10) 2 9 := ⟨by decide +kernel, rfl⟩
theorem d_X4_goBack_9 : DC mX4_goBack 9 (.invokestatic 35) 3 12 := ⟨by decide +kernel, rfl⟩
theorem d_X4_goBack_12 : DC mX4_goBack 12 (.putfield 21) 3 15 := ⟨by decide +kernel, rfl⟩
theorem d_X4_goBack_15 : DC mX4_goBack 15 (.aload_n 0) 1 16 := ⟨by decide +kernel, rfl⟩
theorem d_X4_goBack_16 : DC mX4_goBack 16 (.dup) 1 17 := ⟨by decide +kernel, rfl⟩
theorem d_X4_goBack_17 : DC mX4_goBack 17 (.getfield 9) 3 20 := ⟨by decide +kernel, rfl⟩
theorem d_X4_goBack_20 : DC mX4_goBack 20 (.iload_n 1) 1 21 := ⟨by decide +kernel, rfl⟩
theorem d_X4_goBack_21 : DC mX4_goBack 21 (.isub) 1 22 := ⟨by decide +kernel, rfl⟩
theorem d_X4_goBack_22 : DC mX4_goBack 22 (.putfield 9) 3 25 := ⟨by decide +kernel, rfl⟩
theorem d_X4_goBack_25 : DC mX4_goBack 25 (.aload_n 2) 1 26 := ⟨by decide +kernel, rfl⟩
theorem d_X4_goBack_26 : DC mX4_goBack 26 (.aload_n 0) 1 27 := ⟨by decide +kernel, rfl⟩
theorem d_X4_goBack_27 : DC mX4_goBack 27 (.getfield 17) 3 30 := ⟨by decide +kernel, rfl⟩
theorem d_X4_goBack_30 : DC mX4_goBack 30 (.aload_n 0) 1 31 := ⟨by decide +kernel, rfl⟩
theorem d_X4_goBack_31 : DC mX4_goBack 31 (.getfield 21) 3 34 := ⟨by decide +kernel, rfl⟩
theorem d_X4_goBack_34 : DC mX4_goBack 34 (.aaload) 1 35 := ⟨by decide +kernel, rfl⟩
theorem d_X4_goBack_35 : DC mX4_goBack 35 (.invokevirtual 25) 3 38 := ⟨by decide +kernel, rfl⟩
theorem d_X4_goBack_38 : DC mX4_goBack 38 (.return_) 1 39 := ⟨by decide +kernel, rfl⟩
theorem d_X4_forget_0 : DC mX4_forget 0 (.aload_n 0) 1 1 := ⟨by decide +kernel, rfl⟩
theorem d_X4_forget_1 : DC mX4_forget 1 (.iconst 0) 1 2 := ⟨by decide +kernel, rfl⟩
theorem d_X4_forget_2 : DC mX4_forget 2 (.putfield 9) 3 5 := ⟨by decide +kernel, rfl⟩
theorem d_X4_forget_5 : DC mX4_forget 5 (.return_) 1 6 := ⟨by decide +kernel, rfl⟩
theorem d_X7_take_0 : DC mX7_take 0 (.iconst 0) 1 1 := ⟨by decide +kernel, rfl⟩
theorem d_X7_take_1 : DC mX7_take 1 (.istore_n 2) 1 2 := ⟨by decide +kernel, rfl⟩
theorem d_X7_take_2 : DC mX7_take 2 (.iload_n 2) 1 3 := ⟨by decide +kernel, rfl⟩
theorem d_X7_take_3 : DC mX7_take 3 (.bipush 6) 2 5 := ⟨by decide +kernel, rfl⟩
theorem d_X7_take_5 : DC mX7_take 5 (.if_icmp .ge 24) 3 8 := ⟨by decide +kernel, rfl⟩
theorem d_X7_take_8 : DC mX7_take 8 (.aload_n 0) 1 9 := ⟨by decide +kernel, rfl⟩
theorem d_X7_take_9 : DC mX7_take 9 (.getfield 11) 3 12 := ⟨by decide +kernel, rfl⟩
theorem d_X7_take_12 : DC mX7_take 12 (.iload_n 2) 1 13 := ⟨by decide +kernel, rfl⟩
theorem d_X7_take_13 : DC mX7_take 13 (.aaload) 1 14 := ⟨by decide +kernel, rfl⟩
theorem d_X7_take_14 : DC mX7_take 14 (.aload_n 1) 1 15 := ⟨by decide +kernel, rfl⟩
theorem d_X7_take_15 : DC mX7_take 15 (.getfield 11) 3 18 := ⟨by decide +kernel, rfl⟩
theorem d_X7_take_18 : DC mX7_take 18 (.iload_n 2) 1 19 := ⟨by decide +kernel, rfl⟩
theorem d_X7_take_19 : DC mX7_take 19 (.aaload) 1 20 := ⟨by decide +kernel, rfl⟩
theorem d_X7_take_20 : DC mX7_take 20 (.invokevirtual 31) 3 23 := ⟨by decide +kernel, rfl⟩
theorem d_X7_take_23 : DC mX7_take 23 (.iinc 2 1) 3 26 := ⟨by decide +kernel, rfl⟩
theorem d_X7_take_26 : DC mX7_take 26 (.goto (-24)) 3 29 := ⟨by decide +kernel, rfl⟩
theorem d_X7_take_29 : DC mX7_take 29 (.aload_n 1) 1 30 := ⟨by decide +kernel, rfl⟩
theorem d_X7_take_30 : DC mX7_take 30 (.getfield 17) 3 33 := ⟨by decide +kernel, rfl⟩
theorem d_X7_take_33 : DC mX7_take 33 (.iconst 0) 1 34 := ⟨by decide +kernel, rfl⟩
theorem d_X7_take_34 : DC mX7_take 34 (.aload_n 0) 1 35 := ⟨by decide +kernel, rfl⟩
theorem d_X7_take_35 : DC mX7_take 35 (.getfield 17) 3 38 := ⟨by decide +kernel, rfl⟩
theorem d_X7_take_38 : DC mX7_take 38 (.iconst 0) 1 39 := ⟨by decide +kernel, rfl⟩
theorem d_X7_take_39 : DC mX7_take 39 (.aload_n 0) 1 40 := ⟨by decide +kernel, rfl⟩
theorem d_X7_take_40 : DC mX7_take 40 (.getfield 17) 3 43 := ⟨by decide +kernel, rfl⟩
theorem d_X7_take_43 : DC mX7_take 43 (.arraylength) 1 44 := ⟨by decide +kernel, rfl⟩
theorem d_X7_take_44 : DC mX7_take 44 (.invokestatic 35) 3 47 := ⟨by decide +kernel, rfl⟩
theorem d_X7_take_47 : DC mX7_take 47 (.aload_n 1) 1 48 := ⟨by decide +kernel, rfl⟩
theorem d_X7_take_48 : DC mX7_take 48 (.getfield 21) 3 51 := ⟨by decide +kernel, rfl⟩
theorem d_X7_take_51 : DC mX7_take 51 (.iconst 0) 1 52 := ⟨by decide +kernel, rfl⟩
theorem d_X7_take_52 : DC mX7_take 52 (.aload_n 0) 1 53 := ⟨by decide +kernel, rfl⟩
theorem d_X7_take_53 : DC mX7_take 53 (.getfield 21) 3 56 := ⟨by decide +kernel, rfl⟩
theorem d_X7_take_56 : DC mX7_take 56 (.iconst 0) 1 57 := ⟨by decide +kernel, rfl⟩
theorem d_X7_take_57 : DC mX7_take 57 (.aload_n 0) 1 58 := ⟨by decide +kernel, rfl⟩
theorem d_X7_take_58 : DC mX7_take 58 (.getfield 21) 3 61 := ⟨by decide +kernel, rfl⟩
theorem d_X7_take_61 : DC mX7_take 61 (.arraylength) 1 62 := ⟨by decide +kernel, rfl⟩
theorem d_X7_take_62 : DC mX7_take 62 (.invokestatic 35) 3 65 := ⟨by decide +kernel, rfl⟩
theorem d_X7_take_65 : DC mX7_take 65 (.return_) 1 66 := ⟨by decide +kernel, rfl⟩
theorem d_X7_allTerms_0 : DC mX7_allTerms 0 (.iconst 0) 1 1 := ⟨by decide +kernel, rfl⟩
theorem d_X7_allTerms_1 : DC mX7_allTerms 1 (.istore_n 1) 1 2 := ⟨by decide +kernel, rfl⟩
theorem d_X7_allTerms_2 : DC mX7_allTerms 2 (.iconst 0) 1 3 := ⟨by decide +kernel, rfl⟩
theorem d_X7_allTerms_3 : DC mX7_allTerms 3 (.istore_n 2) 1 4 := ⟨by decide +kernel, rfl⟩
theorem d_X7_allTerms_4 : DC mX7_allTerms 4 (.iload_n 2) 1 5 := ⟨by decide +kernel, rfl⟩
theorem d_X7_allTerms_5 : DC mX7_allTerms 5 (.bipush 6) 2 7 := ⟨by decide +kernel, rfl⟩
theorem d_X7_allTerms_7 : DC mX7_allTerms 7 (.if_icmp .ge 21) 3 10 := ⟨by decide +kernel, rfl⟩
theorem d_X7_allTerms_10 : DC mX7_allTerms 10 (.iload_n 1) 1 11 := ⟨by decide +kernel, rfl⟩
theorem d_X7_allTerms_11 : DC mX7_allTerms 11 (.aload_n 0) 1 12 := ⟨by decide +kernel, rfl⟩
theorem d_X7_allTerms_12 : DC mX7_allTerms 12 (.getfield 11) 3 15 := ⟨by decide +kernel, rfl⟩
theorem d_X7_allTerms_15 : DC mX7_allTerms 15 (.iload_n 2) 1 16 := ⟨by decide +kernel, rfl⟩
theorem d_X7_allTerms_16 : DC mX7_allTerms 16 (.aaload) 1 17 := ⟨by decide +kernel, rfl⟩
theorem d_X7_allTerms_17 : DC mX7_allTerms 17 (.getfield 41) 3 20 := ⟨by decide +kernel, rfl⟩
theorem d_X7_allTerms_20 : DC mX7_allTerms 20 (.iadd) 1 21 := ⟨by decide +kernel, rfl⟩
theorem d_X7_allTerms_21 : DC mX7_allTerms 21 (.istore_n 1) 1 22 := ⟨by decide +kernel, rfl⟩
theorem d_X7_allTerms_22 : DC mX7_allTerms 22 (.iinc 2 1) 3 25 := ⟨by decide +kernel, rfl⟩
theorem d_X7_allTerms_25 : DC mX7_allTerms 25 (.goto (-21)) 3 28 := ⟨by decide +kernel, rfl⟩
theorem d_X7_allTerms_28 : DC mX7_allTerms 28 (.iload_n 1) 1 29 := ⟨by decide +kernel, rfl⟩
theorem d_X7_allTerms_29 : DC mX7_allTerms 29 (.ireturn) 1 30 := ⟨by decide +kernel, rfl⟩
theorem d_X7_factOf_0 : DC mX7_factOf 0 (.aload_n 0) 1 1 := ⟨by decide +kernel, rfl⟩
theorem d_X7_factOf_1 : DC mX7_factOf 1 (.getfield 21) 3 4 := ⟨by decide +kernel, rfl⟩
theorem d_X7_factOf_4 : DC mX7_factOf 4 (.iload_n 1) 1 5 := ⟨by decide +kernel, rfl⟩
theorem d_X7_factOf_5 : DC mX7_factOf 5 (.invokestatic 45) 3 8 := ⟨by decide +kernel, rfl⟩
theorem d_X7_factOf_8 : DC mX7_factOf 8 (.iaload) 1 9 := ⟨by decide +kernel, rfl⟩
theorem d_X7_factOf_9 : DC mX7_factOf 9 (.ireturn) 1 10 := ⟨by decide +kernel, rfl⟩
theorem d_X7_tellFact_0 : DC mX7_tellFact 0 (.aload_n 0) 1 1 := ⟨by decide +kernel, rfl⟩
theorem d_X7_tellFact_1 : DC mX7_tellFact 1 (.getfield 21) 3 4 := ⟨by decide +kernel, rfl⟩
theorem d_X7_tellFact_4 : DC mX7_tellFact 4 (.iload_n 1) 1 5 := ⟨by decide +kernel, rfl⟩
theorem d_X7_tellFact_5 : DC mX7_tellFact 5 (.invokestatic 45) 3 8 := ⟨by decide +kernel, rfl⟩
theorem d_X7_tellFact_8 : DC mX7_tellFact 8 (.iload_n 2) 1 9 := ⟨by decide +kernel, rfl⟩
theorem d_X7_tellFact_9 : DC mX7_tellFact 9 (.iastore) 1 10 := ⟨by decide +kernel, rfl⟩
theorem d_X7_tellFact_10 : DC mX7_tellFact 10 (.return_) 1 11 := ⟨by decide +kernel, rfl⟩
theorem d_X7_factsThatAre_0 : DC mX7_factsThatAre 0 (.iconst 0) 1 1 := ⟨by decide +kernel, rfl⟩
theorem d_X7_factsThatAre_1 : DC mX7_factsThatAre 1 (.istore_n 2) 1 2 := ⟨by decide +kernel, rfl⟩
theorem d_X7_factsThatAre_2 : DC mX7_factsThatAre 2 (.iconst 0) 1 3 := ⟨by decide +kernel, rfl⟩
theorem d_X7_factsThatAre_3 : DC mX7_factsThatAre 3 (.istore_n 3) 1 4 := ⟨by decide +kernel, rfl⟩
theorem d_X7_factsThatAre_4 : DC mX7_factsThatAre 4 (.iload_n 3) 1 5 := ⟨by decide +kernel, rfl⟩
theorem d_X7_factsThatAre_5 : DC mX7_factsThatAre 5 (.bipush 120) 2 7 := ⟨by decide +kernel, rfl⟩
theorem d_X7_factsThatAre_7 : DC mX7_factsThatAre 7 (.if_icmp .ge 22) 3 10 := ⟨by decide +kernel, rfl⟩
theorem d_X7_factsThatAre_10 : DC mX7_factsThatAre 10 (.aload_n 0) 1 11 := ⟨by decide +kernel, rfl⟩
theorem d_X7_factsThatAre_11 : DC mX7_factsThatAre 11 (.getfield 21) 3 14 := ⟨by decide +kernel, rfl⟩
theorem d_X7_factsThatAre_14 : DC mX7_factsThatAre 14 (.iload_n 3) 1 15 := ⟨by decide +kernel, rfl⟩
theorem d_X7_factsThatAre_15 : DC mX7_factsThatAre 15 (.iaload) 1 16 := ⟨by decide +kernel, rfl⟩
theorem d_X7_factsThatAre_16 : DC mX7_factsThatAre 16 (.iload_n 1) 1 17 := ⟨by decide +kernel, rfl⟩
theorem d_X7_factsThatAre_17 : DC mX7_factsThatAre 17 (.if_icmp .ne 6) 3 20 := ⟨by decide +kernel, rfl⟩
theorem d_X7_factsThatAre_20 : DC mX7_factsThatAre 20 (.iinc 2 1) 3 23 := ⟨by decide +kernel, rfl⟩
theorem d_X7_factsThatAre_23 : DC mX7_factsThatAre 23 (.iinc 3 1) 3 26 := ⟨by decide +kernel, rfl⟩
theorem d_X7_factsThatAre_26 : DC mX7_factsThatAre 26 (.goto (-22)) 3 29 := ⟨by decide +kernel, rfl⟩
theorem d_X7_factsThatAre_29 : DC mX7_factsThatAre 29 (.iload_n 2) 1 30 := ⟨by decide +kernel, rfl⟩
theorem d_X7_factsThatAre_30 : DC mX7_factsThatAre 30 (.ireturn) 1 31 := ⟨by decide +kernel, rfl⟩
theorem d_X7_reduceTo_0 : DC mX7_reduceTo 0 (.aload_n 1) 1 1 := ⟨by decide +kernel, rfl⟩
theorem d_X7_reduceTo_1 : DC mX7_reduceTo 1 (.invokevirtual 51) 3 4 := ⟨by decide +kernel, rfl⟩
theorem d_X7_reduceTo_4 : DC mX7_reduceTo 4 (.iconst 0) 1 5 := ⟨by decide +kernel, rfl⟩
theorem d_X7_reduceTo_5 : DC mX7_reduceTo 5 (.istore_n 3) 1 6 := ⟨by decide +kernel, rfl⟩
theorem d_X7_reduceTo_6 : DC mX7_reduceTo 6 (.iload_n 3) 1 7 := ⟨by decide +kernel, rfl⟩
theorem d_X7_reduceTo_7 : DC mX7_reduceTo 7 (.aload_n 2) 1 8 := ⟨by decide +kernel, rfl⟩
theorem d_X7_reduceTo_8 : DC mX7_reduceTo 8 (.getfield 41) 3 11 := ⟨by decide +kernel, rfl⟩
theorem d_X7_reduceTo_11 : DC mX7_reduceTo 11 (.if_icmp .ge 41) 3 14 := ⟨by decide +kernel, rfl⟩
theorem d_X7_reduceTo_14 : DC mX7_reduceTo 14 (.aload_n 0) 1 15 := ⟨by decide +kernel, rfl⟩
theorem d_X7_reduceTo_15 : DC mX7_reduceTo 15 (.aload_n 2) 1 16 := ⟨by decide +kernel, rfl⟩
theorem d_X7_reduceTo_16 : DC mX7_reduceTo 16 (.getfield 54) 3 19 := ⟨by decide +kernel, rfl⟩
theorem d_X7_reduceTo_19 : DC mX7_reduceTo 19 (.iload_n 3) 1 20 := ⟨by decide +kernel, rfl⟩
theorem d_X7_reduceTo_20 : DC mX7_reduceTo 20 (.laload) 1 21 := ⟨by decide +kernel, rfl⟩
theorem d_X7_reduceTo_21 : DC mX7_reduceTo 21 (.iconst 0) 1 22 := ⟨by decide +kernel, rfl⟩
theorem d_X7_reduceTo_22 : DC mX7_reduceTo 22 (.invokevirtual 58) 3 25 := ⟨by decide +kernel, rfl⟩
theorem d_X7_reduceTo_25 : DC mX7_reduceTo 25 (.ifCond .ne 21) 3 28 := ⟨by decide +kernel, rfl⟩
theorem d_X7_reduceTo_28 : DC mX7_reduceTo 28 (.aload_n 1) 1 29 := ⟨by decide +kernel, rfl⟩
theorem d_X7_reduceTo_29 : DC mX7_reduceTo 29 (.aload_n 2) 1 30 := ⟨by decide +kernel, rfl⟩
theorem d_X7_reduceTo_30 : DC mX7_reduceTo 30 (.getfield 54) 3 33 := ⟨by decide +kernel, rfl⟩
theorem d_X7_reduceTo_33 : DC mX7_reduceTo 33 (.iload_n 3) 1 34 := ⟨by decide +kernel, rfl⟩
theorem d_X7_reduceTo_34 : DC mX7_reduceTo 34 (.laload) 1 35 := ⟨by decide +kernel, rfl⟩
theorem d_X7_reduceTo_35 : DC mX7_reduceTo 35 (.aload_n 2) 1 36 := ⟨by decide +kernel, rfl⟩
theorem d_X7_reduceTo_36 : DC mX7_reduceTo 36 (.getfield 62) 3 39 := ⟨by decide +kernel, rfl⟩
theorem d_X7_reduceTo_39 : DC mX7_reduceTo 39 (.iload_n 3) 1 40 := ⟨by decide +kernel, rfl⟩
theorem d_X7_reduceTo_40 : DC mX7_reduceTo 40 (.iaload) 1 41 := ⟨by decide +kernel, rfl⟩
theorem d_X7_reduceTo_41 : DC mX7_reduceTo 41 (.i2l) 1 42 := ⟨by decide +kernel, rfl⟩
theorem d_X7_reduceTo_42 : DC mX7_reduceTo 42 (.invokevirtual 65) 3 45 := ⟨by decide +kernel, rfl⟩
theorem d_X7_reduceTo_45 : DC mX7_reduceTo 45 (.pop) 1 46 := ⟨by decide +kernel, rfl⟩
theorem d_X7_reduceTo_46 : DC mX7_reduceTo 46 (.iinc 3 1) 3 49 := ⟨by decide +kernel, rfl⟩
theorem d_X7_reduceTo_49 : DC mX7_reduceTo 49 (.goto (-43)) 3 52 := ⟨by decide +kernel, rfl⟩
theorem d_X7_reduceTo_52 : DC mX7_reduceTo 52 (.return_) 1 53 := ⟨by decide +kernel, rfl⟩
theorem d_X7_cannotVanish_0 : DC mX7_cannotVanish 0 (.lload_n 1) 1 1 := ⟨by decide +kernel, rfl⟩
theorem d_X7_cannotVanish_1 : DC mX7_cannotVanish 1 (.invokestatic 69) 3 4 := ⟨by decide +kernel, rfl⟩
theorem d_X7_cannotVanish_4 : DC mX7_cannotVanish 4 (.istore_n 3) 1 5 := ⟨by decide +kernel, rfl⟩
theorem d_X7_cannotVanish_5 : DC mX7_cannotVanish 5 (.iload_n 3) 1 6 := ⟨by decide +kernel, rfl⟩
theorem d_X7_cannotVanish_6 : DC mX7_cannotVanish 6 (.ifCond .le 17) 3 9 := ⟨by decide +kernel, rfl⟩
theorem d_X7_cannotVanish_9 : DC mX7_cannotVanish 9 (.aload_n 0) 1 10 := ⟨by decide +kernel, rfl⟩
theorem d_X7_cannotVanish_10 : DC mX7_cannotVanish 10 (.lload_n 1) 1 11 := ⟨by decide +kernel, rfl⟩
theorem d_X7_cannotVanish_11 : DC mX7_cannotVanish 11 (.iconst 1) 1 12 := ⟨by decide +kernel, rfl⟩
theorem d_X7_cannotVanish_12 : DC mX7_cannotVanish 12 (.invokevirtual 58) 3 15 := ⟨by decide +kernel, rfl⟩
theorem d_X7_cannotVanish_15 : DC mX7_cannotVanish 15 (.iload_n 3) 1 16 := ⟨by decide +kernel, rfl⟩
theorem d_X7_cannotVanish_16 : DC mX7_cannotVanish 16 (.if_icmp .ne 7) 3 19 := ⟨by decide +kernel, rfl⟩
theorem d_X7_cannotVanish_19 : DC mX7_cannotVanish 19 (.iconst 1) 1 20 := ⟨by decide +kernel, rfl⟩
theorem d_X7_cannotVanish_20 : DC mX7_cannotVanish 20 (.goto 4) 3 23 := ⟨by decide +kernel, rfl⟩
theorem d_X7_cannotVanish_23 : DC mX7_cannotVanish 23 (.iconst 0) 1 24 := ⟨by decide +kernel, rfl⟩
theorem d_X7_cannotVanish_24 : DC mX7_cannotVanish 24 (.ireturn) 1 25 := ⟨by decide +kernel, rfl⟩
theorem d_X7_bracketsThatAre_0 : DC mX7_bracketsThatAre 0 (.iconst 0) 1 1 := ⟨by decide +kernel, rfl⟩
theorem d_X7_bracketsThatAre_1 : DC mX7_bracketsThatAre 1 (.istore 4) 2 3 := ⟨by decide +kernel, rfl⟩
theorem d_X7_bracketsThatAre_3 : DC mX7_bracketsThatAre 3 (.lload_n 1) 1 4 := ⟨by decide +kernel, rfl⟩
theorem d_X7_bracketsThatAre_4 : DC mX7_bracketsThatAre 4 (.invokestatic 69) 3 7 := ⟨by decide +kernel, rfl⟩
theorem d_X7_bracketsThatAre_7 : DC mX7_bracketsThatAre 7 (.istore 5) 2 9 := ⟨by decide +kernel, rfl⟩
theorem d_X7_bracketsThatAre_9 : DC mX7_bracketsThatAre 9 (.iconst 0) 1 10 := ⟨by decide +kernel, rfl⟩
theorem d_X7_bracketsThatAre_10 : DC mX7_bracketsThatAre 10 (.istore 6) 2 12 := ⟨by decide +kernel, rfl⟩
theorem d_X7_bracketsThatAre_12 : DC mX7_bracketsThatAre 12 (.iload 6) 2 14 := ⟨by decide +kernel, rfl⟩
theorem d_X7_bracketsThatAre_14 : DC mX7_bracketsThatAre 14 (.iload 5) 2 16 := ⟨by decide +kernel, rfl⟩
theorem d_X7_bracketsThatAre_16 : DC mX7_bracketsThatAre 16 (.if_icmp .ge 26) 3 19 := ⟨by decide +kernel, rfl⟩
theorem d_X7_bracketsThatAre_19 : DC mX7_bracketsThatAre 19 (.aload_n 0) 1 20 := ⟨by decide +kernel, rfl⟩
theorem d_X7_bracketsThatAre_20 : DC mX7_bracketsThatAre 20 (.lload_n 1) 1 21 := ⟨by decide +kernel, rfl⟩
theorem d_X7_bracketsThatAre_21 : DC mX7_bracketsThatAre 21 (.iload 6) 2 23 := ⟨by decide +kernel, rfl⟩
theorem d_X7_bracketsThatAre_23 : DC mX7_bracketsThatAre 23 (.invokestatic 73) 3 26 := ⟨by decide +kernel, rfl⟩
theorem d_X7_bracketsThatAre_26 : DC mX7_bracketsThatAre 26 (.invokevirtual 76) 3 29 := ⟨by decide +kernel, rfl⟩
theorem d_X7_bracketsThatAre_29 : DC mX7_bracketsThatAre 29 (.iload_n 3) 1 30 := ⟨by decide +kernel, rfl⟩
theorem d_X7_bracketsThatAre_30 : DC mX7_bracketsThatAre 30 (.if_icmp .ne 6) 3 33 := ⟨by decide +kernel, rfl⟩
theorem d_X7_bracketsThatAre_33 : DC mX7_bracketsThatAre 33 (.iinc 4 1) 3 36 := ⟨by decide +kernel, rfl⟩
theorem d_X7_bracketsThatAre_36 : DC mX7_bracketsThatAre 36 (.iinc 6 1) 3 39 := ⟨by decide +kernel, rfl⟩
theorem d_X7_bracketsThatAre_39 : DC mX7_bracketsThatAre 39 (.goto (-27)) 3 42 := ⟨by decide +kernel, rfl⟩
theorem d_X7_bracketsThatAre_42 : DC mX7_bracketsThatAre 42 (.iload 4) 2 44 := ⟨by decide +kernel, rfl⟩
theorem d_X7_bracketsThatAre_44 : DC mX7_bracketsThatAre 44 (.ireturn) 1 45 := ⟨by decide +kernel, rfl⟩
theorem d_X7_determinant_0 : DC mX7_determinant 0 (.iconst 3) 1 1 := ⟨by decide +kernel, rfl⟩
theorem d_X7_determinant_1 : DC mX7_determinant 1 (.iload_n 1) 1 2 := ⟨by decide +kernel, rfl⟩
theorem d_X7_determinant_2 : DC mX7_determinant 2 (.imul) 1 3 := ⟨by decide +kernel, rfl⟩
theorem d_X7_determinant_3 : DC mX7_determinant 3 (.istore 4) 2 5 := ⟨by decide +kernel, rfl⟩
theorem d_X7_determinant_5 : DC mX7_determinant 5 (.iconst 3) 1 6 := ⟨by decide +kernel, rfl⟩
theorem d_X7_determinant_6 : DC mX7_determinant 6 (.iload_n 2) 1 7 := ⟨by decide +kernel, rfl⟩
theorem d_X7_determinant_7 : DC mX7_determinant 7 (.imul) 1 8 := ⟨by decide +kernel, rfl⟩
theorem d_X7_determinant_8 : DC mX7_determinant 8 (.istore 5) 2 10 := ⟨by decide +kernel, rfl⟩
theorem d_X7_determinant_10 : DC mX7_determinant 10 (.iconst 3) 1 11 := ⟨by decide +kernel, rfl⟩
theorem d_X7_determinant_11 : DC mX7_determinant 11 (.iload_n 3) 1 12 := ⟨by decide +kernel, rfl⟩
theorem d_X7_determinant_12 : DC mX7_determinant 12 (.imul) 1 13 := ⟨by decide +kernel, rfl⟩
theorem d_X7_determinant_13 : DC mX7_determinant 13 (.istore 6) 2 15 := ⟨by decide +kernel, rfl⟩
theorem d_X7_determinant_15 : DC mX7_determinant 15 (.aload_n 0) 1 16 := ⟨by decide +kernel, rfl⟩
theorem d_X7_determinant_16 : DC mX7_determinant 16 (.getfield 17) 3 19 := ⟨by decide +kernel, rfl⟩
theorem d_X7_determinant_19 : DC mX7_determinant 19 (.iload 4) 2 21 := ⟨by decide +kernel, rfl⟩
theorem d_X7_determinant_21 : DC mX7_determinant 21 (.iaload) 1 22 := ⟨by decide +kernel, rfl⟩
theorem d_X7_determinant_22 : DC mX7_determinant 22 (.aload_n 0) 1 23 := ⟨by decide +kernel, rfl⟩
theorem d_X7_determinant_23 : DC mX7_determinant 23 (.getfield 17) 3 26 := ⟨by decide +kernel, rfl⟩
theorem d_X7_determinant_26 : DC mX7_determinant 26 (.iload 5) 2 28 := ⟨by decide +kernel, rfl⟩
theorem d_X7_determinant_28 : DC mX7_determinant 28 (.iconst 1) 1 29 := ⟨by decide +kernel, rfl⟩
theorem d_X7_determinant_29 : DC mX7_determinant 29 (.iadd) 1 30 := ⟨by decide +kernel, rfl⟩
theorem d_X7_determinant_30 : DC mX7_determinant 30 (.iaload) 1 31 := ⟨by decide +kernel, rfl⟩
theorem d_X7_determinant_31 : DC mX7_determinant 31 (.aload_n 0) 1 32 := ⟨by decide +kernel, rfl⟩
theorem d_X7_determinant_32 : DC mX7_determinant 32 (.getfield 17) 3 35 := ⟨by decide +kernel, rfl⟩
theorem d_X7_determinant_35 : DC mX7_determinant 35 (.iload 6) 2 37 := ⟨by decide +kernel, rfl⟩
theorem d_X7_determinant_37 : DC mX7_determinant 37 (.iconst 2) 1 38 := ⟨by decide +kernel, rfl⟩
theorem d_X7_determinant_38 : DC mX7_determinant 38 (.iadd) 1 39 := ⟨by decide +kernel, rfl⟩
theorem d_X7_determinant_39 : DC mX7_determinant 39 (.iaload) 1 40 := ⟨by decide +kernel, rfl⟩
theorem d_X7_determinant_40 : DC mX7_determinant 40 (.imul) 1 41 := ⟨by decide +kernel, rfl⟩
theorem d_X7_determinant_41 : DC mX7_determinant 41 (.aload_n 0) 1 42 := ⟨by decide +kernel, rfl⟩
theorem d_X7_determinant_42 : DC mX7_determinant 42 (.getfield 17) 3 45 := ⟨by decide +kernel, rfl⟩
theorem d_X7_determinant_45 : DC mX7_determinant 45 (.iload 5) 2 47 := ⟨by decide +kernel, rfl⟩
theorem d_X7_determinant_47 : DC mX7_determinant 47 (.iconst 2) 1 48 := ⟨by decide +kernel, rfl⟩
theorem d_X7_determinant_48 : DC mX7_determinant 48 (.iadd) 1 49 := ⟨by decide +kernel, rfl⟩
theorem d_X7_determinant_49 : DC mX7_determinant 49 (.iaload) 1 50 := ⟨by decide +kernel, rfl⟩
theorem d_X7_determinant_50 : DC mX7_determinant 50 (.aload_n 0) 1 51 := ⟨by decide +kernel, rfl⟩
theorem d_X7_determinant_51 : DC mX7_determinant 51 (.getfield 17) 3 54 := ⟨by decide +kernel, rfl⟩
theorem d_X7_determinant_54 : DC mX7_determinant 54 (.iload 6) 2 56 := ⟨by decide +kernel, rfl⟩
theorem d_X7_determinant_56 : DC mX7_determinant 56 (.iconst 1) 1 57 := ⟨by decide +kernel, rfl⟩
theorem d_X7_determinant_57 : DC mX7_determinant 57 (.iadd) 1 58 := ⟨by decide +kernel, rfl⟩
theorem d_X7_determinant_58 : DC mX7_determinant 58 (.iaload) 1 59 := ⟨by decide +kernel, rfl⟩
theorem d_X7_determinant_59 : DC mX7_determinant 59 (.imul) 1 60 := ⟨by decide +kernel, rfl⟩
theorem d_X7_determinant_60 : DC mX7_determinant 60 (.isub) 1 61 := ⟨by decide +kernel, rfl⟩
theorem d_X7_determinant_61 : DC mX7_determinant 61 (.imul) 1 62 := ⟨by decide +kernel, rfl⟩
theorem d_X7_determinant_62 : DC mX7_determinant 62 (.aload_n 0) 1 63 := ⟨by decide +kernel, rfl⟩
theorem d_X7_determinant_63 : DC mX7_determinant 63 (.getfield 17) 3 66 := ⟨by decide +kernel, rfl⟩
theorem d_X7_determinant_66 : DC mX7_determinant 66 (.iload 4) 2 68 := ⟨by decide +kernel, rfl⟩
theorem d_X7_determinant_68 : DC mX7_determinant 68 (.iconst 1) 1 69 := ⟨by decide +kernel, rfl⟩
theorem d_X7_determinant_69 : DC mX7_determinant 69 (.iadd) 1 70 := ⟨by decide +kernel, rfl⟩
theorem d_X7_determinant_70 : DC mX7_determinant 70 (.iaload) 1 71 := ⟨by decide +kernel, rfl⟩
theorem d_X7_determinant_71 : DC mX7_determinant 71 (.aload_n 0) 1 72 := ⟨by decide +kernel, rfl⟩
theorem d_X7_determinant_72 : DC mX7_determinant 72 (.getfield 17) 3 75 := ⟨by decide +kernel, rfl⟩
theorem d_X7_determinant_75 : DC mX7_determinant 75 (.iload 5) 2 77 := ⟨by decide +kernel, rfl⟩
theorem d_X7_determinant_77 : DC mX7_determinant 77 (.iaload) 1 78 := ⟨by decide +kernel, rfl⟩
theorem d_X7_determinant_78 : DC mX7_determinant 78 (.aload_n 0) 1 79 := ⟨by decide +kernel, rfl⟩
theorem d_X7_determinant_79 : DC mX7_determinant 79 (.getfield 17) 3 82 := ⟨by decide +kernel, rfl⟩
theorem d_X7_determinant_82 : DC mX7_determinant 82 (.iload 6) 2 84 := ⟨by decide +kernel, rfl⟩
theorem d_X7_determinant_84 : DC mX7_determinant 84 (.iconst 2) 1 85 := ⟨by decide +kernel, rfl⟩
theorem d_X7_determinant_85 : DC mX7_determinant 85 (.iadd) 1 86 := ⟨by decide +kernel, rfl⟩
theorem d_X7_determinant_86 : DC mX7_determinant 86 (.iaload) 1 87 := ⟨by decide +kernel, rfl⟩
theorem d_X7_determinant_87 : DC mX7_determinant 87 (.imul) 1 88 := ⟨by decide +kernel, rfl⟩
theorem d_X7_determinant_88 : DC mX7_determinant 88 (.aload_n 0) 1 89 := ⟨by decide +kernel, rfl⟩
theorem d_X7_determinant_89 : DC mX7_determinant 89 (.getfield 17) 3 92 := ⟨by decide +kernel, rfl⟩
theorem d_X7_determinant_92 : DC mX7_determinant 92 (.iload 5) 2 94 := ⟨by decide +kernel, rfl⟩
theorem d_X7_determinant_94 : DC mX7_determinant 94 (.iconst 2) 1 95 := ⟨by decide +kernel, rfl⟩
theorem d_X7_determinant_95 : DC mX7_determinant 95 (.iadd) 1 96 := ⟨by decide +kernel, rfl⟩
theorem d_X7_determinant_96 : DC mX7_determinant 96 (.iaload) 1 97 := ⟨by decide +kernel, rfl⟩
theorem d_X7_determinant_97 : DC mX7_determinant 97 (.aload_n 0) 1 98 := ⟨by decide +kernel, rfl⟩
theorem d_X7_determinant_98 : DC mX7_determinant 98 (.getfield 17) 3 101 := ⟨by decide +kernel, rfl⟩
theorem d_X7_determinant_101 : DC mX7_determinant 101 (.iload 6) 2 103 := ⟨by decide +kernel, rfl⟩
theorem d_X7_determinant_103 : DC mX7_determinant 103 (.iaload) 1 104 := ⟨by decide +kernel, rfl⟩
theorem d_X7_determinant_104 : DC mX7_determinant 104 (.imul) 1 105 := ⟨by decide +kernel, rfl⟩
theorem d_X7_determinant_105 : DC mX7_determinant 105 (.isub) 1 106 := ⟨by decide +kernel, rfl⟩
theorem d_X7_determinant_106 : DC mX7_determinant 106 (.imul) 1 107 := ⟨by decide +kernel, rfl⟩
theorem d_X7_determinant_107 : DC mX7_determinant 107 (.isub) 1 108 := ⟨by decide +kernel, rfl⟩
theorem d_X7_determinant_108 : DC mX7_determinant 108 (.aload_n 0) 1 109 := ⟨by decide +kernel, rfl⟩
theorem d_X7_determinant_109 : DC mX7_determinant 109 (.getfield 17) 3 112 := ⟨by decide +kernel, rfl⟩
theorem d_X7_determinant_112 : DC mX7_determinant 112 (.iload 4) 2 114 := ⟨by decide +kernel, rfl⟩
theorem d_X7_determinant_114 : DC mX7_determinant 114 (.iconst 2) 1 115 := ⟨by decide +kernel, rfl⟩
theorem d_X7_determinant_115 : DC mX7_determinant 115 (.iadd) 1 116 := ⟨by decide +kernel, rfl⟩
theorem d_X7_determinant_116 : DC mX7_determinant 116 (.iaload) 1 117 := ⟨by decide +kernel, rfl⟩
theorem d_X7_determinant_117 : DC mX7_determinant 117 (.aload_n 0) 1 118 := ⟨by decide +kernel, rfl⟩
theorem d_X7_determinant_118 : DC mX7_determinant 118 (.getfield 17) 3 121 := ⟨by decide +kernel, rfl⟩
theorem d_X7_determinant_121 : DC mX7_determinant 121 (.iload 5) 2 123 := ⟨by decide +kernel, rfl⟩
theorem d_X7_determinant_123 : DC mX7_determinant 123 (.iaload) 1 124 := ⟨by decide +kernel, rfl⟩
theorem d_X7_determinant_124 : DC mX7_determinant 124 (.aload_n 0) 1 125 := ⟨by decide +kernel, rfl⟩
theorem d_X7_determinant_125 : DC mX7_determinant 125 (.getfield 17) 3 128 := ⟨by decide +kernel, rfl⟩
theorem d_X7_determinant_128 : DC mX7_determinant 128 (.iload 6) 2 130 := ⟨by decide +kernel, rfl⟩
theorem d_X7_determinant_130 : DC mX7_determinant 130 (.iconst 1) 1 131 := ⟨by decide +kernel, rfl⟩
theorem d_X7_determinant_131 : DC mX7_determinant 131 (.iadd) 1 132 := ⟨by decide +kernel, rfl⟩
theorem d_X7_determinant_132 : DC mX7_determinant 132 (.iaload) 1 133 := ⟨by decide +kernel, rfl⟩
theorem d_X7_determinant_133 : DC mX7_determinant 133 (.imul) 1 134 := ⟨by decide +kernel, rfl⟩
theorem d_X7_determinant_134 : DC mX7_determinant 134 (.aload_n 0) 1 135 := ⟨by decide +kernel, rfl⟩
theorem d_X7_determinant_135 : DC mX7_determinant 135 (.getfield 17) 3 138 := ⟨by decide +kernel, rfl⟩
theorem d_X7_determinant_138 : DC mX7_determinant 138 (.iload 5) 2 140 := ⟨by decide +kernel, rfl⟩
theorem d_X7_determinant_140 : DC mX7_determinant 140 (.iconst 1) 1 141 := ⟨by decide +kernel, rfl⟩
theorem d_X7_determinant_141 : DC mX7_determinant 141 (.iadd) 1 142 := ⟨by decide +kernel, rfl⟩
theorem d_X7_determinant_142 : DC mX7_determinant 142 (.iaload) 1 143 := ⟨by decide +kernel, rfl⟩
theorem d_X7_determinant_143 : DC mX7_determinant 143 (.aload_n 0) 1 144 := ⟨by decide +kernel, rfl⟩
theorem d_X7_determinant_144 : DC mX7_determinant 144 (.getfield 17) 3 147 := ⟨by decide +kernel, rfl⟩
theorem d_X7_determinant_147 : DC mX7_determinant 147 (.iload 6) 2 149 := ⟨by decide +kernel, rfl⟩
theorem d_X7_determinant_149 : DC mX7_determinant 149 (.iaload) 1 150 := ⟨by decide +kernel, rfl⟩
theorem d_X7_determinant_150 : DC mX7_determinant 150 (.imul) 1 151 := ⟨by decide +kernel, rfl⟩
theorem d_X7_determinant_151 : DC mX7_determinant 151 (.isub) 1 152 := ⟨by decide +kernel, rfl⟩
theorem d_X7_determinant_152 : DC mX7_determinant 152 (.imul) 1 153 := ⟨by decide +kernel, rfl⟩
theorem d_X7_determinant_153 : DC mX7_determinant 153 (.iadd) 1 154 := ⟨by decide +kernel, rfl⟩
theorem d_X7_determinant_154 : DC mX7_determinant 154 (.ireturn) 1 155 := ⟨by decide +kernel, rfl⟩
theorem d_X7_bracketsWorthZero_0 : DC mX7_bracketsWorthZero 0 (.iconst 0) 1 1 := ⟨by decide +kernel, rfl⟩
theorem d_X7_bracketsWorthZero_1 : DC mX7_bracketsWorthZero 1 (.istore_n 1) 1 2 := ⟨by decide +kernel, rfl⟩
theorem d_X7_bracketsWorthZero_2 : DC mX7_bracketsWorthZero 2 (.iconst 0) 1 3 := ⟨by decide +kernel, rfl⟩
theorem d_X7_bracketsWorthZero_3 : DC mX7_bracketsWorthZero 3 (.istore_n 2) 1 4 := ⟨by decide +kernel, rfl⟩
theorem d_X7_bracketsWorthZero_4 : DC mX7_bracketsWorthZero 4 (.iload_n 2) 1 5 := ⟨by decide +kernel, rfl⟩
theorem d_X7_bracketsWorthZero_5 : DC mX7_bracketsWorthZero 5 (.bipush 10) 2 7 := ⟨by decide +kernel, rfl⟩
theorem d_X7_bracketsWorthZero_7 : DC mX7_bracketsWorthZero 7 (.if_icmp .ge 57) 3 10 := ⟨by decide +kernel, rfl⟩
theorem d_X7_bracketsWorthZero_10 : DC mX7_bracketsWorthZero 10 (.iload_n 2) 1 11 := ⟨by decide +kernel, rfl⟩
theorem d_X7_bracketsWorthZero_11 : DC mX7_bracketsWorthZero 11 (.iconst 1) 1 12 := ⟨by decide +kernel, rfl⟩
theorem d_X7_bracketsWorthZero_12 : DC mX7_bracketsWorthZero 12 (.iadd) 1 13 := ⟨by decide +kernel, rfl⟩
theorem d_X7_bracketsWorthZero_13 : DC mX7_bracketsWorthZero 13 (.istore_n 3) 1 14 := ⟨by decide +kernel, rfl⟩
theorem d_X7_bracketsWorthZero_14 : DC mX7_bracketsWorthZero 14 (.iload_n 3) 1 15 := ⟨by decide +kernel, rfl⟩
theorem d_X7_bracketsWorthZero_15 : DC mX7_bracketsWorthZero 15 (.bipush 10) 2 17 := ⟨by decide +kernel, rfl⟩
theorem d_X7_bracketsWorthZero_17 : DC mX7_bracketsWorthZero 17 (.if_icmp .ge 41) 3 20 := ⟨by decide +kernel, rfl⟩
theorem d_X7_bracketsWorthZero_20 : DC mX7_bracketsWorthZero 20 (.iload_n 3) 1 21 := ⟨by decide +kernel, rfl⟩
theorem d_X7_bracketsWorthZero_21 : DC mX7_bracketsWorthZero 21 (.iconst 1) 1 22 := ⟨by decide +kernel, rfl⟩
theorem d_X7_bracketsWorthZero_22 : DC mX7_bracketsWorthZero 22 (.iadd) 1 23 := ⟨by decide +kernel, rfl⟩
theorem d_X7_bracketsWorthZero_23 : DC mX7_bracketsWorthZero 23 (.istore 4) 2 25 := ⟨by decide +kernel, rfl⟩
theorem d_X7_bracketsWorthZero_25 : DC mX7_bracketsWorthZero 25 (.iload 4) 2 27 := ⟨by decide +kernel, rfl⟩
theorem d_X7_bracketsWorthZero_27 : DC mX7_bracketsWorthZero 27 (.bipush 10) 2 29 := ⟨by decide +kernel, rfl⟩
theorem d_X7_bracketsWorthZero_29 : DC mX7_bracketsWorthZero 29 (.if_icmp .ge 23) 3 32 := ⟨by decide +kernel, rfl⟩
theorem d_X7_bracketsWorthZero_32 : DC mX7_bracketsWorthZero 32 (.aload_n 0) 1 33 := ⟨by decide +kernel, rfl⟩
theorem d_X7_bracketsWorthZero_33 : DC mX7_bracketsWorthZero 33 (.iload_n 2) 1 34 := ⟨by decide +kernel, rfl⟩
theorem d_X7_bracketsWorthZero_34 : DC mX7_bracketsWorthZero 34 (.iload_n 3) 1 35 := ⟨by decide +kernel, rfl⟩
theorem d_X7_bracketsWorthZero_35 : DC mX7_bracketsWorthZero 35 (.iload 4) 2 37 := ⟨by decide +kernel, rfl⟩
theorem d_X7_bracketsWorthZero_37 : DC mX7_bracketsWorthZero 37 (.invokevirtual 79) 3 40 := ⟨by decide +kernel, rfl⟩
theorem d_X7_bracketsWorthZero_40 : DC mX7_bracketsWorthZero 40 (.ifCond .ne 6) 3 43 := ⟨by decide +kernel, rfl⟩
theorem d_X7_bracketsWorthZero_43 : DC mX7_bracketsWorthZero 43 (.iinc 1 1) 3 46 := ⟨by decide +kernel, rfl⟩
theorem d_X7_bracketsWorthZero_46 : DC mX7_bracketsWorthZero 46 (.iinc 4 1) 3 49 := ⟨by decide +kernel, rfl⟩
theorem d_X7_bracketsWorthZero_49 : DC mX7_bracketsWorthZero 49 (.goto (-24)) 3 52 := ⟨by decide +kernel, rfl⟩
theorem d_X7_bracketsWorthZero_52 : DC mX7_bracketsWorthZero 52 (.iinc 3 1) 3 55 := ⟨by decide +kernel, rfl⟩
theorem d_X7_bracketsWorthZero_55 : DC mX7_bracketsWorthZero 55 (.goto (-41)) 3 58 := ⟨by decide +kernel, rfl⟩
theorem d_X7_bracketsWorthZero_58 : DC mX7_bracketsWorthZero 58 (.iinc 2 1) 3 61 := ⟨by decide +kernel, rfl⟩
theorem d_X7_bracketsWorthZero_61 : DC mX7_bracketsWorthZero 61 (.goto (-57)) 3 64 := ⟨by decide +kernel, rfl⟩
theorem d_X7_bracketsWorthZero_64 : DC mX7_bracketsWorthZero 64 (.iload_n 1) 1 65 := ⟨by decide +kernel, rfl⟩
theorem d_X7_bracketsWorthZero_65 : DC mX7_bracketsWorthZero 65 (.ireturn) 1 66 := ⟨by decide +kernel, rfl⟩
theorem d_X7_worthOf_0 : DC mX7_worthOf 0 (.lconst 0) 1 1 := ⟨by decide +kernel, rfl⟩
theorem d_X7_worthOf_1 : DC mX7_worthOf 1 (.lstore_n 2) 1 2 := ⟨by decide +kernel, rfl⟩
theorem d_X7_worthOf_2 : DC mX7_worthOf 2 (.iconst 0) 1 3 := ⟨by decide +kernel, rfl⟩
theorem d_X7_worthOf_3 : DC mX7_worthOf 3 (.istore 4) 2 5 := ⟨by decide +kernel, rfl⟩
theorem d_X7_worthOf_5 : DC mX7_worthOf 5 (.iload 4) 2 7 := ⟨by decide +kernel, rfl⟩
theorem d_X7_worthOf_7 : DC mX7_worthOf 7 (.aload_n 1) 1 8 := ⟨by decide +kernel, rfl⟩
theorem d_X7_worthOf_8 : DC mX7_worthOf 8 (.getfield 41) 3 11 := ⟨by decide +kernel, rfl⟩
theorem d_X7_worthOf_11 : DC mX7_worthOf 11 (.if_icmp .ge 135) 3 14 := ⟨by decide +kernel, rfl⟩
theorem d_X7_worthOf_14 : DC mX7_worthOf 14 (.aload_n 1) 1 15 := ⟨by decide +kernel, rfl⟩
theorem d_X7_worthOf_15 : DC mX7_worthOf 15 (.getfield 62) 3 18 := ⟨by decide +kernel, rfl⟩
theorem d_X7_worthOf_18 : DC mX7_worthOf 18 (.iload 4) 2 20 := ⟨by decide +kernel, rfl⟩
theorem d_X7_worthOf_20 : DC mX7_worthOf 20 (.iaload) 1 21 := ⟨by decide +kernel, rfl⟩
theorem d_X7_worthOf_21 : DC mX7_worthOf 21 (.i2l) 1 22 := ⟨by decide +kernel, rfl⟩
theorem d_X7_worthOf_22 : DC mX7_worthOf 22 (.lstore 5) 2 24 := ⟨by decide +kernel, rfl⟩
theorem d_X7_worthOf_24 : DC mX7_worthOf 24 (.aload_n 1) 1 25 := ⟨by decide +kernel, rfl⟩
theorem d_X7_worthOf_25 : DC mX7_worthOf 25 (.getfield 54) 3 28 := ⟨by decide +kernel, rfl⟩
theorem d_X7_worthOf_28 : DC mX7_worthOf 28 (.iload 4) 2 30 := ⟨by decide +kernel, rfl⟩
theorem d_X7_worthOf_30 : DC mX7_worthOf 30 (.laload) 1 31 := ⟨by decide +kernel, rfl⟩
theorem d_X7_worthOf_31 : DC mX7_worthOf 31 (.invokestatic 69) 3 34 := ⟨by decide +kernel, rfl⟩
theorem d_X7_worthOf_34 : DC mX7_worthOf 34 (.istore 7) 2 36 := ⟨by decide +kernel, rfl⟩
theorem d_X7_worthOf_36 : DC mX7_worthOf 36 (.iconst 0) 1 37 := ⟨by decide +kernel, rfl⟩
theorem d_X7_worthOf_37 : DC mX7_worthOf 37 (.istore 8) 2 39 := ⟨by decide +kernel, rfl⟩
theorem d_X7_worthOf_39 : DC mX7_worthOf 39 (.iload 8) 2 41 := ⟨by decide +kernel, rfl⟩
theorem d_X7_worthOf_41 : DC mX7_worthOf 41 (.iload 7) 2 43 := ⟨by decide +kernel, rfl⟩
theorem d_X7_worthOf_43 : DC mX7_worthOf 43 (.if_icmp .ge 69) 3 46 := ⟨by decide +kernel, rfl⟩
theorem d_X7_worthOf_46 : DC mX7_worthOf 46 (.aload_n 1) 1 47 := ⟨by decide +kernel, rfl⟩
theorem d_X7_worthOf_47 : DC mX7_worthOf 47 (.getfield 54) 3 50 := ⟨by decide +kernel, rfl⟩
theorem d_X7_worthOf_50 : DC mX7_worthOf 50 (.iload 4) 2 52 := ⟨by decide +kernel, rfl⟩
theorem d_X7_worthOf_52 : DC mX7_worthOf 52 (.laload) 1 53 := ⟨by decide +kernel, rfl⟩
theorem d_X7_worthOf_53 : DC mX7_worthOf 53 (.iload 8) 2 55 := ⟨by decide +kernel, rfl⟩
theorem d_X7_worthOf_55 : DC mX7_worthOf 55 (.invokestatic 73) 3 58 := ⟨by decide +kernel, rfl⟩
theorem d_X7_worthOf_58 : DC mX7_worthOf 58 (.istore 9) 2 60 := ⟨by decide +kernel, rfl⟩
theorem d_X7_worthOf_60 : DC mX7_worthOf 60 (.aload_n 0) 1 61 := ⟨by decide +kernel, rfl⟩
theorem d_X7_worthOf_61 : DC mX7_worthOf 61 (.iload 9) 2 63 := ⟨by decide +kernel, rfl⟩
theorem d_X7_worthOf_63 : DC mX7_worthOf 63 (.iconst 0) 1 64 := ⟨by decide +kernel, rfl⟩
theorem d_X7_worthOf_64 : DC mX7_worthOf 64 (.invokestatic 83) 3 67 := ⟨by decide +kernel, rfl⟩
theorem d_X7_worthOf_67 : DC mX7_worthOf 67 (.iload 9) 2 69 := ⟨by decide +kernel, rfl⟩
theorem d_X7_worthOf_69 : DC mX7_worthOf 69 (.iconst 1) 1 70 := ⟨by decide +kernel, rfl⟩
theorem d_X7_worthOf_70 : DC mX7_worthOf 70 (.invokestatic 83) 3 73 := ⟨by decide +kernel, rfl⟩
theorem d_X7_worthOf_73 : DC mX7_worthOf 73 (.iload 9) 2 75 := ⟨by decide +kernel, rfl⟩
theorem d_X7_worthOf_75 : DC mX7_worthOf 75 (.iconst 2) 1 76 := ⟨by decide +kernel, rfl⟩
theorem d_X7_worthOf_76 : DC mX7_worthOf 76 (.invokestatic 83) 3 79 := ⟨by decide +kernel, rfl⟩
theorem d_X7_worthOf_79 : DC mX7_worthOf 79 (.invokevirtual 79) 3 82 := ⟨by decide +kernel, rfl⟩
theorem d_X7_worthOf_82 : DC mX7_worthOf 82 (.istore 10) 2 84 := ⟨by decide +kernel, rfl⟩
theorem d_X7_worthOf_84 : DC mX7_worthOf 84 (.lload 5) 2 86 := ⟨by decide +kernel, rfl⟩
theorem d_X7_worthOf_86 : DC mX7_worthOf 86 (.iload 10) 2 88 := ⟨by decide +kernel, rfl⟩
theorem d_X7_worthOf_88 : DC mX7_worthOf 88 (.invokestatic 87) 3 91 := ⟨by decide +kernel, rfl⟩
theorem d_X7_worthOf_91 : DC mX7_worthOf 91 (.ifCond .eq 7) 3 94 := ⟨by decide +kernel, rfl⟩
theorem d_X7_worthOf_94 : DC mX7_worthOf 94 (.ldc2_w 91) 3 97 := ⟨by decide +kernel, rfl⟩
theorem d_X7_worthOf_97 : DC mX7_worthOf 97 (.lreturn) 1 98 := ⟨by decide +kernel, rfl⟩
theorem d_X7_worthOf_98 : DC mX7_worthOf 98 (.lload 5) 2 100 := ⟨by decide +kernel, rfl⟩
theorem d_X7_worthOf_100 : DC mX7_worthOf 100 (.iload 10) 2 102 := ⟨by decide +kernel, rfl⟩
theorem d_X7_worthOf_102 : DC mX7_worthOf 102 (.i2l) 1 103 := ⟨by decide +kernel, rfl⟩
theorem d_X7_worthOf_103 : DC mX7_worthOf 103 (.lmul) 1 104 := ⟨by decide +kernel, rfl⟩
theorem d_X7_worthOf_104 : DC mX7_worthOf 104 (.lstore 5) 2 106 := ⟨by decide +kernel, rfl⟩
theorem d_X7_worthOf_106 : DC mX7_worthOf 106 (.iinc 8 1) 3 109 := ⟨by decide +kernel, rfl⟩
theorem d_X7_worthOf_109 : DC mX7_worthOf 109 (.goto (-70)) 3 112 := ⟨by decide +kernel, rfl⟩
theorem d_X7_worthOf_112 : DC mX7_worthOf 112 (.lload_n 2) 1 113 := ⟨by decide +kernel, rfl⟩
theorem d_X7_worthOf_113 : DC mX7_worthOf 113 (.lload 5) 2 115 := ⟨by decide +kernel, rfl⟩
theorem d_X7_worthOf_115 : DC mX7_worthOf 115 (.ladd) 1 116 := ⟨by decide +kernel, rfl⟩
theorem d_X7_worthOf_116 : DC mX7_worthOf 116 (.lstore 8) 2 118 := ⟨by decide +kernel, rfl⟩
theorem d_X7_worthOf_118 : DC mX7_worthOf 118 (.lload_n 2) 1 119 := ⟨by decide +kernel, rfl⟩
theorem d_X7_worthOf_119 : DC mX7_worthOf 119 (.lload 8) 2 121 := ⟨by decide +kernel, rfl⟩
theorem d_X7_worthOf_121 : DC mX7_worthOf 121 (.lxor) 1 122 := ⟨by decide +kernel, rfl⟩
theorem d_X7_worthOf_122 : DC mX7_worthOf 122 (.lload 5) 2 124 := ⟨by decide +kernel, rfl⟩
theorem d_X7_worthOf_124 : DC mX7_worthOf 124 (.lload 8) 2 126 := ⟨by decide +kernel, rfl⟩
theorem d_X7_worthOf_126 : DC mX7_worthOf 126 (.lxor) 1 127 := ⟨by decide +kernel, rfl⟩
theorem d_X7_worthOf_127 : DC mX7_worthOf 127 (.land) 1 128 := ⟨by decide +kernel, rfl⟩
theorem d_X7_worthOf_128 : DC mX7_worthOf 128 (.lconst 0) 1 129 := ⟨by decide +kernel, rfl⟩
theorem d_X7_worthOf_129 : DC mX7_worthOf 129 (.lcmp) 1 130 := ⟨by decide +kernel, rfl⟩
theorem d_X7_worthOf_130 : DC mX7_worthOf 130 (.ifCond .ge 7) 3 133 := ⟨by decide +kernel, rfl⟩
theorem d_X7_worthOf_133 : DC mX7_worthOf 133 (.ldc2_w 91) 3 136 := ⟨by decide +kernel, rfl⟩
theorem d_X7_worthOf_136 : DC mX7_worthOf 136 (.lreturn) 1 137 := ⟨by decide +kernel, rfl⟩
theorem d_X7_worthOf_137 : DC mX7_worthOf 137 (.lload 8) 2 139 := ⟨by decide +kernel, rfl⟩
theorem d_X7_worthOf_139 : DC mX7_worthOf 139 (.lstore_n 2) 1 140 := ⟨by decide +kernel, rfl⟩
theorem d_X7_worthOf_140 : DC mX7_worthOf 140 (.iinc 4 1) 3 143 := ⟨by decide +kernel, rfl⟩
theorem d_X7_worthOf_143 : DC mX7_worthOf 143 (.goto (-138)) 3 146 := ⟨by decide +kernel, rfl⟩
theorem d_X7_worthOf_146 : DC mX7_worthOf 146 (.lload_n 2) 1 147 := ⟨by decide +kernel, rfl⟩
theorem d_X7_worthOf_147 : DC mX7_worthOf 147 (.lreturn) 1 148 := ⟨by decide +kernel, rfl⟩
theorem d_X7_isTooGreat_0 : DC mX7_isTooGreat 0 (.iload_n 2) 1 1 := ⟨by decide +kernel, rfl⟩
theorem d_X7_isTooGreat_1 : DC mX7_isTooGreat 1 (.ifCond .ne 5) 3 4 := ⟨by decide +kernel, rfl⟩
theorem d_X7_isTooGreat_4 : DC mX7_isTooGreat 4 (.iconst 0) 1 5 := ⟨by decide +kernel, rfl⟩
theorem d_X7_isTooGreat_5 : DC mX7_isTooGreat 5 (.ireturn) 1 6 := ⟨by decide +kernel, rfl⟩
theorem d_X7_isTooGreat_6 : DC mX7_isTooGreat 6 (.iload_n 2) 1 7 := ⟨by decide +kernel, rfl⟩
theorem d_X7_isTooGreat_7 : DC mX7_isTooGreat 7 (.iconst (-1)) 1 8 := ⟨by decide +kernel, rfl⟩
theorem d_X7_isTooGreat_8 : DC mX7_isTooGreat 8 (.if_icmp .ne 17) 3 11 := ⟨by decide +kernel, rfl⟩
theorem d_X7_isTooGreat_11 : DC mX7_isTooGreat 11 (.lload_n 0) 1 12 := ⟨by decide +kernel, rfl⟩
theorem d_X7_isTooGreat_12 : DC mX7_isTooGreat 12 (.ldc2_w 91) 3 15 := ⟨by decide +kernel, rfl⟩
theorem d_X7_isTooGreat_15 : DC mX7_isTooGreat 15 (.lcmp) 1 16 := ⟨by decide +kernel, rfl⟩
theorem d_X7_isTooGreat_16 : DC mX7_isTooGreat 16 (.ifCond .ne 7) 3 19 := ⟨by decide +kernel, rfl⟩
theorem d_X7_isTooGreat_19 : DC mX7_isTooGreat 19 (.iconst 1) 1 20 := ⟨by decide +kernel, rfl⟩
theorem d_X7_isTooGreat_20 : DC mX7_isTooGreat 20 (.goto 4) 3 23 := ⟨by decide +kernel, rfl⟩
theorem d_X7_isTooGreat_23 : DC mX7_isTooGreat 23 (.iconst 0) 1 24 := ⟨by decide +kernel, rfl⟩
theorem d_X7_isTooGreat_24 : DC mX7_isTooGreat 24 (.ireturn) 1 25 := ⟨by decide +kernel, rfl⟩
theorem d_X7_isTooGreat_25 : DC mX7_isTooGreat 25 (.lload_n 0) 1 26 := ⟨by decide +kernel, rfl⟩
theorem d_X7_isTooGreat_26 : DC mX7_isTooGreat 26 (.iload_n 2) 1 27 := ⟨by decide +kernel, rfl⟩
theorem d_X7_isTooGreat_27 : DC mX7_isTooGreat 27 (.i2l) 1 28 := ⟨by decide +kernel, rfl⟩
theorem d_X7_isTooGreat_28 : DC mX7_isTooGreat 28 (.lmul) 1 29 := ⟨by decide +kernel, rfl⟩
theorem d_X7_isTooGreat_29 : DC mX7_isTooGreat 29 (.iload_n 2) 1 30 := ⟨by decide +kernel, rfl⟩
theorem d_X7_isTooGreat_30 : DC mX7_isTooGreat 30 (.i2l) 1 31 := ⟨by decide +kernel, rfl⟩
theorem d_X7_isTooGreat_31 : DC mX7_isTooGreat 31 (.ldiv) 1 32 := ⟨by decide +kernel, rfl⟩
theorem d_X7_isTooGreat_32 : DC mX7_isTooGreat 32 (.lload_n 0) 1 33 := ⟨by decide +kernel, rfl⟩
theorem d_X7_isTooGreat_33 : DC mX7_isTooGreat 33 (.lcmp) 1 34 := ⟨by decide +kernel, rfl⟩
theorem d_X7_isTooGreat_34 : DC mX7_isTooGreat 34 (.ifCond .eq 7) 3 37 := ⟨by decide +kernel, rfl⟩
theorem d_X7_isTooGreat_37 : DC mX7_isTooGreat 37 (.iconst 1) 1 38 := ⟨by decide +kernel, rfl⟩
theorem d_X7_isTooGreat_38 : DC mX7_isTooGreat 38 (.goto 4) 3 41 := ⟨by decide +kernel, rfl⟩
theorem d_X7_isTooGreat_41 : DC mX7_isTooGreat 41 (.iconst 0) 1 42 := ⟨by decide +kernel, rfl⟩
theorem d_X7_isTooGreat_42 : DC mX7_isTooGreat 42 (.ireturn) 1 43 := ⟨by decide +kernel, rfl⟩
theorem v_X4_keep_0 {l : Launch} {d N : Nat} {Λ : Lay} {P : Mem → Prop} {σ : Mem} {a1 t t_kept : Int} (o_t : Ob N Λ t 14 3) (f_t_kept : (Λ t).2.2 1 = t_kept) (o_a1 : Ob N Λ a1 16 3) (h0d : 1 ≤ d)
    (h : (Ix N Λ t_kept 4 (σ t 2) ∧ ∀ b1, b1 = (Λ t_kept).2.2 (σ t 2) → Ob N Λ b1 16 3 ∧ (CV l mX7_take (d - 1) [(2, b1), (2, a1)] N Λ σ (fun σ2 => (∀ τ3, τ3 = st σ2 t 2 (remI (addI (σ2 t 2) 1) 10) → (CI l mJ9_min_7cf53 (d - 1) [(0, (addI (τ3 t 0) 1)), (0, 10)] N Λ τ3 (fun v5 σ4 => (∀ τ6, τ6 = st σ4 t 0 v5 → P τ6)))))))) :
    WV l mX4_keep d P 0 [(2, t), (2, a1)] [] N Λ σ := by
  refine r_aload_n (x := t) d_X4_keep_0 rfl o_t.1 ?_
  refine r_getf (j := 1) (t := 2) (x := t_kept) d_X4_keep_1 kX4 (by decide) fl_X4_17 o_t.1 o_t.2.1 o_t.2.2.1 o_t.2.2.2 rfl f_t_kept ?_
  refine r_aload_n (x := t) d_X4_keep_4 rfl o_t.1 ?_
  refine r_getf (j := 2) (t := 0) (x := (σ t 2)) d_X4_keep_5 kX4 (by decide) fl_X4_21 o_t.1 o_t.2.1 o_t.2.2.1 o_t.2.2.2 rfl rfl ?_
  refine x_aald (t := 4) (by decide) d_X4_keep_8 h.1 (fun b1 eb1 => ?_)
  have h := h.2 b1 eb1
  have oob1 := h.1
  have h := h.2
  refine r_aload_n (x := a1) d_X4_keep_9 rfl o_a1.1 ?_
  refine r_callV (Y2 := mX7_take) (d := d - 1) (mc := 0) (ms := 0) (c := b1) (As := [(2, a1)]) (S := []) d_X4_keep_10 ok_mX7_take ml_X4_25 rfl (rmc h0d (by decide)) rm00 (Nat.le_of_ble_eq_true rfl) rfl kX7 oob1.1 oob1.2.1 oob1.2.2.1 oob1.2.2.2 (MC.mono h (fun r N1 Λ1 σ2 hq => ?_))
  obtain ⟨rfl, rfl, rfl, h⟩ := hq
  refine r_aload_n (x := t) d_X4_keep_13 rfl o_t.1 ?_
  refine r_aload_n (x := t) d_X4_keep_14 rfl o_t.1 ?_
  refine r_getf (j := 2) (t := 0) (x := (σ2 t 2)) d_X4_keep_15 kX4 (by decide) fl_X4_21 o_t.1 o_t.2.1 o_t.2.2.1 o_t.2.2.2 rfl rfl ?_
  refine r_iconst (x := 1) d_X4_keep_18 ⟨by decide, by decide⟩ ?_
  refine r_iadd d_X4_keep_19 ?_
  refine r_bipush (x := 10) d_X4_keep_20 ⟨by decide, by decide⟩ (by decide) ?_
  refine r_irem d_X4_keep_22 (by decide) ?_
  refine r_putI (j := 2) d_X4_keep_23 kX4 (by decide) fl_X4_21 rfl o_t.1 o_t.2.1 o_t.2.2.1 o_t.2.2.2 rfl ?_
  refine r_nmM (fun τ3 eτ3 => ?_)
  have h := h τ3 eτ3
  refine r_aload_n (x := t) d_X4_keep_26 rfl o_t.1 ?_
  refine r_aload_n (x := t) d_X4_keep_27 rfl o_t.1 ?_
  refine r_getf (j := 0) (t := 0) (x := (τ3 t 0)) d_X4_keep_28 kX4 (by decide) fl_X4_9 o_t.1 o_t.2.1 o_t.2.2.1 o_t.2.2.2 rfl rfl ?_
  refine r_iconst (x := 1) d_X4_keep_31 ⟨by decide, by decide⟩ ?_
  refine r_iadd d_X4_keep_32 ?_
  refine r_bipush (x := 10) d_X4_keep_33 ⟨by decide, by decide⟩ (by decide) ?_
  refine r_callS (Y2 := mJ9_min_7cf53) (d := d - 1) (mc := 0) (ms := 0) (As := [(0, (addI (τ3 t 0) 1)), (0, 10)]) (S := [(2, t)]) d_X4_keep_35 ok_mJ9_min_7cf53 ml_X4_29 rfl (rmc h0d (by decide)) rm00 (Nat.le_of_ble_eq_true rfl) rfl (MC.mono h (fun r N1 Λ1 σ4 hq => ?_))
  obtain ⟨v5, rfl, rfl, rfl, h⟩ := hq
  refine r_putI (j := 0) d_X4_keep_38 kX4 (by decide) fl_X4_9 rfl o_t.1 o_t.2.1 o_t.2.2.1 o_t.2.2.2 rfl ?_
  refine r_nmM (fun τ6 eτ6 => ?_)
  have h := h τ6 eτ6
  exact r_vret d_X4_keep_41 rfl (Nat.le_refl 0) (Nat.le_refl 0) ⟨rfl, rfl, rfl, h⟩
theorem v_X4_goBack_0 {l : Launch} {d N : Nat} {Λ : Lay} {P : Mem → Prop} {σ : Mem} {x1 a2 t t_kept : Int} (o_t : Ob N Λ t 14 3) (o_a2 : Ob N Λ a2 16 3) (f_t_kept : (Λ t).2.2 1 = t_kept) (h0d : 1 ≤ d)
    (h : (CI l mJ9_floorMod_7cf53 (d - 1) [(0, (subI (σ t 2) x1)), (0, 10)] N Λ σ (fun v2 σ1 => (∀ τ3, τ3 = st σ1 t 2 v2 → (∀ τ4, τ4 = st τ3 t 0 (subI (τ3 t 0) x1) → (Ix N Λ t_kept 4 (τ4 t 2) ∧ ∀ b5, b5 = (Λ t_kept).2.2 (τ4 t 2) → Ob N Λ b5 16 3 ∧ (CV l mX7_take (d - 1) [(2, a2), (2, b5)] N Λ τ4 (fun σ6 => P σ6)))))))) :
    WV l mX4_goBack d P 0 [(2, t), (0, x1), (2, a2)] [] N Λ σ := by
  refine r_aload_n (x := t) d_X4_goBack_0 rfl o_t.1 ?_
  refine r_aload_n (x := t) d_X4_goBack_1 rfl o_t.1 ?_
  refine r_getf (j := 2) (t := 0) (x := (σ t 2)) d_X4_goBack_2 kX4 (by decide) fl_X4_21 o_t.1 o_t.2.1 o_t.2.2.1 o_t.2.2.2 rfl rfl ?_
  refine r_iload_n (x := x1) d_X4_goBack_5 rfl ?_
  refine r_isub d_X4_goBack_6 ?_
  refine r_bipush (x := 10) d_X4_goBack_7 ⟨by decide, by decide⟩ (by decide) ?_
  refine r_callS (Y2 := mJ9_floorMod_7cf53) (d := d - 1) (mc := 0) (ms := 0) (As := [(0, (subI (σ t 2) x1)), (0, 10)]) (S := [(2, t)]) d_X4_goBack_9 ok_mJ9_floorMod_7cf53 ml_X4_35 rfl (rmc h0d (by decide)) rm00 (Nat.le_of_ble_eq_true rfl) rfl (MC.mono h (fun r N1 Λ1 σ1 hq => ?_))
  obtain ⟨v2, rfl, rfl, rfl, h⟩ := hq
  refine r_putI (j := 2) d_X4_goBack_12 kX4 (by decide) fl_X4_21 rfl o_t.1 o_t.2.1 o_t.2.2.1 o_t.2.2.2 rfl ?_
  refine r_nmM (fun τ3 eτ3 => ?_)
  have h := h τ3 eτ3
  refine r_aload_n (x := t) d_X4_goBack_15 rfl o_t.1 ?_
  refine r_dup d_X4_goBack_16 rfl ?_
  refine r_getf (j := 0) (t := 0) (x := (τ3 t 0)) d_X4_goBack_17 kX4 (by decide) fl_X4_9 o_t.1 o_t.2.1 o_t.2.2.1 o_t.2.2.2 rfl rfl ?_
  refine r_iload_n (x := x1) d_X4_goBack_20 rfl ?_
  refine r_isub d_X4_goBack_21 ?_
  refine r_putI (j := 0) d_X4_goBack_22 kX4 (by decide) fl_X4_9 rfl o_t.1 o_t.2.1 o_t.2.2.1 o_t.2.2.2 rfl ?_
  refine r_nmM (fun τ4 eτ4 => ?_)
  have h := h τ4 eτ4
  refine r_aload_n (x := a2) d_X4_goBack_25 rfl o_a2.1 ?_
  refine r_aload_n (x := t) d_X4_goBack_26 rfl o_t.1 ?_
  refine r_getf (j := 1) (t := 2) (x := t_kept) d_X4_goBack_27 kX4 (by decide) fl_X4_17 o_t.1 o_t.2.1 o_t.2.2.1 o_t.2.2.2 rfl f_t_kept ?_
  refine r_aload_n (x := t) d_X4_goBack_30 rfl o_t.1 ?_
  refine r_getf (j := 2) (t := 0) (x := (τ4 t 2)) d_X4_goBack_31 kX4 (by decide) fl_X4_21 o_t.1 o_t.2.1 o_t.2.2.1 o_t.2.2.2 rfl rfl ?_
  refine x_aald (t := 4) (by decide) d_X4_goBack_34 h.1 (fun b5 eb5 => ?_)
  have h := h.2 b5 eb5
  have oob5 := h.1
  have h := h.2
  refine r_callV (Y2 := mX7_take) (d := d - 1) (mc := 0) (ms := 0) (c := a2) (As := [(2, b5)]) (S := []) d_X4_goBack_35 ok_mX7_take ml_X4_25 rfl (rmc h0d (by decide)) rm00 (Nat.le_of_ble_eq_true rfl) rfl kX7 o_a2.1 o_a2.2.1 o_a2.2.2.1 o_a2.2.2.2 (MC.mono h (fun r N1 Λ1 σ6 hq => ?_))
  obtain ⟨rfl, rfl, rfl, h⟩ := hq
  exact r_vret d_X4_goBack_38 rfl (Nat.le_refl 0) (Nat.le_refl 0) ⟨rfl, rfl, rfl, h⟩
theorem v_X4_forget_0 {l : Launch} {d N : Nat} {Λ : Lay} {P : Mem → Prop} {σ : Mem} {t : Int} (o_t : Ob N Λ t 14 3)
    (h : (∀ τ1, τ1 = st σ t 0 0 → P τ1)) :
    WV l mX4_forget d P 0 [(2, t)] [] N Λ σ := by
  refine r_aload_n (x := t) d_X4_forget_0 rfl o_t.1 ?_
  refine r_iconst (x := 0) d_X4_forget_1 ⟨by decide, by decide⟩ ?_
  refine r_putI (j := 0) d_X4_forget_2 kX4 (by decide) fl_X4_9 rfl o_t.1 o_t.2.1 o_t.2.2.1 o_t.2.2.2 rfl ?_
  refine r_nmM (fun τ1 eτ1 => ?_)
  have h := h τ1 eτ1
  exact r_vret d_X4_forget_5 rfl (Nat.le_refl 0) (Nat.le_refl 0) ⟨rfl, rfl, rfl, h⟩
theorem v_X7_take_0 {l : Launch} {d N : Nat} {Λ : Lay} {P : Mem → Prop} {σ : Mem} {a1 t : Int}
    (h : WV l mX7_take d P 2 [(2, t), (2, a1), (0, 0)] [] N Λ σ) :
    WV l mX7_take d P 0 [(2, t), (2, a1), (3, 0)] [] N Λ σ := by
  refine r_iconst (x := 0) d_X7_take_0 ⟨by decide, by decide⟩ ?_
  refine r_istore_n (L2 := [(2, t), (2, a1), (0, 0)]) d_X7_take_1 (by decide) rfl rfl ?_
  exact h
theorem v_X7_take_2 {l : Launch} {d N : Nat} {Λ : Lay} {P : Mem → Prop} {σ : Mem} {x2 a1 a1_facts a1_places a1_shelves n_t_facts n_t_places t t_facts t_places t_shelves : Int} (o_a1 : Ob N Λ a1 16 3) (f_a1_places : (Λ a1).2.2 1 = a1_places) (o_t : Ob N Λ t 16 3) (f_t_places : (Λ t).2.2 1 = t_places) (q_t_places : Ob N Λ t_places 0 n_t_places ∧ 0 ≤ n_t_places ∧ n_t_places ≤ 2147483647) (f_a1_facts : (Λ a1).2.2 2 = a1_facts) (f_t_facts : (Λ t).2.2 2 = t_facts) (q_t_facts : Ob N Λ t_facts 0 n_t_facts ∧ 0 ≤ n_t_facts ∧ n_t_facts ≤ 2147483647) (f_t_shelves : (Λ t).2.2 0 = t_shelves) (f_a1_shelves : (Λ a1).2.2 0 = a1_shelves) (h0d : 1 ≤ d)
    (h : ((6 ≤ x2 → (Cp N Λ a1_places t_places 0 0 0 n_t_places ∧ ∀ τ1, τ1 = cpM σ a1_places 0 t_places 0 n_t_places → (Cp N Λ a1_facts t_facts 0 0 0 n_t_facts ∧ ∀ τ2, τ2 = cpM τ1 a1_facts 0 t_facts 0 n_t_facts → P τ2))) ∧ (¬ (6 ≤ x2) → (Ix N Λ t_shelves 3 x2 ∧ ∀ b3, b3 = (Λ t_shelves).2.2 x2 → Ob N Λ b3 15 3 ∧ (Ix N Λ a1_shelves 3 x2 ∧ ∀ b4, b4 = (Λ a1_shelves).2.2 x2 → Ob N Λ b4 15 3 ∧ (CV l mX5_take (d - 1) [(2, b3), (2, b4)] N Λ σ (fun σ5 => (∀ y6, y6 = addI x2 1 → WV l mX7_take d P 2 [(2, t), (2, a1), (0, y6)] [] N Λ σ5)))))))) :
    WV l mX7_take d P 2 [(2, t), (2, a1), (0, x2)] [] N Λ σ := by
  refine r_iload_n (x := x2) d_X7_take_2 rfl ?_
  refine r_bipush (x := 6) d_X7_take_3 ⟨by decide, by decide⟩ (by decide) ?_
  refine r_ic_ge (tgt := 29) d_X7_take_5 rfl (fun hc => ?_) (fun hc => ?_)
  · have h := h.1 hc
    refine r_aload_n (x := a1) d_X7_take_29 rfl o_a1.1 ?_
    refine r_getf (j := 1) (t := 2) (x := a1_places) d_X7_take_30 kX7 (by decide) fl_X7_17 o_a1.1 o_a1.2.1 o_a1.2.2.1 o_a1.2.2.2 rfl f_a1_places ?_
    refine r_iconst (x := 0) d_X7_take_33 ⟨by decide, by decide⟩ ?_
    refine r_aload_n (x := t) d_X7_take_34 rfl o_t.1 ?_
    refine r_getf (j := 1) (t := 2) (x := t_places) d_X7_take_35 kX7 (by decide) fl_X7_17 o_t.1 o_t.2.1 o_t.2.2.1 o_t.2.2.2 rfl f_t_places ?_
    refine r_iconst (x := 0) d_X7_take_38 ⟨by decide, by decide⟩ ?_
    refine r_aload_n (x := t) d_X7_take_39 rfl o_t.1 ?_
    refine r_getf (j := 1) (t := 2) (x := t_places) d_X7_take_40 kX7 (by decide) fl_X7_17 o_t.1 o_t.2.1 o_t.2.2.1 o_t.2.2.2 rfl f_t_places ?_
    refine r_alen (len := n_t_places) d_X7_take_43 q_t_places.1.1 q_t_places.1.2.1 (by rw [q_t_places.1.2.2.1]; decide) q_t_places.1.2.2.2 q_t_places.2.1 q_t_places.2.2 ?_
    refine x_acp0 d_X7_take_44 ml_X7_35 h0d (Nat.le_of_ble_eq_true rfl) h.1 ?_
    have h := h.2
    refine r_nmM (fun τ1 eτ1 => ?_)
    have h := h τ1 eτ1
    refine r_aload_n (x := a1) d_X7_take_47 rfl o_a1.1 ?_
    refine r_getf (j := 2) (t := 2) (x := a1_facts) d_X7_take_48 kX7 (by decide) fl_X7_21 o_a1.1 o_a1.2.1 o_a1.2.2.1 o_a1.2.2.2 rfl f_a1_facts ?_
    refine r_iconst (x := 0) d_X7_take_51 ⟨by decide, by decide⟩ ?_
    refine r_aload_n (x := t) d_X7_take_52 rfl o_t.1 ?_
    refine r_getf (j := 2) (t := 2) (x := t_facts) d_X7_take_53 kX7 (by decide) fl_X7_21 o_t.1 o_t.2.1 o_t.2.2.1 o_t.2.2.2 rfl f_t_facts ?_
    refine r_iconst (x := 0) d_X7_take_56 ⟨by decide, by decide⟩ ?_
    refine r_aload_n (x := t) d_X7_take_57 rfl o_t.1 ?_
    refine r_getf (j := 2) (t := 2) (x := t_facts) d_X7_take_58 kX7 (by decide) fl_X7_21 o_t.1 o_t.2.1 o_t.2.2.1 o_t.2.2.2 rfl f_t_facts ?_
    refine r_alen (len := n_t_facts) d_X7_take_61 q_t_facts.1.1 q_t_facts.1.2.1 (by rw [q_t_facts.1.2.2.1]; decide) q_t_facts.1.2.2.2 q_t_facts.2.1 q_t_facts.2.2 ?_
    refine x_acp0 d_X7_take_62 ml_X7_35 h0d (Nat.le_of_ble_eq_true rfl) h.1 ?_
    have h := h.2
    refine r_nmM (fun τ2 eτ2 => ?_)
    have h := h τ2 eτ2
    exact r_vret d_X7_take_65 rfl (Nat.le_refl 0) (Nat.le_refl 0) ⟨rfl, rfl, rfl, h⟩
  · have h := h.2 hc
    refine r_aload_n (x := t) d_X7_take_8 rfl o_t.1 ?_
    refine r_getf (j := 0) (t := 2) (x := t_shelves) d_X7_take_9 kX7 (by decide) fl_X7_11 o_t.1 o_t.2.1 o_t.2.2.1 o_t.2.2.2 rfl f_t_shelves ?_
    refine r_iload_n (x := x2) d_X7_take_12 rfl ?_
    refine x_aald (t := 3) (by decide) d_X7_take_13 h.1 (fun b3 eb3 => ?_)
    have h := h.2 b3 eb3
    have oob3 := h.1
    have h := h.2
    refine r_aload_n (x := a1) d_X7_take_14 rfl o_a1.1 ?_
    refine r_getf (j := 0) (t := 2) (x := a1_shelves) d_X7_take_15 kX7 (by decide) fl_X7_11 o_a1.1 o_a1.2.1 o_a1.2.2.1 o_a1.2.2.2 rfl f_a1_shelves ?_
    refine r_iload_n (x := x2) d_X7_take_18 rfl ?_
    refine x_aald (t := 3) (by decide) d_X7_take_19 h.1 (fun b4 eb4 => ?_)
    have h := h.2 b4 eb4
    have oob4 := h.1
    have h := h.2
    refine r_callV (Y2 := mX5_take) (d := d - 1) (mc := 0) (ms := 0) (c := b3) (As := [(2, b4)]) (S := []) d_X7_take_20 ok_mX5_take ml_X7_31 rfl (rmc h0d (by decide)) rm00 (Nat.le_of_ble_eq_true rfl) rfl kX5 oob3.1 oob3.2.1 oob3.2.2.1 oob3.2.2.2 (MC.mono h (fun r N1 Λ1 σ5 hq => ?_))
    obtain ⟨rfl, rfl, rfl, h⟩ := hq
    refine x_iinc (x := x2) (L := [(2, t), (2, a1), (0, x2)]) d_X7_take_23 rfl (by decide) rfl (fun y6 ey6 => ?_)
    have h := h y6 ey6
    show WP _ _ _ _ _ _ _ _ [(2, t), (2, a1), (0, y6)] _ _ _ _
    refine r_goto (tgt := 2) d_X7_take_26 rfl ?_
    exact h
theorem v_X7_allTerms_0 {l : Launch} {d N : Nat} {Λ : Lay} {P : Int → Mem → Prop} {σ : Mem} {t : Int}
    (h : WI l mX7_allTerms d P 4 [(2, t), (0, 0), (0, 0)] [] N Λ σ) :
    WI l mX7_allTerms d P 0 [(2, t), (3, 0), (3, 0)] [] N Λ σ := by
  refine r_iconst (x := 0) d_X7_allTerms_0 ⟨by decide, by decide⟩ ?_
  refine r_istore_n (L2 := [(2, t), (0, 0), (3, 0)]) d_X7_allTerms_1 (by decide) rfl rfl ?_
  refine r_iconst (x := 0) d_X7_allTerms_2 ⟨by decide, by decide⟩ ?_
  refine r_istore_n (L2 := [(2, t), (0, 0), (0, 0)]) d_X7_allTerms_3 (by decide) rfl rfl ?_
  exact h
theorem v_X7_allTerms_4 {l : Launch} {d N : Nat} {Λ : Lay} {P : Int → Mem → Prop} {σ : Mem} {x1 x2 t t_shelves : Int} (o_t : Ob N Λ t 16 3) (f_t_shelves : (Λ t).2.2 0 = t_shelves)
    (h : ((6 ≤ x2 → P x1 σ) ∧ (¬ (6 ≤ x2) → (Ix N Λ t_shelves 3 x2 ∧ ∀ b1, b1 = (Λ t_shelves).2.2 x2 → Ob N Λ b1 15 3 ∧ (∀ y2, y2 = (addI x1 (σ b1 2)) → (∀ y3, y3 = addI x2 1 → WI l mX7_allTerms d P 4 [(2, t), (0, y2), (0, y3)] [] N Λ σ)))))) :
    WI l mX7_allTerms d P 4 [(2, t), (0, x1), (0, x2)] [] N Λ σ := by
  refine r_iload_n (x := x2) d_X7_allTerms_4 rfl ?_
  refine r_bipush (x := 6) d_X7_allTerms_5 ⟨by decide, by decide⟩ (by decide) ?_
  refine r_ic_ge (tgt := 28) d_X7_allTerms_7 rfl (fun hc => ?_) (fun hc => ?_)
  · have h := h.1 hc
    refine r_iload_n (x := x1) d_X7_allTerms_28 rfl ?_
    exact r_iret d_X7_allTerms_29 rfl rfl (Nat.le_refl 0) (Nat.le_refl 0) ⟨_, rfl, rfl, rfl, h⟩
  · have h := h.2 hc
    refine r_iload_n (x := x1) d_X7_allTerms_10 rfl ?_
    refine r_aload_n (x := t) d_X7_allTerms_11 rfl o_t.1 ?_
    refine r_getf (j := 0) (t := 2) (x := t_shelves) d_X7_allTerms_12 kX7 (by decide) fl_X7_11 o_t.1 o_t.2.1 o_t.2.2.1 o_t.2.2.2 rfl f_t_shelves ?_
    refine r_iload_n (x := x2) d_X7_allTerms_15 rfl ?_
    refine x_aald (t := 3) (by decide) d_X7_allTerms_16 h.1 (fun b1 eb1 => ?_)
    have h := h.2 b1 eb1
    have oob1 := h.1
    have h := h.2
    refine r_getf (j := 2) (t := 0) (x := (σ b1 2)) d_X7_allTerms_17 kX5 (by decide) fl_X7_41 oob1.1 oob1.2.1 oob1.2.2.1 oob1.2.2.2 rfl rfl ?_
    refine r_iadd d_X7_allTerms_20 ?_
    refine r_nm (fun y2 ey2 => ?_)
    have h := h y2 ey2
    refine r_istore_n (L2 := [(2, t), (0, y2), (0, x2)]) d_X7_allTerms_21 (by decide) rfl rfl ?_
    refine x_iinc (x := x2) (L := [(2, t), (0, y2), (0, x2)]) d_X7_allTerms_22 rfl (by decide) rfl (fun y3 ey3 => ?_)
    have h := h y3 ey3
    show WP _ _ _ _ _ _ _ _ [(2, t), (0, y2), (0, y3)] _ _ _ _
    refine r_goto (tgt := 4) d_X7_allTerms_25 rfl ?_
    exact h
theorem v_X7_factOf_0 {l : Launch} {d N : Nat} {Λ : Lay} {P : Int → Mem → Prop} {σ : Mem} {x1 t t_facts : Int} (o_t : Ob N Λ t 16 3) (f_t_facts : (Λ t).2.2 2 = t_facts) (h0d : 1 ≤ d)
    (h : (CI l mX6_indexOf (d - 1) [(0, x1)] N Λ σ (fun v2 σ1 => (Ix N Λ t_facts 0 v2 ∧ P (σ1 t_facts v2) σ1)))) :
    WI l mX7_factOf d P 0 [(2, t), (0, x1)] [] N Λ σ := by
  refine r_aload_n (x := t) d_X7_factOf_0 rfl o_t.1 ?_
  refine r_getf (j := 2) (t := 2) (x := t_facts) d_X7_factOf_1 kX7 (by decide) fl_X7_21 o_t.1 o_t.2.1 o_t.2.2.1 o_t.2.2.2 rfl f_t_facts ?_
  refine r_iload_n (x := x1) d_X7_factOf_4 rfl ?_
  refine r_callS (Y2 := mX6_indexOf) (d := d - 1) (mc := 0) (ms := 0) (As := [(0, x1)]) (S := [(2, t_facts)]) d_X7_factOf_5 ok_mX6_indexOf ml_X7_45 rfl (rmc h0d (by decide)) rm00 (Nat.le_of_ble_eq_true rfl) rfl (MC.mono h (fun r N1 Λ1 σ1 hq => ?_))
  obtain ⟨v2, rfl, rfl, rfl, h⟩ := hq
  refine x_iald d_X7_factOf_8 h.1 ?_
  have h := h.2
  exact r_iret d_X7_factOf_9 rfl rfl (Nat.le_refl 0) (Nat.le_refl 0) ⟨_, rfl, rfl, rfl, h⟩
theorem v_X7_tellFact_0 {l : Launch} {d N : Nat} {Λ : Lay} {P : Mem → Prop} {σ : Mem} {x1 x2 t t_facts : Int} (o_t : Ob N Λ t 16 3) (f_t_facts : (Λ t).2.2 2 = t_facts) (h0d : 1 ≤ d)
    (h : (CI l mX6_indexOf (d - 1) [(0, x1)] N Λ σ (fun v2 σ1 => (Ix N Λ t_facts 0 v2 ∧ (∀ τ3, τ3 = st σ1 t_facts v2 x2 → P τ3))))) :
    WV l mX7_tellFact d P 0 [(2, t), (0, x1), (0, x2)] [] N Λ σ := by
  refine r_aload_n (x := t) d_X7_tellFact_0 rfl o_t.1 ?_
  refine r_getf (j := 2) (t := 2) (x := t_facts) d_X7_tellFact_1 kX7 (by decide) fl_X7_21 o_t.1 o_t.2.1 o_t.2.2.1 o_t.2.2.2 rfl f_t_facts ?_
  refine r_iload_n (x := x1) d_X7_tellFact_4 rfl ?_
  refine r_callS (Y2 := mX6_indexOf) (d := d - 1) (mc := 0) (ms := 0) (As := [(0, x1)]) (S := [(2, t_facts)]) d_X7_tellFact_5 ok_mX6_indexOf ml_X7_45 rfl (rmc h0d (by decide)) rm00 (Nat.le_of_ble_eq_true rfl) rfl (MC.mono h (fun r N1 Λ1 σ1 hq => ?_))
  obtain ⟨v2, rfl, rfl, rfl, h⟩ := hq
  refine r_iload_n (x := x2) d_X7_tellFact_8 rfl ?_
  refine x_iast d_X7_tellFact_9 h.1 ?_
  have h := h.2
  refine r_nmM (fun τ3 eτ3 => ?_)
  have h := h τ3 eτ3
  exact r_vret d_X7_tellFact_10 rfl (Nat.le_refl 0) (Nat.le_refl 0) ⟨rfl, rfl, rfl, h⟩
theorem v_X7_factsThatAre_0 {l : Launch} {d N : Nat} {Λ : Lay} {P : Int → Mem → Prop} {σ : Mem} {x1 t : Int}
    (h : WI l mX7_factsThatAre d P 4 [(2, t), (0, x1), (0, 0), (0, 0)] [] N Λ σ) :
    WI l mX7_factsThatAre d P 0 [(2, t), (0, x1), (3, 0), (3, 0)] [] N Λ σ := by
  refine r_iconst (x := 0) d_X7_factsThatAre_0 ⟨by decide, by decide⟩ ?_
  refine r_istore_n (L2 := [(2, t), (0, x1), (0, 0), (3, 0)]) d_X7_factsThatAre_1 (by decide) rfl rfl ?_
  refine r_iconst (x := 0) d_X7_factsThatAre_2 ⟨by decide, by decide⟩ ?_
  refine r_istore_n (L2 := [(2, t), (0, x1), (0, 0), (0, 0)]) d_X7_factsThatAre_3 (by decide) rfl rfl ?_
  exact h
theorem v_X7_factsThatAre_4 {l : Launch} {d N : Nat} {Λ : Lay} {P : Int → Mem → Prop} {σ : Mem} {x1 x2 x3 t t_facts : Int} (o_t : Ob N Λ t 16 3) (f_t_facts : (Λ t).2.2 2 = t_facts)
    (h : ((120 ≤ x3 → P x2 σ) ∧ (¬ (120 ≤ x3) → (Ix N Λ t_facts 0 x3 ∧ ((¬ (σ t_facts x3) = x1 → (∀ y1, y1 = addI x3 1 → WI l mX7_factsThatAre d P 4 [(2, t), (0, x1), (0, x2), (0, y1)] [] N Λ σ)) ∧ ((σ t_facts x3) = x1 → (∀ y2, y2 = addI x2 1 → (∀ y3, y3 = addI x3 1 → WI l mX7_factsThatAre d P 4 [(2, t), (0, x1), (0, y2), (0, y3)] [] N Λ σ)))))))) :
    WI l mX7_factsThatAre d P 4 [(2, t), (0, x1), (0, x2), (0, x3)] [] N Λ σ := by
  refine r_iload_n (x := x3) d_X7_factsThatAre_4 rfl ?_
  refine r_bipush (x := 120) d_X7_factsThatAre_5 ⟨by decide, by decide⟩ (by decide) ?_
  refine r_ic_ge (tgt := 29) d_X7_factsThatAre_7 rfl (fun hc => ?_) (fun hc => ?_)
  · have h := h.1 hc
    refine r_iload_n (x := x2) d_X7_factsThatAre_29 rfl ?_
    exact r_iret d_X7_factsThatAre_30 rfl rfl (Nat.le_refl 0) (Nat.le_refl 0) ⟨_, rfl, rfl, rfl, h⟩
  · have h := h.2 hc
    refine r_aload_n (x := t) d_X7_factsThatAre_10 rfl o_t.1 ?_
    refine r_getf (j := 2) (t := 2) (x := t_facts) d_X7_factsThatAre_11 kX7 (by decide) fl_X7_21 o_t.1 o_t.2.1 o_t.2.2.1 o_t.2.2.2 rfl f_t_facts ?_
    refine r_iload_n (x := x3) d_X7_factsThatAre_14 rfl ?_
    refine x_iald d_X7_factsThatAre_15 h.1 ?_
    have h := h.2
    refine r_iload_n (x := x1) d_X7_factsThatAre_16 rfl ?_
    refine r_ic_ne (tgt := 23) d_X7_factsThatAre_17 rfl (fun hc => ?_) (fun hc => ?_)
    · have h := h.1 hc
      refine x_iinc (x := x3) (L := [(2, t), (0, x1), (0, x2), (0, x3)]) d_X7_factsThatAre_23 rfl (by decide) rfl (fun y1 ey1 => ?_)
      have h := h y1 ey1
      show WP _ _ _ _ _ _ _ _ [(2, t), (0, x1), (0, x2), (0, y1)] _ _ _ _
      refine r_goto (tgt := 4) d_X7_factsThatAre_26 rfl ?_
      exact h
    · have h := h.2 hc
      refine x_iinc (x := x2) (L := [(2, t), (0, x1), (0, x2), (0, x3)]) d_X7_factsThatAre_20 rfl (by decide) rfl (fun y2 ey2 => ?_)
      have h := h y2 ey2
      show WP _ _ _ _ _ _ _ _ [(2, t), (0, x1), (0, y2), (0, x3)] _ _ _ _
      refine x_iinc (x := x3) (L := [(2, t), (0, x1), (0, y2), (0, x3)]) d_X7_factsThatAre_23 rfl (by decide) rfl (fun y3 ey3 => ?_)
      have h := h y3 ey3
      show WP _ _ _ _ _ _ _ _ [(2, t), (0, x1), (0, y2), (0, y3)] _ _ _ _
      refine r_goto (tgt := 4) d_X7_factsThatAre_26 rfl ?_
      exact h
theorem v_X7_reduceTo_0 {l : Launch} {d N : Nat} {Λ : Lay} {P : Mem → Prop} {σ : Mem} {a1 a2 t : Int} (o_a1 : Ob N Λ a1 15 3) (h0d : 1 ≤ d)
    (h : (CV l mX5_empty (d - 1) [(2, a1)] N Λ σ (fun σ1 => WV l mX7_reduceTo d P 6 [(2, t), (2, a1), (2, a2), (0, 0)] [] N Λ σ1))) :
    WV l mX7_reduceTo d P 0 [(2, t), (2, a1), (2, a2), (3, 0)] [] N Λ σ := by
  refine r_aload_n (x := a1) d_X7_reduceTo_0 rfl o_a1.1 ?_
  refine r_callV (Y2 := mX5_empty) (d := d - 1) (mc := 0) (ms := 0) (c := a1) (As := []) (S := []) d_X7_reduceTo_1 ok_mX5_empty ml_X7_51 rfl (rmc h0d (by decide)) rm00 (Nat.le_of_ble_eq_true rfl) rfl kX5 o_a1.1 o_a1.2.1 o_a1.2.2.1 o_a1.2.2.2 (MC.mono h (fun r N1 Λ1 σ1 hq => ?_))
  obtain ⟨rfl, rfl, rfl, h⟩ := hq
  refine r_iconst (x := 0) d_X7_reduceTo_4 ⟨by decide, by decide⟩ ?_
  refine r_istore_n (L2 := [(2, t), (2, a1), (2, a2), (0, 0)]) d_X7_reduceTo_5 (by decide) rfl rfl ?_
  exact h
theorem v_X7_reduceTo_6 {l : Launch} {d N : Nat} {Λ : Lay} {P : Mem → Prop} {σ : Mem} {x3 a1 a2 a2_keys a2_numbers t : Int} (o_a2 : Ob N Λ a2 15 3) (o_t : Ob N Λ t 16 3) (f_a2_keys : (Λ a2).2.2 0 = a2_keys) (o_a1 : Ob N Λ a1 15 3) (f_a2_numbers : (Λ a2).2.2 1 = a2_numbers) (h0d : 1 ≤ d)
    (h : (((σ a2 2) ≤ x3 → P σ) ∧ (¬ ((σ a2 2) ≤ x3) → (Ix N Λ a2_keys 1 x3 ∧ (CI l mX7_bracketsThatAre (d - 1) [(2, t), (1, (σ a2_keys x3)), (0, 0)] N Λ σ (fun v2 σ1 => ((¬ v2 = 0 → (∀ y3, y3 = addI x3 1 → WV l mX7_reduceTo d P 6 [(2, t), (2, a1), (2, a2), (0, y3)] [] N Λ σ1)) ∧ (v2 = 0 → (Ix N Λ a2_keys 1 x3 ∧ (Ix N Λ a2_numbers 0 x3 ∧ (CI l mX5_lay (d - 1) [(2, a1), (1, (σ1 a2_keys x3)), (1, (σ1 a2_numbers x3))] N Λ σ1 (fun v5 σ4 => (∀ y6, y6 = addI x3 1 → WV l mX7_reduceTo d P 6 [(2, t), (2, a1), (2, a2), (0, y6)] [] N Λ σ4))))))))))))) :
    WV l mX7_reduceTo d P 6 [(2, t), (2, a1), (2, a2), (0, x3)] [] N Λ σ := by
  refine r_iload_n (x := x3) d_X7_reduceTo_6 rfl ?_
  refine r_aload_n (x := a2) d_X7_reduceTo_7 rfl o_a2.1 ?_
  refine r_getf (j := 2) (t := 0) (x := (σ a2 2)) d_X7_reduceTo_8 kX5 (by decide) fl_X7_41 o_a2.1 o_a2.2.1 o_a2.2.2.1 o_a2.2.2.2 rfl rfl ?_
  refine r_ic_ge (tgt := 52) d_X7_reduceTo_11 rfl (fun hc => ?_) (fun hc => ?_)
  · have h := h.1 hc
    exact r_vret d_X7_reduceTo_52 rfl (Nat.le_refl 0) (Nat.le_refl 0) ⟨rfl, rfl, rfl, h⟩
  · have h := h.2 hc
    refine r_aload_n (x := t) d_X7_reduceTo_14 rfl o_t.1 ?_
    refine r_aload_n (x := a2) d_X7_reduceTo_15 rfl o_a2.1 ?_
    refine r_getf (j := 0) (t := 2) (x := a2_keys) d_X7_reduceTo_16 kX5 (by decide) fl_X7_54 o_a2.1 o_a2.2.1 o_a2.2.2.1 o_a2.2.2.2 rfl f_a2_keys ?_
    refine r_iload_n (x := x3) d_X7_reduceTo_19 rfl ?_
    refine x_lald d_X7_reduceTo_20 h.1 ?_
    have h := h.2
    refine r_iconst (x := 0) d_X7_reduceTo_21 ⟨by decide, by decide⟩ ?_
    refine r_callV (Y2 := mX7_bracketsThatAre) (d := d - 1) (mc := 0) (ms := 0) (c := t) (As := [(1, (σ a2_keys x3)), (0, 0)]) (S := []) d_X7_reduceTo_22 ok_mX7_bracketsThatAre ml_X7_58 rfl (rmc h0d (by decide)) rm00 (Nat.le_of_ble_eq_true rfl) rfl kX7 o_t.1 o_t.2.1 o_t.2.2.1 o_t.2.2.2 (MC.mono h (fun r N1 Λ1 σ1 hq => ?_))
    obtain ⟨v2, rfl, rfl, rfl, h⟩ := hq
    refine r_if_ne (tgt := 46) d_X7_reduceTo_25 rfl (fun hc => ?_) (fun hc => ?_)
    · have h := h.1 hc
      refine x_iinc (x := x3) (L := [(2, t), (2, a1), (2, a2), (0, x3)]) d_X7_reduceTo_46 rfl (by decide) rfl (fun y3 ey3 => ?_)
      have h := h y3 ey3
      show WP _ _ _ _ _ _ _ _ [(2, t), (2, a1), (2, a2), (0, y3)] _ _ _ _
      refine r_goto (tgt := 6) d_X7_reduceTo_49 rfl ?_
      exact h
    · have h := h.2 hc
      refine r_aload_n (x := a1) d_X7_reduceTo_28 rfl o_a1.1 ?_
      refine r_aload_n (x := a2) d_X7_reduceTo_29 rfl o_a2.1 ?_
      refine r_getf (j := 0) (t := 2) (x := a2_keys) d_X7_reduceTo_30 kX5 (by decide) fl_X7_54 o_a2.1 o_a2.2.1 o_a2.2.2.1 o_a2.2.2.2 rfl f_a2_keys ?_
      refine r_iload_n (x := x3) d_X7_reduceTo_33 rfl ?_
      refine x_lald d_X7_reduceTo_34 h.1 ?_
      have h := h.2
      refine r_aload_n (x := a2) d_X7_reduceTo_35 rfl o_a2.1 ?_
      refine r_getf (j := 1) (t := 2) (x := a2_numbers) d_X7_reduceTo_36 kX5 (by decide) fl_X7_62 o_a2.1 o_a2.2.1 o_a2.2.2.1 o_a2.2.2.2 rfl f_a2_numbers ?_
      refine r_iload_n (x := x3) d_X7_reduceTo_39 rfl ?_
      refine x_iald d_X7_reduceTo_40 h.1 ?_
      have h := h.2
      refine r_i2l d_X7_reduceTo_41 ?_
      refine r_callV (Y2 := mX5_lay) (d := d - 1) (mc := 0) (ms := 0) (c := a1) (As := [(1, (σ1 a2_keys x3)), (1, (σ1 a2_numbers x3))]) (S := []) d_X7_reduceTo_42 ok_mX5_lay ml_X7_65 rfl (rmc h0d (by decide)) rm00 (Nat.le_of_ble_eq_true rfl) rfl kX5 o_a1.1 o_a1.2.1 o_a1.2.2.1 o_a1.2.2.2 (MC.mono h (fun r N1 Λ1 σ4 hq => ?_))
      obtain ⟨v5, rfl, rfl, rfl, h⟩ := hq
      refine r_pop d_X7_reduceTo_45 rfl ?_
      refine x_iinc (x := x3) (L := [(2, t), (2, a1), (2, a2), (0, x3)]) d_X7_reduceTo_46 rfl (by decide) rfl (fun y6 ey6 => ?_)
      have h := h y6 ey6
      show WP _ _ _ _ _ _ _ _ [(2, t), (2, a1), (2, a2), (0, y6)] _ _ _ _
      refine r_goto (tgt := 6) d_X7_reduceTo_49 rfl ?_
      exact h
theorem v_X7_cannotVanish_0 {l : Launch} {d N : Nat} {Λ : Lay} {P : Int → Mem → Prop} {σ : Mem} {x1 t : Int} (o_t : Ob N Λ t 16 3) (h0d : 1 ≤ d)
    (h : (CI l mX6_bracketsIn (d - 1) [(1, x1)] N Λ σ (fun v2 σ1 => ((v2 ≤ 0 → P 0 σ1) ∧ (¬ (v2 ≤ 0) → (CI l mX7_bracketsThatAre (d - 1) [(2, t), (1, x1), (0, 1)] N Λ σ1 (fun v4 σ3 => ((¬ v4 = v2 → P 0 σ3) ∧ (v4 = v2 → P 1 σ3))))))))) :
    WI l mX7_cannotVanish d P 0 [(2, t), (1, x1), (3, 0), (3, 0)] [] N Λ σ := by
  refine r_lload_n (x := x1) d_X7_cannotVanish_0 rfl ?_
  refine r_callS (Y2 := mX6_bracketsIn) (d := d - 1) (mc := 0) (ms := 0) (As := [(1, x1)]) (S := []) d_X7_cannotVanish_1 ok_mX6_bracketsIn ml_X7_69 rfl (rmc h0d (by decide)) rm00 (Nat.le_of_ble_eq_true rfl) rfl (MC.mono h (fun r N1 Λ1 σ1 hq => ?_))
  obtain ⟨v2, rfl, rfl, rfl, h⟩ := hq
  refine r_istore_n (L2 := [(2, t), (1, x1), (3, 0), (0, v2)]) d_X7_cannotVanish_4 (by decide) rfl rfl ?_
  refine r_iload_n (x := v2) d_X7_cannotVanish_5 rfl ?_
  refine r_if_le (tgt := 23) d_X7_cannotVanish_6 rfl (fun hc => ?_) (fun hc => ?_)
  · have h := h.1 hc
    refine r_iconst (x := 0) d_X7_cannotVanish_23 ⟨by decide, by decide⟩ ?_
    exact r_iret d_X7_cannotVanish_24 rfl (by decide) (Nat.le_refl 0) (Nat.le_refl 0) ⟨_, rfl, rfl, rfl, h⟩
  · have h := h.2 hc
    refine r_aload_n (x := t) d_X7_cannotVanish_9 rfl o_t.1 ?_
    refine r_lload_n (x := x1) d_X7_cannotVanish_10 rfl ?_
    refine r_iconst (x := 1) d_X7_cannotVanish_11 ⟨by decide, by decide⟩ ?_
    refine r_callV (Y2 := mX7_bracketsThatAre) (d := d - 1) (mc := 0) (ms := 0) (c := t) (As := [(1, x1), (0, 1)]) (S := []) d_X7_cannotVanish_12 ok_mX7_bracketsThatAre ml_X7_58 rfl (rmc h0d (by decide)) rm00 (Nat.le_of_ble_eq_true rfl) rfl kX7 o_t.1 o_t.2.1 o_t.2.2.1 o_t.2.2.2 (MC.mono h (fun r N1 Λ1 σ3 hq => ?_))
    obtain ⟨v4, rfl, rfl, rfl, h⟩ := hq
    refine r_iload_n (x := v2) d_X7_cannotVanish_15 rfl ?_
    refine r_ic_ne (tgt := 23) d_X7_cannotVanish_16 rfl (fun hc => ?_) (fun hc => ?_)
    · have h := h.1 hc
      refine r_iconst (x := 0) d_X7_cannotVanish_23 ⟨by decide, by decide⟩ ?_
      exact r_iret d_X7_cannotVanish_24 rfl (by decide) (Nat.le_refl 0) (Nat.le_refl 0) ⟨_, rfl, rfl, rfl, h⟩
    · have h := h.2 hc
      refine r_iconst (x := 1) d_X7_cannotVanish_19 ⟨by decide, by decide⟩ ?_
      refine r_goto (tgt := 24) d_X7_cannotVanish_20 rfl ?_
      exact r_iret d_X7_cannotVanish_24 rfl (by decide) (Nat.le_refl 0) (Nat.le_refl 0) ⟨_, rfl, rfl, rfl, h⟩
theorem v_X7_bracketsThatAre_0 {l : Launch} {d N : Nat} {Λ : Lay} {P : Int → Mem → Prop} {σ : Mem} {x1 x3 t : Int} (h0d : 1 ≤ d)
    (h : (CI l mX6_bracketsIn (d - 1) [(1, x1)] N Λ σ (fun v2 σ1 => WI l mX7_bracketsThatAre d P 12 [(2, t), (1, x1), (3, 0), (0, x3), (0, 0), (0, v2), (0, 0)] [] N Λ σ1))) :
    WI l mX7_bracketsThatAre d P 0 [(2, t), (1, x1), (3, 0), (0, x3), (3, 0), (3, 0), (3, 0)] [] N Λ σ := by
  refine r_iconst (x := 0) d_X7_bracketsThatAre_0 ⟨by decide, by decide⟩ ?_
  refine r_istore (L2 := [(2, t), (1, x1), (3, 0), (0, x3), (0, 0), (3, 0), (3, 0)]) d_X7_bracketsThatAre_1 (by decide) rfl rfl ?_
  refine r_lload_n (x := x1) d_X7_bracketsThatAre_3 rfl ?_
  refine r_callS (Y2 := mX6_bracketsIn) (d := d - 1) (mc := 0) (ms := 0) (As := [(1, x1)]) (S := []) d_X7_bracketsThatAre_4 ok_mX6_bracketsIn ml_X7_69 rfl (rmc h0d (by decide)) rm00 (Nat.le_of_ble_eq_true rfl) rfl (MC.mono h (fun r N1 Λ1 σ1 hq => ?_))
  obtain ⟨v2, rfl, rfl, rfl, h⟩ := hq
  refine r_istore (L2 := [(2, t), (1, x1), (3, 0), (0, x3), (0, 0), (0, v2), (3, 0)]) d_X7_bracketsThatAre_7 (by decide) rfl rfl ?_
  refine r_iconst (x := 0) d_X7_bracketsThatAre_9 ⟨by decide, by decide⟩ ?_
  refine r_istore (L2 := [(2, t), (1, x1), (3, 0), (0, x3), (0, 0), (0, v2), (0, 0)]) d_X7_bracketsThatAre_10 (by decide) rfl rfl ?_
  exact h
theorem v_X7_bracketsThatAre_12 {l : Launch} {d N : Nat} {Λ : Lay} {P : Int → Mem → Prop} {σ : Mem} {x1 x3 x4 x5 x6 t : Int} (o_t : Ob N Λ t 16 3) (h0d : 1 ≤ d)
    (h : ((x5 ≤ x6 → P x4 σ) ∧ (¬ (x5 ≤ x6) → (CI l mX6_bracketAt (d - 1) [(1, x1), (0, x6)] N Λ σ (fun v2 σ1 => (CI l mX7_factOf (d - 1) [(2, t), (0, v2)] N Λ σ1 (fun v4 σ3 => ((¬ v4 = x3 → (∀ y5, y5 = addI x6 1 → WI l mX7_bracketsThatAre d P 12 [(2, t), (1, x1), (3, 0), (0, x3), (0, x4), (0, x5), (0, y5)] [] N Λ σ3)) ∧ (v4 = x3 → (∀ y6, y6 = addI x4 1 → (∀ y7, y7 = addI x6 1 → WI l mX7_bracketsThatAre d P 12 [(2, t), (1, x1), (3, 0), (0, x3), (0, y6), (0, x5), (0, y7)] [] N Λ σ3))))))))))) :
    WI l mX7_bracketsThatAre d P 12 [(2, t), (1, x1), (3, 0), (0, x3), (0, x4), (0, x5), (0, x6)] [] N Λ σ := by
  refine r_iload (x := x6) d_X7_bracketsThatAre_12 rfl ?_
  refine r_iload (x := x5) d_X7_bracketsThatAre_14 rfl ?_
  refine r_ic_ge (tgt := 42) d_X7_bracketsThatAre_16 rfl (fun hc => ?_) (fun hc => ?_)
  · have h := h.1 hc
    refine r_iload (x := x4) d_X7_bracketsThatAre_42 rfl ?_
    exact r_iret d_X7_bracketsThatAre_44 rfl rfl (Nat.le_refl 0) (Nat.le_refl 0) ⟨_, rfl, rfl, rfl, h⟩
  · have h := h.2 hc
    refine r_aload_n (x := t) d_X7_bracketsThatAre_19 rfl o_t.1 ?_
    refine r_lload_n (x := x1) d_X7_bracketsThatAre_20 rfl ?_
    refine r_iload (x := x6) d_X7_bracketsThatAre_21 rfl ?_
    refine r_callS (Y2 := mX6_bracketAt) (d := d - 1) (mc := 0) (ms := 0) (As := [(1, x1), (0, x6)]) (S := [(2, t)]) d_X7_bracketsThatAre_23 ok_mX6_bracketAt ml_X7_73 rfl (rmc h0d (by decide)) rm00 (Nat.le_of_ble_eq_true rfl) rfl (MC.mono h (fun r N1 Λ1 σ1 hq => ?_))
    obtain ⟨v2, rfl, rfl, rfl, h⟩ := hq
    refine r_callV (Y2 := mX7_factOf) (d := d - 1) (mc := 0) (ms := 0) (c := t) (As := [(0, v2)]) (S := []) d_X7_bracketsThatAre_26 ok_mX7_factOf ml_X7_76 rfl (rmc h0d (by decide)) rm00 (Nat.le_of_ble_eq_true rfl) rfl kX7 o_t.1 o_t.2.1 o_t.2.2.1 o_t.2.2.2 (MC.mono h (fun r N1 Λ1 σ3 hq => ?_))
    obtain ⟨v4, rfl, rfl, rfl, h⟩ := hq
    refine r_iload_n (x := x3) d_X7_bracketsThatAre_29 rfl ?_
    refine r_ic_ne (tgt := 36) d_X7_bracketsThatAre_30 rfl (fun hc => ?_) (fun hc => ?_)
    · have h := h.1 hc
      refine x_iinc (x := x6) (L := [(2, t), (1, x1), (3, 0), (0, x3), (0, x4), (0, x5), (0, x6)]) d_X7_bracketsThatAre_36 rfl (by decide) rfl (fun y5 ey5 => ?_)
      have h := h y5 ey5
      show WP _ _ _ _ _ _ _ _ [(2, t), (1, x1), (3, 0), (0, x3), (0, x4), (0, x5), (0, y5)] _ _ _ _
      refine r_goto (tgt := 12) d_X7_bracketsThatAre_39 rfl ?_
      exact h
    · have h := h.2 hc
      refine x_iinc (x := x4) (L := [(2, t), (1, x1), (3, 0), (0, x3), (0, x4), (0, x5), (0, x6)]) d_X7_bracketsThatAre_33 rfl (by decide) rfl (fun y6 ey6 => ?_)
      have h := h y6 ey6
      show WP _ _ _ _ _ _ _ _ [(2, t), (1, x1), (3, 0), (0, x3), (0, y6), (0, x5), (0, x6)] _ _ _ _
      refine x_iinc (x := x6) (L := [(2, t), (1, x1), (3, 0), (0, x3), (0, y6), (0, x5), (0, x6)]) d_X7_bracketsThatAre_36 rfl (by decide) rfl (fun y7 ey7 => ?_)
      have h := h y7 ey7
      show WP _ _ _ _ _ _ _ _ [(2, t), (1, x1), (3, 0), (0, x3), (0, y6), (0, x5), (0, y7)] _ _ _ _
      refine r_goto (tgt := 12) d_X7_bracketsThatAre_39 rfl ?_
      exact h
theorem v_X7_determinant_0 {l : Launch} {d N : Nat} {Λ : Lay} {P : Int → Mem → Prop} {σ : Mem} {x1 x2 x3 t t_places : Int} (o_t : Ob N Λ t 16 3) (f_t_places : (Λ t).2.2 1 = t_places)
    (h : (∀ y1, y1 = (mulI 3 x1) → (∀ y2, y2 = (mulI 3 x2) → (∀ y3, y3 = (mulI 3 x3) → (Ix N Λ t_places 0 y1 ∧ (Ix N Λ t_places 0 (addI y2 1) ∧ (Ix N Λ t_places 0 (addI y3 2) ∧ (Ix N Λ t_places 0 (addI y2 2) ∧ (Ix N Λ t_places 0 (addI y3 1) ∧ (Ix N Λ t_places 0 (addI y1 1) ∧ (Ix N Λ t_places 0 y2 ∧ (Ix N Λ t_places 0 (addI y3 2) ∧ (Ix N Λ t_places 0 (addI y2 2) ∧ (Ix N Λ t_places 0 y3 ∧ (Ix N Λ t_places 0 (addI y1 2) ∧ (Ix N Λ t_places 0 y2 ∧ (Ix N Λ t_places 0 (addI y3 1) ∧ (Ix N Λ t_places 0 (addI y2 1) ∧ (Ix N Λ t_places 0 y3 ∧ P (addI (subI (mulI (σ t_places y1) (subI (mulI (σ t_places (addI y2 1)) (σ t_places (addI y3 2))) (mulI (σ t_places (addI y2 2)) (σ t_places (addI y3 1))))) (mulI (σ t_places (addI y1 1)) (subI (mulI (σ t_places y2) (σ t_places (addI y3 2))) (mulI (σ t_places (addI y2 2)) (σ t_places y3))))) (mulI (σ t_places (addI y1 2)) (subI (mulI (σ t_places y2) (σ t_places (addI y3 1))) (mulI (σ t_places (addI y2 1)) (σ t_places y3))))) σ))))))))))))))))))) :
    WI l mX7_determinant d P 0 [(2, t), (0, x1), (0, x2), (0, x3), (3, 0), (3, 0), (3, 0)] [] N Λ σ := by
  refine r_iconst (x := 3) d_X7_determinant_0 ⟨by decide, by decide⟩ ?_
  refine r_iload_n (x := x1) d_X7_determinant_1 rfl ?_
  refine r_imul d_X7_determinant_2 ?_
  refine r_nm (fun y1 ey1 => ?_)
  have h := h y1 ey1
  refine r_istore (L2 := [(2, t), (0, x1), (0, x2), (0, x3), (0, y1), (3, 0), (3, 0)]) d_X7_determinant_3 (by decide) rfl rfl ?_
  refine r_iconst (x := 3) d_X7_determinant_5 ⟨by decide, by decide⟩ ?_
  refine r_iload_n (x := x2) d_X7_determinant_6 rfl ?_
  refine r_imul d_X7_determinant_7 ?_
  refine r_nm (fun y2 ey2 => ?_)
  have h := h y2 ey2
  refine r_istore (L2 := [(2, t), (0, x1), (0, x2), (0, x3), (0, y1), (0, y2), (3, 0)]) d_X7_determinant_8 (by decide) rfl rfl ?_
  refine r_iconst (x := 3) d_X7_determinant_10 ⟨by decide, by decide⟩ ?_
  refine r_iload_n (x := x3) d_X7_determinant_11 rfl ?_
  refine r_imul d_X7_determinant_12 ?_
  refine r_nm (fun y3 ey3 => ?_)
  have h := h y3 ey3
  refine r_istore (L2 := [(2, t), (0, x1), (0, x2), (0, x3), (0, y1), (0, y2), (0, y3)]) d_X7_determinant_13 (by decide) rfl rfl ?_
  refine r_aload_n (x := t) d_X7_determinant_15 rfl o_t.1 ?_
  refine r_getf (j := 1) (t := 2) (x := t_places) d_X7_determinant_16 kX7 (by decide) fl_X7_17 o_t.1 o_t.2.1 o_t.2.2.1 o_t.2.2.2 rfl f_t_places ?_
  refine r_iload (x := y1) d_X7_determinant_19 rfl ?_
  refine x_iald d_X7_determinant_21 h.1 ?_
  have h := h.2
  refine r_aload_n (x := t) d_X7_determinant_22 rfl o_t.1 ?_
  refine r_getf (j := 1) (t := 2) (x := t_places) d_X7_determinant_23 kX7 (by decide) fl_X7_17 o_t.1 o_t.2.1 o_t.2.2.1 o_t.2.2.2 rfl f_t_places ?_
  refine r_iload (x := y2) d_X7_determinant_26 rfl ?_
  refine r_iconst (x := 1) d_X7_determinant_28 ⟨by decide, by decide⟩ ?_
  refine r_iadd d_X7_determinant_29 ?_
  refine x_iald d_X7_determinant_30 h.1 ?_
  have h := h.2
  refine r_aload_n (x := t) d_X7_determinant_31 rfl o_t.1 ?_
  refine r_getf (j := 1) (t := 2) (x := t_places) d_X7_determinant_32 kX7 (by decide) fl_X7_17 o_t.1 o_t.2.1 o_t.2.2.1 o_t.2.2.2 rfl f_t_places ?_
  refine r_iload (x := y3) d_X7_determinant_35 rfl ?_
  refine r_iconst (x := 2) d_X7_determinant_37 ⟨by decide, by decide⟩ ?_
  refine r_iadd d_X7_determinant_38 ?_
  refine x_iald d_X7_determinant_39 h.1 ?_
  have h := h.2
  refine r_imul d_X7_determinant_40 ?_
  refine r_aload_n (x := t) d_X7_determinant_41 rfl o_t.1 ?_
  refine r_getf (j := 1) (t := 2) (x := t_places) d_X7_determinant_42 kX7 (by decide) fl_X7_17 o_t.1 o_t.2.1 o_t.2.2.1 o_t.2.2.2 rfl f_t_places ?_
  refine r_iload (x := y2) d_X7_determinant_45 rfl ?_
  refine r_iconst (x := 2) d_X7_determinant_47 ⟨by decide, by decide⟩ ?_
  refine r_iadd d_X7_determinant_48 ?_
  refine x_iald d_X7_determinant_49 h.1 ?_
  have h := h.2
  refine r_aload_n (x := t) d_X7_determinant_50 rfl o_t.1 ?_
  refine r_getf (j := 1) (t := 2) (x := t_places) d_X7_determinant_51 kX7 (by decide) fl_X7_17 o_t.1 o_t.2.1 o_t.2.2.1 o_t.2.2.2 rfl f_t_places ?_
  refine r_iload (x := y3) d_X7_determinant_54 rfl ?_
  refine r_iconst (x := 1) d_X7_determinant_56 ⟨by decide, by decide⟩ ?_
  refine r_iadd d_X7_determinant_57 ?_
  refine x_iald d_X7_determinant_58 h.1 ?_
  have h := h.2
  refine r_imul d_X7_determinant_59 ?_
  refine r_isub d_X7_determinant_60 ?_
  refine r_imul d_X7_determinant_61 ?_
  refine r_aload_n (x := t) d_X7_determinant_62 rfl o_t.1 ?_
  refine r_getf (j := 1) (t := 2) (x := t_places) d_X7_determinant_63 kX7 (by decide) fl_X7_17 o_t.1 o_t.2.1 o_t.2.2.1 o_t.2.2.2 rfl f_t_places ?_
  refine r_iload (x := y1) d_X7_determinant_66 rfl ?_
  refine r_iconst (x := 1) d_X7_determinant_68 ⟨by decide, by decide⟩ ?_
  refine r_iadd d_X7_determinant_69 ?_
  refine x_iald d_X7_determinant_70 h.1 ?_
  have h := h.2
  refine r_aload_n (x := t) d_X7_determinant_71 rfl o_t.1 ?_
  refine r_getf (j := 1) (t := 2) (x := t_places) d_X7_determinant_72 kX7 (by decide) fl_X7_17 o_t.1 o_t.2.1 o_t.2.2.1 o_t.2.2.2 rfl f_t_places ?_
  refine r_iload (x := y2) d_X7_determinant_75 rfl ?_
  refine x_iald d_X7_determinant_77 h.1 ?_
  have h := h.2
  refine r_aload_n (x := t) d_X7_determinant_78 rfl o_t.1 ?_
  refine r_getf (j := 1) (t := 2) (x := t_places) d_X7_determinant_79 kX7 (by decide) fl_X7_17 o_t.1 o_t.2.1 o_t.2.2.1 o_t.2.2.2 rfl f_t_places ?_
  refine r_iload (x := y3) d_X7_determinant_82 rfl ?_
  refine r_iconst (x := 2) d_X7_determinant_84 ⟨by decide, by decide⟩ ?_
  refine r_iadd d_X7_determinant_85 ?_
  refine x_iald d_X7_determinant_86 h.1 ?_
  have h := h.2
  refine r_imul d_X7_determinant_87 ?_
  refine r_aload_n (x := t) d_X7_determinant_88 rfl o_t.1 ?_
  refine r_getf (j := 1) (t := 2) (x := t_places) d_X7_determinant_89 kX7 (by decide) fl_X7_17 o_t.1 o_t.2.1 o_t.2.2.1 o_t.2.2.2 rfl f_t_places ?_
  refine r_iload (x := y2) d_X7_determinant_92 rfl ?_
  refine r_iconst (x := 2) d_X7_determinant_94 ⟨by decide, by decide⟩ ?_
  refine r_iadd d_X7_determinant_95 ?_
  refine x_iald d_X7_determinant_96 h.1 ?_
  have h := h.2
  refine r_aload_n (x := t) d_X7_determinant_97 rfl o_t.1 ?_
  refine r_getf (j := 1) (t := 2) (x := t_places) d_X7_determinant_98 kX7 (by decide) fl_X7_17 o_t.1 o_t.2.1 o_t.2.2.1 o_t.2.2.2 rfl f_t_places ?_
  refine r_iload (x := y3) d_X7_determinant_101 rfl ?_
  refine x_iald d_X7_determinant_103 h.1 ?_
  have h := h.2
  refine r_imul d_X7_determinant_104 ?_
  refine r_isub d_X7_determinant_105 ?_
  refine r_imul d_X7_determinant_106 ?_
  refine r_isub d_X7_determinant_107 ?_
  refine r_aload_n (x := t) d_X7_determinant_108 rfl o_t.1 ?_
  refine r_getf (j := 1) (t := 2) (x := t_places) d_X7_determinant_109 kX7 (by decide) fl_X7_17 o_t.1 o_t.2.1 o_t.2.2.1 o_t.2.2.2 rfl f_t_places ?_
  refine r_iload (x := y1) d_X7_determinant_112 rfl ?_
  refine r_iconst (x := 2) d_X7_determinant_114 ⟨by decide, by decide⟩ ?_
  refine r_iadd d_X7_determinant_115 ?_
  refine x_iald d_X7_determinant_116 h.1 ?_
  have h := h.2
  refine r_aload_n (x := t) d_X7_determinant_117 rfl o_t.1 ?_
  refine r_getf (j := 1) (t := 2) (x := t_places) d_X7_determinant_118 kX7 (by decide) fl_X7_17 o_t.1 o_t.2.1 o_t.2.2.1 o_t.2.2.2 rfl f_t_places ?_
  refine r_iload (x := y2) d_X7_determinant_121 rfl ?_
  refine x_iald d_X7_determinant_123 h.1 ?_
  have h := h.2
  refine r_aload_n (x := t) d_X7_determinant_124 rfl o_t.1 ?_
  refine r_getf (j := 1) (t := 2) (x := t_places) d_X7_determinant_125 kX7 (by decide) fl_X7_17 o_t.1 o_t.2.1 o_t.2.2.1 o_t.2.2.2 rfl f_t_places ?_
  refine r_iload (x := y3) d_X7_determinant_128 rfl ?_
  refine r_iconst (x := 1) d_X7_determinant_130 ⟨by decide, by decide⟩ ?_
  refine r_iadd d_X7_determinant_131 ?_
  refine x_iald d_X7_determinant_132 h.1 ?_
  have h := h.2
  refine r_imul d_X7_determinant_133 ?_
  refine r_aload_n (x := t) d_X7_determinant_134 rfl o_t.1 ?_
  refine r_getf (j := 1) (t := 2) (x := t_places) d_X7_determinant_135 kX7 (by decide) fl_X7_17 o_t.1 o_t.2.1 o_t.2.2.1 o_t.2.2.2 rfl f_t_places ?_
  refine r_iload (x := y2) d_X7_determinant_138 rfl ?_
  refine r_iconst (x := 1) d_X7_determinant_140 ⟨by decide, by decide⟩ ?_
  refine r_iadd d_X7_determinant_141 ?_
  refine x_iald d_X7_determinant_142 h.1 ?_
  have h := h.2
  refine r_aload_n (x := t) d_X7_determinant_143 rfl o_t.1 ?_
  refine r_getf (j := 1) (t := 2) (x := t_places) d_X7_determinant_144 kX7 (by decide) fl_X7_17 o_t.1 o_t.2.1 o_t.2.2.1 o_t.2.2.2 rfl f_t_places ?_
  refine r_iload (x := y3) d_X7_determinant_147 rfl ?_
  refine x_iald d_X7_determinant_149 h.1 ?_
  have h := h.2
  refine r_imul d_X7_determinant_150 ?_
  refine r_isub d_X7_determinant_151 ?_
  refine r_imul d_X7_determinant_152 ?_
  refine r_iadd d_X7_determinant_153 ?_
  exact r_iret d_X7_determinant_154 rfl rfl (Nat.le_refl 0) (Nat.le_refl 0) ⟨_, rfl, rfl, rfl, h⟩
theorem v_X7_bracketsWorthZero_0 {l : Launch} {d N : Nat} {Λ : Lay} {P : Int → Mem → Prop} {σ : Mem} {t : Int}
    (h : WI l mX7_bracketsWorthZero d P 4 [(2, t), (0, 0), (0, 0), (3, 0), (3, 0)] [] N Λ σ) :
    WI l mX7_bracketsWorthZero d P 0 [(2, t), (3, 0), (3, 0), (3, 0), (3, 0)] [] N Λ σ := by
  refine r_iconst (x := 0) d_X7_bracketsWorthZero_0 ⟨by decide, by decide⟩ ?_
  refine r_istore_n (L2 := [(2, t), (0, 0), (3, 0), (3, 0), (3, 0)]) d_X7_bracketsWorthZero_1 (by decide) rfl rfl ?_
  refine r_iconst (x := 0) d_X7_bracketsWorthZero_2 ⟨by decide, by decide⟩ ?_
  refine r_istore_n (L2 := [(2, t), (0, 0), (0, 0), (3, 0), (3, 0)]) d_X7_bracketsWorthZero_3 (by decide) rfl rfl ?_
  exact h
theorem v_X7_bracketsWorthZero_4 {l : Launch} {d N : Nat} {Λ : Lay} {P : Int → Mem → Prop} {σ : Mem} {x1 x2 t : Int}
    (h : ((10 ≤ x2 → P x1 σ) ∧ (¬ (10 ≤ x2) → (∀ y1, y1 = (addI x2 1) → WI l mX7_bracketsWorthZero d P 14 [(2, t), (0, x1), (0, x2), (0, y1), (3, 0)] [] N Λ σ)))) :
    WI l mX7_bracketsWorthZero d P 4 [(2, t), (0, x1), (0, x2), (3, 0), (3, 0)] [] N Λ σ := by
  refine r_iload_n (x := x2) d_X7_bracketsWorthZero_4 rfl ?_
  refine r_bipush (x := 10) d_X7_bracketsWorthZero_5 ⟨by decide, by decide⟩ (by decide) ?_
  refine r_ic_ge (tgt := 64) d_X7_bracketsWorthZero_7 rfl (fun hc => ?_) (fun hc => ?_)
  · have h := h.1 hc
    refine r_iload_n (x := x1) d_X7_bracketsWorthZero_64 rfl ?_
    exact r_iret d_X7_bracketsWorthZero_65 rfl rfl (Nat.le_refl 0) (Nat.le_refl 0) ⟨_, rfl, rfl, rfl, h⟩
  · have h := h.2 hc
    refine r_iload_n (x := x2) d_X7_bracketsWorthZero_10 rfl ?_
    refine r_iconst (x := 1) d_X7_bracketsWorthZero_11 ⟨by decide, by decide⟩ ?_
    refine r_iadd d_X7_bracketsWorthZero_12 ?_
    refine r_nm (fun y1 ey1 => ?_)
    have h := h y1 ey1
    refine r_istore_n (L2 := [(2, t), (0, x1), (0, x2), (0, y1), (3, 0)]) d_X7_bracketsWorthZero_13 (by decide) rfl rfl ?_
    exact h
theorem v_X7_bracketsWorthZero_14 {l : Launch} {d N : Nat} {Λ : Lay} {P : Int → Mem → Prop} {σ : Mem} {x1 x2 x3 t : Int}
    (h : ((10 ≤ x3 → (∀ y1, y1 = addI x2 1 → WI l mX7_bracketsWorthZero d P 4 [(2, t), (0, x1), (0, y1), (3, 0), (3, 0)] [] N Λ σ)) ∧ (¬ (10 ≤ x3) → (∀ y2, y2 = (addI x3 1) → WI l mX7_bracketsWorthZero d P 25 [(2, t), (0, x1), (0, x2), (0, x3), (0, y2)] [] N Λ σ)))) :
    WI l mX7_bracketsWorthZero d P 14 [(2, t), (0, x1), (0, x2), (0, x3), (3, 0)] [] N Λ σ := by
  refine r_iload_n (x := x3) d_X7_bracketsWorthZero_14 rfl ?_
  refine r_bipush (x := 10) d_X7_bracketsWorthZero_15 ⟨by decide, by decide⟩ (by decide) ?_
  refine r_ic_ge (tgt := 58) d_X7_bracketsWorthZero_17 rfl (fun hc => ?_) (fun hc => ?_)
  · have h := h.1 hc
    refine x_iinc (x := x2) (L := [(2, t), (0, x1), (0, x2), (0, x3), (3, 0)]) d_X7_bracketsWorthZero_58 rfl (by decide) rfl (fun y1 ey1 => ?_)
    have h := h y1 ey1
    show WP _ _ _ _ _ _ _ _ [(2, t), (0, x1), (0, y1), (0, x3), (3, 0)] _ _ _ _
    refine r_goto (tgt := 4) d_X7_bracketsWorthZero_61 rfl ?_
    exact x_mask h ⟨Or.inr rfl, Or.inr rfl, Or.inr rfl, Or.inl rfl, Or.inl rfl, trivial⟩
  · have h := h.2 hc
    refine r_iload_n (x := x3) d_X7_bracketsWorthZero_20 rfl ?_
    refine r_iconst (x := 1) d_X7_bracketsWorthZero_21 ⟨by decide, by decide⟩ ?_
    refine r_iadd d_X7_bracketsWorthZero_22 ?_
    refine r_nm (fun y2 ey2 => ?_)
    have h := h y2 ey2
    refine r_istore (L2 := [(2, t), (0, x1), (0, x2), (0, x3), (0, y2)]) d_X7_bracketsWorthZero_23 (by decide) rfl rfl ?_
    exact h
theorem v_X7_bracketsWorthZero_25 {l : Launch} {d N : Nat} {Λ : Lay} {P : Int → Mem → Prop} {σ : Mem} {x1 x2 x3 x4 t : Int} (o_t : Ob N Λ t 16 3) (h0d : 1 ≤ d)
    (h : ((10 ≤ x4 → (∀ y1, y1 = addI x3 1 → WI l mX7_bracketsWorthZero d P 14 [(2, t), (0, x1), (0, x2), (0, y1), (3, 0)] [] N Λ σ)) ∧ (¬ (10 ≤ x4) → (CI l mX7_determinant (d - 1) [(2, t), (0, x2), (0, x3), (0, x4)] N Λ σ (fun v3 σ2 => ((¬ v3 = 0 → (∀ y4, y4 = addI x4 1 → WI l mX7_bracketsWorthZero d P 25 [(2, t), (0, x1), (0, x2), (0, x3), (0, y4)] [] N Λ σ2)) ∧ (v3 = 0 → (∀ y5, y5 = addI x1 1 → (∀ y6, y6 = addI x4 1 → WI l mX7_bracketsWorthZero d P 25 [(2, t), (0, y5), (0, x2), (0, x3), (0, y6)] [] N Λ σ2))))))))) :
    WI l mX7_bracketsWorthZero d P 25 [(2, t), (0, x1), (0, x2), (0, x3), (0, x4)] [] N Λ σ := by
  refine r_iload (x := x4) d_X7_bracketsWorthZero_25 rfl ?_
  refine r_bipush (x := 10) d_X7_bracketsWorthZero_27 ⟨by decide, by decide⟩ (by decide) ?_
  refine r_ic_ge (tgt := 52) d_X7_bracketsWorthZero_29 rfl (fun hc => ?_) (fun hc => ?_)
  · have h := h.1 hc
    refine x_iinc (x := x3) (L := [(2, t), (0, x1), (0, x2), (0, x3), (0, x4)]) d_X7_bracketsWorthZero_52 rfl (by decide) rfl (fun y1 ey1 => ?_)
    have h := h y1 ey1
    show WP _ _ _ _ _ _ _ _ [(2, t), (0, x1), (0, x2), (0, y1), (0, x4)] _ _ _ _
    refine r_goto (tgt := 14) d_X7_bracketsWorthZero_55 rfl ?_
    exact x_mask h ⟨Or.inr rfl, Or.inr rfl, Or.inr rfl, Or.inr rfl, Or.inl rfl, trivial⟩
  · have h := h.2 hc
    refine r_aload_n (x := t) d_X7_bracketsWorthZero_32 rfl o_t.1 ?_
    refine r_iload_n (x := x2) d_X7_bracketsWorthZero_33 rfl ?_
    refine r_iload_n (x := x3) d_X7_bracketsWorthZero_34 rfl ?_
    refine r_iload (x := x4) d_X7_bracketsWorthZero_35 rfl ?_
    refine r_callV (Y2 := mX7_determinant) (d := d - 1) (mc := 0) (ms := 0) (c := t) (As := [(0, x2), (0, x3), (0, x4)]) (S := []) d_X7_bracketsWorthZero_37 ok_mX7_determinant ml_X7_79 rfl (rmc h0d (by decide)) rm00 (Nat.le_of_ble_eq_true rfl) rfl kX7 o_t.1 o_t.2.1 o_t.2.2.1 o_t.2.2.2 (MC.mono h (fun r N1 Λ1 σ2 hq => ?_))
    obtain ⟨v3, rfl, rfl, rfl, h⟩ := hq
    refine r_if_ne (tgt := 46) d_X7_bracketsWorthZero_40 rfl (fun hc => ?_) (fun hc => ?_)
    · have h := h.1 hc
      refine x_iinc (x := x4) (L := [(2, t), (0, x1), (0, x2), (0, x3), (0, x4)]) d_X7_bracketsWorthZero_46 rfl (by decide) rfl (fun y4 ey4 => ?_)
      have h := h y4 ey4
      show WP _ _ _ _ _ _ _ _ [(2, t), (0, x1), (0, x2), (0, x3), (0, y4)] _ _ _ _
      refine r_goto (tgt := 25) d_X7_bracketsWorthZero_49 rfl ?_
      exact h
    · have h := h.2 hc
      refine x_iinc (x := x1) (L := [(2, t), (0, x1), (0, x2), (0, x3), (0, x4)]) d_X7_bracketsWorthZero_43 rfl (by decide) rfl (fun y5 ey5 => ?_)
      have h := h y5 ey5
      show WP _ _ _ _ _ _ _ _ [(2, t), (0, y5), (0, x2), (0, x3), (0, x4)] _ _ _ _
      refine x_iinc (x := x4) (L := [(2, t), (0, y5), (0, x2), (0, x3), (0, x4)]) d_X7_bracketsWorthZero_46 rfl (by decide) rfl (fun y6 ey6 => ?_)
      have h := h y6 ey6
      show WP _ _ _ _ _ _ _ _ [(2, t), (0, y5), (0, x2), (0, x3), (0, y6)] _ _ _ _
      refine r_goto (tgt := 25) d_X7_bracketsWorthZero_49 rfl ?_
      exact h
theorem v_X7_worthOf_0 {l : Launch} {d N : Nat} {Λ : Lay} {P : Int → Mem → Prop} {σ : Mem} {a1 t : Int}
    (h : WL l mX7_worthOf d P 5 [(2, t), (2, a1), (1, 0), (3, 0), (0, 0), (3, 0), (3, 0), (3, 0), (3, 0), (3, 0), (3, 0)] [] N Λ σ) :
    WL l mX7_worthOf d P 0 [(2, t), (2, a1), (3, 0), (3, 0), (3, 0), (3, 0), (3, 0), (3, 0), (3, 0), (3, 0), (3, 0)] [] N Λ σ := by
  refine r_lconst d_X7_worthOf_0 ?_
  skip
  refine r_lstore_n (L2 := [(2, t), (2, a1), (1, 0), (3, 0), (3, 0), (3, 0), (3, 0), (3, 0), (3, 0), (3, 0), (3, 0)]) d_X7_worthOf_1 (by decide) rfl rfl ?_
  refine r_iconst (x := 0) d_X7_worthOf_2 ⟨by decide, by decide⟩ ?_
  refine r_istore (L2 := [(2, t), (2, a1), (1, 0), (3, 0), (0, 0), (3, 0), (3, 0), (3, 0), (3, 0), (3, 0), (3, 0)]) d_X7_worthOf_3 (by decide) rfl rfl ?_
  exact h
theorem v_X7_worthOf_5 {l : Launch} {d N : Nat} {Λ : Lay} {P : Int → Mem → Prop} {σ : Mem} {x2 x4 a1 a1_keys a1_numbers t : Int} (o_a1 : Ob N Λ a1 15 3) (f_a1_numbers : (Λ a1).2.2 1 = a1_numbers) (f_a1_keys : (Λ a1).2.2 0 = a1_keys) (h0d : 1 ≤ d)
    (h : (((σ a1 2) ≤ x4 → P x2 σ) ∧ (¬ ((σ a1 2) ≤ x4) → (Ix N Λ a1_numbers 0 x4 ∧ (∀ y1, y1 = (σ a1_numbers x4) → (Ix N Λ a1_keys 1 x4 ∧ (CI l mX6_bracketsIn (d - 1) [(1, (σ a1_keys x4))] N Λ σ (fun v3 σ2 => WL l mX7_worthOf d P 39 [(2, t), (2, a1), (1, x2), (3, 0), (0, x4), (1, y1), (3, 0), (0, v3), (0, 0), (3, 0), (3, 0)] [] N Λ σ2)))))))) :
    WL l mX7_worthOf d P 5 [(2, t), (2, a1), (1, x2), (3, 0), (0, x4), (3, 0), (3, 0), (3, 0), (3, 0), (3, 0), (3, 0)] [] N Λ σ := by
  refine r_iload (x := x4) d_X7_worthOf_5 rfl ?_
  refine r_aload_n (x := a1) d_X7_worthOf_7 rfl o_a1.1 ?_
  refine r_getf (j := 2) (t := 0) (x := (σ a1 2)) d_X7_worthOf_8 kX5 (by decide) fl_X7_41 o_a1.1 o_a1.2.1 o_a1.2.2.1 o_a1.2.2.2 rfl rfl ?_
  refine r_ic_ge (tgt := 146) d_X7_worthOf_11 rfl (fun hc => ?_) (fun hc => ?_)
  · have h := h.1 hc
    refine r_lload_n (x := x2) d_X7_worthOf_146 rfl ?_
    exact r_lret d_X7_worthOf_147 rfl (Nat.le_refl 0) (Nat.le_refl 0) ⟨_, rfl, rfl, rfl, h⟩
  · have h := h.2 hc
    refine r_aload_n (x := a1) d_X7_worthOf_14 rfl o_a1.1 ?_
    refine r_getf (j := 1) (t := 2) (x := a1_numbers) d_X7_worthOf_15 kX5 (by decide) fl_X7_62 o_a1.1 o_a1.2.1 o_a1.2.2.1 o_a1.2.2.2 rfl f_a1_numbers ?_
    refine r_iload (x := x4) d_X7_worthOf_18 rfl ?_
    refine x_iald d_X7_worthOf_20 h.1 ?_
    have h := h.2
    refine r_i2l d_X7_worthOf_21 ?_
    refine r_nm (fun y1 ey1 => ?_)
    have h := h y1 ey1
    refine r_lstore (L2 := [(2, t), (2, a1), (1, x2), (3, 0), (0, x4), (1, y1), (3, 0), (3, 0), (3, 0), (3, 0), (3, 0)]) d_X7_worthOf_22 (by decide) rfl rfl ?_
    refine r_aload_n (x := a1) d_X7_worthOf_24 rfl o_a1.1 ?_
    refine r_getf (j := 0) (t := 2) (x := a1_keys) d_X7_worthOf_25 kX5 (by decide) fl_X7_54 o_a1.1 o_a1.2.1 o_a1.2.2.1 o_a1.2.2.2 rfl f_a1_keys ?_
    refine r_iload (x := x4) d_X7_worthOf_28 rfl ?_
    refine x_lald d_X7_worthOf_30 h.1 ?_
    have h := h.2
    refine r_callS (Y2 := mX6_bracketsIn) (d := d - 1) (mc := 0) (ms := 0) (As := [(1, (σ a1_keys x4))]) (S := []) d_X7_worthOf_31 ok_mX6_bracketsIn ml_X7_69 rfl (rmc h0d (by decide)) rm00 (Nat.le_of_ble_eq_true rfl) rfl (MC.mono h (fun r N1 Λ1 σ2 hq => ?_))
    obtain ⟨v3, rfl, rfl, rfl, h⟩ := hq
    refine r_istore (L2 := [(2, t), (2, a1), (1, x2), (3, 0), (0, x4), (1, y1), (3, 0), (0, v3), (3, 0), (3, 0), (3, 0)]) d_X7_worthOf_34 (by decide) rfl rfl ?_
    refine r_iconst (x := 0) d_X7_worthOf_36 ⟨by decide, by decide⟩ ?_
    refine r_istore (L2 := [(2, t), (2, a1), (1, x2), (3, 0), (0, x4), (1, y1), (3, 0), (0, v3), (0, 0), (3, 0), (3, 0)]) d_X7_worthOf_37 (by decide) rfl rfl ?_
    exact h
theorem v_X7_worthOf_39 {l : Launch} {d N : Nat} {Λ : Lay} {P : Int → Mem → Prop} {σ : Mem} {x2 x4 x5 x7 x8 a1 a1_keys t : Int} (o_a1 : Ob N Λ a1 15 3) (f_a1_keys : (Λ a1).2.2 0 = a1_keys) (o_t : Ob N Λ t 16 3) (h0d : 1 ≤ d)
    (h : ((x7 ≤ x8 → (∀ y1, y1 = (addL x2 x5) → ((0 ≤ (cmpL (andL (xorL x2 y1) (xorL x5 y1)) 0) → (∀ y2, y2 = addI x4 1 → WL l mX7_worthOf d P 5 [(2, t), (2, a1), (1, y1), (3, 0), (0, y2), (3, 0), (3, 0), (3, 0), (3, 0), (3, 0), (3, 0)] [] N Λ σ)) ∧ (¬ (0 ≤ (cmpL (andL (xorL x2 y1) (xorL x5 y1)) 0)) → P (-9223372036854775808) σ)))) ∧ (¬ (x7 ≤ x8) → (Ix N Λ a1_keys 1 x4 ∧ (CI l mX6_bracketAt (d - 1) [(1, (σ a1_keys x4)), (0, x8)] N Λ σ (fun v4 σ3 => (CI l mX6_letter (d - 1) [(0, v4), (0, 0)] N Λ σ3 (fun v6 σ5 => (CI l mX6_letter (d - 1) [(0, v4), (0, 1)] N Λ σ5 (fun v8 σ7 => (CI l mX6_letter (d - 1) [(0, v4), (0, 2)] N Λ σ7 (fun v10 σ9 => (CI l mX7_determinant (d - 1) [(2, t), (0, v6), (0, v8), (0, v10)] N Λ σ9 (fun v12 σ11 => (CI l mX7_isTooGreat (d - 1) [(1, x5), (0, v12)] N Λ σ11 (fun v14 σ13 => ((v14 = 0 → (∀ y15, y15 = (mulL x5 v12) → (∀ y16, y16 = addI x8 1 → WL l mX7_worthOf d P 39 [(2, t), (2, a1), (1, x2), (3, 0), (0, x4), (1, y15), (3, 0), (0, x7), (0, y16), (3, 0), (3, 0)] [] N Λ σ13))) ∧ (¬ (v14 = 0) → P (-9223372036854775808) σ13)))))))))))))))))) :
    WL l mX7_worthOf d P 39 [(2, t), (2, a1), (1, x2), (3, 0), (0, x4), (1, x5), (3, 0), (0, x7), (0, x8), (3, 0), (3, 0)] [] N Λ σ := by
  refine r_iload (x := x8) d_X7_worthOf_39 rfl ?_
  refine r_iload (x := x7) d_X7_worthOf_41 rfl ?_
  refine r_ic_ge (tgt := 112) d_X7_worthOf_43 rfl (fun hc => ?_) (fun hc => ?_)
  · have h := h.1 hc
    refine r_lload_n (x := x2) d_X7_worthOf_112 rfl ?_
    refine r_lload (x := x5) d_X7_worthOf_113 rfl ?_
    refine r_ladd d_X7_worthOf_115 ?_
    refine r_nm (fun y1 ey1 => ?_)
    have h := h y1 ey1
    refine r_lstore (L2 := [(2, t), (2, a1), (1, x2), (3, 0), (0, x4), (1, x5), (3, 0), (0, x7), (1, y1), (3, 0), (3, 0)]) d_X7_worthOf_116 (by decide) rfl rfl ?_
    refine r_lload_n (x := x2) d_X7_worthOf_118 rfl ?_
    refine r_lload (x := y1) d_X7_worthOf_119 rfl ?_
    refine r_lxor d_X7_worthOf_121 ?_
    refine r_lload (x := x5) d_X7_worthOf_122 rfl ?_
    refine r_lload (x := y1) d_X7_worthOf_124 rfl ?_
    refine r_lxor d_X7_worthOf_126 ?_
    refine r_land d_X7_worthOf_127 ?_
    refine r_lconst d_X7_worthOf_128 ?_
    skip
    refine r_lcmp d_X7_worthOf_129 ?_
    refine r_if_ge (tgt := 137) d_X7_worthOf_130 rfl (fun hc => ?_) (fun hc => ?_)
    · have h := h.1 hc
      refine r_lload (x := y1) d_X7_worthOf_137 rfl ?_
      refine r_lstore_n (L2 := [(2, t), (2, a1), (1, y1), (3, 0), (0, x4), (1, x5), (3, 0), (0, x7), (1, y1), (3, 0), (3, 0)]) d_X7_worthOf_139 (by decide) rfl rfl ?_
      refine x_iinc (x := x4) (L := [(2, t), (2, a1), (1, y1), (3, 0), (0, x4), (1, x5), (3, 0), (0, x7), (1, y1), (3, 0), (3, 0)]) d_X7_worthOf_140 rfl (by decide) rfl (fun y2 ey2 => ?_)
      have h := h y2 ey2
      show WP _ _ _ _ _ _ _ _ [(2, t), (2, a1), (1, y1), (3, 0), (0, y2), (1, x5), (3, 0), (0, x7), (1, y1), (3, 0), (3, 0)] _ _ _ _
      refine r_goto (tgt := 5) d_X7_worthOf_143 rfl ?_
      exact x_mask h ⟨Or.inr rfl, Or.inr rfl, Or.inr rfl, Or.inl rfl, Or.inr rfl, Or.inl rfl, Or.inl rfl, Or.inl rfl, Or.inl rfl, Or.inl rfl, Or.inl rfl, trivial⟩
    · have h := h.2 hc
      refine r_ldc2 (x := (-9223372036854775808)) d_X7_worthOf_133 ck_X7_91 (by decide) ?_
      exact r_lret d_X7_worthOf_136 rfl (Nat.le_refl 0) (Nat.le_refl 0) ⟨_, rfl, rfl, rfl, h⟩
  · have h := h.2 hc
    refine r_aload_n (x := a1) d_X7_worthOf_46 rfl o_a1.1 ?_
    refine r_getf (j := 0) (t := 2) (x := a1_keys) d_X7_worthOf_47 kX5 (by decide) fl_X7_54 o_a1.1 o_a1.2.1 o_a1.2.2.1 o_a1.2.2.2 rfl f_a1_keys ?_
    refine r_iload (x := x4) d_X7_worthOf_50 rfl ?_
    refine x_lald d_X7_worthOf_52 h.1 ?_
    have h := h.2
    refine r_iload (x := x8) d_X7_worthOf_53 rfl ?_
    refine r_callS (Y2 := mX6_bracketAt) (d := d - 1) (mc := 0) (ms := 0) (As := [(1, (σ a1_keys x4)), (0, x8)]) (S := []) d_X7_worthOf_55 ok_mX6_bracketAt ml_X7_73 rfl (rmc h0d (by decide)) rm00 (Nat.le_of_ble_eq_true rfl) rfl (MC.mono h (fun r N1 Λ1 σ3 hq => ?_))
    obtain ⟨v4, rfl, rfl, rfl, h⟩ := hq
    refine r_istore (L2 := [(2, t), (2, a1), (1, x2), (3, 0), (0, x4), (1, x5), (3, 0), (0, x7), (0, x8), (0, v4), (3, 0)]) d_X7_worthOf_58 (by decide) rfl rfl ?_
    refine r_aload_n (x := t) d_X7_worthOf_60 rfl o_t.1 ?_
    refine r_iload (x := v4) d_X7_worthOf_61 rfl ?_
    refine r_iconst (x := 0) d_X7_worthOf_63 ⟨by decide, by decide⟩ ?_
    refine r_callS (Y2 := mX6_letter) (d := d - 1) (mc := 0) (ms := 0) (As := [(0, v4), (0, 0)]) (S := [(2, t)]) d_X7_worthOf_64 ok_mX6_letter ml_X7_83 rfl (rmc h0d (by decide)) rm00 (Nat.le_of_ble_eq_true rfl) rfl (MC.mono h (fun r N1 Λ1 σ5 hq => ?_))
    obtain ⟨v6, rfl, rfl, rfl, h⟩ := hq
    refine r_iload (x := v4) d_X7_worthOf_67 rfl ?_
    refine r_iconst (x := 1) d_X7_worthOf_69 ⟨by decide, by decide⟩ ?_
    refine r_callS (Y2 := mX6_letter) (d := d - 1) (mc := 0) (ms := 0) (As := [(0, v4), (0, 1)]) (S := [(0, v6), (2, t)]) d_X7_worthOf_70 ok_mX6_letter ml_X7_83 rfl (rmc h0d (by decide)) rm00 (Nat.le_of_ble_eq_true rfl) rfl (MC.mono h (fun r N1 Λ1 σ7 hq => ?_))
    obtain ⟨v8, rfl, rfl, rfl, h⟩ := hq
    refine r_iload (x := v4) d_X7_worthOf_73 rfl ?_
    refine r_iconst (x := 2) d_X7_worthOf_75 ⟨by decide, by decide⟩ ?_
    refine r_callS (Y2 := mX6_letter) (d := d - 1) (mc := 0) (ms := 0) (As := [(0, v4), (0, 2)]) (S := [(0, v8), (0, v6), (2, t)]) d_X7_worthOf_76 ok_mX6_letter ml_X7_83 rfl (rmc h0d (by decide)) rm00 (Nat.le_of_ble_eq_true rfl) rfl (MC.mono h (fun r N1 Λ1 σ9 hq => ?_))
    obtain ⟨v10, rfl, rfl, rfl, h⟩ := hq
    refine r_callV (Y2 := mX7_determinant) (d := d - 1) (mc := 0) (ms := 0) (c := t) (As := [(0, v6), (0, v8), (0, v10)]) (S := []) d_X7_worthOf_79 ok_mX7_determinant ml_X7_79 rfl (rmc h0d (by decide)) rm00 (Nat.le_of_ble_eq_true rfl) rfl kX7 o_t.1 o_t.2.1 o_t.2.2.1 o_t.2.2.2 (MC.mono h (fun r N1 Λ1 σ11 hq => ?_))
    obtain ⟨v12, rfl, rfl, rfl, h⟩ := hq
    refine r_istore (L2 := [(2, t), (2, a1), (1, x2), (3, 0), (0, x4), (1, x5), (3, 0), (0, x7), (0, x8), (0, v4), (0, v12)]) d_X7_worthOf_82 (by decide) rfl rfl ?_
    refine r_lload (x := x5) d_X7_worthOf_84 rfl ?_
    refine r_iload (x := v12) d_X7_worthOf_86 rfl ?_
    refine r_callS (Y2 := mX7_isTooGreat) (d := d - 1) (mc := 0) (ms := 0) (As := [(1, x5), (0, v12)]) (S := []) d_X7_worthOf_88 ok_mX7_isTooGreat ml_X7_87 rfl (rmc h0d (by decide)) rm00 (Nat.le_of_ble_eq_true rfl) rfl (MC.mono h (fun r N1 Λ1 σ13 hq => ?_))
    obtain ⟨v14, rfl, rfl, rfl, h⟩ := hq
    refine r_if_eq (tgt := 98) d_X7_worthOf_91 rfl (fun hc => ?_) (fun hc => ?_)
    · have h := h.1 hc
      refine r_lload (x := x5) d_X7_worthOf_98 rfl ?_
      refine r_iload (x := v12) d_X7_worthOf_100 rfl ?_
      refine r_i2l d_X7_worthOf_102 ?_
      refine r_lmul d_X7_worthOf_103 ?_
      refine r_nm (fun y15 ey15 => ?_)
      have h := h y15 ey15
      refine r_lstore (L2 := [(2, t), (2, a1), (1, x2), (3, 0), (0, x4), (1, y15), (3, 0), (0, x7), (0, x8), (0, v4), (0, v12)]) d_X7_worthOf_104 (by decide) rfl rfl ?_
      refine x_iinc (x := x8) (L := [(2, t), (2, a1), (1, x2), (3, 0), (0, x4), (1, y15), (3, 0), (0, x7), (0, x8), (0, v4), (0, v12)]) d_X7_worthOf_106 rfl (by decide) rfl (fun y16 ey16 => ?_)
      have h := h y16 ey16
      show WP _ _ _ _ _ _ _ _ [(2, t), (2, a1), (1, x2), (3, 0), (0, x4), (1, y15), (3, 0), (0, x7), (0, y16), (0, v4), (0, v12)] _ _ _ _
      refine r_goto (tgt := 39) d_X7_worthOf_109 rfl ?_
      exact x_mask h ⟨Or.inr rfl, Or.inr rfl, Or.inr rfl, Or.inl rfl, Or.inr rfl, Or.inr rfl, Or.inl rfl, Or.inr rfl, Or.inr rfl, Or.inl rfl, Or.inl rfl, trivial⟩
    · have h := h.2 hc
      refine r_ldc2 (x := (-9223372036854775808)) d_X7_worthOf_94 ck_X7_91 (by decide) ?_
      exact r_lret d_X7_worthOf_97 rfl (Nat.le_refl 0) (Nat.le_refl 0) ⟨_, rfl, rfl, rfl, h⟩
theorem v_X7_isTooGreat_0 {l : Launch} {d N : Nat} {Λ : Lay} {P : Int → Mem → Prop} {σ : Mem} {x0 x2 : Int}
    (h : ((¬ x2 = 0 → ((¬ x2 = (-1) → (¬ x2 = 0 ∧ (((cmpL (divL (mulL x0 x2) x2) x0) = 0 → P 0 σ) ∧ (¬ ((cmpL (divL (mulL x0 x2) x2) x0) = 0) → P 1 σ)))) ∧ (x2 = (-1) → ((¬ (cmpL x0 (-9223372036854775808)) = 0 → P 0 σ) ∧ ((cmpL x0 (-9223372036854775808)) = 0 → P 1 σ))))) ∧ (x2 = 0 → P 0 σ))) :
    WI l mX7_isTooGreat d P 0 [(1, x0), (3, 0), (0, x2)] [] N Λ σ := by
  refine r_iload_n (x := x2) d_X7_isTooGreat_0 rfl ?_
  refine r_if_ne (tgt := 6) d_X7_isTooGreat_1 rfl (fun hc => ?_) (fun hc => ?_)
  · have h := h.1 hc
    refine r_iload_n (x := x2) d_X7_isTooGreat_6 rfl ?_
    refine r_iconst (x := (-1)) d_X7_isTooGreat_7 ⟨by decide, by decide⟩ ?_
    refine r_ic_ne (tgt := 25) d_X7_isTooGreat_8 rfl (fun hc => ?_) (fun hc => ?_)
    · have h := h.1 hc
      refine r_lload_n (x := x0) d_X7_isTooGreat_25 rfl ?_
      refine r_iload_n (x := x2) d_X7_isTooGreat_26 rfl ?_
      refine r_i2l d_X7_isTooGreat_27 ?_
      refine r_lmul d_X7_isTooGreat_28 ?_
      refine r_iload_n (x := x2) d_X7_isTooGreat_29 rfl ?_
      refine r_i2l d_X7_isTooGreat_30 ?_
      refine r_ldiv d_X7_isTooGreat_31 h.1 ?_
      have h := h.2
      refine r_lload_n (x := x0) d_X7_isTooGreat_32 rfl ?_
      refine r_lcmp d_X7_isTooGreat_33 ?_
      refine r_if_eq (tgt := 41) d_X7_isTooGreat_34 rfl (fun hc => ?_) (fun hc => ?_)
      · have h := h.1 hc
        refine r_iconst (x := 0) d_X7_isTooGreat_41 ⟨by decide, by decide⟩ ?_
        exact r_iret d_X7_isTooGreat_42 rfl (by decide) (Nat.le_refl 0) (Nat.le_refl 0) ⟨_, rfl, rfl, rfl, h⟩
      · have h := h.2 hc
        refine r_iconst (x := 1) d_X7_isTooGreat_37 ⟨by decide, by decide⟩ ?_
        refine r_goto (tgt := 42) d_X7_isTooGreat_38 rfl ?_
        exact r_iret d_X7_isTooGreat_42 rfl (by decide) (Nat.le_refl 0) (Nat.le_refl 0) ⟨_, rfl, rfl, rfl, h⟩
    · have h := h.2 hc
      refine r_lload_n (x := x0) d_X7_isTooGreat_11 rfl ?_
      refine r_ldc2 (x := (-9223372036854775808)) d_X7_isTooGreat_12 ck_X7_91 (by decide) ?_
      refine r_lcmp d_X7_isTooGreat_15 ?_
      refine r_if_ne (tgt := 23) d_X7_isTooGreat_16 rfl (fun hc => ?_) (fun hc => ?_)
      · have h := h.1 hc
        refine r_iconst (x := 0) d_X7_isTooGreat_23 ⟨by decide, by decide⟩ ?_
        exact r_iret d_X7_isTooGreat_24 rfl (by decide) (Nat.le_refl 0) (Nat.le_refl 0) ⟨_, rfl, rfl, rfl, h⟩
      · have h := h.2 hc
        refine r_iconst (x := 1) d_X7_isTooGreat_19 ⟨by decide, by decide⟩ ?_
        refine r_goto (tgt := 24) d_X7_isTooGreat_20 rfl ?_
        exact r_iret d_X7_isTooGreat_24 rfl (by decide) (Nat.le_refl 0) (Nat.le_refl 0) ⟨_, rfl, rfl, rfl, h⟩
  · have h := h.2 hc
    refine r_iconst (x := 0) d_X7_isTooGreat_4 ⟨by decide, by decide⟩ ?_
    exact r_iret d_X7_isTooGreat_5 rfl (by decide) (Nat.le_refl 0) (Nat.le_refl 0) ⟨_, rfl, rfl, rfl, h⟩
