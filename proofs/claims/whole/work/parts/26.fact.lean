theorem d_X1_takeLetters_0 : DC mX1_takeLetters 0 (.lload_n 1) 1 1 := ⟨by decide +kernel, rfl⟩
theorem d_X1_takeLetters_1 : DC mX1_takeLetters 1 (.invokestatic 71) 3 4 := ⟨by decide +kernel, rfl⟩
theorem d_X1_takeLetters_4 : DC mX1_takeLetters 4 (.iconst 2) 1 5 := ⟨by decide +kernel, rfl⟩
theorem d_X1_takeLetters_5 : DC mX1_takeLetters 5 (.if_icmp .eq 5) 3 8 := ⟨by decide +kernel, rfl⟩
theorem d_X1_takeLetters_8 : DC mX1_takeLetters 8 (.iconst 0) 1 9 := ⟨by decide +kernel, rfl⟩
theorem d_X1_takeLetters_9 : DC mX1_takeLetters 9 (.ireturn) 1 10 := ⟨by decide +kernel, rfl⟩
theorem d_X1_takeLetters_10 : DC mX1_takeLetters 10 (.iconst 0) 1 11 := ⟨by decide +kernel, rfl⟩
theorem d_X1_takeLetters_11 : DC mX1_takeLetters 11 (.istore_n 3) 1 12 := ⟨by decide +kernel, rfl⟩
theorem d_X1_takeLetters_12 : DC mX1_takeLetters 12 (.iconst 0) 1 13 := ⟨by decide +kernel, rfl⟩
theorem d_X1_takeLetters_13 : DC mX1_takeLetters 13 (.istore 4) 2 15 := ⟨by decide +kernel, rfl⟩
theorem d_X1_takeLetters_15 : DC mX1_takeLetters 15 (.iload 4) 2 17 := ⟨by decide +kernel, rfl⟩
theorem d_X1_takeLetters_17 : DC mX1_takeLetters 17 (.bipush 10) 2 19 := ⟨by decide +kernel, rfl⟩
theorem d_X1_takeLetters_19 : DC mX1_takeLetters 19 (.if_icmp .ge 36) 3 22 := ⟨by decide +kernel, rfl⟩
theorem d_X1_takeLetters_22 : DC mX1_takeLetters 22 (.iload_n 3) 1 23 := ⟨by decide +kernel, rfl⟩
theorem d_X1_takeLetters_23 : DC mX1_takeLetters 23 (.bipush 6) 2 25 := ⟨by decide +kernel, rfl⟩
theorem d_X1_takeLetters_25 : DC mX1_takeLetters 25 (.if_icmp .ge 24) 3 28 := ⟨by decide +kernel, rfl⟩
theorem d_X1_takeLetters_28 : DC mX1_takeLetters 28 (.lload_n 1) 1 29 := ⟨by decide +kernel, rfl⟩
theorem d_X1_takeLetters_29 : DC mX1_takeLetters 29 (.iload 4) 2 31 := ⟨by decide +kernel, rfl⟩
theorem d_X1_takeLetters_31 : DC mX1_takeLetters 31 (.invokestatic 74) 3 34 := ⟨by decide +kernel, rfl⟩
theorem d_X1_takeLetters_34 : DC mX1_takeLetters 34 (.iconst 1) 1 35 := ⟨by decide +kernel, rfl⟩
theorem d_X1_takeLetters_35 : DC mX1_takeLetters 35 (.if_icmp .ne 14) 3 38 := ⟨by decide +kernel, rfl⟩
theorem d_X1_takeLetters_38 : DC mX1_takeLetters 38 (.aload_n 0) 1 39 := ⟨by decide +kernel, rfl⟩
theorem d_X1_takeLetters_39 : DC mX1_takeLetters 39 (.getfield 15) 3 42 := ⟨by decide +kernel, rfl⟩
theorem d_X1_takeLetters_42 : DC mX1_takeLetters 42 (.iload_n 3) 1 43 := ⟨by decide +kernel, rfl⟩
theorem d_X1_takeLetters_43 : DC mX1_takeLetters 43 (.iload 4) 2 45 := ⟨by decide +kernel, rfl⟩
theorem d_X1_takeLetters_45 : DC mX1_takeLetters 45 (.iastore) 1 46 := ⟨by decide +kernel, rfl⟩
theorem d_X1_takeLetters_46 : DC mX1_takeLetters 46 (.iinc 3 1) 3 49 := ⟨by decide +kernel, rfl⟩
theorem d_X1_takeLetters_49 : DC mX1_takeLetters 49 (.iinc 4 1) 3 52 := ⟨by decide +kernel, rfl⟩
theorem d_X1_takeLetters_52 : DC mX1_takeLetters 52 (.goto (-37)) 3 55 := ⟨by decide +kernel, rfl⟩
theorem d_X1_takeLetters_55 : DC mX1_takeLetters 55 (.iload_n 3) 1 56 := ⟨by decide +kernel, rfl⟩
theorem d_X1_takeLetters_56 : DC mX1_takeLetters 56 (.bipush 6) 2 58 := ⟨by decide +kernel, rfl⟩
theorem d_X1_takeLetters_58 : DC mX1_takeLetters 58 (.if_icmp .ne 7) 3 61 := ⟨by decide +kernel, rfl⟩
theorem d_X1_takeLetters_61 : DC mX1_takeLetters 61 (.iconst 1) 1 62 := ⟨by decide +kernel, rfl⟩
theorem d_X1_takeLetters_62 : DC mX1_takeLetters 62 (.goto 4) 3 65 := ⟨by decide +kernel, rfl⟩
theorem d_X1_takeLetters_65 : DC mX1_takeLetters 65 (.iconst 0) 1 66 := ⟨by decide +kernel, rfl⟩
theorem d_X1_takeLetters_66 : DC mX1_takeLetters 66 (.ireturn) 1 67 := ⟨by decide +kernel, rfl⟩
theorem d_X1_letterOfRow_0 : DC mX1_letterOfRow 0 (.iload_n 1) 1 1 := ⟨by decide +kernel, rfl⟩
theorem d_X1_letterOfRow_1 : DC mX1_letterOfRow 1 (.ifCond .lt 9) 3 4 := ⟨by decide +kernel, rfl⟩
theorem d_X1_letterOfRow_4 : DC mX1_letterOfRow 4 (.iload_n 1) 1 5 := ⟨by decide +kernel, rfl⟩
theorem d_X1_letterOfRow_5 : DC mX1_letterOfRow 5 (.bipush 6) 2 7 := ⟨by decide +kernel, rfl⟩
theorem d_X1_letterOfRow_7 : DC mX1_letterOfRow 7 (.if_icmp .lt 7) 3 10 := ⟨by decide +kernel, rfl⟩
theorem d_X1_letterOfRow_10 : DC mX1_letterOfRow 10 (.iconst (-1)) 1 11 := ⟨by decide +kernel, rfl⟩
theorem d_X1_letterOfRow_11 : DC mX1_letterOfRow 11 (.goto 14) 3 14 := ⟨by decide +kernel, rfl⟩
theorem d_X1_letterOfRow_14 : DC mX1_letterOfRow 14 (.aload_n 0) 1 15 := ⟨by decide +kernel, rfl⟩
theorem d_X1_letterOfRow_15 : DC mX1_letterOfRow 15 (.getfield 15) 3 18 := ⟨by decide +kernel, rfl⟩
theorem d_X1_letterOfRow_18 : DC mX1_letterOfRow 18 (.aload_n 0) 1 19 := ⟨by decide +kernel, rfl⟩
theorem d_X1_letterOfRow_19 : DC mX1_letterOfRow 19 (.getfield 19) 3 22 := ⟨by decide +kernel, rfl⟩
theorem d_X1_letterOfRow_22 : DC mX1_letterOfRow 22 (.iload_n 1) 1 23 := ⟨by decide +kernel, rfl⟩
theorem d_X1_letterOfRow_23 : DC mX1_letterOfRow 23 (.iaload) 1 24 := ⟨by decide +kernel, rfl⟩
theorem d_X1_letterOfRow_24 : DC mX1_letterOfRow 24 (.iaload) 1 25 := ⟨by decide +kernel, rfl⟩
theorem d_X1_letterOfRow_25 : DC mX1_letterOfRow 25 (.ireturn) 1 26 := ⟨by decide +kernel, rfl⟩
theorem d_X1_search_0 : DC mX1_search 0 (.aload_n 1) 1 1 := ⟨by decide +kernel, rfl⟩
theorem d_X1_search_1 : DC mX1_search 1 (.getfield 59) 3 4 := ⟨by decide +kernel, rfl⟩
theorem d_X1_search_4 : DC mX1_search 4 (.ifCond .eq 11) 3 7 := ⟨by decide +kernel, rfl⟩
theorem d_X1_search_7 : DC mX1_search 7 (.aload_n 0) 1 8 := ⟨by decide +kernel, rfl⟩
theorem d_X1_search_8 : DC mX1_search 8 (.aload_n 1) 1 9 := ⟨by decide +kernel, rfl⟩
theorem d_X1_search_9 : DC mX1_search 9 (.invokevirtual 78) 3 12 := ⟨by decide +kernel, rfl⟩
theorem d_X1_search_12 : DC mX1_search 12 (.ifCond .ne 5) 3 15 := ⟨by decide +kernel, rfl⟩
theorem d_X1_search_15 : DC mX1_search 15 (.iconst 0) 1 16 := ⟨by decide +kernel, rfl⟩
theorem d_X1_search_16 : DC mX1_search 16 (.ireturn) 1 17 := ⟨by decide +kernel, rfl⟩
theorem d_X1_search_17 : DC mX1_search 17 (.iconst 0) 1 18 := ⟨by decide +kernel, rfl⟩
theorem d_X1_search_18 : DC mX1_search 18 (.istore_n 2) 1 19 := ⟨by decide +kernel, rfl⟩
theorem d_X1_search_19 : DC mX1_search 19 (.iload_n 2) 1 20 := ⟨by decide +kernel, rfl⟩
theorem d_X1_search_20 : DC mX1_search 20 (.bipush 6) 2 22 := ⟨by decide +kernel, rfl⟩
theorem d_X1_search_22 : DC mX1_search 22 (.if_icmp .ge 16) 3 25 := ⟨by decide +kernel, rfl⟩
theorem d_X1_search_25 : DC mX1_search 25 (.aload_n 0) 1 26 := ⟨by decide +kernel, rfl⟩
theorem d_X1_search_26 : DC mX1_search 26 (.getfield 19) 3 29 := ⟨by decide +kernel, rfl⟩
theorem d_X1_search_29 : DC mX1_search 29 (.iload_n 2) 1 30 := ⟨by decide +kernel, rfl⟩
theorem d_X1_search_30 : DC mX1_search 30 (.iload_n 2) 1 31 := ⟨by decide +kernel, rfl⟩
theorem d_X1_search_31 : DC mX1_search 31 (.iastore) 1 32 := ⟨by decide +kernel, rfl⟩
theorem d_X1_search_32 : DC mX1_search 32 (.iinc 2 1) 3 35 := ⟨by decide +kernel, rfl⟩
theorem d_X1_search_35 : DC mX1_search 35 (.goto (-16)) 3 38 := ⟨by decide +kernel, rfl⟩
theorem d_X1_search_38 : DC mX1_search 38 (.iconst 0) 1 39 := ⟨by decide +kernel, rfl⟩
theorem d_X1_search_39 : DC mX1_search 39 (.istore_n 2) 1 40 := ⟨by decide +kernel, rfl⟩
theorem d_X1_search_40 : DC mX1_search 40 (.iload_n 2) 1 41 := ⟨by decide +kernel, rfl⟩
theorem d_X1_search_41 : DC mX1_search 41 (.sipush 720) 3 44 := ⟨by decide +kernel, rfl⟩
theorem d_X1_search_44 : DC mX1_search 44 (.if_icmp .ge 22) 3 47 := ⟨by decide +kernel, rfl⟩
theorem d_X1_search_47 : DC mX1_search 47 (.aload_n 0) 1 48 := ⟨by decide +kernel, rfl⟩
theorem d_X1_search_48 : DC mX1_search 48 (.invokevirtual 82) 3 51 := ⟨by decide +kernel, rfl⟩
theorem d_X1_search_51 : DC mX1_search 51 (.ifCond .eq 5) 3 54 := ⟨by decide +kernel, rfl⟩
theorem d_X1_search_54 : DC mX1_search 54 (.iconst 1) 1 55 := ⟨by decide +kernel, rfl⟩
theorem d_X1_search_55 : DC mX1_search 55 (.ireturn) 1 56 := ⟨by decide +kernel, rfl⟩
theorem d_X1_search_56 : DC mX1_search 56 (.aload_n 0) 1 57 := ⟨by decide +kernel, rfl⟩
theorem d_X1_search_57 : DC mX1_search 57 (.invokevirtual 86) 3 60 := ⟨by decide +kernel, rfl⟩
theorem d_X1_search_60 : DC mX1_search 60 (.iinc 2 1) 3 63 := ⟨by decide +kernel, rfl⟩
theorem d_X1_search_63 : DC mX1_search 63 (.goto (-23)) 3 66 := ⟨by decide +kernel, rfl⟩
theorem d_X1_search_66 : DC mX1_search 66 (.iconst 0) 1 67 := ⟨by decide +kernel, rfl⟩
theorem d_X1_search_67 : DC mX1_search 67 (.ireturn) 1 68 := ⟨by decide +kernel, rfl⟩
theorem d_X1_takeAsked_0 : DC mX1_takeAsked 0 (.aload_n 0) 1 1 := ⟨by decide +kernel, rfl⟩
theorem d_X1_takeAsked_1 : DC mX1_takeAsked 1 (.getfield 29) 3 4 := ⟨by decide +kernel, rfl⟩
theorem d_X1_takeAsked_4 : DC mX1_takeAsked 4 (.iconst 0) 1 5 := ⟨by decide +kernel, rfl⟩
theorem d_X1_takeAsked_5 : DC mX1_takeAsked 5 (.invokestatic 89) 3 8 := ⟨by decide +kernel, rfl⟩
theorem d_X1_takeAsked_8 : DC mX1_takeAsked 8 (.iconst 0) 1 9 := ⟨by decide +kernel, rfl⟩
theorem d_X1_takeAsked_9 : DC mX1_takeAsked 9 (.istore_n 2) 1 10 := ⟨by decide +kernel, rfl⟩
theorem d_X1_takeAsked_10 : DC mX1_takeAsked 10 (.iload_n 2) 1 11 := ⟨by decide +kernel, rfl⟩
theorem d_X1_takeAsked_11 : DC mX1_takeAsked 11 (.aload_n 1) 1 12 := ⟨by decide +kernel, rfl⟩
theorem d_X1_takeAsked_12 : DC mX1_takeAsked 12 (.getfield 59) 3 15 := ⟨by decide +kernel, rfl⟩
theorem d_X1_takeAsked_15 : DC mX1_takeAsked 15 (.if_icmp .ge 43) 3 18 := ⟨by decide +kernel, rfl⟩
theorem d_X1_takeAsked_18 : DC mX1_takeAsked 18 (.aload_n 0) 1 19 := ⟨by decide +kernel, rfl⟩
theorem d_X1_takeAsked_19 : DC mX1_takeAsked 19 (.aload_n 0) 1 20 := ⟨by decide +kernel, rfl⟩
theorem d_X1_takeAsked_20 : DC mX1_takeAsked 20 (.aload_n 1) 1 21 := ⟨by decide +kernel, rfl⟩
theorem d_X1_takeAsked_21 : DC mX1_takeAsked 21 (.getfield 62) 3 24 := ⟨by decide +kernel, rfl⟩
theorem d_X1_takeAsked_24 : DC mX1_takeAsked 24 (.iload_n 2) 1 25 := ⟨by decide +kernel, rfl⟩
theorem d_X1_takeAsked_25 : DC mX1_takeAsked 25 (.laload) 1 26 := ⟨by decide +kernel, rfl⟩
theorem d_X1_takeAsked_26 : DC mX1_takeAsked 26 (.invokevirtual 95) 3 29 := ⟨by decide +kernel, rfl⟩
theorem d_X1_takeAsked_29 : DC mX1_takeAsked 29 (.invokevirtual 65) 3 32 := ⟨by decide +kernel, rfl⟩
theorem d_X1_takeAsked_32 : DC mX1_takeAsked 32 (.istore_n 3) 1 33 := ⟨by decide +kernel, rfl⟩
theorem d_X1_takeAsked_33 : DC mX1_takeAsked 33 (.iload_n 3) 1 34 := ⟨by decide +kernel, rfl⟩
theorem d_X1_takeAsked_34 : DC mX1_takeAsked 34 (.iconst (-1)) 1 35 := ⟨by decide +kernel, rfl⟩
theorem d_X1_takeAsked_35 : DC mX1_takeAsked 35 (.if_icmp .ne 5) 3 38 := ⟨by decide +kernel, rfl⟩
theorem d_X1_takeAsked_38 : DC mX1_takeAsked 38 (.iconst 0) 1 39 := ⟨by decide +kernel, rfl⟩
theorem d_X1_takeAsked_39 : DC mX1_takeAsked 39 (.ireturn) 1 40 := ⟨by decide +kernel, rfl⟩
theorem d_X1_takeAsked_40 : DC mX1_takeAsked 40 (.aload_n 0) 1 41 := ⟨by decide +kernel, rfl⟩
theorem d_X1_takeAsked_41 : DC mX1_takeAsked 41 (.getfield 29) 3 44 := ⟨by decide +kernel, rfl⟩
theorem d_X1_takeAsked_44 : DC mX1_takeAsked 44 (.iload_n 3) 1 45 := ⟨by decide +kernel, rfl⟩
theorem d_X1_takeAsked_45 : DC mX1_takeAsked 45 (.aload_n 1) 1 46 := ⟨by decide +kernel, rfl⟩
theorem d_X1_takeAsked_46 : DC mX1_takeAsked 46 (.getfield 68) 3 49 := ⟨by decide +kernel, rfl⟩
theorem d_X1_takeAsked_49 : DC mX1_takeAsked 49 (.iload_n 2) 1 50 := ⟨by decide +kernel, rfl⟩
theorem d_X1_takeAsked_50 : DC mX1_takeAsked 50 (.iaload) 1 51 := ⟨by decide +kernel, rfl⟩
theorem d_X1_takeAsked_51 : DC mX1_takeAsked 51 (.iastore) 1 52 := ⟨by decide +kernel, rfl⟩
theorem d_X1_takeAsked_52 : DC mX1_takeAsked 52 (.iinc 2 1) 3 55 := ⟨by decide +kernel, rfl⟩
theorem d_X1_takeAsked_55 : DC mX1_takeAsked 55 (.goto (-45)) 3 58 := ⟨by decide +kernel, rfl⟩
theorem d_X1_takeAsked_58 : DC mX1_takeAsked 58 (.iconst 1) 1 59 := ⟨by decide +kernel, rfl⟩
theorem d_X1_takeAsked_59 : DC mX1_takeAsked 59 (.ireturn) 1 60 := ⟨by decide +kernel, rfl⟩
theorem d_X1_byPlaces_0 : DC mX1_byPlaces 0 (.lload_n 1) 1 1 := ⟨by decide +kernel, rfl⟩
theorem d_X1_byPlaces_1 : DC mX1_byPlaces 1 (.invokestatic 71) 3 4 := ⟨by decide +kernel, rfl⟩
theorem d_X1_byPlaces_4 : DC mX1_byPlaces 4 (.iconst 2) 1 5 := ⟨by decide +kernel, rfl⟩
theorem d_X1_byPlaces_5 : DC mX1_byPlaces 5 (.if_icmp .eq 5) 3 8 := ⟨by decide +kernel, rfl⟩
theorem d_X1_byPlaces_8 : DC mX1_byPlaces 8 (.lconst 0) 1 9 := ⟨by decide +kernel, rfl⟩
theorem d_X1_byPlaces_9 : DC mX1_byPlaces 9 (.lreturn) 1 10 := ⟨by decide +kernel, rfl⟩
theorem d_X1_byPlaces_10 : DC mX1_byPlaces 10 (.lconst 0) 1 11 := ⟨by decide +kernel, rfl⟩
theorem d_X1_byPlaces_11 : DC mX1_byPlaces 11 (.lstore_n 3) 1 12 := ⟨by decide +kernel, rfl⟩
theorem d_X1_byPlaces_12 : DC mX1_byPlaces 12 (.iconst 0) 1 13 := ⟨by decide +kernel, rfl⟩
theorem d_X1_byPlaces_13 : DC mX1_byPlaces 13 (.istore 5) 2 15 := ⟨by decide +kernel, rfl⟩
theorem d_X1_byPlaces_15 : DC mX1_byPlaces 15 (.iload 5) 2 17 := ⟨by decide +kernel, rfl⟩
theorem d_X1_byPlaces_17 : DC mX1_byPlaces 17 (.iconst 2) 1 18 := ⟨by decide +kernel, rfl⟩
theorem d_X1_byPlaces_18 : DC mX1_byPlaces 18 (.if_icmp .ge 68) 3 21 := ⟨by decide +kernel, rfl⟩
theorem d_X1_byPlaces_21 : DC mX1_byPlaces 21 (.iconst 0) 1 22 := ⟨by decide +kernel, rfl⟩
theorem d_X1_byPlaces_22 : DC mX1_byPlaces 22 (.istore 6) 2 24 := ⟨by decide +kernel, rfl⟩
theorem d_X1_byPlaces_24 : DC mX1_byPlaces 24 (.iconst 0) 1 25 := ⟨by decide +kernel, rfl⟩
theorem d_X1_byPlaces_25 : DC mX1_byPlaces 25 (.istore 7) 2 27 := ⟨by decide +kernel, rfl⟩
theorem d_X1_byPlaces_27 : DC mX1_byPlaces 27 (.iload 7) 2 29 := ⟨by decide +kernel, rfl⟩
theorem d_X1_byPlaces_29 : DC mX1_byPlaces 29 (.iconst 3) 1 30 := ⟨by decide +kernel, rfl⟩
theorem d_X1_byPlaces_30 : DC mX1_byPlaces 30 (.if_icmp .ge 43) 3 33 := ⟨by decide +kernel, rfl⟩
theorem d_X1_byPlaces_33 : DC mX1_byPlaces 33 (.aload_n 0) 1 34 := ⟨by decide +kernel, rfl⟩
theorem d_X1_byPlaces_34 : DC mX1_byPlaces 34 (.lload_n 1) 1 35 := ⟨by decide +kernel, rfl⟩
theorem d_X1_byPlaces_35 : DC mX1_byPlaces 35 (.iconst 3) 1 36 := ⟨by decide +kernel, rfl⟩
theorem d_X1_byPlaces_36 : DC mX1_byPlaces 36 (.iload 5) 2 38 := ⟨by decide +kernel, rfl⟩
theorem d_X1_byPlaces_38 : DC mX1_byPlaces 38 (.imul) 1 39 := ⟨by decide +kernel, rfl⟩
theorem d_X1_byPlaces_39 : DC mX1_byPlaces 39 (.iload 7) 2 41 := ⟨by decide +kernel, rfl⟩
theorem d_X1_byPlaces_41 : DC mX1_byPlaces 41 (.iadd) 1 42 := ⟨by decide +kernel, rfl⟩
theorem d_X1_byPlaces_42 : DC mX1_byPlaces 42 (.invokestatic 99) 3 45 := ⟨by decide +kernel, rfl⟩
theorem d_X1_byPlaces_45 : DC mX1_byPlaces 45 (.invokevirtual 102) 3 48 := ⟨by decide +kernel, rfl⟩
theorem d_X1_byPlaces_48 : DC mX1_byPlaces 48 (.istore 8) 2 50 := ⟨by decide +kernel, rfl⟩
theorem d_X1_byPlaces_50 : DC mX1_byPlaces 50 (.iload 8) 2 52 := ⟨by decide +kernel, rfl⟩
theorem d_X1_byPlaces_52 : DC mX1_byPlaces 52 (.iconst (-1)) 1 53 := ⟨by decide +kernel, rfl⟩
theorem d_X1_byPlaces_53 : DC mX1_byPlaces 53 (.if_icmp .ne 5) 3 56 := ⟨by decide +kernel, rfl⟩
theorem d_X1_byPlaces_56 : DC mX1_byPlaces 56 (.lconst 0) 1 57 := ⟨by decide +kernel, rfl⟩
theorem d_X1_byPlaces_57 : DC mX1_byPlaces 57 (.lreturn) 1 58 := ⟨by decide +kernel, rfl⟩
theorem d_X1_byPlaces_58 : DC mX1_byPlaces 58 (.iload 6) 2 60 := ⟨by decide +kernel, rfl⟩
theorem d_X1_byPlaces_60 : DC mX1_byPlaces 60 (.iconst 4) 1 61 := ⟨by decide +kernel, rfl⟩
theorem d_X1_byPlaces_61 : DC mX1_byPlaces 61 (.ishl) 1 62 := ⟨by decide +kernel, rfl⟩
theorem d_X1_byPlaces_62 : DC mX1_byPlaces 62 (.iload 8) 2 64 := ⟨by decide +kernel, rfl⟩
theorem d_X1_byPlaces_64 : DC mX1_byPlaces 64 (.ior) 1 65 := ⟨by decide +kernel, rfl⟩
theorem d_X1_byPlaces_65 : DC mX1_byPlaces 65 (.istore 6) 2 67 := ⟨by decide +kernel, rfl⟩
theorem d_X1_byPlaces_67 : DC mX1_byPlaces 67 (.iinc 7 1) 3 70 := ⟨by decide +kernel, rfl⟩
theorem d_X1_byPlaces_70 : DC mX1_byPlaces 70 (.goto (-43)) 3 73 := ⟨by decide +kernel, rfl⟩
theorem d_X1_byPlaces_73 : DC mX1_byPlaces 73 (.lload_n 3) 1 74 := ⟨by decide +kernel, rfl⟩
theorem d_X1_byPlaces_74 : DC mX1_byPlaces 74 (.iload 6) 2 76 := ⟨by decide +kernel, rfl⟩
theorem d_X1_byPlaces_76 : DC mX1_byPlaces 76 (.invokestatic 106) 3 79 := ⟨by decide +kernel, rfl⟩
theorem d_X1_byPlaces_79 : DC mX1_byPlaces 79 (.lstore_n 3) 1 80 := ⟨by decide +kernel, rfl⟩
theorem d_X1_byPlaces_80 : DC mX1_byPlaces 80 (.iinc 5 1) 3 83 := ⟨by decide +kernel, rfl⟩
theorem d_X1_byPlaces_83 : DC mX1_byPlaces 83 (.goto (-68)) 3 86 := ⟨by decide +kernel, rfl⟩
theorem d_X1_byPlaces_86 : DC mX1_byPlaces 86 (.lload_n 3) 1 87 := ⟨by decide +kernel, rfl⟩
theorem d_X1_byPlaces_87 : DC mX1_byPlaces 87 (.lreturn) 1 88 := ⟨by decide +kernel, rfl⟩
theorem d_X1_placeOf_0 : DC mX1_placeOf 0 (.iconst 0) 1 1 := ⟨by decide +kernel, rfl⟩
theorem d_X1_placeOf_1 : DC mX1_placeOf 1 (.istore_n 2) 1 2 := ⟨by decide +kernel, rfl⟩
theorem d_X1_placeOf_2 : DC mX1_placeOf 2 (.iload_n 2) 1 3 := ⟨by decide +kernel, rfl⟩
theorem d_X1_placeOf_3 : DC mX1_placeOf 3 (.bipush 6) 2 5 := ⟨by decide +kernel, rfl⟩
theorem d_X1_placeOf_5 : DC mX1_placeOf 5 (.if_icmp .ge 21) 3 8 := ⟨by decide +kernel, rfl⟩
theorem d_X1_placeOf_8 : DC mX1_placeOf 8 (.aload_n 0) 1 9 := ⟨by decide +kernel, rfl⟩
theorem d_X1_placeOf_9 : DC mX1_placeOf 9 (.getfield 15) 3 12 := ⟨by decide +kernel, rfl⟩
theorem d_X1_placeOf_12 : DC mX1_placeOf 12 (.iload_n 2) 1 13 := ⟨by decide +kernel, rfl⟩
theorem d_X1_placeOf_13 : DC mX1_placeOf 13 (.iaload) 1 14 := ⟨by decide +kernel, rfl⟩
theorem d_X1_placeOf_14 : DC mX1_placeOf 14 (.iload_n 1) 1 15 := ⟨by decide +kernel, rfl⟩
theorem d_X1_placeOf_15 : DC mX1_placeOf 15 (.if_icmp .ne 5) 3 18 := ⟨by decide +kernel, rfl⟩
theorem d_X1_placeOf_18 : DC mX1_placeOf 18 (.iload_n 2) 1 19 := ⟨by decide +kernel, rfl⟩
theorem d_X1_placeOf_19 : DC mX1_placeOf 19 (.ireturn) 1 20 := ⟨by decide +kernel, rfl⟩
theorem d_X1_placeOf_20 : DC mX1_placeOf 20 (.iinc 2 1) 3 23 := ⟨by decide +kernel, rfl⟩
theorem d_X1_placeOf_23 : DC mX1_placeOf 23 (.goto (-21)) 3 26 := ⟨by decide +kernel, rfl⟩
theorem d_X1_placeOf_26 : DC mX1_placeOf 26 (.iconst (-1)) 1 27 := ⟨by decide +kernel, rfl⟩
theorem d_X1_placeOf_27 : DC mX1_placeOf 27 (.ireturn) 1 28 := ⟨by decide +kernel, rfl⟩
theorem d_X1_formOf_0 : DC mX1_formOf 0 (.iconst 0) 1 1 := ⟨by decide +kernel, rfl⟩
theorem d_X1_formOf_1 : DC mX1_formOf 1 (.istore_n 3) 1 2 := ⟨by decide +kernel, rfl⟩
theorem d_X1_formOf_2 : DC mX1_formOf 2 (.iload_n 3) 1 3 := ⟨by decide +kernel, rfl⟩
theorem d_X1_formOf_3 : DC mX1_formOf 3 (.iconst 5) 1 4 := ⟨by decide +kernel, rfl⟩
theorem d_X1_formOf_4 : DC mX1_formOf 4 (.if_icmp .ge 22) 3 7 := ⟨by decide +kernel, rfl⟩
theorem d_X1_formOf_7 : DC mX1_formOf 7 (.aload_n 0) 1 8 := ⟨by decide +kernel, rfl⟩
theorem d_X1_formOf_8 : DC mX1_formOf 8 (.getfield 22) 3 11 := ⟨by decide +kernel, rfl⟩
theorem d_X1_formOf_11 : DC mX1_formOf 11 (.iload_n 3) 1 12 := ⟨by decide +kernel, rfl⟩
theorem d_X1_formOf_12 : DC mX1_formOf 12 (.laload) 1 13 := ⟨by decide +kernel, rfl⟩
theorem d_X1_formOf_13 : DC mX1_formOf 13 (.lload_n 1) 1 14 := ⟨by decide +kernel, rfl⟩
theorem d_X1_formOf_14 : DC mX1_formOf 14 (.lcmp) 1 15 := ⟨by decide +kernel, rfl⟩
theorem d_X1_formOf_15 : DC mX1_formOf 15 (.ifCond .ne 5) 3 18 := ⟨by decide +kernel, rfl⟩
theorem d_X1_formOf_18 : DC mX1_formOf 18 (.iload_n 3) 1 19 := ⟨by decide +kernel, rfl⟩
theorem d_X1_formOf_19 : DC mX1_formOf 19 (.ireturn) 1 20 := ⟨by decide +kernel, rfl⟩
theorem d_X1_formOf_20 : DC mX1_formOf 20 (.iinc 3 1) 3 23 := ⟨by decide +kernel, rfl⟩
theorem d_X1_formOf_23 : DC mX1_formOf 23 (.goto (-21)) 3 26 := ⟨by decide +kernel, rfl⟩
theorem d_X1_formOf_26 : DC mX1_formOf 26 (.iconst (-1)) 1 27 := ⟨by decide +kernel, rfl⟩
theorem d_X1_formOf_27 : DC mX1_formOf 27 (.ireturn) 1 28 := ⟨by decide +kernel, rfl⟩
theorem d_X1_keyOf_0 : DC mX1_keyOf 0 (.iload_n 0) 1 1 := ⟨by decide +kernel, rfl⟩
theorem d_X1_keyOf_1 : DC mX1_keyOf 1 (.invokestatic 110) 3 4 := ⟨by decide +kernel, rfl⟩
theorem d_X1_keyOf_4 : DC mX1_keyOf 4 (.iconst 2) 1 5 := ⟨by decide +kernel, rfl⟩
theorem d_X1_keyOf_5 : DC mX1_keyOf 5 (.if_icmp .eq 5) 3 8 := ⟨by decide +kernel, rfl⟩
theorem d_X1_keyOf_8 : DC mX1_keyOf 8 (.lconst 0) 1 9 := ⟨by decide +kernel, rfl⟩
theorem d_X1_keyOf_9 : DC mX1_keyOf 9 (.lreturn) 1 10 := ⟨by decide +kernel, rfl⟩
theorem d_X1_keyOf_10 : DC mX1_keyOf 10 (.iconst 0) 1 11 := ⟨by decide +kernel, rfl⟩
theorem d_X1_keyOf_11 : DC mX1_keyOf 11 (.istore_n 1) 1 12 := ⟨by decide +kernel, rfl⟩
theorem d_X1_keyOf_12 : DC mX1_keyOf 12 (.iconst 0) 1 13 := ⟨by decide +kernel, rfl⟩
theorem d_X1_keyOf_13 : DC mX1_keyOf 13 (.istore_n 2) 1 14 := ⟨by decide +kernel, rfl⟩
theorem d_X1_keyOf_14 : DC mX1_keyOf 14 (.iconst 0) 1 15 := ⟨by decide +kernel, rfl⟩
theorem d_X1_keyOf_15 : DC mX1_keyOf 15 (.istore_n 3) 1 16 := ⟨by decide +kernel, rfl⟩
theorem d_X1_keyOf_16 : DC mX1_keyOf 16 (.iload_n 3) 1 17 := ⟨by decide +kernel, rfl⟩
theorem d_X1_keyOf_17 : DC mX1_keyOf 17 (.bipush 6) 2 19 := ⟨by decide +kernel, rfl⟩
theorem d_X1_keyOf_19 : DC mX1_keyOf 19 (.if_icmp .ge 39) 3 22 := ⟨by decide +kernel, rfl⟩
theorem d_X1_keyOf_22 : DC mX1_keyOf 22 (.iload_n 3) 1 23 := ⟨by decide +kernel, rfl⟩
theorem d_X1_keyOf_23 : DC mX1_keyOf 23 (.ifCond .eq 14) 3 26 := ⟨by decide +kernel, rfl⟩
theorem d_X1_keyOf_26 : DC mX1_keyOf 26 (.iload_n 0) 1 27 := ⟨by decide +kernel, rfl⟩
theorem d_X1_keyOf_27 : DC mX1_keyOf 27 (.iload_n 3) 1 28 := ⟨by decide +kernel, rfl⟩
theorem d_X1_keyOf_28 : DC mX1_keyOf 28 (.iconst 1) 1 29 := ⟨by decide +kernel, rfl⟩
theorem d_X1_keyOf_29 : DC mX1_keyOf 29 (.isub) 1 30 := ⟨by decide +kernel, rfl⟩
theorem d_X1_keyOf_30 : DC mX1_keyOf 30 (.ishr) 1 31 := ⟨by decide +kernel, rfl⟩
theorem d_X1_keyOf_31 : DC mX1_keyOf 31 (.iconst 1) 1 32 := ⟨by decide +kernel, rfl⟩
theorem d_X1_keyOf_32 : DC mX1_keyOf 32 (.iand) 1 33 := ⟨by decide +kernel, rfl⟩
theorem d_X1_keyOf_33 : DC mX1_keyOf 33 (.iconst 1) 1 34 := ⟨by decide +kernel, rfl⟩
theorem d_X1_keyOf_34 : DC mX1_keyOf 34 (.if_icmp .ne 12) 3 37 := ⟨by decide +kernel, rfl⟩
theorem d_X1_keyOf_37 : DC mX1_keyOf 37 (.iload_n 1) 1 38 := ⟨by decide +kernel, rfl⟩
theorem d_X1_keyOf_38 : DC mX1_keyOf 38 (.iconst 4) 1 39 := ⟨by decide +kernel, rfl⟩
theorem d_X1_keyOf_39 : DC mX1_keyOf 39 (.ishl) 1 40 := ⟨by decide +kernel, rfl⟩
theorem d_X1_keyOf_40 : DC mX1_keyOf 40 (.iload_n 3) 1 41 := ⟨by decide +kernel, rfl⟩
theorem d_X1_keyOf_41 : DC mX1_keyOf 41 (.ior) 1 42 := ⟨by decide +kernel, rfl⟩
theorem d_X1_keyOf_42 : DC mX1_keyOf 42 (.istore_n 1) 1 43 := ⟨by decide +kernel, rfl⟩
theorem d_X1_keyOf_43 : DC mX1_keyOf 43 (.goto 9) 3 46 := ⟨by decide +kernel, rfl⟩
theorem d_X1_keyOf_46 : DC mX1_keyOf 46 (.iload_n 2) 1 47 := ⟨by decide +kernel, rfl⟩
theorem d_X1_keyOf_47 : DC mX1_keyOf 47 (.iconst 4) 1 48 := ⟨by decide +kernel, rfl⟩
theorem d_X1_keyOf_48 : DC mX1_keyOf 48 (.ishl) 1 49 := ⟨by decide +kernel, rfl⟩
theorem d_X1_keyOf_49 : DC mX1_keyOf 49 (.iload_n 3) 1 50 := ⟨by decide +kernel, rfl⟩
theorem d_X1_keyOf_50 : DC mX1_keyOf 50 (.ior) 1 51 := ⟨by decide +kernel, rfl⟩
theorem d_X1_keyOf_51 : DC mX1_keyOf 51 (.istore_n 2) 1 52 := ⟨by decide +kernel, rfl⟩
theorem d_X1_keyOf_52 : DC mX1_keyOf 52 (.iinc 3 1) 3 55 := ⟨by decide +kernel, rfl⟩
theorem d_X1_keyOf_55 : DC mX1_keyOf 55 (.goto (-39)) 3 58 := ⟨by decide +kernel, rfl⟩
theorem d_X1_keyOf_58 : DC mX1_keyOf 58 (.lconst 0) 1 59 := ⟨by decide +kernel, rfl⟩
theorem d_X1_keyOf_59 : DC mX1_keyOf 59 (.iload_n 1) 1 60 := ⟨by decide +kernel, rfl⟩
theorem d_X1_keyOf_60 : DC mX1_keyOf 60 (.invokestatic 106) 3 63 := ⟨by decide +kernel, rfl⟩
theorem d_X1_keyOf_63 : DC mX1_keyOf 63 (.iload_n 2) 1 64 := ⟨by decide +kernel, rfl⟩
theorem d_X1_keyOf_64 : DC mX1_keyOf 64 (.invokestatic 106) 3 67 := ⟨by decide +kernel, rfl⟩
theorem d_X1_keyOf_67 : DC mX1_keyOf 67 (.lreturn) 1 68 := ⟨by decide +kernel, rfl⟩
theorem d_X1_isMultiple_0 : DC mX1_isMultiple 0 (.aload_n 0) 1 1 := ⟨by decide +kernel, rfl⟩
theorem d_X1_isMultiple_1 : DC mX1_isMultiple 1 (.iconst 0) 1 2 := ⟨by decide +kernel, rfl⟩
theorem d_X1_isMultiple_2 : DC mX1_isMultiple 2 (.iconst 2) 1 3 := ⟨by decide +kernel, rfl⟩
theorem d_X1_isMultiple_3 : DC mX1_isMultiple 3 (.iconst 3) 1 4 := ⟨by decide +kernel, rfl⟩
theorem d_X1_isMultiple_4 : DC mX1_isMultiple 4 (.invokevirtual 115) 3 7 := ⟨by decide +kernel, rfl⟩
theorem d_X1_isMultiple_7 : DC mX1_isMultiple 7 (.aload_n 0) 1 8 := ⟨by decide +kernel, rfl⟩
theorem d_X1_isMultiple_8 : DC mX1_isMultiple 8 (.iconst 1) 1 9 := ⟨by decide +kernel, rfl⟩
theorem d_X1_isMultiple_9 : DC mX1_isMultiple 9 (.iconst 4) 1 10 := ⟨by decide +kernel, rfl⟩
theorem d_X1_isMultiple_10 : DC mX1_isMultiple 10 (.iconst 5) 1 11 := ⟨by decide +kernel, rfl⟩
theorem d_X1_isMultiple_11 : DC mX1_isMultiple 11 (.invokevirtual 115) 3 14 := ⟨by decide +kernel, rfl⟩
theorem d_X1_isMultiple_14 : DC mX1_isMultiple 14 (.imul) 1 15 := ⟨by decide +kernel, rfl⟩
theorem d_X1_isMultiple_15 : DC mX1_isMultiple 15 (.istore_n 1) 1 16 := ⟨by decide +kernel, rfl⟩
theorem d_X1_isMultiple_16 : DC mX1_isMultiple 16 (.aload_n 0) 1 17 := ⟨by decide +kernel, rfl⟩
theorem d_X1_isMultiple_17 : DC mX1_isMultiple 17 (.iconst 1) 1 18 := ⟨by decide +kernel, rfl⟩
theorem d_X1_isMultiple_18 : DC mX1_isMultiple 18 (.iconst 2) 1 19 := ⟨by decide +kernel, rfl⟩
theorem d_X1_isMultiple_19 : DC mX1_isMultiple 19 (.iconst 3) 1 20 := ⟨by decide +kernel, rfl⟩
theorem d_X1_isMultiple_20 : DC mX1_isMultiple 20 (.invokevirtual 115) 3 23 := ⟨by decide +kernel, rfl⟩
theorem d_X1_isMultiple_23 : DC mX1_isMultiple 23 (.aload_n 0) 1 24 := ⟨by decide +kernel, rfl⟩
theorem d_X1_isMultiple_24 : DC mX1_isMultiple 24 (.iconst 0) 1 25 := ⟨by decide +kernel, rfl⟩
theorem d_X1_isMultiple_25 : DC mX1_isMultiple 25 (.iconst 4) 1 26 := ⟨by decide +kernel, rfl⟩
theorem d_X1_isMultiple_26 : DC mX1_isMultiple 26 (.iconst 5) 1 27 := ⟨by decide +kernel, rfl⟩
theorem d_X1_isMultiple_27 : DC mX1_isMultiple 27 (.invokevirtual 115) 3 30 := ⟨by decide +kernel, rfl⟩
theorem d_X1_isMultiple_30 : DC mX1_isMultiple 30 (.imul) 1 31 := ⟨by decide +kernel, rfl⟩
theorem d_X1_isMultiple_31 : DC mX1_isMultiple 31 (.istore_n 2) 1 32 := ⟨by decide +kernel, rfl⟩
theorem d_X1_isMultiple_32 : DC mX1_isMultiple 32 (.iconst 5) 1 33 := ⟨by decide +kernel, rfl⟩
theorem d_X1_isMultiple_33 : DC mX1_isMultiple 33 (.aload_n 0) 1 34 := ⟨by decide +kernel, rfl⟩
theorem d_X1_isMultiple_34 : DC mX1_isMultiple 34 (.iconst 0) 1 35 := ⟨by decide +kernel, rfl⟩
theorem d_X1_isMultiple_35 : DC mX1_isMultiple 35 (.iconst 2) 1 36 := ⟨by decide +kernel, rfl⟩
theorem d_X1_isMultiple_36 : DC mX1_isMultiple 36 (.iconst 3) 1 37 := ⟨by decide +kernel, rfl⟩
theorem d_X1_isMultiple_37 : DC mX1_isMultiple 37 (.invokevirtual 119) 3 40 := ⟨by decide +kernel, rfl⟩
theorem d_X1_isMultiple_40 : DC mX1_isMultiple 40 (.imul) 1 41 := ⟨by decide +kernel, rfl⟩
theorem d_X1_isMultiple_41 : DC mX1_isMultiple 41 (.istore_n 3) 1 42 := ⟨by decide +kernel, rfl⟩
theorem d_X1_isMultiple_42 : DC mX1_isMultiple 42 (.iconst 5) 1 43 := ⟨by decide +kernel, rfl⟩
theorem d_X1_isMultiple_43 : DC mX1_isMultiple 43 (.aload_n 0) 1 44 := ⟨by decide +kernel, rfl⟩
theorem d_X1_isMultiple_44 : DC mX1_isMultiple 44 (.iconst 1) 1 45 := ⟨by decide +kernel, rfl⟩
theorem d_X1_isMultiple_45 : DC mX1_isMultiple 45 (.iconst 2) 1 46 := ⟨by decide +kernel, rfl⟩
theorem d_X1_isMultiple_46 : DC mX1_isMultiple 46 (.iconst 3) 1 47 := ⟨by decide +kernel, rfl⟩
theorem d_X1_isMultiple_47 : DC mX1_isMultiple 47 (.invokevirtual 119) 3 50 := ⟨by decide +kernel, rfl⟩
theorem d_X1_isMultiple_50 : DC mX1_isMultiple 50 (.imul) 1 51 := ⟨by decide +kernel, rfl⟩
theorem d_X1_isMultiple_51 : DC mX1_isMultiple 51 (.istore 4) 2 53 := ⟨by decide +kernel, rfl⟩
theorem d_X1_isMultiple_53 : DC mX1_isMultiple 53 (.lconst 0) 1 54 := ⟨by decide +kernel, rfl⟩
theorem d_X1_isMultiple_54 : DC mX1_isMultiple 54 (.lstore 5) 2 56 := ⟨by decide +kernel, rfl⟩
theorem d_X1_isMultiple_56 : DC mX1_isMultiple 56 (.iconst 0) 1 57 := ⟨by decide +kernel, rfl⟩
theorem d_X1_isMultiple_57 : DC mX1_isMultiple 57 (.istore 7) 2 59 := ⟨by decide +kernel, rfl⟩
theorem d_X1_isMultiple_59 : DC mX1_isMultiple 59 (.iload 7) 2 61 := ⟨by decide +kernel, rfl⟩
theorem d_X1_isMultiple_61 : DC mX1_isMultiple 61 (.iconst 5) 1 62 := ⟨by decide +kernel, rfl⟩
theorem d_X1_isMultiple_62 : DC mX1_isMultiple 62 (.if_icmp .ge 90) 3 65 := ⟨by decide +kernel, rfl⟩
theorem d_X1_isMultiple_65 : DC mX1_isMultiple 65 (.iload_n 1) 1 66 := ⟨by decide +kernel, rfl⟩
theorem d_X1_isMultiple_66 : DC mX1_isMultiple 66 (.aload_n 0) 1 67 := ⟨by decide +kernel, rfl⟩
theorem d_X1_isMultiple_67 : DC mX1_isMultiple 67 (.getfield 26) 3 70 := ⟨by decide +kernel, rfl⟩
theorem d_X1_isMultiple_70 : DC mX1_isMultiple 70 (.iload_n 3) 1 71 := ⟨by decide +kernel, rfl⟩
theorem d_X1_isMultiple_71 : DC mX1_isMultiple 71 (.iload 7) 2 73 := ⟨by decide +kernel, rfl⟩
theorem d_X1_isMultiple_73 : DC mX1_isMultiple 73 (.iadd) 1 74 := ⟨by decide +kernel, rfl⟩
theorem d_X1_isMultiple_74 : DC mX1_isMultiple 74 (.iaload) 1 75 := ⟨by decide +kernel, rfl⟩
theorem d_X1_isMultiple_75 : DC mX1_isMultiple 75 (.imul) 1 76 := ⟨by decide +kernel, rfl⟩
theorem d_X1_isMultiple_76 : DC mX1_isMultiple 76 (.iload_n 2) 1 77 := ⟨by decide +kernel, rfl⟩
theorem d_X1_isMultiple_77 : DC mX1_isMultiple 77 (.aload_n 0) 1 78 := ⟨by decide +kernel, rfl⟩
theorem d_X1_isMultiple_78 : DC mX1_isMultiple 78 (.getfield 26) 3 81 := ⟨by decide +kernel, rfl⟩
theorem d_X1_isMultiple_81 : DC mX1_isMultiple 81 (.iload 4) 2 83 := ⟨by decide +kernel, rfl⟩
theorem d_X1_isMultiple_83 : DC mX1_isMultiple 83 (.iload 7) 2 85 := ⟨by decide +kernel, rfl⟩
theorem d_X1_isMultiple_85 : DC mX1_isMultiple 85 (.iadd) 1 86 := ⟨by decide +kernel, rfl⟩
theorem d_X1_isMultiple_86 : DC mX1_isMultiple 86 (.iaload) 1 87 := ⟨by decide +kernel, rfl⟩
theorem d_X1_isMultiple_87 : DC mX1_isMultiple 87 (.imul) 1 88 := ⟨by decide +kernel, rfl⟩
theorem d_X1_isMultiple_88 : DC mX1_isMultiple 88 (.isub) 1 89 := ⟨by decide +kernel, rfl⟩
theorem d_X1_isMultiple_89 : DC mX1_isMultiple 89 (.istore 8) 2 91 := ⟨by decide +kernel, rfl⟩
theorem d_X1_isMultiple_91 : DC mX1_isMultiple 91 (.lload 5) 2 93 := ⟨by decide +kernel, rfl⟩
theorem d_X1_isMultiple_93 : DC mX1_isMultiple 93 (.lconst 0) 1 94 := ⟨by decide +kernel, rfl⟩
theorem d_X1_isMultiple_94 : DC mX1_isMultiple 94 (.lcmp) 1 95 := ⟨by decide +kernel, rfl⟩
theorem d_X1_isMultiple_95 : DC mX1_isMultiple 95 (.ifCond .ne 31) 3 98 := ⟨by decide +kernel, rfl⟩
theorem d_X1_isMultiple_98 : DC mX1_isMultiple 98 (.iload 8) 2 100 := ⟨by decide +kernel, rfl⟩
theorem d_X1_isMultiple_100 : DC mX1_isMultiple 100 (.ifCond .eq 26) 3 103 := ⟨by decide +kernel, rfl⟩
theorem d_X1_isMultiple_103 : DC mX1_isMultiple 103 (.aload_n 0) 1 104 := ⟨by decide +kernel, rfl⟩
theorem d_X1_isMultiple_104 : DC mX1_isMultiple 104 (.getfield 29) 3 107 := ⟨by decide +kernel, rfl⟩
theorem d_X1_isMultiple_107 : DC mX1_isMultiple 107 (.iload 7) 2 109 := ⟨by decide +kernel, rfl⟩
theorem d_X1_isMultiple_109 : DC mX1_isMultiple 109 (.iaload) 1 110 := ⟨by decide +kernel, rfl⟩
theorem d_X1_isMultiple_110 : DC mX1_isMultiple 110 (.i2l) 1 111 := ⟨by decide +kernel, rfl⟩
theorem d_X1_isMultiple_111 : DC mX1_isMultiple 111 (.iload 8) 2 113 := ⟨by decide +kernel, rfl⟩
theorem d_X1_isMultiple_113 : DC mX1_isMultiple 113 (.i2l) 1 114 := ⟨by decide +kernel, rfl⟩
theorem d_X1_isMultiple_114 : DC mX1_isMultiple 114 (.ldiv) 1 115 := ⟨by decide +kernel, rfl⟩
theorem d_X1_isMultiple_115 : DC mX1_isMultiple 115 (.lstore 5) 2 117 := ⟨by decide +kernel, rfl⟩
theorem d_X1_isMultiple_117 : DC mX1_isMultiple 117 (.lload 5) 2 119 := ⟨by decide +kernel, rfl⟩
theorem d_X1_isMultiple_119 : DC mX1_isMultiple 119 (.lconst 0) 1 120 := ⟨by decide +kernel, rfl⟩
theorem d_X1_isMultiple_120 : DC mX1_isMultiple 120 (.lcmp) 1 121 := ⟨by decide +kernel, rfl⟩
theorem d_X1_isMultiple_121 : DC mX1_isMultiple 121 (.ifCond .ne 5) 3 124 := ⟨by decide +kernel, rfl⟩
theorem d_X1_isMultiple_124 : DC mX1_isMultiple 124 (.iconst 0) 1 125 := ⟨by decide +kernel, rfl⟩
theorem d_X1_isMultiple_125 : DC mX1_isMultiple 125 (.ireturn) 1 126 := ⟨by decide +kernel, rfl⟩
theorem d_X1_isMultiple_126 : DC mX1_isMultiple 126 (.lload 5) 2 128 := ⟨by decide +kernel, rfl⟩
theorem d_X1_isMultiple_128 : DC mX1_isMultiple 128 (.iload 8) 2 130 := ⟨by decide +kernel, rfl⟩
theorem d_X1_isMultiple_130 : DC mX1_isMultiple 130 (.i2l) 1 131 := ⟨by decide +kernel, rfl⟩
theorem d_X1_isMultiple_131 : DC mX1_isMultiple 131 (.lmul) 1 132 := ⟨by decide +kernel, rfl⟩
theorem d_X1_isMultiple_132 : DC mX1_isMultiple 132 (.aload_n 0) 1 133 := ⟨by decide +kernel, rfl⟩
theorem d_X1_isMultiple_133 : DC mX1_isMultiple 133 (.getfield 29) 3 136 := ⟨by decide +kernel, rfl⟩
theorem d_X1_isMultiple_136 : DC mX1_isMultiple 136 (.iload 7) 2 138 := ⟨by decide +kernel, rfl⟩
theorem d_X1_isMultiple_138 : DC mX1_isMultiple 138 (.iaload) 1 139 := ⟨by decide +kernel, rfl⟩
theorem d_X1_isMultiple_139 : DC mX1_isMultiple 139 (.i2l) 1 140 := ⟨by decide +kernel, rfl⟩
theorem d_X1_isMultiple_140 : DC mX1_isMultiple 140 (.lcmp) 1 141 := ⟨by decide +kernel, rfl⟩
theorem d_X1_isMultiple_141 : DC mX1_isMultiple 141 (.ifCond .eq 5) 3 144 := ⟨by decide +kernel, rfl⟩
theorem d_X1_isMultiple_144 : DC mX1_isMultiple 144 (.iconst 0) 1 145 := ⟨by decide +kernel, rfl⟩
theorem d_X1_isMultiple_145 : DC mX1_isMultiple 145 (.ireturn) 1 146 := ⟨by decide +kernel, rfl⟩
theorem d_X1_isMultiple_146 : DC mX1_isMultiple 146 (.iinc 7 1) 3 149 := ⟨by decide +kernel, rfl⟩
theorem d_X1_isMultiple_149 : DC mX1_isMultiple 149 (.goto (-90)) 3 152 := ⟨by decide +kernel, rfl⟩
theorem d_X1_isMultiple_152 : DC mX1_isMultiple 152 (.aload_n 0) 1 153 := ⟨by decide +kernel, rfl⟩
theorem d_X1_isMultiple_153 : DC mX1_isMultiple 153 (.lload 5) 2 155 := ⟨by decide +kernel, rfl⟩
theorem d_X1_isMultiple_155 : DC mX1_isMultiple 155 (.l2i) 1 156 := ⟨by decide +kernel, rfl⟩
theorem d_X1_isMultiple_156 : DC mX1_isMultiple 156 (.putfield 9) 3 159 := ⟨by decide +kernel, rfl⟩
theorem d_X1_isMultiple_159 : DC mX1_isMultiple 159 (.lload 5) 2 161 := ⟨by decide +kernel, rfl⟩
theorem d_X1_isMultiple_161 : DC mX1_isMultiple 161 (.lconst 0) 1 162 := ⟨by decide +kernel, rfl⟩
theorem d_X1_isMultiple_162 : DC mX1_isMultiple 162 (.lcmp) 1 163 := ⟨by decide +kernel, rfl⟩
theorem d_X1_isMultiple_163 : DC mX1_isMultiple 163 (.ifCond .eq 18) 3 166 := ⟨by decide +kernel, rfl⟩
theorem d_X1_isMultiple_166 : DC mX1_isMultiple 166 (.lload 5) 2 168 := ⟨by decide +kernel, rfl⟩
theorem d_X1_isMultiple_168 : DC mX1_isMultiple 168 (.aload_n 0) 1 169 := ⟨by decide +kernel, rfl⟩
theorem d_X1_isMultiple_169 : DC mX1_isMultiple 169 (.getfield 9) 3 172 := ⟨by decide +kernel, rfl⟩
theorem d_X1_isMultiple_172 : DC mX1_isMultiple 172 (.i2l) 1 173 := ⟨by decide +kernel, rfl⟩
theorem d_X1_isMultiple_173 : DC mX1_isMultiple 173 (.lcmp) 1 174 := ⟨by decide +kernel, rfl⟩
theorem d_X1_isMultiple_174 : DC mX1_isMultiple 174 (.ifCond .ne 7) 3 177 := ⟨by decide +kernel, rfl⟩
theorem d_X1_isMultiple_177 : DC mX1_isMultiple 177 (.iconst 1) 1 178 := ⟨by decide +kernel, rfl⟩
theorem d_X1_isMultiple_178 : DC mX1_isMultiple 178 (.goto 4) 3 181 := ⟨by decide +kernel, rfl⟩
theorem d_X1_isMultiple_181 : DC mX1_isMultiple 181 (.iconst 0) 1 182 := ⟨by decide +kernel, rfl⟩
theorem d_X1_isMultiple_182 : DC mX1_isMultiple 182 (.ireturn) 1 183 := ⟨by decide +kernel, rfl⟩
theorem d_X1_signOf_0 : DC mX1_signOf 0 (.aload_n 0) 1 1 := ⟨by decide +kernel, rfl⟩
theorem d_X1_signOf_1 : DC mX1_signOf 1 (.getfield 19) 3 4 := ⟨by decide +kernel, rfl⟩
theorem d_X1_signOf_4 : DC mX1_signOf 4 (.iload_n 1) 1 5 := ⟨by decide +kernel, rfl⟩
theorem d_X1_signOf_5 : DC mX1_signOf 5 (.iaload) 1 6 := ⟨by decide +kernel, rfl⟩
theorem d_X1_signOf_6 : DC mX1_signOf 6 (.aload_n 0) 1 7 := ⟨by decide +kernel, rfl⟩
theorem d_X1_signOf_7 : DC mX1_signOf 7 (.getfield 19) 3 10 := ⟨by decide +kernel, rfl⟩
theorem d_X1_signOf_10 : DC mX1_signOf 10 (.iload_n 2) 1 11 := ⟨by decide +kernel, rfl⟩
theorem d_X1_signOf_11 : DC mX1_signOf 11 (.iaload) 1 12 := ⟨by decide +kernel, rfl⟩
theorem d_X1_signOf_12 : DC mX1_signOf 12 (.aload_n 0) 1 13 := ⟨by decide +kernel, rfl⟩
theorem d_X1_signOf_13 : DC mX1_signOf 13 (.getfield 19) 3 16 := ⟨by decide +kernel, rfl⟩
theorem d_X1_signOf_16 : DC mX1_signOf 16 (.iload_n 3) 1 17 := ⟨by decide +kernel, rfl⟩
theorem d_X1_signOf_17 : DC mX1_signOf 17 (.iaload) 1 18 := ⟨by decide +kernel, rfl⟩
theorem d_X1_signOf_18 : DC mX1_signOf 18 (.invokestatic 122) 3 21 := ⟨by decide +kernel, rfl⟩
theorem d_X1_signOf_21 : DC mX1_signOf 21 (.invokestatic 124) 3 24 := ⟨by decide +kernel, rfl⟩
theorem d_X1_signOf_24 : DC mX1_signOf 24 (.ifCond .ge 7) 3 27 := ⟨by decide +kernel, rfl⟩
theorem d_X1_signOf_27 : DC mX1_signOf 27 (.iconst (-1)) 1 28 := ⟨by decide +kernel, rfl⟩
theorem d_X1_signOf_28 : DC mX1_signOf 28 (.goto 4) 3 31 := ⟨by decide +kernel, rfl⟩
theorem d_X1_signOf_31 : DC mX1_signOf 31 (.iconst 1) 1 32 := ⟨by decide +kernel, rfl⟩
theorem d_X1_signOf_32 : DC mX1_signOf 32 (.ireturn) 1 33 := ⟨by decide +kernel, rfl⟩
theorem d_X1_besideFirst_0 : DC mX1_besideFirst 0 (.iconst 1) 1 1 := ⟨by decide +kernel, rfl⟩
theorem d_X1_besideFirst_1 : DC mX1_besideFirst 1 (.aload_n 0) 1 2 := ⟨by decide +kernel, rfl⟩
theorem d_X1_besideFirst_2 : DC mX1_besideFirst 2 (.getfield 19) 3 5 := ⟨by decide +kernel, rfl⟩
theorem d_X1_besideFirst_5 : DC mX1_besideFirst 5 (.iload_n 1) 1 6 := ⟨by decide +kernel, rfl⟩
theorem d_X1_besideFirst_6 : DC mX1_besideFirst 6 (.iaload) 1 7 := ⟨by decide +kernel, rfl⟩
theorem d_X1_besideFirst_7 : DC mX1_besideFirst 7 (.ishl) 1 8 := ⟨by decide +kernel, rfl⟩
theorem d_X1_besideFirst_8 : DC mX1_besideFirst 8 (.iconst 1) 1 9 := ⟨by decide +kernel, rfl⟩
theorem d_X1_besideFirst_9 : DC mX1_besideFirst 9 (.aload_n 0) 1 10 := ⟨by decide +kernel, rfl⟩
theorem d_X1_besideFirst_10 : DC mX1_besideFirst 10 (.getfield 19) 3 13 := ⟨by decide +kernel, rfl⟩
theorem d_X1_besideFirst_13 : DC mX1_besideFirst 13 (.iload_n 2) 1 14 := ⟨by decide +kernel, rfl⟩
theorem d_X1_besideFirst_14 : DC mX1_besideFirst 14 (.iaload) 1 15 := ⟨by decide +kernel, rfl⟩
theorem d_X1_besideFirst_15 : DC mX1_besideFirst 15 (.ishl) 1 16 := ⟨by decide +kernel, rfl⟩
theorem d_X1_besideFirst_16 : DC mX1_besideFirst 16 (.ior) 1 17 := ⟨by decide +kernel, rfl⟩
theorem d_X1_besideFirst_17 : DC mX1_besideFirst 17 (.iconst 1) 1 18 := ⟨by decide +kernel, rfl⟩
theorem d_X1_besideFirst_18 : DC mX1_besideFirst 18 (.aload_n 0) 1 19 := ⟨by decide +kernel, rfl⟩
theorem d_X1_besideFirst_19 : DC mX1_besideFirst 19 (.getfield 19) 3 22 := ⟨by decide +kernel, rfl⟩
theorem d_X1_besideFirst_22 : DC mX1_besideFirst 22 (.iload_n 3) 1 23 := ⟨by decide +kernel, rfl⟩
theorem d_X1_besideFirst_23 : DC mX1_besideFirst 23 (.iaload) 1 24 := ⟨by decide +kernel, rfl⟩
theorem d_X1_besideFirst_24 : DC mX1_besideFirst 24 (.ishl) 1 25 := ⟨by decide +kernel, rfl⟩
theorem d_X1_besideFirst_25 : DC mX1_besideFirst 25 (.ior) 1 26 := ⟨by decide +kernel, rfl⟩
theorem d_X1_besideFirst_26 : DC mX1_besideFirst 26 (.istore 4) 2 28 := ⟨by decide +kernel, rfl⟩
theorem d_X1_besideFirst_28 : DC mX1_besideFirst 28 (.iload 4) 2 30 := ⟨by decide +kernel, rfl⟩
theorem d_X1_besideFirst_30 : DC mX1_besideFirst 30 (.iconst 1) 1 31 := ⟨by decide +kernel, rfl⟩
theorem d_X1_besideFirst_31 : DC mX1_besideFirst 31 (.iand) 1 32 := ⟨by decide +kernel, rfl⟩
theorem d_X1_besideFirst_32 : DC mX1_besideFirst 32 (.iconst 1) 1 33 := ⟨by decide +kernel, rfl⟩
theorem d_X1_besideFirst_33 : DC mX1_besideFirst 33 (.if_icmp .ne 8) 3 36 := ⟨by decide +kernel, rfl⟩
theorem d_X1_besideFirst_36 : DC mX1_besideFirst 36 (.iload 4) 2 38 := ⟨by decide +kernel, rfl⟩
theorem d_X1_besideFirst_38 : DC mX1_besideFirst 38 (.goto 8) 3 41 := ⟨by decide +kernel, rfl⟩
theorem d_X1_besideFirst_41 : DC mX1_besideFirst 41 (.bipush 63) 2 43 := ⟨by decide +kernel, rfl⟩
theorem d_X1_besideFirst_43 : DC mX1_besideFirst 43 (.iload 4) 2 45 := ⟨by decide +kernel, rfl⟩
theorem d_X1_besideFirst_45 : DC mX1_besideFirst 45 (.isub) 1 46 := ⟨by decide +kernel, rfl⟩
theorem d_X1_besideFirst_46 : DC mX1_besideFirst 46 (.iconst 1) 1 47 := ⟨by decide +kernel, rfl⟩
theorem d_X1_besideFirst_47 : DC mX1_besideFirst 47 (.ishr) 1 48 := ⟨by decide +kernel, rfl⟩
theorem d_X1_besideFirst_48 : DC mX1_besideFirst 48 (.ireturn) 1 49 := ⟨by decide +kernel, rfl⟩
theorem d_X1_nextRow_0 : DC mX1_nextRow 0 (.iconst 4) 1 1 := ⟨by decide +kernel, rfl⟩
theorem d_X1_nextRow_1 : DC mX1_nextRow 1 (.istore_n 1) 1 2 := ⟨by decide +kernel, rfl⟩
theorem d_X1_nextRow_2 : DC mX1_nextRow 2 (.iload_n 1) 1 3 := ⟨by decide +kernel, rfl⟩
theorem d_X1_nextRow_3 : DC mX1_nextRow 3 (.ifCond .lt 26) 3 6 := ⟨by decide +kernel, rfl⟩
theorem d_X1_nextRow_6 : DC mX1_nextRow 6 (.aload_n 0) 1 7 := ⟨by decide +kernel, rfl⟩
theorem d_X1_nextRow_7 : DC mX1_nextRow 7 (.getfield 19) 3 10 := ⟨by decide +kernel, rfl⟩
theorem d_X1_nextRow_10 : DC mX1_nextRow 10 (.iload_n 1) 1 11 := ⟨by decide +kernel, rfl⟩
theorem d_X1_nextRow_11 : DC mX1_nextRow 11 (.iaload) 1 12 := ⟨by decide +kernel, rfl⟩
theorem d_X1_nextRow_12 : DC mX1_nextRow 12 (.aload_n 0) 1 13 := ⟨by decide +kernel, rfl⟩
theorem d_X1_nextRow_13 : DC mX1_nextRow 13 (.getfield 19) 3 16 := ⟨by decide +kernel, rfl⟩
theorem d_X1_nextRow_16 : DC mX1_nextRow 16 (.iload_n 1) 1 17 := ⟨by decide +kernel, rfl⟩
theorem d_X1_nextRow_17 : DC mX1_nextRow 17 (.iconst 1) 1 18 := ⟨by decide +kernel, rfl⟩
theorem d_X1_nextRow_18 : DC mX1_nextRow 18 (.iadd) 1 19 := ⟨by decide +kernel, rfl⟩
theorem d_X1_nextRow_19 : DC mX1_nextRow 19 (.iaload) 1 20 := ⟨by decide +kernel, rfl⟩
theorem d_X1_nextRow_20 : DC mX1_nextRow 20 (.if_icmp .le 9) 3 23 := ⟨by decide +kernel, rfl⟩
theorem d_X1_nextRow_23 : DC mX1_nextRow 23 (.iinc 1 (-1)) 3 26 := ⟨by decide +kernel, rfl⟩
theorem d_X1_nextRow_26 : DC mX1_nextRow 26 (.goto (-24)) 3 29 := ⟨by decide +kernel, rfl⟩
theorem d_X1_nextRow_29 : DC mX1_nextRow 29 (.iload_n 1) 1 30 := ⟨by decide +kernel, rfl⟩
theorem d_X1_nextRow_30 : DC mX1_nextRow 30 (.ifCond .ge 4) 3 33 := ⟨by decide +kernel, rfl⟩
theorem d_X1_nextRow_33 : DC mX1_nextRow 33 (.return_) 1 34 := ⟨by decide +kernel, rfl⟩
theorem d_X1_nextRow_34 : DC mX1_nextRow 34 (.iconst 5) 1 35 := ⟨by decide +kernel, rfl⟩
theorem d_X1_nextRow_35 : DC mX1_nextRow 35 (.istore_n 2) 1 36 := ⟨by decide +kernel, rfl⟩
theorem d_X1_nextRow_36 : DC mX1_nextRow 36 (.iload_n 2) 1 37 := ⟨by decide +kernel, rfl⟩
theorem d_X1_nextRow_37 : DC mX1_nextRow 37 (.iload_n 1) 1 38 := ⟨by decide +kernel, rfl⟩
theorem d_X1_nextRow_38 : DC mX1_nextRow 38 (.if_icmp .le 24) 3 41 := ⟨by decide +kernel, rfl⟩
theorem d_X1_nextRow_41 : DC mX1_nextRow 41 (.aload_n 0) 1 42 := ⟨by decide +kernel, rfl⟩
theorem d_X1_nextRow_42 : DC mX1_nextRow 42 (.getfield 19) 3 45 := ⟨by decide +kernel, rfl⟩
theorem d_X1_nextRow_45 : DC mX1_nextRow 45 (.iload_n 2) 1 46 := ⟨by decide +kernel, rfl⟩
theorem d_X1_nextRow_46 : DC mX1_nextRow 46 (.iaload) 1 47 := ⟨by decide +kernel, rfl⟩
theorem d_X1_nextRow_47 : DC mX1_nextRow 47 (.aload_n 0) 1 48 := ⟨by decide +kernel, rfl⟩
theorem d_X1_nextRow_48 : DC mX1_nextRow 48 (.getfield 19) 3 51 := ⟨by decide +kernel, rfl⟩
theorem d_X1_nextRow_51 : DC mX1_nextRow 51 (.iload_n 1) 1 52 := ⟨by decide +kernel, rfl⟩
theorem d_X1_nextRow_52 : DC mX1_nextRow 52 (.iaload) 1 53 := ⟨by decide +kernel, rfl⟩
theorem d_X1_nextRow_53 : DC mX1_nextRow 53 (.if_icmp .ge 9) 3 56 := ⟨by decide +kernel, rfl⟩
theorem d_X1_nextRow_56 : DC mX1_nextRow 56 (.iinc 2 (-1)) 3 59 := ⟨by decide +kernel, rfl⟩
theorem d_X1_nextRow_59 : DC mX1_nextRow 59 (.goto (-23)) 3 62 := ⟨by decide +kernel, rfl⟩
theorem d_X1_nextRow_62 : DC mX1_nextRow 62 (.aload_n 0) 1 63 := ⟨by decide +kernel, rfl⟩
theorem d_X1_nextRow_63 : DC mX1_nextRow 63 (.iload_n 1) 1 64 := ⟨by decide +kernel, rfl⟩
theorem d_X1_nextRow_64 : DC mX1_nextRow 64 (.iload_n 2) 1 65 := ⟨by decide +kernel, rfl⟩
theorem d_X1_nextRow_65 : DC mX1_nextRow 65 (.invokevirtual 127) 3 68 := ⟨by decide +kernel, rfl⟩
theorem d_X1_nextRow_68 : DC mX1_nextRow 68 (.iload_n 1) 1 69 := ⟨by decide +kernel, rfl⟩
theorem d_X1_nextRow_69 : DC mX1_nextRow 69 (.iconst 1) 1 70 := ⟨by decide +kernel, rfl⟩
theorem d_X1_nextRow_70 : DC mX1_nextRow 70 (.iadd) 1 71 := ⟨by decide +kernel, rfl⟩
theorem d_X1_nextRow_71 : DC mX1_nextRow 71 (.istore_n 3) 1 72 := ⟨by decide +kernel, rfl⟩
theorem d_X1_nextRow_72 : DC mX1_nextRow 72 (.iconst 5) 1 73 := ⟨by decide +kernel, rfl⟩
theorem d_X1_nextRow_73 : DC mX1_nextRow 73 (.istore 4) 2 75 := ⟨by decide +kernel, rfl⟩
theorem d_X1_nextRow_75 : DC mX1_nextRow 75 (.iload_n 3) 1 76 := ⟨by decide +kernel, rfl⟩
theorem d_X1_nextRow_76 : DC mX1_nextRow 76 (.iload 4) 2 78 := ⟨by decide +kernel, rfl⟩
theorem d_X1_nextRow_78 : DC mX1_nextRow 78 (.if_icmp .ge 19) 3 81 := ⟨by decide +kernel, rfl⟩
theorem d_X1_nextRow_81 : DC mX1_nextRow 81 (.aload_n 0) 1 82 := ⟨by decide +kernel, rfl⟩
theorem d_X1_nextRow_82 : DC mX1_nextRow 82 (.iload_n 3) 1 83 := ⟨by decide +kernel, rfl⟩
theorem d_X1_nextRow_83 : DC mX1_nextRow 83 (.iload 4) 2 85 := ⟨by decide +kernel, rfl⟩
theorem d_X1_nextRow_85 : DC mX1_nextRow 85 (.invokevirtual 127) 3 88 := ⟨by decide +kernel, rfl⟩
theorem d_X1_nextRow_88 : DC mX1_nextRow 88 (.iinc 3 1) 3 91 := ⟨by decide +kernel, rfl⟩
theorem d_X1_nextRow_91 : DC mX1_nextRow 91 (.iinc 4 (-1)) 3 94 := ⟨by decide +kernel, rfl⟩
theorem d_X1_nextRow_94 : DC mX1_nextRow 94 (.goto (-19)) 3 97 := ⟨by decide +kernel, rfl⟩
theorem d_X1_nextRow_97 : DC mX1_nextRow 97 (.return_) 1 98 := ⟨by decide +kernel, rfl⟩
theorem d_X1_swap_0 : DC mX1_swap 0 (.aload_n 0) 1 1 := ⟨by decide +kernel, rfl⟩
theorem d_X1_swap_1 : DC mX1_swap 1 (.getfield 19) 3 4 := ⟨by decide +kernel, rfl⟩
theorem d_X1_swap_4 : DC mX1_swap 4 (.iload_n 1) 1 5 := ⟨by decide +kernel, rfl⟩
theorem d_X1_swap_5 : DC mX1_swap 5 (.iaload) 1 6 := ⟨by decide +kernel, rfl⟩
theorem d_X1_swap_6 : DC mX1_swap 6 (.istore_n 3) 1 7 := ⟨by decide +kernel, rfl⟩
theorem d_X1_swap_7 : DC mX1_swap 7 (.aload_n 0) 1 8 := ⟨by decide +kernel, rfl⟩
theorem d_X1_swap_8 : DC mX1_swap 8 (.getfield 19) 3 11 := ⟨by decide +kernel, rfl⟩
theorem d_X1_swap_11 : DC mX1_swap 11 (.iload_n 1) 1 12 := ⟨by decide +kernel, rfl⟩
theorem d_X1_swap_12 : DC mX1_swap 12 (.aload_n 0) 1 13 := ⟨by decide +kernel, rfl⟩
theorem d_X1_swap_13 : DC mX1_swap 13 (.getfield 19) 3 16 := ⟨by decide +kernel, rfl⟩
theorem d_X1_swap_16 : DC mX1_swap 16 (.iload_n 2) 1 17 := ⟨by decide +kernel, rfl⟩
theorem d_X1_swap_17 : DC mX1_swap 17 (.iaload) 1 18 := ⟨by decide +kernel, rfl⟩
theorem d_X1_swap_18 : DC mX1_swap 18 (.iastore) 1 19 := ⟨by decide +kernel, rfl⟩
theorem d_X1_swap_19 : DC mX1_swap 19 (.aload_n 0) 1 20 := ⟨by decide +kernel, rfl⟩
theorem d_X1_swap_20 : DC mX1_swap 20 (.getfield 19) 3 23 := ⟨by decide +kernel, rfl⟩
theorem d_X1_swap_23 : DC mX1_swap 23 (.iload_n 2) 1 24 := ⟨by decide +kernel, rfl⟩
theorem d_X1_swap_24 : DC mX1_swap 24 (.iload_n 3) 1 25 := ⟨by decide +kernel, rfl⟩
theorem d_X1_swap_25 : DC mX1_swap 25 (.iastore) 1 26 := ⟨by decide +kernel, rfl⟩
theorem d_X1_swap_26 : DC mX1_swap 26 (.return_) 1 27 := ⟨by decide +kernel, rfl⟩
theorem v_X1_takeLetters_0 {l : Launch} {d N : Nat} {Λ : Lay} {P : Int → Mem → Prop} {σ : Mem} {x1 t : Int} (h0d : 1 ≤ d)
    (h : (CI l mX6_bracketsIn (d - 1) [(1, x1)] N Λ σ (fun v2 σ1 => ((v2 = 2 → WI l mX1_takeLetters d P 15 [(2, t), (1, x1), (3, 0), (0, 0), (0, 0)] [] N Λ σ1) ∧ (¬ (v2 = 2) → P 0 σ1))))) :
    WI l mX1_takeLetters d P 0 [(2, t), (1, x1), (3, 0), (3, 0), (3, 0)] [] N Λ σ := by
  refine r_lload_n (x := x1) d_X1_takeLetters_0 rfl ?_
  refine r_callS (Y2 := mX6_bracketsIn) (d := d - 1) (mc := 0) (ms := 0) (As := [(1, x1)]) (S := []) d_X1_takeLetters_1 ok_mX6_bracketsIn ml_X1_71 rfl (rmc h0d (by decide)) rm00 (Nat.le_of_ble_eq_true rfl) rfl (MC.mono h (fun r N1 Λ1 σ1 hq => ?_))
  obtain ⟨v2, rfl, rfl, rfl, h⟩ := hq
  refine r_iconst (x := 2) d_X1_takeLetters_4 ⟨by decide, by decide⟩ ?_
  refine r_ic_eq (tgt := 10) d_X1_takeLetters_5 rfl (fun hc => ?_) (fun hc => ?_)
  · have h := h.1 hc
    refine r_iconst (x := 0) d_X1_takeLetters_10 ⟨by decide, by decide⟩ ?_
    refine r_istore_n (L2 := [(2, t), (1, x1), (3, 0), (0, 0), (3, 0)]) d_X1_takeLetters_11 (by decide) rfl rfl ?_
    refine r_iconst (x := 0) d_X1_takeLetters_12 ⟨by decide, by decide⟩ ?_
    refine r_istore (L2 := [(2, t), (1, x1), (3, 0), (0, 0), (0, 0)]) d_X1_takeLetters_13 (by decide) rfl rfl ?_
    exact h
  · have h := h.2 hc
    refine r_iconst (x := 0) d_X1_takeLetters_8 ⟨by decide, by decide⟩ ?_
    exact r_iret d_X1_takeLetters_9 rfl (by decide) (Nat.le_refl 0) (Nat.le_refl 0) ⟨_, rfl, rfl, rfl, h⟩
theorem v_X1_takeLetters_15 {l : Launch} {d N : Nat} {Λ : Lay} {P : Int → Mem → Prop} {σ : Mem} {x1 x3 x4 t t_letters : Int} (o_t : Ob N Λ t 11 6) (f_t_letters : (Λ t).2.2 1 = t_letters) (h0d : 1 ≤ d)
    (h : ((10 ≤ x4 → ((¬ x3 = 6 → P 0 σ) ∧ (x3 = 6 → P 1 σ))) ∧ (¬ (10 ≤ x4) → ((6 ≤ x3 → (∀ y1, y1 = addI x4 1 → WI l mX1_takeLetters d P 15 [(2, t), (1, x1), (3, 0), (0, x3), (0, y1)] [] N Λ σ)) ∧ (¬ (6 ≤ x3) → (CI l mX6_timesOf (d - 1) [(1, x1), (0, x4)] N Λ σ (fun v3 σ2 => ((¬ v3 = 1 → (∀ y4, y4 = addI x4 1 → WI l mX1_takeLetters d P 15 [(2, t), (1, x1), (3, 0), (0, x3), (0, y4)] [] N Λ σ2)) ∧ (v3 = 1 → (Ix N Λ t_letters 0 x3 ∧ (∀ τ5, τ5 = st σ2 t_letters x3 x4 → (∀ y6, y6 = addI x3 1 → (∀ y7, y7 = addI x4 1 → WI l mX1_takeLetters d P 15 [(2, t), (1, x1), (3, 0), (0, y6), (0, y7)] [] N Λ τ5))))))))))))) :
    WI l mX1_takeLetters d P 15 [(2, t), (1, x1), (3, 0), (0, x3), (0, x4)] [] N Λ σ := by
  refine r_iload (x := x4) d_X1_takeLetters_15 rfl ?_
  refine r_bipush (x := 10) d_X1_takeLetters_17 ⟨by decide, by decide⟩ (by decide) ?_
  refine r_ic_ge (tgt := 55) d_X1_takeLetters_19 rfl (fun hc => ?_) (fun hc => ?_)
  · have h := h.1 hc
    refine r_iload_n (x := x3) d_X1_takeLetters_55 rfl ?_
    refine r_bipush (x := 6) d_X1_takeLetters_56 ⟨by decide, by decide⟩ (by decide) ?_
    refine r_ic_ne (tgt := 65) d_X1_takeLetters_58 rfl (fun hc => ?_) (fun hc => ?_)
    · have h := h.1 hc
      refine r_iconst (x := 0) d_X1_takeLetters_65 ⟨by decide, by decide⟩ ?_
      exact r_iret d_X1_takeLetters_66 rfl (by decide) (Nat.le_refl 0) (Nat.le_refl 0) ⟨_, rfl, rfl, rfl, h⟩
    · have h := h.2 hc
      refine r_iconst (x := 1) d_X1_takeLetters_61 ⟨by decide, by decide⟩ ?_
      refine r_goto (tgt := 66) d_X1_takeLetters_62 rfl ?_
      exact r_iret d_X1_takeLetters_66 rfl (by decide) (Nat.le_refl 0) (Nat.le_refl 0) ⟨_, rfl, rfl, rfl, h⟩
  · have h := h.2 hc
    refine r_iload_n (x := x3) d_X1_takeLetters_22 rfl ?_
    refine r_bipush (x := 6) d_X1_takeLetters_23 ⟨by decide, by decide⟩ (by decide) ?_
    refine r_ic_ge (tgt := 49) d_X1_takeLetters_25 rfl (fun hc => ?_) (fun hc => ?_)
    · have h := h.1 hc
      refine x_iinc (x := x4) (L := [(2, t), (1, x1), (3, 0), (0, x3), (0, x4)]) d_X1_takeLetters_49 rfl (by decide) rfl (fun y1 ey1 => ?_)
      have h := h y1 ey1
      show WP _ _ _ _ _ _ _ _ [(2, t), (1, x1), (3, 0), (0, x3), (0, y1)] _ _ _ _
      refine r_goto (tgt := 15) d_X1_takeLetters_52 rfl ?_
      exact h
    · have h := h.2 hc
      refine r_lload_n (x := x1) d_X1_takeLetters_28 rfl ?_
      refine r_iload (x := x4) d_X1_takeLetters_29 rfl ?_
      refine r_callS (Y2 := mX6_timesOf) (d := d - 1) (mc := 0) (ms := 0) (As := [(1, x1), (0, x4)]) (S := []) d_X1_takeLetters_31 ok_mX6_timesOf ml_X1_74 rfl (rmc h0d (by decide)) rm00 (Nat.le_of_ble_eq_true rfl) rfl (MC.mono h (fun r N1 Λ1 σ2 hq => ?_))
      obtain ⟨v3, rfl, rfl, rfl, h⟩ := hq
      refine r_iconst (x := 1) d_X1_takeLetters_34 ⟨by decide, by decide⟩ ?_
      refine r_ic_ne (tgt := 49) d_X1_takeLetters_35 rfl (fun hc => ?_) (fun hc => ?_)
      · have h := h.1 hc
        refine x_iinc (x := x4) (L := [(2, t), (1, x1), (3, 0), (0, x3), (0, x4)]) d_X1_takeLetters_49 rfl (by decide) rfl (fun y4 ey4 => ?_)
        have h := h y4 ey4
        show WP _ _ _ _ _ _ _ _ [(2, t), (1, x1), (3, 0), (0, x3), (0, y4)] _ _ _ _
        refine r_goto (tgt := 15) d_X1_takeLetters_52 rfl ?_
        exact h
      · have h := h.2 hc
        refine r_aload_n (x := t) d_X1_takeLetters_38 rfl o_t.1 ?_
        refine r_getf (j := 1) (t := 2) (x := t_letters) d_X1_takeLetters_39 kX1 (by decide) fl_X1_15 o_t.1 o_t.2.1 o_t.2.2.1 o_t.2.2.2 rfl f_t_letters ?_
        refine r_iload_n (x := x3) d_X1_takeLetters_42 rfl ?_
        refine r_iload (x := x4) d_X1_takeLetters_43 rfl ?_
        refine x_iast d_X1_takeLetters_45 h.1 ?_
        have h := h.2
        refine r_nmM (fun τ5 eτ5 => ?_)
        have h := h τ5 eτ5
        refine x_iinc (x := x3) (L := [(2, t), (1, x1), (3, 0), (0, x3), (0, x4)]) d_X1_takeLetters_46 rfl (by decide) rfl (fun y6 ey6 => ?_)
        have h := h y6 ey6
        show WP _ _ _ _ _ _ _ _ [(2, t), (1, x1), (3, 0), (0, y6), (0, x4)] _ _ _ _
        refine x_iinc (x := x4) (L := [(2, t), (1, x1), (3, 0), (0, y6), (0, x4)]) d_X1_takeLetters_49 rfl (by decide) rfl (fun y7 ey7 => ?_)
        have h := h y7 ey7
        show WP _ _ _ _ _ _ _ _ [(2, t), (1, x1), (3, 0), (0, y6), (0, y7)] _ _ _ _
        refine r_goto (tgt := 15) d_X1_takeLetters_52 rfl ?_
        exact h
theorem v_X1_letterOfRow_0 {l : Launch} {d N : Nat} {Λ : Lay} {P : Int → Mem → Prop} {σ : Mem} {x1 t t_letters t_row : Int} (o_t : Ob N Λ t 11 6) (f_t_letters : (Λ t).2.2 1 = t_letters) (f_t_row : (Λ t).2.2 2 = t_row)
    (h : ((x1 < 0 → P (-1) σ) ∧ (¬ (x1 < 0) → ((x1 < 6 → (Ix N Λ t_row 0 x1 ∧ (Ix N Λ t_letters 0 (σ t_row x1) ∧ P (σ t_letters (σ t_row x1)) σ))) ∧ (¬ (x1 < 6) → P (-1) σ))))) :
    WI l mX1_letterOfRow d P 0 [(2, t), (0, x1)] [] N Λ σ := by
  refine r_iload_n (x := x1) d_X1_letterOfRow_0 rfl ?_
  refine r_if_lt (tgt := 10) d_X1_letterOfRow_1 rfl (fun hc => ?_) (fun hc => ?_)
  · have h := h.1 hc
    refine r_iconst (x := (-1)) d_X1_letterOfRow_10 ⟨by decide, by decide⟩ ?_
    refine r_goto (tgt := 25) d_X1_letterOfRow_11 rfl ?_
    exact r_iret d_X1_letterOfRow_25 rfl rfl (Nat.le_refl 0) (Nat.le_refl 0) ⟨_, rfl, rfl, rfl, h⟩
  · have h := h.2 hc
    refine r_iload_n (x := x1) d_X1_letterOfRow_4 rfl ?_
    refine r_bipush (x := 6) d_X1_letterOfRow_5 ⟨by decide, by decide⟩ (by decide) ?_
    refine r_ic_lt (tgt := 14) d_X1_letterOfRow_7 rfl (fun hc => ?_) (fun hc => ?_)
    · have h := h.1 hc
      refine r_aload_n (x := t) d_X1_letterOfRow_14 rfl o_t.1 ?_
      refine r_getf (j := 1) (t := 2) (x := t_letters) d_X1_letterOfRow_15 kX1 (by decide) fl_X1_15 o_t.1 o_t.2.1 o_t.2.2.1 o_t.2.2.2 rfl f_t_letters ?_
      refine r_aload_n (x := t) d_X1_letterOfRow_18 rfl o_t.1 ?_
      refine r_getf (j := 2) (t := 2) (x := t_row) d_X1_letterOfRow_19 kX1 (by decide) fl_X1_19 o_t.1 o_t.2.1 o_t.2.2.1 o_t.2.2.2 rfl f_t_row ?_
      refine r_iload_n (x := x1) d_X1_letterOfRow_22 rfl ?_
      refine x_iald d_X1_letterOfRow_23 h.1 ?_
      have h := h.2
      refine x_iald d_X1_letterOfRow_24 h.1 ?_
      have h := h.2
      exact r_iret d_X1_letterOfRow_25 rfl rfl (Nat.le_refl 0) (Nat.le_refl 0) ⟨_, rfl, rfl, rfl, h⟩
    · have h := h.2 hc
      refine r_iconst (x := (-1)) d_X1_letterOfRow_10 ⟨by decide, by decide⟩ ?_
      refine r_goto (tgt := 25) d_X1_letterOfRow_11 rfl ?_
      exact r_iret d_X1_letterOfRow_25 rfl rfl (Nat.le_refl 0) (Nat.le_refl 0) ⟨_, rfl, rfl, rfl, h⟩
theorem v_X1_search_0 {l : Launch} {d N : Nat} {Λ : Lay} {P : Int → Mem → Prop} {σ : Mem} {a1 t : Int} (o_a1 : Ob N Λ a1 15 3) (o_t : Ob N Λ t 11 6) (h0d : 1 ≤ d)
    (h : (((σ a1 2) = 0 → P 0 σ) ∧ (¬ ((σ a1 2) = 0) → (CI l mX1_takeAsked (d - 1) [(2, t), (2, a1)] N Λ σ (fun v2 σ1 => ((¬ v2 = 0 → WI l mX1_search d P 19 [(2, t), (2, a1), (0, 0)] [] N Λ σ1) ∧ (v2 = 0 → P 0 σ1))))))) :
    WI l mX1_search d P 0 [(2, t), (2, a1), (3, 0)] [] N Λ σ := by
  refine r_aload_n (x := a1) d_X1_search_0 rfl o_a1.1 ?_
  refine r_getf (j := 2) (t := 0) (x := (σ a1 2)) d_X1_search_1 kX5 (by decide) fl_X1_59 o_a1.1 o_a1.2.1 o_a1.2.2.1 o_a1.2.2.2 rfl rfl ?_
  refine r_if_eq (tgt := 15) d_X1_search_4 rfl (fun hc => ?_) (fun hc => ?_)
  · have h := h.1 hc
    refine r_iconst (x := 0) d_X1_search_15 ⟨by decide, by decide⟩ ?_
    exact r_iret d_X1_search_16 rfl (by decide) (Nat.le_refl 0) (Nat.le_refl 0) ⟨_, rfl, rfl, rfl, h⟩
  · have h := h.2 hc
    refine r_aload_n (x := t) d_X1_search_7 rfl o_t.1 ?_
    refine r_aload_n (x := a1) d_X1_search_8 rfl o_a1.1 ?_
    refine r_callV (Y2 := mX1_takeAsked) (d := d - 1) (mc := 0) (ms := 0) (c := t) (As := [(2, a1)]) (S := []) d_X1_search_9 ok_mX1_takeAsked ml_X1_78 rfl (rmc h0d (by decide)) rm00 (Nat.le_of_ble_eq_true rfl) rfl kX1 o_t.1 o_t.2.1 o_t.2.2.1 o_t.2.2.2 (MC.mono h (fun r N1 Λ1 σ1 hq => ?_))
    obtain ⟨v2, rfl, rfl, rfl, h⟩ := hq
    refine r_if_ne (tgt := 17) d_X1_search_12 rfl (fun hc => ?_) (fun hc => ?_)
    · have h := h.1 hc
      refine r_iconst (x := 0) d_X1_search_17 ⟨by decide, by decide⟩ ?_
      refine r_istore_n (L2 := [(2, t), (2, a1), (0, 0)]) d_X1_search_18 (by decide) rfl rfl ?_
      exact h
    · have h := h.2 hc
      refine r_iconst (x := 0) d_X1_search_15 ⟨by decide, by decide⟩ ?_
      exact r_iret d_X1_search_16 rfl (by decide) (Nat.le_refl 0) (Nat.le_refl 0) ⟨_, rfl, rfl, rfl, h⟩
theorem v_X1_search_19 {l : Launch} {d N : Nat} {Λ : Lay} {P : Int → Mem → Prop} {σ : Mem} {x2 a1 t t_row : Int} (o_t : Ob N Λ t 11 6) (f_t_row : (Λ t).2.2 2 = t_row)
    (h : ((6 ≤ x2 → WI l mX1_search d P 40 [(2, t), (2, a1), (0, 0)] [] N Λ σ) ∧ (¬ (6 ≤ x2) → (Ix N Λ t_row 0 x2 ∧ (∀ τ1, τ1 = st σ t_row x2 x2 → (∀ y2, y2 = addI x2 1 → WI l mX1_search d P 19 [(2, t), (2, a1), (0, y2)] [] N Λ τ1)))))) :
    WI l mX1_search d P 19 [(2, t), (2, a1), (0, x2)] [] N Λ σ := by
  refine r_iload_n (x := x2) d_X1_search_19 rfl ?_
  refine r_bipush (x := 6) d_X1_search_20 ⟨by decide, by decide⟩ (by decide) ?_
  refine r_ic_ge (tgt := 38) d_X1_search_22 rfl (fun hc => ?_) (fun hc => ?_)
  · have h := h.1 hc
    refine r_iconst (x := 0) d_X1_search_38 ⟨by decide, by decide⟩ ?_
    refine r_istore_n (L2 := [(2, t), (2, a1), (0, 0)]) d_X1_search_39 (by decide) rfl rfl ?_
    exact h
  · have h := h.2 hc
    refine r_aload_n (x := t) d_X1_search_25 rfl o_t.1 ?_
    refine r_getf (j := 2) (t := 2) (x := t_row) d_X1_search_26 kX1 (by decide) fl_X1_19 o_t.1 o_t.2.1 o_t.2.2.1 o_t.2.2.2 rfl f_t_row ?_
    refine r_iload_n (x := x2) d_X1_search_29 rfl ?_
    refine r_iload_n (x := x2) d_X1_search_30 rfl ?_
    refine x_iast d_X1_search_31 h.1 ?_
    have h := h.2
    refine r_nmM (fun τ1 eτ1 => ?_)
    have h := h τ1 eτ1
    refine x_iinc (x := x2) (L := [(2, t), (2, a1), (0, x2)]) d_X1_search_32 rfl (by decide) rfl (fun y2 ey2 => ?_)
    have h := h y2 ey2
    show WP _ _ _ _ _ _ _ _ [(2, t), (2, a1), (0, y2)] _ _ _ _
    refine r_goto (tgt := 19) d_X1_search_35 rfl ?_
    exact h
theorem v_X1_search_40 {l : Launch} {d N : Nat} {Λ : Lay} {P : Int → Mem → Prop} {σ : Mem} {x2 a1 t : Int} (o_t : Ob N Λ t 11 6) (h0d : 1 ≤ d)
    (h : ((720 ≤ x2 → P 0 σ) ∧ (¬ (720 ≤ x2) → (CI l mX1_isMultiple (d - 1) [(2, t)] N Λ σ (fun v2 σ1 => ((v2 = 0 → (CV l mX1_nextRow (d - 1) [(2, t)] N Λ σ1 (fun σ3 => (∀ y4, y4 = addI x2 1 → WI l mX1_search d P 40 [(2, t), (2, a1), (0, y4)] [] N Λ σ3)))) ∧ (¬ (v2 = 0) → P 1 σ1))))))) :
    WI l mX1_search d P 40 [(2, t), (2, a1), (0, x2)] [] N Λ σ := by
  refine r_iload_n (x := x2) d_X1_search_40 rfl ?_
  refine r_sipush (x := 720) d_X1_search_41 ⟨by decide, by decide⟩ (by decide) ?_
  refine r_ic_ge (tgt := 66) d_X1_search_44 rfl (fun hc => ?_) (fun hc => ?_)
  · have h := h.1 hc
    refine r_iconst (x := 0) d_X1_search_66 ⟨by decide, by decide⟩ ?_
    exact r_iret d_X1_search_67 rfl (by decide) (Nat.le_refl 0) (Nat.le_refl 0) ⟨_, rfl, rfl, rfl, h⟩
  · have h := h.2 hc
    refine r_aload_n (x := t) d_X1_search_47 rfl o_t.1 ?_
    refine r_callV (Y2 := mX1_isMultiple) (d := d - 1) (mc := 0) (ms := 0) (c := t) (As := []) (S := []) d_X1_search_48 ok_mX1_isMultiple ml_X1_82 rfl (rmc h0d (by decide)) rm00 (Nat.le_of_ble_eq_true rfl) rfl kX1 o_t.1 o_t.2.1 o_t.2.2.1 o_t.2.2.2 (MC.mono h (fun r N1 Λ1 σ1 hq => ?_))
    obtain ⟨v2, rfl, rfl, rfl, h⟩ := hq
    refine r_if_eq (tgt := 56) d_X1_search_51 rfl (fun hc => ?_) (fun hc => ?_)
    · have h := h.1 hc
      refine r_aload_n (x := t) d_X1_search_56 rfl o_t.1 ?_
      refine r_callV (Y2 := mX1_nextRow) (d := d - 1) (mc := 0) (ms := 0) (c := t) (As := []) (S := []) d_X1_search_57 ok_mX1_nextRow ml_X1_86 rfl (rmc h0d (by decide)) rm00 (Nat.le_of_ble_eq_true rfl) rfl kX1 o_t.1 o_t.2.1 o_t.2.2.1 o_t.2.2.2 (MC.mono h (fun r N1 Λ1 σ3 hq => ?_))
      obtain ⟨rfl, rfl, rfl, h⟩ := hq
      refine x_iinc (x := x2) (L := [(2, t), (2, a1), (0, x2)]) d_X1_search_60 rfl (by decide) rfl (fun y4 ey4 => ?_)
      have h := h y4 ey4
      show WP _ _ _ _ _ _ _ _ [(2, t), (2, a1), (0, y4)] _ _ _ _
      refine r_goto (tgt := 40) d_X1_search_63 rfl ?_
      exact h
    · have h := h.2 hc
      refine r_iconst (x := 1) d_X1_search_54 ⟨by decide, by decide⟩ ?_
      exact r_iret d_X1_search_55 rfl (by decide) (Nat.le_refl 0) (Nat.le_refl 0) ⟨_, rfl, rfl, rfl, h⟩
theorem v_X1_takeAsked_0 {l : Launch} {d N : Nat} {Λ : Lay} {P : Int → Mem → Prop} {σ : Mem} {a1 t t_asked : Int} (o_t : Ob N Λ t 11 6) (f_t_asked : (Λ t).2.2 5 = t_asked) (h0d : 1 ≤ d)
    (h : (CV l mJ7_fill_53178 (d - 1) [(2, t_asked), (0, 0)] N Λ σ (fun σ1 => WI l mX1_takeAsked d P 10 [(2, t), (2, a1), (0, 0), (3, 0)] [] N Λ σ1))) :
    WI l mX1_takeAsked d P 0 [(2, t), (2, a1), (3, 0), (3, 0)] [] N Λ σ := by
  refine r_aload_n (x := t) d_X1_takeAsked_0 rfl o_t.1 ?_
  refine r_getf (j := 5) (t := 2) (x := t_asked) d_X1_takeAsked_1 kX1 (by decide) fl_X1_29 o_t.1 o_t.2.1 o_t.2.2.1 o_t.2.2.2 rfl f_t_asked ?_
  refine r_iconst (x := 0) d_X1_takeAsked_4 ⟨by decide, by decide⟩ ?_
  refine r_callS (Y2 := mJ7_fill_53178) (d := d - 1) (mc := 0) (ms := 0) (As := [(2, t_asked), (0, 0)]) (S := []) d_X1_takeAsked_5 ok_mJ7_fill_53178 ml_X1_89 rfl (rmc h0d (by decide)) rm00 (Nat.le_of_ble_eq_true rfl) rfl (MC.mono h (fun r N1 Λ1 σ1 hq => ?_))
  obtain ⟨rfl, rfl, rfl, h⟩ := hq
  refine r_iconst (x := 0) d_X1_takeAsked_8 ⟨by decide, by decide⟩ ?_
  refine r_istore_n (L2 := [(2, t), (2, a1), (0, 0), (3, 0)]) d_X1_takeAsked_9 (by decide) rfl rfl ?_
  exact h
theorem v_X1_takeAsked_10 {l : Launch} {d N : Nat} {Λ : Lay} {P : Int → Mem → Prop} {σ : Mem} {x2 a1 a1_keys a1_numbers t t_asked : Int} (o_a1 : Ob N Λ a1 15 3) (o_t : Ob N Λ t 11 6) (f_a1_keys : (Λ a1).2.2 0 = a1_keys) (f_t_asked : (Λ t).2.2 5 = t_asked) (f_a1_numbers : (Λ a1).2.2 1 = a1_numbers) (h0d : 1 ≤ d)
    (h : (((σ a1 2) ≤ x2 → P 1 σ) ∧ (¬ ((σ a1 2) ≤ x2) → (Ix N Λ a1_keys 1 x2 ∧ (CL l mX1_byPlaces (d - 1) [(2, t), (1, (σ a1_keys x2))] N Λ σ (fun v2 σ1 => (CI l mX1_formOf (d - 1) [(2, t), (1, v2)] N Λ σ1 (fun v4 σ3 => ((¬ v4 = (-1) → (Ix N Λ a1_numbers 0 x2 ∧ (Ix N Λ t_asked 0 v4 ∧ (∀ τ5, τ5 = st σ3 t_asked v4 (σ3 a1_numbers x2) → (∀ y6, y6 = addI x2 1 → WI l mX1_takeAsked d P 10 [(2, t), (2, a1), (0, y6), (3, 0)] [] N Λ τ5))))) ∧ (v4 = (-1) → P 0 σ3)))))))))) :
    WI l mX1_takeAsked d P 10 [(2, t), (2, a1), (0, x2), (3, 0)] [] N Λ σ := by
  refine r_iload_n (x := x2) d_X1_takeAsked_10 rfl ?_
  refine r_aload_n (x := a1) d_X1_takeAsked_11 rfl o_a1.1 ?_
  refine r_getf (j := 2) (t := 0) (x := (σ a1 2)) d_X1_takeAsked_12 kX5 (by decide) fl_X1_59 o_a1.1 o_a1.2.1 o_a1.2.2.1 o_a1.2.2.2 rfl rfl ?_
  refine r_ic_ge (tgt := 58) d_X1_takeAsked_15 rfl (fun hc => ?_) (fun hc => ?_)
  · have h := h.1 hc
    refine r_iconst (x := 1) d_X1_takeAsked_58 ⟨by decide, by decide⟩ ?_
    exact r_iret d_X1_takeAsked_59 rfl (by decide) (Nat.le_refl 0) (Nat.le_refl 0) ⟨_, rfl, rfl, rfl, h⟩
  · have h := h.2 hc
    refine r_aload_n (x := t) d_X1_takeAsked_18 rfl o_t.1 ?_
    refine r_aload_n (x := t) d_X1_takeAsked_19 rfl o_t.1 ?_
    refine r_aload_n (x := a1) d_X1_takeAsked_20 rfl o_a1.1 ?_
    refine r_getf (j := 0) (t := 2) (x := a1_keys) d_X1_takeAsked_21 kX5 (by decide) fl_X1_62 o_a1.1 o_a1.2.1 o_a1.2.2.1 o_a1.2.2.2 rfl f_a1_keys ?_
    refine r_iload_n (x := x2) d_X1_takeAsked_24 rfl ?_
    refine x_lald d_X1_takeAsked_25 h.1 ?_
    have h := h.2
    refine r_callV (Y2 := mX1_byPlaces) (d := d - 1) (mc := 0) (ms := 0) (c := t) (As := [(1, (σ a1_keys x2))]) (S := [(2, t)]) d_X1_takeAsked_26 ok_mX1_byPlaces ml_X1_95 rfl (rmc h0d (by decide)) rm00 (Nat.le_of_ble_eq_true rfl) rfl kX1 o_t.1 o_t.2.1 o_t.2.2.1 o_t.2.2.2 (MC.mono h (fun r N1 Λ1 σ1 hq => ?_))
    obtain ⟨v2, rfl, rfl, rfl, h⟩ := hq
    refine r_callV (Y2 := mX1_formOf) (d := d - 1) (mc := 0) (ms := 0) (c := t) (As := [(1, v2)]) (S := []) d_X1_takeAsked_29 ok_mX1_formOf ml_X1_65 rfl (rmc h0d (by decide)) rm00 (Nat.le_of_ble_eq_true rfl) rfl kX1 o_t.1 o_t.2.1 o_t.2.2.1 o_t.2.2.2 (MC.mono h (fun r N1 Λ1 σ3 hq => ?_))
    obtain ⟨v4, rfl, rfl, rfl, h⟩ := hq
    refine r_istore_n (L2 := [(2, t), (2, a1), (0, x2), (0, v4)]) d_X1_takeAsked_32 (by decide) rfl rfl ?_
    refine r_iload_n (x := v4) d_X1_takeAsked_33 rfl ?_
    refine r_iconst (x := (-1)) d_X1_takeAsked_34 ⟨by decide, by decide⟩ ?_
    refine r_ic_ne (tgt := 40) d_X1_takeAsked_35 rfl (fun hc => ?_) (fun hc => ?_)
    · have h := h.1 hc
      refine r_aload_n (x := t) d_X1_takeAsked_40 rfl o_t.1 ?_
      refine r_getf (j := 5) (t := 2) (x := t_asked) d_X1_takeAsked_41 kX1 (by decide) fl_X1_29 o_t.1 o_t.2.1 o_t.2.2.1 o_t.2.2.2 rfl f_t_asked ?_
      refine r_iload_n (x := v4) d_X1_takeAsked_44 rfl ?_
      refine r_aload_n (x := a1) d_X1_takeAsked_45 rfl o_a1.1 ?_
      refine r_getf (j := 1) (t := 2) (x := a1_numbers) d_X1_takeAsked_46 kX5 (by decide) fl_X1_68 o_a1.1 o_a1.2.1 o_a1.2.2.1 o_a1.2.2.2 rfl f_a1_numbers ?_
      refine r_iload_n (x := x2) d_X1_takeAsked_49 rfl ?_
      refine x_iald d_X1_takeAsked_50 h.1 ?_
      have h := h.2
      refine x_iast d_X1_takeAsked_51 h.1 ?_
      have h := h.2
      refine r_nmM (fun τ5 eτ5 => ?_)
      have h := h τ5 eτ5
      refine x_iinc (x := x2) (L := [(2, t), (2, a1), (0, x2), (0, v4)]) d_X1_takeAsked_52 rfl (by decide) rfl (fun y6 ey6 => ?_)
      have h := h y6 ey6
      show WP _ _ _ _ _ _ _ _ [(2, t), (2, a1), (0, y6), (0, v4)] _ _ _ _
      refine r_goto (tgt := 10) d_X1_takeAsked_55 rfl ?_
      exact x_mask h ⟨Or.inr rfl, Or.inr rfl, Or.inr rfl, Or.inl rfl, trivial⟩
    · have h := h.2 hc
      refine r_iconst (x := 0) d_X1_takeAsked_38 ⟨by decide, by decide⟩ ?_
      exact r_iret d_X1_takeAsked_39 rfl (by decide) (Nat.le_refl 0) (Nat.le_refl 0) ⟨_, rfl, rfl, rfl, h⟩
theorem v_X1_byPlaces_0 {l : Launch} {d N : Nat} {Λ : Lay} {P : Int → Mem → Prop} {σ : Mem} {x1 t : Int} (h0d : 1 ≤ d)
    (h : (CI l mX6_bracketsIn (d - 1) [(1, x1)] N Λ σ (fun v2 σ1 => ((v2 = 2 → WL l mX1_byPlaces d P 15 [(2, t), (1, x1), (3, 0), (1, 0), (3, 0), (0, 0), (3, 0), (3, 0), (3, 0)] [] N Λ σ1) ∧ (¬ (v2 = 2) → P 0 σ1))))) :
    WL l mX1_byPlaces d P 0 [(2, t), (1, x1), (3, 0), (3, 0), (3, 0), (3, 0), (3, 0), (3, 0), (3, 0)] [] N Λ σ := by
  refine r_lload_n (x := x1) d_X1_byPlaces_0 rfl ?_
  refine r_callS (Y2 := mX6_bracketsIn) (d := d - 1) (mc := 0) (ms := 0) (As := [(1, x1)]) (S := []) d_X1_byPlaces_1 ok_mX6_bracketsIn ml_X1_71 rfl (rmc h0d (by decide)) rm00 (Nat.le_of_ble_eq_true rfl) rfl (MC.mono h (fun r N1 Λ1 σ1 hq => ?_))
  obtain ⟨v2, rfl, rfl, rfl, h⟩ := hq
  refine r_iconst (x := 2) d_X1_byPlaces_4 ⟨by decide, by decide⟩ ?_
  refine r_ic_eq (tgt := 10) d_X1_byPlaces_5 rfl (fun hc => ?_) (fun hc => ?_)
  · have h := h.1 hc
    refine r_lconst d_X1_byPlaces_10 ?_
    skip
    refine r_lstore_n (L2 := [(2, t), (1, x1), (3, 0), (1, 0), (3, 0), (3, 0), (3, 0), (3, 0), (3, 0)]) d_X1_byPlaces_11 (by decide) rfl rfl ?_
    refine r_iconst (x := 0) d_X1_byPlaces_12 ⟨by decide, by decide⟩ ?_
    refine r_istore (L2 := [(2, t), (1, x1), (3, 0), (1, 0), (3, 0), (0, 0), (3, 0), (3, 0), (3, 0)]) d_X1_byPlaces_13 (by decide) rfl rfl ?_
    exact h
  · have h := h.2 hc
    refine r_lconst d_X1_byPlaces_8 ?_
    skip
    exact r_lret d_X1_byPlaces_9 rfl (Nat.le_refl 0) (Nat.le_refl 0) ⟨_, rfl, rfl, rfl, h⟩
theorem v_X1_byPlaces_15 {l : Launch} {d N : Nat} {Λ : Lay} {P : Int → Mem → Prop} {σ : Mem} {x1 x3 x5 t : Int}
    (h : ((2 ≤ x5 → P x3 σ) ∧ (¬ (2 ≤ x5) → WL l mX1_byPlaces d P 27 [(2, t), (1, x1), (3, 0), (1, x3), (3, 0), (0, x5), (0, 0), (0, 0), (3, 0)] [] N Λ σ))) :
    WL l mX1_byPlaces d P 15 [(2, t), (1, x1), (3, 0), (1, x3), (3, 0), (0, x5), (3, 0), (3, 0), (3, 0)] [] N Λ σ := by
  refine r_iload (x := x5) d_X1_byPlaces_15 rfl ?_
  refine r_iconst (x := 2) d_X1_byPlaces_17 ⟨by decide, by decide⟩ ?_
  refine r_ic_ge (tgt := 86) d_X1_byPlaces_18 rfl (fun hc => ?_) (fun hc => ?_)
  · have h := h.1 hc
    refine r_lload_n (x := x3) d_X1_byPlaces_86 rfl ?_
    exact r_lret d_X1_byPlaces_87 rfl (Nat.le_refl 0) (Nat.le_refl 0) ⟨_, rfl, rfl, rfl, h⟩
  · have h := h.2 hc
    refine r_iconst (x := 0) d_X1_byPlaces_21 ⟨by decide, by decide⟩ ?_
    refine r_istore (L2 := [(2, t), (1, x1), (3, 0), (1, x3), (3, 0), (0, x5), (0, 0), (3, 0), (3, 0)]) d_X1_byPlaces_22 (by decide) rfl rfl ?_
    refine r_iconst (x := 0) d_X1_byPlaces_24 ⟨by decide, by decide⟩ ?_
    refine r_istore (L2 := [(2, t), (1, x1), (3, 0), (1, x3), (3, 0), (0, x5), (0, 0), (0, 0), (3, 0)]) d_X1_byPlaces_25 (by decide) rfl rfl ?_
    exact h
theorem v_X1_byPlaces_27 {l : Launch} {d N : Nat} {Λ : Lay} {P : Int → Mem → Prop} {σ : Mem} {x1 x3 x5 x6 x7 t : Int} (o_t : Ob N Λ t 11 6) (h0d : 1 ≤ d)
    (h : ((3 ≤ x7 → (CL l mX6_with (d - 1) [(1, x3), (0, x6)] N Λ σ (fun v2 σ1 => (∀ y3, y3 = addI x5 1 → WL l mX1_byPlaces d P 15 [(2, t), (1, x1), (3, 0), (1, v2), (3, 0), (0, y3), (3, 0), (3, 0), (3, 0)] [] N Λ σ1)))) ∧ (¬ (3 ≤ x7) → (CI l mX6_letterOfKey (d - 1) [(1, x1), (0, (addI (mulI 3 x5) x7))] N Λ σ (fun v5 σ4 => (CI l mX1_placeOf (d - 1) [(2, t), (0, v5)] N Λ σ4 (fun v7 σ6 => ((¬ v7 = (-1) → (∀ y8, y8 = (orI (shlI x6 4) v7) → (∀ y9, y9 = addI x7 1 → WL l mX1_byPlaces d P 27 [(2, t), (1, x1), (3, 0), (1, x3), (3, 0), (0, x5), (0, y8), (0, y9), (3, 0)] [] N Λ σ6))) ∧ (v7 = (-1) → P 0 σ6))))))))) :
    WL l mX1_byPlaces d P 27 [(2, t), (1, x1), (3, 0), (1, x3), (3, 0), (0, x5), (0, x6), (0, x7), (3, 0)] [] N Λ σ := by
  refine r_iload (x := x7) d_X1_byPlaces_27 rfl ?_
  refine r_iconst (x := 3) d_X1_byPlaces_29 ⟨by decide, by decide⟩ ?_
  refine r_ic_ge (tgt := 73) d_X1_byPlaces_30 rfl (fun hc => ?_) (fun hc => ?_)
  · have h := h.1 hc
    refine r_lload_n (x := x3) d_X1_byPlaces_73 rfl ?_
    refine r_iload (x := x6) d_X1_byPlaces_74 rfl ?_
    refine r_callS (Y2 := mX6_with) (d := d - 1) (mc := 0) (ms := 0) (As := [(1, x3), (0, x6)]) (S := []) d_X1_byPlaces_76 ok_mX6_with ml_X1_106 rfl (rmc h0d (by decide)) rm00 (Nat.le_of_ble_eq_true rfl) rfl (MC.mono h (fun r N1 Λ1 σ1 hq => ?_))
    obtain ⟨v2, rfl, rfl, rfl, h⟩ := hq
    refine r_lstore_n (L2 := [(2, t), (1, x1), (3, 0), (1, v2), (3, 0), (0, x5), (0, x6), (0, x7), (3, 0)]) d_X1_byPlaces_79 (by decide) rfl rfl ?_
    refine x_iinc (x := x5) (L := [(2, t), (1, x1), (3, 0), (1, v2), (3, 0), (0, x5), (0, x6), (0, x7), (3, 0)]) d_X1_byPlaces_80 rfl (by decide) rfl (fun y3 ey3 => ?_)
    have h := h y3 ey3
    show WP _ _ _ _ _ _ _ _ [(2, t), (1, x1), (3, 0), (1, v2), (3, 0), (0, y3), (0, x6), (0, x7), (3, 0)] _ _ _ _
    refine r_goto (tgt := 15) d_X1_byPlaces_83 rfl ?_
    exact x_mask h ⟨Or.inr rfl, Or.inr rfl, Or.inl rfl, Or.inr rfl, Or.inl rfl, Or.inr rfl, Or.inl rfl, Or.inl rfl, Or.inl rfl, trivial⟩
  · have h := h.2 hc
    refine r_aload_n (x := t) d_X1_byPlaces_33 rfl o_t.1 ?_
    refine r_lload_n (x := x1) d_X1_byPlaces_34 rfl ?_
    refine r_iconst (x := 3) d_X1_byPlaces_35 ⟨by decide, by decide⟩ ?_
    refine r_iload (x := x5) d_X1_byPlaces_36 rfl ?_
    refine r_imul d_X1_byPlaces_38 ?_
    refine r_iload (x := x7) d_X1_byPlaces_39 rfl ?_
    refine r_iadd d_X1_byPlaces_41 ?_
    refine r_callS (Y2 := mX6_letterOfKey) (d := d - 1) (mc := 0) (ms := 0) (As := [(1, x1), (0, (addI (mulI 3 x5) x7))]) (S := [(2, t)]) d_X1_byPlaces_42 ok_mX6_letterOfKey ml_X1_99 rfl (rmc h0d (by decide)) rm00 (Nat.le_of_ble_eq_true rfl) rfl (MC.mono h (fun r N1 Λ1 σ4 hq => ?_))
    obtain ⟨v5, rfl, rfl, rfl, h⟩ := hq
    refine r_callV (Y2 := mX1_placeOf) (d := d - 1) (mc := 0) (ms := 0) (c := t) (As := [(0, v5)]) (S := []) d_X1_byPlaces_45 ok_mX1_placeOf ml_X1_102 rfl (rmc h0d (by decide)) rm00 (Nat.le_of_ble_eq_true rfl) rfl kX1 o_t.1 o_t.2.1 o_t.2.2.1 o_t.2.2.2 (MC.mono h (fun r N1 Λ1 σ6 hq => ?_))
    obtain ⟨v7, rfl, rfl, rfl, h⟩ := hq
    refine r_istore (L2 := [(2, t), (1, x1), (3, 0), (1, x3), (3, 0), (0, x5), (0, x6), (0, x7), (0, v7)]) d_X1_byPlaces_48 (by decide) rfl rfl ?_
    refine r_iload (x := v7) d_X1_byPlaces_50 rfl ?_
    refine r_iconst (x := (-1)) d_X1_byPlaces_52 ⟨by decide, by decide⟩ ?_
    refine r_ic_ne (tgt := 58) d_X1_byPlaces_53 rfl (fun hc => ?_) (fun hc => ?_)
    · have h := h.1 hc
      refine r_iload (x := x6) d_X1_byPlaces_58 rfl ?_
      refine r_iconst (x := 4) d_X1_byPlaces_60 ⟨by decide, by decide⟩ ?_
      refine r_ishl d_X1_byPlaces_61 ?_
      refine r_iload (x := v7) d_X1_byPlaces_62 rfl ?_
      refine r_ior d_X1_byPlaces_64 ?_
      refine r_nm (fun y8 ey8 => ?_)
      have h := h y8 ey8
      refine r_istore (L2 := [(2, t), (1, x1), (3, 0), (1, x3), (3, 0), (0, x5), (0, y8), (0, x7), (0, v7)]) d_X1_byPlaces_65 (by decide) rfl rfl ?_
      refine x_iinc (x := x7) (L := [(2, t), (1, x1), (3, 0), (1, x3), (3, 0), (0, x5), (0, y8), (0, x7), (0, v7)]) d_X1_byPlaces_67 rfl (by decide) rfl (fun y9 ey9 => ?_)
      have h := h y9 ey9
      show WP _ _ _ _ _ _ _ _ [(2, t), (1, x1), (3, 0), (1, x3), (3, 0), (0, x5), (0, y8), (0, y9), (0, v7)] _ _ _ _
      refine r_goto (tgt := 27) d_X1_byPlaces_70 rfl ?_
      exact x_mask h ⟨Or.inr rfl, Or.inr rfl, Or.inl rfl, Or.inr rfl, Or.inl rfl, Or.inr rfl, Or.inr rfl, Or.inr rfl, Or.inl rfl, trivial⟩
    · have h := h.2 hc
      refine r_lconst d_X1_byPlaces_56 ?_
      skip
      exact r_lret d_X1_byPlaces_57 rfl (Nat.le_refl 0) (Nat.le_refl 0) ⟨_, rfl, rfl, rfl, h⟩
theorem v_X1_placeOf_0 {l : Launch} {d N : Nat} {Λ : Lay} {P : Int → Mem → Prop} {σ : Mem} {x1 t : Int}
    (h : WI l mX1_placeOf d P 2 [(2, t), (0, x1), (0, 0)] [] N Λ σ) :
    WI l mX1_placeOf d P 0 [(2, t), (0, x1), (3, 0)] [] N Λ σ := by
  refine r_iconst (x := 0) d_X1_placeOf_0 ⟨by decide, by decide⟩ ?_
  refine r_istore_n (L2 := [(2, t), (0, x1), (0, 0)]) d_X1_placeOf_1 (by decide) rfl rfl ?_
  exact h
theorem v_X1_placeOf_2 {l : Launch} {d N : Nat} {Λ : Lay} {P : Int → Mem → Prop} {σ : Mem} {x1 x2 t t_letters : Int} (o_t : Ob N Λ t 11 6) (f_t_letters : (Λ t).2.2 1 = t_letters)
    (h : ((6 ≤ x2 → P (-1) σ) ∧ (¬ (6 ≤ x2) → (Ix N Λ t_letters 0 x2 ∧ ((¬ (σ t_letters x2) = x1 → (∀ y1, y1 = addI x2 1 → WI l mX1_placeOf d P 2 [(2, t), (0, x1), (0, y1)] [] N Λ σ)) ∧ ((σ t_letters x2) = x1 → P x2 σ)))))) :
    WI l mX1_placeOf d P 2 [(2, t), (0, x1), (0, x2)] [] N Λ σ := by
  refine r_iload_n (x := x2) d_X1_placeOf_2 rfl ?_
  refine r_bipush (x := 6) d_X1_placeOf_3 ⟨by decide, by decide⟩ (by decide) ?_
  refine r_ic_ge (tgt := 26) d_X1_placeOf_5 rfl (fun hc => ?_) (fun hc => ?_)
  · have h := h.1 hc
    refine r_iconst (x := (-1)) d_X1_placeOf_26 ⟨by decide, by decide⟩ ?_
    exact r_iret d_X1_placeOf_27 rfl rfl (Nat.le_refl 0) (Nat.le_refl 0) ⟨_, rfl, rfl, rfl, h⟩
  · have h := h.2 hc
    refine r_aload_n (x := t) d_X1_placeOf_8 rfl o_t.1 ?_
    refine r_getf (j := 1) (t := 2) (x := t_letters) d_X1_placeOf_9 kX1 (by decide) fl_X1_15 o_t.1 o_t.2.1 o_t.2.2.1 o_t.2.2.2 rfl f_t_letters ?_
    refine r_iload_n (x := x2) d_X1_placeOf_12 rfl ?_
    refine x_iald d_X1_placeOf_13 h.1 ?_
    have h := h.2
    refine r_iload_n (x := x1) d_X1_placeOf_14 rfl ?_
    refine r_ic_ne (tgt := 20) d_X1_placeOf_15 rfl (fun hc => ?_) (fun hc => ?_)
    · have h := h.1 hc
      refine x_iinc (x := x2) (L := [(2, t), (0, x1), (0, x2)]) d_X1_placeOf_20 rfl (by decide) rfl (fun y1 ey1 => ?_)
      have h := h y1 ey1
      show WP _ _ _ _ _ _ _ _ [(2, t), (0, x1), (0, y1)] _ _ _ _
      refine r_goto (tgt := 2) d_X1_placeOf_23 rfl ?_
      exact h
    · have h := h.2 hc
      refine r_iload_n (x := x2) d_X1_placeOf_18 rfl ?_
      exact r_iret d_X1_placeOf_19 rfl rfl (Nat.le_refl 0) (Nat.le_refl 0) ⟨_, rfl, rfl, rfl, h⟩
theorem v_X1_formOf_0 {l : Launch} {d N : Nat} {Λ : Lay} {P : Int → Mem → Prop} {σ : Mem} {x1 t : Int}
    (h : WI l mX1_formOf d P 2 [(2, t), (1, x1), (3, 0), (0, 0)] [] N Λ σ) :
    WI l mX1_formOf d P 0 [(2, t), (1, x1), (3, 0), (3, 0)] [] N Λ σ := by
  refine r_iconst (x := 0) d_X1_formOf_0 ⟨by decide, by decide⟩ ?_
  refine r_istore_n (L2 := [(2, t), (1, x1), (3, 0), (0, 0)]) d_X1_formOf_1 (by decide) rfl rfl ?_
  exact h
theorem v_X1_formOf_2 {l : Launch} {d N : Nat} {Λ : Lay} {P : Int → Mem → Prop} {σ : Mem} {x1 x3 t t_forms : Int} (o_t : Ob N Λ t 11 6) (f_t_forms : (Λ t).2.2 3 = t_forms)
    (h : ((5 ≤ x3 → P (-1) σ) ∧ (¬ (5 ≤ x3) → (Ix N Λ t_forms 1 x3 ∧ ((¬ (cmpL (σ t_forms x3) x1) = 0 → (∀ y1, y1 = addI x3 1 → WI l mX1_formOf d P 2 [(2, t), (1, x1), (3, 0), (0, y1)] [] N Λ σ)) ∧ ((cmpL (σ t_forms x3) x1) = 0 → P x3 σ)))))) :
    WI l mX1_formOf d P 2 [(2, t), (1, x1), (3, 0), (0, x3)] [] N Λ σ := by
  refine r_iload_n (x := x3) d_X1_formOf_2 rfl ?_
  refine r_iconst (x := 5) d_X1_formOf_3 ⟨by decide, by decide⟩ ?_
  refine r_ic_ge (tgt := 26) d_X1_formOf_4 rfl (fun hc => ?_) (fun hc => ?_)
  · have h := h.1 hc
    refine r_iconst (x := (-1)) d_X1_formOf_26 ⟨by decide, by decide⟩ ?_
    exact r_iret d_X1_formOf_27 rfl rfl (Nat.le_refl 0) (Nat.le_refl 0) ⟨_, rfl, rfl, rfl, h⟩
  · have h := h.2 hc
    refine r_aload_n (x := t) d_X1_formOf_7 rfl o_t.1 ?_
    refine r_getf (j := 3) (t := 2) (x := t_forms) d_X1_formOf_8 kX1 (by decide) fl_X1_22 o_t.1 o_t.2.1 o_t.2.2.1 o_t.2.2.2 rfl f_t_forms ?_
    refine r_iload_n (x := x3) d_X1_formOf_11 rfl ?_
    refine x_lald d_X1_formOf_12 h.1 ?_
    have h := h.2
    refine r_lload_n (x := x1) d_X1_formOf_13 rfl ?_
    refine r_lcmp d_X1_formOf_14 ?_
    refine r_if_ne (tgt := 20) d_X1_formOf_15 rfl (fun hc => ?_) (fun hc => ?_)
    · have h := h.1 hc
      refine x_iinc (x := x3) (L := [(2, t), (1, x1), (3, 0), (0, x3)]) d_X1_formOf_20 rfl (by decide) rfl (fun y1 ey1 => ?_)
      have h := h y1 ey1
      show WP _ _ _ _ _ _ _ _ [(2, t), (1, x1), (3, 0), (0, y1)] _ _ _ _
      refine r_goto (tgt := 2) d_X1_formOf_23 rfl ?_
      exact h
    · have h := h.2 hc
      refine r_iload_n (x := x3) d_X1_formOf_18 rfl ?_
      exact r_iret d_X1_formOf_19 rfl rfl (Nat.le_refl 0) (Nat.le_refl 0) ⟨_, rfl, rfl, rfl, h⟩
theorem v_X1_keyOf_0 {l : Launch} {d N : Nat} {Λ : Lay} {P : Int → Mem → Prop} {σ : Mem} {x0 : Int} (h0d : 1 ≤ d)
    (h : (CI l mJ6_bitCount_0f7a4 (d - 1) [(0, x0)] N Λ σ (fun v2 σ1 => ((v2 = 2 → WL l mX1_keyOf d P 16 [(0, x0), (0, 0), (0, 0), (0, 0)] [] N Λ σ1) ∧ (¬ (v2 = 2) → P 0 σ1))))) :
    WL l mX1_keyOf d P 0 [(0, x0), (3, 0), (3, 0), (3, 0)] [] N Λ σ := by
  refine r_iload_n (x := x0) d_X1_keyOf_0 rfl ?_
  refine r_callS (Y2 := mJ6_bitCount_0f7a4) (d := d - 1) (mc := 0) (ms := 0) (As := [(0, x0)]) (S := []) d_X1_keyOf_1 ok_mJ6_bitCount_0f7a4 ml_X1_110 rfl (rmc h0d (by decide)) rm00 (Nat.le_of_ble_eq_true rfl) rfl (MC.mono h (fun r N1 Λ1 σ1 hq => ?_))
  obtain ⟨v2, rfl, rfl, rfl, h⟩ := hq
  refine r_iconst (x := 2) d_X1_keyOf_4 ⟨by decide, by decide⟩ ?_
  refine r_ic_eq (tgt := 10) d_X1_keyOf_5 rfl (fun hc => ?_) (fun hc => ?_)
  · have h := h.1 hc
    refine r_iconst (x := 0) d_X1_keyOf_10 ⟨by decide, by decide⟩ ?_
    refine r_istore_n (L2 := [(0, x0), (0, 0), (3, 0), (3, 0)]) d_X1_keyOf_11 (by decide) rfl rfl ?_
    refine r_iconst (x := 0) d_X1_keyOf_12 ⟨by decide, by decide⟩ ?_
    refine r_istore_n (L2 := [(0, x0), (0, 0), (0, 0), (3, 0)]) d_X1_keyOf_13 (by decide) rfl rfl ?_
    refine r_iconst (x := 0) d_X1_keyOf_14 ⟨by decide, by decide⟩ ?_
    refine r_istore_n (L2 := [(0, x0), (0, 0), (0, 0), (0, 0)]) d_X1_keyOf_15 (by decide) rfl rfl ?_
    exact h
  · have h := h.2 hc
    refine r_lconst d_X1_keyOf_8 ?_
    skip
    exact r_lret d_X1_keyOf_9 rfl (Nat.le_refl 0) (Nat.le_refl 0) ⟨_, rfl, rfl, rfl, h⟩
theorem v_X1_keyOf_16 {l : Launch} {d N : Nat} {Λ : Lay} {P : Int → Mem → Prop} {σ : Mem} {x0 x1 x2 x3 : Int} (h0d : 1 ≤ d)
    (h : ((6 ≤ x3 → (CL l mX6_with (d - 1) [(1, 0), (0, x1)] N Λ σ (fun v2 σ1 => (CL l mX6_with (d - 1) [(1, v2), (0, x2)] N Λ σ1 (fun v4 σ3 => P v4 σ3))))) ∧ (¬ (6 ≤ x3) → ((x3 = 0 → (∀ y5, y5 = (orI (shlI x1 4) x3) → (∀ y6, y6 = addI x3 1 → WL l mX1_keyOf d P 16 [(0, x0), (0, y5), (0, x2), (0, y6)] [] N Λ σ))) ∧ (¬ (x3 = 0) → ((¬ (andI (shrI x0 (subI x3 1)) 1) = 1 → (∀ y7, y7 = (orI (shlI x2 4) x3) → (∀ y8, y8 = addI x3 1 → WL l mX1_keyOf d P 16 [(0, x0), (0, x1), (0, y7), (0, y8)] [] N Λ σ))) ∧ ((andI (shrI x0 (subI x3 1)) 1) = 1 → (∀ y9, y9 = (orI (shlI x1 4) x3) → (∀ y10, y10 = addI x3 1 → WL l mX1_keyOf d P 16 [(0, x0), (0, y9), (0, x2), (0, y10)] [] N Λ σ))))))))) :
    WL l mX1_keyOf d P 16 [(0, x0), (0, x1), (0, x2), (0, x3)] [] N Λ σ := by
  refine r_iload_n (x := x3) d_X1_keyOf_16 rfl ?_
  refine r_bipush (x := 6) d_X1_keyOf_17 ⟨by decide, by decide⟩ (by decide) ?_
  refine r_ic_ge (tgt := 58) d_X1_keyOf_19 rfl (fun hc => ?_) (fun hc => ?_)
  · have h := h.1 hc
    refine r_lconst d_X1_keyOf_58 ?_
    skip
    refine r_iload_n (x := x1) d_X1_keyOf_59 rfl ?_
    refine r_callS (Y2 := mX6_with) (d := d - 1) (mc := 0) (ms := 0) (As := [(1, 0), (0, x1)]) (S := []) d_X1_keyOf_60 ok_mX6_with ml_X1_106 rfl (rmc h0d (by decide)) rm00 (Nat.le_of_ble_eq_true rfl) rfl (MC.mono h (fun r N1 Λ1 σ1 hq => ?_))
    obtain ⟨v2, rfl, rfl, rfl, h⟩ := hq
    refine r_iload_n (x := x2) d_X1_keyOf_63 rfl ?_
    refine r_callS (Y2 := mX6_with) (d := d - 1) (mc := 0) (ms := 0) (As := [(1, v2), (0, x2)]) (S := []) d_X1_keyOf_64 ok_mX6_with ml_X1_106 rfl (rmc h0d (by decide)) rm00 (Nat.le_of_ble_eq_true rfl) rfl (MC.mono h (fun r N1 Λ1 σ3 hq => ?_))
    obtain ⟨v4, rfl, rfl, rfl, h⟩ := hq
    exact r_lret d_X1_keyOf_67 rfl (Nat.le_refl 0) (Nat.le_refl 0) ⟨_, rfl, rfl, rfl, h⟩
  · have h := h.2 hc
    refine r_iload_n (x := x3) d_X1_keyOf_22 rfl ?_
    refine r_if_eq (tgt := 37) d_X1_keyOf_23 rfl (fun hc => ?_) (fun hc => ?_)
    · have h := h.1 hc
      refine r_iload_n (x := x1) d_X1_keyOf_37 rfl ?_
      refine r_iconst (x := 4) d_X1_keyOf_38 ⟨by decide, by decide⟩ ?_
      refine r_ishl d_X1_keyOf_39 ?_
      refine r_iload_n (x := x3) d_X1_keyOf_40 rfl ?_
      refine r_ior d_X1_keyOf_41 ?_
      refine r_nm (fun y5 ey5 => ?_)
      have h := h y5 ey5
      refine r_istore_n (L2 := [(0, x0), (0, y5), (0, x2), (0, x3)]) d_X1_keyOf_42 (by decide) rfl rfl ?_
      refine r_goto (tgt := 52) d_X1_keyOf_43 rfl ?_
      refine x_iinc (x := x3) (L := [(0, x0), (0, y5), (0, x2), (0, x3)]) d_X1_keyOf_52 rfl (by decide) rfl (fun y6 ey6 => ?_)
      have h := h y6 ey6
      show WP _ _ _ _ _ _ _ _ [(0, x0), (0, y5), (0, x2), (0, y6)] _ _ _ _
      refine r_goto (tgt := 16) d_X1_keyOf_55 rfl ?_
      exact h
    · have h := h.2 hc
      refine r_iload_n (x := x0) d_X1_keyOf_26 rfl ?_
      refine r_iload_n (x := x3) d_X1_keyOf_27 rfl ?_
      refine r_iconst (x := 1) d_X1_keyOf_28 ⟨by decide, by decide⟩ ?_
      refine r_isub d_X1_keyOf_29 ?_
      refine r_ishr d_X1_keyOf_30 ?_
      refine r_iconst (x := 1) d_X1_keyOf_31 ⟨by decide, by decide⟩ ?_
      refine r_iand d_X1_keyOf_32 ?_
      refine r_iconst (x := 1) d_X1_keyOf_33 ⟨by decide, by decide⟩ ?_
      refine r_ic_ne (tgt := 46) d_X1_keyOf_34 rfl (fun hc => ?_) (fun hc => ?_)
      · have h := h.1 hc
        refine r_iload_n (x := x2) d_X1_keyOf_46 rfl ?_
        refine r_iconst (x := 4) d_X1_keyOf_47 ⟨by decide, by decide⟩ ?_
        refine r_ishl d_X1_keyOf_48 ?_
        refine r_iload_n (x := x3) d_X1_keyOf_49 rfl ?_
        refine r_ior d_X1_keyOf_50 ?_
        refine r_nm (fun y7 ey7 => ?_)
        have h := h y7 ey7
        refine r_istore_n (L2 := [(0, x0), (0, x1), (0, y7), (0, x3)]) d_X1_keyOf_51 (by decide) rfl rfl ?_
        refine x_iinc (x := x3) (L := [(0, x0), (0, x1), (0, y7), (0, x3)]) d_X1_keyOf_52 rfl (by decide) rfl (fun y8 ey8 => ?_)
        have h := h y8 ey8
        show WP _ _ _ _ _ _ _ _ [(0, x0), (0, x1), (0, y7), (0, y8)] _ _ _ _
        refine r_goto (tgt := 16) d_X1_keyOf_55 rfl ?_
        exact h
      · have h := h.2 hc
        refine r_iload_n (x := x1) d_X1_keyOf_37 rfl ?_
        refine r_iconst (x := 4) d_X1_keyOf_38 ⟨by decide, by decide⟩ ?_
        refine r_ishl d_X1_keyOf_39 ?_
        refine r_iload_n (x := x3) d_X1_keyOf_40 rfl ?_
        refine r_ior d_X1_keyOf_41 ?_
        refine r_nm (fun y9 ey9 => ?_)
        have h := h y9 ey9
        refine r_istore_n (L2 := [(0, x0), (0, y9), (0, x2), (0, x3)]) d_X1_keyOf_42 (by decide) rfl rfl ?_
        refine r_goto (tgt := 52) d_X1_keyOf_43 rfl ?_
        refine x_iinc (x := x3) (L := [(0, x0), (0, y9), (0, x2), (0, x3)]) d_X1_keyOf_52 rfl (by decide) rfl (fun y10 ey10 => ?_)
        have h := h y10 ey10
        show WP _ _ _ _ _ _ _ _ [(0, x0), (0, y9), (0, x2), (0, y10)] _ _ _ _
        refine r_goto (tgt := 16) d_X1_keyOf_55 rfl ?_
        exact h
theorem v_X1_isMultiple_0 {l : Launch} {d N : Nat} {Λ : Lay} {P : Int → Mem → Prop} {σ : Mem} {t : Int} (o_t : Ob N Λ t 11 6) (h0d : 1 ≤ d)
    (h : (CI l mX1_signOf (d - 1) [(2, t), (0, 0), (0, 2), (0, 3)] N Λ σ (fun v2 σ1 => (CI l mX1_signOf (d - 1) [(2, t), (0, 1), (0, 4), (0, 5)] N Λ σ1 (fun v4 σ3 => (∀ y5, y5 = (mulI v2 v4) → (CI l mX1_signOf (d - 1) [(2, t), (0, 1), (0, 2), (0, 3)] N Λ σ3 (fun v7 σ6 => (CI l mX1_signOf (d - 1) [(2, t), (0, 0), (0, 4), (0, 5)] N Λ σ6 (fun v9 σ8 => (∀ y10, y10 = (mulI v7 v9) → (CI l mX1_besideFirst (d - 1) [(2, t), (0, 0), (0, 2), (0, 3)] N Λ σ8 (fun v12 σ11 => (∀ y13, y13 = (mulI 5 v12) → (CI l mX1_besideFirst (d - 1) [(2, t), (0, 1), (0, 2), (0, 3)] N Λ σ11 (fun v15 σ14 => (∀ y16, y16 = (mulI 5 v15) → WI l mX1_isMultiple d P 59 [(2, t), (0, y5), (0, y10), (0, y13), (0, y16), (1, 0), (3, 0), (0, 0), (3, 0)] [] N Λ σ14))))))))))))))))) :
    WI l mX1_isMultiple d P 0 [(2, t), (3, 0), (3, 0), (3, 0), (3, 0), (3, 0), (3, 0), (3, 0), (3, 0)] [] N Λ σ := by
  refine r_aload_n (x := t) d_X1_isMultiple_0 rfl o_t.1 ?_
  refine r_iconst (x := 0) d_X1_isMultiple_1 ⟨by decide, by decide⟩ ?_
  refine r_iconst (x := 2) d_X1_isMultiple_2 ⟨by decide, by decide⟩ ?_
  refine r_iconst (x := 3) d_X1_isMultiple_3 ⟨by decide, by decide⟩ ?_
  refine r_callV (Y2 := mX1_signOf) (d := d - 1) (mc := 0) (ms := 0) (c := t) (As := [(0, 0), (0, 2), (0, 3)]) (S := []) d_X1_isMultiple_4 ok_mX1_signOf ml_X1_115 rfl (rmc h0d (by decide)) rm00 (Nat.le_of_ble_eq_true rfl) rfl kX1 o_t.1 o_t.2.1 o_t.2.2.1 o_t.2.2.2 (MC.mono h (fun r N1 Λ1 σ1 hq => ?_))
  obtain ⟨v2, rfl, rfl, rfl, h⟩ := hq
  refine r_aload_n (x := t) d_X1_isMultiple_7 rfl o_t.1 ?_
  refine r_iconst (x := 1) d_X1_isMultiple_8 ⟨by decide, by decide⟩ ?_
  refine r_iconst (x := 4) d_X1_isMultiple_9 ⟨by decide, by decide⟩ ?_
  refine r_iconst (x := 5) d_X1_isMultiple_10 ⟨by decide, by decide⟩ ?_
  refine r_callV (Y2 := mX1_signOf) (d := d - 1) (mc := 0) (ms := 0) (c := t) (As := [(0, 1), (0, 4), (0, 5)]) (S := [(0, v2)]) d_X1_isMultiple_11 ok_mX1_signOf ml_X1_115 rfl (rmc h0d (by decide)) rm00 (Nat.le_of_ble_eq_true rfl) rfl kX1 o_t.1 o_t.2.1 o_t.2.2.1 o_t.2.2.2 (MC.mono h (fun r N1 Λ1 σ3 hq => ?_))
  obtain ⟨v4, rfl, rfl, rfl, h⟩ := hq
  refine r_imul d_X1_isMultiple_14 ?_
  refine r_nm (fun y5 ey5 => ?_)
  have h := h y5 ey5
  refine r_istore_n (L2 := [(2, t), (0, y5), (3, 0), (3, 0), (3, 0), (3, 0), (3, 0), (3, 0), (3, 0)]) d_X1_isMultiple_15 (by decide) rfl rfl ?_
  refine r_aload_n (x := t) d_X1_isMultiple_16 rfl o_t.1 ?_
  refine r_iconst (x := 1) d_X1_isMultiple_17 ⟨by decide, by decide⟩ ?_
  refine r_iconst (x := 2) d_X1_isMultiple_18 ⟨by decide, by decide⟩ ?_
  refine r_iconst (x := 3) d_X1_isMultiple_19 ⟨by decide, by decide⟩ ?_
  refine r_callV (Y2 := mX1_signOf) (d := d - 1) (mc := 0) (ms := 0) (c := t) (As := [(0, 1), (0, 2), (0, 3)]) (S := []) d_X1_isMultiple_20 ok_mX1_signOf ml_X1_115 rfl (rmc h0d (by decide)) rm00 (Nat.le_of_ble_eq_true rfl) rfl kX1 o_t.1 o_t.2.1 o_t.2.2.1 o_t.2.2.2 (MC.mono h (fun r N1 Λ1 σ6 hq => ?_))
  obtain ⟨v7, rfl, rfl, rfl, h⟩ := hq
  refine r_aload_n (x := t) d_X1_isMultiple_23 rfl o_t.1 ?_
  refine r_iconst (x := 0) d_X1_isMultiple_24 ⟨by decide, by decide⟩ ?_
  refine r_iconst (x := 4) d_X1_isMultiple_25 ⟨by decide, by decide⟩ ?_
  refine r_iconst (x := 5) d_X1_isMultiple_26 ⟨by decide, by decide⟩ ?_
  refine r_callV (Y2 := mX1_signOf) (d := d - 1) (mc := 0) (ms := 0) (c := t) (As := [(0, 0), (0, 4), (0, 5)]) (S := [(0, v7)]) d_X1_isMultiple_27 ok_mX1_signOf ml_X1_115 rfl (rmc h0d (by decide)) rm00 (Nat.le_of_ble_eq_true rfl) rfl kX1 o_t.1 o_t.2.1 o_t.2.2.1 o_t.2.2.2 (MC.mono h (fun r N1 Λ1 σ8 hq => ?_))
  obtain ⟨v9, rfl, rfl, rfl, h⟩ := hq
  refine r_imul d_X1_isMultiple_30 ?_
  refine r_nm (fun y10 ey10 => ?_)
  have h := h y10 ey10
  refine r_istore_n (L2 := [(2, t), (0, y5), (0, y10), (3, 0), (3, 0), (3, 0), (3, 0), (3, 0), (3, 0)]) d_X1_isMultiple_31 (by decide) rfl rfl ?_
  refine r_iconst (x := 5) d_X1_isMultiple_32 ⟨by decide, by decide⟩ ?_
  refine r_aload_n (x := t) d_X1_isMultiple_33 rfl o_t.1 ?_
  refine r_iconst (x := 0) d_X1_isMultiple_34 ⟨by decide, by decide⟩ ?_
  refine r_iconst (x := 2) d_X1_isMultiple_35 ⟨by decide, by decide⟩ ?_
  refine r_iconst (x := 3) d_X1_isMultiple_36 ⟨by decide, by decide⟩ ?_
  refine r_callV (Y2 := mX1_besideFirst) (d := d - 1) (mc := 0) (ms := 0) (c := t) (As := [(0, 0), (0, 2), (0, 3)]) (S := [(0, 5)]) d_X1_isMultiple_37 ok_mX1_besideFirst ml_X1_119 rfl (rmc h0d (by decide)) rm00 (Nat.le_of_ble_eq_true rfl) rfl kX1 o_t.1 o_t.2.1 o_t.2.2.1 o_t.2.2.2 (MC.mono h (fun r N1 Λ1 σ11 hq => ?_))
  obtain ⟨v12, rfl, rfl, rfl, h⟩ := hq
  refine r_imul d_X1_isMultiple_40 ?_
  refine r_nm (fun y13 ey13 => ?_)
  have h := h y13 ey13
  refine r_istore_n (L2 := [(2, t), (0, y5), (0, y10), (0, y13), (3, 0), (3, 0), (3, 0), (3, 0), (3, 0)]) d_X1_isMultiple_41 (by decide) rfl rfl ?_
  refine r_iconst (x := 5) d_X1_isMultiple_42 ⟨by decide, by decide⟩ ?_
  refine r_aload_n (x := t) d_X1_isMultiple_43 rfl o_t.1 ?_
  refine r_iconst (x := 1) d_X1_isMultiple_44 ⟨by decide, by decide⟩ ?_
  refine r_iconst (x := 2) d_X1_isMultiple_45 ⟨by decide, by decide⟩ ?_
  refine r_iconst (x := 3) d_X1_isMultiple_46 ⟨by decide, by decide⟩ ?_
  refine r_callV (Y2 := mX1_besideFirst) (d := d - 1) (mc := 0) (ms := 0) (c := t) (As := [(0, 1), (0, 2), (0, 3)]) (S := [(0, 5)]) d_X1_isMultiple_47 ok_mX1_besideFirst ml_X1_119 rfl (rmc h0d (by decide)) rm00 (Nat.le_of_ble_eq_true rfl) rfl kX1 o_t.1 o_t.2.1 o_t.2.2.1 o_t.2.2.2 (MC.mono h (fun r N1 Λ1 σ14 hq => ?_))
  obtain ⟨v15, rfl, rfl, rfl, h⟩ := hq
  refine r_imul d_X1_isMultiple_50 ?_
  refine r_nm (fun y16 ey16 => ?_)
  have h := h y16 ey16
  refine r_istore (L2 := [(2, t), (0, y5), (0, y10), (0, y13), (0, y16), (3, 0), (3, 0), (3, 0), (3, 0)]) d_X1_isMultiple_51 (by decide) rfl rfl ?_
  refine r_lconst d_X1_isMultiple_53 ?_
  skip
  refine r_lstore (L2 := [(2, t), (0, y5), (0, y10), (0, y13), (0, y16), (1, 0), (3, 0), (3, 0), (3, 0)]) d_X1_isMultiple_54 (by decide) rfl rfl ?_
  refine r_iconst (x := 0) d_X1_isMultiple_56 ⟨by decide, by decide⟩ ?_
  refine r_istore (L2 := [(2, t), (0, y5), (0, y10), (0, y13), (0, y16), (1, 0), (3, 0), (0, 0), (3, 0)]) d_X1_isMultiple_57 (by decide) rfl rfl ?_
  exact h
theorem v_X1_isMultiple_59 {l : Launch} {d N : Nat} {Λ : Lay} {P : Int → Mem → Prop} {σ : Mem} {x1 x2 x3 x4 x5 x7 t t_asked t_straight : Int} (o_t : Ob N Λ t 11 6) (f_t_straight : (Λ t).2.2 4 = t_straight) (f_t_asked : (Λ t).2.2 5 = t_asked)
    (h : ((5 ≤ x7 → (∀ τ1, τ1 = st σ t 0 (l2iI x5) → (((cmpL x5 0) = 0 → P 0 τ1) ∧ (¬ ((cmpL x5 0) = 0) → ((¬ (cmpL x5 (τ1 t 0)) = 0 → P 0 τ1) ∧ ((cmpL x5 (τ1 t 0)) = 0 → P 1 τ1)))))) ∧ (¬ (5 ≤ x7) → (Ix N Λ t_straight 0 (addI x3 x7) ∧ (Ix N Λ t_straight 0 (addI x4 x7) ∧ (∀ y2, y2 = (subI (mulI x1 (σ t_straight (addI x3 x7))) (mulI x2 (σ t_straight (addI x4 x7)))) → ((¬ (cmpL x5 0) = 0 → (Ix N Λ t_asked 0 x7 ∧ (((cmpL (mulL x5 y2) (σ t_asked x7)) = 0 → (∀ y3, y3 = addI x7 1 → WI l mX1_isMultiple d P 59 [(2, t), (0, x1), (0, x2), (0, x3), (0, x4), (1, x5), (3, 0), (0, y3), (3, 0)] [] N Λ σ)) ∧ (¬ ((cmpL (mulL x5 y2) (σ t_asked x7)) = 0) → P 0 σ)))) ∧ ((cmpL x5 0) = 0 → ((y2 = 0 → (Ix N Λ t_asked 0 x7 ∧ (((cmpL (mulL x5 y2) (σ t_asked x7)) = 0 → (∀ y4, y4 = addI x7 1 → WI l mX1_isMultiple d P 59 [(2, t), (0, x1), (0, x2), (0, x3), (0, x4), (1, x5), (3, 0), (0, y4), (3, 0)] [] N Λ σ)) ∧ (¬ ((cmpL (mulL x5 y2) (σ t_asked x7)) = 0) → P 0 σ)))) ∧ (¬ (y2 = 0) → (Ix N Λ t_asked 0 x7 ∧ (¬ y2 = 0 ∧ (∀ y5, y5 = (divL (σ t_asked x7) y2) → ((¬ (cmpL y5 0) = 0 → (Ix N Λ t_asked 0 x7 ∧ (((cmpL (mulL y5 y2) (σ t_asked x7)) = 0 → (∀ y6, y6 = addI x7 1 → WI l mX1_isMultiple d P 59 [(2, t), (0, x1), (0, x2), (0, x3), (0, x4), (1, y5), (3, 0), (0, y6), (3, 0)] [] N Λ σ)) ∧ (¬ ((cmpL (mulL y5 y2) (σ t_asked x7)) = 0) → P 0 σ)))) ∧ ((cmpL y5 0) = 0 → P 0 σ))))))))))))))) :
    WI l mX1_isMultiple d P 59 [(2, t), (0, x1), (0, x2), (0, x3), (0, x4), (1, x5), (3, 0), (0, x7), (3, 0)] [] N Λ σ := by
  refine r_iload (x := x7) d_X1_isMultiple_59 rfl ?_
  refine r_iconst (x := 5) d_X1_isMultiple_61 ⟨by decide, by decide⟩ ?_
  refine r_ic_ge (tgt := 152) d_X1_isMultiple_62 rfl (fun hc => ?_) (fun hc => ?_)
  · have h := h.1 hc
    refine r_aload_n (x := t) d_X1_isMultiple_152 rfl o_t.1 ?_
    refine r_lload (x := x5) d_X1_isMultiple_153 rfl ?_
    refine r_l2i d_X1_isMultiple_155 ?_
    refine r_putI (j := 0) d_X1_isMultiple_156 kX1 (by decide) fl_X1_9 rfl o_t.1 o_t.2.1 o_t.2.2.1 o_t.2.2.2 rfl ?_
    refine r_nmM (fun τ1 eτ1 => ?_)
    have h := h τ1 eτ1
    refine r_lload (x := x5) d_X1_isMultiple_159 rfl ?_
    refine r_lconst d_X1_isMultiple_161 ?_
    skip
    refine r_lcmp d_X1_isMultiple_162 ?_
    refine r_if_eq (tgt := 181) d_X1_isMultiple_163 rfl (fun hc => ?_) (fun hc => ?_)
    · have h := h.1 hc
      refine r_iconst (x := 0) d_X1_isMultiple_181 ⟨by decide, by decide⟩ ?_
      exact r_iret d_X1_isMultiple_182 rfl (by decide) (Nat.le_refl 0) (Nat.le_refl 0) ⟨_, rfl, rfl, rfl, h⟩
    · have h := h.2 hc
      refine r_lload (x := x5) d_X1_isMultiple_166 rfl ?_
      refine r_aload_n (x := t) d_X1_isMultiple_168 rfl o_t.1 ?_
      refine r_getf (j := 0) (t := 0) (x := (τ1 t 0)) d_X1_isMultiple_169 kX1 (by decide) fl_X1_9 o_t.1 o_t.2.1 o_t.2.2.1 o_t.2.2.2 rfl rfl ?_
      refine r_i2l d_X1_isMultiple_172 ?_
      refine r_lcmp d_X1_isMultiple_173 ?_
      refine r_if_ne (tgt := 181) d_X1_isMultiple_174 rfl (fun hc => ?_) (fun hc => ?_)
      · have h := h.1 hc
        refine r_iconst (x := 0) d_X1_isMultiple_181 ⟨by decide, by decide⟩ ?_
        exact r_iret d_X1_isMultiple_182 rfl (by decide) (Nat.le_refl 0) (Nat.le_refl 0) ⟨_, rfl, rfl, rfl, h⟩
      · have h := h.2 hc
        refine r_iconst (x := 1) d_X1_isMultiple_177 ⟨by decide, by decide⟩ ?_
        refine r_goto (tgt := 182) d_X1_isMultiple_178 rfl ?_
        exact r_iret d_X1_isMultiple_182 rfl (by decide) (Nat.le_refl 0) (Nat.le_refl 0) ⟨_, rfl, rfl, rfl, h⟩
  · have h := h.2 hc
    refine r_iload_n (x := x1) d_X1_isMultiple_65 rfl ?_
    refine r_aload_n (x := t) d_X1_isMultiple_66 rfl o_t.1 ?_
    refine r_getf (j := 4) (t := 2) (x := t_straight) d_X1_isMultiple_67 kX1 (by decide) fl_X1_26 o_t.1 o_t.2.1 o_t.2.2.1 o_t.2.2.2 rfl f_t_straight ?_
    refine r_iload_n (x := x3) d_X1_isMultiple_70 rfl ?_
    refine r_iload (x := x7) d_X1_isMultiple_71 rfl ?_
    refine r_iadd d_X1_isMultiple_73 ?_
    refine x_iald d_X1_isMultiple_74 h.1 ?_
    have h := h.2
    refine r_imul d_X1_isMultiple_75 ?_
    refine r_iload_n (x := x2) d_X1_isMultiple_76 rfl ?_
    refine r_aload_n (x := t) d_X1_isMultiple_77 rfl o_t.1 ?_
    refine r_getf (j := 4) (t := 2) (x := t_straight) d_X1_isMultiple_78 kX1 (by decide) fl_X1_26 o_t.1 o_t.2.1 o_t.2.2.1 o_t.2.2.2 rfl f_t_straight ?_
    refine r_iload (x := x4) d_X1_isMultiple_81 rfl ?_
    refine r_iload (x := x7) d_X1_isMultiple_83 rfl ?_
    refine r_iadd d_X1_isMultiple_85 ?_
    refine x_iald d_X1_isMultiple_86 h.1 ?_
    have h := h.2
    refine r_imul d_X1_isMultiple_87 ?_
    refine r_isub d_X1_isMultiple_88 ?_
    refine r_nm (fun y2 ey2 => ?_)
    have h := h y2 ey2
    refine r_istore (L2 := [(2, t), (0, x1), (0, x2), (0, x3), (0, x4), (1, x5), (3, 0), (0, x7), (0, y2)]) d_X1_isMultiple_89 (by decide) rfl rfl ?_
    refine r_lload (x := x5) d_X1_isMultiple_91 rfl ?_
    refine r_lconst d_X1_isMultiple_93 ?_
    skip
    refine r_lcmp d_X1_isMultiple_94 ?_
    refine r_if_ne (tgt := 126) d_X1_isMultiple_95 rfl (fun hc => ?_) (fun hc => ?_)
    · have h := h.1 hc
      refine r_lload (x := x5) d_X1_isMultiple_126 rfl ?_
      refine r_iload (x := y2) d_X1_isMultiple_128 rfl ?_
      refine r_i2l d_X1_isMultiple_130 ?_
      refine r_lmul d_X1_isMultiple_131 ?_
      refine r_aload_n (x := t) d_X1_isMultiple_132 rfl o_t.1 ?_
      refine r_getf (j := 5) (t := 2) (x := t_asked) d_X1_isMultiple_133 kX1 (by decide) fl_X1_29 o_t.1 o_t.2.1 o_t.2.2.1 o_t.2.2.2 rfl f_t_asked ?_
      refine r_iload (x := x7) d_X1_isMultiple_136 rfl ?_
      refine x_iald d_X1_isMultiple_138 h.1 ?_
      have h := h.2
      refine r_i2l d_X1_isMultiple_139 ?_
      refine r_lcmp d_X1_isMultiple_140 ?_
      refine r_if_eq (tgt := 146) d_X1_isMultiple_141 rfl (fun hc => ?_) (fun hc => ?_)
      · have h := h.1 hc
        refine x_iinc (x := x7) (L := [(2, t), (0, x1), (0, x2), (0, x3), (0, x4), (1, x5), (3, 0), (0, x7), (0, y2)]) d_X1_isMultiple_146 rfl (by decide) rfl (fun y3 ey3 => ?_)
        have h := h y3 ey3
        show WP _ _ _ _ _ _ _ _ [(2, t), (0, x1), (0, x2), (0, x3), (0, x4), (1, x5), (3, 0), (0, y3), (0, y2)] _ _ _ _
        refine r_goto (tgt := 59) d_X1_isMultiple_149 rfl ?_
        exact x_mask h ⟨Or.inr rfl, Or.inr rfl, Or.inr rfl, Or.inr rfl, Or.inr rfl, Or.inr rfl, Or.inl rfl, Or.inr rfl, Or.inl rfl, trivial⟩
      · have h := h.2 hc
        refine r_iconst (x := 0) d_X1_isMultiple_144 ⟨by decide, by decide⟩ ?_
        exact r_iret d_X1_isMultiple_145 rfl (by decide) (Nat.le_refl 0) (Nat.le_refl 0) ⟨_, rfl, rfl, rfl, h⟩
    · have h := h.2 hc
      refine r_iload (x := y2) d_X1_isMultiple_98 rfl ?_
      refine r_if_eq (tgt := 126) d_X1_isMultiple_100 rfl (fun hc => ?_) (fun hc => ?_)
      · have h := h.1 hc
        refine r_lload (x := x5) d_X1_isMultiple_126 rfl ?_
        refine r_iload (x := y2) d_X1_isMultiple_128 rfl ?_
        refine r_i2l d_X1_isMultiple_130 ?_
        refine r_lmul d_X1_isMultiple_131 ?_
        refine r_aload_n (x := t) d_X1_isMultiple_132 rfl o_t.1 ?_
        refine r_getf (j := 5) (t := 2) (x := t_asked) d_X1_isMultiple_133 kX1 (by decide) fl_X1_29 o_t.1 o_t.2.1 o_t.2.2.1 o_t.2.2.2 rfl f_t_asked ?_
        refine r_iload (x := x7) d_X1_isMultiple_136 rfl ?_
        refine x_iald d_X1_isMultiple_138 h.1 ?_
        have h := h.2
        refine r_i2l d_X1_isMultiple_139 ?_
        refine r_lcmp d_X1_isMultiple_140 ?_
        refine r_if_eq (tgt := 146) d_X1_isMultiple_141 rfl (fun hc => ?_) (fun hc => ?_)
        · have h := h.1 hc
          refine x_iinc (x := x7) (L := [(2, t), (0, x1), (0, x2), (0, x3), (0, x4), (1, x5), (3, 0), (0, x7), (0, y2)]) d_X1_isMultiple_146 rfl (by decide) rfl (fun y4 ey4 => ?_)
          have h := h y4 ey4
          show WP _ _ _ _ _ _ _ _ [(2, t), (0, x1), (0, x2), (0, x3), (0, x4), (1, x5), (3, 0), (0, y4), (0, y2)] _ _ _ _
          refine r_goto (tgt := 59) d_X1_isMultiple_149 rfl ?_
          exact x_mask h ⟨Or.inr rfl, Or.inr rfl, Or.inr rfl, Or.inr rfl, Or.inr rfl, Or.inr rfl, Or.inl rfl, Or.inr rfl, Or.inl rfl, trivial⟩
        · have h := h.2 hc
          refine r_iconst (x := 0) d_X1_isMultiple_144 ⟨by decide, by decide⟩ ?_
          exact r_iret d_X1_isMultiple_145 rfl (by decide) (Nat.le_refl 0) (Nat.le_refl 0) ⟨_, rfl, rfl, rfl, h⟩
      · have h := h.2 hc
        refine r_aload_n (x := t) d_X1_isMultiple_103 rfl o_t.1 ?_
        refine r_getf (j := 5) (t := 2) (x := t_asked) d_X1_isMultiple_104 kX1 (by decide) fl_X1_29 o_t.1 o_t.2.1 o_t.2.2.1 o_t.2.2.2 rfl f_t_asked ?_
        refine r_iload (x := x7) d_X1_isMultiple_107 rfl ?_
        refine x_iald d_X1_isMultiple_109 h.1 ?_
        have h := h.2
        refine r_i2l d_X1_isMultiple_110 ?_
        refine r_iload (x := y2) d_X1_isMultiple_111 rfl ?_
        refine r_i2l d_X1_isMultiple_113 ?_
        refine r_ldiv d_X1_isMultiple_114 h.1 ?_
        have h := h.2
        refine r_nm (fun y5 ey5 => ?_)
        have h := h y5 ey5
        refine r_lstore (L2 := [(2, t), (0, x1), (0, x2), (0, x3), (0, x4), (1, y5), (3, 0), (0, x7), (0, y2)]) d_X1_isMultiple_115 (by decide) rfl rfl ?_
        refine r_lload (x := y5) d_X1_isMultiple_117 rfl ?_
        refine r_lconst d_X1_isMultiple_119 ?_
        skip
        refine r_lcmp d_X1_isMultiple_120 ?_
        refine r_if_ne (tgt := 126) d_X1_isMultiple_121 rfl (fun hc => ?_) (fun hc => ?_)
        · have h := h.1 hc
          refine r_lload (x := y5) d_X1_isMultiple_126 rfl ?_
          refine r_iload (x := y2) d_X1_isMultiple_128 rfl ?_
          refine r_i2l d_X1_isMultiple_130 ?_
          refine r_lmul d_X1_isMultiple_131 ?_
          refine r_aload_n (x := t) d_X1_isMultiple_132 rfl o_t.1 ?_
          refine r_getf (j := 5) (t := 2) (x := t_asked) d_X1_isMultiple_133 kX1 (by decide) fl_X1_29 o_t.1 o_t.2.1 o_t.2.2.1 o_t.2.2.2 rfl f_t_asked ?_
          refine r_iload (x := x7) d_X1_isMultiple_136 rfl ?_
          refine x_iald d_X1_isMultiple_138 h.1 ?_
          have h := h.2
          refine r_i2l d_X1_isMultiple_139 ?_
          refine r_lcmp d_X1_isMultiple_140 ?_
          refine r_if_eq (tgt := 146) d_X1_isMultiple_141 rfl (fun hc => ?_) (fun hc => ?_)
          · have h := h.1 hc
            refine x_iinc (x := x7) (L := [(2, t), (0, x1), (0, x2), (0, x3), (0, x4), (1, y5), (3, 0), (0, x7), (0, y2)]) d_X1_isMultiple_146 rfl (by decide) rfl (fun y6 ey6 => ?_)
            have h := h y6 ey6
            show WP _ _ _ _ _ _ _ _ [(2, t), (0, x1), (0, x2), (0, x3), (0, x4), (1, y5), (3, 0), (0, y6), (0, y2)] _ _ _ _
            refine r_goto (tgt := 59) d_X1_isMultiple_149 rfl ?_
            exact x_mask h ⟨Or.inr rfl, Or.inr rfl, Or.inr rfl, Or.inr rfl, Or.inr rfl, Or.inr rfl, Or.inl rfl, Or.inr rfl, Or.inl rfl, trivial⟩
          · have h := h.2 hc
            refine r_iconst (x := 0) d_X1_isMultiple_144 ⟨by decide, by decide⟩ ?_
            exact r_iret d_X1_isMultiple_145 rfl (by decide) (Nat.le_refl 0) (Nat.le_refl 0) ⟨_, rfl, rfl, rfl, h⟩
        · have h := h.2 hc
          refine r_iconst (x := 0) d_X1_isMultiple_124 ⟨by decide, by decide⟩ ?_
          exact r_iret d_X1_isMultiple_125 rfl (by decide) (Nat.le_refl 0) (Nat.le_refl 0) ⟨_, rfl, rfl, rfl, h⟩
theorem v_X1_signOf_0 {l : Launch} {d N : Nat} {Λ : Lay} {P : Int → Mem → Prop} {σ : Mem} {x1 x2 x3 t t_row : Int} (o_t : Ob N Λ t 11 6) (f_t_row : (Λ t).2.2 2 = t_row) (h0d : 1 ≤ d)
    (h : (Ix N Λ t_row 0 x1 ∧ (Ix N Λ t_row 0 x2 ∧ (Ix N Λ t_row 0 x3 ∧ (CI l mX6_row (d - 1) [(0, (σ t_row x1)), (0, (σ t_row x2)), (0, (σ t_row x3))] N Λ σ (fun v2 σ1 => (CI l mX6_ordered (d - 1) [(0, v2)] N Λ σ1 (fun v4 σ3 => ((0 ≤ v4 → P 1 σ3) ∧ (¬ (0 ≤ v4) → P (-1) σ3)))))))))) :
    WI l mX1_signOf d P 0 [(2, t), (0, x1), (0, x2), (0, x3)] [] N Λ σ := by
  refine r_aload_n (x := t) d_X1_signOf_0 rfl o_t.1 ?_
  refine r_getf (j := 2) (t := 2) (x := t_row) d_X1_signOf_1 kX1 (by decide) fl_X1_19 o_t.1 o_t.2.1 o_t.2.2.1 o_t.2.2.2 rfl f_t_row ?_
  refine r_iload_n (x := x1) d_X1_signOf_4 rfl ?_
  refine x_iald d_X1_signOf_5 h.1 ?_
  have h := h.2
  refine r_aload_n (x := t) d_X1_signOf_6 rfl o_t.1 ?_
  refine r_getf (j := 2) (t := 2) (x := t_row) d_X1_signOf_7 kX1 (by decide) fl_X1_19 o_t.1 o_t.2.1 o_t.2.2.1 o_t.2.2.2 rfl f_t_row ?_
  refine r_iload_n (x := x2) d_X1_signOf_10 rfl ?_
  refine x_iald d_X1_signOf_11 h.1 ?_
  have h := h.2
  refine r_aload_n (x := t) d_X1_signOf_12 rfl o_t.1 ?_
  refine r_getf (j := 2) (t := 2) (x := t_row) d_X1_signOf_13 kX1 (by decide) fl_X1_19 o_t.1 o_t.2.1 o_t.2.2.1 o_t.2.2.2 rfl f_t_row ?_
  refine r_iload_n (x := x3) d_X1_signOf_16 rfl ?_
  refine x_iald d_X1_signOf_17 h.1 ?_
  have h := h.2
  refine r_callS (Y2 := mX6_row) (d := d - 1) (mc := 0) (ms := 0) (As := [(0, (σ t_row x1)), (0, (σ t_row x2)), (0, (σ t_row x3))]) (S := []) d_X1_signOf_18 ok_mX6_row ml_X1_122 rfl (rmc h0d (by decide)) rm00 (Nat.le_of_ble_eq_true rfl) rfl (MC.mono h (fun r N1 Λ1 σ1 hq => ?_))
  obtain ⟨v2, rfl, rfl, rfl, h⟩ := hq
  refine r_callS (Y2 := mX6_ordered) (d := d - 1) (mc := 0) (ms := 0) (As := [(0, v2)]) (S := []) d_X1_signOf_21 ok_mX6_ordered ml_X1_124 rfl (rmc h0d (by decide)) rm00 (Nat.le_of_ble_eq_true rfl) rfl (MC.mono h (fun r N1 Λ1 σ3 hq => ?_))
  obtain ⟨v4, rfl, rfl, rfl, h⟩ := hq
  refine r_if_ge (tgt := 31) d_X1_signOf_24 rfl (fun hc => ?_) (fun hc => ?_)
  · have h := h.1 hc
    refine r_iconst (x := 1) d_X1_signOf_31 ⟨by decide, by decide⟩ ?_
    exact r_iret d_X1_signOf_32 rfl rfl (Nat.le_refl 0) (Nat.le_refl 0) ⟨_, rfl, rfl, rfl, h⟩
  · have h := h.2 hc
    refine r_iconst (x := (-1)) d_X1_signOf_27 ⟨by decide, by decide⟩ ?_
    refine r_goto (tgt := 32) d_X1_signOf_28 rfl ?_
    exact r_iret d_X1_signOf_32 rfl rfl (Nat.le_refl 0) (Nat.le_refl 0) ⟨_, rfl, rfl, rfl, h⟩
theorem v_X1_besideFirst_0 {l : Launch} {d N : Nat} {Λ : Lay} {P : Int → Mem → Prop} {σ : Mem} {x1 x2 x3 t t_row : Int} (o_t : Ob N Λ t 11 6) (f_t_row : (Λ t).2.2 2 = t_row)
    (h : (Ix N Λ t_row 0 x1 ∧ (Ix N Λ t_row 0 x2 ∧ (Ix N Λ t_row 0 x3 ∧ (∀ y1, y1 = (orI (orI (shlI 1 (σ t_row x1)) (shlI 1 (σ t_row x2))) (shlI 1 (σ t_row x3))) → ((¬ (andI y1 1) = 1 → P (shrI (subI 63 y1) 1) σ) ∧ ((andI y1 1) = 1 → P (shrI y1 1) σ))))))) :
    WI l mX1_besideFirst d P 0 [(2, t), (0, x1), (0, x2), (0, x3), (3, 0)] [] N Λ σ := by
  refine r_iconst (x := 1) d_X1_besideFirst_0 ⟨by decide, by decide⟩ ?_
  refine r_aload_n (x := t) d_X1_besideFirst_1 rfl o_t.1 ?_
  refine r_getf (j := 2) (t := 2) (x := t_row) d_X1_besideFirst_2 kX1 (by decide) fl_X1_19 o_t.1 o_t.2.1 o_t.2.2.1 o_t.2.2.2 rfl f_t_row ?_
  refine r_iload_n (x := x1) d_X1_besideFirst_5 rfl ?_
  refine x_iald d_X1_besideFirst_6 h.1 ?_
  have h := h.2
  refine r_ishl d_X1_besideFirst_7 ?_
  refine r_iconst (x := 1) d_X1_besideFirst_8 ⟨by decide, by decide⟩ ?_
  refine r_aload_n (x := t) d_X1_besideFirst_9 rfl o_t.1 ?_
  refine r_getf (j := 2) (t := 2) (x := t_row) d_X1_besideFirst_10 kX1 (by decide) fl_X1_19 o_t.1 o_t.2.1 o_t.2.2.1 o_t.2.2.2 rfl f_t_row ?_
  refine r_iload_n (x := x2) d_X1_besideFirst_13 rfl ?_
  refine x_iald d_X1_besideFirst_14 h.1 ?_
  have h := h.2
  refine r_ishl d_X1_besideFirst_15 ?_
  refine r_ior d_X1_besideFirst_16 ?_
  refine r_iconst (x := 1) d_X1_besideFirst_17 ⟨by decide, by decide⟩ ?_
  refine r_aload_n (x := t) d_X1_besideFirst_18 rfl o_t.1 ?_
  refine r_getf (j := 2) (t := 2) (x := t_row) d_X1_besideFirst_19 kX1 (by decide) fl_X1_19 o_t.1 o_t.2.1 o_t.2.2.1 o_t.2.2.2 rfl f_t_row ?_
  refine r_iload_n (x := x3) d_X1_besideFirst_22 rfl ?_
  refine x_iald d_X1_besideFirst_23 h.1 ?_
  have h := h.2
  refine r_ishl d_X1_besideFirst_24 ?_
  refine r_ior d_X1_besideFirst_25 ?_
  refine r_nm (fun y1 ey1 => ?_)
  have h := h y1 ey1
  refine r_istore (L2 := [(2, t), (0, x1), (0, x2), (0, x3), (0, y1)]) d_X1_besideFirst_26 (by decide) rfl rfl ?_
  refine r_iload (x := y1) d_X1_besideFirst_28 rfl ?_
  refine r_iconst (x := 1) d_X1_besideFirst_30 ⟨by decide, by decide⟩ ?_
  refine r_iand d_X1_besideFirst_31 ?_
  refine r_iconst (x := 1) d_X1_besideFirst_32 ⟨by decide, by decide⟩ ?_
  refine r_ic_ne (tgt := 41) d_X1_besideFirst_33 rfl (fun hc => ?_) (fun hc => ?_)
  · have h := h.1 hc
    refine r_bipush (x := 63) d_X1_besideFirst_41 ⟨by decide, by decide⟩ (by decide) ?_
    refine r_iload (x := y1) d_X1_besideFirst_43 rfl ?_
    refine r_isub d_X1_besideFirst_45 ?_
    refine r_iconst (x := 1) d_X1_besideFirst_46 ⟨by decide, by decide⟩ ?_
    refine r_ishr d_X1_besideFirst_47 ?_
    exact r_iret d_X1_besideFirst_48 rfl rfl (Nat.le_refl 0) (Nat.le_refl 0) ⟨_, rfl, rfl, rfl, h⟩
  · have h := h.2 hc
    refine r_iload (x := y1) d_X1_besideFirst_36 rfl ?_
    refine r_goto (tgt := 46) d_X1_besideFirst_38 rfl ?_
    refine r_iconst (x := 1) d_X1_besideFirst_46 ⟨by decide, by decide⟩ ?_
    refine r_ishr d_X1_besideFirst_47 ?_
    exact r_iret d_X1_besideFirst_48 rfl rfl (Nat.le_refl 0) (Nat.le_refl 0) ⟨_, rfl, rfl, rfl, h⟩
theorem v_X1_nextRow_0 {l : Launch} {d N : Nat} {Λ : Lay} {P : Mem → Prop} {σ : Mem} {t : Int}
    (h : WV l mX1_nextRow d P 2 [(2, t), (0, 4), (3, 0), (3, 0), (3, 0)] [] N Λ σ) :
    WV l mX1_nextRow d P 0 [(2, t), (3, 0), (3, 0), (3, 0), (3, 0)] [] N Λ σ := by
  refine r_iconst (x := 4) d_X1_nextRow_0 ⟨by decide, by decide⟩ ?_
  refine r_istore_n (L2 := [(2, t), (0, 4), (3, 0), (3, 0), (3, 0)]) d_X1_nextRow_1 (by decide) rfl rfl ?_
  exact h
theorem v_X1_nextRow_2 {l : Launch} {d N : Nat} {Λ : Lay} {P : Mem → Prop} {σ : Mem} {x1 t t_row : Int} (o_t : Ob N Λ t 11 6) (f_t_row : (Λ t).2.2 2 = t_row)
    (h : ((x1 < 0 → ((0 ≤ x1 → WV l mX1_nextRow d P 36 [(2, t), (0, x1), (0, 5), (3, 0), (3, 0)] [] N Λ σ) ∧ (¬ (0 ≤ x1) → P σ))) ∧ (¬ (x1 < 0) → (Ix N Λ t_row 0 x1 ∧ (Ix N Λ t_row 0 (addI x1 1) ∧ (((σ t_row x1) ≤ (σ t_row (addI x1 1)) → ((0 ≤ x1 → WV l mX1_nextRow d P 36 [(2, t), (0, x1), (0, 5), (3, 0), (3, 0)] [] N Λ σ) ∧ (¬ (0 ≤ x1) → P σ))) ∧ (¬ ((σ t_row x1) ≤ (σ t_row (addI x1 1))) → (∀ y1, y1 = addI x1 (-1) → WV l mX1_nextRow d P 2 [(2, t), (0, y1), (3, 0), (3, 0), (3, 0)] [] N Λ σ)))))))) :
    WV l mX1_nextRow d P 2 [(2, t), (0, x1), (3, 0), (3, 0), (3, 0)] [] N Λ σ := by
  refine r_iload_n (x := x1) d_X1_nextRow_2 rfl ?_
  refine r_if_lt (tgt := 29) d_X1_nextRow_3 rfl (fun hc => ?_) (fun hc => ?_)
  · have h := h.1 hc
    refine r_iload_n (x := x1) d_X1_nextRow_29 rfl ?_
    refine r_if_ge (tgt := 34) d_X1_nextRow_30 rfl (fun hc => ?_) (fun hc => ?_)
    · have h := h.1 hc
      refine r_iconst (x := 5) d_X1_nextRow_34 ⟨by decide, by decide⟩ ?_
      refine r_istore_n (L2 := [(2, t), (0, x1), (0, 5), (3, 0), (3, 0)]) d_X1_nextRow_35 (by decide) rfl rfl ?_
      exact h
    · have h := h.2 hc
      exact r_vret d_X1_nextRow_33 rfl (Nat.le_refl 0) (Nat.le_refl 0) ⟨rfl, rfl, rfl, h⟩
  · have h := h.2 hc
    refine r_aload_n (x := t) d_X1_nextRow_6 rfl o_t.1 ?_
    refine r_getf (j := 2) (t := 2) (x := t_row) d_X1_nextRow_7 kX1 (by decide) fl_X1_19 o_t.1 o_t.2.1 o_t.2.2.1 o_t.2.2.2 rfl f_t_row ?_
    refine r_iload_n (x := x1) d_X1_nextRow_10 rfl ?_
    refine x_iald d_X1_nextRow_11 h.1 ?_
    have h := h.2
    refine r_aload_n (x := t) d_X1_nextRow_12 rfl o_t.1 ?_
    refine r_getf (j := 2) (t := 2) (x := t_row) d_X1_nextRow_13 kX1 (by decide) fl_X1_19 o_t.1 o_t.2.1 o_t.2.2.1 o_t.2.2.2 rfl f_t_row ?_
    refine r_iload_n (x := x1) d_X1_nextRow_16 rfl ?_
    refine r_iconst (x := 1) d_X1_nextRow_17 ⟨by decide, by decide⟩ ?_
    refine r_iadd d_X1_nextRow_18 ?_
    refine x_iald d_X1_nextRow_19 h.1 ?_
    have h := h.2
    refine r_ic_le (tgt := 29) d_X1_nextRow_20 rfl (fun hc => ?_) (fun hc => ?_)
    · have h := h.1 hc
      refine r_iload_n (x := x1) d_X1_nextRow_29 rfl ?_
      refine r_if_ge (tgt := 34) d_X1_nextRow_30 rfl (fun hc => ?_) (fun hc => ?_)
      · have h := h.1 hc
        refine r_iconst (x := 5) d_X1_nextRow_34 ⟨by decide, by decide⟩ ?_
        refine r_istore_n (L2 := [(2, t), (0, x1), (0, 5), (3, 0), (3, 0)]) d_X1_nextRow_35 (by decide) rfl rfl ?_
        exact h
      · have h := h.2 hc
        exact r_vret d_X1_nextRow_33 rfl (Nat.le_refl 0) (Nat.le_refl 0) ⟨rfl, rfl, rfl, h⟩
    · have h := h.2 hc
      refine x_iinc (x := x1) (L := [(2, t), (0, x1), (3, 0), (3, 0), (3, 0)]) d_X1_nextRow_23 rfl (by decide) rfl (fun y1 ey1 => ?_)
      have h := h y1 ey1
      show WP _ _ _ _ _ _ _ _ [(2, t), (0, y1), (3, 0), (3, 0), (3, 0)] _ _ _ _
      refine r_goto (tgt := 2) d_X1_nextRow_26 rfl ?_
      exact h
theorem v_X1_nextRow_36 {l : Launch} {d N : Nat} {Λ : Lay} {P : Mem → Prop} {σ : Mem} {x1 x2 t t_row : Int} (o_t : Ob N Λ t 11 6) (f_t_row : (Λ t).2.2 2 = t_row) (h0d : 1 ≤ d)
    (h : ((x2 ≤ x1 → (CV l mX1_swap (d - 1) [(2, t), (0, x1), (0, x2)] N Λ σ (fun σ1 => (∀ y2, y2 = (addI x1 1) → WV l mX1_nextRow d P 75 [(2, t), (0, x1), (0, x2), (0, y2), (0, 5)] [] N Λ σ1)))) ∧ (¬ (x2 ≤ x1) → (Ix N Λ t_row 0 x2 ∧ (Ix N Λ t_row 0 x1 ∧ (((σ t_row x1) ≤ (σ t_row x2) → (CV l mX1_swap (d - 1) [(2, t), (0, x1), (0, x2)] N Λ σ (fun σ3 => (∀ y4, y4 = (addI x1 1) → WV l mX1_nextRow d P 75 [(2, t), (0, x1), (0, x2), (0, y4), (0, 5)] [] N Λ σ3)))) ∧ (¬ ((σ t_row x1) ≤ (σ t_row x2)) → (∀ y5, y5 = addI x2 (-1) → WV l mX1_nextRow d P 36 [(2, t), (0, x1), (0, y5), (3, 0), (3, 0)] [] N Λ σ)))))))) :
    WV l mX1_nextRow d P 36 [(2, t), (0, x1), (0, x2), (3, 0), (3, 0)] [] N Λ σ := by
  refine r_iload_n (x := x2) d_X1_nextRow_36 rfl ?_
  refine r_iload_n (x := x1) d_X1_nextRow_37 rfl ?_
  refine r_ic_le (tgt := 62) d_X1_nextRow_38 rfl (fun hc => ?_) (fun hc => ?_)
  · have h := h.1 hc
    refine r_aload_n (x := t) d_X1_nextRow_62 rfl o_t.1 ?_
    refine r_iload_n (x := x1) d_X1_nextRow_63 rfl ?_
    refine r_iload_n (x := x2) d_X1_nextRow_64 rfl ?_
    refine r_callV (Y2 := mX1_swap) (d := d - 1) (mc := 0) (ms := 0) (c := t) (As := [(0, x1), (0, x2)]) (S := []) d_X1_nextRow_65 ok_mX1_swap ml_X1_127 rfl (rmc h0d (by decide)) rm00 (Nat.le_of_ble_eq_true rfl) rfl kX1 o_t.1 o_t.2.1 o_t.2.2.1 o_t.2.2.2 (MC.mono h (fun r N1 Λ1 σ1 hq => ?_))
    obtain ⟨rfl, rfl, rfl, h⟩ := hq
    refine r_iload_n (x := x1) d_X1_nextRow_68 rfl ?_
    refine r_iconst (x := 1) d_X1_nextRow_69 ⟨by decide, by decide⟩ ?_
    refine r_iadd d_X1_nextRow_70 ?_
    refine r_nm (fun y2 ey2 => ?_)
    have h := h y2 ey2
    refine r_istore_n (L2 := [(2, t), (0, x1), (0, x2), (0, y2), (3, 0)]) d_X1_nextRow_71 (by decide) rfl rfl ?_
    refine r_iconst (x := 5) d_X1_nextRow_72 ⟨by decide, by decide⟩ ?_
    refine r_istore (L2 := [(2, t), (0, x1), (0, x2), (0, y2), (0, 5)]) d_X1_nextRow_73 (by decide) rfl rfl ?_
    exact h
  · have h := h.2 hc
    refine r_aload_n (x := t) d_X1_nextRow_41 rfl o_t.1 ?_
    refine r_getf (j := 2) (t := 2) (x := t_row) d_X1_nextRow_42 kX1 (by decide) fl_X1_19 o_t.1 o_t.2.1 o_t.2.2.1 o_t.2.2.2 rfl f_t_row ?_
    refine r_iload_n (x := x2) d_X1_nextRow_45 rfl ?_
    refine x_iald d_X1_nextRow_46 h.1 ?_
    have h := h.2
    refine r_aload_n (x := t) d_X1_nextRow_47 rfl o_t.1 ?_
    refine r_getf (j := 2) (t := 2) (x := t_row) d_X1_nextRow_48 kX1 (by decide) fl_X1_19 o_t.1 o_t.2.1 o_t.2.2.1 o_t.2.2.2 rfl f_t_row ?_
    refine r_iload_n (x := x1) d_X1_nextRow_51 rfl ?_
    refine x_iald d_X1_nextRow_52 h.1 ?_
    have h := h.2
    refine r_ic_ge (tgt := 62) d_X1_nextRow_53 rfl (fun hc => ?_) (fun hc => ?_)
    · have h := h.1 hc
      refine r_aload_n (x := t) d_X1_nextRow_62 rfl o_t.1 ?_
      refine r_iload_n (x := x1) d_X1_nextRow_63 rfl ?_
      refine r_iload_n (x := x2) d_X1_nextRow_64 rfl ?_
      refine r_callV (Y2 := mX1_swap) (d := d - 1) (mc := 0) (ms := 0) (c := t) (As := [(0, x1), (0, x2)]) (S := []) d_X1_nextRow_65 ok_mX1_swap ml_X1_127 rfl (rmc h0d (by decide)) rm00 (Nat.le_of_ble_eq_true rfl) rfl kX1 o_t.1 o_t.2.1 o_t.2.2.1 o_t.2.2.2 (MC.mono h (fun r N1 Λ1 σ3 hq => ?_))
      obtain ⟨rfl, rfl, rfl, h⟩ := hq
      refine r_iload_n (x := x1) d_X1_nextRow_68 rfl ?_
      refine r_iconst (x := 1) d_X1_nextRow_69 ⟨by decide, by decide⟩ ?_
      refine r_iadd d_X1_nextRow_70 ?_
      refine r_nm (fun y4 ey4 => ?_)
      have h := h y4 ey4
      refine r_istore_n (L2 := [(2, t), (0, x1), (0, x2), (0, y4), (3, 0)]) d_X1_nextRow_71 (by decide) rfl rfl ?_
      refine r_iconst (x := 5) d_X1_nextRow_72 ⟨by decide, by decide⟩ ?_
      refine r_istore (L2 := [(2, t), (0, x1), (0, x2), (0, y4), (0, 5)]) d_X1_nextRow_73 (by decide) rfl rfl ?_
      exact h
    · have h := h.2 hc
      refine x_iinc (x := x2) (L := [(2, t), (0, x1), (0, x2), (3, 0), (3, 0)]) d_X1_nextRow_56 rfl (by decide) rfl (fun y5 ey5 => ?_)
      have h := h y5 ey5
      show WP _ _ _ _ _ _ _ _ [(2, t), (0, x1), (0, y5), (3, 0), (3, 0)] _ _ _ _
      refine r_goto (tgt := 36) d_X1_nextRow_59 rfl ?_
      exact h
theorem v_X1_nextRow_75 {l : Launch} {d N : Nat} {Λ : Lay} {P : Mem → Prop} {σ : Mem} {x1 x2 x3 x4 t : Int} (o_t : Ob N Λ t 11 6) (h0d : 1 ≤ d)
    (h : ((x4 ≤ x3 → P σ) ∧ (¬ (x4 ≤ x3) → (CV l mX1_swap (d - 1) [(2, t), (0, x3), (0, x4)] N Λ σ (fun σ1 => (∀ y2, y2 = addI x3 1 → (∀ y3, y3 = addI x4 (-1) → WV l mX1_nextRow d P 75 [(2, t), (0, x1), (0, x2), (0, y2), (0, y3)] [] N Λ σ1))))))) :
    WV l mX1_nextRow d P 75 [(2, t), (0, x1), (0, x2), (0, x3), (0, x4)] [] N Λ σ := by
  refine r_iload_n (x := x3) d_X1_nextRow_75 rfl ?_
  refine r_iload (x := x4) d_X1_nextRow_76 rfl ?_
  refine r_ic_ge (tgt := 97) d_X1_nextRow_78 rfl (fun hc => ?_) (fun hc => ?_)
  · have h := h.1 hc
    exact r_vret d_X1_nextRow_97 rfl (Nat.le_refl 0) (Nat.le_refl 0) ⟨rfl, rfl, rfl, h⟩
  · have h := h.2 hc
    refine r_aload_n (x := t) d_X1_nextRow_81 rfl o_t.1 ?_
    refine r_iload_n (x := x3) d_X1_nextRow_82 rfl ?_
    refine r_iload (x := x4) d_X1_nextRow_83 rfl ?_
    refine r_callV (Y2 := mX1_swap) (d := d - 1) (mc := 0) (ms := 0) (c := t) (As := [(0, x3), (0, x4)]) (S := []) d_X1_nextRow_85 ok_mX1_swap ml_X1_127 rfl (rmc h0d (by decide)) rm00 (Nat.le_of_ble_eq_true rfl) rfl kX1 o_t.1 o_t.2.1 o_t.2.2.1 o_t.2.2.2 (MC.mono h (fun r N1 Λ1 σ1 hq => ?_))
    obtain ⟨rfl, rfl, rfl, h⟩ := hq
    refine x_iinc (x := x3) (L := [(2, t), (0, x1), (0, x2), (0, x3), (0, x4)]) d_X1_nextRow_88 rfl (by decide) rfl (fun y2 ey2 => ?_)
    have h := h y2 ey2
    show WP _ _ _ _ _ _ _ _ [(2, t), (0, x1), (0, x2), (0, y2), (0, x4)] _ _ _ _
    refine x_iinc (x := x4) (L := [(2, t), (0, x1), (0, x2), (0, y2), (0, x4)]) d_X1_nextRow_91 rfl (by decide) rfl (fun y3 ey3 => ?_)
    have h := h y3 ey3
    show WP _ _ _ _ _ _ _ _ [(2, t), (0, x1), (0, x2), (0, y2), (0, y3)] _ _ _ _
    refine r_goto (tgt := 75) d_X1_nextRow_94 rfl ?_
    exact h
theorem v_X1_swap_0 {l : Launch} {d N : Nat} {Λ : Lay} {P : Mem → Prop} {σ : Mem} {x1 x2 t t_row : Int} (o_t : Ob N Λ t 11 6) (f_t_row : (Λ t).2.2 2 = t_row)
    (h : (Ix N Λ t_row 0 x1 ∧ (∀ y1, y1 = (σ t_row x1) → (Ix N Λ t_row 0 x2 ∧ (Ix N Λ t_row 0 x1 ∧ (∀ τ2, τ2 = st σ t_row x1 (σ t_row x2) → (Ix N Λ t_row 0 x2 ∧ (∀ τ3, τ3 = st τ2 t_row x2 y1 → P τ3)))))))) :
    WV l mX1_swap d P 0 [(2, t), (0, x1), (0, x2), (3, 0)] [] N Λ σ := by
  refine r_aload_n (x := t) d_X1_swap_0 rfl o_t.1 ?_
  refine r_getf (j := 2) (t := 2) (x := t_row) d_X1_swap_1 kX1 (by decide) fl_X1_19 o_t.1 o_t.2.1 o_t.2.2.1 o_t.2.2.2 rfl f_t_row ?_
  refine r_iload_n (x := x1) d_X1_swap_4 rfl ?_
  refine x_iald d_X1_swap_5 h.1 ?_
  have h := h.2
  refine r_nm (fun y1 ey1 => ?_)
  have h := h y1 ey1
  refine r_istore_n (L2 := [(2, t), (0, x1), (0, x2), (0, y1)]) d_X1_swap_6 (by decide) rfl rfl ?_
  refine r_aload_n (x := t) d_X1_swap_7 rfl o_t.1 ?_
  refine r_getf (j := 2) (t := 2) (x := t_row) d_X1_swap_8 kX1 (by decide) fl_X1_19 o_t.1 o_t.2.1 o_t.2.2.1 o_t.2.2.2 rfl f_t_row ?_
  refine r_iload_n (x := x1) d_X1_swap_11 rfl ?_
  refine r_aload_n (x := t) d_X1_swap_12 rfl o_t.1 ?_
  refine r_getf (j := 2) (t := 2) (x := t_row) d_X1_swap_13 kX1 (by decide) fl_X1_19 o_t.1 o_t.2.1 o_t.2.2.1 o_t.2.2.2 rfl f_t_row ?_
  refine r_iload_n (x := x2) d_X1_swap_16 rfl ?_
  refine x_iald d_X1_swap_17 h.1 ?_
  have h := h.2
  refine x_iast d_X1_swap_18 h.1 ?_
  have h := h.2
  refine r_nmM (fun τ2 eτ2 => ?_)
  have h := h τ2 eτ2
  refine r_aload_n (x := t) d_X1_swap_19 rfl o_t.1 ?_
  refine r_getf (j := 2) (t := 2) (x := t_row) d_X1_swap_20 kX1 (by decide) fl_X1_19 o_t.1 o_t.2.1 o_t.2.2.1 o_t.2.2.2 rfl f_t_row ?_
  refine r_iload_n (x := x2) d_X1_swap_23 rfl ?_
  refine r_iload_n (x := y1) d_X1_swap_24 rfl ?_
  refine x_iast d_X1_swap_25 h.1 ?_
  have h := h.2
  refine r_nmM (fun τ3 eτ3 => ?_)
  have h := h τ3 eτ3
  exact r_vret d_X1_swap_26 rfl (Nat.le_refl 0) (Nat.le_refl 0) ⟨rfl, rfl, rfl, h⟩
