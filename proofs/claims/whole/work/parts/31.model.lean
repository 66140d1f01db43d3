theorem d_X12_ends_0 : DC mX12_ends 0 (.aload_n 0) 1 1 := ⟨by decide +kernel, rfl⟩
theorem d_X12_ends_1 : DC mX12_ends 1 (.aload_n 0) 1 2 := ⟨by decide +kernel, rfl⟩
theorem d_X12_ends_2 : DC mX12_ends 2 (.getfield 102) 3 5 := ⟨by decide +kernel, rfl⟩
theorem d_X12_ends_5 : DC mX12_ends 5 (.putfield 187) 3 8 := ⟨by decide +kernel, rfl⟩
theorem d_X12_ends_8 : DC mX12_ends 8 (.aload_n 0) 1 9 := ⟨by decide +kernel, rfl⟩
theorem d_X12_ends_9 : DC mX12_ends 9 (.getfield 102) 3 12 := ⟨by decide +kernel, rfl⟩
theorem d_X12_ends_12 : DC mX12_ends 12 (.ifCond .ne 11) 3 15 := ⟨by decide +kernel, rfl⟩
theorem d_X12_ends_15 : DC mX12_ends 15 (.aload_n 0) 1 16 := ⟨by decide +kernel, rfl⟩
theorem d_X12_ends_16 : DC mX12_ends 16 (.iload_n 1) 1 17 := ⟨by decide +kernel, rfl⟩
theorem d_X12_ends_17 : DC mX12_ends 17 (.invokevirtual 190) 3 20 := ⟨by decide +kernel, rfl⟩
theorem d_X12_ends_20 : DC mX12_ends 20 (.goto 11) 3 23 := ⟨by decide +kernel, rfl⟩
theorem d_X12_ends_23 : DC mX12_ends 23 (.aload_n 0) 1 24 := ⟨by decide +kernel, rfl⟩
theorem d_X12_ends_24 : DC mX12_ends 24 (.aload_n 0) 1 25 := ⟨by decide +kernel, rfl⟩
theorem d_X12_ends_25 : DC mX12_ends 25 (.getfield 102) 3 28 := ⟨by decide +kernel, rfl⟩
theorem d_X12_ends_28 : DC mX12_ends 28 (.invokevirtual 193) 3 31 := ⟨by decide +kernel, rfl⟩
theorem d_X12_ends_31 : DC mX12_ends 31 (.ireturn) 1 32 := ⟨by decide +kernel, rfl⟩
theorem d_X12_becomes_0 : DC mX12_becomes 0 (.aload_n 0) 1 1 := ⟨by decide +kernel, rfl⟩
theorem d_X12_becomes_1 : DC mX12_becomes 1 (.invokevirtual 196) 3 4 := ⟨by decide +kernel, rfl⟩
theorem d_X12_becomes_4 : DC mX12_becomes 4 (.aload_n 0) 1 5 := ⟨by decide +kernel, rfl⟩
theorem d_X12_becomes_5 : DC mX12_becomes 5 (.getfield 30) 3 8 := ⟨by decide +kernel, rfl⟩
theorem d_X12_becomes_8 : DC mX12_becomes 8 (.iconst 0) 1 9 := ⟨by decide +kernel, rfl⟩
theorem d_X12_becomes_9 : DC mX12_becomes 9 (.aload_n 0) 1 10 := ⟨by decide +kernel, rfl⟩
theorem d_X12_becomes_10 : DC mX12_becomes 10 (.getfield 20) 3 13 := ⟨by decide +kernel, rfl⟩
theorem d_X12_becomes_13 : DC mX12_becomes 13 (.sipush 161) 3 16 := ⟨by decide +kernel, rfl⟩
theorem d_X12_becomes_16 : DC mX12_becomes 16 (.iload_n 1) 1 17 := ⟨by decide +kernel, rfl⟩
theorem d_X12_becomes_17 : DC mX12_becomes 17 (.imul) 1 18 := ⟨by decide +kernel, rfl⟩
theorem d_X12_becomes_18 : DC mX12_becomes 18 (.sipush 161) 3 21 := ⟨by decide +kernel, rfl⟩
theorem d_X12_becomes_21 : DC mX12_becomes 21 (.invokestatic 98) 3 24 := ⟨by decide +kernel, rfl⟩
theorem d_X12_becomes_24 : DC mX12_becomes 24 (.aload_n 0) 1 25 := ⟨by decide +kernel, rfl⟩
theorem d_X12_becomes_25 : DC mX12_becomes 25 (.iconst 0) 1 26 := ⟨by decide +kernel, rfl⟩
theorem d_X12_becomes_26 : DC mX12_becomes 26 (.invokevirtual 113) 3 29 := ⟨by decide +kernel, rfl⟩
theorem d_X12_becomes_29 : DC mX12_becomes 29 (.ireturn) 1 30 := ⟨by decide +kernel, rfl⟩
theorem d_X12_refused_0 : DC mX12_refused 0 (.aload_n 0) 1 1 := ⟨by decide +kernel, rfl⟩
theorem d_X12_refused_1 : DC mX12_refused 1 (.iconst 0) 1 2 := ⟨by decide +kernel, rfl⟩
theorem d_X12_refused_2 : DC mX12_refused 2 (.putfield 187) 3 5 := ⟨by decide +kernel, rfl⟩
theorem d_X12_refused_5 : DC mX12_refused 5 (.iload_n 1) 1 6 := ⟨by decide +kernel, rfl⟩
theorem d_X12_refused_6 : DC mX12_refused 6 (.ireturn) 1 7 := ⟨by decide +kernel, rfl⟩
theorem d_X12_why_0 : DC mX12_why 0 (.aload_n 0) 1 1 := ⟨by decide +kernel, rfl⟩
theorem d_X12_why_1 : DC mX12_why 1 (.iconst 0) 1 2 := ⟨by decide +kernel, rfl⟩
theorem d_X12_why_2 : DC mX12_why 2 (.putfield 1) 3 5 := ⟨by decide +kernel, rfl⟩
theorem d_X12_why_5 : DC mX12_why 5 (.aload_n 0) 1 6 := ⟨by decide +kernel, rfl⟩
theorem d_X12_why_6 : DC mX12_why 6 (.getfield 187) 3 9 := ⟨by decide +kernel, rfl⟩
theorem d_X12_why_9 : DC mX12_why 9 (.ireturn) 1 10 := ⟨by decide +kernel, rfl⟩
theorem d_X12_clear_0 : DC mX12_clear 0 (.aload_n 0) 1 1 := ⟨by decide +kernel, rfl⟩
theorem d_X12_clear_1 : DC mX12_clear 1 (.iconst 0) 1 2 := ⟨by decide +kernel, rfl⟩
theorem d_X12_clear_2 : DC mX12_clear 2 (.putfield 1) 3 5 := ⟨by decide +kernel, rfl⟩
theorem d_X12_clear_5 : DC mX12_clear 5 (.iload_n 1) 1 6 := ⟨by decide +kernel, rfl⟩
theorem d_X12_clear_6 : DC mX12_clear 6 (.invokestatic 199) 3 9 := ⟨by decide +kernel, rfl⟩
theorem d_X12_clear_9 : DC mX12_clear 9 (.ifCond .ne 6) 3 12 := ⟨by decide +kernel, rfl⟩
theorem d_X12_clear_12 : DC mX12_clear 12 (.bipush (-2)) 2 14 := ⟨by decide +kernel, rfl⟩
theorem d_X12_clear_14 : DC mX12_clear 14 (.ireturn) 1 15 := ⟨by decide +kernel, rfl⟩
theorem d_X12_clear_15 : DC mX12_clear 15 (.aload_n 0) 1 16 := ⟨by decide +kernel, rfl⟩
theorem d_X12_clear_16 : DC mX12_clear 16 (.invokevirtual 202) 3 19 := ⟨by decide +kernel, rfl⟩
theorem d_X12_clear_19 : DC mX12_clear 19 (.aload_n 0) 1 20 := ⟨by decide +kernel, rfl⟩
theorem d_X12_clear_20 : DC mX12_clear 20 (.getfield 20) 3 23 := ⟨by decide +kernel, rfl⟩
theorem d_X12_clear_23 : DC mX12_clear 23 (.sipush 161) 3 26 := ⟨by decide +kernel, rfl⟩
theorem d_X12_clear_26 : DC mX12_clear 26 (.iload_n 1) 1 27 := ⟨by decide +kernel, rfl⟩
theorem d_X12_clear_27 : DC mX12_clear 27 (.imul) 1 28 := ⟨by decide +kernel, rfl⟩
theorem d_X12_clear_28 : DC mX12_clear 28 (.iaload) 1 29 := ⟨by decide +kernel, rfl⟩
theorem d_X12_clear_29 : DC mX12_clear 29 (.istore_n 2) 1 30 := ⟨by decide +kernel, rfl⟩
theorem d_X12_clear_30 : DC mX12_clear 30 (.aload_n 0) 1 31 := ⟨by decide +kernel, rfl⟩
theorem d_X12_clear_31 : DC mX12_clear 31 (.iload_n 1) 1 32 := ⟨by decide +kernel, rfl⟩
theorem d_X12_clear_32 : DC mX12_clear 32 (.invokevirtual 190) 3 35 := ⟨by decide +kernel, rfl⟩
theorem d_X12_clear_35 : DC mX12_clear 35 (.istore_n 3) 1 36 := ⟨by decide +kernel, rfl⟩
theorem d_X12_clear_36 : DC mX12_clear 36 (.iload_n 2) 1 37 := ⟨by decide +kernel, rfl⟩
theorem d_X12_clear_37 : DC mX12_clear 37 (.ireturn) 1 38 := ⟨by decide +kernel, rfl⟩
theorem d_X12_copy_0 : DC mX12_copy 0 (.aload_n 0) 1 1 := ⟨by decide +kernel, rfl⟩
theorem d_X12_copy_1 : DC mX12_copy 1 (.iconst 0) 1 2 := ⟨by decide +kernel, rfl⟩
theorem d_X12_copy_2 : DC mX12_copy 2 (.putfield 1) 3 5 := ⟨by decide +kernel, rfl⟩
theorem d_X12_copy_5 : DC mX12_copy 5 (.iload_n 1) 1 6 := ⟨by decide +kernel, rfl⟩
theorem d_X12_copy_6 : DC mX12_copy 6 (.invokestatic 199) 3 9 := ⟨by decide +kernel, rfl⟩
theorem d_X12_copy_9 : DC mX12_copy 9 (.ifCond .eq 10) 3 12 := ⟨by decide +kernel, rfl⟩
theorem d_X12_copy_12 : DC mX12_copy 12 (.iload_n 2) 1 13 := ⟨by decide +kernel, rfl⟩
theorem d_X12_copy_13 : DC mX12_copy 13 (.invokestatic 199) 3 16 := ⟨by decide +kernel, rfl⟩
theorem d_X12_copy_16 : DC mX12_copy 16 (.ifCond .ne 6) 3 19 := ⟨by decide +kernel, rfl⟩
theorem d_X12_copy_19 : DC mX12_copy 19 (.bipush (-2)) 2 21 := ⟨by decide +kernel, rfl⟩
theorem d_X12_copy_21 : DC mX12_copy 21 (.ireturn) 1 22 := ⟨by decide +kernel, rfl⟩
theorem d_X12_copy_22 : DC mX12_copy 22 (.aload_n 0) 1 23 := ⟨by decide +kernel, rfl⟩
theorem d_X12_copy_23 : DC mX12_copy 23 (.invokevirtual 202) 3 26 := ⟨by decide +kernel, rfl⟩
theorem d_X12_copy_26 : DC mX12_copy 26 (.aload_n 0) 1 27 := ⟨by decide +kernel, rfl⟩
theorem d_X12_copy_27 : DC mX12_copy 27 (.iload_n 2) 1 28 := ⟨by decide +kernel, rfl⟩
theorem d_X12_copy_28 : DC mX12_copy 28 (.iconst 0) 1 29 := ⟨by decide +kernel, rfl⟩
theorem d_X12_copy_29 : DC mX12_copy 29 (.invokevirtual 205) 3 32 := ⟨by decide +kernel, rfl⟩
theorem d_X12_copy_32 : DC mX12_copy 32 (.aload_n 0) 1 33 := ⟨by decide +kernel, rfl⟩
theorem d_X12_copy_33 : DC mX12_copy 33 (.iload_n 1) 1 34 := ⟨by decide +kernel, rfl⟩
theorem d_X12_copy_34 : DC mX12_copy 34 (.invokevirtual 190) 3 37 := ⟨by decide +kernel, rfl⟩
theorem d_X12_copy_37 : DC mX12_copy 37 (.ireturn) 1 38 := ⟨by decide +kernel, rfl⟩
theorem d_X12_putsBracket_0 : DC mX12_putsBracket 0 (.aload_n 0) 1 1 := ⟨by decide +kernel, rfl⟩
theorem d_X12_putsBracket_1 : DC mX12_putsBracket 1 (.getfield 13) 3 4 := ⟨by decide +kernel, rfl⟩
theorem d_X12_putsBracket_4 : DC mX12_putsBracket 4 (.bipush 100) 2 6 := ⟨by decide +kernel, rfl⟩
theorem d_X12_putsBracket_6 : DC mX12_putsBracket 6 (.iload_n 1) 1 7 := ⟨by decide +kernel, rfl⟩
theorem d_X12_putsBracket_7 : DC mX12_putsBracket 7 (.imul) 1 8 := ⟨by decide +kernel, rfl⟩
theorem d_X12_putsBracket_8 : DC mX12_putsBracket 8 (.bipush 10) 2 10 := ⟨by decide +kernel, rfl⟩
theorem d_X12_putsBracket_10 : DC mX12_putsBracket 10 (.iload_n 2) 1 11 := ⟨by decide +kernel, rfl⟩
theorem d_X12_putsBracket_11 : DC mX12_putsBracket 11 (.imul) 1 12 := ⟨by decide +kernel, rfl⟩
theorem d_X12_putsBracket_12 : DC mX12_putsBracket 12 (.iadd) 1 13 := ⟨by decide +kernel, rfl⟩
theorem d_X12_putsBracket_13 : DC mX12_putsBracket 13 (.iload_n 3) 1 14 := ⟨by decide +kernel, rfl⟩
theorem d_X12_putsBracket_14 : DC mX12_putsBracket 14 (.iadd) 1 15 := ⟨by decide +kernel, rfl⟩
theorem d_X12_putsBracket_15 : DC mX12_putsBracket 15 (.iaload) 1 16 := ⟨by decide +kernel, rfl⟩
theorem d_X12_putsBracket_16 : DC mX12_putsBracket 16 (.istore 5) 2 18 := ⟨by decide +kernel, rfl⟩
theorem d_X12_putsBracket_18 : DC mX12_putsBracket 18 (.aload_n 0) 1 19 := ⟨by decide +kernel, rfl⟩
theorem d_X12_putsBracket_19 : DC mX12_putsBracket 19 (.getfield 33) 3 22 := ⟨by decide +kernel, rfl⟩
theorem d_X12_putsBracket_22 : DC mX12_putsBracket 22 (.iconst 0) 1 23 := ⟨by decide +kernel, rfl⟩
theorem d_X12_putsBracket_23 : DC mX12_putsBracket 23 (.iload 5) 2 25 := ⟨by decide +kernel, rfl⟩
theorem d_X12_putsBracket_25 : DC mX12_putsBracket 25 (.invokestatic 168) 3 28 := ⟨by decide +kernel, rfl⟩
theorem d_X12_putsBracket_28 : DC mX12_putsBracket 28 (.iastore) 1 29 := ⟨by decide +kernel, rfl⟩
theorem d_X12_putsBracket_29 : DC mX12_putsBracket 29 (.iload 5) 2 31 := ⟨by decide +kernel, rfl⟩
theorem d_X12_putsBracket_31 : DC mX12_putsBracket 31 (.ifCond .eq 27) 3 34 := ⟨by decide +kernel, rfl⟩
theorem d_X12_putsBracket_34 : DC mX12_putsBracket 34 (.aload_n 0) 1 35 := ⟨by decide +kernel, rfl⟩
theorem d_X12_putsBracket_35 : DC mX12_putsBracket 35 (.iload 4) 2 37 := ⟨by decide +kernel, rfl⟩
theorem d_X12_putsBracket_37 : DC mX12_putsBracket 37 (.aload_n 0) 1 38 := ⟨by decide +kernel, rfl⟩
theorem d_X12_putsBracket_38 : DC mX12_putsBracket 38 (.iconst 1) 1 39 := ⟨by decide +kernel, rfl⟩
theorem d_X12_putsBracket_39 : DC mX12_putsBracket 39 (.invokevirtual 141) 3 42 := ⟨by decide +kernel, rfl⟩
theorem d_X12_putsBracket_42 : DC mX12_putsBracket 42 (.iload 5) 2 44 := ⟨by decide +kernel, rfl⟩
theorem d_X12_putsBracket_44 : DC mX12_putsBracket 44 (.ifCond .ge 9) 3 47 := ⟨by decide +kernel, rfl⟩
theorem d_X12_putsBracket_47 : DC mX12_putsBracket 47 (.ldc2_w 166) 3 50 := ⟨by decide +kernel, rfl⟩
theorem d_X12_putsBracket_50 : DC mX12_putsBracket 50 (.goto 4) 3 53 := ⟨by decide +kernel, rfl⟩
theorem d_X12_putsBracket_53 : DC mX12_putsBracket 53 (.lconst 1) 1 54 := ⟨by decide +kernel, rfl⟩
theorem d_X12_putsBracket_54 : DC mX12_putsBracket 54 (.invokevirtual 147) 3 57 := ⟨by decide +kernel, rfl⟩
theorem d_X12_putsBracket_57 : DC mX12_putsBracket 57 (.pop) 1 58 := ⟨by decide +kernel, rfl⟩
theorem d_X12_putsBracket_58 : DC mX12_putsBracket 58 (.return_) 1 59 := ⟨by decide +kernel, rfl⟩
theorem d_X12_bracket_0 : DC mX12_bracket 0 (.aload_n 0) 1 1 := ⟨by decide +kernel, rfl⟩
theorem d_X12_bracket_1 : DC mX12_bracket 1 (.iconst 0) 1 2 := ⟨by decide +kernel, rfl⟩
theorem d_X12_bracket_2 : DC mX12_bracket 2 (.putfield 1) 3 5 := ⟨by decide +kernel, rfl⟩
theorem d_X12_bracket_5 : DC mX12_bracket 5 (.iload_n 1) 1 6 := ⟨by decide +kernel, rfl⟩
theorem d_X12_bracket_6 : DC mX12_bracket 6 (.invokestatic 199) 3 9 := ⟨by decide +kernel, rfl⟩
theorem d_X12_bracket_9 : DC mX12_bracket 9 (.ifCond .eq 25) 3 12 := ⟨by decide +kernel, rfl⟩
theorem d_X12_bracket_12 : DC mX12_bracket 12 (.iload_n 2) 1 13 := ⟨by decide +kernel, rfl⟩
theorem d_X12_bracket_13 : DC mX12_bracket 13 (.invokestatic 208) 3 16 := ⟨by decide +kernel, rfl⟩
theorem d_X12_bracket_16 : DC mX12_bracket 16 (.ifCond .eq 18) 3 19 := ⟨by decide +kernel, rfl⟩
theorem d_X12_bracket_19 : DC mX12_bracket 19 (.iload_n 3) 1 20 := ⟨by decide +kernel, rfl⟩
theorem d_X12_bracket_20 : DC mX12_bracket 20 (.invokestatic 208) 3 23 := ⟨by decide +kernel, rfl⟩
theorem d_X12_bracket_23 : DC mX12_bracket 23 (.ifCond .eq 11) 3 26 := ⟨by decide +kernel, rfl⟩
theorem d_X12_bracket_26 : DC mX12_bracket 26 (.iload 4) 2 28 := ⟨by decide +kernel, rfl⟩
theorem d_X12_bracket_28 : DC mX12_bracket 28 (.invokestatic 208) 3 31 := ⟨by decide +kernel, rfl⟩
theorem d_X12_bracket_31 : DC mX12_bracket 31 (.ifCond .ne 6) 3 34 := ⟨by decide +kernel, rfl⟩
theorem d_X12_bracket_34 : DC mX12_bracket 34 (.bipush (-2)) 2 36 := ⟨by decide +kernel, rfl⟩
theorem d_X12_bracket_36 : DC mX12_bracket 36 (.ireturn) 1 37 := ⟨by decide +kernel, rfl⟩
theorem d_X12_bracket_37 : DC mX12_bracket 37 (.aload_n 0) 1 38 := ⟨by decide +kernel, rfl⟩
theorem d_X12_bracket_38 : DC mX12_bracket 38 (.invokevirtual 202) 3 41 := ⟨by decide +kernel, rfl⟩
theorem d_X12_bracket_41 : DC mX12_bracket 41 (.aload_n 0) 1 42 := ⟨by decide +kernel, rfl⟩
theorem d_X12_bracket_42 : DC mX12_bracket 42 (.iload_n 2) 1 43 := ⟨by decide +kernel, rfl⟩
theorem d_X12_bracket_43 : DC mX12_bracket 43 (.iload_n 3) 1 44 := ⟨by decide +kernel, rfl⟩
theorem d_X12_bracket_44 : DC mX12_bracket 44 (.iload 4) 2 46 := ⟨by decide +kernel, rfl⟩
theorem d_X12_bracket_46 : DC mX12_bracket 46 (.iconst 0) 1 47 := ⟨by decide +kernel, rfl⟩
theorem d_X12_bracket_47 : DC mX12_bracket 47 (.invokevirtual 211) 3 50 := ⟨by decide +kernel, rfl⟩
theorem d_X12_bracket_50 : DC mX12_bracket 50 (.aload_n 0) 1 51 := ⟨by decide +kernel, rfl⟩
theorem d_X12_bracket_51 : DC mX12_bracket 51 (.iload_n 1) 1 52 := ⟨by decide +kernel, rfl⟩
theorem d_X12_bracket_52 : DC mX12_bracket 52 (.invokevirtual 190) 3 55 := ⟨by decide +kernel, rfl⟩
theorem d_X12_bracket_55 : DC mX12_bracket 55 (.ireturn) 1 56 := ⟨by decide +kernel, rfl⟩
theorem d_X12_exchange_0 : DC mX12_exchange 0 (.aload_n 0) 1 1 := ⟨by decide +kernel, rfl⟩
theorem d_X12_exchange_1 : DC mX12_exchange 1 (.iconst 0) 1 2 := ⟨by decide +kernel, rfl⟩
theorem d_X12_exchange_2 : DC mX12_exchange 2 (.putfield 1) 3 5 := ⟨by decide +kernel, rfl⟩
theorem d_X12_exchange_5 : DC mX12_exchange 5 (.iload_n 1) 1 6 := ⟨by decide +kernel, rfl⟩
theorem d_X12_exchange_6 : DC mX12_exchange 6 (.invokestatic 199) 3 9 := ⟨by decide +kernel, rfl⟩
theorem d_X12_exchange_9 : DC mX12_exchange 9 (.ifCond .ne 6) 3 12 := ⟨by decide +kernel, rfl⟩
theorem d_X12_exchange_12 : DC mX12_exchange 12 (.bipush (-2)) 2 14 := ⟨by decide +kernel, rfl⟩
theorem d_X12_exchange_14 : DC mX12_exchange 14 (.ireturn) 1 15 := ⟨by decide +kernel, rfl⟩
theorem d_X12_exchange_15 : DC mX12_exchange 15 (.iload_n 2) 1 16 := ⟨by decide +kernel, rfl⟩
theorem d_X12_exchange_16 : DC mX12_exchange 16 (.i2l) 1 17 := ⟨by decide +kernel, rfl⟩
theorem d_X12_exchange_17 : DC mX12_exchange 17 (.lconst 0) 1 18 := ⟨by decide +kernel, rfl⟩
theorem d_X12_exchange_18 : DC mX12_exchange 18 (.ldc2_w 214) 3 21 := ⟨by decide +kernel, rfl⟩
theorem d_X12_exchange_21 : DC mX12_exchange 21 (.invokestatic 91) 3 24 := ⟨by decide +kernel, rfl⟩
theorem d_X12_exchange_24 : DC mX12_exchange 24 (.ifCond .eq 28) 3 27 := ⟨by decide +kernel, rfl⟩
theorem d_X12_exchange_27 : DC mX12_exchange 27 (.iload_n 3) 1 28 := ⟨by decide +kernel, rfl⟩
theorem d_X12_exchange_28 : DC mX12_exchange 28 (.i2l) 1 29 := ⟨by decide +kernel, rfl⟩
theorem d_X12_exchange_29 : DC mX12_exchange 29 (.lconst 0) 1 30 := ⟨by decide +kernel, rfl⟩
theorem d_X12_exchange_30 : DC mX12_exchange 30 (.ldc2_w 214) 3 33 := ⟨by decide +kernel, rfl⟩
theorem d_X12_exchange_33 : DC mX12_exchange 33 (.invokestatic 91) 3 36 := ⟨by decide +kernel, rfl⟩
theorem d_X12_exchange_36 : DC mX12_exchange 36 (.ifCond .eq 16) 3 39 := ⟨by decide +kernel, rfl⟩
theorem d_X12_exchange_39 : DC mX12_exchange 39 (.iload 4) 2 41 := ⟨by decide +kernel, rfl⟩
theorem d_X12_exchange_41 : DC mX12_exchange 41 (.i2l) 1 42 := ⟨by decide +kernel, rfl⟩
theorem d_X12_exchange_42 : DC mX12_exchange 42 (.lconst 1) 1 43 := ⟨by decide +kernel, rfl⟩
theorem d_X12_exchange_43 : DC mX12_exchange 43 (.ldc2_w 216) 3 46 := ⟨by decide +kernel, rfl⟩
theorem d_X12_exchange_46 : DC mX12_exchange 46 (.invokestatic 91) 3 49 := ⟨by decide +kernel, rfl⟩
theorem d_X12_exchange_49 : DC mX12_exchange 49 (.ifCond .ne 6) 3 52 := ⟨by decide +kernel, rfl⟩
theorem d_X12_exchange_52 : DC mX12_exchange 52 (.bipush (-3)) 2 54 := ⟨by decide +kernel, rfl⟩
theorem d_X12_exchange_54 : DC mX12_exchange 54 (.ireturn) 1 55 := ⟨by decide +kernel, rfl⟩
theorem d_X12_exchange_55 : DC mX12_exchange 55 (.aload_n 0) 1 56 := ⟨by decide +kernel, rfl⟩
theorem d_X12_exchange_56 : DC mX12_exchange 56 (.invokevirtual 202) 3 59 := ⟨by decide +kernel, rfl⟩
theorem d_X12_exchange_59 : DC mX12_exchange 59 (.iconst 0) 1 60 := ⟨by decide +kernel, rfl⟩
theorem d_X12_exchange_60 : DC mX12_exchange 60 (.istore 5) 2 62 := ⟨by decide +kernel, rfl⟩
theorem d_X12_exchange_62 : DC mX12_exchange 62 (.iload 5) 2 64 := ⟨by decide +kernel, rfl⟩
theorem d_X12_exchange_64 : DC mX12_exchange 64 (.iconst 3) 1 65 := ⟨by decide +kernel, rfl⟩
theorem d_X12_exchange_65 : DC mX12_exchange 65 (.if_icmp .ge 61) 3 68 := ⟨by decide +kernel, rfl⟩
theorem d_X12_exchange_68 : DC mX12_exchange 68 (.iload 5) 2 70 := ⟨by decide +kernel, rfl⟩
theorem d_X12_exchange_70 : DC mX12_exchange 70 (.ifCond .ne 8) 3 73 := ⟨by decide +kernel, rfl⟩
theorem d_X12_exchange_73 : DC mX12_exchange 73 (.bipush 100) 2 75 := ⟨by decide +kernel, rfl⟩
theorem d_X12_exchange_75 : DC mX12_exchange 75 (.goto 15) 3 78 := ⟨by decide +kernel, rfl⟩
theorem d_X12_exchange_78 : DC mX12_exchange 78 (.iload 5) 2 80 := ⟨by decide +kernel, rfl⟩
theorem d_X12_exchange_80 : DC mX12_exchange 80 (.iconst 1) 1 81 := ⟨by decide +kernel, rfl⟩
theorem d_X12_exchange_81 : DC mX12_exchange 81 (.if_icmp .ne 8) 3 84 := ⟨by decide +kernel, rfl⟩
theorem d_X12_exchange_84 : DC mX12_exchange 84 (.bipush 10) 2 86 := ⟨by decide +kernel, rfl⟩
theorem d_X12_exchange_86 : DC mX12_exchange 86 (.goto 4) 3 89 := ⟨by decide +kernel, rfl⟩
theorem d_X12_exchange_89 : DC mX12_exchange 89 (.iconst 1) 1 90 := ⟨by decide +kernel, rfl⟩
theorem d_X12_exchange_90 : DC mX12_exchange 90 (.istore 6) 2 92 := ⟨by decide +kernel, rfl⟩
theorem d_X12_exchange_92 : DC mX12_exchange 92 (.aload_n 0) 1 93 := ⟨by decide +kernel, rfl⟩
theorem d_X12_exchange_93 : DC mX12_exchange 93 (.getfield 36) 3 96 := ⟨by decide +kernel, rfl⟩
theorem d_X12_exchange_96 : DC mX12_exchange 96 (.iload 5) 2 98 := ⟨by decide +kernel, rfl⟩
theorem d_X12_exchange_98 : DC mX12_exchange 98 (.iload_n 2) 1 99 := ⟨by decide +kernel, rfl⟩
theorem d_X12_exchange_99 : DC mX12_exchange 99 (.iload 6) 2 101 := ⟨by decide +kernel, rfl⟩
theorem d_X12_exchange_101 : DC mX12_exchange 101 (.idiv) 1 102 := ⟨by decide +kernel, rfl⟩
theorem d_X12_exchange_102 : DC mX12_exchange 102 (.bipush 10) 2 104 := ⟨by decide +kernel, rfl⟩
theorem d_X12_exchange_104 : DC mX12_exchange 104 (.irem) 1 105 := ⟨by decide +kernel, rfl⟩
theorem d_X12_exchange_105 : DC mX12_exchange 105 (.iastore) 1 106 := ⟨by decide +kernel, rfl⟩
theorem d_X12_exchange_106 : DC mX12_exchange 106 (.aload_n 0) 1 107 := ⟨by decide +kernel, rfl⟩
theorem d_X12_exchange_107 : DC mX12_exchange 107 (.getfield 39) 3 110 := ⟨by decide +kernel, rfl⟩
theorem d_X12_exchange_110 : DC mX12_exchange 110 (.iload 5) 2 112 := ⟨by decide +kernel, rfl⟩
theorem d_X12_exchange_112 : DC mX12_exchange 112 (.iload_n 3) 1 113 := ⟨by decide +kernel, rfl⟩
theorem d_X12_exchange_113 : DC mX12_exchange 113 (.iload 6) 2 115 := ⟨by decide +kernel, rfl⟩
theorem d_X12_exchange_115 : DC mX12_exchange 115 (.idiv) 1 116 := ⟨by decide +kernel, rfl⟩
theorem d_X12_exchange_116 : DC mX12_exchange 116 (.bipush 10) 2 118 := ⟨by decide +kernel, rfl⟩
theorem d_X12_exchange_118 : DC mX12_exchange 118 (.irem) 1 119 := ⟨by decide +kernel, rfl⟩
theorem d_X12_exchange_119 : DC mX12_exchange 119 (.iastore) 1 120 := ⟨by decide +kernel, rfl⟩
theorem d_X12_exchange_120 : DC mX12_exchange 120 (.iinc 5 1) 3 123 := ⟨by decide +kernel, rfl⟩
theorem d_X12_exchange_123 : DC mX12_exchange 123 (.goto (-61)) 3 126 := ⟨by decide +kernel, rfl⟩
theorem d_X12_exchange_126 : DC mX12_exchange 126 (.aload_n 0) 1 127 := ⟨by decide +kernel, rfl⟩
theorem d_X12_exchange_127 : DC mX12_exchange 127 (.iload 4) 2 129 := ⟨by decide +kernel, rfl⟩
theorem d_X12_exchange_129 : DC mX12_exchange 129 (.iconst 0) 1 130 := ⟨by decide +kernel, rfl⟩
theorem d_X12_exchange_130 : DC mX12_exchange 130 (.lconst 1) 1 131 := ⟨by decide +kernel, rfl⟩
theorem d_X12_exchange_131 : DC mX12_exchange 131 (.iconst 0) 1 132 := ⟨by decide +kernel, rfl⟩
theorem d_X12_exchange_132 : DC mX12_exchange 132 (.invokevirtual 174) 3 135 := ⟨by decide +kernel, rfl⟩
theorem d_X12_exchange_135 : DC mX12_exchange 135 (.aload_n 0) 1 136 := ⟨by decide +kernel, rfl⟩
theorem d_X12_exchange_136 : DC mX12_exchange 136 (.iload_n 1) 1 137 := ⟨by decide +kernel, rfl⟩
theorem d_X12_exchange_137 : DC mX12_exchange 137 (.invokevirtual 190) 3 140 := ⟨by decide +kernel, rfl⟩
theorem d_X12_exchange_140 : DC mX12_exchange 140 (.ireturn) 1 141 := ⟨by decide +kernel, rfl⟩
theorem d_X12_putsTimes_0 : DC mX12_putsTimes 0 (.aload_n 0) 1 1 := ⟨by decide +kernel, rfl⟩
theorem d_X12_putsTimes_1 : DC mX12_putsTimes 1 (.iload_n 1) 1 2 := ⟨by decide +kernel, rfl⟩
theorem d_X12_putsTimes_2 : DC mX12_putsTimes 2 (.iconst 1) 1 3 := ⟨by decide +kernel, rfl⟩
theorem d_X12_putsTimes_3 : DC mX12_putsTimes 3 (.invokevirtual 205) 3 6 := ⟨by decide +kernel, rfl⟩
theorem d_X12_putsTimes_6 : DC mX12_putsTimes 6 (.iconst 0) 1 7 := ⟨by decide +kernel, rfl⟩
theorem d_X12_putsTimes_7 : DC mX12_putsTimes 7 (.istore_n 3) 1 8 := ⟨by decide +kernel, rfl⟩
theorem d_X12_putsTimes_8 : DC mX12_putsTimes 8 (.iload_n 3) 1 9 := ⟨by decide +kernel, rfl⟩
theorem d_X12_putsTimes_9 : DC mX12_putsTimes 9 (.aload_n 0) 1 10 := ⟨by decide +kernel, rfl⟩
theorem d_X12_putsTimes_10 : DC mX12_putsTimes 10 (.iconst 1) 1 11 := ⟨by decide +kernel, rfl⟩
theorem d_X12_putsTimes_11 : DC mX12_putsTimes 11 (.invokevirtual 113) 3 14 := ⟨by decide +kernel, rfl⟩
theorem d_X12_putsTimes_14 : DC mX12_putsTimes 14 (.if_icmp .ge 31) 3 17 := ⟨by decide +kernel, rfl⟩
theorem d_X12_putsTimes_17 : DC mX12_putsTimes 17 (.aload_n 0) 1 18 := ⟨by decide +kernel, rfl⟩
theorem d_X12_putsTimes_18 : DC mX12_putsTimes 18 (.iconst 0) 1 19 := ⟨by decide +kernel, rfl⟩
theorem d_X12_putsTimes_19 : DC mX12_putsTimes 19 (.aload_n 0) 1 20 := ⟨by decide +kernel, rfl⟩
theorem d_X12_putsTimes_20 : DC mX12_putsTimes 20 (.iconst 1) 1 21 := ⟨by decide +kernel, rfl⟩
theorem d_X12_putsTimes_21 : DC mX12_putsTimes 21 (.iload_n 3) 1 22 := ⟨by decide +kernel, rfl⟩
theorem d_X12_putsTimes_22 : DC mX12_putsTimes 22 (.invokevirtual 117) 3 25 := ⟨by decide +kernel, rfl⟩
theorem d_X12_putsTimes_25 : DC mX12_putsTimes 25 (.iload_n 2) 1 26 := ⟨by decide +kernel, rfl⟩
theorem d_X12_putsTimes_26 : DC mX12_putsTimes 26 (.i2l) 1 27 := ⟨by decide +kernel, rfl⟩
theorem d_X12_putsTimes_27 : DC mX12_putsTimes 27 (.aload_n 0) 1 28 := ⟨by decide +kernel, rfl⟩
theorem d_X12_putsTimes_28 : DC mX12_putsTimes 28 (.iconst 1) 1 29 := ⟨by decide +kernel, rfl⟩
theorem d_X12_putsTimes_29 : DC mX12_putsTimes 29 (.iload_n 3) 1 30 := ⟨by decide +kernel, rfl⟩
theorem d_X12_putsTimes_30 : DC mX12_putsTimes 30 (.invokevirtual 132) 3 33 := ⟨by decide +kernel, rfl⟩
theorem d_X12_putsTimes_33 : DC mX12_putsTimes 33 (.i2l) 1 34 := ⟨by decide +kernel, rfl⟩
theorem d_X12_putsTimes_34 : DC mX12_putsTimes 34 (.lmul) 1 35 := ⟨by decide +kernel, rfl⟩
theorem d_X12_putsTimes_35 : DC mX12_putsTimes 35 (.invokevirtual 147) 3 38 := ⟨by decide +kernel, rfl⟩
theorem d_X12_putsTimes_38 : DC mX12_putsTimes 38 (.pop) 1 39 := ⟨by decide +kernel, rfl⟩
theorem d_X12_putsTimes_39 : DC mX12_putsTimes 39 (.iinc 3 1) 3 42 := ⟨by decide +kernel, rfl⟩
theorem d_X12_putsTimes_42 : DC mX12_putsTimes 42 (.goto (-34)) 3 45 := ⟨by decide +kernel, rfl⟩
theorem d_X12_putsTimes_45 : DC mX12_putsTimes 45 (.return_) 1 46 := ⟨by decide +kernel, rfl⟩
theorem d_X12_add_0 : DC mX12_add 0 (.aload_n 0) 1 1 := ⟨by decide +kernel, rfl⟩
theorem d_X12_add_1 : DC mX12_add 1 (.iconst 0) 1 2 := ⟨by decide +kernel, rfl⟩
theorem d_X12_add_2 : DC mX12_add 2 (.putfield 1) 3 5 := ⟨by decide +kernel, rfl⟩
theorem d_X12_add_5 : DC mX12_add 5 (.iload_n 1) 1 6 := ⟨by decide +kernel, rfl⟩
theorem d_X12_add_6 : DC mX12_add 6 (.invokestatic 199) 3 9 := ⟨by decide +kernel, rfl⟩
theorem d_X12_add_9 : DC mX12_add 9 (.ifCond .eq 18) 3 12 := ⟨by decide +kernel, rfl⟩
theorem d_X12_add_12 : DC mX12_add 12 (.iload_n 2) 1 13 := ⟨by decide +kernel, rfl⟩
theorem d_X12_add_13 : DC mX12_add 13 (.invokestatic 199) 3 16 := ⟨by decide +kernel, rfl⟩
theorem d_X12_add_16 : DC mX12_add 16 (.ifCond .eq 11) 3 19 := ⟨by decide +kernel, rfl⟩
theorem d_X12_add_19 : DC mX12_add 19 (.iload 4) 2 21 := ⟨by decide +kernel, rfl⟩
theorem d_X12_add_21 : DC mX12_add 21 (.invokestatic 199) 3 24 := ⟨by decide +kernel, rfl⟩
theorem d_X12_add_24 : DC mX12_add 24 (.ifCond .ne 10) 3 27 := ⟨by decide +kernel, rfl⟩
theorem d_X12_add_27 : DC mX12_add 27 (.aload_n 0) 1 28 := ⟨by decide +kernel, rfl⟩
theorem d_X12_add_28 : DC mX12_add 28 (.bipush (-2)) 2 30 := ⟨by decide +kernel, rfl⟩
theorem d_X12_add_30 : DC mX12_add 30 (.invokevirtual 218) 3 33 := ⟨by decide +kernel, rfl⟩
theorem d_X12_add_33 : DC mX12_add 33 (.ireturn) 1 34 := ⟨by decide +kernel, rfl⟩
theorem d_X12_add_34 : DC mX12_add 34 (.iload_n 3) 1 35 := ⟨by decide +kernel, rfl⟩
theorem d_X12_add_35 : DC mX12_add 35 (.i2l) 1 36 := ⟨by decide +kernel, rfl⟩
theorem d_X12_add_36 : DC mX12_add 36 (.ldc2_w 221) 3 39 := ⟨by decide +kernel, rfl⟩
theorem d_X12_add_39 : DC mX12_add 39 (.ldc2_w 223) 3 42 := ⟨by decide +kernel, rfl⟩
theorem d_X12_add_42 : DC mX12_add 42 (.invokestatic 91) 3 45 := ⟨by decide +kernel, rfl⟩
theorem d_X12_add_45 : DC mX12_add 45 (.ifCond .eq 18) 3 48 := ⟨by decide +kernel, rfl⟩
theorem d_X12_add_48 : DC mX12_add 48 (.iload 5) 2 50 := ⟨by decide +kernel, rfl⟩
theorem d_X12_add_50 : DC mX12_add 50 (.i2l) 1 51 := ⟨by decide +kernel, rfl⟩
theorem d_X12_add_51 : DC mX12_add 51 (.ldc2_w 221) 3 54 := ⟨by decide +kernel, rfl⟩
theorem d_X12_add_54 : DC mX12_add 54 (.ldc2_w 223) 3 57 := ⟨by decide +kernel, rfl⟩
theorem d_X12_add_57 : DC mX12_add 57 (.invokestatic 91) 3 60 := ⟨by decide +kernel, rfl⟩
theorem d_X12_add_60 : DC mX12_add 60 (.ifCond .ne 10) 3 63 := ⟨by decide +kernel, rfl⟩
theorem d_X12_add_63 : DC mX12_add 63 (.aload_n 0) 1 64 := ⟨by decide +kernel, rfl⟩
theorem d_X12_add_64 : DC mX12_add 64 (.bipush (-3)) 2 66 := ⟨by decide +kernel, rfl⟩
theorem d_X12_add_66 : DC mX12_add 66 (.invokevirtual 218) 3 69 := ⟨by decide +kernel, rfl⟩
theorem d_X12_add_69 : DC mX12_add 69 (.ireturn) 1 70 := ⟨by decide +kernel, rfl⟩
theorem d_X12_add_70 : DC mX12_add 70 (.aload_n 0) 1 71 := ⟨by decide +kernel, rfl⟩
theorem d_X12_add_71 : DC mX12_add 71 (.invokevirtual 202) 3 74 := ⟨by decide +kernel, rfl⟩
theorem d_X12_add_74 : DC mX12_add 74 (.aload_n 0) 1 75 := ⟨by decide +kernel, rfl⟩
theorem d_X12_add_75 : DC mX12_add 75 (.iload_n 2) 1 76 := ⟨by decide +kernel, rfl⟩
theorem d_X12_add_76 : DC mX12_add 76 (.iload_n 3) 1 77 := ⟨by decide +kernel, rfl⟩
theorem d_X12_add_77 : DC mX12_add 77 (.invokevirtual 225) 3 80 := ⟨by decide +kernel, rfl⟩
theorem d_X12_add_80 : DC mX12_add 80 (.aload_n 0) 1 81 := ⟨by decide +kernel, rfl⟩
theorem d_X12_add_81 : DC mX12_add 81 (.iload 4) 2 83 := ⟨by decide +kernel, rfl⟩
theorem d_X12_add_83 : DC mX12_add 83 (.iload 5) 2 85 := ⟨by decide +kernel, rfl⟩
theorem d_X12_add_85 : DC mX12_add 85 (.invokevirtual 225) 3 88 := ⟨by decide +kernel, rfl⟩
theorem d_X12_add_88 : DC mX12_add 88 (.aload_n 0) 1 89 := ⟨by decide +kernel, rfl⟩
theorem d_X12_add_89 : DC mX12_add 89 (.iload_n 1) 1 90 := ⟨by decide +kernel, rfl⟩
theorem d_X12_add_90 : DC mX12_add 90 (.invokevirtual 228) 3 93 := ⟨by decide +kernel, rfl⟩
theorem d_X12_add_93 : DC mX12_add 93 (.ireturn) 1 94 := ⟨by decide +kernel, rfl⟩
theorem d_X12_times_0 : DC mX12_times 0 (.aload_n 0) 1 1 := ⟨by decide +kernel, rfl⟩
theorem d_X12_times_1 : DC mX12_times 1 (.iconst 0) 1 2 := ⟨by decide +kernel, rfl⟩
theorem d_X12_times_2 : DC mX12_times 2 (.putfield 1) 3 5 := ⟨by decide +kernel, rfl⟩
theorem d_X12_times_5 : DC mX12_times 5 (.iload_n 1) 1 6 := ⟨by decide +kernel, rfl⟩
theorem d_X12_times_6 : DC mX12_times 6 (.invokestatic 199) 3 9 := ⟨by decide +kernel, rfl⟩
theorem d_X12_times_9 : DC mX12_times 9 (.ifCond .eq 17) 3 12 := ⟨by decide +kernel, rfl⟩
theorem d_X12_times_12 : DC mX12_times 12 (.iload_n 2) 1 13 := ⟨by decide +kernel, rfl⟩
theorem d_X12_times_13 : DC mX12_times 13 (.invokestatic 199) 3 16 := ⟨by decide +kernel, rfl⟩
theorem d_X12_times_16 : DC mX12_times 16 (.ifCond .eq 10) 3 19 := ⟨by decide +kernel, rfl⟩
theorem d_X12_times_19 : DC mX12_times 19 (.iload_n 3) 1 20 := ⟨by decide +kernel, rfl⟩
theorem d_X12_times_20 : DC mX12_times 20 (.invokestatic 199) 3 23 := ⟨by decide +kernel, rfl⟩
theorem d_X12_times_23 : DC mX12_times 23 (.ifCond .ne 10) 3 26 := ⟨by decide +kernel, rfl⟩
theorem d_X12_times_26 : DC mX12_times 26 (.aload_n 0) 1 27 := ⟨by decide +kernel, rfl⟩
theorem d_X12_times_27 : DC mX12_times 27 (.bipush (-2)) 2 29 := ⟨by decide +kernel, rfl⟩
theorem d_X12_times_29 : DC mX12_times 29 (.invokevirtual 218) 3 32 := ⟨by decide +kernel, rfl⟩
theorem d_X12_times_32 : DC mX12_times 32 (.ireturn) 1 33 := ⟨by decide +kernel, rfl⟩
theorem d_X12_times_33 : DC mX12_times 33 (.aload_n 0) 1 34 := ⟨by decide +kernel, rfl⟩
theorem d_X12_times_34 : DC mX12_times 34 (.invokevirtual 202) 3 37 := ⟨by decide +kernel, rfl⟩
theorem d_X12_times_37 : DC mX12_times 37 (.aload_n 0) 1 38 := ⟨by decide +kernel, rfl⟩
theorem d_X12_times_38 : DC mX12_times 38 (.iload_n 2) 1 39 := ⟨by decide +kernel, rfl⟩
theorem d_X12_times_39 : DC mX12_times 39 (.iconst 1) 1 40 := ⟨by decide +kernel, rfl⟩
theorem d_X12_times_40 : DC mX12_times 40 (.invokevirtual 205) 3 43 := ⟨by decide +kernel, rfl⟩
theorem d_X12_times_43 : DC mX12_times 43 (.aload_n 0) 1 44 := ⟨by decide +kernel, rfl⟩
theorem d_X12_times_44 : DC mX12_times 44 (.iload_n 3) 1 45 := ⟨by decide +kernel, rfl⟩
theorem d_X12_times_45 : DC mX12_times 45 (.iconst 2) 1 46 := ⟨by decide +kernel, rfl⟩
theorem d_X12_times_46 : DC mX12_times 46 (.invokevirtual 205) 3 49 := ⟨by decide +kernel, rfl⟩
theorem d_X12_times_49 : DC mX12_times 49 (.aload_n 0) 1 50 := ⟨by decide +kernel, rfl⟩
theorem d_X12_times_50 : DC mX12_times 50 (.iconst 1) 1 51 := ⟨by decide +kernel, rfl⟩
theorem d_X12_times_51 : DC mX12_times 51 (.iconst 2) 1 52 := ⟨by decide +kernel, rfl⟩
theorem d_X12_times_52 : DC mX12_times 52 (.iconst 1) 1 53 := ⟨by decide +kernel, rfl⟩
theorem d_X12_times_53 : DC mX12_times 53 (.iconst 0) 1 54 := ⟨by decide +kernel, rfl⟩
theorem d_X12_times_54 : DC mX12_times 54 (.invokevirtual 231) 3 57 := ⟨by decide +kernel, rfl⟩
theorem d_X12_times_57 : DC mX12_times 57 (.aload_n 0) 1 58 := ⟨by decide +kernel, rfl⟩
theorem d_X12_times_58 : DC mX12_times 58 (.iload_n 1) 1 59 := ⟨by decide +kernel, rfl⟩
theorem d_X12_times_59 : DC mX12_times 59 (.invokevirtual 228) 3 62 := ⟨by decide +kernel, rfl⟩
theorem d_X12_times_62 : DC mX12_times 62 (.ireturn) 1 63 := ⟨by decide +kernel, rfl⟩
theorem d_X12_putsOther_0 : DC mX12_putsOther 0 (.iload_n 1) 1 1 := ⟨by decide +kernel, rfl⟩
theorem d_X12_putsOther_1 : DC mX12_putsOther 1 (.invokestatic 138) 3 4 := ⟨by decide +kernel, rfl⟩
theorem d_X12_putsOther_4 : DC mX12_putsOther 4 (.istore 4) 2 6 := ⟨by decide +kernel, rfl⟩
theorem d_X12_putsOther_6 : DC mX12_putsOther 6 (.iload_n 2) 1 7 := ⟨by decide +kernel, rfl⟩
theorem d_X12_putsOther_7 : DC mX12_putsOther 7 (.i2l) 1 8 := ⟨by decide +kernel, rfl⟩
theorem d_X12_putsOther_8 : DC mX12_putsOther 8 (.lstore 5) 2 10 := ⟨by decide +kernel, rfl⟩
theorem d_X12_putsOther_10 : DC mX12_putsOther 10 (.iconst 0) 1 11 := ⟨by decide +kernel, rfl⟩
theorem d_X12_putsOther_11 : DC mX12_putsOther 11 (.istore 7) 2 13 := ⟨by decide +kernel, rfl⟩
theorem d_X12_putsOther_13 : DC mX12_putsOther 13 (.iload 7) 2 15 := ⟨by decide +kernel, rfl⟩
theorem d_X12_putsOther_15 : DC mX12_putsOther 15 (.iload 4) 2 17 := ⟨by decide +kernel, rfl⟩
theorem d_X12_putsOther_17 : DC mX12_putsOther 17 (.if_icmp .ge 98) 3 20 := ⟨by decide +kernel, rfl⟩
theorem d_X12_putsOther_20 : DC mX12_putsOther 20 (.iconst 3) 1 21 := ⟨by decide +kernel, rfl⟩
theorem d_X12_putsOther_21 : DC mX12_putsOther 21 (.iload_n 1) 1 22 := ⟨by decide +kernel, rfl⟩
theorem d_X12_putsOther_22 : DC mX12_putsOther 22 (.iload 7) 2 24 := ⟨by decide +kernel, rfl⟩
theorem d_X12_putsOther_24 : DC mX12_putsOther 24 (.invokestatic 135) 3 27 := ⟨by decide +kernel, rfl⟩
theorem d_X12_putsOther_27 : DC mX12_putsOther 27 (.imul) 1 28 := ⟨by decide +kernel, rfl⟩
theorem d_X12_putsOther_28 : DC mX12_putsOther 28 (.istore 8) 2 30 := ⟨by decide +kernel, rfl⟩
theorem d_X12_putsOther_30 : DC mX12_putsOther 30 (.aload_n 0) 1 31 := ⟨by decide +kernel, rfl⟩
theorem d_X12_putsOther_31 : DC mX12_putsOther 31 (.getfield 13) 3 34 := ⟨by decide +kernel, rfl⟩
theorem d_X12_putsOther_34 : DC mX12_putsOther 34 (.bipush 100) 2 36 := ⟨by decide +kernel, rfl⟩
theorem d_X12_putsOther_36 : DC mX12_putsOther 36 (.aload_n 3) 1 37 := ⟨by decide +kernel, rfl⟩
theorem d_X12_putsOther_37 : DC mX12_putsOther 37 (.aload_n 0) 1 38 := ⟨by decide +kernel, rfl⟩
theorem d_X12_putsOther_38 : DC mX12_putsOther 38 (.getfield 17) 3 41 := ⟨by decide +kernel, rfl⟩
theorem d_X12_putsOther_41 : DC mX12_putsOther 41 (.iload 8) 2 43 := ⟨by decide +kernel, rfl⟩
theorem d_X12_putsOther_43 : DC mX12_putsOther 43 (.iaload) 1 44 := ⟨by decide +kernel, rfl⟩
theorem d_X12_putsOther_44 : DC mX12_putsOther 44 (.iaload) 1 45 := ⟨by decide +kernel, rfl⟩
theorem d_X12_putsOther_45 : DC mX12_putsOther 45 (.imul) 1 46 := ⟨by decide +kernel, rfl⟩
theorem d_X12_putsOther_46 : DC mX12_putsOther 46 (.bipush 10) 2 48 := ⟨by decide +kernel, rfl⟩
theorem d_X12_putsOther_48 : DC mX12_putsOther 48 (.aload_n 3) 1 49 := ⟨by decide +kernel, rfl⟩
theorem d_X12_putsOther_49 : DC mX12_putsOther 49 (.aload_n 0) 1 50 := ⟨by decide +kernel, rfl⟩
theorem d_X12_putsOther_50 : DC mX12_putsOther 50 (.getfield 17) 3 53 := ⟨by decide +kernel, rfl⟩
theorem d_X12_putsOther_53 : DC mX12_putsOther 53 (.iload 8) 2 55 := ⟨by decide +kernel, rfl⟩
theorem d_X12_putsOther_55 : DC mX12_putsOther 55 (.iconst 1) 1 56 := ⟨by decide +kernel, rfl⟩
theorem d_X12_putsOther_56 : DC mX12_putsOther 56 (.iadd) 1 57 := ⟨by decide +kernel, rfl⟩
theorem d_X12_putsOther_57 : DC mX12_putsOther 57 (.iaload) 1 58 := ⟨by decide +kernel, rfl⟩
theorem d_X12_putsOther_58 : DC mX12_putsOther 58 (.iaload) 1 59 := ⟨by decide +kernel, rfl⟩
theorem d_X12_putsOther_59 : DC mX12_putsOther 59 (.imul) 1 60 := ⟨by decide +kernel, rfl⟩
theorem d_X12_putsOther_60 : DC mX12_putsOther 60 (.iadd) 1 61 := ⟨by decide +kernel, rfl⟩
theorem d_X12_putsOther_61 : DC mX12_putsOther 61 (.aload_n 3) 1 62 := ⟨by decide +kernel, rfl⟩
theorem d_X12_putsOther_62 : DC mX12_putsOther 62 (.aload_n 0) 1 63 := ⟨by decide +kernel, rfl⟩
theorem d_X12_putsOther_63 : DC mX12_putsOther 63 (.getfield 17) 3 66 := ⟨by decide +kernel, rfl⟩
theorem d_X12_putsOther_66 : DC mX12_putsOther 66 (.iload 8) 2 68 := ⟨by decide +kernel, rfl⟩
theorem d_X12_putsOther_68 : DC mX12_putsOther 68 (.iconst 2) 1 69 := ⟨by decide +kernel, rfl⟩
theorem d_X12_putsOther_69 : DC mX12_putsOther 69 (.iadd) 1 70 := ⟨by decide +kernel, rfl⟩
theorem d_X12_putsOther_70 : DC mX12_putsOther 70 (.iaload) 1 71 := ⟨by decide +kernel, rfl⟩
theorem d_X12_putsOther_71 : DC mX12_putsOther 71 (.iaload) 1 72 := ⟨by decide +kernel, rfl⟩
theorem d_X12_putsOther_72 : DC mX12_putsOther 72 (.iadd) 1 73 := ⟨by decide +kernel, rfl⟩
theorem d_X12_putsOther_73 : DC mX12_putsOther 73 (.iaload) 1 74 := ⟨by decide +kernel, rfl⟩
theorem d_X12_putsOther_74 : DC mX12_putsOther 74 (.istore 9) 2 76 := ⟨by decide +kernel, rfl⟩
theorem d_X12_putsOther_76 : DC mX12_putsOther 76 (.iload 9) 2 78 := ⟨by decide +kernel, rfl⟩
theorem d_X12_putsOther_78 : DC mX12_putsOther 78 (.ifCond .ne 4) 3 81 := ⟨by decide +kernel, rfl⟩
theorem d_X12_putsOther_81 : DC mX12_putsOther 81 (.return_) 1 82 := ⟨by decide +kernel, rfl⟩
theorem d_X12_putsOther_82 : DC mX12_putsOther 82 (.iload 9) 2 84 := ⟨by decide +kernel, rfl⟩
theorem d_X12_putsOther_84 : DC mX12_putsOther 84 (.ifCond .ge 9) 3 87 := ⟨by decide +kernel, rfl⟩
theorem d_X12_putsOther_87 : DC mX12_putsOther 87 (.lload 5) 2 89 := ⟨by decide +kernel, rfl⟩
theorem d_X12_putsOther_89 : DC mX12_putsOther 89 (.lneg) 1 90 := ⟨by decide +kernel, rfl⟩
theorem d_X12_putsOther_90 : DC mX12_putsOther 90 (.goto 5) 3 93 := ⟨by decide +kernel, rfl⟩
theorem d_X12_putsOther_93 : DC mX12_putsOther 93 (.lload 5) 2 95 := ⟨by decide +kernel, rfl⟩
theorem d_X12_putsOther_95 : DC mX12_putsOther 95 (.lstore 5) 2 97 := ⟨by decide +kernel, rfl⟩
theorem d_X12_putsOther_97 : DC mX12_putsOther 97 (.aload_n 0) 1 98 := ⟨by decide +kernel, rfl⟩
theorem d_X12_putsOther_98 : DC mX12_putsOther 98 (.getfield 33) 3 101 := ⟨by decide +kernel, rfl⟩
theorem d_X12_putsOther_101 : DC mX12_putsOther 101 (.iload 7) 2 103 := ⟨by decide +kernel, rfl⟩
theorem d_X12_putsOther_103 : DC mX12_putsOther 103 (.iload 9) 2 105 := ⟨by decide +kernel, rfl⟩
theorem d_X12_putsOther_105 : DC mX12_putsOther 105 (.invokestatic 168) 3 108 := ⟨by decide +kernel, rfl⟩
theorem d_X12_putsOther_108 : DC mX12_putsOther 108 (.iastore) 1 109 := ⟨by decide +kernel, rfl⟩
theorem d_X12_putsOther_109 : DC mX12_putsOther 109 (.iinc 7 1) 3 112 := ⟨by decide +kernel, rfl⟩
theorem d_X12_putsOther_112 : DC mX12_putsOther 112 (.goto (-99)) 3 115 := ⟨by decide +kernel, rfl⟩
theorem d_X12_putsOther_115 : DC mX12_putsOther 115 (.aload_n 0) 1 116 := ⟨by decide +kernel, rfl⟩
theorem d_X12_putsOther_116 : DC mX12_putsOther 116 (.iconst 0) 1 117 := ⟨by decide +kernel, rfl⟩
theorem d_X12_putsOther_117 : DC mX12_putsOther 117 (.aload_n 0) 1 118 := ⟨by decide +kernel, rfl⟩
theorem d_X12_putsOther_118 : DC mX12_putsOther 118 (.iload 4) 2 120 := ⟨by decide +kernel, rfl⟩
theorem d_X12_putsOther_120 : DC mX12_putsOther 120 (.invokevirtual 141) 3 123 := ⟨by decide +kernel, rfl⟩
theorem d_X12_putsOther_123 : DC mX12_putsOther 123 (.lload 5) 2 125 := ⟨by decide +kernel, rfl⟩
theorem d_X12_putsOther_125 : DC mX12_putsOther 125 (.invokevirtual 147) 3 128 := ⟨by decide +kernel, rfl⟩
theorem d_X12_putsOther_128 : DC mX12_putsOther 128 (.pop) 1 129 := ⟨by decide +kernel, rfl⟩
theorem d_X12_putsOther_129 : DC mX12_putsOther 129 (.return_) 1 130 := ⟨by decide +kernel, rfl⟩
theorem d_X12_puts__0 : DC mX12_puts_ 0 (.iload_n 1) 1 1 := ⟨by decide +kernel, rfl⟩
theorem d_X12_puts__1 : DC mX12_puts_ 1 (.invokestatic 199) 3 4 := ⟨by decide +kernel, rfl⟩
theorem d_X12_puts__4 : DC mX12_puts_ 4 (.ifCond .eq 25) 3 7 := ⟨by decide +kernel, rfl⟩
theorem d_X12_puts__7 : DC mX12_puts_ 7 (.iload_n 2) 1 8 := ⟨by decide +kernel, rfl⟩
theorem d_X12_puts__8 : DC mX12_puts_ 8 (.invokestatic 199) 3 11 := ⟨by decide +kernel, rfl⟩
theorem d_X12_puts__11 : DC mX12_puts_ 11 (.ifCond .eq 18) 3 14 := ⟨by decide +kernel, rfl⟩
theorem d_X12_puts__14 : DC mX12_puts_ 14 (.iload_n 3) 1 15 := ⟨by decide +kernel, rfl⟩
theorem d_X12_puts__15 : DC mX12_puts_ 15 (.invokestatic 208) 3 18 := ⟨by decide +kernel, rfl⟩
theorem d_X12_puts__18 : DC mX12_puts_ 18 (.ifCond .eq 11) 3 21 := ⟨by decide +kernel, rfl⟩
theorem d_X12_puts__21 : DC mX12_puts_ 21 (.iload 4) 2 23 := ⟨by decide +kernel, rfl⟩
theorem d_X12_puts__23 : DC mX12_puts_ 23 (.invokestatic 208) 3 26 := ⟨by decide +kernel, rfl⟩
theorem d_X12_puts__26 : DC mX12_puts_ 26 (.ifCond .ne 10) 3 29 := ⟨by decide +kernel, rfl⟩
theorem d_X12_puts__29 : DC mX12_puts_ 29 (.aload_n 0) 1 30 := ⟨by decide +kernel, rfl⟩
theorem d_X12_puts__30 : DC mX12_puts_ 30 (.bipush (-2)) 2 32 := ⟨by decide +kernel, rfl⟩
theorem d_X12_puts__32 : DC mX12_puts_ 32 (.invokevirtual 218) 3 35 := ⟨by decide +kernel, rfl⟩
theorem d_X12_puts__35 : DC mX12_puts_ 35 (.ireturn) 1 36 := ⟨by decide +kernel, rfl⟩
theorem d_X12_puts__36 : DC mX12_puts_ 36 (.aload_n 0) 1 37 := ⟨by decide +kernel, rfl⟩
theorem d_X12_puts__37 : DC mX12_puts_ 37 (.invokevirtual 202) 3 40 := ⟨by decide +kernel, rfl⟩
theorem d_X12_puts__40 : DC mX12_puts_ 40 (.aload_n 0) 1 41 := ⟨by decide +kernel, rfl⟩
theorem d_X12_puts__41 : DC mX12_puts_ 41 (.iload_n 2) 1 42 := ⟨by decide +kernel, rfl⟩
theorem d_X12_puts__42 : DC mX12_puts_ 42 (.iconst 1) 1 43 := ⟨by decide +kernel, rfl⟩
theorem d_X12_puts__43 : DC mX12_puts_ 43 (.invokevirtual 205) 3 46 := ⟨by decide +kernel, rfl⟩
theorem d_X12_puts__46 : DC mX12_puts_ 46 (.iconst 0) 1 47 := ⟨by decide +kernel, rfl⟩
theorem d_X12_puts__47 : DC mX12_puts_ 47 (.istore 6) 2 49 := ⟨by decide +kernel, rfl⟩
theorem d_X12_puts__49 : DC mX12_puts_ 49 (.iload 6) 2 51 := ⟨by decide +kernel, rfl⟩
theorem d_X12_puts__51 : DC mX12_puts_ 51 (.bipush 10) 2 53 := ⟨by decide +kernel, rfl⟩
theorem d_X12_puts__53 : DC mX12_puts_ 53 (.if_icmp .ge 45) 3 56 := ⟨by decide +kernel, rfl⟩
theorem d_X12_puts__56 : DC mX12_puts_ 56 (.aload_n 0) 1 57 := ⟨by decide +kernel, rfl⟩
theorem d_X12_puts__57 : DC mX12_puts_ 57 (.getfield 54) 3 60 := ⟨by decide +kernel, rfl⟩
theorem d_X12_puts__60 : DC mX12_puts_ 60 (.iload 6) 2 62 := ⟨by decide +kernel, rfl⟩
theorem d_X12_puts__62 : DC mX12_puts_ 62 (.iload 6) 2 64 := ⟨by decide +kernel, rfl⟩
theorem d_X12_puts__64 : DC mX12_puts_ 64 (.iload_n 3) 1 65 := ⟨by decide +kernel, rfl⟩
theorem d_X12_puts__65 : DC mX12_puts_ 65 (.if_icmp .ne 8) 3 68 := ⟨by decide +kernel, rfl⟩
theorem d_X12_puts__68 : DC mX12_puts_ 68 (.iload 4) 2 70 := ⟨by decide +kernel, rfl⟩
theorem d_X12_puts__70 : DC mX12_puts_ 70 (.goto 21) 3 73 := ⟨by decide +kernel, rfl⟩
theorem d_X12_puts__73 : DC mX12_puts_ 73 (.iload 5) 2 75 := ⟨by decide +kernel, rfl⟩
theorem d_X12_puts__75 : DC mX12_puts_ 75 (.ifCond .eq 14) 3 78 := ⟨by decide +kernel, rfl⟩
theorem d_X12_puts__78 : DC mX12_puts_ 78 (.iload 6) 2 80 := ⟨by decide +kernel, rfl⟩
theorem d_X12_puts__80 : DC mX12_puts_ 80 (.iload 4) 2 82 := ⟨by decide +kernel, rfl⟩
theorem d_X12_puts__82 : DC mX12_puts_ 82 (.if_icmp .ne 7) 3 85 := ⟨by decide +kernel, rfl⟩
theorem d_X12_puts__85 : DC mX12_puts_ 85 (.iload_n 3) 1 86 := ⟨by decide +kernel, rfl⟩
theorem d_X12_puts__86 : DC mX12_puts_ 86 (.goto 5) 3 89 := ⟨by decide +kernel, rfl⟩
theorem d_X12_puts__89 : DC mX12_puts_ 89 (.iload 6) 2 91 := ⟨by decide +kernel, rfl⟩
theorem d_X12_puts__91 : DC mX12_puts_ 91 (.iastore) 1 92 := ⟨by decide +kernel, rfl⟩
theorem d_X12_puts__92 : DC mX12_puts_ 92 (.iinc 6 1) 3 95 := ⟨by decide +kernel, rfl⟩
theorem d_X12_puts__95 : DC mX12_puts_ 95 (.goto (-46)) 3 98 := ⟨by decide +kernel, rfl⟩
theorem d_X12_puts__98 : DC mX12_puts_ 98 (.iconst 0) 1 99 := ⟨by decide +kernel, rfl⟩
theorem d_X12_puts__99 : DC mX12_puts_ 99 (.istore 6) 2 101 := ⟨by decide +kernel, rfl⟩
theorem d_X12_puts__101 : DC mX12_puts_ 101 (.iload 6) 2 103 := ⟨by decide +kernel, rfl⟩
theorem d_X12_puts__103 : DC mX12_puts_ 103 (.aload_n 0) 1 104 := ⟨by decide +kernel, rfl⟩
theorem d_X12_puts__104 : DC mX12_puts_ 104 (.iconst 1) 1 105 := ⟨by decide +kernel, rfl⟩
theorem d_X12_puts__105 : DC mX12_puts_ 105 (.invokevirtual 113) 3 108 := ⟨by decide +kernel, rfl⟩
theorem d_X12_puts__108 : DC mX12_puts_ 108 (.if_icmp .ge 31) 3 111 := ⟨by decide +kernel, rfl⟩
theorem d_X12_puts__111 : DC mX12_puts_ 111 (.aload_n 0) 1 112 := ⟨by decide +kernel, rfl⟩
theorem d_X12_puts__112 : DC mX12_puts_ 112 (.aload_n 0) 1 113 := ⟨by decide +kernel, rfl⟩
theorem d_X12_puts__113 : DC mX12_puts_ 113 (.iconst 1) 1 114 := ⟨by decide +kernel, rfl⟩
theorem d_X12_puts__114 : DC mX12_puts_ 114 (.iload 6) 2 116 := ⟨by decide +kernel, rfl⟩
theorem d_X12_puts__116 : DC mX12_puts_ 116 (.invokevirtual 117) 3 119 := ⟨by decide +kernel, rfl⟩
theorem d_X12_puts__119 : DC mX12_puts_ 119 (.aload_n 0) 1 120 := ⟨by decide +kernel, rfl⟩
theorem d_X12_puts__120 : DC mX12_puts_ 120 (.iconst 1) 1 121 := ⟨by decide +kernel, rfl⟩
theorem d_X12_puts__121 : DC mX12_puts_ 121 (.iload 6) 2 123 := ⟨by decide +kernel, rfl⟩
theorem d_X12_puts__123 : DC mX12_puts_ 123 (.invokevirtual 132) 3 126 := ⟨by decide +kernel, rfl⟩
theorem d_X12_puts__126 : DC mX12_puts_ 126 (.aload_n 0) 1 127 := ⟨by decide +kernel, rfl⟩
theorem d_X12_puts__127 : DC mX12_puts_ 127 (.getfield 54) 3 130 := ⟨by decide +kernel, rfl⟩
theorem d_X12_puts__130 : DC mX12_puts_ 130 (.invokevirtual 234) 3 133 := ⟨by decide +kernel, rfl⟩
theorem d_X12_puts__133 : DC mX12_puts_ 133 (.iinc 6 1) 3 136 := ⟨by decide +kernel, rfl⟩
theorem d_X12_puts__136 : DC mX12_puts_ 136 (.goto (-35)) 3 139 := ⟨by decide +kernel, rfl⟩
theorem d_X12_puts__139 : DC mX12_puts_ 139 (.aload_n 0) 1 140 := ⟨by decide +kernel, rfl⟩
theorem d_X12_puts__140 : DC mX12_puts_ 140 (.iload_n 1) 1 141 := ⟨by decide +kernel, rfl⟩
theorem d_X12_puts__141 : DC mX12_puts_ 141 (.invokevirtual 228) 3 144 := ⟨by decide +kernel, rfl⟩
theorem d_X12_puts__144 : DC mX12_puts_ 144 (.ireturn) 1 145 := ⟨by decide +kernel, rfl⟩
theorem d_X12_put_0 : DC mX12_put 0 (.aload_n 0) 1 1 := ⟨by decide +kernel, rfl⟩
theorem d_X12_put_1 : DC mX12_put 1 (.iconst 0) 1 2 := ⟨by decide +kernel, rfl⟩
theorem d_X12_put_2 : DC mX12_put 2 (.putfield 1) 3 5 := ⟨by decide +kernel, rfl⟩
theorem d_X12_put_5 : DC mX12_put 5 (.aload_n 0) 1 6 := ⟨by decide +kernel, rfl⟩
theorem d_X12_put_6 : DC mX12_put 6 (.iload_n 1) 1 7 := ⟨by decide +kernel, rfl⟩
theorem d_X12_put_7 : DC mX12_put 7 (.iload_n 2) 1 8 := ⟨by decide +kernel, rfl⟩
theorem d_X12_put_8 : DC mX12_put 8 (.iload_n 3) 1 9 := ⟨by decide +kernel, rfl⟩
theorem d_X12_put_9 : DC mX12_put 9 (.iload 4) 2 11 := ⟨by decide +kernel, rfl⟩
theorem d_X12_put_11 : DC mX12_put 11 (.iconst 0) 1 12 := ⟨by decide +kernel, rfl⟩
theorem d_X12_put_12 : DC mX12_put 12 (.invokevirtual 238) 3 15 := ⟨by decide +kernel, rfl⟩
theorem d_X12_put_15 : DC mX12_put 15 (.ireturn) 1 16 := ⟨by decide +kernel, rfl⟩
theorem d_X12_turn_0 : DC mX12_turn 0 (.aload_n 0) 1 1 := ⟨by decide +kernel, rfl⟩
theorem d_X12_turn_1 : DC mX12_turn 1 (.iconst 0) 1 2 := ⟨by decide +kernel, rfl⟩
theorem d_X12_turn_2 : DC mX12_turn 2 (.putfield 1) 3 5 := ⟨by decide +kernel, rfl⟩
theorem d_X12_turn_5 : DC mX12_turn 5 (.aload_n 0) 1 6 := ⟨by decide +kernel, rfl⟩
theorem d_X12_turn_6 : DC mX12_turn 6 (.iload_n 1) 1 7 := ⟨by decide +kernel, rfl⟩
theorem d_X12_turn_7 : DC mX12_turn 7 (.iload_n 2) 1 8 := ⟨by decide +kernel, rfl⟩
theorem d_X12_turn_8 : DC mX12_turn 8 (.iload_n 3) 1 9 := ⟨by decide +kernel, rfl⟩
theorem d_X12_turn_9 : DC mX12_turn 9 (.iload 4) 2 11 := ⟨by decide +kernel, rfl⟩
theorem d_X12_turn_11 : DC mX12_turn 11 (.iconst 1) 1 12 := ⟨by decide +kernel, rfl⟩
theorem d_X12_turn_12 : DC mX12_turn 12 (.invokevirtual 238) 3 15 := ⟨by decide +kernel, rfl⟩
theorem d_X12_turn_15 : DC mX12_turn 15 (.ireturn) 1 16 := ⟨by decide +kernel, rfl⟩
theorem d_X12_straight_0 : DC mX12_straight 0 (.aload_n 0) 1 1 := ⟨by decide +kernel, rfl⟩
theorem d_X12_straight_1 : DC mX12_straight 1 (.iconst 0) 1 2 := ⟨by decide +kernel, rfl⟩
theorem d_X12_straight_2 : DC mX12_straight 2 (.putfield 1) 3 5 := ⟨by decide +kernel, rfl⟩
theorem d_X12_straight_5 : DC mX12_straight 5 (.iload_n 1) 1 6 := ⟨by decide +kernel, rfl⟩
theorem d_X12_straight_6 : DC mX12_straight 6 (.invokestatic 199) 3 9 := ⟨by decide +kernel, rfl⟩
theorem d_X12_straight_9 : DC mX12_straight 9 (.ifCond .eq 10) 3 12 := ⟨by decide +kernel, rfl⟩
theorem d_X12_straight_12 : DC mX12_straight 12 (.iload_n 2) 1 13 := ⟨by decide +kernel, rfl⟩
theorem d_X12_straight_13 : DC mX12_straight 13 (.invokestatic 199) 3 16 := ⟨by decide +kernel, rfl⟩
theorem d_X12_straight_16 : DC mX12_straight 16 (.ifCond .ne 10) 3 19 := ⟨by decide +kernel, rfl⟩
theorem d_X12_straight_19 : DC mX12_straight 19 (.aload_n 0) 1 20 := ⟨by decide +kernel, rfl⟩
theorem d_X12_straight_20 : DC mX12_straight 20 (.bipush (-2)) 2 22 := ⟨by decide +kernel, rfl⟩
theorem d_X12_straight_22 : DC mX12_straight 22 (.invokevirtual 218) 3 25 := ⟨by decide +kernel, rfl⟩
theorem d_X12_straight_25 : DC mX12_straight 25 (.ireturn) 1 26 := ⟨by decide +kernel, rfl⟩
theorem d_X12_straight_26 : DC mX12_straight 26 (.aload_n 0) 1 27 := ⟨by decide +kernel, rfl⟩
theorem d_X12_straight_27 : DC mX12_straight 27 (.invokevirtual 202) 3 30 := ⟨by decide +kernel, rfl⟩
theorem d_X12_straight_30 : DC mX12_straight 30 (.aload_n 0) 1 31 := ⟨by decide +kernel, rfl⟩
theorem d_X12_straight_31 : DC mX12_straight 31 (.iload_n 2) 1 32 := ⟨by decide +kernel, rfl⟩
theorem d_X12_straight_32 : DC mX12_straight 32 (.iconst 0) 1 33 := ⟨by decide +kernel, rfl⟩
theorem d_X12_straight_33 : DC mX12_straight 33 (.invokevirtual 205) 3 36 := ⟨by decide +kernel, rfl⟩
theorem d_X12_straight_36 : DC mX12_straight 36 (.aload_n 0) 1 37 := ⟨by decide +kernel, rfl⟩
theorem d_X12_straight_37 : DC mX12_straight 37 (.iconst 0) 1 38 := ⟨by decide +kernel, rfl⟩
theorem d_X12_straight_38 : DC mX12_straight 38 (.invokevirtual 241) 3 41 := ⟨by decide +kernel, rfl⟩
theorem d_X12_straight_41 : DC mX12_straight 41 (.istore_n 3) 1 42 := ⟨by decide +kernel, rfl⟩
theorem d_X12_straight_42 : DC mX12_straight 42 (.aload_n 0) 1 43 := ⟨by decide +kernel, rfl⟩
theorem d_X12_straight_43 : DC mX12_straight 43 (.iload_n 1) 1 44 := ⟨by decide +kernel, rfl⟩
theorem d_X12_straight_44 : DC mX12_straight 44 (.invokevirtual 228) 3 47 := ⟨by decide +kernel, rfl⟩
theorem d_X12_straight_47 : DC mX12_straight 47 (.ireturn) 1 48 := ⟨by decide +kernel, rfl⟩
theorem d_X12_factOf_0 : DC mX12_factOf 0 (.aload_n 0) 1 1 := ⟨by decide +kernel, rfl⟩
theorem d_X12_factOf_1 : DC mX12_factOf 1 (.getfield 20) 3 4 := ⟨by decide +kernel, rfl⟩
theorem d_X12_factOf_4 : DC mX12_factOf 4 (.sipush 996) 3 7 := ⟨by decide +kernel, rfl⟩
theorem d_X12_factOf_7 : DC mX12_factOf 7 (.iload_n 1) 1 8 := ⟨by decide +kernel, rfl⟩
theorem d_X12_factOf_8 : DC mX12_factOf 8 (.iadd) 1 9 := ⟨by decide +kernel, rfl⟩
theorem d_X12_factOf_9 : DC mX12_factOf 9 (.iconst 1) 1 10 := ⟨by decide +kernel, rfl⟩
theorem d_X12_factOf_10 : DC mX12_factOf 10 (.isub) 1 11 := ⟨by decide +kernel, rfl⟩
theorem d_X12_factOf_11 : DC mX12_factOf 11 (.iaload) 1 12 := ⟨by decide +kernel, rfl⟩
theorem d_X12_factOf_12 : DC mX12_factOf 12 (.ireturn) 1 13 := ⟨by decide +kernel, rfl⟩
theorem d_X12_reduces_0 : DC mX12_reduces 0 (.aload_n 0) 1 1 := ⟨by decide +kernel, rfl⟩
theorem d_X12_reduces_1 : DC mX12_reduces 1 (.iload_n 1) 1 2 := ⟨by decide +kernel, rfl⟩
theorem d_X12_reduces_2 : DC mX12_reduces 2 (.iconst 1) 1 3 := ⟨by decide +kernel, rfl⟩
theorem d_X12_reduces_3 : DC mX12_reduces 3 (.invokevirtual 205) 3 6 := ⟨by decide +kernel, rfl⟩
theorem d_X12_reduces_6 : DC mX12_reduces 6 (.iconst 0) 1 7 := ⟨by decide +kernel, rfl⟩
theorem d_X12_reduces_7 : DC mX12_reduces 7 (.istore_n 2) 1 8 := ⟨by decide +kernel, rfl⟩
theorem d_X12_reduces_8 : DC mX12_reduces 8 (.iload_n 2) 1 9 := ⟨by decide +kernel, rfl⟩
theorem d_X12_reduces_9 : DC mX12_reduces 9 (.aload_n 0) 1 10 := ⟨by decide +kernel, rfl⟩
theorem d_X12_reduces_10 : DC mX12_reduces 10 (.iconst 1) 1 11 := ⟨by decide +kernel, rfl⟩
theorem d_X12_reduces_11 : DC mX12_reduces 11 (.invokevirtual 113) 3 14 := ⟨by decide +kernel, rfl⟩
theorem d_X12_reduces_14 : DC mX12_reduces 14 (.if_icmp .ge 85) 3 17 := ⟨by decide +kernel, rfl⟩
theorem d_X12_reduces_17 : DC mX12_reduces 17 (.iconst 1) 1 18 := ⟨by decide +kernel, rfl⟩
theorem d_X12_reduces_18 : DC mX12_reduces 18 (.istore_n 3) 1 19 := ⟨by decide +kernel, rfl⟩
theorem d_X12_reduces_19 : DC mX12_reduces 19 (.iconst 0) 1 20 := ⟨by decide +kernel, rfl⟩
theorem d_X12_reduces_20 : DC mX12_reduces 20 (.istore 4) 2 22 := ⟨by decide +kernel, rfl⟩
theorem d_X12_reduces_22 : DC mX12_reduces 22 (.iload 4) 2 24 := ⟨by decide +kernel, rfl⟩
theorem d_X12_reduces_24 : DC mX12_reduces 24 (.aload_n 0) 1 25 := ⟨by decide +kernel, rfl⟩
theorem d_X12_reduces_25 : DC mX12_reduces 25 (.iconst 1) 1 26 := ⟨by decide +kernel, rfl⟩
theorem d_X12_reduces_26 : DC mX12_reduces 26 (.iload_n 2) 1 27 := ⟨by decide +kernel, rfl⟩
theorem d_X12_reduces_27 : DC mX12_reduces 27 (.invokevirtual 117) 3 30 := ⟨by decide +kernel, rfl⟩
theorem d_X12_reduces_30 : DC mX12_reduces 30 (.invokestatic 138) 3 33 := ⟨by decide +kernel, rfl⟩
theorem d_X12_reduces_33 : DC mX12_reduces 33 (.if_icmp .ge 37) 3 36 := ⟨by decide +kernel, rfl⟩
theorem d_X12_reduces_36 : DC mX12_reduces 36 (.iload_n 3) 1 37 := ⟨by decide +kernel, rfl⟩
theorem d_X12_reduces_37 : DC mX12_reduces 37 (.ifCond .eq 25) 3 40 := ⟨by decide +kernel, rfl⟩
theorem d_X12_reduces_40 : DC mX12_reduces 40 (.aload_n 0) 1 41 := ⟨by decide +kernel, rfl⟩
theorem d_X12_reduces_41 : DC mX12_reduces 41 (.aload_n 0) 1 42 := ⟨by decide +kernel, rfl⟩
theorem d_X12_reduces_42 : DC mX12_reduces 42 (.iconst 1) 1 43 := ⟨by decide +kernel, rfl⟩
theorem d_X12_reduces_43 : DC mX12_reduces 43 (.iload_n 2) 1 44 := ⟨by decide +kernel, rfl⟩
theorem d_X12_reduces_44 : DC mX12_reduces 44 (.invokevirtual 117) 3 47 := ⟨by decide +kernel, rfl⟩
theorem d_X12_reduces_47 : DC mX12_reduces 47 (.iload 4) 2 49 := ⟨by decide +kernel, rfl⟩
theorem d_X12_reduces_49 : DC mX12_reduces 49 (.invokestatic 135) 3 52 := ⟨by decide +kernel, rfl⟩
theorem d_X12_reduces_52 : DC mX12_reduces 52 (.invokevirtual 244) 3 55 := ⟨by decide +kernel, rfl⟩
theorem d_X12_reduces_55 : DC mX12_reduces 55 (.ifCond .eq 7) 3 58 := ⟨by decide +kernel, rfl⟩
theorem d_X12_reduces_58 : DC mX12_reduces 58 (.iconst 1) 1 59 := ⟨by decide +kernel, rfl⟩
theorem d_X12_reduces_59 : DC mX12_reduces 59 (.goto 4) 3 62 := ⟨by decide +kernel, rfl⟩
theorem d_X12_reduces_62 : DC mX12_reduces 62 (.iconst 0) 1 63 := ⟨by decide +kernel, rfl⟩
theorem d_X12_reduces_63 : DC mX12_reduces 63 (.istore_n 3) 1 64 := ⟨by decide +kernel, rfl⟩
theorem d_X12_reduces_64 : DC mX12_reduces 64 (.iinc 4 1) 3 67 := ⟨by decide +kernel, rfl⟩
theorem d_X12_reduces_67 : DC mX12_reduces 67 (.goto (-45)) 3 70 := ⟨by decide +kernel, rfl⟩
theorem d_X12_reduces_70 : DC mX12_reduces 70 (.iload_n 3) 1 71 := ⟨by decide +kernel, rfl⟩
theorem d_X12_reduces_71 : DC mX12_reduces 71 (.ifCond .eq 22) 3 74 := ⟨by decide +kernel, rfl⟩
theorem d_X12_reduces_74 : DC mX12_reduces 74 (.aload_n 0) 1 75 := ⟨by decide +kernel, rfl⟩
theorem d_X12_reduces_75 : DC mX12_reduces 75 (.iconst 0) 1 76 := ⟨by decide +kernel, rfl⟩
theorem d_X12_reduces_76 : DC mX12_reduces 76 (.aload_n 0) 1 77 := ⟨by decide +kernel, rfl⟩
theorem d_X12_reduces_77 : DC mX12_reduces 77 (.iconst 1) 1 78 := ⟨by decide +kernel, rfl⟩
theorem d_X12_reduces_78 : DC mX12_reduces 78 (.iload_n 2) 1 79 := ⟨by decide +kernel, rfl⟩
theorem d_X12_reduces_79 : DC mX12_reduces 79 (.invokevirtual 117) 3 82 := ⟨by decide +kernel, rfl⟩
theorem d_X12_reduces_82 : DC mX12_reduces 82 (.aload_n 0) 1 83 := ⟨by decide +kernel, rfl⟩
theorem d_X12_reduces_83 : DC mX12_reduces 83 (.iconst 1) 1 84 := ⟨by decide +kernel, rfl⟩
theorem d_X12_reduces_84 : DC mX12_reduces 84 (.iload_n 2) 1 85 := ⟨by decide +kernel, rfl⟩
theorem d_X12_reduces_85 : DC mX12_reduces 85 (.invokevirtual 132) 3 88 := ⟨by decide +kernel, rfl⟩
theorem d_X12_reduces_88 : DC mX12_reduces 88 (.i2l) 1 89 := ⟨by decide +kernel, rfl⟩
theorem d_X12_reduces_89 : DC mX12_reduces 89 (.invokevirtual 147) 3 92 := ⟨by decide +kernel, rfl⟩
theorem d_X12_reduces_92 : DC mX12_reduces 92 (.pop) 1 93 := ⟨by decide +kernel, rfl⟩
theorem d_X12_reduces_93 : DC mX12_reduces 93 (.iinc 2 1) 3 96 := ⟨by decide +kernel, rfl⟩
theorem d_X12_reduces_96 : DC mX12_reduces 96 (.goto (-88)) 3 99 := ⟨by decide +kernel, rfl⟩
theorem d_X12_reduces_99 : DC mX12_reduces 99 (.return_) 1 100 := ⟨by decide +kernel, rfl⟩
theorem d_X12_reduce_0 : DC mX12_reduce 0 (.aload_n 0) 1 1 := ⟨by decide +kernel, rfl⟩
theorem d_X12_reduce_1 : DC mX12_reduce 1 (.iconst 0) 1 2 := ⟨by decide +kernel, rfl⟩
theorem d_X12_reduce_2 : DC mX12_reduce 2 (.putfield 1) 3 5 := ⟨by decide +kernel, rfl⟩
theorem d_X12_reduce_5 : DC mX12_reduce 5 (.iload_n 1) 1 6 := ⟨by decide +kernel, rfl⟩
theorem d_X12_reduce_6 : DC mX12_reduce 6 (.invokestatic 199) 3 9 := ⟨by decide +kernel, rfl⟩
theorem d_X12_reduce_9 : DC mX12_reduce 9 (.ifCond .eq 10) 3 12 := ⟨by decide +kernel, rfl⟩
theorem d_X12_reduce_12 : DC mX12_reduce 12 (.iload_n 2) 1 13 := ⟨by decide +kernel, rfl⟩
theorem d_X12_reduce_13 : DC mX12_reduce 13 (.invokestatic 199) 3 16 := ⟨by decide +kernel, rfl⟩
theorem d_X12_reduce_16 : DC mX12_reduce 16 (.ifCond .ne 6) 3 19 := ⟨by decide +kernel, rfl⟩
theorem d_X12_reduce_19 : DC mX12_reduce 19 (.bipush (-2)) 2 21 := ⟨by decide +kernel, rfl⟩
theorem d_X12_reduce_21 : DC mX12_reduce 21 (.ireturn) 1 22 := ⟨by decide +kernel, rfl⟩
theorem d_X12_reduce_22 : DC mX12_reduce 22 (.aload_n 0) 1 23 := ⟨by decide +kernel, rfl⟩
theorem d_X12_reduce_23 : DC mX12_reduce 23 (.invokevirtual 202) 3 26 := ⟨by decide +kernel, rfl⟩
theorem d_X12_reduce_26 : DC mX12_reduce 26 (.aload_n 0) 1 27 := ⟨by decide +kernel, rfl⟩
theorem d_X12_reduce_27 : DC mX12_reduce 27 (.iload_n 2) 1 28 := ⟨by decide +kernel, rfl⟩
theorem d_X12_reduce_28 : DC mX12_reduce 28 (.invokevirtual 247) 3 31 := ⟨by decide +kernel, rfl⟩
theorem d_X12_reduce_31 : DC mX12_reduce 31 (.aload_n 0) 1 32 := ⟨by decide +kernel, rfl⟩
theorem d_X12_reduce_32 : DC mX12_reduce 32 (.iload_n 1) 1 33 := ⟨by decide +kernel, rfl⟩
theorem d_X12_reduce_33 : DC mX12_reduce 33 (.invokevirtual 190) 3 36 := ⟨by decide +kernel, rfl⟩
theorem d_X12_reduce_36 : DC mX12_reduce 36 (.ireturn) 1 37 := ⟨by decide +kernel, rfl⟩
theorem d_X12_fact_0 : DC mX12_fact 0 (.aload_n 0) 1 1 := ⟨by decide +kernel, rfl⟩
theorem d_X12_fact_1 : DC mX12_fact 1 (.iconst 0) 1 2 := ⟨by decide +kernel, rfl⟩
theorem d_X12_fact_2 : DC mX12_fact 2 (.putfield 1) 3 5 := ⟨by decide +kernel, rfl⟩
theorem d_X12_fact_5 : DC mX12_fact 5 (.iload_n 1) 1 6 := ⟨by decide +kernel, rfl⟩
theorem d_X12_fact_6 : DC mX12_fact 6 (.invokestatic 208) 3 9 := ⟨by decide +kernel, rfl⟩
theorem d_X12_fact_9 : DC mX12_fact 9 (.ifCond .eq 17) 3 12 := ⟨by decide +kernel, rfl⟩
theorem d_X12_fact_12 : DC mX12_fact 12 (.iload_n 2) 1 13 := ⟨by decide +kernel, rfl⟩
theorem d_X12_fact_13 : DC mX12_fact 13 (.invokestatic 208) 3 16 := ⟨by decide +kernel, rfl⟩
theorem d_X12_fact_16 : DC mX12_fact 16 (.ifCond .eq 10) 3 19 := ⟨by decide +kernel, rfl⟩
theorem d_X12_fact_19 : DC mX12_fact 19 (.iload_n 3) 1 20 := ⟨by decide +kernel, rfl⟩
theorem d_X12_fact_20 : DC mX12_fact 20 (.invokestatic 208) 3 23 := ⟨by decide +kernel, rfl⟩
theorem d_X12_fact_23 : DC mX12_fact 23 (.ifCond .ne 6) 3 26 := ⟨by decide +kernel, rfl⟩
theorem d_X12_fact_26 : DC mX12_fact 26 (.bipush (-2)) 2 28 := ⟨by decide +kernel, rfl⟩
theorem d_X12_fact_28 : DC mX12_fact 28 (.ireturn) 1 29 := ⟨by decide +kernel, rfl⟩
theorem d_X12_fact_29 : DC mX12_fact 29 (.aload_n 0) 1 30 := ⟨by decide +kernel, rfl⟩
theorem d_X12_fact_30 : DC mX12_fact 30 (.getfield 13) 3 33 := ⟨by decide +kernel, rfl⟩
theorem d_X12_fact_33 : DC mX12_fact 33 (.bipush 100) 2 35 := ⟨by decide +kernel, rfl⟩
theorem d_X12_fact_35 : DC mX12_fact 35 (.iload_n 1) 1 36 := ⟨by decide +kernel, rfl⟩
theorem d_X12_fact_36 : DC mX12_fact 36 (.imul) 1 37 := ⟨by decide +kernel, rfl⟩
theorem d_X12_fact_37 : DC mX12_fact 37 (.bipush 10) 2 39 := ⟨by decide +kernel, rfl⟩
theorem d_X12_fact_39 : DC mX12_fact 39 (.iload_n 2) 1 40 := ⟨by decide +kernel, rfl⟩
theorem d_X12_fact_40 : DC mX12_fact 40 (.imul) 1 41 := ⟨by decide +kernel, rfl⟩
theorem d_X12_fact_41 : DC mX12_fact 41 (.iadd) 1 42 := ⟨by decide +kernel, rfl⟩
theorem d_X12_fact_42 : DC mX12_fact 42 (.iload_n 3) 1 43 := ⟨by decide +kernel, rfl⟩
theorem d_X12_fact_43 : DC mX12_fact 43 (.iadd) 1 44 := ⟨by decide +kernel, rfl⟩
theorem d_X12_fact_44 : DC mX12_fact 44 (.iaload) 1 45 := ⟨by decide +kernel, rfl⟩
theorem d_X12_fact_45 : DC mX12_fact 45 (.invokestatic 168) 3 48 := ⟨by decide +kernel, rfl⟩
theorem d_X12_fact_48 : DC mX12_fact 48 (.istore 5) 2 50 := ⟨by decide +kernel, rfl⟩
theorem d_X12_fact_50 : DC mX12_fact 50 (.iload 4) 2 52 := ⟨by decide +kernel, rfl⟩
theorem d_X12_fact_52 : DC mX12_fact 52 (.i2l) 1 53 := ⟨by decide +kernel, rfl⟩
theorem d_X12_fact_53 : DC mX12_fact 53 (.lconst 0) 1 54 := ⟨by decide +kernel, rfl⟩
theorem d_X12_fact_54 : DC mX12_fact 54 (.ldc2_w 250) 3 57 := ⟨by decide +kernel, rfl⟩
theorem d_X12_fact_57 : DC mX12_fact 57 (.invokestatic 91) 3 60 := ⟨by decide +kernel, rfl⟩
theorem d_X12_fact_60 : DC mX12_fact 60 (.ifCond .eq 8) 3 63 := ⟨by decide +kernel, rfl⟩
theorem d_X12_fact_63 : DC mX12_fact 63 (.iload 5) 2 65 := ⟨by decide +kernel, rfl⟩
theorem d_X12_fact_65 : DC mX12_fact 65 (.ifCond .ne 6) 3 68 := ⟨by decide +kernel, rfl⟩
theorem d_X12_fact_68 : DC mX12_fact 68 (.bipush (-3)) 2 70 := ⟨by decide +kernel, rfl⟩
theorem d_X12_fact_70 : DC mX12_fact 70 (.ireturn) 1 71 := ⟨by decide +kernel, rfl⟩
theorem d_X12_fact_71 : DC mX12_fact 71 (.aload_n 0) 1 72 := ⟨by decide +kernel, rfl⟩
theorem d_X12_fact_72 : DC mX12_fact 72 (.invokevirtual 196) 3 75 := ⟨by decide +kernel, rfl⟩
theorem d_X12_fact_75 : DC mX12_fact 75 (.aload_n 0) 1 76 := ⟨by decide +kernel, rfl⟩
theorem d_X12_fact_76 : DC mX12_fact 76 (.iload 5) 2 78 := ⟨by decide +kernel, rfl⟩
theorem d_X12_fact_78 : DC mX12_fact 78 (.invokevirtual 244) 3 81 := ⟨by decide +kernel, rfl⟩
theorem d_X12_fact_81 : DC mX12_fact 81 (.istore 6) 2 83 := ⟨by decide +kernel, rfl⟩
theorem d_X12_fact_83 : DC mX12_fact 83 (.aload_n 0) 1 84 := ⟨by decide +kernel, rfl⟩
theorem d_X12_fact_84 : DC mX12_fact 84 (.getfield 20) 3 87 := ⟨by decide +kernel, rfl⟩
theorem d_X12_fact_87 : DC mX12_fact 87 (.sipush 996) 3 90 := ⟨by decide +kernel, rfl⟩
theorem d_X12_fact_90 : DC mX12_fact 90 (.iload 5) 2 92 := ⟨by decide +kernel, rfl⟩
theorem d_X12_fact_92 : DC mX12_fact 92 (.iadd) 1 93 := ⟨by decide +kernel, rfl⟩
theorem d_X12_fact_93 : DC mX12_fact 93 (.iconst 1) 1 94 := ⟨by decide +kernel, rfl⟩
theorem d_X12_fact_94 : DC mX12_fact 94 (.isub) 1 95 := ⟨by decide +kernel, rfl⟩
theorem d_X12_fact_95 : DC mX12_fact 95 (.iload 4) 2 97 := ⟨by decide +kernel, rfl⟩
theorem d_X12_fact_97 : DC mX12_fact 97 (.iastore) 1 98 := ⟨by decide +kernel, rfl⟩
theorem d_X12_fact_98 : DC mX12_fact 98 (.iload 6) 2 100 := ⟨by decide +kernel, rfl⟩
theorem d_X12_fact_100 : DC mX12_fact 100 (.ireturn) 1 101 := ⟨by decide +kernel, rfl⟩
theorem d_X12_place_0 : DC mX12_place 0 (.aload_n 0) 1 1 := ⟨by decide +kernel, rfl⟩
theorem d_X12_place_1 : DC mX12_place 1 (.iconst 0) 1 2 := ⟨by decide +kernel, rfl⟩
theorem d_X12_place_2 : DC mX12_place 2 (.putfield 1) 3 5 := ⟨by decide +kernel, rfl⟩
theorem d_X12_place_5 : DC mX12_place 5 (.iload_n 1) 1 6 := ⟨by decide +kernel, rfl⟩
theorem d_X12_place_6 : DC mX12_place 6 (.invokestatic 208) 3 9 := ⟨by decide +kernel, rfl⟩
theorem d_X12_place_9 : DC mX12_place 9 (.ifCond .ne 6) 3 12 := ⟨by decide +kernel, rfl⟩
theorem d_X12_place_12 : DC mX12_place 12 (.bipush (-2)) 2 14 := ⟨by decide +kernel, rfl⟩
theorem d_X12_place_14 : DC mX12_place 14 (.ireturn) 1 15 := ⟨by decide +kernel, rfl⟩
theorem d_X12_place_15 : DC mX12_place 15 (.iload_n 2) 1 16 := ⟨by decide +kernel, rfl⟩
theorem d_X12_place_16 : DC mX12_place 16 (.i2l) 1 17 := ⟨by decide +kernel, rfl⟩
theorem d_X12_place_17 : DC mX12_place 17 (.ldc2_w 221) 3 20 := ⟨by decide +kernel, rfl⟩
theorem d_X12_place_20 : DC mX12_place 20 (.ldc2_w 223) 3 23 := ⟨by decide +kernel, rfl⟩
theorem d_X12_place_23 : DC mX12_place 23 (.invokestatic 91) 3 26 := ⟨by decide +kernel, rfl⟩
theorem d_X12_place_26 : DC mX12_place 26 (.ifCond .eq 32) 3 29 := ⟨by decide +kernel, rfl⟩
theorem d_X12_place_29 : DC mX12_place 29 (.iload_n 3) 1 30 := ⟨by decide +kernel, rfl⟩
theorem d_X12_place_30 : DC mX12_place 30 (.i2l) 1 31 := ⟨by decide +kernel, rfl⟩
theorem d_X12_place_31 : DC mX12_place 31 (.ldc2_w 221) 3 34 := ⟨by decide +kernel, rfl⟩
theorem d_X12_place_34 : DC mX12_place 34 (.ldc2_w 223) 3 37 := ⟨by decide +kernel, rfl⟩
theorem d_X12_place_37 : DC mX12_place 37 (.invokestatic 91) 3 40 := ⟨by decide +kernel, rfl⟩
theorem d_X12_place_40 : DC mX12_place 40 (.ifCond .eq 18) 3 43 := ⟨by decide +kernel, rfl⟩
theorem d_X12_place_43 : DC mX12_place 43 (.iload 4) 2 45 := ⟨by decide +kernel, rfl⟩
theorem d_X12_place_45 : DC mX12_place 45 (.i2l) 1 46 := ⟨by decide +kernel, rfl⟩
theorem d_X12_place_46 : DC mX12_place 46 (.ldc2_w 221) 3 49 := ⟨by decide +kernel, rfl⟩
theorem d_X12_place_49 : DC mX12_place 49 (.ldc2_w 223) 3 52 := ⟨by decide +kernel, rfl⟩
theorem d_X12_place_52 : DC mX12_place 52 (.invokestatic 91) 3 55 := ⟨by decide +kernel, rfl⟩
theorem d_X12_place_55 : DC mX12_place 55 (.ifCond .ne 6) 3 58 := ⟨by decide +kernel, rfl⟩
theorem d_X12_place_58 : DC mX12_place 58 (.bipush (-3)) 2 60 := ⟨by decide +kernel, rfl⟩
theorem d_X12_place_60 : DC mX12_place 60 (.ireturn) 1 61 := ⟨by decide +kernel, rfl⟩
theorem d_X12_place_61 : DC mX12_place 61 (.aload_n 0) 1 62 := ⟨by decide +kernel, rfl⟩
theorem d_X12_place_62 : DC mX12_place 62 (.invokevirtual 196) 3 65 := ⟨by decide +kernel, rfl⟩
theorem d_X12_place_65 : DC mX12_place 65 (.aload_n 0) 1 66 := ⟨by decide +kernel, rfl⟩
theorem d_X12_place_66 : DC mX12_place 66 (.getfield 20) 3 69 := ⟨by decide +kernel, rfl⟩
theorem d_X12_place_69 : DC mX12_place 69 (.sipush 966) 3 72 := ⟨by decide +kernel, rfl⟩
theorem d_X12_place_72 : DC mX12_place 72 (.iconst 3) 1 73 := ⟨by decide +kernel, rfl⟩
theorem d_X12_place_73 : DC mX12_place 73 (.iload_n 1) 1 74 := ⟨by decide +kernel, rfl⟩
theorem d_X12_place_74 : DC mX12_place 74 (.imul) 1 75 := ⟨by decide +kernel, rfl⟩
theorem d_X12_place_75 : DC mX12_place 75 (.iadd) 1 76 := ⟨by decide +kernel, rfl⟩
theorem d_X12_place_76 : DC mX12_place 76 (.iload_n 2) 1 77 := ⟨by decide +kernel, rfl⟩
theorem d_X12_place_77 : DC mX12_place 77 (.iastore) 1 78 := ⟨by decide +kernel, rfl⟩
theorem d_X12_place_78 : DC mX12_place 78 (.aload_n 0) 1 79 := ⟨by decide +kernel, rfl⟩
theorem d_X12_place_79 : DC mX12_place 79 (.getfield 20) 3 82 := ⟨by decide +kernel, rfl⟩
theorem d_X12_place_82 : DC mX12_place 82 (.sipush 966) 3 85 := ⟨by decide +kernel, rfl⟩
theorem d_X12_place_85 : DC mX12_place 85 (.iconst 3) 1 86 := ⟨by decide +kernel, rfl⟩
theorem d_X12_place_86 : DC mX12_place 86 (.iload_n 1) 1 87 := ⟨by decide +kernel, rfl⟩
theorem d_X12_place_87 : DC mX12_place 87 (.imul) 1 88 := ⟨by decide +kernel, rfl⟩
theorem d_X12_place_88 : DC mX12_place 88 (.iadd) 1 89 := ⟨by decide +kernel, rfl⟩
theorem d_X12_place_89 : DC mX12_place 89 (.iconst 1) 1 90 := ⟨by decide +kernel, rfl⟩
theorem d_X12_place_90 : DC mX12_place 90 (.iadd) 1 91 := ⟨by decide +kernel, rfl⟩
theorem d_X12_place_91 : DC mX12_place 91 (.iload_n 3) 1 92 := ⟨by decide +kernel, rfl⟩
theorem d_X12_place_92 : DC mX12_place 92 (.iastore) 1 93 := ⟨by decide +kernel, rfl⟩
theorem d_X12_place_93 : DC mX12_place 93 (.aload_n 0) 1 94 := ⟨by decide +kernel, rfl⟩
theorem d_X12_place_94 : DC mX12_place 94 (.getfield 20) 3 97 := ⟨by decide +kernel, rfl⟩
theorem d_X12_place_97 : DC mX12_place 97 (.sipush 966) 3 100 := ⟨by decide +kernel, rfl⟩
theorem d_X12_place_100 : DC mX12_place 100 (.iconst 3) 1 101 := ⟨by decide +kernel, rfl⟩
theorem d_X12_place_101 : DC mX12_place 101 (.iload_n 1) 1 102 := ⟨by decide +kernel, rfl⟩
theorem d_X12_place_102 : DC mX12_place 102 (.imul) 1 103 := ⟨by decide +kernel, rfl⟩
theorem d_X12_place_103 : DC mX12_place 103 (.iadd) 1 104 := ⟨by decide +kernel, rfl⟩
theorem d_X12_place_104 : DC mX12_place 104 (.iconst 2) 1 105 := ⟨by decide +kernel, rfl⟩
theorem d_X12_place_105 : DC mX12_place 105 (.iadd) 1 106 := ⟨by decide +kernel, rfl⟩
theorem d_X12_place_106 : DC mX12_place 106 (.iload 4) 2 108 := ⟨by decide +kernel, rfl⟩
theorem d_X12_place_108 : DC mX12_place 108 (.iastore) 1 109 := ⟨by decide +kernel, rfl⟩
theorem d_X12_place_109 : DC mX12_place 109 (.iconst 0) 1 110 := ⟨by decide +kernel, rfl⟩
theorem d_X12_place_110 : DC mX12_place 110 (.ireturn) 1 111 := ⟨by decide +kernel, rfl⟩
theorem d_X12_feed_0 : DC mX12_feed 0 (.aload_n 0) 1 1 := ⟨by decide +kernel, rfl⟩
theorem d_X12_feed_1 : DC mX12_feed 1 (.iconst 0) 1 2 := ⟨by decide +kernel, rfl⟩
theorem d_X12_feed_2 : DC mX12_feed 2 (.putfield 1) 3 5 := ⟨by decide +kernel, rfl⟩
theorem d_X12_feed_5 : DC mX12_feed 5 (.aload_n 0) 1 6 := ⟨by decide +kernel, rfl⟩
theorem d_X12_feed_6 : DC mX12_feed 6 (.getfield 252) 3 9 := ⟨by decide +kernel, rfl⟩
theorem d_X12_feed_9 : DC mX12_feed 9 (.bipush 20) 2 11 := ⟨by decide +kernel, rfl⟩
theorem d_X12_feed_11 : DC mX12_feed 11 (.iadd) 1 12 := ⟨by decide +kernel, rfl⟩
theorem d_X12_feed_12 : DC mX12_feed 12 (.sipush 300) 3 15 := ⟨by decide +kernel, rfl⟩
theorem d_X12_feed_15 : DC mX12_feed 15 (.if_icmp .le 6) 3 18 := ⟨by decide +kernel, rfl⟩
theorem d_X12_feed_18 : DC mX12_feed 18 (.bipush (-4)) 2 20 := ⟨by decide +kernel, rfl⟩
theorem d_X12_feed_20 : DC mX12_feed 20 (.ireturn) 1 21 := ⟨by decide +kernel, rfl⟩
theorem d_X12_feed_21 : DC mX12_feed 21 (.iconst 0) 1 22 := ⟨by decide +kernel, rfl⟩
theorem d_X12_feed_22 : DC mX12_feed 22 (.istore 6) 2 24 := ⟨by decide +kernel, rfl⟩
theorem d_X12_feed_24 : DC mX12_feed 24 (.iload 6) 2 26 := ⟨by decide +kernel, rfl⟩
theorem d_X12_feed_26 : DC mX12_feed 26 (.bipush 20) 2 28 := ⟨by decide +kernel, rfl⟩
theorem d_X12_feed_28 : DC mX12_feed 28 (.if_icmp .ge 90) 3 31 := ⟨by decide +kernel, rfl⟩
theorem d_X12_feed_31 : DC mX12_feed 31 (.iload 6) 2 33 := ⟨by decide +kernel, rfl⟩
theorem d_X12_feed_33 : DC mX12_feed 33 (.iconst 4) 1 34 := ⟨by decide +kernel, rfl⟩
theorem d_X12_feed_34 : DC mX12_feed 34 (.if_icmp .ge 7) 3 37 := ⟨by decide +kernel, rfl⟩
theorem d_X12_feed_37 : DC mX12_feed 37 (.iload_n 1) 1 38 := ⟨by decide +kernel, rfl⟩
theorem d_X12_feed_38 : DC mX12_feed 38 (.goto 39) 3 41 := ⟨by decide +kernel, rfl⟩
theorem d_X12_feed_41 : DC mX12_feed 41 (.iload 6) 2 43 := ⟨by decide +kernel, rfl⟩
theorem d_X12_feed_43 : DC mX12_feed 43 (.bipush 8) 2 45 := ⟨by decide +kernel, rfl⟩
theorem d_X12_feed_45 : DC mX12_feed 45 (.if_icmp .ge 7) 3 48 := ⟨by decide +kernel, rfl⟩
theorem d_X12_feed_48 : DC mX12_feed 48 (.iload_n 2) 1 49 := ⟨by decide +kernel, rfl⟩
theorem d_X12_feed_49 : DC mX12_feed 49 (.goto 28) 3 52 := ⟨by decide +kernel, rfl⟩
theorem d_X12_feed_52 : DC mX12_feed 52 (.iload 6) 2 54 := ⟨by decide +kernel, rfl⟩
theorem d_X12_feed_54 : DC mX12_feed 54 (.bipush 12) 2 56 := ⟨by decide +kernel, rfl⟩
theorem d_X12_feed_56 : DC mX12_feed 56 (.if_icmp .ge 7) 3 59 := ⟨by decide +kernel, rfl⟩
theorem d_X12_feed_59 : DC mX12_feed 59 (.iload_n 3) 1 60 := ⟨by decide +kernel, rfl⟩
theorem d_X12_feed_60 : DC mX12_feed 60 (.goto 17) 3 63 := ⟨by decide +kernel, rfl⟩
theorem d_X12_feed_63 : DC mX12_feed 63 (.iload 6) 2 65 := ⟨by decide +kernel, rfl⟩
theorem d_X12_feed_65 : DC mX12_feed 65 (.bipush 16) 2 67 := ⟨by decide +kernel, rfl⟩
theorem d_X12_feed_67 : DC mX12_feed 67 (.if_icmp .ge 8) 3 70 := ⟨by decide +kernel, rfl⟩
theorem d_X12_feed_70 : DC mX12_feed 70 (.iload 4) 2 72 := ⟨by decide +kernel, rfl⟩
theorem d_X12_feed_72 : DC mX12_feed 72 (.goto 5) 3 75 := ⟨by decide +kernel, rfl⟩
theorem d_X12_feed_75 : DC mX12_feed 75 (.iload 5) 2 77 := ⟨by decide +kernel, rfl⟩
theorem d_X12_feed_77 : DC mX12_feed 77 (.istore 7) 2 79 := ⟨by decide +kernel, rfl⟩
theorem d_X12_feed_79 : DC mX12_feed 79 (.aload_n 0) 1 80 := ⟨by decide +kernel, rfl⟩
theorem d_X12_feed_80 : DC mX12_feed 80 (.getfield 57) 3 83 := ⟨by decide +kernel, rfl⟩
theorem d_X12_feed_83 : DC mX12_feed 83 (.aload_n 0) 1 84 := ⟨by decide +kernel, rfl⟩
theorem d_X12_feed_84 : DC mX12_feed 84 (.getfield 252) 3 87 := ⟨by decide +kernel, rfl⟩
theorem d_X12_feed_87 : DC mX12_feed 87 (.iload 7) 2 89 := ⟨by decide +kernel, rfl⟩
theorem d_X12_feed_89 : DC mX12_feed 89 (.bipush 24) 2 91 := ⟨by decide +kernel, rfl⟩
theorem d_X12_feed_91 : DC mX12_feed 91 (.bipush 8) 2 93 := ⟨by decide +kernel, rfl⟩
theorem d_X12_feed_93 : DC mX12_feed 93 (.iload 6) 2 95 := ⟨by decide +kernel, rfl⟩
theorem d_X12_feed_95 : DC mX12_feed 95 (.iconst 4) 1 96 := ⟨by decide +kernel, rfl⟩
theorem d_X12_feed_96 : DC mX12_feed 96 (.irem) 1 97 := ⟨by decide +kernel, rfl⟩
theorem d_X12_feed_97 : DC mX12_feed 97 (.imul) 1 98 := ⟨by decide +kernel, rfl⟩
theorem d_X12_feed_98 : DC mX12_feed 98 (.isub) 1 99 := ⟨by decide +kernel, rfl⟩
theorem d_X12_feed_99 : DC mX12_feed 99 (.ishr) 1 100 := ⟨by decide +kernel, rfl⟩
theorem d_X12_feed_100 : DC mX12_feed 100 (.i2b) 1 101 := ⟨by decide +kernel, rfl⟩
theorem d_X12_feed_101 : DC mX12_feed 101 (.bastore) 1 102 := ⟨by decide +kernel, rfl⟩
theorem d_X12_feed_102 : DC mX12_feed 102 (.aload_n 0) 1 103 := ⟨by decide +kernel, rfl⟩
theorem d_X12_feed_103 : DC mX12_feed 103 (.dup) 1 104 := ⟨by decide +kernel, rfl⟩
theorem d_X12_feed_104 : DC mX12_feed 104 (.getfield 252) 3 107 := ⟨by decide +kernel, rfl⟩
theorem d_X12_feed_107 : DC mX12_feed 107 (.iconst 1) 1 108 := ⟨by decide +kernel, rfl⟩
theorem d_X12_feed_108 : DC mX12_feed 108 (.iadd) 1 109 := ⟨by decide +kernel, rfl⟩
theorem d_X12_feed_109 : DC mX12_feed 109 (.putfield 252) 3 112 := ⟨by decide +kernel, rfl⟩
theorem d_X12_feed_112 : DC mX12_feed 112 (.iinc 6 1) 3 115 := ⟨by decide +kernel, rfl⟩
theorem d_X12_feed_115 : DC mX12_feed 115 (.goto (-91)) 3 118 := ⟨by decide +kernel, rfl⟩
theorem d_X12_feed_118 : DC mX12_feed 118 (.aload_n 0) 1 119 := ⟨by decide +kernel, rfl⟩
theorem d_X12_feed_119 : DC mX12_feed 119 (.getfield 252) 3 122 := ⟨by decide +kernel, rfl⟩
theorem d_X12_feed_122 : DC mX12_feed 122 (.ireturn) 1 123 := ⟨by decide +kernel, rfl⟩
theorem d_X12_see_0 : DC mX12_see 0 (.aload_n 0) 1 1 := ⟨by decide +kernel, rfl⟩
theorem d_X12_see_1 : DC mX12_see 1 (.getfield 255) 3 4 := ⟨by decide +kernel, rfl⟩
theorem d_X12_see_4 : DC mX12_see 4 (.aload_n 0) 1 5 := ⟨by decide +kernel, rfl⟩
theorem d_X12_see_5 : DC mX12_see 5 (.getfield 258) 3 8 := ⟨by decide +kernel, rfl⟩
theorem d_X12_see_8 : DC mX12_see 8 (.if_icmp .ge 19) 3 11 := ⟨by decide +kernel, rfl⟩
theorem d_X12_see_11 : DC mX12_see 11 (.aload_n 0) 1 12 := ⟨by decide +kernel, rfl⟩
theorem d_X12_see_12 : DC mX12_see 12 (.getfield 57) 3 15 := ⟨by decide +kernel, rfl⟩
theorem d_X12_see_15 : DC mX12_see 15 (.aload_n 0) 1 16 := ⟨by decide +kernel, rfl⟩
theorem d_X12_see_16 : DC mX12_see 16 (.getfield 255) 3 19 := ⟨by decide +kernel, rfl⟩
theorem d_X12_see_19 : DC mX12_see 19 (.baload) 1 20 := ⟨by decide +kernel, rfl⟩
theorem d_X12_see_20 : DC mX12_see 20 (.sipush 255) 3 23 := ⟨by decide +kernel, rfl⟩
theorem d_X12_see_23 : DC mX12_see 23 (.iand) 1 24 := ⟨by decide +kernel, rfl⟩
theorem d_X12_see_24 : DC mX12_see 24 (.goto 4) 3 27 := ⟨by decide +kernel, rfl⟩
theorem d_X12_see_27 : DC mX12_see 27 (.iconst (-1)) 1 28 := ⟨by decide +kernel, rfl⟩
theorem d_X12_see_28 : DC mX12_see 28 (.ireturn) 1 29 := ⟨by decide +kernel, rfl⟩
theorem d_X12_wrongs_0 : DC mX12_wrongs 0 (.aload_n 0) 1 1 := ⟨by decide +kernel, rfl⟩
theorem d_X12_wrongs_1 : DC mX12_wrongs 1 (.getfield 261) 3 4 := ⟨by decide +kernel, rfl⟩
theorem d_X12_wrongs_4 : DC mX12_wrongs 4 (.ifCond .eq 4) 3 7 := ⟨by decide +kernel, rfl⟩
theorem d_X12_wrongs_7 : DC mX12_wrongs 7 (.return_) 1 8 := ⟨by decide +kernel, rfl⟩
theorem d_X12_wrongs_8 : DC mX12_wrongs 8 (.aload_n 0) 1 9 := ⟨by decide +kernel, rfl⟩
theorem d_X12_wrongs_9 : DC mX12_wrongs 9 (.iload_n 1) 1 10 := ⟨by decide +kernel, rfl⟩
theorem d_X12_wrongs_10 : DC mX12_wrongs 10 (.putfield 261) 3 13 := ⟨by decide +kernel, rfl⟩
theorem d_X12_wrongs_13 : DC mX12_wrongs 13 (.aload_n 0) 1 14 := ⟨by decide +kernel, rfl⟩
theorem d_X12_wrongs_14 : DC mX12_wrongs 14 (.iload_n 2) 1 15 := ⟨by decide +kernel, rfl⟩
theorem d_X12_wrongs_15 : DC mX12_wrongs 15 (.putfield 61) 3 18 := ⟨by decide +kernel, rfl⟩
theorem d_X12_wrongs_18 : DC mX12_wrongs 18 (.return_) 1 19 := ⟨by decide +kernel, rfl⟩
theorem d_X12_isDigit_0 : DC mX12_isDigit 0 (.aload_n 0) 1 1 := ⟨by decide +kernel, rfl⟩
theorem d_X12_isDigit_1 : DC mX12_isDigit 1 (.invokevirtual 264) 3 4 := ⟨by decide +kernel, rfl⟩
theorem d_X12_isDigit_4 : DC mX12_isDigit 4 (.i2l) 1 5 := ⟨by decide +kernel, rfl⟩
theorem d_X12_isDigit_5 : DC mX12_isDigit 5 (.ldc2_w 268) 3 8 := ⟨by decide +kernel, rfl⟩
theorem d_X12_isDigit_8 : DC mX12_isDigit 8 (.ldc2_w 270) 3 11 := ⟨by decide +kernel, rfl⟩
theorem d_X12_isDigit_11 : DC mX12_isDigit 11 (.invokestatic 91) 3 14 := ⟨by decide +kernel, rfl⟩
theorem d_X12_isDigit_14 : DC mX12_isDigit 14 (.ireturn) 1 15 := ⟨by decide +kernel, rfl⟩
theorem d_X12_seesLetter_0 : DC mX12_seesLetter 0 (.aload_n 0) 1 1 := ⟨by decide +kernel, rfl⟩
theorem d_X12_seesLetter_1 : DC mX12_seesLetter 1 (.invokevirtual 264) 3 4 := ⟨by decide +kernel, rfl⟩
theorem d_X12_seesLetter_4 : DC mX12_seesLetter 4 (.i2l) 1 5 := ⟨by decide +kernel, rfl⟩
theorem d_X12_seesLetter_5 : DC mX12_seesLetter 5 (.ldc2_w 272) 3 8 := ⟨by decide +kernel, rfl⟩
theorem d_X12_seesLetter_8 : DC mX12_seesLetter 8 (.ldc2_w 274) 3 11 := ⟨by decide +kernel, rfl⟩
theorem d_X12_seesLetter_11 : DC mX12_seesLetter 11 (.invokestatic 91) 3 14 := ⟨by decide +kernel, rfl⟩
theorem d_X12_seesLetter_14 : DC mX12_seesLetter 14 (.ireturn) 1 15 := ⟨by decide +kernel, rfl⟩
theorem d_X12_must_0 : DC mX12_must 0 (.aload_n 0) 1 1 := ⟨by decide +kernel, rfl⟩
theorem d_X12_must_1 : DC mX12_must 1 (.getfield 261) 3 4 := ⟨by decide +kernel, rfl⟩
theorem d_X12_must_4 : DC mX12_must 4 (.ifCond .eq 4) 3 7 := ⟨by decide +kernel, rfl⟩
theorem d_X12_must_7 : DC mX12_must 7 (.return_) 1 8 := ⟨by decide +kernel, rfl⟩
theorem d_X12_must_8 : DC mX12_must 8 (.iload_n 1) 1 9 := ⟨by decide +kernel, rfl⟩
theorem d_X12_must_9 : DC mX12_must 9 (.ifCond .eq 16) 3 12 := ⟨by decide +kernel, rfl⟩
theorem d_X12_must_12 : DC mX12_must 12 (.aload_n 0) 1 13 := ⟨by decide +kernel, rfl⟩
theorem d_X12_must_13 : DC mX12_must 13 (.dup) 1 14 := ⟨by decide +kernel, rfl⟩
theorem d_X12_must_14 : DC mX12_must 14 (.getfield 255) 3 17 := ⟨by decide +kernel, rfl⟩
theorem d_X12_must_17 : DC mX12_must 17 (.iconst 1) 1 18 := ⟨by decide +kernel, rfl⟩
theorem d_X12_must_18 : DC mX12_must 18 (.iadd) 1 19 := ⟨by decide +kernel, rfl⟩
theorem d_X12_must_19 : DC mX12_must 19 (.putfield 255) 3 22 := ⟨by decide +kernel, rfl⟩
theorem d_X12_must_22 : DC mX12_must 22 (.goto 12) 3 25 := ⟨by decide +kernel, rfl⟩
theorem d_X12_must_25 : DC mX12_must 25 (.aload_n 0) 1 26 := ⟨by decide +kernel, rfl⟩
theorem d_X12_must_26 : DC mX12_must 26 (.iconst 1) 1 27 := ⟨by decide +kernel, rfl⟩
theorem d_X12_must_27 : DC mX12_must 27 (.aload_n 0) 1 28 := ⟨by decide +kernel, rfl⟩
theorem d_X12_must_28 : DC mX12_must 28 (.getfield 255) 3 31 := ⟨by decide +kernel, rfl⟩
theorem d_X12_must_31 : DC mX12_must 31 (.invokevirtual 276) 3 34 := ⟨by decide +kernel, rfl⟩
theorem d_X12_must_34 : DC mX12_must 34 (.return_) 1 35 := ⟨by decide +kernel, rfl⟩
theorem d_X12_letterAt_0 : DC mX12_letterAt 0 (.aload_n 0) 1 1 := ⟨by decide +kernel, rfl⟩
theorem d_X12_letterAt_1 : DC mX12_letterAt 1 (.getfield 57) 3 4 := ⟨by decide +kernel, rfl⟩
theorem d_X12_letterAt_4 : DC mX12_letterAt 4 (.iload_n 1) 1 5 := ⟨by decide +kernel, rfl⟩
theorem d_X12_letterAt_5 : DC mX12_letterAt 5 (.baload) 1 6 := ⟨by decide +kernel, rfl⟩
theorem d_X12_letterAt_6 : DC mX12_letterAt 6 (.bipush 97) 2 8 := ⟨by decide +kernel, rfl⟩
theorem d_X12_letterAt_8 : DC mX12_letterAt 8 (.isub) 1 9 := ⟨by decide +kernel, rfl⟩
theorem d_X12_letterAt_9 : DC mX12_letterAt 9 (.ireturn) 1 10 := ⟨by decide +kernel, rfl⟩
theorem d_X12_term_0 : DC mX12_term 0 (.aload_n 0) 1 1 := ⟨by decide +kernel, rfl⟩
theorem d_X12_term_1 : DC mX12_term 1 (.getfield 255) 3 4 := ⟨by decide +kernel, rfl⟩
theorem d_X12_term_4 : DC mX12_term 4 (.istore_n 3) 1 5 := ⟨by decide +kernel, rfl⟩
theorem d_X12_term_5 : DC mX12_term 5 (.iconst 0) 1 6 := ⟨by decide +kernel, rfl⟩
theorem d_X12_term_6 : DC mX12_term 6 (.istore 4) 2 8 := ⟨by decide +kernel, rfl⟩
theorem d_X12_term_8 : DC mX12_term 8 (.aload_n 0) 1 9 := ⟨by decide +kernel, rfl⟩
theorem d_X12_term_9 : DC mX12_term 9 (.invokevirtual 279) 3 12 := ⟨by decide +kernel, rfl⟩
theorem d_X12_term_12 : DC mX12_term 12 (.ifCond .eq 44) 3 15 := ⟨by decide +kernel, rfl⟩
theorem d_X12_term_15 : DC mX12_term 15 (.iload 4) 2 17 := ⟨by decide +kernel, rfl⟩
theorem d_X12_term_17 : DC mX12_term 17 (.sipush 9999) 3 20 := ⟨by decide +kernel, rfl⟩
theorem d_X12_term_20 : DC mX12_term 20 (.if_icmp .le 8) 3 23 := ⟨by decide +kernel, rfl⟩
theorem d_X12_term_23 : DC mX12_term 23 (.iload 4) 2 25 := ⟨by decide +kernel, rfl⟩
theorem d_X12_term_25 : DC mX12_term 25 (.goto 16) 3 28 := ⟨by decide +kernel, rfl⟩
theorem d_X12_term_28 : DC mX12_term 28 (.bipush 10) 2 30 := ⟨by decide +kernel, rfl⟩
theorem d_X12_term_30 : DC mX12_term 30 (.iload 4) 2 32 := ⟨by decide +kernel, rfl⟩
theorem d_X12_term_32 : DC mX12_term 32 (.imul) 1 33 := ⟨by decide +kernel, rfl⟩
theorem d_X12_term_33 : DC mX12_term 33 (.aload_n 0) 1 34 := ⟨by decide +kernel, rfl⟩
theorem d_X12_term_34 : DC mX12_term 34 (.invokevirtual 264) 3 37 := ⟨by decide +kernel, rfl⟩
theorem d_X12_term_37 : DC mX12_term 37 (.iadd) 1 38 := ⟨by decide +kernel, rfl⟩
theorem d_X12_term_38 : DC mX12_term 38 (.bipush 48) 2 40 := ⟨by decide +kernel, rfl⟩
theorem d_X12_term_40 : DC mX12_term 40 (.isub) 1 41 := ⟨by decide +kernel, rfl⟩
theorem d_X12_term_41 : DC mX12_term 41 (.istore 4) 2 43 := ⟨by decide +kernel, rfl⟩
theorem d_X12_term_43 : DC mX12_term 43 (.aload_n 0) 1 44 := ⟨by decide +kernel, rfl⟩
theorem d_X12_term_44 : DC mX12_term 44 (.dup) 1 45 := ⟨by decide +kernel, rfl⟩
theorem d_X12_term_45 : DC mX12_term 45 (.getfield 255) 3 48 := ⟨by decide +kernel, rfl⟩
theorem d_X12_term_48 : DC mX12_term 48 (.iconst 1) 1 49 := ⟨by decide +kernel, rfl⟩
theorem d_X12_term_49 : DC mX12_term 49 (.iadd) 1 50 := ⟨by decide +kernel, rfl⟩
theorem d_X12_term_50 : DC mX12_term 50 (.putfield 255) 3 53 := ⟨by decide +kernel, rfl⟩
theorem d_X12_term_53 : DC mX12_term 53 (.goto (-45)) 3 56 := ⟨by decide +kernel, rfl⟩
theorem d_X12_term_56 : DC mX12_term 56 (.aload_n 0) 1 57 := ⟨by decide +kernel, rfl⟩
theorem d_X12_term_57 : DC mX12_term 57 (.getfield 255) 3 60 := ⟨by decide +kernel, rfl⟩
theorem d_X12_term_60 : DC mX12_term 60 (.iload_n 3) 1 61 := ⟨by decide +kernel, rfl⟩
theorem d_X12_term_61 : DC mX12_term 61 (.iconst 4) 1 62 := ⟨by decide +kernel, rfl⟩
theorem d_X12_term_62 : DC mX12_term 62 (.iadd) 1 63 := ⟨by decide +kernel, rfl⟩
theorem d_X12_term_63 : DC mX12_term 63 (.if_icmp .le 9) 3 66 := ⟨by decide +kernel, rfl⟩
theorem d_X12_term_66 : DC mX12_term 66 (.aload_n 0) 1 67 := ⟨by decide +kernel, rfl⟩
theorem d_X12_term_67 : DC mX12_term 67 (.iconst 2) 1 68 := ⟨by decide +kernel, rfl⟩
theorem d_X12_term_68 : DC mX12_term 68 (.iload_n 3) 1 69 := ⟨by decide +kernel, rfl⟩
theorem d_X12_term_69 : DC mX12_term 69 (.invokevirtual 276) 3 72 := ⟨by decide +kernel, rfl⟩
theorem d_X12_term_72 : DC mX12_term 72 (.aload_n 0) 1 73 := ⟨by decide +kernel, rfl⟩
theorem d_X12_term_73 : DC mX12_term 73 (.getfield 255) 3 76 := ⟨by decide +kernel, rfl⟩
theorem d_X12_term_76 : DC mX12_term 76 (.iload_n 3) 1 77 := ⟨by decide +kernel, rfl⟩
theorem d_X12_term_77 : DC mX12_term 77 (.if_icmp .le 7) 3 80 := ⟨by decide +kernel, rfl⟩
theorem d_X12_term_80 : DC mX12_term 80 (.iconst 1) 1 81 := ⟨by decide +kernel, rfl⟩
theorem d_X12_term_81 : DC mX12_term 81 (.goto 4) 3 84 := ⟨by decide +kernel, rfl⟩
theorem d_X12_term_84 : DC mX12_term 84 (.iconst 0) 1 85 := ⟨by decide +kernel, rfl⟩
theorem d_X12_term_85 : DC mX12_term 85 (.istore 5) 2 87 := ⟨by decide +kernel, rfl⟩
theorem d_X12_term_87 : DC mX12_term 87 (.iload 5) 2 89 := ⟨by decide +kernel, rfl⟩
theorem d_X12_term_89 : DC mX12_term 89 (.ifCond .ne 21) 3 92 := ⟨by decide +kernel, rfl⟩
theorem d_X12_term_92 : DC mX12_term 92 (.aload_n 0) 1 93 := ⟨by decide +kernel, rfl⟩
theorem d_X12_term_93 : DC mX12_term 93 (.invokevirtual 264) 3 96 := ⟨by decide +kernel, rfl⟩
theorem d_X12_term_96 : DC mX12_term 96 (.bipush 91) 2 98 := ⟨by decide +kernel, rfl⟩
theorem d_X12_term_98 : DC mX12_term 98 (.if_icmp .eq 12) 3 101 := ⟨by decide +kernel, rfl⟩
theorem d_X12_term_101 : DC mX12_term 101 (.aload_n 0) 1 102 := ⟨by decide +kernel, rfl⟩
theorem d_X12_term_102 : DC mX12_term 102 (.iconst 1) 1 103 := ⟨by decide +kernel, rfl⟩
theorem d_X12_term_103 : DC mX12_term 103 (.aload_n 0) 1 104 := ⟨by decide +kernel, rfl⟩
theorem d_X12_term_104 : DC mX12_term 104 (.getfield 255) 3 107 := ⟨by decide +kernel, rfl⟩
theorem d_X12_term_107 : DC mX12_term 107 (.invokevirtual 276) 3 110 := ⟨by decide +kernel, rfl⟩
theorem d_X12_term_110 : DC mX12_term 110 (.iload_n 1) 1 111 := ⟨by decide +kernel, rfl⟩
theorem d_X12_term_111 : DC mX12_term 111 (.iload 5) 2 113 := ⟨by decide +kernel, rfl⟩
theorem d_X12_term_113 : DC mX12_term 113 (.ifCond .eq 8) 3 116 := ⟨by decide +kernel, rfl⟩
theorem d_X12_term_116 : DC mX12_term 116 (.iload 4) 2 118 := ⟨by decide +kernel, rfl⟩
theorem d_X12_term_118 : DC mX12_term 118 (.goto 4) 3 121 := ⟨by decide +kernel, rfl⟩
theorem d_X12_term_121 : DC mX12_term 121 (.iconst 1) 1 122 := ⟨by decide +kernel, rfl⟩
theorem d_X12_term_122 : DC mX12_term 122 (.imul) 1 123 := ⟨by decide +kernel, rfl⟩
theorem d_X12_term_123 : DC mX12_term 123 (.i2l) 1 124 := ⟨by decide +kernel, rfl⟩
theorem d_X12_term_124 : DC mX12_term 124 (.lstore 6) 2 126 := ⟨by decide +kernel, rfl⟩
theorem d_X12_term_126 : DC mX12_term 126 (.iconst 0) 1 127 := ⟨by decide +kernel, rfl⟩
theorem d_X12_term_127 : DC mX12_term 127 (.istore 8) 2 129 := ⟨by decide +kernel, rfl⟩
theorem d_X12_term_129 : DC mX12_term 129 (.aload_n 0) 1 130 := ⟨by decide +kernel, rfl⟩
theorem d_X12_term_130 : DC mX12_term 130 (.getfield 261) 3 133 := ⟨by decide +kernel, rfl⟩
theorem d_X12_term_133 : DC mX12_term 133 (.ifCond .ne 174) 3 136 := ⟨by decide +kernel, rfl⟩
theorem d_X12_term_136 : DC mX12_term 136 (.aload_n 0) 1 137 := ⟨by decide +kernel, rfl⟩
theorem d_X12_term_137 : DC mX12_term 137 (.invokevirtual 264) 3 140 := ⟨by decide +kernel, rfl⟩
theorem d_X12_term_140 : DC mX12_term 140 (.bipush 91) 2 142 := ⟨by decide +kernel, rfl⟩
theorem d_X12_term_142 : DC mX12_term 142 (.if_icmp .ne 165) 3 145 := ⟨by decide +kernel, rfl⟩
theorem d_X12_term_145 : DC mX12_term 145 (.iload 8) 2 147 := ⟨by decide +kernel, rfl⟩
theorem d_X12_term_147 : DC mX12_term 147 (.iconst 4) 1 148 := ⟨by decide +kernel, rfl⟩
theorem d_X12_term_148 : DC mX12_term 148 (.if_icmp .ne 13) 3 151 := ⟨by decide +kernel, rfl⟩
theorem d_X12_term_151 : DC mX12_term 151 (.aload_n 0) 1 152 := ⟨by decide +kernel, rfl⟩
theorem d_X12_term_152 : DC mX12_term 152 (.iconst 3) 1 153 := ⟨by decide +kernel, rfl⟩
theorem d_X12_term_153 : DC mX12_term 153 (.aload_n 0) 1 154 := ⟨by decide +kernel, rfl⟩
theorem d_X12_term_154 : DC mX12_term 154 (.getfield 255) 3 157 := ⟨by decide +kernel, rfl⟩
theorem d_X12_term_157 : DC mX12_term 157 (.invokevirtual 276) 3 160 := ⟨by decide +kernel, rfl⟩
theorem d_X12_term_160 : DC mX12_term 160 (.return_) 1 161 := ⟨by decide +kernel, rfl⟩
theorem d_X12_term_161 : DC mX12_term 161 (.aload_n 0) 1 162 := ⟨by decide +kernel, rfl⟩
theorem d_X12_term_162 : DC mX12_term 162 (.dup) 1 163 := ⟨by decide +kernel, rfl⟩
theorem d_X12_term_163 : DC mX12_term 163 (.getfield 255) 3 166 := ⟨by decide +kernel, rfl⟩
theorem d_X12_term_166 : DC mX12_term 166 (.iconst 1) 1 167 := ⟨by decide +kernel, rfl⟩
theorem d_X12_term_167 : DC mX12_term 167 (.iadd) 1 168 := ⟨by decide +kernel, rfl⟩
theorem d_X12_term_168 : DC mX12_term 168 (.putfield 255) 3 171 := ⟨by decide +kernel, rfl⟩
theorem d_X12_term_171 : DC mX12_term 171 (.iconst 0) 1 172 := ⟨by decide +kernel, rfl⟩
theorem d_X12_term_172 : DC mX12_term 172 (.istore 9) 2 174 := ⟨by decide +kernel, rfl⟩
theorem d_X12_term_174 : DC mX12_term 174 (.iload 9) 2 176 := ⟨by decide +kernel, rfl⟩
theorem d_X12_term_176 : DC mX12_term 176 (.iconst 3) 1 177 := ⟨by decide +kernel, rfl⟩
theorem d_X12_term_177 : DC mX12_term 177 (.if_icmp .ge 17) 3 180 := ⟨by decide +kernel, rfl⟩
theorem d_X12_term_180 : DC mX12_term 180 (.aload_n 0) 1 181 := ⟨by decide +kernel, rfl⟩
theorem d_X12_term_181 : DC mX12_term 181 (.aload_n 0) 1 182 := ⟨by decide +kernel, rfl⟩
theorem d_X12_term_182 : DC mX12_term 182 (.invokevirtual 283) 3 185 := ⟨by decide +kernel, rfl⟩
theorem d_X12_term_185 : DC mX12_term 185 (.invokevirtual 286) 3 188 := ⟨by decide +kernel, rfl⟩
theorem d_X12_term_188 : DC mX12_term 188 (.iinc 9 1) 3 191 := ⟨by decide +kernel, rfl⟩
theorem d_X12_term_191 : DC mX12_term 191 (.goto (-17)) 3 194 := ⟨by decide +kernel, rfl⟩
theorem d_X12_term_194 : DC mX12_term 194 (.aload_n 0) 1 195 := ⟨by decide +kernel, rfl⟩
theorem d_X12_term_195 : DC mX12_term 195 (.aload_n 0) 1 196 := ⟨by decide +kernel, rfl⟩
theorem d_X12_term_196 : DC mX12_term 196 (.invokevirtual 264) 3 199 := ⟨by decide +kernel, rfl⟩
theorem d_X12_term_199 : DC mX12_term 199 (.bipush 93) 2 201 := ⟨by decide +kernel, rfl⟩
theorem d_X12_term_201 : DC mX12_term 201 (.if_icmp .ne 7) 3 204 := ⟨by decide +kernel, rfl⟩
theorem d_X12_term_204 : DC mX12_term 204 (.iconst 1) 1 205 := ⟨by decide +kernel, rfl⟩
theorem d_X12_term_205 : DC mX12_term 205 (.goto 4) 3 208 := ⟨by decide +kernel, rfl⟩
theorem d_X12_term_208 : DC mX12_term 208 (.iconst 0) 1 209 := ⟨by decide +kernel, rfl⟩
theorem d_X12_term_209 : DC mX12_term 209 (.invokevirtual 286) 3 212 := ⟨by decide +kernel, rfl⟩
theorem d_X12_term_212 : DC mX12_term 212 (.aload_n 0) 1 213 := ⟨by decide +kernel, rfl⟩
theorem d_X12_term_213 : DC mX12_term 213 (.getfield 261) 3 216 := ⟨by decide +kernel, rfl⟩
theorem d_X12_term_216 : DC mX12_term 216 (.ifCond .eq 4) 3 219 := ⟨by decide +kernel, rfl⟩
theorem d_X12_term_219 : DC mX12_term 219 (.return_) 1 220 := ⟨by decide +kernel, rfl⟩
theorem d_X12_term_220 : DC mX12_term 220 (.aload_n 0) 1 221 := ⟨by decide +kernel, rfl⟩
theorem d_X12_term_221 : DC mX12_term 221 (.getfield 13) 3 224 := ⟨by decide +kernel, rfl⟩
theorem d_X12_term_224 : DC mX12_term 224 (.bipush 100) 2 226 := ⟨by decide +kernel, rfl⟩
theorem d_X12_term_226 : DC mX12_term 226 (.aload_n 0) 1 227 := ⟨by decide +kernel, rfl⟩
theorem d_X12_term_227 : DC mX12_term 227 (.aload_n 0) 1 228 := ⟨by decide +kernel, rfl⟩
theorem d_X12_term_228 : DC mX12_term 228 (.getfield 255) 3 231 := ⟨by decide +kernel, rfl⟩
theorem d_X12_term_231 : DC mX12_term 231 (.iconst 4) 1 232 := ⟨by decide +kernel, rfl⟩
theorem d_X12_term_232 : DC mX12_term 232 (.isub) 1 233 := ⟨by decide +kernel, rfl⟩
theorem d_X12_term_233 : DC mX12_term 233 (.invokevirtual 290) 3 236 := ⟨by decide +kernel, rfl⟩
theorem d_X12_term_236 : DC mX12_term 236 (.imul) 1 237 := ⟨by decide +kernel, rfl⟩
theorem d_X12_term_237 : DC mX12_term 237 (.bipush 10) 2 239 := ⟨by decide +kernel, rfl⟩
theorem d_X12_term_239 : DC mX12_term 239 (.aload_n 0) 1 240 := ⟨by decide +kernel, rfl⟩
theorem d_X12_term_240 : DC mX12_term 240 (.aload_n 0) 1 241 := ⟨by decide +kernel, rfl⟩
theorem d_X12_term_241 : DC mX12_term 241 (.getfield 255) 3 244 := ⟨by decide +kernel, rfl⟩
theorem d_X12_term_244 : DC mX12_term 244 (.iconst 3) 1 245 := ⟨by decide +kernel, rfl⟩
theorem d_X12_term_245 : DC mX12_term 245 (.isub) 1 246 := ⟨by decide +kernel, rfl⟩
theorem d_X12_term_246 : DC mX12_term 246 (.invokevirtual 290) 3 249 := ⟨by decide +kernel, rfl⟩
theorem d_X12_term_249 : DC mX12_term 249 (.imul) 1 250 := ⟨by decide +kernel, rfl⟩
theorem d_X12_term_250 : DC mX12_term 250 (.iadd) 1 251 := ⟨by decide +kernel, rfl⟩
theorem d_X12_term_251 : DC mX12_term 251 (.aload_n 0) 1 252 := ⟨by decide +kernel, rfl⟩
theorem d_X12_term_252 : DC mX12_term 252 (.aload_n 0) 1 253 := ⟨by decide +kernel, rfl⟩
theorem d_X12_term_253 : DC mX12_term 253 (.getfield 255) 3 256 := ⟨by decide +kernel, rfl⟩
theorem d_X12_term_256 : DC mX12_term 256 (.iconst 2) 1 257 := ⟨by decide +kernel, rfl⟩
theorem d_X12_term_257 : DC mX12_term 257 (.isub) 1 258 := ⟨by decide +kernel, rfl⟩
theorem d_X12_term_258 : DC mX12_term 258 (.invokevirtual 290) 3 261 := ⟨by decide +kernel, rfl⟩
theorem d_X12_term_261 : DC mX12_term 261 (.iadd) 1 262 := ⟨by decide +kernel, rfl⟩
theorem d_X12_term_262 : DC mX12_term 262 (.iaload) 1 263 := ⟨by decide +kernel, rfl⟩
theorem d_X12_term_263 : DC mX12_term 263 (.istore 9) 2 265 := ⟨by decide +kernel, rfl⟩
theorem d_X12_term_265 : DC mX12_term 265 (.iload 9) 2 267 := ⟨by decide +kernel, rfl⟩
theorem d_X12_term_267 : DC mX12_term 267 (.ifCond .ge 9) 3 270 := ⟨by decide +kernel, rfl⟩
theorem d_X12_term_270 : DC mX12_term 270 (.lload 6) 2 272 := ⟨by decide +kernel, rfl⟩
theorem d_X12_term_272 : DC mX12_term 272 (.lneg) 1 273 := ⟨by decide +kernel, rfl⟩
theorem d_X12_term_273 : DC mX12_term 273 (.goto 14) 3 276 := ⟨by decide +kernel, rfl⟩
theorem d_X12_term_276 : DC mX12_term 276 (.iload 9) 2 278 := ⟨by decide +kernel, rfl⟩
theorem d_X12_term_278 : DC mX12_term 278 (.ifCond .ne 7) 3 281 := ⟨by decide +kernel, rfl⟩
theorem d_X12_term_281 : DC mX12_term 281 (.lconst 0) 1 282 := ⟨by decide +kernel, rfl⟩
theorem d_X12_term_282 : DC mX12_term 282 (.goto 5) 3 285 := ⟨by decide +kernel, rfl⟩
theorem d_X12_term_285 : DC mX12_term 285 (.lload 6) 2 287 := ⟨by decide +kernel, rfl⟩
theorem d_X12_term_287 : DC mX12_term 287 (.lstore 6) 2 289 := ⟨by decide +kernel, rfl⟩
theorem d_X12_term_289 : DC mX12_term 289 (.aload_n 0) 1 290 := ⟨by decide +kernel, rfl⟩
theorem d_X12_term_290 : DC mX12_term 290 (.getfield 33) 3 293 := ⟨by decide +kernel, rfl⟩
theorem d_X12_term_293 : DC mX12_term 293 (.iload 8) 2 295 := ⟨by decide +kernel, rfl⟩
theorem d_X12_term_295 : DC mX12_term 295 (.iload 9) 2 297 := ⟨by decide +kernel, rfl⟩
theorem d_X12_term_297 : DC mX12_term 297 (.invokestatic 168) 3 300 := ⟨by decide +kernel, rfl⟩
theorem d_X12_term_300 : DC mX12_term 300 (.iastore) 1 301 := ⟨by decide +kernel, rfl⟩
theorem d_X12_term_301 : DC mX12_term 301 (.iinc 8 1) 3 304 := ⟨by decide +kernel, rfl⟩
theorem d_X12_term_304 : DC mX12_term 304 (.goto (-175)) 3 307 := ⟨by decide +kernel, rfl⟩
theorem d_X12_term_307 : DC mX12_term 307 (.iload_n 2) 1 308 := ⟨by decide +kernel, rfl⟩
theorem d_X12_term_308 : DC mX12_term 308 (.ifCond .eq 24) 3 311 := ⟨by decide +kernel, rfl⟩
theorem d_X12_term_311 : DC mX12_term 311 (.lload 6) 2 313 := ⟨by decide +kernel, rfl⟩
theorem d_X12_term_313 : DC mX12_term 313 (.lconst 0) 1 314 := ⟨by decide +kernel, rfl⟩
theorem d_X12_term_314 : DC mX12_term 314 (.lcmp) 1 315 := ⟨by decide +kernel, rfl⟩
theorem d_X12_term_315 : DC mX12_term 315 (.ifCond .eq 17) 3 318 := ⟨by decide +kernel, rfl⟩
theorem d_X12_term_318 : DC mX12_term 318 (.aload_n 0) 1 319 := ⟨by decide +kernel, rfl⟩
theorem d_X12_term_319 : DC mX12_term 319 (.iconst 0) 1 320 := ⟨by decide +kernel, rfl⟩
theorem d_X12_term_320 : DC mX12_term 320 (.aload_n 0) 1 321 := ⟨by decide +kernel, rfl⟩
theorem d_X12_term_321 : DC mX12_term 321 (.iload 8) 2 323 := ⟨by decide +kernel, rfl⟩
theorem d_X12_term_323 : DC mX12_term 323 (.invokevirtual 141) 3 326 := ⟨by decide +kernel, rfl⟩
theorem d_X12_term_326 : DC mX12_term 326 (.lload 6) 2 328 := ⟨by decide +kernel, rfl⟩
theorem d_X12_term_328 : DC mX12_term 328 (.invokevirtual 147) 3 331 := ⟨by decide +kernel, rfl⟩
theorem d_X12_term_331 : DC mX12_term 331 (.pop) 1 332 := ⟨by decide +kernel, rfl⟩
theorem d_X12_term_332 : DC mX12_term 332 (.return_) 1 333 := ⟨by decide +kernel, rfl⟩
theorem d_X12_polynomial_0 : DC mX12_polynomial 0 (.aload_n 0) 1 1 := ⟨by decide +kernel, rfl⟩
theorem d_X12_polynomial_1 : DC mX12_polynomial 1 (.iconst 0) 1 2 := ⟨by decide +kernel, rfl⟩
theorem d_X12_polynomial_2 : DC mX12_polynomial 2 (.putfield 255) 3 5 := ⟨by decide +kernel, rfl⟩
theorem d_X12_polynomial_5 : DC mX12_polynomial 5 (.aload_n 0) 1 6 := ⟨by decide +kernel, rfl⟩
theorem d_X12_polynomial_6 : DC mX12_polynomial 6 (.getfield 258) 3 9 := ⟨by decide +kernel, rfl⟩
theorem d_X12_polynomial_9 : DC mX12_polynomial 9 (.ifCond .le 7) 3 12 := ⟨by decide +kernel, rfl⟩
theorem d_X12_polynomial_12 : DC mX12_polynomial 12 (.iconst 1) 1 13 := ⟨by decide +kernel, rfl⟩
theorem d_X12_polynomial_13 : DC mX12_polynomial 13 (.goto 4) 3 16 := ⟨by decide +kernel, rfl⟩
theorem d_X12_polynomial_16 : DC mX12_polynomial 16 (.iconst 0) 1 17 := ⟨by decide +kernel, rfl⟩
theorem d_X12_polynomial_17 : DC mX12_polynomial 17 (.istore_n 2) 1 18 := ⟨by decide +kernel, rfl⟩
theorem d_X12_polynomial_18 : DC mX12_polynomial 18 (.iconst 1) 1 19 := ⟨by decide +kernel, rfl⟩
theorem d_X12_polynomial_19 : DC mX12_polynomial 19 (.istore_n 3) 1 20 := ⟨by decide +kernel, rfl⟩
theorem d_X12_polynomial_20 : DC mX12_polynomial 20 (.iload_n 2) 1 21 := ⟨by decide +kernel, rfl⟩
theorem d_X12_polynomial_21 : DC mX12_polynomial 21 (.ifCond .eq 125) 3 24 := ⟨by decide +kernel, rfl⟩
theorem d_X12_polynomial_24 : DC mX12_polynomial 24 (.aload_n 0) 1 25 := ⟨by decide +kernel, rfl⟩
theorem d_X12_polynomial_25 : DC mX12_polynomial 25 (.getfield 261) 3 28 := ⟨by decide +kernel, rfl⟩
theorem d_X12_polynomial_28 : DC mX12_polynomial 28 (.ifCond .ne 118) 3 31 := ⟨by decide +kernel, rfl⟩
theorem d_X12_polynomial_31 : DC mX12_polynomial 31 (.aload_n 0) 1 32 := ⟨by decide +kernel, rfl⟩
theorem d_X12_polynomial_32 : DC mX12_polynomial 32 (.invokevirtual 264) 3 35 := ⟨by decide +kernel, rfl⟩
theorem d_X12_polynomial_35 : DC mX12_polynomial 35 (.bipush 43) 2 37 := ⟨by decide +kernel, rfl⟩
theorem d_X12_polynomial_37 : DC mX12_polynomial 37 (.if_icmp .eq 12) 3 40 := ⟨by decide +kernel, rfl⟩
theorem d_X12_polynomial_40 : DC mX12_polynomial 40 (.aload_n 0) 1 41 := ⟨by decide +kernel, rfl⟩
theorem d_X12_polynomial_41 : DC mX12_polynomial 41 (.invokevirtual 264) 3 44 := ⟨by decide +kernel, rfl⟩
theorem d_X12_polynomial_44 : DC mX12_polynomial 44 (.bipush 45) 2 46 := ⟨by decide +kernel, rfl⟩
theorem d_X12_polynomial_46 : DC mX12_polynomial 46 (.if_icmp .ne 7) 3 49 := ⟨by decide +kernel, rfl⟩
theorem d_X12_polynomial_49 : DC mX12_polynomial 49 (.iconst 1) 1 50 := ⟨by decide +kernel, rfl⟩
theorem d_X12_polynomial_50 : DC mX12_polynomial 50 (.goto 4) 3 53 := ⟨by decide +kernel, rfl⟩
theorem d_X12_polynomial_53 : DC mX12_polynomial 53 (.iconst 0) 1 54 := ⟨by decide +kernel, rfl⟩
theorem d_X12_polynomial_54 : DC mX12_polynomial 54 (.istore 4) 2 56 := ⟨by decide +kernel, rfl⟩
theorem d_X12_polynomial_56 : DC mX12_polynomial 56 (.aload_n 0) 1 57 := ⟨by decide +kernel, rfl⟩
theorem d_X12_polynomial_57 : DC mX12_polynomial 57 (.invokevirtual 264) 3 60 := ⟨by decide +kernel, rfl⟩
theorem d_X12_polynomial_60 : DC mX12_polynomial 60 (.bipush 45) 2 62 := ⟨by decide +kernel, rfl⟩
theorem d_X12_polynomial_62 : DC mX12_polynomial 62 (.if_icmp .ne 7) 3 65 := ⟨by decide +kernel, rfl⟩
theorem d_X12_polynomial_65 : DC mX12_polynomial 65 (.iconst (-1)) 1 66 := ⟨by decide +kernel, rfl⟩
theorem d_X12_polynomial_66 : DC mX12_polynomial 66 (.goto 4) 3 69 := ⟨by decide +kernel, rfl⟩
theorem d_X12_polynomial_69 : DC mX12_polynomial 69 (.iconst 1) 1 70 := ⟨by decide +kernel, rfl⟩
theorem d_X12_polynomial_70 : DC mX12_polynomial 70 (.istore 5) 2 72 := ⟨by decide +kernel, rfl⟩
theorem d_X12_polynomial_72 : DC mX12_polynomial 72 (.iload 4) 2 74 := ⟨by decide +kernel, rfl⟩
theorem d_X12_polynomial_74 : DC mX12_polynomial 74 (.ifCond .eq 16) 3 77 := ⟨by decide +kernel, rfl⟩
theorem d_X12_polynomial_77 : DC mX12_polynomial 77 (.aload_n 0) 1 78 := ⟨by decide +kernel, rfl⟩
theorem d_X12_polynomial_78 : DC mX12_polynomial 78 (.dup) 1 79 := ⟨by decide +kernel, rfl⟩
theorem d_X12_polynomial_79 : DC mX12_polynomial 79 (.getfield 255) 3 82 := ⟨by decide +kernel, rfl⟩
theorem d_X12_polynomial_82 : DC mX12_polynomial 82 (.iconst 1) 1 83 := ⟨by decide +kernel, rfl⟩
theorem d_X12_polynomial_83 : DC mX12_polynomial 83 (.iadd) 1 84 := ⟨by decide +kernel, rfl⟩
theorem d_X12_polynomial_84 : DC mX12_polynomial 84 (.putfield 255) 3 87 := ⟨by decide +kernel, rfl⟩
theorem d_X12_polynomial_87 : DC mX12_polynomial 87 (.goto 16) 3 90 := ⟨by decide +kernel, rfl⟩
theorem d_X12_polynomial_90 : DC mX12_polynomial 90 (.iload_n 3) 1 91 := ⟨by decide +kernel, rfl⟩
theorem d_X12_polynomial_91 : DC mX12_polynomial 91 (.ifCond .ne 12) 3 94 := ⟨by decide +kernel, rfl⟩
theorem d_X12_polynomial_94 : DC mX12_polynomial 94 (.aload_n 0) 1 95 := ⟨by decide +kernel, rfl⟩
theorem d_X12_polynomial_95 : DC mX12_polynomial 95 (.iconst 1) 1 96 := ⟨by decide +kernel, rfl⟩
theorem d_X12_polynomial_96 : DC mX12_polynomial 96 (.aload_n 0) 1 97 := ⟨by decide +kernel, rfl⟩
theorem d_X12_polynomial_97 : DC mX12_polynomial 97 (.getfield 255) 3 100 := ⟨by decide +kernel, rfl⟩
theorem d_X12_polynomial_100 : DC mX12_polynomial 100 (.invokevirtual 276) 3 103 := ⟨by decide +kernel, rfl⟩
theorem d_X12_polynomial_103 : DC mX12_polynomial 103 (.iconst 0) 1 104 := ⟨by decide +kernel, rfl⟩
theorem d_X12_polynomial_104 : DC mX12_polynomial 104 (.istore_n 3) 1 105 := ⟨by decide +kernel, rfl⟩
theorem d_X12_polynomial_105 : DC mX12_polynomial 105 (.aload_n 0) 1 106 := ⟨by decide +kernel, rfl⟩
theorem d_X12_polynomial_106 : DC mX12_polynomial 106 (.getfield 261) 3 109 := ⟨by decide +kernel, rfl⟩
theorem d_X12_polynomial_109 : DC mX12_polynomial 109 (.ifCond .ne 10) 3 112 := ⟨by decide +kernel, rfl⟩
theorem d_X12_polynomial_112 : DC mX12_polynomial 112 (.aload_n 0) 1 113 := ⟨by decide +kernel, rfl⟩
theorem d_X12_polynomial_113 : DC mX12_polynomial 113 (.iload 5) 2 115 := ⟨by decide +kernel, rfl⟩
theorem d_X12_polynomial_115 : DC mX12_polynomial 115 (.iload_n 1) 1 116 := ⟨by decide +kernel, rfl⟩
theorem d_X12_polynomial_116 : DC mX12_polynomial 116 (.invokevirtual 293) 3 119 := ⟨by decide +kernel, rfl⟩
theorem d_X12_polynomial_119 : DC mX12_polynomial 119 (.aload_n 0) 1 120 := ⟨by decide +kernel, rfl⟩
theorem d_X12_polynomial_120 : DC mX12_polynomial 120 (.getfield 261) 3 123 := ⟨by decide +kernel, rfl⟩
theorem d_X12_polynomial_123 : DC mX12_polynomial 123 (.ifCond .ne 18) 3 126 := ⟨by decide +kernel, rfl⟩
theorem d_X12_polynomial_126 : DC mX12_polynomial 126 (.aload_n 0) 1 127 := ⟨by decide +kernel, rfl⟩
theorem d_X12_polynomial_127 : DC mX12_polynomial 127 (.getfield 255) 3 130 := ⟨by decide +kernel, rfl⟩
theorem d_X12_polynomial_130 : DC mX12_polynomial 130 (.aload_n 0) 1 131 := ⟨by decide +kernel, rfl⟩
theorem d_X12_polynomial_131 : DC mX12_polynomial 131 (.getfield 258) 3 134 := ⟨by decide +kernel, rfl⟩
theorem d_X12_polynomial_134 : DC mX12_polynomial 134 (.if_icmp .ge 7) 3 137 := ⟨by decide +kernel, rfl⟩
theorem d_X12_polynomial_137 : DC mX12_polynomial 137 (.iconst 1) 1 138 := ⟨by decide +kernel, rfl⟩
theorem d_X12_polynomial_138 : DC mX12_polynomial 138 (.goto 4) 3 141 := ⟨by decide +kernel, rfl⟩
theorem d_X12_polynomial_141 : DC mX12_polynomial 141 (.iconst 0) 1 142 := ⟨by decide +kernel, rfl⟩
theorem d_X12_polynomial_142 : DC mX12_polynomial 142 (.istore_n 2) 1 143 := ⟨by decide +kernel, rfl⟩
theorem d_X12_polynomial_143 : DC mX12_polynomial 143 (.goto (-123)) 3 146 := ⟨by decide +kernel, rfl⟩
theorem d_X12_polynomial_146 : DC mX12_polynomial 146 (.return_) 1 147 := ⟨by decide +kernel, rfl⟩
theorem v_X12_ends_0 {l : Launch} {d N : Nat} {Λ : Lay} {P : Int → Mem → Prop} {σ : Mem} {x1 t : Int} (o_t : Ob N Λ t 21 36) (h0d : 1 ≤ d)
    (h : (∀ τ1, τ1 = st σ t 16 (σ t 8) → ((¬ (τ1 t 8) = 0 → (CI l mX12_codeOf (d - 1) [(2, t), (0, (τ1 t 8))] N Λ τ1 (fun v3 σ2 => P v3 σ2))) ∧ ((τ1 t 8) = 0 → (CI l mX12_becomes (d - 1) [(2, t), (0, x1)] N Λ τ1 (fun v5 σ4 => P v5 σ4)))))) :
    WI l mX12_ends d P 0 [(2, t), (0, x1)] [] N Λ σ := by
  refine r_aload_n (x := t) d_X12_ends_0 rfl o_t.1 ?_
  refine r_aload_n (x := t) d_X12_ends_1 rfl o_t.1 ?_
  refine r_getf (j := 8) (t := 0) (x := (σ t 8)) d_X12_ends_2 kX12 (by decide) fl_X12_102 o_t.1 o_t.2.1 o_t.2.2.1 o_t.2.2.2 rfl rfl ?_
  refine r_putI (j := 16) d_X12_ends_5 kX12 (by decide) fl_X12_187 rfl o_t.1 o_t.2.1 o_t.2.2.1 o_t.2.2.2 rfl ?_
  refine r_nmM (fun τ1 eτ1 => ?_)
  have h := h τ1 eτ1
  refine r_aload_n (x := t) d_X12_ends_8 rfl o_t.1 ?_
  refine r_getf (j := 8) (t := 0) (x := (τ1 t 8)) d_X12_ends_9 kX12 (by decide) fl_X12_102 o_t.1 o_t.2.1 o_t.2.2.1 o_t.2.2.2 rfl rfl ?_
  refine r_if_ne (tgt := 23) d_X12_ends_12 rfl (fun hc => ?_) (fun hc => ?_)
  · have h := h.1 hc
    refine r_aload_n (x := t) d_X12_ends_23 rfl o_t.1 ?_
    refine r_aload_n (x := t) d_X12_ends_24 rfl o_t.1 ?_
    refine r_getf (j := 8) (t := 0) (x := (τ1 t 8)) d_X12_ends_25 kX12 (by decide) fl_X12_102 o_t.1 o_t.2.1 o_t.2.2.1 o_t.2.2.2 rfl rfl ?_
    refine r_callV (Y2 := mX12_codeOf) (d := d - 1) (mc := 0) (ms := 0) (c := t) (As := [(0, (τ1 t 8))]) (S := []) d_X12_ends_28 ok_mX12_codeOf ml_X12_193 rfl (rmc h0d (by decide)) rm00 (Nat.le_of_ble_eq_true rfl) rfl kX12 o_t.1 o_t.2.1 o_t.2.2.1 o_t.2.2.2 (MC.mono h (fun r N1 Λ1 σ2 hq => ?_))
    obtain ⟨v3, rfl, rfl, rfl, h⟩ := hq
    exact r_iret d_X12_ends_31 rfl rfl (Nat.le_refl 0) (Nat.le_refl 0) ⟨_, rfl, rfl, rfl, h⟩
  · have h := h.2 hc
    refine r_aload_n (x := t) d_X12_ends_15 rfl o_t.1 ?_
    refine r_iload_n (x := x1) d_X12_ends_16 rfl ?_
    refine r_callV (Y2 := mX12_becomes) (d := d - 1) (mc := 0) (ms := 0) (c := t) (As := [(0, x1)]) (S := []) d_X12_ends_17 ok_mX12_becomes ml_X12_190 rfl (rmc h0d (by decide)) rm00 (Nat.le_of_ble_eq_true rfl) rfl kX12 o_t.1 o_t.2.1 o_t.2.2.1 o_t.2.2.2 (MC.mono h (fun r N1 Λ1 σ4 hq => ?_))
    obtain ⟨v5, rfl, rfl, rfl, h⟩ := hq
    refine r_goto (tgt := 31) d_X12_ends_20 rfl ?_
    exact r_iret d_X12_ends_31 rfl rfl (Nat.le_refl 0) (Nat.le_refl 0) ⟨_, rfl, rfl, rfl, h⟩
theorem v_X12_becomes_0 {l : Launch} {d N : Nat} {Λ : Lay} {P : Int → Mem → Prop} {σ : Mem} {x1 t t_pool t_state : Int} (o_t : Ob N Λ t 21 36) (f_t_pool : (Λ t).2.2 7 = t_pool) (f_t_state : (Λ t).2.2 3 = t_state) (h0d : 1 ≤ d)
    (h : (CV l mX12_notes (d - 1) [(2, t)] N Λ σ (fun σ1 => (CV l mX12_copies (d - 1) [(2, t_pool), (0, 0), (2, t_state), (0, (mulI 161 x1)), (0, 161)] N Λ σ1 (fun σ2 => (CI l mX12_many (d - 1) [(2, t), (0, 0)] N Λ σ2 (fun v4 σ3 => P v4 σ3))))))) :
    WI l mX12_becomes d P 0 [(2, t), (0, x1)] [] N Λ σ := by
  refine r_aload_n (x := t) d_X12_becomes_0 rfl o_t.1 ?_
  refine r_callV (Y2 := mX12_notes) (d := d - 1) (mc := 0) (ms := 0) (c := t) (As := []) (S := []) d_X12_becomes_1 ok_mX12_notes ml_X12_196 rfl (rmc h0d (by decide)) rm00 (Nat.le_of_ble_eq_true rfl) rfl kX12 o_t.1 o_t.2.1 o_t.2.2.1 o_t.2.2.2 (MC.mono h (fun r N1 Λ1 σ1 hq => ?_))
  obtain ⟨rfl, rfl, rfl, h⟩ := hq
  refine r_aload_n (x := t) d_X12_becomes_4 rfl o_t.1 ?_
  refine r_getf (j := 7) (t := 2) (x := t_pool) d_X12_becomes_5 kX12 (by decide) fl_X12_30 o_t.1 o_t.2.1 o_t.2.2.1 o_t.2.2.2 rfl f_t_pool ?_
  refine r_iconst (x := 0) d_X12_becomes_8 ⟨by decide, by decide⟩ ?_
  refine r_aload_n (x := t) d_X12_becomes_9 rfl o_t.1 ?_
  refine r_getf (j := 3) (t := 2) (x := t_state) d_X12_becomes_10 kX12 (by decide) fl_X12_20 o_t.1 o_t.2.1 o_t.2.2.1 o_t.2.2.2 rfl f_t_state ?_
  refine r_sipush (x := 161) d_X12_becomes_13 ⟨by decide, by decide⟩ (by decide) ?_
  refine r_iload_n (x := x1) d_X12_becomes_16 rfl ?_
  refine r_imul d_X12_becomes_17 ?_
  refine r_sipush (x := 161) d_X12_becomes_18 ⟨by decide, by decide⟩ (by decide) ?_
  refine r_callS (Y2 := mX12_copies) (d := d - 1) (mc := 0) (ms := 0) (As := [(2, t_pool), (0, 0), (2, t_state), (0, (mulI 161 x1)), (0, 161)]) (S := []) d_X12_becomes_21 ok_mX12_copies ml_X12_98 rfl (rmc h0d (by decide)) rm00 (Nat.le_of_ble_eq_true rfl) rfl (MC.mono h (fun r N1 Λ1 σ2 hq => ?_))
  obtain ⟨rfl, rfl, rfl, h⟩ := hq
  refine r_aload_n (x := t) d_X12_becomes_24 rfl o_t.1 ?_
  refine r_iconst (x := 0) d_X12_becomes_25 ⟨by decide, by decide⟩ ?_
  refine r_callV (Y2 := mX12_many) (d := d - 1) (mc := 0) (ms := 0) (c := t) (As := [(0, 0)]) (S := []) d_X12_becomes_26 ok_mX12_many ml_X12_113 rfl (rmc h0d (by decide)) rm00 (Nat.le_of_ble_eq_true rfl) rfl kX12 o_t.1 o_t.2.1 o_t.2.2.1 o_t.2.2.2 (MC.mono h (fun r N1 Λ1 σ3 hq => ?_))
  obtain ⟨v4, rfl, rfl, rfl, h⟩ := hq
  exact r_iret d_X12_becomes_29 rfl rfl (Nat.le_refl 0) (Nat.le_refl 0) ⟨_, rfl, rfl, rfl, h⟩
theorem v_X12_refused_0 {l : Launch} {d N : Nat} {Λ : Lay} {P : Int → Mem → Prop} {σ : Mem} {x1 t : Int} (o_t : Ob N Λ t 21 36)
    (h : (∀ τ1, τ1 = st σ t 16 0 → P x1 τ1)) :
    WI l mX12_refused d P 0 [(2, t), (0, x1)] [] N Λ σ := by
  refine r_aload_n (x := t) d_X12_refused_0 rfl o_t.1 ?_
  refine r_iconst (x := 0) d_X12_refused_1 ⟨by decide, by decide⟩ ?_
  refine r_putI (j := 16) d_X12_refused_2 kX12 (by decide) fl_X12_187 rfl o_t.1 o_t.2.1 o_t.2.2.1 o_t.2.2.2 rfl ?_
  refine r_nmM (fun τ1 eτ1 => ?_)
  have h := h τ1 eτ1
  refine r_iload_n (x := x1) d_X12_refused_5 rfl ?_
  exact r_iret d_X12_refused_6 rfl rfl (Nat.le_refl 0) (Nat.le_refl 0) ⟨_, rfl, rfl, rfl, h⟩
theorem v_X12_why_0 {l : Launch} {d N : Nat} {Λ : Lay} {P : Int → Mem → Prop} {σ : Mem} {t : Int} (o_t : Ob N Λ t 21 36)
    (h : (∀ τ1, τ1 = st σ t 0 0 → P (τ1 t 16) τ1)) :
    WI l mX12_why d P 0 [(2, t)] [] N Λ σ := by
  refine r_aload_n (x := t) d_X12_why_0 rfl o_t.1 ?_
  refine r_iconst (x := 0) d_X12_why_1 ⟨by decide, by decide⟩ ?_
  refine r_putI (j := 0) d_X12_why_2 kX12 (by decide) fl_X12_1 rfl o_t.1 o_t.2.1 o_t.2.2.1 o_t.2.2.2 rfl ?_
  refine r_nmM (fun τ1 eτ1 => ?_)
  have h := h τ1 eτ1
  refine r_aload_n (x := t) d_X12_why_5 rfl o_t.1 ?_
  refine r_getf (j := 16) (t := 0) (x := (τ1 t 16)) d_X12_why_6 kX12 (by decide) fl_X12_187 o_t.1 o_t.2.1 o_t.2.2.1 o_t.2.2.2 rfl rfl ?_
  exact r_iret d_X12_why_9 rfl rfl (Nat.le_refl 0) (Nat.le_refl 0) ⟨_, rfl, rfl, rfl, h⟩
theorem v_X12_clear_0 {l : Launch} {d N : Nat} {Λ : Lay} {P : Int → Mem → Prop} {σ : Mem} {x1 t t_state : Int} (o_t : Ob N Λ t 21 36) (f_t_state : (Λ t).2.2 3 = t_state) (h0d : 1 ≤ d)
    (h : (∀ τ1, τ1 = st σ t 0 0 → (CI l mX12_isShelf (d - 1) [(0, x1)] N Λ τ1 (fun v3 σ2 => ((¬ v3 = 0 → (CV l mX12_begins (d - 1) [(2, t)] N Λ σ2 (fun σ4 => (Ix N Λ t_state 0 (mulI 161 x1) ∧ (∀ y5, y5 = (σ4 t_state (mulI 161 x1)) → (CI l mX12_becomes (d - 1) [(2, t), (0, x1)] N Λ σ4 (fun v7 σ6 => P y5 σ6))))))) ∧ (v3 = 0 → P (-2) σ2)))))) :
    WI l mX12_clear d P 0 [(2, t), (0, x1), (3, 0), (3, 0)] [] N Λ σ := by
  refine r_aload_n (x := t) d_X12_clear_0 rfl o_t.1 ?_
  refine r_iconst (x := 0) d_X12_clear_1 ⟨by decide, by decide⟩ ?_
  refine r_putI (j := 0) d_X12_clear_2 kX12 (by decide) fl_X12_1 rfl o_t.1 o_t.2.1 o_t.2.2.1 o_t.2.2.2 rfl ?_
  refine r_nmM (fun τ1 eτ1 => ?_)
  have h := h τ1 eτ1
  refine r_iload_n (x := x1) d_X12_clear_5 rfl ?_
  refine r_callS (Y2 := mX12_isShelf) (d := d - 1) (mc := 0) (ms := 0) (As := [(0, x1)]) (S := []) d_X12_clear_6 ok_mX12_isShelf ml_X12_199 rfl (rmc h0d (by decide)) rm00 (Nat.le_of_ble_eq_true rfl) rfl (MC.mono h (fun r N1 Λ1 σ2 hq => ?_))
  obtain ⟨v3, rfl, rfl, rfl, h⟩ := hq
  refine r_if_ne (tgt := 15) d_X12_clear_9 rfl (fun hc => ?_) (fun hc => ?_)
  · have h := h.1 hc
    refine r_aload_n (x := t) d_X12_clear_15 rfl o_t.1 ?_
    refine r_callV (Y2 := mX12_begins) (d := d - 1) (mc := 0) (ms := 0) (c := t) (As := []) (S := []) d_X12_clear_16 ok_mX12_begins ml_X12_202 rfl (rmc h0d (by decide)) rm00 (Nat.le_of_ble_eq_true rfl) rfl kX12 o_t.1 o_t.2.1 o_t.2.2.1 o_t.2.2.2 (MC.mono h (fun r N1 Λ1 σ4 hq => ?_))
    obtain ⟨rfl, rfl, rfl, h⟩ := hq
    refine r_aload_n (x := t) d_X12_clear_19 rfl o_t.1 ?_
    refine r_getf (j := 3) (t := 2) (x := t_state) d_X12_clear_20 kX12 (by decide) fl_X12_20 o_t.1 o_t.2.1 o_t.2.2.1 o_t.2.2.2 rfl f_t_state ?_
    refine r_sipush (x := 161) d_X12_clear_23 ⟨by decide, by decide⟩ (by decide) ?_
    refine r_iload_n (x := x1) d_X12_clear_26 rfl ?_
    refine r_imul d_X12_clear_27 ?_
    refine x_iald d_X12_clear_28 h.1 ?_
    have h := h.2
    refine r_nm (fun y5 ey5 => ?_)
    have h := h y5 ey5
    refine r_istore_n (L2 := [(2, t), (0, x1), (0, y5), (3, 0)]) d_X12_clear_29 (by decide) rfl rfl ?_
    refine r_aload_n (x := t) d_X12_clear_30 rfl o_t.1 ?_
    refine r_iload_n (x := x1) d_X12_clear_31 rfl ?_
    refine r_callV (Y2 := mX12_becomes) (d := d - 1) (mc := 0) (ms := 0) (c := t) (As := [(0, x1)]) (S := []) d_X12_clear_32 ok_mX12_becomes ml_X12_190 rfl (rmc h0d (by decide)) rm00 (Nat.le_of_ble_eq_true rfl) rfl kX12 o_t.1 o_t.2.1 o_t.2.2.1 o_t.2.2.2 (MC.mono h (fun r N1 Λ1 σ6 hq => ?_))
    obtain ⟨v7, rfl, rfl, rfl, h⟩ := hq
    refine r_istore_n (L2 := [(2, t), (0, x1), (0, y5), (0, v7)]) d_X12_clear_35 (by decide) rfl rfl ?_
    refine r_iload_n (x := y5) d_X12_clear_36 rfl ?_
    exact r_iret d_X12_clear_37 rfl rfl (Nat.le_refl 0) (Nat.le_refl 0) ⟨_, rfl, rfl, rfl, h⟩
  · have h := h.2 hc
    refine r_bipush (x := (-2)) d_X12_clear_12 ⟨by decide, by decide⟩ (by decide) ?_
    exact r_iret d_X12_clear_14 rfl rfl (Nat.le_refl 0) (Nat.le_refl 0) ⟨_, rfl, rfl, rfl, h⟩
theorem v_X12_copy_0 {l : Launch} {d N : Nat} {Λ : Lay} {P : Int → Mem → Prop} {σ : Mem} {x1 x2 t : Int} (o_t : Ob N Λ t 21 36) (h0d : 1 ≤ d)
    (h : (∀ τ1, τ1 = st σ t 0 0 → (CI l mX12_isShelf (d - 1) [(0, x1)] N Λ τ1 (fun v3 σ2 => ((v3 = 0 → P (-2) σ2) ∧ (¬ (v3 = 0) → (CI l mX12_isShelf (d - 1) [(0, x2)] N Λ σ2 (fun v5 σ4 => ((¬ v5 = 0 → (CV l mX12_begins (d - 1) [(2, t)] N Λ σ4 (fun σ6 => (CV l mX12_takes (d - 1) [(2, t), (0, x2), (0, 0)] N Λ σ6 (fun σ7 => (CI l mX12_becomes (d - 1) [(2, t), (0, x1)] N Λ σ7 (fun v9 σ8 => P v9 σ8))))))) ∧ (v5 = 0 → P (-2) σ4)))))))))) :
    WI l mX12_copy d P 0 [(2, t), (0, x1), (0, x2)] [] N Λ σ := by
  refine r_aload_n (x := t) d_X12_copy_0 rfl o_t.1 ?_
  refine r_iconst (x := 0) d_X12_copy_1 ⟨by decide, by decide⟩ ?_
  refine r_putI (j := 0) d_X12_copy_2 kX12 (by decide) fl_X12_1 rfl o_t.1 o_t.2.1 o_t.2.2.1 o_t.2.2.2 rfl ?_
  refine r_nmM (fun τ1 eτ1 => ?_)
  have h := h τ1 eτ1
  refine r_iload_n (x := x1) d_X12_copy_5 rfl ?_
  refine r_callS (Y2 := mX12_isShelf) (d := d - 1) (mc := 0) (ms := 0) (As := [(0, x1)]) (S := []) d_X12_copy_6 ok_mX12_isShelf ml_X12_199 rfl (rmc h0d (by decide)) rm00 (Nat.le_of_ble_eq_true rfl) rfl (MC.mono h (fun r N1 Λ1 σ2 hq => ?_))
  obtain ⟨v3, rfl, rfl, rfl, h⟩ := hq
  refine r_if_eq (tgt := 19) d_X12_copy_9 rfl (fun hc => ?_) (fun hc => ?_)
  · have h := h.1 hc
    refine r_bipush (x := (-2)) d_X12_copy_19 ⟨by decide, by decide⟩ (by decide) ?_
    exact r_iret d_X12_copy_21 rfl rfl (Nat.le_refl 0) (Nat.le_refl 0) ⟨_, rfl, rfl, rfl, h⟩
  · have h := h.2 hc
    refine r_iload_n (x := x2) d_X12_copy_12 rfl ?_
    refine r_callS (Y2 := mX12_isShelf) (d := d - 1) (mc := 0) (ms := 0) (As := [(0, x2)]) (S := []) d_X12_copy_13 ok_mX12_isShelf ml_X12_199 rfl (rmc h0d (by decide)) rm00 (Nat.le_of_ble_eq_true rfl) rfl (MC.mono h (fun r N1 Λ1 σ4 hq => ?_))
    obtain ⟨v5, rfl, rfl, rfl, h⟩ := hq
    refine r_if_ne (tgt := 22) d_X12_copy_16 rfl (fun hc => ?_) (fun hc => ?_)
    · have h := h.1 hc
      refine r_aload_n (x := t) d_X12_copy_22 rfl o_t.1 ?_
      refine r_callV (Y2 := mX12_begins) (d := d - 1) (mc := 0) (ms := 0) (c := t) (As := []) (S := []) d_X12_copy_23 ok_mX12_begins ml_X12_202 rfl (rmc h0d (by decide)) rm00 (Nat.le_of_ble_eq_true rfl) rfl kX12 o_t.1 o_t.2.1 o_t.2.2.1 o_t.2.2.2 (MC.mono h (fun r N1 Λ1 σ6 hq => ?_))
      obtain ⟨rfl, rfl, rfl, h⟩ := hq
      refine r_aload_n (x := t) d_X12_copy_26 rfl o_t.1 ?_
      refine r_iload_n (x := x2) d_X12_copy_27 rfl ?_
      refine r_iconst (x := 0) d_X12_copy_28 ⟨by decide, by decide⟩ ?_
      refine r_callV (Y2 := mX12_takes) (d := d - 1) (mc := 0) (ms := 0) (c := t) (As := [(0, x2), (0, 0)]) (S := []) d_X12_copy_29 ok_mX12_takes ml_X12_205 rfl (rmc h0d (by decide)) rm00 (Nat.le_of_ble_eq_true rfl) rfl kX12 o_t.1 o_t.2.1 o_t.2.2.1 o_t.2.2.2 (MC.mono h (fun r N1 Λ1 σ7 hq => ?_))
      obtain ⟨rfl, rfl, rfl, h⟩ := hq
      refine r_aload_n (x := t) d_X12_copy_32 rfl o_t.1 ?_
      refine r_iload_n (x := x1) d_X12_copy_33 rfl ?_
      refine r_callV (Y2 := mX12_becomes) (d := d - 1) (mc := 0) (ms := 0) (c := t) (As := [(0, x1)]) (S := []) d_X12_copy_34 ok_mX12_becomes ml_X12_190 rfl (rmc h0d (by decide)) rm00 (Nat.le_of_ble_eq_true rfl) rfl kX12 o_t.1 o_t.2.1 o_t.2.2.1 o_t.2.2.2 (MC.mono h (fun r N1 Λ1 σ8 hq => ?_))
      obtain ⟨v9, rfl, rfl, rfl, h⟩ := hq
      exact r_iret d_X12_copy_37 rfl rfl (Nat.le_refl 0) (Nat.le_refl 0) ⟨_, rfl, rfl, rfl, h⟩
    · have h := h.2 hc
      refine r_bipush (x := (-2)) d_X12_copy_19 ⟨by decide, by decide⟩ (by decide) ?_
      exact r_iret d_X12_copy_21 rfl rfl (Nat.le_refl 0) (Nat.le_refl 0) ⟨_, rfl, rfl, rfl, h⟩
theorem v_X12_putsBracket_0 {l : Launch} {d N : Nat} {Λ : Lay} {P : Mem → Prop} {σ : Mem} {x1 x2 x3 x4 t t_rankOf t_ranks : Int} (o_t : Ob N Λ t 21 36) (f_t_rankOf : (Λ t).2.2 1 = t_rankOf) (f_t_ranks : (Λ t).2.2 9 = t_ranks) (h0d : 1 ≤ d)
    (h : (Ix N Λ t_rankOf 0 (addI (addI (mulI 100 x1) (mulI 10 x2)) x3) ∧ (∀ y1, y1 = (σ t_rankOf (addI (addI (mulI 100 x1) (mulI 10 x2)) x3)) → (CI l mX12_sizeOf (d - 1) [(0, y1)] N Λ σ (fun v3 σ2 => (Ix N Λ t_ranks 0 0 ∧ (∀ τ4, τ4 = st σ2 t_ranks 0 v3 → ((y1 = 0 → P τ4) ∧ (¬ (y1 = 0) → (CI l mX12_keyOf (d - 1) [(2, t), (0, 1)] N Λ τ4 (fun v6 σ5 => ((0 ≤ y1 → (CI l mX12_puts (d - 1) [(2, t), (0, x4), (0, v6), (1, 1)] N Λ σ5 (fun v8 σ7 => P σ7))) ∧ (¬ (0 ≤ y1) → (CI l mX12_puts (d - 1) [(2, t), (0, x4), (0, v6), (1, (-1))] N Λ σ5 (fun v10 σ9 => P σ9))))))))))))))) :
    WV l mX12_putsBracket d P 0 [(2, t), (0, x1), (0, x2), (0, x3), (0, x4), (3, 0)] [] N Λ σ := by
  refine r_aload_n (x := t) d_X12_putsBracket_0 rfl o_t.1 ?_
  refine r_getf (j := 1) (t := 2) (x := t_rankOf) d_X12_putsBracket_1 kX12 (by decide) fl_X12_13 o_t.1 o_t.2.1 o_t.2.2.1 o_t.2.2.2 rfl f_t_rankOf ?_
  refine r_bipush (x := 100) d_X12_putsBracket_4 ⟨by decide, by decide⟩ (by decide) ?_
  refine r_iload_n (x := x1) d_X12_putsBracket_6 rfl ?_
  refine r_imul d_X12_putsBracket_7 ?_
  refine r_bipush (x := 10) d_X12_putsBracket_8 ⟨by decide, by decide⟩ (by decide) ?_
  refine r_iload_n (x := x2) d_X12_putsBracket_10 rfl ?_
  refine r_imul d_X12_putsBracket_11 ?_
  refine r_iadd d_X12_putsBracket_12 ?_
  refine r_iload_n (x := x3) d_X12_putsBracket_13 rfl ?_
  refine r_iadd d_X12_putsBracket_14 ?_
  refine x_iald d_X12_putsBracket_15 h.1 ?_
  have h := h.2
  refine r_nm (fun y1 ey1 => ?_)
  have h := h y1 ey1
  refine r_istore (L2 := [(2, t), (0, x1), (0, x2), (0, x3), (0, x4), (0, y1)]) d_X12_putsBracket_16 (by decide) rfl rfl ?_
  refine r_aload_n (x := t) d_X12_putsBracket_18 rfl o_t.1 ?_
  refine r_getf (j := 9) (t := 2) (x := t_ranks) d_X12_putsBracket_19 kX12 (by decide) fl_X12_33 o_t.1 o_t.2.1 o_t.2.2.1 o_t.2.2.2 rfl f_t_ranks ?_
  refine r_iconst (x := 0) d_X12_putsBracket_22 ⟨by decide, by decide⟩ ?_
  refine r_iload (x := y1) d_X12_putsBracket_23 rfl ?_
  refine r_callS (Y2 := mX12_sizeOf) (d := d - 1) (mc := 0) (ms := 0) (As := [(0, y1)]) (S := [(0, 0), (2, t_ranks)]) d_X12_putsBracket_25 ok_mX12_sizeOf ml_X12_168 rfl (rmc h0d (by decide)) rm00 (Nat.le_of_ble_eq_true rfl) rfl (MC.mono h (fun r N1 Λ1 σ2 hq => ?_))
  obtain ⟨v3, rfl, rfl, rfl, h⟩ := hq
  refine x_iast d_X12_putsBracket_28 h.1 ?_
  have h := h.2
  refine r_nmM (fun τ4 eτ4 => ?_)
  have h := h τ4 eτ4
  refine r_iload (x := y1) d_X12_putsBracket_29 rfl ?_
  refine r_if_eq (tgt := 58) d_X12_putsBracket_31 rfl (fun hc => ?_) (fun hc => ?_)
  · have h := h.1 hc
    exact r_vret d_X12_putsBracket_58 rfl (Nat.le_refl 0) (Nat.le_refl 0) ⟨rfl, rfl, rfl, h⟩
  · have h := h.2 hc
    refine r_aload_n (x := t) d_X12_putsBracket_34 rfl o_t.1 ?_
    refine r_iload (x := x4) d_X12_putsBracket_35 rfl ?_
    refine r_aload_n (x := t) d_X12_putsBracket_37 rfl o_t.1 ?_
    refine r_iconst (x := 1) d_X12_putsBracket_38 ⟨by decide, by decide⟩ ?_
    refine r_callV (Y2 := mX12_keyOf) (d := d - 1) (mc := 0) (ms := 0) (c := t) (As := [(0, 1)]) (S := [(0, x4), (2, t)]) d_X12_putsBracket_39 ok_mX12_keyOf ml_X12_141 rfl (rmc h0d (by decide)) rm00 (Nat.le_of_ble_eq_true rfl) rfl kX12 o_t.1 o_t.2.1 o_t.2.2.1 o_t.2.2.2 (MC.mono h (fun r N1 Λ1 σ5 hq => ?_))
    obtain ⟨v6, rfl, rfl, rfl, h⟩ := hq
    refine r_iload (x := y1) d_X12_putsBracket_42 rfl ?_
    refine r_if_ge (tgt := 53) d_X12_putsBracket_44 rfl (fun hc => ?_) (fun hc => ?_)
    · have h := h.1 hc
      refine r_lconst d_X12_putsBracket_53 ?_
      skip
      refine r_callV (Y2 := mX12_puts) (d := d - 1) (mc := 0) (ms := 0) (c := t) (As := [(0, x4), (0, v6), (1, 1)]) (S := []) d_X12_putsBracket_54 ok_mX12_puts ml_X12_147 rfl (rmc h0d (by decide)) rm00 (Nat.le_of_ble_eq_true rfl) rfl kX12 o_t.1 o_t.2.1 o_t.2.2.1 o_t.2.2.2 (MC.mono h (fun r N1 Λ1 σ7 hq => ?_))
      obtain ⟨v8, rfl, rfl, rfl, h⟩ := hq
      refine r_pop d_X12_putsBracket_57 rfl ?_
      exact r_vret d_X12_putsBracket_58 rfl (Nat.le_refl 0) (Nat.le_refl 0) ⟨rfl, rfl, rfl, h⟩
    · have h := h.2 hc
      refine r_ldc2 (x := (-1)) d_X12_putsBracket_47 ck_X12_166 (by decide) ?_
      refine r_goto (tgt := 54) d_X12_putsBracket_50 rfl ?_
      refine r_callV (Y2 := mX12_puts) (d := d - 1) (mc := 0) (ms := 0) (c := t) (As := [(0, x4), (0, v6), (1, (-1))]) (S := []) d_X12_putsBracket_54 ok_mX12_puts ml_X12_147 rfl (rmc h0d (by decide)) rm00 (Nat.le_of_ble_eq_true rfl) rfl kX12 o_t.1 o_t.2.1 o_t.2.2.1 o_t.2.2.2 (MC.mono h (fun r N1 Λ1 σ9 hq => ?_))
      obtain ⟨v10, rfl, rfl, rfl, h⟩ := hq
      refine r_pop d_X12_putsBracket_57 rfl ?_
      exact r_vret d_X12_putsBracket_58 rfl (Nat.le_refl 0) (Nat.le_refl 0) ⟨rfl, rfl, rfl, h⟩
theorem v_X12_bracket_0 {l : Launch} {d N : Nat} {Λ : Lay} {P : Int → Mem → Prop} {σ : Mem} {x1 x2 x3 x4 t : Int} (o_t : Ob N Λ t 21 36) (h0d : 1 ≤ d)
    (h : (∀ τ1, τ1 = st σ t 0 0 → (CI l mX12_isShelf (d - 1) [(0, x1)] N Λ τ1 (fun v3 σ2 => ((v3 = 0 → P (-2) σ2) ∧ (¬ (v3 = 0) → (CI l mX12_isLetter (d - 1) [(0, x2)] N Λ σ2 (fun v5 σ4 => ((v5 = 0 → P (-2) σ4) ∧ (¬ (v5 = 0) → (CI l mX12_isLetter (d - 1) [(0, x3)] N Λ σ4 (fun v7 σ6 => ((v7 = 0 → P (-2) σ6) ∧ (¬ (v7 = 0) → (CI l mX12_isLetter (d - 1) [(0, x4)] N Λ σ6 (fun v9 σ8 => ((¬ v9 = 0 → (CV l mX12_begins (d - 1) [(2, t)] N Λ σ8 (fun σ10 => (CV l mX12_putsBracket (d - 1) [(2, t), (0, x2), (0, x3), (0, x4), (0, 0)] N Λ σ10 (fun σ11 => (CI l mX12_becomes (d - 1) [(2, t), (0, x1)] N Λ σ11 (fun v13 σ12 => P v13 σ12))))))) ∧ (v9 = 0 → P (-2) σ8)))))))))))))))))) :
    WI l mX12_bracket d P 0 [(2, t), (0, x1), (0, x2), (0, x3), (0, x4)] [] N Λ σ := by
  refine r_aload_n (x := t) d_X12_bracket_0 rfl o_t.1 ?_
  refine r_iconst (x := 0) d_X12_bracket_1 ⟨by decide, by decide⟩ ?_
  refine r_putI (j := 0) d_X12_bracket_2 kX12 (by decide) fl_X12_1 rfl o_t.1 o_t.2.1 o_t.2.2.1 o_t.2.2.2 rfl ?_
  refine r_nmM (fun τ1 eτ1 => ?_)
  have h := h τ1 eτ1
  refine r_iload_n (x := x1) d_X12_bracket_5 rfl ?_
  refine r_callS (Y2 := mX12_isShelf) (d := d - 1) (mc := 0) (ms := 0) (As := [(0, x1)]) (S := []) d_X12_bracket_6 ok_mX12_isShelf ml_X12_199 rfl (rmc h0d (by decide)) rm00 (Nat.le_of_ble_eq_true rfl) rfl (MC.mono h (fun r N1 Λ1 σ2 hq => ?_))
  obtain ⟨v3, rfl, rfl, rfl, h⟩ := hq
  refine r_if_eq (tgt := 34) d_X12_bracket_9 rfl (fun hc => ?_) (fun hc => ?_)
  · have h := h.1 hc
    refine r_bipush (x := (-2)) d_X12_bracket_34 ⟨by decide, by decide⟩ (by decide) ?_
    exact r_iret d_X12_bracket_36 rfl rfl (Nat.le_refl 0) (Nat.le_refl 0) ⟨_, rfl, rfl, rfl, h⟩
  · have h := h.2 hc
    refine r_iload_n (x := x2) d_X12_bracket_12 rfl ?_
    refine r_callS (Y2 := mX12_isLetter) (d := d - 1) (mc := 0) (ms := 0) (As := [(0, x2)]) (S := []) d_X12_bracket_13 ok_mX12_isLetter ml_X12_208 rfl (rmc h0d (by decide)) rm00 (Nat.le_of_ble_eq_true rfl) rfl (MC.mono h (fun r N1 Λ1 σ4 hq => ?_))
    obtain ⟨v5, rfl, rfl, rfl, h⟩ := hq
    refine r_if_eq (tgt := 34) d_X12_bracket_16 rfl (fun hc => ?_) (fun hc => ?_)
    · have h := h.1 hc
      refine r_bipush (x := (-2)) d_X12_bracket_34 ⟨by decide, by decide⟩ (by decide) ?_
      exact r_iret d_X12_bracket_36 rfl rfl (Nat.le_refl 0) (Nat.le_refl 0) ⟨_, rfl, rfl, rfl, h⟩
    · have h := h.2 hc
      refine r_iload_n (x := x3) d_X12_bracket_19 rfl ?_
      refine r_callS (Y2 := mX12_isLetter) (d := d - 1) (mc := 0) (ms := 0) (As := [(0, x3)]) (S := []) d_X12_bracket_20 ok_mX12_isLetter ml_X12_208 rfl (rmc h0d (by decide)) rm00 (Nat.le_of_ble_eq_true rfl) rfl (MC.mono h (fun r N1 Λ1 σ6 hq => ?_))
      obtain ⟨v7, rfl, rfl, rfl, h⟩ := hq
      refine r_if_eq (tgt := 34) d_X12_bracket_23 rfl (fun hc => ?_) (fun hc => ?_)
      · have h := h.1 hc
        refine r_bipush (x := (-2)) d_X12_bracket_34 ⟨by decide, by decide⟩ (by decide) ?_
        exact r_iret d_X12_bracket_36 rfl rfl (Nat.le_refl 0) (Nat.le_refl 0) ⟨_, rfl, rfl, rfl, h⟩
      · have h := h.2 hc
        refine r_iload (x := x4) d_X12_bracket_26 rfl ?_
        refine r_callS (Y2 := mX12_isLetter) (d := d - 1) (mc := 0) (ms := 0) (As := [(0, x4)]) (S := []) d_X12_bracket_28 ok_mX12_isLetter ml_X12_208 rfl (rmc h0d (by decide)) rm00 (Nat.le_of_ble_eq_true rfl) rfl (MC.mono h (fun r N1 Λ1 σ8 hq => ?_))
        obtain ⟨v9, rfl, rfl, rfl, h⟩ := hq
        refine r_if_ne (tgt := 37) d_X12_bracket_31 rfl (fun hc => ?_) (fun hc => ?_)
        · have h := h.1 hc
          refine r_aload_n (x := t) d_X12_bracket_37 rfl o_t.1 ?_
          refine r_callV (Y2 := mX12_begins) (d := d - 1) (mc := 0) (ms := 0) (c := t) (As := []) (S := []) d_X12_bracket_38 ok_mX12_begins ml_X12_202 rfl (rmc h0d (by decide)) rm00 (Nat.le_of_ble_eq_true rfl) rfl kX12 o_t.1 o_t.2.1 o_t.2.2.1 o_t.2.2.2 (MC.mono h (fun r N1 Λ1 σ10 hq => ?_))
          obtain ⟨rfl, rfl, rfl, h⟩ := hq
          refine r_aload_n (x := t) d_X12_bracket_41 rfl o_t.1 ?_
          refine r_iload_n (x := x2) d_X12_bracket_42 rfl ?_
          refine r_iload_n (x := x3) d_X12_bracket_43 rfl ?_
          refine r_iload (x := x4) d_X12_bracket_44 rfl ?_
          refine r_iconst (x := 0) d_X12_bracket_46 ⟨by decide, by decide⟩ ?_
          refine r_callV (Y2 := mX12_putsBracket) (d := d - 1) (mc := 0) (ms := 0) (c := t) (As := [(0, x2), (0, x3), (0, x4), (0, 0)]) (S := []) d_X12_bracket_47 ok_mX12_putsBracket ml_X12_211 rfl (rmc h0d (by decide)) rm00 (Nat.le_of_ble_eq_true rfl) rfl kX12 o_t.1 o_t.2.1 o_t.2.2.1 o_t.2.2.2 (MC.mono h (fun r N1 Λ1 σ11 hq => ?_))
          obtain ⟨rfl, rfl, rfl, h⟩ := hq
          refine r_aload_n (x := t) d_X12_bracket_50 rfl o_t.1 ?_
          refine r_iload_n (x := x1) d_X12_bracket_51 rfl ?_
          refine r_callV (Y2 := mX12_becomes) (d := d - 1) (mc := 0) (ms := 0) (c := t) (As := [(0, x1)]) (S := []) d_X12_bracket_52 ok_mX12_becomes ml_X12_190 rfl (rmc h0d (by decide)) rm00 (Nat.le_of_ble_eq_true rfl) rfl kX12 o_t.1 o_t.2.1 o_t.2.2.1 o_t.2.2.2 (MC.mono h (fun r N1 Λ1 σ12 hq => ?_))
          obtain ⟨v13, rfl, rfl, rfl, h⟩ := hq
          exact r_iret d_X12_bracket_55 rfl rfl (Nat.le_refl 0) (Nat.le_refl 0) ⟨_, rfl, rfl, rfl, h⟩
        · have h := h.2 hc
          refine r_bipush (x := (-2)) d_X12_bracket_34 ⟨by decide, by decide⟩ (by decide) ?_
          exact r_iret d_X12_bracket_36 rfl rfl (Nat.le_refl 0) (Nat.le_refl 0) ⟨_, rfl, rfl, rfl, h⟩
theorem v_X12_exchange_0 {l : Launch} {d N : Nat} {Λ : Lay} {P : Int → Mem → Prop} {σ : Mem} {x1 x2 x3 x4 t : Int} (o_t : Ob N Λ t 21 36) (h0d : 1 ≤ d)
    (h : (∀ τ1, τ1 = st σ t 0 0 → (CI l mX12_isShelf (d - 1) [(0, x1)] N Λ τ1 (fun v3 σ2 => ((¬ v3 = 0 → (CI l mX12_within (d - 1) [(1, x2), (1, 0), (1, 999)] N Λ σ2 (fun v5 σ4 => ((v5 = 0 → P (-3) σ4) ∧ (¬ (v5 = 0) → (CI l mX12_within (d - 1) [(1, x3), (1, 0), (1, 999)] N Λ σ4 (fun v7 σ6 => ((v7 = 0 → P (-3) σ6) ∧ (¬ (v7 = 0) → (CI l mX12_within (d - 1) [(1, x4), (1, 1), (1, 3)] N Λ σ6 (fun v9 σ8 => ((¬ v9 = 0 → (CV l mX12_begins (d - 1) [(2, t)] N Λ σ8 (fun σ10 => WI l mX12_exchange d P 62 [(2, t), (0, x1), (0, x2), (0, x3), (0, x4), (0, 0), (3, 0)] [] N Λ σ10))) ∧ (v9 = 0 → P (-3) σ8))))))))))))) ∧ (v3 = 0 → P (-2) σ2)))))) :
    WI l mX12_exchange d P 0 [(2, t), (0, x1), (0, x2), (0, x3), (0, x4), (3, 0), (3, 0)] [] N Λ σ := by
  refine r_aload_n (x := t) d_X12_exchange_0 rfl o_t.1 ?_
  refine r_iconst (x := 0) d_X12_exchange_1 ⟨by decide, by decide⟩ ?_
  refine r_putI (j := 0) d_X12_exchange_2 kX12 (by decide) fl_X12_1 rfl o_t.1 o_t.2.1 o_t.2.2.1 o_t.2.2.2 rfl ?_
  refine r_nmM (fun τ1 eτ1 => ?_)
  have h := h τ1 eτ1
  refine r_iload_n (x := x1) d_X12_exchange_5 rfl ?_
  refine r_callS (Y2 := mX12_isShelf) (d := d - 1) (mc := 0) (ms := 0) (As := [(0, x1)]) (S := []) d_X12_exchange_6 ok_mX12_isShelf ml_X12_199 rfl (rmc h0d (by decide)) rm00 (Nat.le_of_ble_eq_true rfl) rfl (MC.mono h (fun r N1 Λ1 σ2 hq => ?_))
  obtain ⟨v3, rfl, rfl, rfl, h⟩ := hq
  refine r_if_ne (tgt := 15) d_X12_exchange_9 rfl (fun hc => ?_) (fun hc => ?_)
  · have h := h.1 hc
    refine r_iload_n (x := x2) d_X12_exchange_15 rfl ?_
    refine r_i2l d_X12_exchange_16 ?_
    refine r_lconst d_X12_exchange_17 ?_
    skip
    refine r_ldc2 (x := 999) d_X12_exchange_18 ck_X12_214 (by decide) ?_
    refine r_callS (Y2 := mX12_within) (d := d - 1) (mc := 0) (ms := 0) (As := [(1, x2), (1, 0), (1, 999)]) (S := []) d_X12_exchange_21 ok_mX12_within ml_X12_91 rfl (rmc h0d (by decide)) rm00 (Nat.le_of_ble_eq_true rfl) rfl (MC.mono h (fun r N1 Λ1 σ4 hq => ?_))
    obtain ⟨v5, rfl, rfl, rfl, h⟩ := hq
    refine r_if_eq (tgt := 52) d_X12_exchange_24 rfl (fun hc => ?_) (fun hc => ?_)
    · have h := h.1 hc
      refine r_bipush (x := (-3)) d_X12_exchange_52 ⟨by decide, by decide⟩ (by decide) ?_
      exact r_iret d_X12_exchange_54 rfl rfl (Nat.le_refl 0) (Nat.le_refl 0) ⟨_, rfl, rfl, rfl, h⟩
    · have h := h.2 hc
      refine r_iload_n (x := x3) d_X12_exchange_27 rfl ?_
      refine r_i2l d_X12_exchange_28 ?_
      refine r_lconst d_X12_exchange_29 ?_
      skip
      refine r_ldc2 (x := 999) d_X12_exchange_30 ck_X12_214 (by decide) ?_
      refine r_callS (Y2 := mX12_within) (d := d - 1) (mc := 0) (ms := 0) (As := [(1, x3), (1, 0), (1, 999)]) (S := []) d_X12_exchange_33 ok_mX12_within ml_X12_91 rfl (rmc h0d (by decide)) rm00 (Nat.le_of_ble_eq_true rfl) rfl (MC.mono h (fun r N1 Λ1 σ6 hq => ?_))
      obtain ⟨v7, rfl, rfl, rfl, h⟩ := hq
      refine r_if_eq (tgt := 52) d_X12_exchange_36 rfl (fun hc => ?_) (fun hc => ?_)
      · have h := h.1 hc
        refine r_bipush (x := (-3)) d_X12_exchange_52 ⟨by decide, by decide⟩ (by decide) ?_
        exact r_iret d_X12_exchange_54 rfl rfl (Nat.le_refl 0) (Nat.le_refl 0) ⟨_, rfl, rfl, rfl, h⟩
      · have h := h.2 hc
        refine r_iload (x := x4) d_X12_exchange_39 rfl ?_
        refine r_i2l d_X12_exchange_41 ?_
        refine r_lconst d_X12_exchange_42 ?_
        skip
        refine r_ldc2 (x := 3) d_X12_exchange_43 ck_X12_216 (by decide) ?_
        refine r_callS (Y2 := mX12_within) (d := d - 1) (mc := 0) (ms := 0) (As := [(1, x4), (1, 1), (1, 3)]) (S := []) d_X12_exchange_46 ok_mX12_within ml_X12_91 rfl (rmc h0d (by decide)) rm00 (Nat.le_of_ble_eq_true rfl) rfl (MC.mono h (fun r N1 Λ1 σ8 hq => ?_))
        obtain ⟨v9, rfl, rfl, rfl, h⟩ := hq
        refine r_if_ne (tgt := 55) d_X12_exchange_49 rfl (fun hc => ?_) (fun hc => ?_)
        · have h := h.1 hc
          refine r_aload_n (x := t) d_X12_exchange_55 rfl o_t.1 ?_
          refine r_callV (Y2 := mX12_begins) (d := d - 1) (mc := 0) (ms := 0) (c := t) (As := []) (S := []) d_X12_exchange_56 ok_mX12_begins ml_X12_202 rfl (rmc h0d (by decide)) rm00 (Nat.le_of_ble_eq_true rfl) rfl kX12 o_t.1 o_t.2.1 o_t.2.2.1 o_t.2.2.2 (MC.mono h (fun r N1 Λ1 σ10 hq => ?_))
          obtain ⟨rfl, rfl, rfl, h⟩ := hq
          refine r_iconst (x := 0) d_X12_exchange_59 ⟨by decide, by decide⟩ ?_
          refine r_istore (L2 := [(2, t), (0, x1), (0, x2), (0, x3), (0, x4), (0, 0), (3, 0)]) d_X12_exchange_60 (by decide) rfl rfl ?_
          exact h
        · have h := h.2 hc
          refine r_bipush (x := (-3)) d_X12_exchange_52 ⟨by decide, by decide⟩ (by decide) ?_
          exact r_iret d_X12_exchange_54 rfl rfl (Nat.le_refl 0) (Nat.le_refl 0) ⟨_, rfl, rfl, rfl, h⟩
  · have h := h.2 hc
    refine r_bipush (x := (-2)) d_X12_exchange_12 ⟨by decide, by decide⟩ (by decide) ?_
    exact r_iret d_X12_exchange_14 rfl rfl (Nat.le_refl 0) (Nat.le_refl 0) ⟨_, rfl, rfl, rfl, h⟩
theorem v_X12_exchange_62 {l : Launch} {d N : Nat} {Λ : Lay} {P : Int → Mem → Prop} {σ : Mem} {x1 x2 x3 x4 x5 t t_rowX t_rowY : Int} (o_t : Ob N Λ t 21 36) (f_t_rowX : (Λ t).2.2 10 = t_rowX) (f_t_rowY : (Λ t).2.2 11 = t_rowY) (h0d : 1 ≤ d)
    (h : ((3 ≤ x5 → (CV l mX12_exchanges (d - 1) [(2, t), (0, x4), (0, 0), (1, 1), (0, 0)] N Λ σ (fun σ1 => (CI l mX12_becomes (d - 1) [(2, t), (0, x1)] N Λ σ1 (fun v3 σ2 => P v3 σ2))))) ∧ (¬ (3 ≤ x5) → ((¬ x5 = 0 → ((¬ x5 = 1 → (Ix N Λ t_rowX 0 x5 ∧ (∀ τ4, τ4 = st σ t_rowX x5 (remI (divI x2 1) 10) → (Ix N Λ t_rowY 0 x5 ∧ (∀ τ5, τ5 = st τ4 t_rowY x5 (remI (divI x3 1) 10) → (∀ y6, y6 = addI x5 1 → WI l mX12_exchange d P 62 [(2, t), (0, x1), (0, x2), (0, x3), (0, x4), (0, y6), (3, 0)] [] N Λ τ5)))))) ∧ (x5 = 1 → (Ix N Λ t_rowX 0 x5 ∧ (∀ τ7, τ7 = st σ t_rowX x5 (remI (divI x2 10) 10) → (Ix N Λ t_rowY 0 x5 ∧ (∀ τ8, τ8 = st τ7 t_rowY x5 (remI (divI x3 10) 10) → (∀ y9, y9 = addI x5 1 → WI l mX12_exchange d P 62 [(2, t), (0, x1), (0, x2), (0, x3), (0, x4), (0, y9), (3, 0)] [] N Λ τ8)))))))) ∧ (x5 = 0 → (Ix N Λ t_rowX 0 x5 ∧ (∀ τ10, τ10 = st σ t_rowX x5 (remI (divI x2 100) 10) → (Ix N Λ t_rowY 0 x5 ∧ (∀ τ11, τ11 = st τ10 t_rowY x5 (remI (divI x3 100) 10) → (∀ y12, y12 = addI x5 1 → WI l mX12_exchange d P 62 [(2, t), (0, x1), (0, x2), (0, x3), (0, x4), (0, y12), (3, 0)] [] N Λ τ11)))))))))) :
    WI l mX12_exchange d P 62 [(2, t), (0, x1), (0, x2), (0, x3), (0, x4), (0, x5), (3, 0)] [] N Λ σ := by
  refine r_iload (x := x5) d_X12_exchange_62 rfl ?_
  refine r_iconst (x := 3) d_X12_exchange_64 ⟨by decide, by decide⟩ ?_
  refine r_ic_ge (tgt := 126) d_X12_exchange_65 rfl (fun hc => ?_) (fun hc => ?_)
  · have h := h.1 hc
    refine r_aload_n (x := t) d_X12_exchange_126 rfl o_t.1 ?_
    refine r_iload (x := x4) d_X12_exchange_127 rfl ?_
    refine r_iconst (x := 0) d_X12_exchange_129 ⟨by decide, by decide⟩ ?_
    refine r_lconst d_X12_exchange_130 ?_
    skip
    refine r_iconst (x := 0) d_X12_exchange_131 ⟨by decide, by decide⟩ ?_
    refine r_callV (Y2 := mX12_exchanges) (d := d - 1) (mc := 0) (ms := 0) (c := t) (As := [(0, x4), (0, 0), (1, 1), (0, 0)]) (S := []) d_X12_exchange_132 ok_mX12_exchanges ml_X12_174 rfl (rmc h0d (by decide)) rm00 (Nat.le_of_ble_eq_true rfl) rfl kX12 o_t.1 o_t.2.1 o_t.2.2.1 o_t.2.2.2 (MC.mono h (fun r N1 Λ1 σ1 hq => ?_))
    obtain ⟨rfl, rfl, rfl, h⟩ := hq
    refine r_aload_n (x := t) d_X12_exchange_135 rfl o_t.1 ?_
    refine r_iload_n (x := x1) d_X12_exchange_136 rfl ?_
    refine r_callV (Y2 := mX12_becomes) (d := d - 1) (mc := 0) (ms := 0) (c := t) (As := [(0, x1)]) (S := []) d_X12_exchange_137 ok_mX12_becomes ml_X12_190 rfl (rmc h0d (by decide)) rm00 (Nat.le_of_ble_eq_true rfl) rfl kX12 o_t.1 o_t.2.1 o_t.2.2.1 o_t.2.2.2 (MC.mono h (fun r N1 Λ1 σ2 hq => ?_))
    obtain ⟨v3, rfl, rfl, rfl, h⟩ := hq
    exact r_iret d_X12_exchange_140 rfl rfl (Nat.le_refl 0) (Nat.le_refl 0) ⟨_, rfl, rfl, rfl, h⟩
  · have h := h.2 hc
    refine r_iload (x := x5) d_X12_exchange_68 rfl ?_
    refine r_if_ne (tgt := 78) d_X12_exchange_70 rfl (fun hc => ?_) (fun hc => ?_)
    · have h := h.1 hc
      refine r_iload (x := x5) d_X12_exchange_78 rfl ?_
      refine r_iconst (x := 1) d_X12_exchange_80 ⟨by decide, by decide⟩ ?_
      refine r_ic_ne (tgt := 89) d_X12_exchange_81 rfl (fun hc => ?_) (fun hc => ?_)
      · have h := h.1 hc
        refine r_iconst (x := 1) d_X12_exchange_89 ⟨by decide, by decide⟩ ?_
        refine r_istore (L2 := [(2, t), (0, x1), (0, x2), (0, x3), (0, x4), (0, x5), (0, 1)]) d_X12_exchange_90 (by decide) rfl rfl ?_
        refine r_aload_n (x := t) d_X12_exchange_92 rfl o_t.1 ?_
        refine r_getf (j := 10) (t := 2) (x := t_rowX) d_X12_exchange_93 kX12 (by decide) fl_X12_36 o_t.1 o_t.2.1 o_t.2.2.1 o_t.2.2.2 rfl f_t_rowX ?_
        refine r_iload (x := x5) d_X12_exchange_96 rfl ?_
        refine r_iload_n (x := x2) d_X12_exchange_98 rfl ?_
        refine r_iload (x := 1) d_X12_exchange_99 rfl ?_
        refine r_idiv d_X12_exchange_101 (by decide) ?_
        refine r_bipush (x := 10) d_X12_exchange_102 ⟨by decide, by decide⟩ (by decide) ?_
        refine r_irem d_X12_exchange_104 (by decide) ?_
        refine x_iast d_X12_exchange_105 h.1 ?_
        have h := h.2
        refine r_nmM (fun τ4 eτ4 => ?_)
        have h := h τ4 eτ4
        refine r_aload_n (x := t) d_X12_exchange_106 rfl o_t.1 ?_
        refine r_getf (j := 11) (t := 2) (x := t_rowY) d_X12_exchange_107 kX12 (by decide) fl_X12_39 o_t.1 o_t.2.1 o_t.2.2.1 o_t.2.2.2 rfl f_t_rowY ?_
        refine r_iload (x := x5) d_X12_exchange_110 rfl ?_
        refine r_iload_n (x := x3) d_X12_exchange_112 rfl ?_
        refine r_iload (x := 1) d_X12_exchange_113 rfl ?_
        refine r_idiv d_X12_exchange_115 (by decide) ?_
        refine r_bipush (x := 10) d_X12_exchange_116 ⟨by decide, by decide⟩ (by decide) ?_
        refine r_irem d_X12_exchange_118 (by decide) ?_
        refine x_iast d_X12_exchange_119 h.1 ?_
        have h := h.2
        refine r_nmM (fun τ5 eτ5 => ?_)
        have h := h τ5 eτ5
        refine x_iinc (x := x5) (L := [(2, t), (0, x1), (0, x2), (0, x3), (0, x4), (0, x5), (0, 1)]) d_X12_exchange_120 rfl (by decide) rfl (fun y6 ey6 => ?_)
        have h := h y6 ey6
        show WP _ _ _ _ _ _ _ _ [(2, t), (0, x1), (0, x2), (0, x3), (0, x4), (0, y6), (0, 1)] _ _ _ _
        refine r_goto (tgt := 62) d_X12_exchange_123 rfl ?_
        exact x_mask h ⟨Or.inr rfl, Or.inr rfl, Or.inr rfl, Or.inr rfl, Or.inr rfl, Or.inr rfl, Or.inl rfl, trivial⟩
      · have h := h.2 hc
        refine r_bipush (x := 10) d_X12_exchange_84 ⟨by decide, by decide⟩ (by decide) ?_
        refine r_goto (tgt := 90) d_X12_exchange_86 rfl ?_
        refine r_istore (L2 := [(2, t), (0, x1), (0, x2), (0, x3), (0, x4), (0, x5), (0, 10)]) d_X12_exchange_90 (by decide) rfl rfl ?_
        refine r_aload_n (x := t) d_X12_exchange_92 rfl o_t.1 ?_
        refine r_getf (j := 10) (t := 2) (x := t_rowX) d_X12_exchange_93 kX12 (by decide) fl_X12_36 o_t.1 o_t.2.1 o_t.2.2.1 o_t.2.2.2 rfl f_t_rowX ?_
        refine r_iload (x := x5) d_X12_exchange_96 rfl ?_
        refine r_iload_n (x := x2) d_X12_exchange_98 rfl ?_
        refine r_iload (x := 10) d_X12_exchange_99 rfl ?_
        refine r_idiv d_X12_exchange_101 (by decide) ?_
        refine r_bipush (x := 10) d_X12_exchange_102 ⟨by decide, by decide⟩ (by decide) ?_
        refine r_irem d_X12_exchange_104 (by decide) ?_
        refine x_iast d_X12_exchange_105 h.1 ?_
        have h := h.2
        refine r_nmM (fun τ7 eτ7 => ?_)
        have h := h τ7 eτ7
        refine r_aload_n (x := t) d_X12_exchange_106 rfl o_t.1 ?_
        refine r_getf (j := 11) (t := 2) (x := t_rowY) d_X12_exchange_107 kX12 (by decide) fl_X12_39 o_t.1 o_t.2.1 o_t.2.2.1 o_t.2.2.2 rfl f_t_rowY ?_
        refine r_iload (x := x5) d_X12_exchange_110 rfl ?_
        refine r_iload_n (x := x3) d_X12_exchange_112 rfl ?_
        refine r_iload (x := 10) d_X12_exchange_113 rfl ?_
        refine r_idiv d_X12_exchange_115 (by decide) ?_
        refine r_bipush (x := 10) d_X12_exchange_116 ⟨by decide, by decide⟩ (by decide) ?_
        refine r_irem d_X12_exchange_118 (by decide) ?_
        refine x_iast d_X12_exchange_119 h.1 ?_
        have h := h.2
        refine r_nmM (fun τ8 eτ8 => ?_)
        have h := h τ8 eτ8
        refine x_iinc (x := x5) (L := [(2, t), (0, x1), (0, x2), (0, x3), (0, x4), (0, x5), (0, 10)]) d_X12_exchange_120 rfl (by decide) rfl (fun y9 ey9 => ?_)
        have h := h y9 ey9
        show WP _ _ _ _ _ _ _ _ [(2, t), (0, x1), (0, x2), (0, x3), (0, x4), (0, y9), (0, 10)] _ _ _ _
        refine r_goto (tgt := 62) d_X12_exchange_123 rfl ?_
        exact x_mask h ⟨Or.inr rfl, Or.inr rfl, Or.inr rfl, Or.inr rfl, Or.inr rfl, Or.inr rfl, Or.inl rfl, trivial⟩
    · have h := h.2 hc
      refine r_bipush (x := 100) d_X12_exchange_73 ⟨by decide, by decide⟩ (by decide) ?_
      refine r_goto (tgt := 90) d_X12_exchange_75 rfl ?_
      refine r_istore (L2 := [(2, t), (0, x1), (0, x2), (0, x3), (0, x4), (0, x5), (0, 100)]) d_X12_exchange_90 (by decide) rfl rfl ?_
      refine r_aload_n (x := t) d_X12_exchange_92 rfl o_t.1 ?_
      refine r_getf (j := 10) (t := 2) (x := t_rowX) d_X12_exchange_93 kX12 (by decide) fl_X12_36 o_t.1 o_t.2.1 o_t.2.2.1 o_t.2.2.2 rfl f_t_rowX ?_
      refine r_iload (x := x5) d_X12_exchange_96 rfl ?_
      refine r_iload_n (x := x2) d_X12_exchange_98 rfl ?_
      refine r_iload (x := 100) d_X12_exchange_99 rfl ?_
      refine r_idiv d_X12_exchange_101 (by decide) ?_
      refine r_bipush (x := 10) d_X12_exchange_102 ⟨by decide, by decide⟩ (by decide) ?_
      refine r_irem d_X12_exchange_104 (by decide) ?_
      refine x_iast d_X12_exchange_105 h.1 ?_
      have h := h.2
      refine r_nmM (fun τ10 eτ10 => ?_)
      have h := h τ10 eτ10
      refine r_aload_n (x := t) d_X12_exchange_106 rfl o_t.1 ?_
      refine r_getf (j := 11) (t := 2) (x := t_rowY) d_X12_exchange_107 kX12 (by decide) fl_X12_39 o_t.1 o_t.2.1 o_t.2.2.1 o_t.2.2.2 rfl f_t_rowY ?_
      refine r_iload (x := x5) d_X12_exchange_110 rfl ?_
      refine r_iload_n (x := x3) d_X12_exchange_112 rfl ?_
      refine r_iload (x := 100) d_X12_exchange_113 rfl ?_
      refine r_idiv d_X12_exchange_115 (by decide) ?_
      refine r_bipush (x := 10) d_X12_exchange_116 ⟨by decide, by decide⟩ (by decide) ?_
      refine r_irem d_X12_exchange_118 (by decide) ?_
      refine x_iast d_X12_exchange_119 h.1 ?_
      have h := h.2
      refine r_nmM (fun τ11 eτ11 => ?_)
      have h := h τ11 eτ11
      refine x_iinc (x := x5) (L := [(2, t), (0, x1), (0, x2), (0, x3), (0, x4), (0, x5), (0, 100)]) d_X12_exchange_120 rfl (by decide) rfl (fun y12 ey12 => ?_)
      have h := h y12 ey12
      show WP _ _ _ _ _ _ _ _ [(2, t), (0, x1), (0, x2), (0, x3), (0, x4), (0, y12), (0, 100)] _ _ _ _
      refine r_goto (tgt := 62) d_X12_exchange_123 rfl ?_
      exact x_mask h ⟨Or.inr rfl, Or.inr rfl, Or.inr rfl, Or.inr rfl, Or.inr rfl, Or.inr rfl, Or.inl rfl, trivial⟩
theorem v_X12_putsTimes_0 {l : Launch} {d N : Nat} {Λ : Lay} {P : Mem → Prop} {σ : Mem} {x1 x2 t : Int} (o_t : Ob N Λ t 21 36) (h0d : 1 ≤ d)
    (h : (CV l mX12_takes (d - 1) [(2, t), (0, x1), (0, 1)] N Λ σ (fun σ1 => WV l mX12_putsTimes d P 8 [(2, t), (0, x1), (0, x2), (0, 0)] [] N Λ σ1))) :
    WV l mX12_putsTimes d P 0 [(2, t), (0, x1), (0, x2), (3, 0)] [] N Λ σ := by
  refine r_aload_n (x := t) d_X12_putsTimes_0 rfl o_t.1 ?_
  refine r_iload_n (x := x1) d_X12_putsTimes_1 rfl ?_
  refine r_iconst (x := 1) d_X12_putsTimes_2 ⟨by decide, by decide⟩ ?_
  refine r_callV (Y2 := mX12_takes) (d := d - 1) (mc := 0) (ms := 0) (c := t) (As := [(0, x1), (0, 1)]) (S := []) d_X12_putsTimes_3 ok_mX12_takes ml_X12_205 rfl (rmc h0d (by decide)) rm00 (Nat.le_of_ble_eq_true rfl) rfl kX12 o_t.1 o_t.2.1 o_t.2.2.1 o_t.2.2.2 (MC.mono h (fun r N1 Λ1 σ1 hq => ?_))
  obtain ⟨rfl, rfl, rfl, h⟩ := hq
  refine r_iconst (x := 0) d_X12_putsTimes_6 ⟨by decide, by decide⟩ ?_
  refine r_istore_n (L2 := [(2, t), (0, x1), (0, x2), (0, 0)]) d_X12_putsTimes_7 (by decide) rfl rfl ?_
  exact h
theorem v_X12_putsTimes_8 {l : Launch} {d N : Nat} {Λ : Lay} {P : Mem → Prop} {σ : Mem} {x1 x2 x3 t : Int} (o_t : Ob N Λ t 21 36) (h0d : 1 ≤ d)
    (h : (CI l mX12_many (d - 1) [(2, t), (0, 1)] N Λ σ (fun v2 σ1 => ((v2 ≤ x3 → P σ1) ∧ (¬ (v2 ≤ x3) → (CI l mX12_key (d - 1) [(2, t), (0, 1), (0, x3)] N Λ σ1 (fun v4 σ3 => (CI l mX12_number (d - 1) [(2, t), (0, 1), (0, x3)] N Λ σ3 (fun v6 σ5 => (CI l mX12_puts (d - 1) [(2, t), (0, 0), (0, v4), (1, (mulL x2 v6))] N Λ σ5 (fun v8 σ7 => (∀ y9, y9 = addI x3 1 → WV l mX12_putsTimes d P 8 [(2, t), (0, x1), (0, x2), (0, y9)] [] N Λ σ7)))))))))))) :
    WV l mX12_putsTimes d P 8 [(2, t), (0, x1), (0, x2), (0, x3)] [] N Λ σ := by
  refine r_iload_n (x := x3) d_X12_putsTimes_8 rfl ?_
  refine r_aload_n (x := t) d_X12_putsTimes_9 rfl o_t.1 ?_
  refine r_iconst (x := 1) d_X12_putsTimes_10 ⟨by decide, by decide⟩ ?_
  refine r_callV (Y2 := mX12_many) (d := d - 1) (mc := 0) (ms := 0) (c := t) (As := [(0, 1)]) (S := [(0, x3)]) d_X12_putsTimes_11 ok_mX12_many ml_X12_113 rfl (rmc h0d (by decide)) rm00 (Nat.le_of_ble_eq_true rfl) rfl kX12 o_t.1 o_t.2.1 o_t.2.2.1 o_t.2.2.2 (MC.mono h (fun r N1 Λ1 σ1 hq => ?_))
  obtain ⟨v2, rfl, rfl, rfl, h⟩ := hq
  refine r_ic_ge (tgt := 45) d_X12_putsTimes_14 rfl (fun hc => ?_) (fun hc => ?_)
  · have h := h.1 hc
    exact r_vret d_X12_putsTimes_45 rfl (Nat.le_refl 0) (Nat.le_refl 0) ⟨rfl, rfl, rfl, h⟩
  · have h := h.2 hc
    refine r_aload_n (x := t) d_X12_putsTimes_17 rfl o_t.1 ?_
    refine r_iconst (x := 0) d_X12_putsTimes_18 ⟨by decide, by decide⟩ ?_
    refine r_aload_n (x := t) d_X12_putsTimes_19 rfl o_t.1 ?_
    refine r_iconst (x := 1) d_X12_putsTimes_20 ⟨by decide, by decide⟩ ?_
    refine r_iload_n (x := x3) d_X12_putsTimes_21 rfl ?_
    refine r_callV (Y2 := mX12_key) (d := d - 1) (mc := 0) (ms := 0) (c := t) (As := [(0, 1), (0, x3)]) (S := [(0, 0), (2, t)]) d_X12_putsTimes_22 ok_mX12_key ml_X12_117 rfl (rmc h0d (by decide)) rm00 (Nat.le_of_ble_eq_true rfl) rfl kX12 o_t.1 o_t.2.1 o_t.2.2.1 o_t.2.2.2 (MC.mono h (fun r N1 Λ1 σ3 hq => ?_))
    obtain ⟨v4, rfl, rfl, rfl, h⟩ := hq
    refine r_iload_n (x := x2) d_X12_putsTimes_25 rfl ?_
    refine r_i2l d_X12_putsTimes_26 ?_
    refine r_aload_n (x := t) d_X12_putsTimes_27 rfl o_t.1 ?_
    refine r_iconst (x := 1) d_X12_putsTimes_28 ⟨by decide, by decide⟩ ?_
    refine r_iload_n (x := x3) d_X12_putsTimes_29 rfl ?_
    refine r_callV (Y2 := mX12_number) (d := d - 1) (mc := 0) (ms := 0) (c := t) (As := [(0, 1), (0, x3)]) (S := [(1, x2), (0, v4), (0, 0), (2, t)]) d_X12_putsTimes_30 ok_mX12_number ml_X12_132 rfl (rmc h0d (by decide)) rm00 (Nat.le_of_ble_eq_true rfl) rfl kX12 o_t.1 o_t.2.1 o_t.2.2.1 o_t.2.2.2 (MC.mono h (fun r N1 Λ1 σ5 hq => ?_))
    obtain ⟨v6, rfl, rfl, rfl, h⟩ := hq
    refine r_i2l d_X12_putsTimes_33 ?_
    refine r_lmul d_X12_putsTimes_34 ?_
    refine r_callV (Y2 := mX12_puts) (d := d - 1) (mc := 0) (ms := 0) (c := t) (As := [(0, 0), (0, v4), (1, (mulL x2 v6))]) (S := []) d_X12_putsTimes_35 ok_mX12_puts ml_X12_147 rfl (rmc h0d (by decide)) rm00 (Nat.le_of_ble_eq_true rfl) rfl kX12 o_t.1 o_t.2.1 o_t.2.2.1 o_t.2.2.2 (MC.mono h (fun r N1 Λ1 σ7 hq => ?_))
    obtain ⟨v8, rfl, rfl, rfl, h⟩ := hq
    refine r_pop d_X12_putsTimes_38 rfl ?_
    refine x_iinc (x := x3) (L := [(2, t), (0, x1), (0, x2), (0, x3)]) d_X12_putsTimes_39 rfl (by decide) rfl (fun y9 ey9 => ?_)
    have h := h y9 ey9
    show WP _ _ _ _ _ _ _ _ [(2, t), (0, x1), (0, x2), (0, y9)] _ _ _ _
    refine r_goto (tgt := 8) d_X12_putsTimes_42 rfl ?_
    exact h
theorem v_X12_add_0 {l : Launch} {d N : Nat} {Λ : Lay} {P : Int → Mem → Prop} {σ : Mem} {x1 x2 x3 x4 x5 t : Int} (o_t : Ob N Λ t 21 36) (h0d : 1 ≤ d)
    (h : (∀ τ1, τ1 = st σ t 0 0 → (CI l mX12_isShelf (d - 1) [(0, x1)] N Λ τ1 (fun v3 σ2 => ((v3 = 0 → (CI l mX12_refused (d - 1) [(2, t), (0, (-2))] N Λ σ2 (fun v5 σ4 => P v5 σ4))) ∧ (¬ (v3 = 0) → (CI l mX12_isShelf (d - 1) [(0, x2)] N Λ σ2 (fun v7 σ6 => ((v7 = 0 → (CI l mX12_refused (d - 1) [(2, t), (0, (-2))] N Λ σ6 (fun v9 σ8 => P v9 σ8))) ∧ (¬ (v7 = 0) → (CI l mX12_isShelf (d - 1) [(0, x4)] N Λ σ6 (fun v11 σ10 => ((¬ v11 = 0 → (CI l mX12_within (d - 1) [(1, x3), (1, (-99)), (1, 99)] N Λ σ10 (fun v13 σ12 => ((v13 = 0 → (CI l mX12_refused (d - 1) [(2, t), (0, (-3))] N Λ σ12 (fun v15 σ14 => P v15 σ14))) ∧ (¬ (v13 = 0) → (CI l mX12_within (d - 1) [(1, x5), (1, (-99)), (1, 99)] N Λ σ12 (fun v17 σ16 => ((¬ v17 = 0 → (CV l mX12_begins (d - 1) [(2, t)] N Λ σ16 (fun σ18 => (CV l mX12_putsTimes (d - 1) [(2, t), (0, x2), (0, x3)] N Λ σ18 (fun σ19 => (CV l mX12_putsTimes (d - 1) [(2, t), (0, x4), (0, x5)] N Λ σ19 (fun σ20 => (CI l mX12_ends (d - 1) [(2, t), (0, x1)] N Λ σ20 (fun v22 σ21 => P v22 σ21))))))))) ∧ (v17 = 0 → (CI l mX12_refused (d - 1) [(2, t), (0, (-3))] N Λ σ16 (fun v24 σ23 => P v24 σ23))))))))))) ∧ (v11 = 0 → (CI l mX12_refused (d - 1) [(2, t), (0, (-2))] N Λ σ10 (fun v26 σ25 => P v26 σ25)))))))))))))))) :
    WI l mX12_add d P 0 [(2, t), (0, x1), (0, x2), (0, x3), (0, x4), (0, x5)] [] N Λ σ := by
  refine r_aload_n (x := t) d_X12_add_0 rfl o_t.1 ?_
  refine r_iconst (x := 0) d_X12_add_1 ⟨by decide, by decide⟩ ?_
  refine r_putI (j := 0) d_X12_add_2 kX12 (by decide) fl_X12_1 rfl o_t.1 o_t.2.1 o_t.2.2.1 o_t.2.2.2 rfl ?_
  refine r_nmM (fun τ1 eτ1 => ?_)
  have h := h τ1 eτ1
  refine r_iload_n (x := x1) d_X12_add_5 rfl ?_
  refine r_callS (Y2 := mX12_isShelf) (d := d - 1) (mc := 0) (ms := 0) (As := [(0, x1)]) (S := []) d_X12_add_6 ok_mX12_isShelf ml_X12_199 rfl (rmc h0d (by decide)) rm00 (Nat.le_of_ble_eq_true rfl) rfl (MC.mono h (fun r N1 Λ1 σ2 hq => ?_))
  obtain ⟨v3, rfl, rfl, rfl, h⟩ := hq
  refine r_if_eq (tgt := 27) d_X12_add_9 rfl (fun hc => ?_) (fun hc => ?_)
  · have h := h.1 hc
    refine r_aload_n (x := t) d_X12_add_27 rfl o_t.1 ?_
    refine r_bipush (x := (-2)) d_X12_add_28 ⟨by decide, by decide⟩ (by decide) ?_
    refine r_callV (Y2 := mX12_refused) (d := d - 1) (mc := 0) (ms := 0) (c := t) (As := [(0, (-2))]) (S := []) d_X12_add_30 ok_mX12_refused ml_X12_218 rfl (rmc h0d (by decide)) rm00 (Nat.le_of_ble_eq_true rfl) rfl kX12 o_t.1 o_t.2.1 o_t.2.2.1 o_t.2.2.2 (MC.mono h (fun r N1 Λ1 σ4 hq => ?_))
    obtain ⟨v5, rfl, rfl, rfl, h⟩ := hq
    exact r_iret d_X12_add_33 rfl rfl (Nat.le_refl 0) (Nat.le_refl 0) ⟨_, rfl, rfl, rfl, h⟩
  · have h := h.2 hc
    refine r_iload_n (x := x2) d_X12_add_12 rfl ?_
    refine r_callS (Y2 := mX12_isShelf) (d := d - 1) (mc := 0) (ms := 0) (As := [(0, x2)]) (S := []) d_X12_add_13 ok_mX12_isShelf ml_X12_199 rfl (rmc h0d (by decide)) rm00 (Nat.le_of_ble_eq_true rfl) rfl (MC.mono h (fun r N1 Λ1 σ6 hq => ?_))
    obtain ⟨v7, rfl, rfl, rfl, h⟩ := hq
    refine r_if_eq (tgt := 27) d_X12_add_16 rfl (fun hc => ?_) (fun hc => ?_)
    · have h := h.1 hc
      refine r_aload_n (x := t) d_X12_add_27 rfl o_t.1 ?_
      refine r_bipush (x := (-2)) d_X12_add_28 ⟨by decide, by decide⟩ (by decide) ?_
      refine r_callV (Y2 := mX12_refused) (d := d - 1) (mc := 0) (ms := 0) (c := t) (As := [(0, (-2))]) (S := []) d_X12_add_30 ok_mX12_refused ml_X12_218 rfl (rmc h0d (by decide)) rm00 (Nat.le_of_ble_eq_true rfl) rfl kX12 o_t.1 o_t.2.1 o_t.2.2.1 o_t.2.2.2 (MC.mono h (fun r N1 Λ1 σ8 hq => ?_))
      obtain ⟨v9, rfl, rfl, rfl, h⟩ := hq
      exact r_iret d_X12_add_33 rfl rfl (Nat.le_refl 0) (Nat.le_refl 0) ⟨_, rfl, rfl, rfl, h⟩
    · have h := h.2 hc
      refine r_iload (x := x4) d_X12_add_19 rfl ?_
      refine r_callS (Y2 := mX12_isShelf) (d := d - 1) (mc := 0) (ms := 0) (As := [(0, x4)]) (S := []) d_X12_add_21 ok_mX12_isShelf ml_X12_199 rfl (rmc h0d (by decide)) rm00 (Nat.le_of_ble_eq_true rfl) rfl (MC.mono h (fun r N1 Λ1 σ10 hq => ?_))
      obtain ⟨v11, rfl, rfl, rfl, h⟩ := hq
      refine r_if_ne (tgt := 34) d_X12_add_24 rfl (fun hc => ?_) (fun hc => ?_)
      · have h := h.1 hc
        refine r_iload_n (x := x3) d_X12_add_34 rfl ?_
        refine r_i2l d_X12_add_35 ?_
        refine r_ldc2 (x := (-99)) d_X12_add_36 ck_X12_221 (by decide) ?_
        refine r_ldc2 (x := 99) d_X12_add_39 ck_X12_223 (by decide) ?_
        refine r_callS (Y2 := mX12_within) (d := d - 1) (mc := 0) (ms := 0) (As := [(1, x3), (1, (-99)), (1, 99)]) (S := []) d_X12_add_42 ok_mX12_within ml_X12_91 rfl (rmc h0d (by decide)) rm00 (Nat.le_of_ble_eq_true rfl) rfl (MC.mono h (fun r N1 Λ1 σ12 hq => ?_))
        obtain ⟨v13, rfl, rfl, rfl, h⟩ := hq
        refine r_if_eq (tgt := 63) d_X12_add_45 rfl (fun hc => ?_) (fun hc => ?_)
        · have h := h.1 hc
          refine r_aload_n (x := t) d_X12_add_63 rfl o_t.1 ?_
          refine r_bipush (x := (-3)) d_X12_add_64 ⟨by decide, by decide⟩ (by decide) ?_
          refine r_callV (Y2 := mX12_refused) (d := d - 1) (mc := 0) (ms := 0) (c := t) (As := [(0, (-3))]) (S := []) d_X12_add_66 ok_mX12_refused ml_X12_218 rfl (rmc h0d (by decide)) rm00 (Nat.le_of_ble_eq_true rfl) rfl kX12 o_t.1 o_t.2.1 o_t.2.2.1 o_t.2.2.2 (MC.mono h (fun r N1 Λ1 σ14 hq => ?_))
          obtain ⟨v15, rfl, rfl, rfl, h⟩ := hq
          exact r_iret d_X12_add_69 rfl rfl (Nat.le_refl 0) (Nat.le_refl 0) ⟨_, rfl, rfl, rfl, h⟩
        · have h := h.2 hc
          refine r_iload (x := x5) d_X12_add_48 rfl ?_
          refine r_i2l d_X12_add_50 ?_
          refine r_ldc2 (x := (-99)) d_X12_add_51 ck_X12_221 (by decide) ?_
          refine r_ldc2 (x := 99) d_X12_add_54 ck_X12_223 (by decide) ?_
          refine r_callS (Y2 := mX12_within) (d := d - 1) (mc := 0) (ms := 0) (As := [(1, x5), (1, (-99)), (1, 99)]) (S := []) d_X12_add_57 ok_mX12_within ml_X12_91 rfl (rmc h0d (by decide)) rm00 (Nat.le_of_ble_eq_true rfl) rfl (MC.mono h (fun r N1 Λ1 σ16 hq => ?_))
          obtain ⟨v17, rfl, rfl, rfl, h⟩ := hq
          refine r_if_ne (tgt := 70) d_X12_add_60 rfl (fun hc => ?_) (fun hc => ?_)
          · have h := h.1 hc
            refine r_aload_n (x := t) d_X12_add_70 rfl o_t.1 ?_
            refine r_callV (Y2 := mX12_begins) (d := d - 1) (mc := 0) (ms := 0) (c := t) (As := []) (S := []) d_X12_add_71 ok_mX12_begins ml_X12_202 rfl (rmc h0d (by decide)) rm00 (Nat.le_of_ble_eq_true rfl) rfl kX12 o_t.1 o_t.2.1 o_t.2.2.1 o_t.2.2.2 (MC.mono h (fun r N1 Λ1 σ18 hq => ?_))
            obtain ⟨rfl, rfl, rfl, h⟩ := hq
            refine r_aload_n (x := t) d_X12_add_74 rfl o_t.1 ?_
            refine r_iload_n (x := x2) d_X12_add_75 rfl ?_
            refine r_iload_n (x := x3) d_X12_add_76 rfl ?_
            refine r_callV (Y2 := mX12_putsTimes) (d := d - 1) (mc := 0) (ms := 0) (c := t) (As := [(0, x2), (0, x3)]) (S := []) d_X12_add_77 ok_mX12_putsTimes ml_X12_225 rfl (rmc h0d (by decide)) rm00 (Nat.le_of_ble_eq_true rfl) rfl kX12 o_t.1 o_t.2.1 o_t.2.2.1 o_t.2.2.2 (MC.mono h (fun r N1 Λ1 σ19 hq => ?_))
            obtain ⟨rfl, rfl, rfl, h⟩ := hq
            refine r_aload_n (x := t) d_X12_add_80 rfl o_t.1 ?_
            refine r_iload (x := x4) d_X12_add_81 rfl ?_
            refine r_iload (x := x5) d_X12_add_83 rfl ?_
            refine r_callV (Y2 := mX12_putsTimes) (d := d - 1) (mc := 0) (ms := 0) (c := t) (As := [(0, x4), (0, x5)]) (S := []) d_X12_add_85 ok_mX12_putsTimes ml_X12_225 rfl (rmc h0d (by decide)) rm00 (Nat.le_of_ble_eq_true rfl) rfl kX12 o_t.1 o_t.2.1 o_t.2.2.1 o_t.2.2.2 (MC.mono h (fun r N1 Λ1 σ20 hq => ?_))
            obtain ⟨rfl, rfl, rfl, h⟩ := hq
            refine r_aload_n (x := t) d_X12_add_88 rfl o_t.1 ?_
            refine r_iload_n (x := x1) d_X12_add_89 rfl ?_
            refine r_callV (Y2 := mX12_ends) (d := d - 1) (mc := 0) (ms := 0) (c := t) (As := [(0, x1)]) (S := []) d_X12_add_90 ok_mX12_ends ml_X12_228 rfl (rmc h0d (by decide)) rm00 (Nat.le_of_ble_eq_true rfl) rfl kX12 o_t.1 o_t.2.1 o_t.2.2.1 o_t.2.2.2 (MC.mono h (fun r N1 Λ1 σ21 hq => ?_))
            obtain ⟨v22, rfl, rfl, rfl, h⟩ := hq
            exact r_iret d_X12_add_93 rfl rfl (Nat.le_refl 0) (Nat.le_refl 0) ⟨_, rfl, rfl, rfl, h⟩
          · have h := h.2 hc
            refine r_aload_n (x := t) d_X12_add_63 rfl o_t.1 ?_
            refine r_bipush (x := (-3)) d_X12_add_64 ⟨by decide, by decide⟩ (by decide) ?_
            refine r_callV (Y2 := mX12_refused) (d := d - 1) (mc := 0) (ms := 0) (c := t) (As := [(0, (-3))]) (S := []) d_X12_add_66 ok_mX12_refused ml_X12_218 rfl (rmc h0d (by decide)) rm00 (Nat.le_of_ble_eq_true rfl) rfl kX12 o_t.1 o_t.2.1 o_t.2.2.1 o_t.2.2.2 (MC.mono h (fun r N1 Λ1 σ23 hq => ?_))
            obtain ⟨v24, rfl, rfl, rfl, h⟩ := hq
            exact r_iret d_X12_add_69 rfl rfl (Nat.le_refl 0) (Nat.le_refl 0) ⟨_, rfl, rfl, rfl, h⟩
      · have h := h.2 hc
        refine r_aload_n (x := t) d_X12_add_27 rfl o_t.1 ?_
        refine r_bipush (x := (-2)) d_X12_add_28 ⟨by decide, by decide⟩ (by decide) ?_
        refine r_callV (Y2 := mX12_refused) (d := d - 1) (mc := 0) (ms := 0) (c := t) (As := [(0, (-2))]) (S := []) d_X12_add_30 ok_mX12_refused ml_X12_218 rfl (rmc h0d (by decide)) rm00 (Nat.le_of_ble_eq_true rfl) rfl kX12 o_t.1 o_t.2.1 o_t.2.2.1 o_t.2.2.2 (MC.mono h (fun r N1 Λ1 σ25 hq => ?_))
        obtain ⟨v26, rfl, rfl, rfl, h⟩ := hq
        exact r_iret d_X12_add_33 rfl rfl (Nat.le_refl 0) (Nat.le_refl 0) ⟨_, rfl, rfl, rfl, h⟩
theorem v_X12_times_0 {l : Launch} {d N : Nat} {Λ : Lay} {P : Int → Mem → Prop} {σ : Mem} {x1 x2 x3 t : Int} (o_t : Ob N Λ t 21 36) (h0d : 1 ≤ d)
    (h : (∀ τ1, τ1 = st σ t 0 0 → (CI l mX12_isShelf (d - 1) [(0, x1)] N Λ τ1 (fun v3 σ2 => ((v3 = 0 → (CI l mX12_refused (d - 1) [(2, t), (0, (-2))] N Λ σ2 (fun v5 σ4 => P v5 σ4))) ∧ (¬ (v3 = 0) → (CI l mX12_isShelf (d - 1) [(0, x2)] N Λ σ2 (fun v7 σ6 => ((v7 = 0 → (CI l mX12_refused (d - 1) [(2, t), (0, (-2))] N Λ σ6 (fun v9 σ8 => P v9 σ8))) ∧ (¬ (v7 = 0) → (CI l mX12_isShelf (d - 1) [(0, x3)] N Λ σ6 (fun v11 σ10 => ((¬ v11 = 0 → (CV l mX12_begins (d - 1) [(2, t)] N Λ σ10 (fun σ12 => (CV l mX12_takes (d - 1) [(2, t), (0, x2), (0, 1)] N Λ σ12 (fun σ13 => (CV l mX12_takes (d - 1) [(2, t), (0, x3), (0, 2)] N Λ σ13 (fun σ14 => (CV l mX12_multiplies (d - 1) [(2, t), (0, 1), (0, 2), (0, 1), (0, 0)] N Λ σ14 (fun σ15 => (CI l mX12_ends (d - 1) [(2, t), (0, x1)] N Λ σ15 (fun v17 σ16 => P v17 σ16))))))))))) ∧ (v11 = 0 → (CI l mX12_refused (d - 1) [(2, t), (0, (-2))] N Λ σ10 (fun v19 σ18 => P v19 σ18)))))))))))))))) :
    WI l mX12_times d P 0 [(2, t), (0, x1), (0, x2), (0, x3)] [] N Λ σ := by
  refine r_aload_n (x := t) d_X12_times_0 rfl o_t.1 ?_
  refine r_iconst (x := 0) d_X12_times_1 ⟨by decide, by decide⟩ ?_
  refine r_putI (j := 0) d_X12_times_2 kX12 (by decide) fl_X12_1 rfl o_t.1 o_t.2.1 o_t.2.2.1 o_t.2.2.2 rfl ?_
  refine r_nmM (fun τ1 eτ1 => ?_)
  have h := h τ1 eτ1
  refine r_iload_n (x := x1) d_X12_times_5 rfl ?_
  refine r_callS (Y2 := mX12_isShelf) (d := d - 1) (mc := 0) (ms := 0) (As := [(0, x1)]) (S := []) d_X12_times_6 ok_mX12_isShelf ml_X12_199 rfl (rmc h0d (by decide)) rm00 (Nat.le_of_ble_eq_true rfl) rfl (MC.mono h (fun r N1 Λ1 σ2 hq => ?_))
  obtain ⟨v3, rfl, rfl, rfl, h⟩ := hq
  refine r_if_eq (tgt := 26) d_X12_times_9 rfl (fun hc => ?_) (fun hc => ?_)
  · have h := h.1 hc
    refine r_aload_n (x := t) d_X12_times_26 rfl o_t.1 ?_
    refine r_bipush (x := (-2)) d_X12_times_27 ⟨by decide, by decide⟩ (by decide) ?_
    refine r_callV (Y2 := mX12_refused) (d := d - 1) (mc := 0) (ms := 0) (c := t) (As := [(0, (-2))]) (S := []) d_X12_times_29 ok_mX12_refused ml_X12_218 rfl (rmc h0d (by decide)) rm00 (Nat.le_of_ble_eq_true rfl) rfl kX12 o_t.1 o_t.2.1 o_t.2.2.1 o_t.2.2.2 (MC.mono h (fun r N1 Λ1 σ4 hq => ?_))
    obtain ⟨v5, rfl, rfl, rfl, h⟩ := hq
    exact r_iret d_X12_times_32 rfl rfl (Nat.le_refl 0) (Nat.le_refl 0) ⟨_, rfl, rfl, rfl, h⟩
  · have h := h.2 hc
    refine r_iload_n (x := x2) d_X12_times_12 rfl ?_
    refine r_callS (Y2 := mX12_isShelf) (d := d - 1) (mc := 0) (ms := 0) (As := [(0, x2)]) (S := []) d_X12_times_13 ok_mX12_isShelf ml_X12_199 rfl (rmc h0d (by decide)) rm00 (Nat.le_of_ble_eq_true rfl) rfl (MC.mono h (fun r N1 Λ1 σ6 hq => ?_))
    obtain ⟨v7, rfl, rfl, rfl, h⟩ := hq
    refine r_if_eq (tgt := 26) d_X12_times_16 rfl (fun hc => ?_) (fun hc => ?_)
    · have h := h.1 hc
      refine r_aload_n (x := t) d_X12_times_26 rfl o_t.1 ?_
      refine r_bipush (x := (-2)) d_X12_times_27 ⟨by decide, by decide⟩ (by decide) ?_
      refine r_callV (Y2 := mX12_refused) (d := d - 1) (mc := 0) (ms := 0) (c := t) (As := [(0, (-2))]) (S := []) d_X12_times_29 ok_mX12_refused ml_X12_218 rfl (rmc h0d (by decide)) rm00 (Nat.le_of_ble_eq_true rfl) rfl kX12 o_t.1 o_t.2.1 o_t.2.2.1 o_t.2.2.2 (MC.mono h (fun r N1 Λ1 σ8 hq => ?_))
      obtain ⟨v9, rfl, rfl, rfl, h⟩ := hq
      exact r_iret d_X12_times_32 rfl rfl (Nat.le_refl 0) (Nat.le_refl 0) ⟨_, rfl, rfl, rfl, h⟩
    · have h := h.2 hc
      refine r_iload_n (x := x3) d_X12_times_19 rfl ?_
      refine r_callS (Y2 := mX12_isShelf) (d := d - 1) (mc := 0) (ms := 0) (As := [(0, x3)]) (S := []) d_X12_times_20 ok_mX12_isShelf ml_X12_199 rfl (rmc h0d (by decide)) rm00 (Nat.le_of_ble_eq_true rfl) rfl (MC.mono h (fun r N1 Λ1 σ10 hq => ?_))
      obtain ⟨v11, rfl, rfl, rfl, h⟩ := hq
      refine r_if_ne (tgt := 33) d_X12_times_23 rfl (fun hc => ?_) (fun hc => ?_)
      · have h := h.1 hc
        refine r_aload_n (x := t) d_X12_times_33 rfl o_t.1 ?_
        refine r_callV (Y2 := mX12_begins) (d := d - 1) (mc := 0) (ms := 0) (c := t) (As := []) (S := []) d_X12_times_34 ok_mX12_begins ml_X12_202 rfl (rmc h0d (by decide)) rm00 (Nat.le_of_ble_eq_true rfl) rfl kX12 o_t.1 o_t.2.1 o_t.2.2.1 o_t.2.2.2 (MC.mono h (fun r N1 Λ1 σ12 hq => ?_))
        obtain ⟨rfl, rfl, rfl, h⟩ := hq
        refine r_aload_n (x := t) d_X12_times_37 rfl o_t.1 ?_
        refine r_iload_n (x := x2) d_X12_times_38 rfl ?_
        refine r_iconst (x := 1) d_X12_times_39 ⟨by decide, by decide⟩ ?_
        refine r_callV (Y2 := mX12_takes) (d := d - 1) (mc := 0) (ms := 0) (c := t) (As := [(0, x2), (0, 1)]) (S := []) d_X12_times_40 ok_mX12_takes ml_X12_205 rfl (rmc h0d (by decide)) rm00 (Nat.le_of_ble_eq_true rfl) rfl kX12 o_t.1 o_t.2.1 o_t.2.2.1 o_t.2.2.2 (MC.mono h (fun r N1 Λ1 σ13 hq => ?_))
        obtain ⟨rfl, rfl, rfl, h⟩ := hq
        refine r_aload_n (x := t) d_X12_times_43 rfl o_t.1 ?_
        refine r_iload_n (x := x3) d_X12_times_44 rfl ?_
        refine r_iconst (x := 2) d_X12_times_45 ⟨by decide, by decide⟩ ?_
        refine r_callV (Y2 := mX12_takes) (d := d - 1) (mc := 0) (ms := 0) (c := t) (As := [(0, x3), (0, 2)]) (S := []) d_X12_times_46 ok_mX12_takes ml_X12_205 rfl (rmc h0d (by decide)) rm00 (Nat.le_of_ble_eq_true rfl) rfl kX12 o_t.1 o_t.2.1 o_t.2.2.1 o_t.2.2.2 (MC.mono h (fun r N1 Λ1 σ14 hq => ?_))
        obtain ⟨rfl, rfl, rfl, h⟩ := hq
        refine r_aload_n (x := t) d_X12_times_49 rfl o_t.1 ?_
        refine r_iconst (x := 1) d_X12_times_50 ⟨by decide, by decide⟩ ?_
        refine r_iconst (x := 2) d_X12_times_51 ⟨by decide, by decide⟩ ?_
        refine r_iconst (x := 1) d_X12_times_52 ⟨by decide, by decide⟩ ?_
        refine r_iconst (x := 0) d_X12_times_53 ⟨by decide, by decide⟩ ?_
        refine r_callV (Y2 := mX12_multiplies) (d := d - 1) (mc := 0) (ms := 0) (c := t) (As := [(0, 1), (0, 2), (0, 1), (0, 0)]) (S := []) d_X12_times_54 ok_mX12_multiplies ml_X12_231 rfl (rmc h0d (by decide)) rm00 (Nat.le_of_ble_eq_true rfl) rfl kX12 o_t.1 o_t.2.1 o_t.2.2.1 o_t.2.2.2 (MC.mono h (fun r N1 Λ1 σ15 hq => ?_))
        obtain ⟨rfl, rfl, rfl, h⟩ := hq
        refine r_aload_n (x := t) d_X12_times_57 rfl o_t.1 ?_
        refine r_iload_n (x := x1) d_X12_times_58 rfl ?_
        refine r_callV (Y2 := mX12_ends) (d := d - 1) (mc := 0) (ms := 0) (c := t) (As := [(0, x1)]) (S := []) d_X12_times_59 ok_mX12_ends ml_X12_228 rfl (rmc h0d (by decide)) rm00 (Nat.le_of_ble_eq_true rfl) rfl kX12 o_t.1 o_t.2.1 o_t.2.2.1 o_t.2.2.2 (MC.mono h (fun r N1 Λ1 σ16 hq => ?_))
        obtain ⟨v17, rfl, rfl, rfl, h⟩ := hq
        exact r_iret d_X12_times_62 rfl rfl (Nat.le_refl 0) (Nat.le_refl 0) ⟨_, rfl, rfl, rfl, h⟩
      · have h := h.2 hc
        refine r_aload_n (x := t) d_X12_times_26 rfl o_t.1 ?_
        refine r_bipush (x := (-2)) d_X12_times_27 ⟨by decide, by decide⟩ (by decide) ?_
        refine r_callV (Y2 := mX12_refused) (d := d - 1) (mc := 0) (ms := 0) (c := t) (As := [(0, (-2))]) (S := []) d_X12_times_29 ok_mX12_refused ml_X12_218 rfl (rmc h0d (by decide)) rm00 (Nat.le_of_ble_eq_true rfl) rfl kX12 o_t.1 o_t.2.1 o_t.2.2.1 o_t.2.2.2 (MC.mono h (fun r N1 Λ1 σ18 hq => ?_))
        obtain ⟨v19, rfl, rfl, rfl, h⟩ := hq
        exact r_iret d_X12_times_32 rfl rfl (Nat.le_refl 0) (Nat.le_refl 0) ⟨_, rfl, rfl, rfl, h⟩
theorem v_X12_putsOther_0 {l : Launch} {d N : Nat} {Λ : Lay} {P : Mem → Prop} {σ : Mem} {x1 x2 a3 t : Int} (h0d : 1 ≤ d)
    (h : (CI l mX12_degreeOf (d - 1) [(0, x1)] N Λ σ (fun v2 σ1 => WV l mX12_putsOther d P 13 [(2, t), (0, x1), (0, x2), (2, a3), (0, v2), (1, x2), (3, 0), (0, 0), (3, 0), (3, 0)] [] N Λ σ1))) :
    WV l mX12_putsOther d P 0 [(2, t), (0, x1), (0, x2), (2, a3), (3, 0), (3, 0), (3, 0), (3, 0), (3, 0), (3, 0)] [] N Λ σ := by
  refine r_iload_n (x := x1) d_X12_putsOther_0 rfl ?_
  refine r_callS (Y2 := mX12_degreeOf) (d := d - 1) (mc := 0) (ms := 0) (As := [(0, x1)]) (S := []) d_X12_putsOther_1 ok_mX12_degreeOf ml_X12_138 rfl (rmc h0d (by decide)) rm00 (Nat.le_of_ble_eq_true rfl) rfl (MC.mono h (fun r N1 Λ1 σ1 hq => ?_))
  obtain ⟨v2, rfl, rfl, rfl, h⟩ := hq
  refine r_istore (L2 := [(2, t), (0, x1), (0, x2), (2, a3), (0, v2), (3, 0), (3, 0), (3, 0), (3, 0), (3, 0)]) d_X12_putsOther_4 (by decide) rfl rfl ?_
  refine r_iload_n (x := x2) d_X12_putsOther_6 rfl ?_
  refine r_i2l d_X12_putsOther_7 ?_
  refine r_lstore (L2 := [(2, t), (0, x1), (0, x2), (2, a3), (0, v2), (1, x2), (3, 0), (3, 0), (3, 0), (3, 0)]) d_X12_putsOther_8 (by decide) rfl rfl ?_
  refine r_iconst (x := 0) d_X12_putsOther_10 ⟨by decide, by decide⟩ ?_
  refine r_istore (L2 := [(2, t), (0, x1), (0, x2), (2, a3), (0, v2), (1, x2), (3, 0), (0, 0), (3, 0), (3, 0)]) d_X12_putsOther_11 (by decide) rfl rfl ?_
  exact h
theorem v_X12_putsOther_13 {l : Launch} {d N : Nat} {Λ : Lay} {P : Mem → Prop} {σ : Mem} {x1 x2 x4 x5 x7 a3 t t_letterOf t_rankOf t_ranks : Int} (o_t : Ob N Λ t 21 36) (f_t_rankOf : (Λ t).2.2 1 = t_rankOf) (z_a3 : 0 ≤ a3) (f_t_letterOf : (Λ t).2.2 2 = t_letterOf) (f_t_ranks : (Λ t).2.2 9 = t_ranks) (h0d : 1 ≤ d)
    (h : ((x4 ≤ x7 → (CI l mX12_keyOf (d - 1) [(2, t), (0, x4)] N Λ σ (fun v2 σ1 => (CI l mX12_puts (d - 1) [(2, t), (0, 0), (0, v2), (1, x5)] N Λ σ1 (fun v4 σ3 => P σ3))))) ∧ (¬ (x4 ≤ x7) → (CI l mX12_rankIn (d - 1) [(0, x1), (0, x7)] N Λ σ (fun v6 σ5 => (∀ y7, y7 = (mulI 3 v6) → (Ix N Λ t_letterOf 0 y7 ∧ (Ix N Λ a3 0 (σ5 t_letterOf y7) ∧ (Ix N Λ t_letterOf 0 (addI y7 1) ∧ (Ix N Λ a3 0 (σ5 t_letterOf (addI y7 1)) ∧ (Ix N Λ t_letterOf 0 (addI y7 2) ∧ (Ix N Λ a3 0 (σ5 t_letterOf (addI y7 2)) ∧ (Ix N Λ t_rankOf 0 (addI (addI (mulI 100 (σ5 a3 (σ5 t_letterOf y7))) (mulI 10 (σ5 a3 (σ5 t_letterOf (addI y7 1))))) (σ5 a3 (σ5 t_letterOf (addI y7 2)))) ∧ (∀ y8, y8 = (σ5 t_rankOf (addI (addI (mulI 100 (σ5 a3 (σ5 t_letterOf y7))) (mulI 10 (σ5 a3 (σ5 t_letterOf (addI y7 1))))) (σ5 a3 (σ5 t_letterOf (addI y7 2))))) → ((¬ y8 = 0 → ((0 ≤ y8 → (CI l mX12_sizeOf (d - 1) [(0, y8)] N Λ σ5 (fun v10 σ9 => (Ix N Λ t_ranks 0 x7 ∧ (∀ τ11, τ11 = st σ9 t_ranks x7 v10 → (∀ y12, y12 = addI x7 1 → WV l mX12_putsOther d P 13 [(2, t), (0, x1), (0, x2), (2, a3), (0, x4), (1, x5), (3, 0), (0, y12), (3, 0), (3, 0)] [] N Λ τ11)))))) ∧ (¬ (0 ≤ y8) → (∀ y13, y13 = (negL x5) → (CI l mX12_sizeOf (d - 1) [(0, y8)] N Λ σ5 (fun v15 σ14 => (Ix N Λ t_ranks 0 x7 ∧ (∀ τ16, τ16 = st σ14 t_ranks x7 v15 → (∀ y17, y17 = addI x7 1 → WV l mX12_putsOther d P 13 [(2, t), (0, x1), (0, x2), (2, a3), (0, x4), (1, y13), (3, 0), (0, y17), (3, 0), (3, 0)] [] N Λ τ16))))))))) ∧ (y8 = 0 → P σ5)))))))))))))))) :
    WV l mX12_putsOther d P 13 [(2, t), (0, x1), (0, x2), (2, a3), (0, x4), (1, x5), (3, 0), (0, x7), (3, 0), (3, 0)] [] N Λ σ := by
  refine r_iload (x := x7) d_X12_putsOther_13 rfl ?_
  refine r_iload (x := x4) d_X12_putsOther_15 rfl ?_
  refine r_ic_ge (tgt := 115) d_X12_putsOther_17 rfl (fun hc => ?_) (fun hc => ?_)
  · have h := h.1 hc
    refine r_aload_n (x := t) d_X12_putsOther_115 rfl o_t.1 ?_
    refine r_iconst (x := 0) d_X12_putsOther_116 ⟨by decide, by decide⟩ ?_
    refine r_aload_n (x := t) d_X12_putsOther_117 rfl o_t.1 ?_
    refine r_iload (x := x4) d_X12_putsOther_118 rfl ?_
    refine r_callV (Y2 := mX12_keyOf) (d := d - 1) (mc := 0) (ms := 0) (c := t) (As := [(0, x4)]) (S := [(0, 0), (2, t)]) d_X12_putsOther_120 ok_mX12_keyOf ml_X12_141 rfl (rmc h0d (by decide)) rm00 (Nat.le_of_ble_eq_true rfl) rfl kX12 o_t.1 o_t.2.1 o_t.2.2.1 o_t.2.2.2 (MC.mono h (fun r N1 Λ1 σ1 hq => ?_))
    obtain ⟨v2, rfl, rfl, rfl, h⟩ := hq
    refine r_lload (x := x5) d_X12_putsOther_123 rfl ?_
    refine r_callV (Y2 := mX12_puts) (d := d - 1) (mc := 0) (ms := 0) (c := t) (As := [(0, 0), (0, v2), (1, x5)]) (S := []) d_X12_putsOther_125 ok_mX12_puts ml_X12_147 rfl (rmc h0d (by decide)) rm00 (Nat.le_of_ble_eq_true rfl) rfl kX12 o_t.1 o_t.2.1 o_t.2.2.1 o_t.2.2.2 (MC.mono h (fun r N1 Λ1 σ3 hq => ?_))
    obtain ⟨v4, rfl, rfl, rfl, h⟩ := hq
    refine r_pop d_X12_putsOther_128 rfl ?_
    exact r_vret d_X12_putsOther_129 rfl (Nat.le_refl 0) (Nat.le_refl 0) ⟨rfl, rfl, rfl, h⟩
  · have h := h.2 hc
    refine r_iconst (x := 3) d_X12_putsOther_20 ⟨by decide, by decide⟩ ?_
    refine r_iload_n (x := x1) d_X12_putsOther_21 rfl ?_
    refine r_iload (x := x7) d_X12_putsOther_22 rfl ?_
    refine r_callS (Y2 := mX12_rankIn) (d := d - 1) (mc := 0) (ms := 0) (As := [(0, x1), (0, x7)]) (S := [(0, 3)]) d_X12_putsOther_24 ok_mX12_rankIn ml_X12_135 rfl (rmc h0d (by decide)) rm00 (Nat.le_of_ble_eq_true rfl) rfl (MC.mono h (fun r N1 Λ1 σ5 hq => ?_))
    obtain ⟨v6, rfl, rfl, rfl, h⟩ := hq
    refine r_imul d_X12_putsOther_27 ?_
    refine r_nm (fun y7 ey7 => ?_)
    have h := h y7 ey7
    refine r_istore (L2 := [(2, t), (0, x1), (0, x2), (2, a3), (0, x4), (1, x5), (3, 0), (0, x7), (0, y7), (3, 0)]) d_X12_putsOther_28 (by decide) rfl rfl ?_
    refine r_aload_n (x := t) d_X12_putsOther_30 rfl o_t.1 ?_
    refine r_getf (j := 1) (t := 2) (x := t_rankOf) d_X12_putsOther_31 kX12 (by decide) fl_X12_13 o_t.1 o_t.2.1 o_t.2.2.1 o_t.2.2.2 rfl f_t_rankOf ?_
    refine r_bipush (x := 100) d_X12_putsOther_34 ⟨by decide, by decide⟩ (by decide) ?_
    refine r_aload_n (x := a3) d_X12_putsOther_36 rfl z_a3 ?_
    refine r_aload_n (x := t) d_X12_putsOther_37 rfl o_t.1 ?_
    refine r_getf (j := 2) (t := 2) (x := t_letterOf) d_X12_putsOther_38 kX12 (by decide) fl_X12_17 o_t.1 o_t.2.1 o_t.2.2.1 o_t.2.2.2 rfl f_t_letterOf ?_
    refine r_iload (x := y7) d_X12_putsOther_41 rfl ?_
    refine x_iald d_X12_putsOther_43 h.1 ?_
    have h := h.2
    refine x_iald d_X12_putsOther_44 h.1 ?_
    have h := h.2
    refine r_imul d_X12_putsOther_45 ?_
    refine r_bipush (x := 10) d_X12_putsOther_46 ⟨by decide, by decide⟩ (by decide) ?_
    refine r_aload_n (x := a3) d_X12_putsOther_48 rfl z_a3 ?_
    refine r_aload_n (x := t) d_X12_putsOther_49 rfl o_t.1 ?_
    refine r_getf (j := 2) (t := 2) (x := t_letterOf) d_X12_putsOther_50 kX12 (by decide) fl_X12_17 o_t.1 o_t.2.1 o_t.2.2.1 o_t.2.2.2 rfl f_t_letterOf ?_
    refine r_iload (x := y7) d_X12_putsOther_53 rfl ?_
    refine r_iconst (x := 1) d_X12_putsOther_55 ⟨by decide, by decide⟩ ?_
    refine r_iadd d_X12_putsOther_56 ?_
    refine x_iald d_X12_putsOther_57 h.1 ?_
    have h := h.2
    refine x_iald d_X12_putsOther_58 h.1 ?_
    have h := h.2
    refine r_imul d_X12_putsOther_59 ?_
    refine r_iadd d_X12_putsOther_60 ?_
    refine r_aload_n (x := a3) d_X12_putsOther_61 rfl z_a3 ?_
    refine r_aload_n (x := t) d_X12_putsOther_62 rfl o_t.1 ?_
    refine r_getf (j := 2) (t := 2) (x := t_letterOf) d_X12_putsOther_63 kX12 (by decide) fl_X12_17 o_t.1 o_t.2.1 o_t.2.2.1 o_t.2.2.2 rfl f_t_letterOf ?_
    refine r_iload (x := y7) d_X12_putsOther_66 rfl ?_
    refine r_iconst (x := 2) d_X12_putsOther_68 ⟨by decide, by decide⟩ ?_
    refine r_iadd d_X12_putsOther_69 ?_
    refine x_iald d_X12_putsOther_70 h.1 ?_
    have h := h.2
    refine x_iald d_X12_putsOther_71 h.1 ?_
    have h := h.2
    refine r_iadd d_X12_putsOther_72 ?_
    refine x_iald d_X12_putsOther_73 h.1 ?_
    have h := h.2
    refine r_nm (fun y8 ey8 => ?_)
    have h := h y8 ey8
    refine r_istore (L2 := [(2, t), (0, x1), (0, x2), (2, a3), (0, x4), (1, x5), (3, 0), (0, x7), (0, y7), (0, y8)]) d_X12_putsOther_74 (by decide) rfl rfl ?_
    refine r_iload (x := y8) d_X12_putsOther_76 rfl ?_
    refine r_if_ne (tgt := 82) d_X12_putsOther_78 rfl (fun hc => ?_) (fun hc => ?_)
    · have h := h.1 hc
      refine r_iload (x := y8) d_X12_putsOther_82 rfl ?_
      refine r_if_ge (tgt := 93) d_X12_putsOther_84 rfl (fun hc => ?_) (fun hc => ?_)
      · have h := h.1 hc
        refine r_lload (x := x5) d_X12_putsOther_93 rfl ?_
        refine r_lstore (L2 := [(2, t), (0, x1), (0, x2), (2, a3), (0, x4), (1, x5), (3, 0), (0, x7), (0, y7), (0, y8)]) d_X12_putsOther_95 (by decide) rfl rfl ?_
        refine r_aload_n (x := t) d_X12_putsOther_97 rfl o_t.1 ?_
        refine r_getf (j := 9) (t := 2) (x := t_ranks) d_X12_putsOther_98 kX12 (by decide) fl_X12_33 o_t.1 o_t.2.1 o_t.2.2.1 o_t.2.2.2 rfl f_t_ranks ?_
        refine r_iload (x := x7) d_X12_putsOther_101 rfl ?_
        refine r_iload (x := y8) d_X12_putsOther_103 rfl ?_
        refine r_callS (Y2 := mX12_sizeOf) (d := d - 1) (mc := 0) (ms := 0) (As := [(0, y8)]) (S := [(0, x7), (2, t_ranks)]) d_X12_putsOther_105 ok_mX12_sizeOf ml_X12_168 rfl (rmc h0d (by decide)) rm00 (Nat.le_of_ble_eq_true rfl) rfl (MC.mono h (fun r N1 Λ1 σ9 hq => ?_))
        obtain ⟨v10, rfl, rfl, rfl, h⟩ := hq
        refine x_iast d_X12_putsOther_108 h.1 ?_
        have h := h.2
        refine r_nmM (fun τ11 eτ11 => ?_)
        have h := h τ11 eτ11
        refine x_iinc (x := x7) (L := [(2, t), (0, x1), (0, x2), (2, a3), (0, x4), (1, x5), (3, 0), (0, x7), (0, y7), (0, y8)]) d_X12_putsOther_109 rfl (by decide) rfl (fun y12 ey12 => ?_)
        have h := h y12 ey12
        show WP _ _ _ _ _ _ _ _ [(2, t), (0, x1), (0, x2), (2, a3), (0, x4), (1, x5), (3, 0), (0, y12), (0, y7), (0, y8)] _ _ _ _
        refine r_goto (tgt := 13) d_X12_putsOther_112 rfl ?_
        exact x_mask h ⟨Or.inr rfl, Or.inr rfl, Or.inr rfl, Or.inr rfl, Or.inr rfl, Or.inr rfl, Or.inl rfl, Or.inr rfl, Or.inl rfl, Or.inl rfl, trivial⟩
      · have h := h.2 hc
        refine r_lload (x := x5) d_X12_putsOther_87 rfl ?_
        refine r_lneg d_X12_putsOther_89 ?_
        refine r_goto (tgt := 95) d_X12_putsOther_90 rfl ?_
        refine r_nm (fun y13 ey13 => ?_)
        have h := h y13 ey13
        refine r_lstore (L2 := [(2, t), (0, x1), (0, x2), (2, a3), (0, x4), (1, y13), (3, 0), (0, x7), (0, y7), (0, y8)]) d_X12_putsOther_95 (by decide) rfl rfl ?_
        refine r_aload_n (x := t) d_X12_putsOther_97 rfl o_t.1 ?_
        refine r_getf (j := 9) (t := 2) (x := t_ranks) d_X12_putsOther_98 kX12 (by decide) fl_X12_33 o_t.1 o_t.2.1 o_t.2.2.1 o_t.2.2.2 rfl f_t_ranks ?_
        refine r_iload (x := x7) d_X12_putsOther_101 rfl ?_
        refine r_iload (x := y8) d_X12_putsOther_103 rfl ?_
        refine r_callS (Y2 := mX12_sizeOf) (d := d - 1) (mc := 0) (ms := 0) (As := [(0, y8)]) (S := [(0, x7), (2, t_ranks)]) d_X12_putsOther_105 ok_mX12_sizeOf ml_X12_168 rfl (rmc h0d (by decide)) rm00 (Nat.le_of_ble_eq_true rfl) rfl (MC.mono h (fun r N1 Λ1 σ14 hq => ?_))
        obtain ⟨v15, rfl, rfl, rfl, h⟩ := hq
        refine x_iast d_X12_putsOther_108 h.1 ?_
        have h := h.2
        refine r_nmM (fun τ16 eτ16 => ?_)
        have h := h τ16 eτ16
        refine x_iinc (x := x7) (L := [(2, t), (0, x1), (0, x2), (2, a3), (0, x4), (1, y13), (3, 0), (0, x7), (0, y7), (0, y8)]) d_X12_putsOther_109 rfl (by decide) rfl (fun y17 ey17 => ?_)
        have h := h y17 ey17
        show WP _ _ _ _ _ _ _ _ [(2, t), (0, x1), (0, x2), (2, a3), (0, x4), (1, y13), (3, 0), (0, y17), (0, y7), (0, y8)] _ _ _ _
        refine r_goto (tgt := 13) d_X12_putsOther_112 rfl ?_
        exact x_mask h ⟨Or.inr rfl, Or.inr rfl, Or.inr rfl, Or.inr rfl, Or.inr rfl, Or.inr rfl, Or.inl rfl, Or.inr rfl, Or.inl rfl, Or.inl rfl, trivial⟩
    · have h := h.2 hc
      exact r_vret d_X12_putsOther_81 rfl (Nat.le_refl 0) (Nat.le_refl 0) ⟨rfl, rfl, rfl, h⟩
theorem v_X12_puts__0 {l : Launch} {d N : Nat} {Λ : Lay} {P : Int → Mem → Prop} {σ : Mem} {x1 x2 x3 x4 x5 t : Int} (o_t : Ob N Λ t 21 36) (h0d : 1 ≤ d)
    (h : (CI l mX12_isShelf (d - 1) [(0, x1)] N Λ σ (fun v2 σ1 => ((v2 = 0 → (CI l mX12_refused (d - 1) [(2, t), (0, (-2))] N Λ σ1 (fun v4 σ3 => P v4 σ3))) ∧ (¬ (v2 = 0) → (CI l mX12_isShelf (d - 1) [(0, x2)] N Λ σ1 (fun v6 σ5 => ((v6 = 0 → (CI l mX12_refused (d - 1) [(2, t), (0, (-2))] N Λ σ5 (fun v8 σ7 => P v8 σ7))) ∧ (¬ (v6 = 0) → (CI l mX12_isLetter (d - 1) [(0, x3)] N Λ σ5 (fun v10 σ9 => ((v10 = 0 → (CI l mX12_refused (d - 1) [(2, t), (0, (-2))] N Λ σ9 (fun v12 σ11 => P v12 σ11))) ∧ (¬ (v10 = 0) → (CI l mX12_isLetter (d - 1) [(0, x4)] N Λ σ9 (fun v14 σ13 => ((¬ v14 = 0 → (CV l mX12_begins (d - 1) [(2, t)] N Λ σ13 (fun σ15 => (CV l mX12_takes (d - 1) [(2, t), (0, x2), (0, 1)] N Λ σ15 (fun σ16 => WI l mX12_puts_ d P 49 [(2, t), (0, x1), (0, x2), (0, x3), (0, x4), (0, x5), (0, 0)] [] N Λ σ16))))) ∧ (v14 = 0 → (CI l mX12_refused (d - 1) [(2, t), (0, (-2))] N Λ σ13 (fun v18 σ17 => P v18 σ17))))))))))))))))))) :
    WI l mX12_puts_ d P 0 [(2, t), (0, x1), (0, x2), (0, x3), (0, x4), (0, x5), (3, 0)] [] N Λ σ := by
  refine r_iload_n (x := x1) d_X12_puts__0 rfl ?_
  refine r_callS (Y2 := mX12_isShelf) (d := d - 1) (mc := 0) (ms := 0) (As := [(0, x1)]) (S := []) d_X12_puts__1 ok_mX12_isShelf ml_X12_199 rfl (rmc h0d (by decide)) rm00 (Nat.le_of_ble_eq_true rfl) rfl (MC.mono h (fun r N1 Λ1 σ1 hq => ?_))
  obtain ⟨v2, rfl, rfl, rfl, h⟩ := hq
  refine r_if_eq (tgt := 29) d_X12_puts__4 rfl (fun hc => ?_) (fun hc => ?_)
  · have h := h.1 hc
    refine r_aload_n (x := t) d_X12_puts__29 rfl o_t.1 ?_
    refine r_bipush (x := (-2)) d_X12_puts__30 ⟨by decide, by decide⟩ (by decide) ?_
    refine r_callV (Y2 := mX12_refused) (d := d - 1) (mc := 0) (ms := 0) (c := t) (As := [(0, (-2))]) (S := []) d_X12_puts__32 ok_mX12_refused ml_X12_218 rfl (rmc h0d (by decide)) rm00 (Nat.le_of_ble_eq_true rfl) rfl kX12 o_t.1 o_t.2.1 o_t.2.2.1 o_t.2.2.2 (MC.mono h (fun r N1 Λ1 σ3 hq => ?_))
    obtain ⟨v4, rfl, rfl, rfl, h⟩ := hq
    exact r_iret d_X12_puts__35 rfl rfl (Nat.le_refl 0) (Nat.le_refl 0) ⟨_, rfl, rfl, rfl, h⟩
  · have h := h.2 hc
    refine r_iload_n (x := x2) d_X12_puts__7 rfl ?_
    refine r_callS (Y2 := mX12_isShelf) (d := d - 1) (mc := 0) (ms := 0) (As := [(0, x2)]) (S := []) d_X12_puts__8 ok_mX12_isShelf ml_X12_199 rfl (rmc h0d (by decide)) rm00 (Nat.le_of_ble_eq_true rfl) rfl (MC.mono h (fun r N1 Λ1 σ5 hq => ?_))
    obtain ⟨v6, rfl, rfl, rfl, h⟩ := hq
    refine r_if_eq (tgt := 29) d_X12_puts__11 rfl (fun hc => ?_) (fun hc => ?_)
    · have h := h.1 hc
      refine r_aload_n (x := t) d_X12_puts__29 rfl o_t.1 ?_
      refine r_bipush (x := (-2)) d_X12_puts__30 ⟨by decide, by decide⟩ (by decide) ?_
      refine r_callV (Y2 := mX12_refused) (d := d - 1) (mc := 0) (ms := 0) (c := t) (As := [(0, (-2))]) (S := []) d_X12_puts__32 ok_mX12_refused ml_X12_218 rfl (rmc h0d (by decide)) rm00 (Nat.le_of_ble_eq_true rfl) rfl kX12 o_t.1 o_t.2.1 o_t.2.2.1 o_t.2.2.2 (MC.mono h (fun r N1 Λ1 σ7 hq => ?_))
      obtain ⟨v8, rfl, rfl, rfl, h⟩ := hq
      exact r_iret d_X12_puts__35 rfl rfl (Nat.le_refl 0) (Nat.le_refl 0) ⟨_, rfl, rfl, rfl, h⟩
    · have h := h.2 hc
      refine r_iload_n (x := x3) d_X12_puts__14 rfl ?_
      refine r_callS (Y2 := mX12_isLetter) (d := d - 1) (mc := 0) (ms := 0) (As := [(0, x3)]) (S := []) d_X12_puts__15 ok_mX12_isLetter ml_X12_208 rfl (rmc h0d (by decide)) rm00 (Nat.le_of_ble_eq_true rfl) rfl (MC.mono h (fun r N1 Λ1 σ9 hq => ?_))
      obtain ⟨v10, rfl, rfl, rfl, h⟩ := hq
      refine r_if_eq (tgt := 29) d_X12_puts__18 rfl (fun hc => ?_) (fun hc => ?_)
      · have h := h.1 hc
        refine r_aload_n (x := t) d_X12_puts__29 rfl o_t.1 ?_
        refine r_bipush (x := (-2)) d_X12_puts__30 ⟨by decide, by decide⟩ (by decide) ?_
        refine r_callV (Y2 := mX12_refused) (d := d - 1) (mc := 0) (ms := 0) (c := t) (As := [(0, (-2))]) (S := []) d_X12_puts__32 ok_mX12_refused ml_X12_218 rfl (rmc h0d (by decide)) rm00 (Nat.le_of_ble_eq_true rfl) rfl kX12 o_t.1 o_t.2.1 o_t.2.2.1 o_t.2.2.2 (MC.mono h (fun r N1 Λ1 σ11 hq => ?_))
        obtain ⟨v12, rfl, rfl, rfl, h⟩ := hq
        exact r_iret d_X12_puts__35 rfl rfl (Nat.le_refl 0) (Nat.le_refl 0) ⟨_, rfl, rfl, rfl, h⟩
      · have h := h.2 hc
        refine r_iload (x := x4) d_X12_puts__21 rfl ?_
        refine r_callS (Y2 := mX12_isLetter) (d := d - 1) (mc := 0) (ms := 0) (As := [(0, x4)]) (S := []) d_X12_puts__23 ok_mX12_isLetter ml_X12_208 rfl (rmc h0d (by decide)) rm00 (Nat.le_of_ble_eq_true rfl) rfl (MC.mono h (fun r N1 Λ1 σ13 hq => ?_))
        obtain ⟨v14, rfl, rfl, rfl, h⟩ := hq
        refine r_if_ne (tgt := 36) d_X12_puts__26 rfl (fun hc => ?_) (fun hc => ?_)
        · have h := h.1 hc
          refine r_aload_n (x := t) d_X12_puts__36 rfl o_t.1 ?_
          refine r_callV (Y2 := mX12_begins) (d := d - 1) (mc := 0) (ms := 0) (c := t) (As := []) (S := []) d_X12_puts__37 ok_mX12_begins ml_X12_202 rfl (rmc h0d (by decide)) rm00 (Nat.le_of_ble_eq_true rfl) rfl kX12 o_t.1 o_t.2.1 o_t.2.2.1 o_t.2.2.2 (MC.mono h (fun r N1 Λ1 σ15 hq => ?_))
          obtain ⟨rfl, rfl, rfl, h⟩ := hq
          refine r_aload_n (x := t) d_X12_puts__40 rfl o_t.1 ?_
          refine r_iload_n (x := x2) d_X12_puts__41 rfl ?_
          refine r_iconst (x := 1) d_X12_puts__42 ⟨by decide, by decide⟩ ?_
          refine r_callV (Y2 := mX12_takes) (d := d - 1) (mc := 0) (ms := 0) (c := t) (As := [(0, x2), (0, 1)]) (S := []) d_X12_puts__43 ok_mX12_takes ml_X12_205 rfl (rmc h0d (by decide)) rm00 (Nat.le_of_ble_eq_true rfl) rfl kX12 o_t.1 o_t.2.1 o_t.2.2.1 o_t.2.2.2 (MC.mono h (fun r N1 Λ1 σ16 hq => ?_))
          obtain ⟨rfl, rfl, rfl, h⟩ := hq
          refine r_iconst (x := 0) d_X12_puts__46 ⟨by decide, by decide⟩ ?_
          refine r_istore (L2 := [(2, t), (0, x1), (0, x2), (0, x3), (0, x4), (0, x5), (0, 0)]) d_X12_puts__47 (by decide) rfl rfl ?_
          exact h
        · have h := h.2 hc
          refine r_aload_n (x := t) d_X12_puts__29 rfl o_t.1 ?_
          refine r_bipush (x := (-2)) d_X12_puts__30 ⟨by decide, by decide⟩ (by decide) ?_
          refine r_callV (Y2 := mX12_refused) (d := d - 1) (mc := 0) (ms := 0) (c := t) (As := [(0, (-2))]) (S := []) d_X12_puts__32 ok_mX12_refused ml_X12_218 rfl (rmc h0d (by decide)) rm00 (Nat.le_of_ble_eq_true rfl) rfl kX12 o_t.1 o_t.2.1 o_t.2.2.1 o_t.2.2.2 (MC.mono h (fun r N1 Λ1 σ17 hq => ?_))
          obtain ⟨v18, rfl, rfl, rfl, h⟩ := hq
          exact r_iret d_X12_puts__35 rfl rfl (Nat.le_refl 0) (Nat.le_refl 0) ⟨_, rfl, rfl, rfl, h⟩
theorem v_X12_puts__49 {l : Launch} {d N : Nat} {Λ : Lay} {P : Int → Mem → Prop} {σ : Mem} {x1 x2 x3 x4 x5 x6 t t_row : Int} (o_t : Ob N Λ t 21 36) (f_t_row : (Λ t).2.2 17 = t_row)
    (h : ((10 ≤ x6 → WI l mX12_puts_ d P 101 [(2, t), (0, x1), (0, x2), (0, x3), (0, x4), (0, x5), (0, 0)] [] N Λ σ) ∧ (¬ (10 ≤ x6) → ((¬ x6 = x3 → ((x5 = 0 → (Ix N Λ t_row 0 x6 ∧ (∀ τ1, τ1 = st σ t_row x6 x6 → (∀ y2, y2 = addI x6 1 → WI l mX12_puts_ d P 49 [(2, t), (0, x1), (0, x2), (0, x3), (0, x4), (0, x5), (0, y2)] [] N Λ τ1)))) ∧ (¬ (x5 = 0) → ((¬ x6 = x4 → (Ix N Λ t_row 0 x6 ∧ (∀ τ3, τ3 = st σ t_row x6 x6 → (∀ y4, y4 = addI x6 1 → WI l mX12_puts_ d P 49 [(2, t), (0, x1), (0, x2), (0, x3), (0, x4), (0, x5), (0, y4)] [] N Λ τ3)))) ∧ (x6 = x4 → (Ix N Λ t_row 0 x6 ∧ (∀ τ5, τ5 = st σ t_row x6 x3 → (∀ y6, y6 = addI x6 1 → WI l mX12_puts_ d P 49 [(2, t), (0, x1), (0, x2), (0, x3), (0, x4), (0, x5), (0, y6)] [] N Λ τ5)))))))) ∧ (x6 = x3 → (Ix N Λ t_row 0 x6 ∧ (∀ τ7, τ7 = st σ t_row x6 x4 → (∀ y8, y8 = addI x6 1 → WI l mX12_puts_ d P 49 [(2, t), (0, x1), (0, x2), (0, x3), (0, x4), (0, x5), (0, y8)] [] N Λ τ7)))))))) :
    WI l mX12_puts_ d P 49 [(2, t), (0, x1), (0, x2), (0, x3), (0, x4), (0, x5), (0, x6)] [] N Λ σ := by
  refine r_iload (x := x6) d_X12_puts__49 rfl ?_
  refine r_bipush (x := 10) d_X12_puts__51 ⟨by decide, by decide⟩ (by decide) ?_
  refine r_ic_ge (tgt := 98) d_X12_puts__53 rfl (fun hc => ?_) (fun hc => ?_)
  · have h := h.1 hc
    refine r_iconst (x := 0) d_X12_puts__98 ⟨by decide, by decide⟩ ?_
    refine r_istore (L2 := [(2, t), (0, x1), (0, x2), (0, x3), (0, x4), (0, x5), (0, 0)]) d_X12_puts__99 (by decide) rfl rfl ?_
    exact h
  · have h := h.2 hc
    refine r_aload_n (x := t) d_X12_puts__56 rfl o_t.1 ?_
    refine r_getf (j := 17) (t := 2) (x := t_row) d_X12_puts__57 kX12 (by decide) fl_X12_54 o_t.1 o_t.2.1 o_t.2.2.1 o_t.2.2.2 rfl f_t_row ?_
    refine r_iload (x := x6) d_X12_puts__60 rfl ?_
    refine r_iload (x := x6) d_X12_puts__62 rfl ?_
    refine r_iload_n (x := x3) d_X12_puts__64 rfl ?_
    refine r_ic_ne (tgt := 73) d_X12_puts__65 rfl (fun hc => ?_) (fun hc => ?_)
    · have h := h.1 hc
      refine r_iload (x := x5) d_X12_puts__73 rfl ?_
      refine r_if_eq (tgt := 89) d_X12_puts__75 rfl (fun hc => ?_) (fun hc => ?_)
      · have h := h.1 hc
        refine r_iload (x := x6) d_X12_puts__89 rfl ?_
        refine x_iast d_X12_puts__91 h.1 ?_
        have h := h.2
        refine r_nmM (fun τ1 eτ1 => ?_)
        have h := h τ1 eτ1
        refine x_iinc (x := x6) (L := [(2, t), (0, x1), (0, x2), (0, x3), (0, x4), (0, x5), (0, x6)]) d_X12_puts__92 rfl (by decide) rfl (fun y2 ey2 => ?_)
        have h := h y2 ey2
        show WP _ _ _ _ _ _ _ _ [(2, t), (0, x1), (0, x2), (0, x3), (0, x4), (0, x5), (0, y2)] _ _ _ _
        refine r_goto (tgt := 49) d_X12_puts__95 rfl ?_
        exact h
      · have h := h.2 hc
        refine r_iload (x := x6) d_X12_puts__78 rfl ?_
        refine r_iload (x := x4) d_X12_puts__80 rfl ?_
        refine r_ic_ne (tgt := 89) d_X12_puts__82 rfl (fun hc => ?_) (fun hc => ?_)
        · have h := h.1 hc
          refine r_iload (x := x6) d_X12_puts__89 rfl ?_
          refine x_iast d_X12_puts__91 h.1 ?_
          have h := h.2
          refine r_nmM (fun τ3 eτ3 => ?_)
          have h := h τ3 eτ3
          refine x_iinc (x := x6) (L := [(2, t), (0, x1), (0, x2), (0, x3), (0, x4), (0, x5), (0, x6)]) d_X12_puts__92 rfl (by decide) rfl (fun y4 ey4 => ?_)
          have h := h y4 ey4
          show WP _ _ _ _ _ _ _ _ [(2, t), (0, x1), (0, x2), (0, x3), (0, x4), (0, x5), (0, y4)] _ _ _ _
          refine r_goto (tgt := 49) d_X12_puts__95 rfl ?_
          exact h
        · have h := h.2 hc
          refine r_iload_n (x := x3) d_X12_puts__85 rfl ?_
          refine r_goto (tgt := 91) d_X12_puts__86 rfl ?_
          refine x_iast d_X12_puts__91 h.1 ?_
          have h := h.2
          refine r_nmM (fun τ5 eτ5 => ?_)
          have h := h τ5 eτ5
          refine x_iinc (x := x6) (L := [(2, t), (0, x1), (0, x2), (0, x3), (0, x4), (0, x5), (0, x6)]) d_X12_puts__92 rfl (by decide) rfl (fun y6 ey6 => ?_)
          have h := h y6 ey6
          show WP _ _ _ _ _ _ _ _ [(2, t), (0, x1), (0, x2), (0, x3), (0, x4), (0, x5), (0, y6)] _ _ _ _
          refine r_goto (tgt := 49) d_X12_puts__95 rfl ?_
          exact h
    · have h := h.2 hc
      refine r_iload (x := x4) d_X12_puts__68 rfl ?_
      refine r_goto (tgt := 91) d_X12_puts__70 rfl ?_
      refine x_iast d_X12_puts__91 h.1 ?_
      have h := h.2
      refine r_nmM (fun τ7 eτ7 => ?_)
      have h := h τ7 eτ7
      refine x_iinc (x := x6) (L := [(2, t), (0, x1), (0, x2), (0, x3), (0, x4), (0, x5), (0, x6)]) d_X12_puts__92 rfl (by decide) rfl (fun y8 ey8 => ?_)
      have h := h y8 ey8
      show WP _ _ _ _ _ _ _ _ [(2, t), (0, x1), (0, x2), (0, x3), (0, x4), (0, x5), (0, y8)] _ _ _ _
      refine r_goto (tgt := 49) d_X12_puts__95 rfl ?_
      exact h
theorem v_X12_puts__101 {l : Launch} {d N : Nat} {Λ : Lay} {P : Int → Mem → Prop} {σ : Mem} {x1 x2 x3 x4 x5 x6 t t_row : Int} (o_t : Ob N Λ t 21 36) (f_t_row : (Λ t).2.2 17 = t_row) (h0d : 1 ≤ d)
    (h : (CI l mX12_many (d - 1) [(2, t), (0, 1)] N Λ σ (fun v2 σ1 => ((v2 ≤ x6 → (CI l mX12_ends (d - 1) [(2, t), (0, x1)] N Λ σ1 (fun v4 σ3 => P v4 σ3))) ∧ (¬ (v2 ≤ x6) → (CI l mX12_key (d - 1) [(2, t), (0, 1), (0, x6)] N Λ σ1 (fun v6 σ5 => (CI l mX12_number (d - 1) [(2, t), (0, 1), (0, x6)] N Λ σ5 (fun v8 σ7 => (CV l mX12_putsOther (d - 1) [(2, t), (0, v6), (0, v8), (2, t_row)] N Λ σ7 (fun σ9 => (∀ y10, y10 = addI x6 1 → WI l mX12_puts_ d P 101 [(2, t), (0, x1), (0, x2), (0, x3), (0, x4), (0, x5), (0, y10)] [] N Λ σ9)))))))))))) :
    WI l mX12_puts_ d P 101 [(2, t), (0, x1), (0, x2), (0, x3), (0, x4), (0, x5), (0, x6)] [] N Λ σ := by
  refine r_iload (x := x6) d_X12_puts__101 rfl ?_
  refine r_aload_n (x := t) d_X12_puts__103 rfl o_t.1 ?_
  refine r_iconst (x := 1) d_X12_puts__104 ⟨by decide, by decide⟩ ?_
  refine r_callV (Y2 := mX12_many) (d := d - 1) (mc := 0) (ms := 0) (c := t) (As := [(0, 1)]) (S := [(0, x6)]) d_X12_puts__105 ok_mX12_many ml_X12_113 rfl (rmc h0d (by decide)) rm00 (Nat.le_of_ble_eq_true rfl) rfl kX12 o_t.1 o_t.2.1 o_t.2.2.1 o_t.2.2.2 (MC.mono h (fun r N1 Λ1 σ1 hq => ?_))
  obtain ⟨v2, rfl, rfl, rfl, h⟩ := hq
  refine r_ic_ge (tgt := 139) d_X12_puts__108 rfl (fun hc => ?_) (fun hc => ?_)
  · have h := h.1 hc
    refine r_aload_n (x := t) d_X12_puts__139 rfl o_t.1 ?_
    refine r_iload_n (x := x1) d_X12_puts__140 rfl ?_
    refine r_callV (Y2 := mX12_ends) (d := d - 1) (mc := 0) (ms := 0) (c := t) (As := [(0, x1)]) (S := []) d_X12_puts__141 ok_mX12_ends ml_X12_228 rfl (rmc h0d (by decide)) rm00 (Nat.le_of_ble_eq_true rfl) rfl kX12 o_t.1 o_t.2.1 o_t.2.2.1 o_t.2.2.2 (MC.mono h (fun r N1 Λ1 σ3 hq => ?_))
    obtain ⟨v4, rfl, rfl, rfl, h⟩ := hq
    exact r_iret d_X12_puts__144 rfl rfl (Nat.le_refl 0) (Nat.le_refl 0) ⟨_, rfl, rfl, rfl, h⟩
  · have h := h.2 hc
    refine r_aload_n (x := t) d_X12_puts__111 rfl o_t.1 ?_
    refine r_aload_n (x := t) d_X12_puts__112 rfl o_t.1 ?_
    refine r_iconst (x := 1) d_X12_puts__113 ⟨by decide, by decide⟩ ?_
    refine r_iload (x := x6) d_X12_puts__114 rfl ?_
    refine r_callV (Y2 := mX12_key) (d := d - 1) (mc := 0) (ms := 0) (c := t) (As := [(0, 1), (0, x6)]) (S := [(2, t)]) d_X12_puts__116 ok_mX12_key ml_X12_117 rfl (rmc h0d (by decide)) rm00 (Nat.le_of_ble_eq_true rfl) rfl kX12 o_t.1 o_t.2.1 o_t.2.2.1 o_t.2.2.2 (MC.mono h (fun r N1 Λ1 σ5 hq => ?_))
    obtain ⟨v6, rfl, rfl, rfl, h⟩ := hq
    refine r_aload_n (x := t) d_X12_puts__119 rfl o_t.1 ?_
    refine r_iconst (x := 1) d_X12_puts__120 ⟨by decide, by decide⟩ ?_
    refine r_iload (x := x6) d_X12_puts__121 rfl ?_
    refine r_callV (Y2 := mX12_number) (d := d - 1) (mc := 0) (ms := 0) (c := t) (As := [(0, 1), (0, x6)]) (S := [(0, v6), (2, t)]) d_X12_puts__123 ok_mX12_number ml_X12_132 rfl (rmc h0d (by decide)) rm00 (Nat.le_of_ble_eq_true rfl) rfl kX12 o_t.1 o_t.2.1 o_t.2.2.1 o_t.2.2.2 (MC.mono h (fun r N1 Λ1 σ7 hq => ?_))
    obtain ⟨v8, rfl, rfl, rfl, h⟩ := hq
    refine r_aload_n (x := t) d_X12_puts__126 rfl o_t.1 ?_
    refine r_getf (j := 17) (t := 2) (x := t_row) d_X12_puts__127 kX12 (by decide) fl_X12_54 o_t.1 o_t.2.1 o_t.2.2.1 o_t.2.2.2 rfl f_t_row ?_
    refine r_callV (Y2 := mX12_putsOther) (d := d - 1) (mc := 0) (ms := 0) (c := t) (As := [(0, v6), (0, v8), (2, t_row)]) (S := []) d_X12_puts__130 ok_mX12_putsOther ml_X12_234 rfl (rmc h0d (by decide)) rm00 (Nat.le_of_ble_eq_true rfl) rfl kX12 o_t.1 o_t.2.1 o_t.2.2.1 o_t.2.2.2 (MC.mono h (fun r N1 Λ1 σ9 hq => ?_))
    obtain ⟨rfl, rfl, rfl, h⟩ := hq
    refine x_iinc (x := x6) (L := [(2, t), (0, x1), (0, x2), (0, x3), (0, x4), (0, x5), (0, x6)]) d_X12_puts__133 rfl (by decide) rfl (fun y10 ey10 => ?_)
    have h := h y10 ey10
    show WP _ _ _ _ _ _ _ _ [(2, t), (0, x1), (0, x2), (0, x3), (0, x4), (0, x5), (0, y10)] _ _ _ _
    refine r_goto (tgt := 101) d_X12_puts__136 rfl ?_
    exact h
theorem v_X12_put_0 {l : Launch} {d N : Nat} {Λ : Lay} {P : Int → Mem → Prop} {σ : Mem} {x1 x2 x3 x4 t : Int} (o_t : Ob N Λ t 21 36) (h0d : 1 ≤ d)
    (h : (∀ τ1, τ1 = st σ t 0 0 → (CI l mX12_puts_ (d - 1) [(2, t), (0, x1), (0, x2), (0, x3), (0, x4), (0, 0)] N Λ τ1 (fun v3 σ2 => P v3 σ2)))) :
    WI l mX12_put d P 0 [(2, t), (0, x1), (0, x2), (0, x3), (0, x4)] [] N Λ σ := by
  refine r_aload_n (x := t) d_X12_put_0 rfl o_t.1 ?_
  refine r_iconst (x := 0) d_X12_put_1 ⟨by decide, by decide⟩ ?_
  refine r_putI (j := 0) d_X12_put_2 kX12 (by decide) fl_X12_1 rfl o_t.1 o_t.2.1 o_t.2.2.1 o_t.2.2.2 rfl ?_
  refine r_nmM (fun τ1 eτ1 => ?_)
  have h := h τ1 eτ1
  refine r_aload_n (x := t) d_X12_put_5 rfl o_t.1 ?_
  refine r_iload_n (x := x1) d_X12_put_6 rfl ?_
  refine r_iload_n (x := x2) d_X12_put_7 rfl ?_
  refine r_iload_n (x := x3) d_X12_put_8 rfl ?_
  refine r_iload (x := x4) d_X12_put_9 rfl ?_
  refine r_iconst (x := 0) d_X12_put_11 ⟨by decide, by decide⟩ ?_
  refine r_callV (Y2 := mX12_puts_) (d := d - 1) (mc := 0) (ms := 0) (c := t) (As := [(0, x1), (0, x2), (0, x3), (0, x4), (0, 0)]) (S := []) d_X12_put_12 ok_mX12_puts_ ml_X12_238 rfl (rmc h0d (by decide)) rm00 (Nat.le_of_ble_eq_true rfl) rfl kX12 o_t.1 o_t.2.1 o_t.2.2.1 o_t.2.2.2 (MC.mono h (fun r N1 Λ1 σ2 hq => ?_))
  obtain ⟨v3, rfl, rfl, rfl, h⟩ := hq
  exact r_iret d_X12_put_15 rfl rfl (Nat.le_refl 0) (Nat.le_refl 0) ⟨_, rfl, rfl, rfl, h⟩
theorem v_X12_turn_0 {l : Launch} {d N : Nat} {Λ : Lay} {P : Int → Mem → Prop} {σ : Mem} {x1 x2 x3 x4 t : Int} (o_t : Ob N Λ t 21 36) (h0d : 1 ≤ d)
    (h : (∀ τ1, τ1 = st σ t 0 0 → (CI l mX12_puts_ (d - 1) [(2, t), (0, x1), (0, x2), (0, x3), (0, x4), (0, 1)] N Λ τ1 (fun v3 σ2 => P v3 σ2)))) :
    WI l mX12_turn d P 0 [(2, t), (0, x1), (0, x2), (0, x3), (0, x4)] [] N Λ σ := by
  refine r_aload_n (x := t) d_X12_turn_0 rfl o_t.1 ?_
  refine r_iconst (x := 0) d_X12_turn_1 ⟨by decide, by decide⟩ ?_
  refine r_putI (j := 0) d_X12_turn_2 kX12 (by decide) fl_X12_1 rfl o_t.1 o_t.2.1 o_t.2.2.1 o_t.2.2.2 rfl ?_
  refine r_nmM (fun τ1 eτ1 => ?_)
  have h := h τ1 eτ1
  refine r_aload_n (x := t) d_X12_turn_5 rfl o_t.1 ?_
  refine r_iload_n (x := x1) d_X12_turn_6 rfl ?_
  refine r_iload_n (x := x2) d_X12_turn_7 rfl ?_
  refine r_iload_n (x := x3) d_X12_turn_8 rfl ?_
  refine r_iload (x := x4) d_X12_turn_9 rfl ?_
  refine r_iconst (x := 1) d_X12_turn_11 ⟨by decide, by decide⟩ ?_
  refine r_callV (Y2 := mX12_puts_) (d := d - 1) (mc := 0) (ms := 0) (c := t) (As := [(0, x1), (0, x2), (0, x3), (0, x4), (0, 1)]) (S := []) d_X12_turn_12 ok_mX12_puts_ ml_X12_238 rfl (rmc h0d (by decide)) rm00 (Nat.le_of_ble_eq_true rfl) rfl kX12 o_t.1 o_t.2.1 o_t.2.2.1 o_t.2.2.2 (MC.mono h (fun r N1 Λ1 σ2 hq => ?_))
  obtain ⟨v3, rfl, rfl, rfl, h⟩ := hq
  exact r_iret d_X12_turn_15 rfl rfl (Nat.le_refl 0) (Nat.le_refl 0) ⟨_, rfl, rfl, rfl, h⟩
theorem v_X12_straight_0 {l : Launch} {d N : Nat} {Λ : Lay} {P : Int → Mem → Prop} {σ : Mem} {x1 x2 t : Int} (o_t : Ob N Λ t 21 36) (h0d : 1 ≤ d)
    (h : (∀ τ1, τ1 = st σ t 0 0 → (CI l mX12_isShelf (d - 1) [(0, x1)] N Λ τ1 (fun v3 σ2 => ((v3 = 0 → (CI l mX12_refused (d - 1) [(2, t), (0, (-2))] N Λ σ2 (fun v5 σ4 => P v5 σ4))) ∧ (¬ (v3 = 0) → (CI l mX12_isShelf (d - 1) [(0, x2)] N Λ σ2 (fun v7 σ6 => ((¬ v7 = 0 → (CV l mX12_begins (d - 1) [(2, t)] N Λ σ6 (fun σ8 => (CV l mX12_takes (d - 1) [(2, t), (0, x2), (0, 0)] N Λ σ8 (fun σ9 => (CI l mX12_straightens (d - 1) [(2, t), (0, 0)] N Λ σ9 (fun v11 σ10 => (CI l mX12_ends (d - 1) [(2, t), (0, x1)] N Λ σ10 (fun v13 σ12 => P v13 σ12))))))))) ∧ (v7 = 0 → (CI l mX12_refused (d - 1) [(2, t), (0, (-2))] N Λ σ6 (fun v15 σ14 => P v15 σ14)))))))))))) :
    WI l mX12_straight d P 0 [(2, t), (0, x1), (0, x2), (3, 0)] [] N Λ σ := by
  refine r_aload_n (x := t) d_X12_straight_0 rfl o_t.1 ?_
  refine r_iconst (x := 0) d_X12_straight_1 ⟨by decide, by decide⟩ ?_
  refine r_putI (j := 0) d_X12_straight_2 kX12 (by decide) fl_X12_1 rfl o_t.1 o_t.2.1 o_t.2.2.1 o_t.2.2.2 rfl ?_
  refine r_nmM (fun τ1 eτ1 => ?_)
  have h := h τ1 eτ1
  refine r_iload_n (x := x1) d_X12_straight_5 rfl ?_
  refine r_callS (Y2 := mX12_isShelf) (d := d - 1) (mc := 0) (ms := 0) (As := [(0, x1)]) (S := []) d_X12_straight_6 ok_mX12_isShelf ml_X12_199 rfl (rmc h0d (by decide)) rm00 (Nat.le_of_ble_eq_true rfl) rfl (MC.mono h (fun r N1 Λ1 σ2 hq => ?_))
  obtain ⟨v3, rfl, rfl, rfl, h⟩ := hq
  refine r_if_eq (tgt := 19) d_X12_straight_9 rfl (fun hc => ?_) (fun hc => ?_)
  · have h := h.1 hc
    refine r_aload_n (x := t) d_X12_straight_19 rfl o_t.1 ?_
    refine r_bipush (x := (-2)) d_X12_straight_20 ⟨by decide, by decide⟩ (by decide) ?_
    refine r_callV (Y2 := mX12_refused) (d := d - 1) (mc := 0) (ms := 0) (c := t) (As := [(0, (-2))]) (S := []) d_X12_straight_22 ok_mX12_refused ml_X12_218 rfl (rmc h0d (by decide)) rm00 (Nat.le_of_ble_eq_true rfl) rfl kX12 o_t.1 o_t.2.1 o_t.2.2.1 o_t.2.2.2 (MC.mono h (fun r N1 Λ1 σ4 hq => ?_))
    obtain ⟨v5, rfl, rfl, rfl, h⟩ := hq
    exact r_iret d_X12_straight_25 rfl rfl (Nat.le_refl 0) (Nat.le_refl 0) ⟨_, rfl, rfl, rfl, h⟩
  · have h := h.2 hc
    refine r_iload_n (x := x2) d_X12_straight_12 rfl ?_
    refine r_callS (Y2 := mX12_isShelf) (d := d - 1) (mc := 0) (ms := 0) (As := [(0, x2)]) (S := []) d_X12_straight_13 ok_mX12_isShelf ml_X12_199 rfl (rmc h0d (by decide)) rm00 (Nat.le_of_ble_eq_true rfl) rfl (MC.mono h (fun r N1 Λ1 σ6 hq => ?_))
    obtain ⟨v7, rfl, rfl, rfl, h⟩ := hq
    refine r_if_ne (tgt := 26) d_X12_straight_16 rfl (fun hc => ?_) (fun hc => ?_)
    · have h := h.1 hc
      refine r_aload_n (x := t) d_X12_straight_26 rfl o_t.1 ?_
      refine r_callV (Y2 := mX12_begins) (d := d - 1) (mc := 0) (ms := 0) (c := t) (As := []) (S := []) d_X12_straight_27 ok_mX12_begins ml_X12_202 rfl (rmc h0d (by decide)) rm00 (Nat.le_of_ble_eq_true rfl) rfl kX12 o_t.1 o_t.2.1 o_t.2.2.1 o_t.2.2.2 (MC.mono h (fun r N1 Λ1 σ8 hq => ?_))
      obtain ⟨rfl, rfl, rfl, h⟩ := hq
      refine r_aload_n (x := t) d_X12_straight_30 rfl o_t.1 ?_
      refine r_iload_n (x := x2) d_X12_straight_31 rfl ?_
      refine r_iconst (x := 0) d_X12_straight_32 ⟨by decide, by decide⟩ ?_
      refine r_callV (Y2 := mX12_takes) (d := d - 1) (mc := 0) (ms := 0) (c := t) (As := [(0, x2), (0, 0)]) (S := []) d_X12_straight_33 ok_mX12_takes ml_X12_205 rfl (rmc h0d (by decide)) rm00 (Nat.le_of_ble_eq_true rfl) rfl kX12 o_t.1 o_t.2.1 o_t.2.2.1 o_t.2.2.2 (MC.mono h (fun r N1 Λ1 σ9 hq => ?_))
      obtain ⟨rfl, rfl, rfl, h⟩ := hq
      refine r_aload_n (x := t) d_X12_straight_36 rfl o_t.1 ?_
      refine r_iconst (x := 0) d_X12_straight_37 ⟨by decide, by decide⟩ ?_
      refine r_callV (Y2 := mX12_straightens) (d := d - 1) (mc := 0) (ms := 0) (c := t) (As := [(0, 0)]) (S := []) d_X12_straight_38 ok_mX12_straightens ml_X12_241 rfl (rmc h0d (by decide)) rm00 (Nat.le_of_ble_eq_true rfl) rfl kX12 o_t.1 o_t.2.1 o_t.2.2.1 o_t.2.2.2 (MC.mono h (fun r N1 Λ1 σ10 hq => ?_))
      obtain ⟨v11, rfl, rfl, rfl, h⟩ := hq
      refine r_istore_n (L2 := [(2, t), (0, x1), (0, x2), (0, v11)]) d_X12_straight_41 (by decide) rfl rfl ?_
      refine r_aload_n (x := t) d_X12_straight_42 rfl o_t.1 ?_
      refine r_iload_n (x := x1) d_X12_straight_43 rfl ?_
      refine r_callV (Y2 := mX12_ends) (d := d - 1) (mc := 0) (ms := 0) (c := t) (As := [(0, x1)]) (S := []) d_X12_straight_44 ok_mX12_ends ml_X12_228 rfl (rmc h0d (by decide)) rm00 (Nat.le_of_ble_eq_true rfl) rfl kX12 o_t.1 o_t.2.1 o_t.2.2.1 o_t.2.2.2 (MC.mono h (fun r N1 Λ1 σ12 hq => ?_))
      obtain ⟨v13, rfl, rfl, rfl, h⟩ := hq
      exact r_iret d_X12_straight_47 rfl rfl (Nat.le_refl 0) (Nat.le_refl 0) ⟨_, rfl, rfl, rfl, h⟩
    · have h := h.2 hc
      refine r_aload_n (x := t) d_X12_straight_19 rfl o_t.1 ?_
      refine r_bipush (x := (-2)) d_X12_straight_20 ⟨by decide, by decide⟩ (by decide) ?_
      refine r_callV (Y2 := mX12_refused) (d := d - 1) (mc := 0) (ms := 0) (c := t) (As := [(0, (-2))]) (S := []) d_X12_straight_22 ok_mX12_refused ml_X12_218 rfl (rmc h0d (by decide)) rm00 (Nat.le_of_ble_eq_true rfl) rfl kX12 o_t.1 o_t.2.1 o_t.2.2.1 o_t.2.2.2 (MC.mono h (fun r N1 Λ1 σ14 hq => ?_))
      obtain ⟨v15, rfl, rfl, rfl, h⟩ := hq
      exact r_iret d_X12_straight_25 rfl rfl (Nat.le_refl 0) (Nat.le_refl 0) ⟨_, rfl, rfl, rfl, h⟩
theorem v_X12_factOf_0 {l : Launch} {d N : Nat} {Λ : Lay} {P : Int → Mem → Prop} {σ : Mem} {x1 t t_state : Int} (o_t : Ob N Λ t 21 36) (f_t_state : (Λ t).2.2 3 = t_state)
    (h : (Ix N Λ t_state 0 (subI (addI 996 x1) 1) ∧ P (σ t_state (subI (addI 996 x1) 1)) σ)) :
    WI l mX12_factOf d P 0 [(2, t), (0, x1)] [] N Λ σ := by
  refine r_aload_n (x := t) d_X12_factOf_0 rfl o_t.1 ?_
  refine r_getf (j := 3) (t := 2) (x := t_state) d_X12_factOf_1 kX12 (by decide) fl_X12_20 o_t.1 o_t.2.1 o_t.2.2.1 o_t.2.2.2 rfl f_t_state ?_
  refine r_sipush (x := 996) d_X12_factOf_4 ⟨by decide, by decide⟩ (by decide) ?_
  refine r_iload_n (x := x1) d_X12_factOf_7 rfl ?_
  refine r_iadd d_X12_factOf_8 ?_
  refine r_iconst (x := 1) d_X12_factOf_9 ⟨by decide, by decide⟩ ?_
  refine r_isub d_X12_factOf_10 ?_
  refine x_iald d_X12_factOf_11 h.1 ?_
  have h := h.2
  exact r_iret d_X12_factOf_12 rfl rfl (Nat.le_refl 0) (Nat.le_refl 0) ⟨_, rfl, rfl, rfl, h⟩
theorem v_X12_reduces_0 {l : Launch} {d N : Nat} {Λ : Lay} {P : Mem → Prop} {σ : Mem} {x1 t : Int} (o_t : Ob N Λ t 21 36) (h0d : 1 ≤ d)
    (h : (CV l mX12_takes (d - 1) [(2, t), (0, x1), (0, 1)] N Λ σ (fun σ1 => WV l mX12_reduces d P 8 [(2, t), (0, x1), (0, 0), (3, 0), (3, 0)] [] N Λ σ1))) :
    WV l mX12_reduces d P 0 [(2, t), (0, x1), (3, 0), (3, 0), (3, 0)] [] N Λ σ := by
  refine r_aload_n (x := t) d_X12_reduces_0 rfl o_t.1 ?_
  refine r_iload_n (x := x1) d_X12_reduces_1 rfl ?_
  refine r_iconst (x := 1) d_X12_reduces_2 ⟨by decide, by decide⟩ ?_
  refine r_callV (Y2 := mX12_takes) (d := d - 1) (mc := 0) (ms := 0) (c := t) (As := [(0, x1), (0, 1)]) (S := []) d_X12_reduces_3 ok_mX12_takes ml_X12_205 rfl (rmc h0d (by decide)) rm00 (Nat.le_of_ble_eq_true rfl) rfl kX12 o_t.1 o_t.2.1 o_t.2.2.1 o_t.2.2.2 (MC.mono h (fun r N1 Λ1 σ1 hq => ?_))
  obtain ⟨rfl, rfl, rfl, h⟩ := hq
  refine r_iconst (x := 0) d_X12_reduces_6 ⟨by decide, by decide⟩ ?_
  refine r_istore_n (L2 := [(2, t), (0, x1), (0, 0), (3, 0), (3, 0)]) d_X12_reduces_7 (by decide) rfl rfl ?_
  exact h
theorem v_X12_reduces_8 {l : Launch} {d N : Nat} {Λ : Lay} {P : Mem → Prop} {σ : Mem} {x1 x2 t : Int} (o_t : Ob N Λ t 21 36) (h0d : 1 ≤ d)
    (h : (CI l mX12_many (d - 1) [(2, t), (0, 1)] N Λ σ (fun v2 σ1 => ((v2 ≤ x2 → P σ1) ∧ (¬ (v2 ≤ x2) → WV l mX12_reduces d P 22 [(2, t), (0, x1), (0, x2), (0, 1), (0, 0)] [] N Λ σ1))))) :
    WV l mX12_reduces d P 8 [(2, t), (0, x1), (0, x2), (3, 0), (3, 0)] [] N Λ σ := by
  refine r_iload_n (x := x2) d_X12_reduces_8 rfl ?_
  refine r_aload_n (x := t) d_X12_reduces_9 rfl o_t.1 ?_
  refine r_iconst (x := 1) d_X12_reduces_10 ⟨by decide, by decide⟩ ?_
  refine r_callV (Y2 := mX12_many) (d := d - 1) (mc := 0) (ms := 0) (c := t) (As := [(0, 1)]) (S := [(0, x2)]) d_X12_reduces_11 ok_mX12_many ml_X12_113 rfl (rmc h0d (by decide)) rm00 (Nat.le_of_ble_eq_true rfl) rfl kX12 o_t.1 o_t.2.1 o_t.2.2.1 o_t.2.2.2 (MC.mono h (fun r N1 Λ1 σ1 hq => ?_))
  obtain ⟨v2, rfl, rfl, rfl, h⟩ := hq
  refine r_ic_ge (tgt := 99) d_X12_reduces_14 rfl (fun hc => ?_) (fun hc => ?_)
  · have h := h.1 hc
    exact r_vret d_X12_reduces_99 rfl (Nat.le_refl 0) (Nat.le_refl 0) ⟨rfl, rfl, rfl, h⟩
  · have h := h.2 hc
    refine r_iconst (x := 1) d_X12_reduces_17 ⟨by decide, by decide⟩ ?_
    refine r_istore_n (L2 := [(2, t), (0, x1), (0, x2), (0, 1), (3, 0)]) d_X12_reduces_18 (by decide) rfl rfl ?_
    refine r_iconst (x := 0) d_X12_reduces_19 ⟨by decide, by decide⟩ ?_
    refine r_istore (L2 := [(2, t), (0, x1), (0, x2), (0, 1), (0, 0)]) d_X12_reduces_20 (by decide) rfl rfl ?_
    exact h
theorem v_X12_reduces_22 {l : Launch} {d N : Nat} {Λ : Lay} {P : Mem → Prop} {σ : Mem} {x1 x2 x3 x4 t : Int} (o_t : Ob N Λ t 21 36) (h0d : 1 ≤ d)
    (h : (CI l mX12_key (d - 1) [(2, t), (0, 1), (0, x2)] N Λ σ (fun v2 σ1 => (CI l mX12_degreeOf (d - 1) [(0, v2)] N Λ σ1 (fun v4 σ3 => ((v4 ≤ x4 → ((x3 = 0 → (∀ y5, y5 = addI x2 1 → WV l mX12_reduces d P 8 [(2, t), (0, x1), (0, y5), (3, 0), (3, 0)] [] N Λ σ3)) ∧ (¬ (x3 = 0) → (CI l mX12_key (d - 1) [(2, t), (0, 1), (0, x2)] N Λ σ3 (fun v7 σ6 => (CI l mX12_number (d - 1) [(2, t), (0, 1), (0, x2)] N Λ σ6 (fun v9 σ8 => (CI l mX12_puts (d - 1) [(2, t), (0, 0), (0, v7), (1, v9)] N Λ σ8 (fun v11 σ10 => (∀ y12, y12 = addI x2 1 → WV l mX12_reduces d P 8 [(2, t), (0, x1), (0, y12), (3, 0), (3, 0)] [] N Λ σ10)))))))))) ∧ (¬ (v4 ≤ x4) → ((x3 = 0 → (∀ y13, y13 = addI x4 1 → WV l mX12_reduces d P 22 [(2, t), (0, x1), (0, x2), (0, 0), (0, y13)] [] N Λ σ3)) ∧ (¬ (x3 = 0) → (CI l mX12_key (d - 1) [(2, t), (0, 1), (0, x2)] N Λ σ3 (fun v15 σ14 => (CI l mX12_rankIn (d - 1) [(0, v15), (0, x4)] N Λ σ14 (fun v17 σ16 => (CI l mX12_factOf (d - 1) [(2, t), (0, v17)] N Λ σ16 (fun v19 σ18 => ((v19 = 0 → (∀ y20, y20 = addI x4 1 → WV l mX12_reduces d P 22 [(2, t), (0, x1), (0, x2), (0, 0), (0, y20)] [] N Λ σ18)) ∧ (¬ (v19 = 0) → (∀ y21, y21 = addI x4 1 → WV l mX12_reduces d P 22 [(2, t), (0, x1), (0, x2), (0, 1), (0, y21)] [] N Λ σ18)))))))))))))))))) :
    WV l mX12_reduces d P 22 [(2, t), (0, x1), (0, x2), (0, x3), (0, x4)] [] N Λ σ := by
  refine r_iload (x := x4) d_X12_reduces_22 rfl ?_
  refine r_aload_n (x := t) d_X12_reduces_24 rfl o_t.1 ?_
  refine r_iconst (x := 1) d_X12_reduces_25 ⟨by decide, by decide⟩ ?_
  refine r_iload_n (x := x2) d_X12_reduces_26 rfl ?_
  refine r_callV (Y2 := mX12_key) (d := d - 1) (mc := 0) (ms := 0) (c := t) (As := [(0, 1), (0, x2)]) (S := [(0, x4)]) d_X12_reduces_27 ok_mX12_key ml_X12_117 rfl (rmc h0d (by decide)) rm00 (Nat.le_of_ble_eq_true rfl) rfl kX12 o_t.1 o_t.2.1 o_t.2.2.1 o_t.2.2.2 (MC.mono h (fun r N1 Λ1 σ1 hq => ?_))
  obtain ⟨v2, rfl, rfl, rfl, h⟩ := hq
  refine r_callS (Y2 := mX12_degreeOf) (d := d - 1) (mc := 0) (ms := 0) (As := [(0, v2)]) (S := [(0, x4)]) d_X12_reduces_30 ok_mX12_degreeOf ml_X12_138 rfl (rmc h0d (by decide)) rm00 (Nat.le_of_ble_eq_true rfl) rfl (MC.mono h (fun r N1 Λ1 σ3 hq => ?_))
  obtain ⟨v4, rfl, rfl, rfl, h⟩ := hq
  refine r_ic_ge (tgt := 70) d_X12_reduces_33 rfl (fun hc => ?_) (fun hc => ?_)
  · have h := h.1 hc
    refine r_iload_n (x := x3) d_X12_reduces_70 rfl ?_
    refine r_if_eq (tgt := 93) d_X12_reduces_71 rfl (fun hc => ?_) (fun hc => ?_)
    · have h := h.1 hc
      refine x_iinc (x := x2) (L := [(2, t), (0, x1), (0, x2), (0, x3), (0, x4)]) d_X12_reduces_93 rfl (by decide) rfl (fun y5 ey5 => ?_)
      have h := h y5 ey5
      show WP _ _ _ _ _ _ _ _ [(2, t), (0, x1), (0, y5), (0, x3), (0, x4)] _ _ _ _
      refine r_goto (tgt := 8) d_X12_reduces_96 rfl ?_
      exact x_mask h ⟨Or.inr rfl, Or.inr rfl, Or.inr rfl, Or.inl rfl, Or.inl rfl, trivial⟩
    · have h := h.2 hc
      refine r_aload_n (x := t) d_X12_reduces_74 rfl o_t.1 ?_
      refine r_iconst (x := 0) d_X12_reduces_75 ⟨by decide, by decide⟩ ?_
      refine r_aload_n (x := t) d_X12_reduces_76 rfl o_t.1 ?_
      refine r_iconst (x := 1) d_X12_reduces_77 ⟨by decide, by decide⟩ ?_
      refine r_iload_n (x := x2) d_X12_reduces_78 rfl ?_
      refine r_callV (Y2 := mX12_key) (d := d - 1) (mc := 0) (ms := 0) (c := t) (As := [(0, 1), (0, x2)]) (S := [(0, 0), (2, t)]) d_X12_reduces_79 ok_mX12_key ml_X12_117 rfl (rmc h0d (by decide)) rm00 (Nat.le_of_ble_eq_true rfl) rfl kX12 o_t.1 o_t.2.1 o_t.2.2.1 o_t.2.2.2 (MC.mono h (fun r N1 Λ1 σ6 hq => ?_))
      obtain ⟨v7, rfl, rfl, rfl, h⟩ := hq
      refine r_aload_n (x := t) d_X12_reduces_82 rfl o_t.1 ?_
      refine r_iconst (x := 1) d_X12_reduces_83 ⟨by decide, by decide⟩ ?_
      refine r_iload_n (x := x2) d_X12_reduces_84 rfl ?_
      refine r_callV (Y2 := mX12_number) (d := d - 1) (mc := 0) (ms := 0) (c := t) (As := [(0, 1), (0, x2)]) (S := [(0, v7), (0, 0), (2, t)]) d_X12_reduces_85 ok_mX12_number ml_X12_132 rfl (rmc h0d (by decide)) rm00 (Nat.le_of_ble_eq_true rfl) rfl kX12 o_t.1 o_t.2.1 o_t.2.2.1 o_t.2.2.2 (MC.mono h (fun r N1 Λ1 σ8 hq => ?_))
      obtain ⟨v9, rfl, rfl, rfl, h⟩ := hq
      refine r_i2l d_X12_reduces_88 ?_
      refine r_callV (Y2 := mX12_puts) (d := d - 1) (mc := 0) (ms := 0) (c := t) (As := [(0, 0), (0, v7), (1, v9)]) (S := []) d_X12_reduces_89 ok_mX12_puts ml_X12_147 rfl (rmc h0d (by decide)) rm00 (Nat.le_of_ble_eq_true rfl) rfl kX12 o_t.1 o_t.2.1 o_t.2.2.1 o_t.2.2.2 (MC.mono h (fun r N1 Λ1 σ10 hq => ?_))
      obtain ⟨v11, rfl, rfl, rfl, h⟩ := hq
      refine r_pop d_X12_reduces_92 rfl ?_
      refine x_iinc (x := x2) (L := [(2, t), (0, x1), (0, x2), (0, x3), (0, x4)]) d_X12_reduces_93 rfl (by decide) rfl (fun y12 ey12 => ?_)
      have h := h y12 ey12
      show WP _ _ _ _ _ _ _ _ [(2, t), (0, x1), (0, y12), (0, x3), (0, x4)] _ _ _ _
      refine r_goto (tgt := 8) d_X12_reduces_96 rfl ?_
      exact x_mask h ⟨Or.inr rfl, Or.inr rfl, Or.inr rfl, Or.inl rfl, Or.inl rfl, trivial⟩
  · have h := h.2 hc
    refine r_iload_n (x := x3) d_X12_reduces_36 rfl ?_
    refine r_if_eq (tgt := 62) d_X12_reduces_37 rfl (fun hc => ?_) (fun hc => ?_)
    · have h := h.1 hc
      refine r_iconst (x := 0) d_X12_reduces_62 ⟨by decide, by decide⟩ ?_
      refine r_istore_n (L2 := [(2, t), (0, x1), (0, x2), (0, 0), (0, x4)]) d_X12_reduces_63 (by decide) rfl rfl ?_
      refine x_iinc (x := x4) (L := [(2, t), (0, x1), (0, x2), (0, 0), (0, x4)]) d_X12_reduces_64 rfl (by decide) rfl (fun y13 ey13 => ?_)
      have h := h y13 ey13
      show WP _ _ _ _ _ _ _ _ [(2, t), (0, x1), (0, x2), (0, 0), (0, y13)] _ _ _ _
      refine r_goto (tgt := 22) d_X12_reduces_67 rfl ?_
      exact h
    · have h := h.2 hc
      refine r_aload_n (x := t) d_X12_reduces_40 rfl o_t.1 ?_
      refine r_aload_n (x := t) d_X12_reduces_41 rfl o_t.1 ?_
      refine r_iconst (x := 1) d_X12_reduces_42 ⟨by decide, by decide⟩ ?_
      refine r_iload_n (x := x2) d_X12_reduces_43 rfl ?_
      refine r_callV (Y2 := mX12_key) (d := d - 1) (mc := 0) (ms := 0) (c := t) (As := [(0, 1), (0, x2)]) (S := [(2, t)]) d_X12_reduces_44 ok_mX12_key ml_X12_117 rfl (rmc h0d (by decide)) rm00 (Nat.le_of_ble_eq_true rfl) rfl kX12 o_t.1 o_t.2.1 o_t.2.2.1 o_t.2.2.2 (MC.mono h (fun r N1 Λ1 σ14 hq => ?_))
      obtain ⟨v15, rfl, rfl, rfl, h⟩ := hq
      refine r_iload (x := x4) d_X12_reduces_47 rfl ?_
      refine r_callS (Y2 := mX12_rankIn) (d := d - 1) (mc := 0) (ms := 0) (As := [(0, v15), (0, x4)]) (S := [(2, t)]) d_X12_reduces_49 ok_mX12_rankIn ml_X12_135 rfl (rmc h0d (by decide)) rm00 (Nat.le_of_ble_eq_true rfl) rfl (MC.mono h (fun r N1 Λ1 σ16 hq => ?_))
      obtain ⟨v17, rfl, rfl, rfl, h⟩ := hq
      refine r_callV (Y2 := mX12_factOf) (d := d - 1) (mc := 0) (ms := 0) (c := t) (As := [(0, v17)]) (S := []) d_X12_reduces_52 ok_mX12_factOf ml_X12_244 rfl (rmc h0d (by decide)) rm00 (Nat.le_of_ble_eq_true rfl) rfl kX12 o_t.1 o_t.2.1 o_t.2.2.1 o_t.2.2.2 (MC.mono h (fun r N1 Λ1 σ18 hq => ?_))
      obtain ⟨v19, rfl, rfl, rfl, h⟩ := hq
      refine r_if_eq (tgt := 62) d_X12_reduces_55 rfl (fun hc => ?_) (fun hc => ?_)
      · have h := h.1 hc
        refine r_iconst (x := 0) d_X12_reduces_62 ⟨by decide, by decide⟩ ?_
        refine r_istore_n (L2 := [(2, t), (0, x1), (0, x2), (0, 0), (0, x4)]) d_X12_reduces_63 (by decide) rfl rfl ?_
        refine x_iinc (x := x4) (L := [(2, t), (0, x1), (0, x2), (0, 0), (0, x4)]) d_X12_reduces_64 rfl (by decide) rfl (fun y20 ey20 => ?_)
        have h := h y20 ey20
        show WP _ _ _ _ _ _ _ _ [(2, t), (0, x1), (0, x2), (0, 0), (0, y20)] _ _ _ _
        refine r_goto (tgt := 22) d_X12_reduces_67 rfl ?_
        exact h
      · have h := h.2 hc
        refine r_iconst (x := 1) d_X12_reduces_58 ⟨by decide, by decide⟩ ?_
        refine r_goto (tgt := 63) d_X12_reduces_59 rfl ?_
        refine r_istore_n (L2 := [(2, t), (0, x1), (0, x2), (0, 1), (0, x4)]) d_X12_reduces_63 (by decide) rfl rfl ?_
        refine x_iinc (x := x4) (L := [(2, t), (0, x1), (0, x2), (0, 1), (0, x4)]) d_X12_reduces_64 rfl (by decide) rfl (fun y21 ey21 => ?_)
        have h := h y21 ey21
        show WP _ _ _ _ _ _ _ _ [(2, t), (0, x1), (0, x2), (0, 1), (0, y21)] _ _ _ _
        refine r_goto (tgt := 22) d_X12_reduces_67 rfl ?_
        exact h
theorem v_X12_reduce_0 {l : Launch} {d N : Nat} {Λ : Lay} {P : Int → Mem → Prop} {σ : Mem} {x1 x2 t : Int} (o_t : Ob N Λ t 21 36) (h0d : 1 ≤ d)
    (h : (∀ τ1, τ1 = st σ t 0 0 → (CI l mX12_isShelf (d - 1) [(0, x1)] N Λ τ1 (fun v3 σ2 => ((v3 = 0 → P (-2) σ2) ∧ (¬ (v3 = 0) → (CI l mX12_isShelf (d - 1) [(0, x2)] N Λ σ2 (fun v5 σ4 => ((¬ v5 = 0 → (CV l mX12_begins (d - 1) [(2, t)] N Λ σ4 (fun σ6 => (CV l mX12_reduces (d - 1) [(2, t), (0, x2)] N Λ σ6 (fun σ7 => (CI l mX12_becomes (d - 1) [(2, t), (0, x1)] N Λ σ7 (fun v9 σ8 => P v9 σ8))))))) ∧ (v5 = 0 → P (-2) σ4)))))))))) :
    WI l mX12_reduce d P 0 [(2, t), (0, x1), (0, x2)] [] N Λ σ := by
  refine r_aload_n (x := t) d_X12_reduce_0 rfl o_t.1 ?_
  refine r_iconst (x := 0) d_X12_reduce_1 ⟨by decide, by decide⟩ ?_
  refine r_putI (j := 0) d_X12_reduce_2 kX12 (by decide) fl_X12_1 rfl o_t.1 o_t.2.1 o_t.2.2.1 o_t.2.2.2 rfl ?_
  refine r_nmM (fun τ1 eτ1 => ?_)
  have h := h τ1 eτ1
  refine r_iload_n (x := x1) d_X12_reduce_5 rfl ?_
  refine r_callS (Y2 := mX12_isShelf) (d := d - 1) (mc := 0) (ms := 0) (As := [(0, x1)]) (S := []) d_X12_reduce_6 ok_mX12_isShelf ml_X12_199 rfl (rmc h0d (by decide)) rm00 (Nat.le_of_ble_eq_true rfl) rfl (MC.mono h (fun r N1 Λ1 σ2 hq => ?_))
  obtain ⟨v3, rfl, rfl, rfl, h⟩ := hq
  refine r_if_eq (tgt := 19) d_X12_reduce_9 rfl (fun hc => ?_) (fun hc => ?_)
  · have h := h.1 hc
    refine r_bipush (x := (-2)) d_X12_reduce_19 ⟨by decide, by decide⟩ (by decide) ?_
    exact r_iret d_X12_reduce_21 rfl rfl (Nat.le_refl 0) (Nat.le_refl 0) ⟨_, rfl, rfl, rfl, h⟩
  · have h := h.2 hc
    refine r_iload_n (x := x2) d_X12_reduce_12 rfl ?_
    refine r_callS (Y2 := mX12_isShelf) (d := d - 1) (mc := 0) (ms := 0) (As := [(0, x2)]) (S := []) d_X12_reduce_13 ok_mX12_isShelf ml_X12_199 rfl (rmc h0d (by decide)) rm00 (Nat.le_of_ble_eq_true rfl) rfl (MC.mono h (fun r N1 Λ1 σ4 hq => ?_))
    obtain ⟨v5, rfl, rfl, rfl, h⟩ := hq
    refine r_if_ne (tgt := 22) d_X12_reduce_16 rfl (fun hc => ?_) (fun hc => ?_)
    · have h := h.1 hc
      refine r_aload_n (x := t) d_X12_reduce_22 rfl o_t.1 ?_
      refine r_callV (Y2 := mX12_begins) (d := d - 1) (mc := 0) (ms := 0) (c := t) (As := []) (S := []) d_X12_reduce_23 ok_mX12_begins ml_X12_202 rfl (rmc h0d (by decide)) rm00 (Nat.le_of_ble_eq_true rfl) rfl kX12 o_t.1 o_t.2.1 o_t.2.2.1 o_t.2.2.2 (MC.mono h (fun r N1 Λ1 σ6 hq => ?_))
      obtain ⟨rfl, rfl, rfl, h⟩ := hq
      refine r_aload_n (x := t) d_X12_reduce_26 rfl o_t.1 ?_
      refine r_iload_n (x := x2) d_X12_reduce_27 rfl ?_
      refine r_callV (Y2 := mX12_reduces) (d := d - 1) (mc := 0) (ms := 0) (c := t) (As := [(0, x2)]) (S := []) d_X12_reduce_28 ok_mX12_reduces ml_X12_247 rfl (rmc h0d (by decide)) rm00 (Nat.le_of_ble_eq_true rfl) rfl kX12 o_t.1 o_t.2.1 o_t.2.2.1 o_t.2.2.2 (MC.mono h (fun r N1 Λ1 σ7 hq => ?_))
      obtain ⟨rfl, rfl, rfl, h⟩ := hq
      refine r_aload_n (x := t) d_X12_reduce_31 rfl o_t.1 ?_
      refine r_iload_n (x := x1) d_X12_reduce_32 rfl ?_
      refine r_callV (Y2 := mX12_becomes) (d := d - 1) (mc := 0) (ms := 0) (c := t) (As := [(0, x1)]) (S := []) d_X12_reduce_33 ok_mX12_becomes ml_X12_190 rfl (rmc h0d (by decide)) rm00 (Nat.le_of_ble_eq_true rfl) rfl kX12 o_t.1 o_t.2.1 o_t.2.2.1 o_t.2.2.2 (MC.mono h (fun r N1 Λ1 σ8 hq => ?_))
      obtain ⟨v9, rfl, rfl, rfl, h⟩ := hq
      exact r_iret d_X12_reduce_36 rfl rfl (Nat.le_refl 0) (Nat.le_refl 0) ⟨_, rfl, rfl, rfl, h⟩
    · have h := h.2 hc
      refine r_bipush (x := (-2)) d_X12_reduce_19 ⟨by decide, by decide⟩ (by decide) ?_
      exact r_iret d_X12_reduce_21 rfl rfl (Nat.le_refl 0) (Nat.le_refl 0) ⟨_, rfl, rfl, rfl, h⟩
theorem v_X12_fact_0 {l : Launch} {d N : Nat} {Λ : Lay} {P : Int → Mem → Prop} {σ : Mem} {x1 x2 x3 x4 t t_rankOf t_state : Int} (o_t : Ob N Λ t 21 36) (f_t_rankOf : (Λ t).2.2 1 = t_rankOf) (f_t_state : (Λ t).2.2 3 = t_state) (h0d : 1 ≤ d)
    (h : (∀ τ1, τ1 = st σ t 0 0 → (CI l mX12_isLetter (d - 1) [(0, x1)] N Λ τ1 (fun v3 σ2 => ((v3 = 0 → P (-2) σ2) ∧ (¬ (v3 = 0) → (CI l mX12_isLetter (d - 1) [(0, x2)] N Λ σ2 (fun v5 σ4 => ((v5 = 0 → P (-2) σ4) ∧ (¬ (v5 = 0) → (CI l mX12_isLetter (d - 1) [(0, x3)] N Λ σ4 (fun v7 σ6 => ((¬ v7 = 0 → (Ix N Λ t_rankOf 0 (addI (addI (mulI 100 x1) (mulI 10 x2)) x3) ∧ (CI l mX12_sizeOf (d - 1) [(0, (σ6 t_rankOf (addI (addI (mulI 100 x1) (mulI 10 x2)) x3)))] N Λ σ6 (fun v9 σ8 => (CI l mX12_within (d - 1) [(1, x4), (1, 0), (1, 2)] N Λ σ8 (fun v11 σ10 => ((v11 = 0 → P (-3) σ10) ∧ (¬ (v11 = 0) → ((¬ v9 = 0 → (CV l mX12_notes (d - 1) [(2, t)] N Λ σ10 (fun σ12 => (CI l mX12_factOf (d - 1) [(2, t), (0, v9)] N Λ σ12 (fun v14 σ13 => (Ix N Λ t_state 0 (subI (addI 996 v9) 1) ∧ (∀ τ15, τ15 = st σ13 t_state (subI (addI 996 v9) 1) x4 → P v14 τ15))))))) ∧ (v9 = 0 → P (-3) σ10)))))))))) ∧ (v7 = 0 → P (-2) σ6)))))))))))))) :
    WI l mX12_fact d P 0 [(2, t), (0, x1), (0, x2), (0, x3), (0, x4), (3, 0), (3, 0)] [] N Λ σ := by
  refine r_aload_n (x := t) d_X12_fact_0 rfl o_t.1 ?_
  refine r_iconst (x := 0) d_X12_fact_1 ⟨by decide, by decide⟩ ?_
  refine r_putI (j := 0) d_X12_fact_2 kX12 (by decide) fl_X12_1 rfl o_t.1 o_t.2.1 o_t.2.2.1 o_t.2.2.2 rfl ?_
  refine r_nmM (fun τ1 eτ1 => ?_)
  have h := h τ1 eτ1
  refine r_iload_n (x := x1) d_X12_fact_5 rfl ?_
  refine r_callS (Y2 := mX12_isLetter) (d := d - 1) (mc := 0) (ms := 0) (As := [(0, x1)]) (S := []) d_X12_fact_6 ok_mX12_isLetter ml_X12_208 rfl (rmc h0d (by decide)) rm00 (Nat.le_of_ble_eq_true rfl) rfl (MC.mono h (fun r N1 Λ1 σ2 hq => ?_))
  obtain ⟨v3, rfl, rfl, rfl, h⟩ := hq
  refine r_if_eq (tgt := 26) d_X12_fact_9 rfl (fun hc => ?_) (fun hc => ?_)
  · have h := h.1 hc
    refine r_bipush (x := (-2)) d_X12_fact_26 ⟨by decide, by decide⟩ (by decide) ?_
    exact r_iret d_X12_fact_28 rfl rfl (Nat.le_refl 0) (Nat.le_refl 0) ⟨_, rfl, rfl, rfl, h⟩
  · have h := h.2 hc
    refine r_iload_n (x := x2) d_X12_fact_12 rfl ?_
    refine r_callS (Y2 := mX12_isLetter) (d := d - 1) (mc := 0) (ms := 0) (As := [(0, x2)]) (S := []) d_X12_fact_13 ok_mX12_isLetter ml_X12_208 rfl (rmc h0d (by decide)) rm00 (Nat.le_of_ble_eq_true rfl) rfl (MC.mono h (fun r N1 Λ1 σ4 hq => ?_))
    obtain ⟨v5, rfl, rfl, rfl, h⟩ := hq
    refine r_if_eq (tgt := 26) d_X12_fact_16 rfl (fun hc => ?_) (fun hc => ?_)
    · have h := h.1 hc
      refine r_bipush (x := (-2)) d_X12_fact_26 ⟨by decide, by decide⟩ (by decide) ?_
      exact r_iret d_X12_fact_28 rfl rfl (Nat.le_refl 0) (Nat.le_refl 0) ⟨_, rfl, rfl, rfl, h⟩
    · have h := h.2 hc
      refine r_iload_n (x := x3) d_X12_fact_19 rfl ?_
      refine r_callS (Y2 := mX12_isLetter) (d := d - 1) (mc := 0) (ms := 0) (As := [(0, x3)]) (S := []) d_X12_fact_20 ok_mX12_isLetter ml_X12_208 rfl (rmc h0d (by decide)) rm00 (Nat.le_of_ble_eq_true rfl) rfl (MC.mono h (fun r N1 Λ1 σ6 hq => ?_))
      obtain ⟨v7, rfl, rfl, rfl, h⟩ := hq
      refine r_if_ne (tgt := 29) d_X12_fact_23 rfl (fun hc => ?_) (fun hc => ?_)
      · have h := h.1 hc
        refine r_aload_n (x := t) d_X12_fact_29 rfl o_t.1 ?_
        refine r_getf (j := 1) (t := 2) (x := t_rankOf) d_X12_fact_30 kX12 (by decide) fl_X12_13 o_t.1 o_t.2.1 o_t.2.2.1 o_t.2.2.2 rfl f_t_rankOf ?_
        refine r_bipush (x := 100) d_X12_fact_33 ⟨by decide, by decide⟩ (by decide) ?_
        refine r_iload_n (x := x1) d_X12_fact_35 rfl ?_
        refine r_imul d_X12_fact_36 ?_
        refine r_bipush (x := 10) d_X12_fact_37 ⟨by decide, by decide⟩ (by decide) ?_
        refine r_iload_n (x := x2) d_X12_fact_39 rfl ?_
        refine r_imul d_X12_fact_40 ?_
        refine r_iadd d_X12_fact_41 ?_
        refine r_iload_n (x := x3) d_X12_fact_42 rfl ?_
        refine r_iadd d_X12_fact_43 ?_
        refine x_iald d_X12_fact_44 h.1 ?_
        have h := h.2
        refine r_callS (Y2 := mX12_sizeOf) (d := d - 1) (mc := 0) (ms := 0) (As := [(0, (σ6 t_rankOf (addI (addI (mulI 100 x1) (mulI 10 x2)) x3)))]) (S := []) d_X12_fact_45 ok_mX12_sizeOf ml_X12_168 rfl (rmc h0d (by decide)) rm00 (Nat.le_of_ble_eq_true rfl) rfl (MC.mono h (fun r N1 Λ1 σ8 hq => ?_))
        obtain ⟨v9, rfl, rfl, rfl, h⟩ := hq
        refine r_istore (L2 := [(2, t), (0, x1), (0, x2), (0, x3), (0, x4), (0, v9), (3, 0)]) d_X12_fact_48 (by decide) rfl rfl ?_
        refine r_iload (x := x4) d_X12_fact_50 rfl ?_
        refine r_i2l d_X12_fact_52 ?_
        refine r_lconst d_X12_fact_53 ?_
        skip
        refine r_ldc2 (x := 2) d_X12_fact_54 ck_X12_250 (by decide) ?_
        refine r_callS (Y2 := mX12_within) (d := d - 1) (mc := 0) (ms := 0) (As := [(1, x4), (1, 0), (1, 2)]) (S := []) d_X12_fact_57 ok_mX12_within ml_X12_91 rfl (rmc h0d (by decide)) rm00 (Nat.le_of_ble_eq_true rfl) rfl (MC.mono h (fun r N1 Λ1 σ10 hq => ?_))
        obtain ⟨v11, rfl, rfl, rfl, h⟩ := hq
        refine r_if_eq (tgt := 68) d_X12_fact_60 rfl (fun hc => ?_) (fun hc => ?_)
        · have h := h.1 hc
          refine r_bipush (x := (-3)) d_X12_fact_68 ⟨by decide, by decide⟩ (by decide) ?_
          exact r_iret d_X12_fact_70 rfl rfl (Nat.le_refl 0) (Nat.le_refl 0) ⟨_, rfl, rfl, rfl, h⟩
        · have h := h.2 hc
          refine r_iload (x := v9) d_X12_fact_63 rfl ?_
          refine r_if_ne (tgt := 71) d_X12_fact_65 rfl (fun hc => ?_) (fun hc => ?_)
          · have h := h.1 hc
            refine r_aload_n (x := t) d_X12_fact_71 rfl o_t.1 ?_
            refine r_callV (Y2 := mX12_notes) (d := d - 1) (mc := 0) (ms := 0) (c := t) (As := []) (S := []) d_X12_fact_72 ok_mX12_notes ml_X12_196 rfl (rmc h0d (by decide)) rm00 (Nat.le_of_ble_eq_true rfl) rfl kX12 o_t.1 o_t.2.1 o_t.2.2.1 o_t.2.2.2 (MC.mono h (fun r N1 Λ1 σ12 hq => ?_))
            obtain ⟨rfl, rfl, rfl, h⟩ := hq
            refine r_aload_n (x := t) d_X12_fact_75 rfl o_t.1 ?_
            refine r_iload (x := v9) d_X12_fact_76 rfl ?_
            refine r_callV (Y2 := mX12_factOf) (d := d - 1) (mc := 0) (ms := 0) (c := t) (As := [(0, v9)]) (S := []) d_X12_fact_78 ok_mX12_factOf ml_X12_244 rfl (rmc h0d (by decide)) rm00 (Nat.le_of_ble_eq_true rfl) rfl kX12 o_t.1 o_t.2.1 o_t.2.2.1 o_t.2.2.2 (MC.mono h (fun r N1 Λ1 σ13 hq => ?_))
            obtain ⟨v14, rfl, rfl, rfl, h⟩ := hq
            refine r_istore (L2 := [(2, t), (0, x1), (0, x2), (0, x3), (0, x4), (0, v9), (0, v14)]) d_X12_fact_81 (by decide) rfl rfl ?_
            refine r_aload_n (x := t) d_X12_fact_83 rfl o_t.1 ?_
            refine r_getf (j := 3) (t := 2) (x := t_state) d_X12_fact_84 kX12 (by decide) fl_X12_20 o_t.1 o_t.2.1 o_t.2.2.1 o_t.2.2.2 rfl f_t_state ?_
            refine r_sipush (x := 996) d_X12_fact_87 ⟨by decide, by decide⟩ (by decide) ?_
            refine r_iload (x := v9) d_X12_fact_90 rfl ?_
            refine r_iadd d_X12_fact_92 ?_
            refine r_iconst (x := 1) d_X12_fact_93 ⟨by decide, by decide⟩ ?_
            refine r_isub d_X12_fact_94 ?_
            refine r_iload (x := x4) d_X12_fact_95 rfl ?_
            refine x_iast d_X12_fact_97 h.1 ?_
            have h := h.2
            refine r_nmM (fun τ15 eτ15 => ?_)
            have h := h τ15 eτ15
            refine r_iload (x := v14) d_X12_fact_98 rfl ?_
            exact r_iret d_X12_fact_100 rfl rfl (Nat.le_refl 0) (Nat.le_refl 0) ⟨_, rfl, rfl, rfl, h⟩
          · have h := h.2 hc
            refine r_bipush (x := (-3)) d_X12_fact_68 ⟨by decide, by decide⟩ (by decide) ?_
            exact r_iret d_X12_fact_70 rfl rfl (Nat.le_refl 0) (Nat.le_refl 0) ⟨_, rfl, rfl, rfl, h⟩
      · have h := h.2 hc
        refine r_bipush (x := (-2)) d_X12_fact_26 ⟨by decide, by decide⟩ (by decide) ?_
        exact r_iret d_X12_fact_28 rfl rfl (Nat.le_refl 0) (Nat.le_refl 0) ⟨_, rfl, rfl, rfl, h⟩
theorem v_X12_place_0 {l : Launch} {d N : Nat} {Λ : Lay} {P : Int → Mem → Prop} {σ : Mem} {x1 x2 x3 x4 t t_state : Int} (o_t : Ob N Λ t 21 36) (f_t_state : (Λ t).2.2 3 = t_state) (h0d : 1 ≤ d)
    (h : (∀ τ1, τ1 = st σ t 0 0 → (CI l mX12_isLetter (d - 1) [(0, x1)] N Λ τ1 (fun v3 σ2 => ((¬ v3 = 0 → (CI l mX12_within (d - 1) [(1, x2), (1, (-99)), (1, 99)] N Λ σ2 (fun v5 σ4 => ((v5 = 0 → P (-3) σ4) ∧ (¬ (v5 = 0) → (CI l mX12_within (d - 1) [(1, x3), (1, (-99)), (1, 99)] N Λ σ4 (fun v7 σ6 => ((v7 = 0 → P (-3) σ6) ∧ (¬ (v7 = 0) → (CI l mX12_within (d - 1) [(1, x4), (1, (-99)), (1, 99)] N Λ σ6 (fun v9 σ8 => ((¬ v9 = 0 → (CV l mX12_notes (d - 1) [(2, t)] N Λ σ8 (fun σ10 => (Ix N Λ t_state 0 (addI 966 (mulI 3 x1)) ∧ (∀ τ11, τ11 = st σ10 t_state (addI 966 (mulI 3 x1)) x2 → (Ix N Λ t_state 0 (addI (addI 966 (mulI 3 x1)) 1) ∧ (∀ τ12, τ12 = st τ11 t_state (addI (addI 966 (mulI 3 x1)) 1) x3 → (Ix N Λ t_state 0 (addI (addI 966 (mulI 3 x1)) 2) ∧ (∀ τ13, τ13 = st τ12 t_state (addI (addI 966 (mulI 3 x1)) 2) x4 → P 0 τ13))))))))) ∧ (v9 = 0 → P (-3) σ8))))))))))))) ∧ (v3 = 0 → P (-2) σ2)))))) :
    WI l mX12_place d P 0 [(2, t), (0, x1), (0, x2), (0, x3), (0, x4)] [] N Λ σ := by
  refine r_aload_n (x := t) d_X12_place_0 rfl o_t.1 ?_
  refine r_iconst (x := 0) d_X12_place_1 ⟨by decide, by decide⟩ ?_
  refine r_putI (j := 0) d_X12_place_2 kX12 (by decide) fl_X12_1 rfl o_t.1 o_t.2.1 o_t.2.2.1 o_t.2.2.2 rfl ?_
  refine r_nmM (fun τ1 eτ1 => ?_)
  have h := h τ1 eτ1
  refine r_iload_n (x := x1) d_X12_place_5 rfl ?_
  refine r_callS (Y2 := mX12_isLetter) (d := d - 1) (mc := 0) (ms := 0) (As := [(0, x1)]) (S := []) d_X12_place_6 ok_mX12_isLetter ml_X12_208 rfl (rmc h0d (by decide)) rm00 (Nat.le_of_ble_eq_true rfl) rfl (MC.mono h (fun r N1 Λ1 σ2 hq => ?_))
  obtain ⟨v3, rfl, rfl, rfl, h⟩ := hq
  refine r_if_ne (tgt := 15) d_X12_place_9 rfl (fun hc => ?_) (fun hc => ?_)
  · have h := h.1 hc
    refine r_iload_n (x := x2) d_X12_place_15 rfl ?_
    refine r_i2l d_X12_place_16 ?_
    refine r_ldc2 (x := (-99)) d_X12_place_17 ck_X12_221 (by decide) ?_
    refine r_ldc2 (x := 99) d_X12_place_20 ck_X12_223 (by decide) ?_
    refine r_callS (Y2 := mX12_within) (d := d - 1) (mc := 0) (ms := 0) (As := [(1, x2), (1, (-99)), (1, 99)]) (S := []) d_X12_place_23 ok_mX12_within ml_X12_91 rfl (rmc h0d (by decide)) rm00 (Nat.le_of_ble_eq_true rfl) rfl (MC.mono h (fun r N1 Λ1 σ4 hq => ?_))
    obtain ⟨v5, rfl, rfl, rfl, h⟩ := hq
    refine r_if_eq (tgt := 58) d_X12_place_26 rfl (fun hc => ?_) (fun hc => ?_)
    · have h := h.1 hc
      refine r_bipush (x := (-3)) d_X12_place_58 ⟨by decide, by decide⟩ (by decide) ?_
      exact r_iret d_X12_place_60 rfl rfl (Nat.le_refl 0) (Nat.le_refl 0) ⟨_, rfl, rfl, rfl, h⟩
    · have h := h.2 hc
      refine r_iload_n (x := x3) d_X12_place_29 rfl ?_
      refine r_i2l d_X12_place_30 ?_
      refine r_ldc2 (x := (-99)) d_X12_place_31 ck_X12_221 (by decide) ?_
      refine r_ldc2 (x := 99) d_X12_place_34 ck_X12_223 (by decide) ?_
      refine r_callS (Y2 := mX12_within) (d := d - 1) (mc := 0) (ms := 0) (As := [(1, x3), (1, (-99)), (1, 99)]) (S := []) d_X12_place_37 ok_mX12_within ml_X12_91 rfl (rmc h0d (by decide)) rm00 (Nat.le_of_ble_eq_true rfl) rfl (MC.mono h (fun r N1 Λ1 σ6 hq => ?_))
      obtain ⟨v7, rfl, rfl, rfl, h⟩ := hq
      refine r_if_eq (tgt := 58) d_X12_place_40 rfl (fun hc => ?_) (fun hc => ?_)
      · have h := h.1 hc
        refine r_bipush (x := (-3)) d_X12_place_58 ⟨by decide, by decide⟩ (by decide) ?_
        exact r_iret d_X12_place_60 rfl rfl (Nat.le_refl 0) (Nat.le_refl 0) ⟨_, rfl, rfl, rfl, h⟩
      · have h := h.2 hc
        refine r_iload (x := x4) d_X12_place_43 rfl ?_
        refine r_i2l d_X12_place_45 ?_
        refine r_ldc2 (x := (-99)) d_X12_place_46 ck_X12_221 (by decide) ?_
        refine r_ldc2 (x := 99) d_X12_place_49 ck_X12_223 (by decide) ?_
        refine r_callS (Y2 := mX12_within) (d := d - 1) (mc := 0) (ms := 0) (As := [(1, x4), (1, (-99)), (1, 99)]) (S := []) d_X12_place_52 ok_mX12_within ml_X12_91 rfl (rmc h0d (by decide)) rm00 (Nat.le_of_ble_eq_true rfl) rfl (MC.mono h (fun r N1 Λ1 σ8 hq => ?_))
        obtain ⟨v9, rfl, rfl, rfl, h⟩ := hq
        refine r_if_ne (tgt := 61) d_X12_place_55 rfl (fun hc => ?_) (fun hc => ?_)
        · have h := h.1 hc
          refine r_aload_n (x := t) d_X12_place_61 rfl o_t.1 ?_
          refine r_callV (Y2 := mX12_notes) (d := d - 1) (mc := 0) (ms := 0) (c := t) (As := []) (S := []) d_X12_place_62 ok_mX12_notes ml_X12_196 rfl (rmc h0d (by decide)) rm00 (Nat.le_of_ble_eq_true rfl) rfl kX12 o_t.1 o_t.2.1 o_t.2.2.1 o_t.2.2.2 (MC.mono h (fun r N1 Λ1 σ10 hq => ?_))
          obtain ⟨rfl, rfl, rfl, h⟩ := hq
          refine r_aload_n (x := t) d_X12_place_65 rfl o_t.1 ?_
          refine r_getf (j := 3) (t := 2) (x := t_state) d_X12_place_66 kX12 (by decide) fl_X12_20 o_t.1 o_t.2.1 o_t.2.2.1 o_t.2.2.2 rfl f_t_state ?_
          refine r_sipush (x := 966) d_X12_place_69 ⟨by decide, by decide⟩ (by decide) ?_
          refine r_iconst (x := 3) d_X12_place_72 ⟨by decide, by decide⟩ ?_
          refine r_iload_n (x := x1) d_X12_place_73 rfl ?_
          refine r_imul d_X12_place_74 ?_
          refine r_iadd d_X12_place_75 ?_
          refine r_iload_n (x := x2) d_X12_place_76 rfl ?_
          refine x_iast d_X12_place_77 h.1 ?_
          have h := h.2
          refine r_nmM (fun τ11 eτ11 => ?_)
          have h := h τ11 eτ11
          refine r_aload_n (x := t) d_X12_place_78 rfl o_t.1 ?_
          refine r_getf (j := 3) (t := 2) (x := t_state) d_X12_place_79 kX12 (by decide) fl_X12_20 o_t.1 o_t.2.1 o_t.2.2.1 o_t.2.2.2 rfl f_t_state ?_
          refine r_sipush (x := 966) d_X12_place_82 ⟨by decide, by decide⟩ (by decide) ?_
          refine r_iconst (x := 3) d_X12_place_85 ⟨by decide, by decide⟩ ?_
          refine r_iload_n (x := x1) d_X12_place_86 rfl ?_
          refine r_imul d_X12_place_87 ?_
          refine r_iadd d_X12_place_88 ?_
          refine r_iconst (x := 1) d_X12_place_89 ⟨by decide, by decide⟩ ?_
          refine r_iadd d_X12_place_90 ?_
          refine r_iload_n (x := x3) d_X12_place_91 rfl ?_
          refine x_iast d_X12_place_92 h.1 ?_
          have h := h.2
          refine r_nmM (fun τ12 eτ12 => ?_)
          have h := h τ12 eτ12
          refine r_aload_n (x := t) d_X12_place_93 rfl o_t.1 ?_
          refine r_getf (j := 3) (t := 2) (x := t_state) d_X12_place_94 kX12 (by decide) fl_X12_20 o_t.1 o_t.2.1 o_t.2.2.1 o_t.2.2.2 rfl f_t_state ?_
          refine r_sipush (x := 966) d_X12_place_97 ⟨by decide, by decide⟩ (by decide) ?_
          refine r_iconst (x := 3) d_X12_place_100 ⟨by decide, by decide⟩ ?_
          refine r_iload_n (x := x1) d_X12_place_101 rfl ?_
          refine r_imul d_X12_place_102 ?_
          refine r_iadd d_X12_place_103 ?_
          refine r_iconst (x := 2) d_X12_place_104 ⟨by decide, by decide⟩ ?_
          refine r_iadd d_X12_place_105 ?_
          refine r_iload (x := x4) d_X12_place_106 rfl ?_
          refine x_iast d_X12_place_108 h.1 ?_
          have h := h.2
          refine r_nmM (fun τ13 eτ13 => ?_)
          have h := h τ13 eτ13
          refine r_iconst (x := 0) d_X12_place_109 ⟨by decide, by decide⟩ ?_
          exact r_iret d_X12_place_110 rfl rfl (Nat.le_refl 0) (Nat.le_refl 0) ⟨_, rfl, rfl, rfl, h⟩
        · have h := h.2 hc
          refine r_bipush (x := (-3)) d_X12_place_58 ⟨by decide, by decide⟩ (by decide) ?_
          exact r_iret d_X12_place_60 rfl rfl (Nat.le_refl 0) (Nat.le_refl 0) ⟨_, rfl, rfl, rfl, h⟩
  · have h := h.2 hc
    refine r_bipush (x := (-2)) d_X12_place_12 ⟨by decide, by decide⟩ (by decide) ?_
    exact r_iret d_X12_place_14 rfl rfl (Nat.le_refl 0) (Nat.le_refl 0) ⟨_, rfl, rfl, rfl, h⟩
theorem v_X12_feed_0 {l : Launch} {d N : Nat} {Λ : Lay} {P : Int → Mem → Prop} {σ : Mem} {x1 x2 x3 x4 x5 t : Int} (o_t : Ob N Λ t 21 36)
    (h : (∀ τ1, τ1 = st σ t 0 0 → (((addI (τ1 t 19) 20) ≤ 300 → WI l mX12_feed d P 24 [(2, t), (0, x1), (0, x2), (0, x3), (0, x4), (0, x5), (0, 0), (3, 0)] [] N Λ τ1) ∧ (¬ ((addI (τ1 t 19) 20) ≤ 300) → P (-4) τ1)))) :
    WI l mX12_feed d P 0 [(2, t), (0, x1), (0, x2), (0, x3), (0, x4), (0, x5), (3, 0), (3, 0)] [] N Λ σ := by
  refine r_aload_n (x := t) d_X12_feed_0 rfl o_t.1 ?_
  refine r_iconst (x := 0) d_X12_feed_1 ⟨by decide, by decide⟩ ?_
  refine r_putI (j := 0) d_X12_feed_2 kX12 (by decide) fl_X12_1 rfl o_t.1 o_t.2.1 o_t.2.2.1 o_t.2.2.2 rfl ?_
  refine r_nmM (fun τ1 eτ1 => ?_)
  have h := h τ1 eτ1
  refine r_aload_n (x := t) d_X12_feed_5 rfl o_t.1 ?_
  refine r_getf (j := 19) (t := 0) (x := (τ1 t 19)) d_X12_feed_6 kX12 (by decide) fl_X12_252 o_t.1 o_t.2.1 o_t.2.2.1 o_t.2.2.2 rfl rfl ?_
  refine r_bipush (x := 20) d_X12_feed_9 ⟨by decide, by decide⟩ (by decide) ?_
  refine r_iadd d_X12_feed_11 ?_
  refine r_sipush (x := 300) d_X12_feed_12 ⟨by decide, by decide⟩ (by decide) ?_
  refine r_ic_le (tgt := 21) d_X12_feed_15 rfl (fun hc => ?_) (fun hc => ?_)
  · have h := h.1 hc
    refine r_iconst (x := 0) d_X12_feed_21 ⟨by decide, by decide⟩ ?_
    refine r_istore (L2 := [(2, t), (0, x1), (0, x2), (0, x3), (0, x4), (0, x5), (0, 0), (3, 0)]) d_X12_feed_22 (by decide) rfl rfl ?_
    exact h
  · have h := h.2 hc
    refine r_bipush (x := (-4)) d_X12_feed_18 ⟨by decide, by decide⟩ (by decide) ?_
    exact r_iret d_X12_feed_20 rfl rfl (Nat.le_refl 0) (Nat.le_refl 0) ⟨_, rfl, rfl, rfl, h⟩
theorem v_X12_feed_24 {l : Launch} {d N : Nat} {Λ : Lay} {P : Int → Mem → Prop} {σ : Mem} {x1 x2 x3 x4 x5 x6 t t_tape : Int} (o_t : Ob N Λ t 21 36) (f_t_tape : (Λ t).2.2 18 = t_tape)
    (h : ((20 ≤ x6 → P (σ t 19) σ) ∧ (¬ (20 ≤ x6) → ((4 ≤ x6 → ((8 ≤ x6 → ((12 ≤ x6 → ((16 ≤ x6 → (Ix N Λ t_tape 6 (σ t 19) ∧ narrow .byte (.int (Int32.ofInt (i2bI (shrI x5 (subI 24 (mulI 8 (remI x6 4))))))) = .int (Int32.ofInt (i2bI (shrI x5 (subI 24 (mulI 8 (remI x6 4)))))) ∧ (∀ τ1, τ1 = st σ t_tape (σ t 19) (i2bI (shrI x5 (subI 24 (mulI 8 (remI x6 4))))) → (∀ τ2, τ2 = st τ1 t 19 (addI (τ1 t 19) 1) → (∀ y3, y3 = addI x6 1 → WI l mX12_feed d P 24 [(2, t), (0, x1), (0, x2), (0, x3), (0, x4), (0, x5), (0, y3), (3, 0)] [] N Λ τ2))))) ∧ (¬ (16 ≤ x6) → (Ix N Λ t_tape 6 (σ t 19) ∧ narrow .byte (.int (Int32.ofInt (i2bI (shrI x4 (subI 24 (mulI 8 (remI x6 4))))))) = .int (Int32.ofInt (i2bI (shrI x4 (subI 24 (mulI 8 (remI x6 4)))))) ∧ (∀ τ4, τ4 = st σ t_tape (σ t 19) (i2bI (shrI x4 (subI 24 (mulI 8 (remI x6 4))))) → (∀ τ5, τ5 = st τ4 t 19 (addI (τ4 t 19) 1) → (∀ y6, y6 = addI x6 1 → WI l mX12_feed d P 24 [(2, t), (0, x1), (0, x2), (0, x3), (0, x4), (0, x5), (0, y6), (3, 0)] [] N Λ τ5))))))) ∧ (¬ (12 ≤ x6) → (Ix N Λ t_tape 6 (σ t 19) ∧ narrow .byte (.int (Int32.ofInt (i2bI (shrI x3 (subI 24 (mulI 8 (remI x6 4))))))) = .int (Int32.ofInt (i2bI (shrI x3 (subI 24 (mulI 8 (remI x6 4)))))) ∧ (∀ τ7, τ7 = st σ t_tape (σ t 19) (i2bI (shrI x3 (subI 24 (mulI 8 (remI x6 4))))) → (∀ τ8, τ8 = st τ7 t 19 (addI (τ7 t 19) 1) → (∀ y9, y9 = addI x6 1 → WI l mX12_feed d P 24 [(2, t), (0, x1), (0, x2), (0, x3), (0, x4), (0, x5), (0, y9), (3, 0)] [] N Λ τ8))))))) ∧ (¬ (8 ≤ x6) → (Ix N Λ t_tape 6 (σ t 19) ∧ narrow .byte (.int (Int32.ofInt (i2bI (shrI x2 (subI 24 (mulI 8 (remI x6 4))))))) = .int (Int32.ofInt (i2bI (shrI x2 (subI 24 (mulI 8 (remI x6 4)))))) ∧ (∀ τ10, τ10 = st σ t_tape (σ t 19) (i2bI (shrI x2 (subI 24 (mulI 8 (remI x6 4))))) → (∀ τ11, τ11 = st τ10 t 19 (addI (τ10 t 19) 1) → (∀ y12, y12 = addI x6 1 → WI l mX12_feed d P 24 [(2, t), (0, x1), (0, x2), (0, x3), (0, x4), (0, x5), (0, y12), (3, 0)] [] N Λ τ11))))))) ∧ (¬ (4 ≤ x6) → (Ix N Λ t_tape 6 (σ t 19) ∧ narrow .byte (.int (Int32.ofInt (i2bI (shrI x1 (subI 24 (mulI 8 (remI x6 4))))))) = .int (Int32.ofInt (i2bI (shrI x1 (subI 24 (mulI 8 (remI x6 4)))))) ∧ (∀ τ13, τ13 = st σ t_tape (σ t 19) (i2bI (shrI x1 (subI 24 (mulI 8 (remI x6 4))))) → (∀ τ14, τ14 = st τ13 t 19 (addI (τ13 t 19) 1) → (∀ y15, y15 = addI x6 1 → WI l mX12_feed d P 24 [(2, t), (0, x1), (0, x2), (0, x3), (0, x4), (0, x5), (0, y15), (3, 0)] [] N Λ τ14))))))))) :
    WI l mX12_feed d P 24 [(2, t), (0, x1), (0, x2), (0, x3), (0, x4), (0, x5), (0, x6), (3, 0)] [] N Λ σ := by
  refine r_iload (x := x6) d_X12_feed_24 rfl ?_
  refine r_bipush (x := 20) d_X12_feed_26 ⟨by decide, by decide⟩ (by decide) ?_
  refine r_ic_ge (tgt := 118) d_X12_feed_28 rfl (fun hc => ?_) (fun hc => ?_)
  · have h := h.1 hc
    refine r_aload_n (x := t) d_X12_feed_118 rfl o_t.1 ?_
    refine r_getf (j := 19) (t := 0) (x := (σ t 19)) d_X12_feed_119 kX12 (by decide) fl_X12_252 o_t.1 o_t.2.1 o_t.2.2.1 o_t.2.2.2 rfl rfl ?_
    exact r_iret d_X12_feed_122 rfl rfl (Nat.le_refl 0) (Nat.le_refl 0) ⟨_, rfl, rfl, rfl, h⟩
  · have h := h.2 hc
    refine r_iload (x := x6) d_X12_feed_31 rfl ?_
    refine r_iconst (x := 4) d_X12_feed_33 ⟨by decide, by decide⟩ ?_
    refine r_ic_ge (tgt := 41) d_X12_feed_34 rfl (fun hc => ?_) (fun hc => ?_)
    · have h := h.1 hc
      refine r_iload (x := x6) d_X12_feed_41 rfl ?_
      refine r_bipush (x := 8) d_X12_feed_43 ⟨by decide, by decide⟩ (by decide) ?_
      refine r_ic_ge (tgt := 52) d_X12_feed_45 rfl (fun hc => ?_) (fun hc => ?_)
      · have h := h.1 hc
        refine r_iload (x := x6) d_X12_feed_52 rfl ?_
        refine r_bipush (x := 12) d_X12_feed_54 ⟨by decide, by decide⟩ (by decide) ?_
        refine r_ic_ge (tgt := 63) d_X12_feed_56 rfl (fun hc => ?_) (fun hc => ?_)
        · have h := h.1 hc
          refine r_iload (x := x6) d_X12_feed_63 rfl ?_
          refine r_bipush (x := 16) d_X12_feed_65 ⟨by decide, by decide⟩ (by decide) ?_
          refine r_ic_ge (tgt := 75) d_X12_feed_67 rfl (fun hc => ?_) (fun hc => ?_)
          · have h := h.1 hc
            refine r_iload (x := x5) d_X12_feed_75 rfl ?_
            refine r_istore (L2 := [(2, t), (0, x1), (0, x2), (0, x3), (0, x4), (0, x5), (0, x6), (0, x5)]) d_X12_feed_77 (by decide) rfl rfl ?_
            refine r_aload_n (x := t) d_X12_feed_79 rfl o_t.1 ?_
            refine r_getf (j := 18) (t := 2) (x := t_tape) d_X12_feed_80 kX12 (by decide) fl_X12_57 o_t.1 o_t.2.1 o_t.2.2.1 o_t.2.2.2 rfl f_t_tape ?_
            refine r_aload_n (x := t) d_X12_feed_83 rfl o_t.1 ?_
            refine r_getf (j := 19) (t := 0) (x := (σ t 19)) d_X12_feed_84 kX12 (by decide) fl_X12_252 o_t.1 o_t.2.1 o_t.2.2.1 o_t.2.2.2 rfl rfl ?_
            refine r_iload (x := x5) d_X12_feed_87 rfl ?_
            refine r_bipush (x := 24) d_X12_feed_89 ⟨by decide, by decide⟩ (by decide) ?_
            refine r_bipush (x := 8) d_X12_feed_91 ⟨by decide, by decide⟩ (by decide) ?_
            refine r_iload (x := x6) d_X12_feed_93 rfl ?_
            refine r_iconst (x := 4) d_X12_feed_95 ⟨by decide, by decide⟩ ?_
            refine r_irem d_X12_feed_96 (by decide) ?_
            refine r_imul d_X12_feed_97 ?_
            refine r_isub d_X12_feed_98 ?_
            refine r_ishr d_X12_feed_99 ?_
            refine r_i2b d_X12_feed_100 ?_
            refine x_bast d_X12_feed_101 h.1 h.2.1 ?_
            have h := h.2.2
            refine r_nmM (fun τ1 eτ1 => ?_)
            have h := h τ1 eτ1
            refine r_aload_n (x := t) d_X12_feed_102 rfl o_t.1 ?_
            refine r_dup d_X12_feed_103 rfl ?_
            refine r_getf (j := 19) (t := 0) (x := (τ1 t 19)) d_X12_feed_104 kX12 (by decide) fl_X12_252 o_t.1 o_t.2.1 o_t.2.2.1 o_t.2.2.2 rfl rfl ?_
            refine r_iconst (x := 1) d_X12_feed_107 ⟨by decide, by decide⟩ ?_
            refine r_iadd d_X12_feed_108 ?_
            refine r_putI (j := 19) d_X12_feed_109 kX12 (by decide) fl_X12_252 rfl o_t.1 o_t.2.1 o_t.2.2.1 o_t.2.2.2 rfl ?_
            refine r_nmM (fun τ2 eτ2 => ?_)
            have h := h τ2 eτ2
            refine x_iinc (x := x6) (L := [(2, t), (0, x1), (0, x2), (0, x3), (0, x4), (0, x5), (0, x6), (0, x5)]) d_X12_feed_112 rfl (by decide) rfl (fun y3 ey3 => ?_)
            have h := h y3 ey3
            show WP _ _ _ _ _ _ _ _ [(2, t), (0, x1), (0, x2), (0, x3), (0, x4), (0, x5), (0, y3), (0, x5)] _ _ _ _
            refine r_goto (tgt := 24) d_X12_feed_115 rfl ?_
            exact x_mask h ⟨Or.inr rfl, Or.inr rfl, Or.inr rfl, Or.inr rfl, Or.inr rfl, Or.inr rfl, Or.inr rfl, Or.inl rfl, trivial⟩
          · have h := h.2 hc
            refine r_iload (x := x4) d_X12_feed_70 rfl ?_
            refine r_goto (tgt := 77) d_X12_feed_72 rfl ?_
            refine r_istore (L2 := [(2, t), (0, x1), (0, x2), (0, x3), (0, x4), (0, x5), (0, x6), (0, x4)]) d_X12_feed_77 (by decide) rfl rfl ?_
            refine r_aload_n (x := t) d_X12_feed_79 rfl o_t.1 ?_
            refine r_getf (j := 18) (t := 2) (x := t_tape) d_X12_feed_80 kX12 (by decide) fl_X12_57 o_t.1 o_t.2.1 o_t.2.2.1 o_t.2.2.2 rfl f_t_tape ?_
            refine r_aload_n (x := t) d_X12_feed_83 rfl o_t.1 ?_
            refine r_getf (j := 19) (t := 0) (x := (σ t 19)) d_X12_feed_84 kX12 (by decide) fl_X12_252 o_t.1 o_t.2.1 o_t.2.2.1 o_t.2.2.2 rfl rfl ?_
            refine r_iload (x := x4) d_X12_feed_87 rfl ?_
            refine r_bipush (x := 24) d_X12_feed_89 ⟨by decide, by decide⟩ (by decide) ?_
            refine r_bipush (x := 8) d_X12_feed_91 ⟨by decide, by decide⟩ (by decide) ?_
            refine r_iload (x := x6) d_X12_feed_93 rfl ?_
            refine r_iconst (x := 4) d_X12_feed_95 ⟨by decide, by decide⟩ ?_
            refine r_irem d_X12_feed_96 (by decide) ?_
            refine r_imul d_X12_feed_97 ?_
            refine r_isub d_X12_feed_98 ?_
            refine r_ishr d_X12_feed_99 ?_
            refine r_i2b d_X12_feed_100 ?_
            refine x_bast d_X12_feed_101 h.1 h.2.1 ?_
            have h := h.2.2
            refine r_nmM (fun τ4 eτ4 => ?_)
            have h := h τ4 eτ4
            refine r_aload_n (x := t) d_X12_feed_102 rfl o_t.1 ?_
            refine r_dup d_X12_feed_103 rfl ?_
            refine r_getf (j := 19) (t := 0) (x := (τ4 t 19)) d_X12_feed_104 kX12 (by decide) fl_X12_252 o_t.1 o_t.2.1 o_t.2.2.1 o_t.2.2.2 rfl rfl ?_
            refine r_iconst (x := 1) d_X12_feed_107 ⟨by decide, by decide⟩ ?_
            refine r_iadd d_X12_feed_108 ?_
            refine r_putI (j := 19) d_X12_feed_109 kX12 (by decide) fl_X12_252 rfl o_t.1 o_t.2.1 o_t.2.2.1 o_t.2.2.2 rfl ?_
            refine r_nmM (fun τ5 eτ5 => ?_)
            have h := h τ5 eτ5
            refine x_iinc (x := x6) (L := [(2, t), (0, x1), (0, x2), (0, x3), (0, x4), (0, x5), (0, x6), (0, x4)]) d_X12_feed_112 rfl (by decide) rfl (fun y6 ey6 => ?_)
            have h := h y6 ey6
            show WP _ _ _ _ _ _ _ _ [(2, t), (0, x1), (0, x2), (0, x3), (0, x4), (0, x5), (0, y6), (0, x4)] _ _ _ _
            refine r_goto (tgt := 24) d_X12_feed_115 rfl ?_
            exact x_mask h ⟨Or.inr rfl, Or.inr rfl, Or.inr rfl, Or.inr rfl, Or.inr rfl, Or.inr rfl, Or.inr rfl, Or.inl rfl, trivial⟩
        · have h := h.2 hc
          refine r_iload_n (x := x3) d_X12_feed_59 rfl ?_
          refine r_goto (tgt := 77) d_X12_feed_60 rfl ?_
          refine r_istore (L2 := [(2, t), (0, x1), (0, x2), (0, x3), (0, x4), (0, x5), (0, x6), (0, x3)]) d_X12_feed_77 (by decide) rfl rfl ?_
          refine r_aload_n (x := t) d_X12_feed_79 rfl o_t.1 ?_
          refine r_getf (j := 18) (t := 2) (x := t_tape) d_X12_feed_80 kX12 (by decide) fl_X12_57 o_t.1 o_t.2.1 o_t.2.2.1 o_t.2.2.2 rfl f_t_tape ?_
          refine r_aload_n (x := t) d_X12_feed_83 rfl o_t.1 ?_
          refine r_getf (j := 19) (t := 0) (x := (σ t 19)) d_X12_feed_84 kX12 (by decide) fl_X12_252 o_t.1 o_t.2.1 o_t.2.2.1 o_t.2.2.2 rfl rfl ?_
          refine r_iload (x := x3) d_X12_feed_87 rfl ?_
          refine r_bipush (x := 24) d_X12_feed_89 ⟨by decide, by decide⟩ (by decide) ?_
          refine r_bipush (x := 8) d_X12_feed_91 ⟨by decide, by decide⟩ (by decide) ?_
          refine r_iload (x := x6) d_X12_feed_93 rfl ?_
          refine r_iconst (x := 4) d_X12_feed_95 ⟨by decide, by decide⟩ ?_
          refine r_irem d_X12_feed_96 (by decide) ?_
          refine r_imul d_X12_feed_97 ?_
          refine r_isub d_X12_feed_98 ?_
          refine r_ishr d_X12_feed_99 ?_
          refine r_i2b d_X12_feed_100 ?_
          refine x_bast d_X12_feed_101 h.1 h.2.1 ?_
          have h := h.2.2
          refine r_nmM (fun τ7 eτ7 => ?_)
          have h := h τ7 eτ7
          refine r_aload_n (x := t) d_X12_feed_102 rfl o_t.1 ?_
          refine r_dup d_X12_feed_103 rfl ?_
          refine r_getf (j := 19) (t := 0) (x := (τ7 t 19)) d_X12_feed_104 kX12 (by decide) fl_X12_252 o_t.1 o_t.2.1 o_t.2.2.1 o_t.2.2.2 rfl rfl ?_
          refine r_iconst (x := 1) d_X12_feed_107 ⟨by decide, by decide⟩ ?_
          refine r_iadd d_X12_feed_108 ?_
          refine r_putI (j := 19) d_X12_feed_109 kX12 (by decide) fl_X12_252 rfl o_t.1 o_t.2.1 o_t.2.2.1 o_t.2.2.2 rfl ?_
          refine r_nmM (fun τ8 eτ8 => ?_)
          have h := h τ8 eτ8
          refine x_iinc (x := x6) (L := [(2, t), (0, x1), (0, x2), (0, x3), (0, x4), (0, x5), (0, x6), (0, x3)]) d_X12_feed_112 rfl (by decide) rfl (fun y9 ey9 => ?_)
          have h := h y9 ey9
          show WP _ _ _ _ _ _ _ _ [(2, t), (0, x1), (0, x2), (0, x3), (0, x4), (0, x5), (0, y9), (0, x3)] _ _ _ _
          refine r_goto (tgt := 24) d_X12_feed_115 rfl ?_
          exact x_mask h ⟨Or.inr rfl, Or.inr rfl, Or.inr rfl, Or.inr rfl, Or.inr rfl, Or.inr rfl, Or.inr rfl, Or.inl rfl, trivial⟩
      · have h := h.2 hc
        refine r_iload_n (x := x2) d_X12_feed_48 rfl ?_
        refine r_goto (tgt := 77) d_X12_feed_49 rfl ?_
        refine r_istore (L2 := [(2, t), (0, x1), (0, x2), (0, x3), (0, x4), (0, x5), (0, x6), (0, x2)]) d_X12_feed_77 (by decide) rfl rfl ?_
        refine r_aload_n (x := t) d_X12_feed_79 rfl o_t.1 ?_
        refine r_getf (j := 18) (t := 2) (x := t_tape) d_X12_feed_80 kX12 (by decide) fl_X12_57 o_t.1 o_t.2.1 o_t.2.2.1 o_t.2.2.2 rfl f_t_tape ?_
        refine r_aload_n (x := t) d_X12_feed_83 rfl o_t.1 ?_
        refine r_getf (j := 19) (t := 0) (x := (σ t 19)) d_X12_feed_84 kX12 (by decide) fl_X12_252 o_t.1 o_t.2.1 o_t.2.2.1 o_t.2.2.2 rfl rfl ?_
        refine r_iload (x := x2) d_X12_feed_87 rfl ?_
        refine r_bipush (x := 24) d_X12_feed_89 ⟨by decide, by decide⟩ (by decide) ?_
        refine r_bipush (x := 8) d_X12_feed_91 ⟨by decide, by decide⟩ (by decide) ?_
        refine r_iload (x := x6) d_X12_feed_93 rfl ?_
        refine r_iconst (x := 4) d_X12_feed_95 ⟨by decide, by decide⟩ ?_
        refine r_irem d_X12_feed_96 (by decide) ?_
        refine r_imul d_X12_feed_97 ?_
        refine r_isub d_X12_feed_98 ?_
        refine r_ishr d_X12_feed_99 ?_
        refine r_i2b d_X12_feed_100 ?_
        refine x_bast d_X12_feed_101 h.1 h.2.1 ?_
        have h := h.2.2
        refine r_nmM (fun τ10 eτ10 => ?_)
        have h := h τ10 eτ10
        refine r_aload_n (x := t) d_X12_feed_102 rfl o_t.1 ?_
        refine r_dup d_X12_feed_103 rfl ?_
        refine r_getf (j := 19) (t := 0) (x := (τ10 t 19)) d_X12_feed_104 kX12 (by decide) fl_X12_252 o_t.1 o_t.2.1 o_t.2.2.1 o_t.2.2.2 rfl rfl ?_
        refine r_iconst (x := 1) d_X12_feed_107 ⟨by decide, by decide⟩ ?_
        refine r_iadd d_X12_feed_108 ?_
        refine r_putI (j := 19) d_X12_feed_109 kX12 (by decide) fl_X12_252 rfl o_t.1 o_t.2.1 o_t.2.2.1 o_t.2.2.2 rfl ?_
        refine r_nmM (fun τ11 eτ11 => ?_)
        have h := h τ11 eτ11
        refine x_iinc (x := x6) (L := [(2, t), (0, x1), (0, x2), (0, x3), (0, x4), (0, x5), (0, x6), (0, x2)]) d_X12_feed_112 rfl (by decide) rfl (fun y12 ey12 => ?_)
        have h := h y12 ey12
        show WP _ _ _ _ _ _ _ _ [(2, t), (0, x1), (0, x2), (0, x3), (0, x4), (0, x5), (0, y12), (0, x2)] _ _ _ _
        refine r_goto (tgt := 24) d_X12_feed_115 rfl ?_
        exact x_mask h ⟨Or.inr rfl, Or.inr rfl, Or.inr rfl, Or.inr rfl, Or.inr rfl, Or.inr rfl, Or.inr rfl, Or.inl rfl, trivial⟩
    · have h := h.2 hc
      refine r_iload_n (x := x1) d_X12_feed_37 rfl ?_
      refine r_goto (tgt := 77) d_X12_feed_38 rfl ?_
      refine r_istore (L2 := [(2, t), (0, x1), (0, x2), (0, x3), (0, x4), (0, x5), (0, x6), (0, x1)]) d_X12_feed_77 (by decide) rfl rfl ?_
      refine r_aload_n (x := t) d_X12_feed_79 rfl o_t.1 ?_
      refine r_getf (j := 18) (t := 2) (x := t_tape) d_X12_feed_80 kX12 (by decide) fl_X12_57 o_t.1 o_t.2.1 o_t.2.2.1 o_t.2.2.2 rfl f_t_tape ?_
      refine r_aload_n (x := t) d_X12_feed_83 rfl o_t.1 ?_
      refine r_getf (j := 19) (t := 0) (x := (σ t 19)) d_X12_feed_84 kX12 (by decide) fl_X12_252 o_t.1 o_t.2.1 o_t.2.2.1 o_t.2.2.2 rfl rfl ?_
      refine r_iload (x := x1) d_X12_feed_87 rfl ?_
      refine r_bipush (x := 24) d_X12_feed_89 ⟨by decide, by decide⟩ (by decide) ?_
      refine r_bipush (x := 8) d_X12_feed_91 ⟨by decide, by decide⟩ (by decide) ?_
      refine r_iload (x := x6) d_X12_feed_93 rfl ?_
      refine r_iconst (x := 4) d_X12_feed_95 ⟨by decide, by decide⟩ ?_
      refine r_irem d_X12_feed_96 (by decide) ?_
      refine r_imul d_X12_feed_97 ?_
      refine r_isub d_X12_feed_98 ?_
      refine r_ishr d_X12_feed_99 ?_
      refine r_i2b d_X12_feed_100 ?_
      refine x_bast d_X12_feed_101 h.1 h.2.1 ?_
      have h := h.2.2
      refine r_nmM (fun τ13 eτ13 => ?_)
      have h := h τ13 eτ13
      refine r_aload_n (x := t) d_X12_feed_102 rfl o_t.1 ?_
      refine r_dup d_X12_feed_103 rfl ?_
      refine r_getf (j := 19) (t := 0) (x := (τ13 t 19)) d_X12_feed_104 kX12 (by decide) fl_X12_252 o_t.1 o_t.2.1 o_t.2.2.1 o_t.2.2.2 rfl rfl ?_
      refine r_iconst (x := 1) d_X12_feed_107 ⟨by decide, by decide⟩ ?_
      refine r_iadd d_X12_feed_108 ?_
      refine r_putI (j := 19) d_X12_feed_109 kX12 (by decide) fl_X12_252 rfl o_t.1 o_t.2.1 o_t.2.2.1 o_t.2.2.2 rfl ?_
      refine r_nmM (fun τ14 eτ14 => ?_)
      have h := h τ14 eτ14
      refine x_iinc (x := x6) (L := [(2, t), (0, x1), (0, x2), (0, x3), (0, x4), (0, x5), (0, x6), (0, x1)]) d_X12_feed_112 rfl (by decide) rfl (fun y15 ey15 => ?_)
      have h := h y15 ey15
      show WP _ _ _ _ _ _ _ _ [(2, t), (0, x1), (0, x2), (0, x3), (0, x4), (0, x5), (0, y15), (0, x1)] _ _ _ _
      refine r_goto (tgt := 24) d_X12_feed_115 rfl ?_
      exact x_mask h ⟨Or.inr rfl, Or.inr rfl, Or.inr rfl, Or.inr rfl, Or.inr rfl, Or.inr rfl, Or.inr rfl, Or.inl rfl, trivial⟩
theorem v_X12_see_0 {l : Launch} {d N : Nat} {Λ : Lay} {P : Int → Mem → Prop} {σ : Mem} {t t_tape : Int} (o_t : Ob N Λ t 21 36) (f_t_tape : (Λ t).2.2 18 = t_tape)
    (h : (((σ t 20) ≤ (σ t 21) → P (-1) σ) ∧ (¬ ((σ t 20) ≤ (σ t 21)) → (Ix N Λ t_tape 6 (σ t 21) ∧ P (andI (σ t_tape (σ t 21)) 255) σ)))) :
    WI l mX12_see d P 0 [(2, t)] [] N Λ σ := by
  refine r_aload_n (x := t) d_X12_see_0 rfl o_t.1 ?_
  refine r_getf (j := 21) (t := 0) (x := (σ t 21)) d_X12_see_1 kX12 (by decide) fl_X12_255 o_t.1 o_t.2.1 o_t.2.2.1 o_t.2.2.2 rfl rfl ?_
  refine r_aload_n (x := t) d_X12_see_4 rfl o_t.1 ?_
  refine r_getf (j := 20) (t := 0) (x := (σ t 20)) d_X12_see_5 kX12 (by decide) fl_X12_258 o_t.1 o_t.2.1 o_t.2.2.1 o_t.2.2.2 rfl rfl ?_
  refine r_ic_ge (tgt := 27) d_X12_see_8 rfl (fun hc => ?_) (fun hc => ?_)
  · have h := h.1 hc
    refine r_iconst (x := (-1)) d_X12_see_27 ⟨by decide, by decide⟩ ?_
    exact r_iret d_X12_see_28 rfl rfl (Nat.le_refl 0) (Nat.le_refl 0) ⟨_, rfl, rfl, rfl, h⟩
  · have h := h.2 hc
    refine r_aload_n (x := t) d_X12_see_11 rfl o_t.1 ?_
    refine r_getf (j := 18) (t := 2) (x := t_tape) d_X12_see_12 kX12 (by decide) fl_X12_57 o_t.1 o_t.2.1 o_t.2.2.1 o_t.2.2.2 rfl f_t_tape ?_
    refine r_aload_n (x := t) d_X12_see_15 rfl o_t.1 ?_
    refine r_getf (j := 21) (t := 0) (x := (σ t 21)) d_X12_see_16 kX12 (by decide) fl_X12_255 o_t.1 o_t.2.1 o_t.2.2.1 o_t.2.2.2 rfl rfl ?_
    refine x_bald d_X12_see_19 h.1 ?_
    have h := h.2
    refine r_sipush (x := 255) d_X12_see_20 ⟨by decide, by decide⟩ (by decide) ?_
    refine r_iand d_X12_see_23 ?_
    refine r_goto (tgt := 28) d_X12_see_24 rfl ?_
    exact r_iret d_X12_see_28 rfl rfl (Nat.le_refl 0) (Nat.le_refl 0) ⟨_, rfl, rfl, rfl, h⟩
theorem v_X12_wrongs_0 {l : Launch} {d N : Nat} {Λ : Lay} {P : Mem → Prop} {σ : Mem} {x1 x2 t : Int} (o_t : Ob N Λ t 21 36)
    (h : (((σ t 22) = 0 → (∀ τ1, τ1 = st σ t 22 x1 → (∀ τ2, τ2 = st τ1 t 23 x2 → P τ2))) ∧ (¬ ((σ t 22) = 0) → P σ))) :
    WV l mX12_wrongs d P 0 [(2, t), (0, x1), (0, x2)] [] N Λ σ := by
  refine r_aload_n (x := t) d_X12_wrongs_0 rfl o_t.1 ?_
  refine r_getf (j := 22) (t := 0) (x := (σ t 22)) d_X12_wrongs_1 kX12 (by decide) fl_X12_261 o_t.1 o_t.2.1 o_t.2.2.1 o_t.2.2.2 rfl rfl ?_
  refine r_if_eq (tgt := 8) d_X12_wrongs_4 rfl (fun hc => ?_) (fun hc => ?_)
  · have h := h.1 hc
    refine r_aload_n (x := t) d_X12_wrongs_8 rfl o_t.1 ?_
    refine r_iload_n (x := x1) d_X12_wrongs_9 rfl ?_
    refine r_putI (j := 22) d_X12_wrongs_10 kX12 (by decide) fl_X12_261 rfl o_t.1 o_t.2.1 o_t.2.2.1 o_t.2.2.2 rfl ?_
    refine r_nmM (fun τ1 eτ1 => ?_)
    have h := h τ1 eτ1
    refine r_aload_n (x := t) d_X12_wrongs_13 rfl o_t.1 ?_
    refine r_iload_n (x := x2) d_X12_wrongs_14 rfl ?_
    refine r_putI (j := 23) d_X12_wrongs_15 kX12 (by decide) fl_X12_61 rfl o_t.1 o_t.2.1 o_t.2.2.1 o_t.2.2.2 rfl ?_
    refine r_nmM (fun τ2 eτ2 => ?_)
    have h := h τ2 eτ2
    exact r_vret d_X12_wrongs_18 rfl (Nat.le_refl 0) (Nat.le_refl 0) ⟨rfl, rfl, rfl, h⟩
  · have h := h.2 hc
    exact r_vret d_X12_wrongs_7 rfl (Nat.le_refl 0) (Nat.le_refl 0) ⟨rfl, rfl, rfl, h⟩
theorem v_X12_isDigit_0 {l : Launch} {d N : Nat} {Λ : Lay} {P : Int → Mem → Prop} {σ : Mem} {t : Int} (o_t : Ob N Λ t 21 36) (h0d : 1 ≤ d)
    (h : (CI l mX12_see (d - 1) [(2, t)] N Λ σ (fun v2 σ1 => (CI l mX12_within (d - 1) [(1, v2), (1, 48), (1, 57)] N Λ σ1 (fun v4 σ3 => (((v4 : Int) = 0 ∨ (v4 : Int) = 1) ∧ P v4 σ3)))))) :
    WI l mX12_isDigit d P 0 [(2, t)] [] N Λ σ := by
  refine r_aload_n (x := t) d_X12_isDigit_0 rfl o_t.1 ?_
  refine r_callV (Y2 := mX12_see) (d := d - 1) (mc := 0) (ms := 0) (c := t) (As := []) (S := []) d_X12_isDigit_1 ok_mX12_see ml_X12_264 rfl (rmc h0d (by decide)) rm00 (Nat.le_of_ble_eq_true rfl) rfl kX12 o_t.1 o_t.2.1 o_t.2.2.1 o_t.2.2.2 (MC.mono h (fun r N1 Λ1 σ1 hq => ?_))
  obtain ⟨v2, rfl, rfl, rfl, h⟩ := hq
  refine r_i2l d_X12_isDigit_4 ?_
  refine r_ldc2 (x := 48) d_X12_isDigit_5 ck_X12_268 (by decide) ?_
  refine r_ldc2 (x := 57) d_X12_isDigit_8 ck_X12_270 (by decide) ?_
  refine r_callS (Y2 := mX12_within) (d := d - 1) (mc := 0) (ms := 0) (As := [(1, v2), (1, 48), (1, 57)]) (S := []) d_X12_isDigit_11 ok_mX12_within ml_X12_91 rfl (rmc h0d (by decide)) rm00 (Nat.le_of_ble_eq_true rfl) rfl (MC.mono h (fun r N1 Λ1 σ3 hq => ?_))
  obtain ⟨v4, rfl, rfl, rfl, h⟩ := hq
  exact r_iret d_X12_isDigit_14 rfl (nbool h.1) (Nat.le_refl 0) (Nat.le_refl 0) ⟨_, rfl, rfl, rfl, h.2⟩
theorem v_X12_seesLetter_0 {l : Launch} {d N : Nat} {Λ : Lay} {P : Int → Mem → Prop} {σ : Mem} {t : Int} (o_t : Ob N Λ t 21 36) (h0d : 1 ≤ d)
    (h : (CI l mX12_see (d - 1) [(2, t)] N Λ σ (fun v2 σ1 => (CI l mX12_within (d - 1) [(1, v2), (1, 97), (1, 106)] N Λ σ1 (fun v4 σ3 => (((v4 : Int) = 0 ∨ (v4 : Int) = 1) ∧ P v4 σ3)))))) :
    WI l mX12_seesLetter d P 0 [(2, t)] [] N Λ σ := by
  refine r_aload_n (x := t) d_X12_seesLetter_0 rfl o_t.1 ?_
  refine r_callV (Y2 := mX12_see) (d := d - 1) (mc := 0) (ms := 0) (c := t) (As := []) (S := []) d_X12_seesLetter_1 ok_mX12_see ml_X12_264 rfl (rmc h0d (by decide)) rm00 (Nat.le_of_ble_eq_true rfl) rfl kX12 o_t.1 o_t.2.1 o_t.2.2.1 o_t.2.2.2 (MC.mono h (fun r N1 Λ1 σ1 hq => ?_))
  obtain ⟨v2, rfl, rfl, rfl, h⟩ := hq
  refine r_i2l d_X12_seesLetter_4 ?_
  refine r_ldc2 (x := 97) d_X12_seesLetter_5 ck_X12_272 (by decide) ?_
  refine r_ldc2 (x := 106) d_X12_seesLetter_8 ck_X12_274 (by decide) ?_
  refine r_callS (Y2 := mX12_within) (d := d - 1) (mc := 0) (ms := 0) (As := [(1, v2), (1, 97), (1, 106)]) (S := []) d_X12_seesLetter_11 ok_mX12_within ml_X12_91 rfl (rmc h0d (by decide)) rm00 (Nat.le_of_ble_eq_true rfl) rfl (MC.mono h (fun r N1 Λ1 σ3 hq => ?_))
  obtain ⟨v4, rfl, rfl, rfl, h⟩ := hq
  exact r_iret d_X12_seesLetter_14 rfl (nbool h.1) (Nat.le_refl 0) (Nat.le_refl 0) ⟨_, rfl, rfl, rfl, h.2⟩
theorem v_X12_must_0 {l : Launch} {d N : Nat} {Λ : Lay} {P : Mem → Prop} {σ : Mem} {x1 t : Int} (o_t : Ob N Λ t 21 36) (h0d : 1 ≤ d)
    (h : (((σ t 22) = 0 → ((x1 = 0 → (CV l mX12_wrongs (d - 1) [(2, t), (0, 1), (0, (σ t 21))] N Λ σ (fun σ1 => P σ1))) ∧ (¬ (x1 = 0) → (∀ τ2, τ2 = st σ t 21 (addI (σ t 21) 1) → P τ2)))) ∧ (¬ ((σ t 22) = 0) → P σ))) :
    WV l mX12_must d P 0 [(2, t), (0, x1)] [] N Λ σ := by
  refine r_aload_n (x := t) d_X12_must_0 rfl o_t.1 ?_
  refine r_getf (j := 22) (t := 0) (x := (σ t 22)) d_X12_must_1 kX12 (by decide) fl_X12_261 o_t.1 o_t.2.1 o_t.2.2.1 o_t.2.2.2 rfl rfl ?_
  refine r_if_eq (tgt := 8) d_X12_must_4 rfl (fun hc => ?_) (fun hc => ?_)
  · have h := h.1 hc
    refine r_iload_n (x := x1) d_X12_must_8 rfl ?_
    refine r_if_eq (tgt := 25) d_X12_must_9 rfl (fun hc => ?_) (fun hc => ?_)
    · have h := h.1 hc
      refine r_aload_n (x := t) d_X12_must_25 rfl o_t.1 ?_
      refine r_iconst (x := 1) d_X12_must_26 ⟨by decide, by decide⟩ ?_
      refine r_aload_n (x := t) d_X12_must_27 rfl o_t.1 ?_
      refine r_getf (j := 21) (t := 0) (x := (σ t 21)) d_X12_must_28 kX12 (by decide) fl_X12_255 o_t.1 o_t.2.1 o_t.2.2.1 o_t.2.2.2 rfl rfl ?_
      refine r_callV (Y2 := mX12_wrongs) (d := d - 1) (mc := 0) (ms := 0) (c := t) (As := [(0, 1), (0, (σ t 21))]) (S := []) d_X12_must_31 ok_mX12_wrongs ml_X12_276 rfl (rmc h0d (by decide)) rm00 (Nat.le_of_ble_eq_true rfl) rfl kX12 o_t.1 o_t.2.1 o_t.2.2.1 o_t.2.2.2 (MC.mono h (fun r N1 Λ1 σ1 hq => ?_))
      obtain ⟨rfl, rfl, rfl, h⟩ := hq
      exact r_vret d_X12_must_34 rfl (Nat.le_refl 0) (Nat.le_refl 0) ⟨rfl, rfl, rfl, h⟩
    · have h := h.2 hc
      refine r_aload_n (x := t) d_X12_must_12 rfl o_t.1 ?_
      refine r_dup d_X12_must_13 rfl ?_
      refine r_getf (j := 21) (t := 0) (x := (σ t 21)) d_X12_must_14 kX12 (by decide) fl_X12_255 o_t.1 o_t.2.1 o_t.2.2.1 o_t.2.2.2 rfl rfl ?_
      refine r_iconst (x := 1) d_X12_must_17 ⟨by decide, by decide⟩ ?_
      refine r_iadd d_X12_must_18 ?_
      refine r_putI (j := 21) d_X12_must_19 kX12 (by decide) fl_X12_255 rfl o_t.1 o_t.2.1 o_t.2.2.1 o_t.2.2.2 rfl ?_
      refine r_nmM (fun τ2 eτ2 => ?_)
      have h := h τ2 eτ2
      refine r_goto (tgt := 34) d_X12_must_22 rfl ?_
      exact r_vret d_X12_must_34 rfl (Nat.le_refl 0) (Nat.le_refl 0) ⟨rfl, rfl, rfl, h⟩
  · have h := h.2 hc
    exact r_vret d_X12_must_7 rfl (Nat.le_refl 0) (Nat.le_refl 0) ⟨rfl, rfl, rfl, h⟩
theorem v_X12_letterAt_0 {l : Launch} {d N : Nat} {Λ : Lay} {P : Int → Mem → Prop} {σ : Mem} {x1 t t_tape : Int} (o_t : Ob N Λ t 21 36) (f_t_tape : (Λ t).2.2 18 = t_tape)
    (h : (Ix N Λ t_tape 6 x1 ∧ P (subI (σ t_tape x1) 97) σ)) :
    WI l mX12_letterAt d P 0 [(2, t), (0, x1)] [] N Λ σ := by
  refine r_aload_n (x := t) d_X12_letterAt_0 rfl o_t.1 ?_
  refine r_getf (j := 18) (t := 2) (x := t_tape) d_X12_letterAt_1 kX12 (by decide) fl_X12_57 o_t.1 o_t.2.1 o_t.2.2.1 o_t.2.2.2 rfl f_t_tape ?_
  refine r_iload_n (x := x1) d_X12_letterAt_4 rfl ?_
  refine x_bald d_X12_letterAt_5 h.1 ?_
  have h := h.2
  refine r_bipush (x := 97) d_X12_letterAt_6 ⟨by decide, by decide⟩ (by decide) ?_
  refine r_isub d_X12_letterAt_8 ?_
  exact r_iret d_X12_letterAt_9 rfl rfl (Nat.le_refl 0) (Nat.le_refl 0) ⟨_, rfl, rfl, rfl, h⟩
theorem v_X12_term_0 {l : Launch} {d N : Nat} {Λ : Lay} {P : Mem → Prop} {σ : Mem} {x1 x2 t : Int} (o_t : Ob N Λ t 21 36)
    (h : (∀ y1, y1 = (σ t 21) → WV l mX12_term d P 8 [(2, t), (0, x1), (0, x2), (0, y1), (0, 0), (3, 0), (3, 0), (3, 0), (3, 0), (3, 0)] [] N Λ σ)) :
    WV l mX12_term d P 0 [(2, t), (0, x1), (0, x2), (3, 0), (3, 0), (3, 0), (3, 0), (3, 0), (3, 0), (3, 0)] [] N Λ σ := by
  refine r_aload_n (x := t) d_X12_term_0 rfl o_t.1 ?_
  refine r_getf (j := 21) (t := 0) (x := (σ t 21)) d_X12_term_1 kX12 (by decide) fl_X12_255 o_t.1 o_t.2.1 o_t.2.2.1 o_t.2.2.2 rfl rfl ?_
  refine r_nm (fun y1 ey1 => ?_)
  have h := h y1 ey1
  refine r_istore_n (L2 := [(2, t), (0, x1), (0, x2), (0, y1), (3, 0), (3, 0), (3, 0), (3, 0), (3, 0), (3, 0)]) d_X12_term_4 (by decide) rfl rfl ?_
  refine r_iconst (x := 0) d_X12_term_5 ⟨by decide, by decide⟩ ?_
  refine r_istore (L2 := [(2, t), (0, x1), (0, x2), (0, y1), (0, 0), (3, 0), (3, 0), (3, 0), (3, 0), (3, 0)]) d_X12_term_6 (by decide) rfl rfl ?_
  exact h
theorem v_X12_term_8 {l : Launch} {d N : Nat} {Λ : Lay} {P : Mem → Prop} {σ : Mem} {x1 x2 x3 x4 t : Int} (o_t : Ob N Λ t 21 36) (h0d : 1 ≤ d)
    (h : (CI l mX12_isDigit (d - 1) [(2, t)] N Λ σ (fun v2 σ1 => ((v2 = 0 → (((σ1 t 21) ≤ (addI x3 4) → (((σ1 t 21) ≤ x3 → (CI l mX12_see (d - 1) [(2, t)] N Λ σ1 (fun v4 σ3 => ((v4 = 91 → (∀ y5, y5 = (mulI x1 1) → WV l mX12_term d P 129 [(2, t), (0, x1), (0, x2), (0, x3), (0, x4), (0, 0), (1, y5), (3, 0), (0, 0), (3, 0)] [] N Λ σ3)) ∧ (¬ (v4 = 91) → (CV l mX12_wrongs (d - 1) [(2, t), (0, 1), (0, (σ3 t 21))] N Λ σ3 (fun σ6 => (∀ y7, y7 = (mulI x1 1) → WV l mX12_term d P 129 [(2, t), (0, x1), (0, x2), (0, x3), (0, x4), (0, 0), (1, y7), (3, 0), (0, 0), (3, 0)] [] N Λ σ6)))))))) ∧ (¬ ((σ1 t 21) ≤ x3) → (∀ y8, y8 = (mulI x1 x4) → WV l mX12_term d P 129 [(2, t), (0, x1), (0, x2), (0, x3), (0, x4), (0, 1), (1, y8), (3, 0), (0, 0), (3, 0)] [] N Λ σ1)))) ∧ (¬ ((σ1 t 21) ≤ (addI x3 4)) → (CV l mX12_wrongs (d - 1) [(2, t), (0, 2), (0, x3)] N Λ σ1 (fun σ9 => (((σ9 t 21) ≤ x3 → (CI l mX12_see (d - 1) [(2, t)] N Λ σ9 (fun v11 σ10 => ((v11 = 91 → (∀ y12, y12 = (mulI x1 1) → WV l mX12_term d P 129 [(2, t), (0, x1), (0, x2), (0, x3), (0, x4), (0, 0), (1, y12), (3, 0), (0, 0), (3, 0)] [] N Λ σ10)) ∧ (¬ (v11 = 91) → (CV l mX12_wrongs (d - 1) [(2, t), (0, 1), (0, (σ10 t 21))] N Λ σ10 (fun σ13 => (∀ y14, y14 = (mulI x1 1) → WV l mX12_term d P 129 [(2, t), (0, x1), (0, x2), (0, x3), (0, x4), (0, 0), (1, y14), (3, 0), (0, 0), (3, 0)] [] N Λ σ13)))))))) ∧ (¬ ((σ9 t 21) ≤ x3) → (∀ y15, y15 = (mulI x1 x4) → WV l mX12_term d P 129 [(2, t), (0, x1), (0, x2), (0, x3), (0, x4), (0, 1), (1, y15), (3, 0), (0, 0), (3, 0)] [] N Λ σ9)))))))) ∧ (¬ (v2 = 0) → ((x4 ≤ 9999 → (CI l mX12_see (d - 1) [(2, t)] N Λ σ1 (fun v17 σ16 => (∀ y18, y18 = (subI (addI (mulI 10 x4) v17) 48) → (∀ τ19, τ19 = st σ16 t 21 (addI (σ16 t 21) 1) → WV l mX12_term d P 8 [(2, t), (0, x1), (0, x2), (0, x3), (0, y18), (3, 0), (3, 0), (3, 0), (3, 0), (3, 0)] [] N Λ τ19))))) ∧ (¬ (x4 ≤ 9999) → (∀ τ20, τ20 = st σ1 t 21 (addI (σ1 t 21) 1) → WV l mX12_term d P 8 [(2, t), (0, x1), (0, x2), (0, x3), (0, x4), (3, 0), (3, 0), (3, 0), (3, 0), (3, 0)] [] N Λ τ20)))))))) :
    WV l mX12_term d P 8 [(2, t), (0, x1), (0, x2), (0, x3), (0, x4), (3, 0), (3, 0), (3, 0), (3, 0), (3, 0)] [] N Λ σ := by
  refine r_aload_n (x := t) d_X12_term_8 rfl o_t.1 ?_
  refine r_callV (Y2 := mX12_isDigit) (d := d - 1) (mc := 0) (ms := 0) (c := t) (As := []) (S := []) d_X12_term_9 ok_mX12_isDigit ml_X12_279 rfl (rmc h0d (by decide)) rm00 (Nat.le_of_ble_eq_true rfl) rfl kX12 o_t.1 o_t.2.1 o_t.2.2.1 o_t.2.2.2 (MC.mono h (fun r N1 Λ1 σ1 hq => ?_))
  obtain ⟨v2, rfl, rfl, rfl, h⟩ := hq
  refine r_if_eq (tgt := 56) d_X12_term_12 rfl (fun hc => ?_) (fun hc => ?_)
  · have h := h.1 hc
    refine r_aload_n (x := t) d_X12_term_56 rfl o_t.1 ?_
    refine r_getf (j := 21) (t := 0) (x := (σ1 t 21)) d_X12_term_57 kX12 (by decide) fl_X12_255 o_t.1 o_t.2.1 o_t.2.2.1 o_t.2.2.2 rfl rfl ?_
    refine r_iload_n (x := x3) d_X12_term_60 rfl ?_
    refine r_iconst (x := 4) d_X12_term_61 ⟨by decide, by decide⟩ ?_
    refine r_iadd d_X12_term_62 ?_
    refine r_ic_le (tgt := 72) d_X12_term_63 rfl (fun hc => ?_) (fun hc => ?_)
    · have h := h.1 hc
      refine r_aload_n (x := t) d_X12_term_72 rfl o_t.1 ?_
      refine r_getf (j := 21) (t := 0) (x := (σ1 t 21)) d_X12_term_73 kX12 (by decide) fl_X12_255 o_t.1 o_t.2.1 o_t.2.2.1 o_t.2.2.2 rfl rfl ?_
      refine r_iload_n (x := x3) d_X12_term_76 rfl ?_
      refine r_ic_le (tgt := 84) d_X12_term_77 rfl (fun hc => ?_) (fun hc => ?_)
      · have h := h.1 hc
        refine r_iconst (x := 0) d_X12_term_84 ⟨by decide, by decide⟩ ?_
        refine r_istore (L2 := [(2, t), (0, x1), (0, x2), (0, x3), (0, x4), (0, 0), (3, 0), (3, 0), (3, 0), (3, 0)]) d_X12_term_85 (by decide) rfl rfl ?_
        refine r_iload (x := 0) d_X12_term_87 rfl ?_
        refine r_if_ne (tgt := 110) d_X12_term_89 rfl (fun hc => absurd hc (by decide)) (fun _ => ?_)
        refine r_aload_n (x := t) d_X12_term_92 rfl o_t.1 ?_
        refine r_callV (Y2 := mX12_see) (d := d - 1) (mc := 0) (ms := 0) (c := t) (As := []) (S := []) d_X12_term_93 ok_mX12_see ml_X12_264 rfl (rmc h0d (by decide)) rm00 (Nat.le_of_ble_eq_true rfl) rfl kX12 o_t.1 o_t.2.1 o_t.2.2.1 o_t.2.2.2 (MC.mono h (fun r N1 Λ1 σ3 hq => ?_))
        obtain ⟨v4, rfl, rfl, rfl, h⟩ := hq
        refine r_bipush (x := 91) d_X12_term_96 ⟨by decide, by decide⟩ (by decide) ?_
        refine r_ic_eq (tgt := 110) d_X12_term_98 rfl (fun hc => ?_) (fun hc => ?_)
        · have h := h.1 hc
          refine r_iload_n (x := x1) d_X12_term_110 rfl ?_
          refine r_iload (x := 0) d_X12_term_111 rfl ?_
          refine r_if_eq (tgt := 121) d_X12_term_113 rfl (fun _ => ?_) (fun hc => absurd hc (by decide))
          refine r_iconst (x := 1) d_X12_term_121 ⟨by decide, by decide⟩ ?_
          refine r_imul d_X12_term_122 ?_
          refine r_i2l d_X12_term_123 ?_
          refine r_nm (fun y5 ey5 => ?_)
          have h := h y5 ey5
          refine r_lstore (L2 := [(2, t), (0, x1), (0, x2), (0, x3), (0, x4), (0, 0), (1, y5), (3, 0), (3, 0), (3, 0)]) d_X12_term_124 (by decide) rfl rfl ?_
          refine r_iconst (x := 0) d_X12_term_126 ⟨by decide, by decide⟩ ?_
          refine r_istore (L2 := [(2, t), (0, x1), (0, x2), (0, x3), (0, x4), (0, 0), (1, y5), (3, 0), (0, 0), (3, 0)]) d_X12_term_127 (by decide) rfl rfl ?_
          exact h
        · have h := h.2 hc
          refine r_aload_n (x := t) d_X12_term_101 rfl o_t.1 ?_
          refine r_iconst (x := 1) d_X12_term_102 ⟨by decide, by decide⟩ ?_
          refine r_aload_n (x := t) d_X12_term_103 rfl o_t.1 ?_
          refine r_getf (j := 21) (t := 0) (x := (σ3 t 21)) d_X12_term_104 kX12 (by decide) fl_X12_255 o_t.1 o_t.2.1 o_t.2.2.1 o_t.2.2.2 rfl rfl ?_
          refine r_callV (Y2 := mX12_wrongs) (d := d - 1) (mc := 0) (ms := 0) (c := t) (As := [(0, 1), (0, (σ3 t 21))]) (S := []) d_X12_term_107 ok_mX12_wrongs ml_X12_276 rfl (rmc h0d (by decide)) rm00 (Nat.le_of_ble_eq_true rfl) rfl kX12 o_t.1 o_t.2.1 o_t.2.2.1 o_t.2.2.2 (MC.mono h (fun r N1 Λ1 σ6 hq => ?_))
          obtain ⟨rfl, rfl, rfl, h⟩ := hq
          refine r_iload_n (x := x1) d_X12_term_110 rfl ?_
          refine r_iload (x := 0) d_X12_term_111 rfl ?_
          refine r_if_eq (tgt := 121) d_X12_term_113 rfl (fun _ => ?_) (fun hc => absurd hc (by decide))
          refine r_iconst (x := 1) d_X12_term_121 ⟨by decide, by decide⟩ ?_
          refine r_imul d_X12_term_122 ?_
          refine r_i2l d_X12_term_123 ?_
          refine r_nm (fun y7 ey7 => ?_)
          have h := h y7 ey7
          refine r_lstore (L2 := [(2, t), (0, x1), (0, x2), (0, x3), (0, x4), (0, 0), (1, y7), (3, 0), (3, 0), (3, 0)]) d_X12_term_124 (by decide) rfl rfl ?_
          refine r_iconst (x := 0) d_X12_term_126 ⟨by decide, by decide⟩ ?_
          refine r_istore (L2 := [(2, t), (0, x1), (0, x2), (0, x3), (0, x4), (0, 0), (1, y7), (3, 0), (0, 0), (3, 0)]) d_X12_term_127 (by decide) rfl rfl ?_
          exact h
      · have h := h.2 hc
        refine r_iconst (x := 1) d_X12_term_80 ⟨by decide, by decide⟩ ?_
        refine r_goto (tgt := 85) d_X12_term_81 rfl ?_
        refine r_istore (L2 := [(2, t), (0, x1), (0, x2), (0, x3), (0, x4), (0, 1), (3, 0), (3, 0), (3, 0), (3, 0)]) d_X12_term_85 (by decide) rfl rfl ?_
        refine r_iload (x := 1) d_X12_term_87 rfl ?_
        refine r_if_ne (tgt := 110) d_X12_term_89 rfl (fun _ => ?_) (fun hc => absurd hc (by decide))
        refine r_iload_n (x := x1) d_X12_term_110 rfl ?_
        refine r_iload (x := 1) d_X12_term_111 rfl ?_
        refine r_if_eq (tgt := 121) d_X12_term_113 rfl (fun hc => absurd hc (by decide)) (fun _ => ?_)
        refine r_iload (x := x4) d_X12_term_116 rfl ?_
        refine r_goto (tgt := 122) d_X12_term_118 rfl ?_
        refine r_imul d_X12_term_122 ?_
        refine r_i2l d_X12_term_123 ?_
        refine r_nm (fun y8 ey8 => ?_)
        have h := h y8 ey8
        refine r_lstore (L2 := [(2, t), (0, x1), (0, x2), (0, x3), (0, x4), (0, 1), (1, y8), (3, 0), (3, 0), (3, 0)]) d_X12_term_124 (by decide) rfl rfl ?_
        refine r_iconst (x := 0) d_X12_term_126 ⟨by decide, by decide⟩ ?_
        refine r_istore (L2 := [(2, t), (0, x1), (0, x2), (0, x3), (0, x4), (0, 1), (1, y8), (3, 0), (0, 0), (3, 0)]) d_X12_term_127 (by decide) rfl rfl ?_
        exact h
    · have h := h.2 hc
      refine r_aload_n (x := t) d_X12_term_66 rfl o_t.1 ?_
      refine r_iconst (x := 2) d_X12_term_67 ⟨by decide, by decide⟩ ?_
      refine r_iload_n (x := x3) d_X12_term_68 rfl ?_
      refine r_callV (Y2 := mX12_wrongs) (d := d - 1) (mc := 0) (ms := 0) (c := t) (As := [(0, 2), (0, x3)]) (S := []) d_X12_term_69 ok_mX12_wrongs ml_X12_276 rfl (rmc h0d (by decide)) rm00 (Nat.le_of_ble_eq_true rfl) rfl kX12 o_t.1 o_t.2.1 o_t.2.2.1 o_t.2.2.2 (MC.mono h (fun r N1 Λ1 σ9 hq => ?_))
      obtain ⟨rfl, rfl, rfl, h⟩ := hq
      refine r_aload_n (x := t) d_X12_term_72 rfl o_t.1 ?_
      refine r_getf (j := 21) (t := 0) (x := (σ9 t 21)) d_X12_term_73 kX12 (by decide) fl_X12_255 o_t.1 o_t.2.1 o_t.2.2.1 o_t.2.2.2 rfl rfl ?_
      refine r_iload_n (x := x3) d_X12_term_76 rfl ?_
      refine r_ic_le (tgt := 84) d_X12_term_77 rfl (fun hc => ?_) (fun hc => ?_)
      · have h := h.1 hc
        refine r_iconst (x := 0) d_X12_term_84 ⟨by decide, by decide⟩ ?_
        refine r_istore (L2 := [(2, t), (0, x1), (0, x2), (0, x3), (0, x4), (0, 0), (3, 0), (3, 0), (3, 0), (3, 0)]) d_X12_term_85 (by decide) rfl rfl ?_
        refine r_iload (x := 0) d_X12_term_87 rfl ?_
        refine r_if_ne (tgt := 110) d_X12_term_89 rfl (fun hc => absurd hc (by decide)) (fun _ => ?_)
        refine r_aload_n (x := t) d_X12_term_92 rfl o_t.1 ?_
        refine r_callV (Y2 := mX12_see) (d := d - 1) (mc := 0) (ms := 0) (c := t) (As := []) (S := []) d_X12_term_93 ok_mX12_see ml_X12_264 rfl (rmc h0d (by decide)) rm00 (Nat.le_of_ble_eq_true rfl) rfl kX12 o_t.1 o_t.2.1 o_t.2.2.1 o_t.2.2.2 (MC.mono h (fun r N1 Λ1 σ10 hq => ?_))
        obtain ⟨v11, rfl, rfl, rfl, h⟩ := hq
        refine r_bipush (x := 91) d_X12_term_96 ⟨by decide, by decide⟩ (by decide) ?_
        refine r_ic_eq (tgt := 110) d_X12_term_98 rfl (fun hc => ?_) (fun hc => ?_)
        · have h := h.1 hc
          refine r_iload_n (x := x1) d_X12_term_110 rfl ?_
          refine r_iload (x := 0) d_X12_term_111 rfl ?_
          refine r_if_eq (tgt := 121) d_X12_term_113 rfl (fun _ => ?_) (fun hc => absurd hc (by decide))
          refine r_iconst (x := 1) d_X12_term_121 ⟨by decide, by decide⟩ ?_
          refine r_imul d_X12_term_122 ?_
          refine r_i2l d_X12_term_123 ?_
          refine r_nm (fun y12 ey12 => ?_)
          have h := h y12 ey12
          refine r_lstore (L2 := [(2, t), (0, x1), (0, x2), (0, x3), (0, x4), (0, 0), (1, y12), (3, 0), (3, 0), (3, 0)]) d_X12_term_124 (by decide) rfl rfl ?_
          refine r_iconst (x := 0) d_X12_term_126 ⟨by decide, by decide⟩ ?_
          refine r_istore (L2 := [(2, t), (0, x1), (0, x2), (0, x3), (0, x4), (0, 0), (1, y12), (3, 0), (0, 0), (3, 0)]) d_X12_term_127 (by decide) rfl rfl ?_
          exact h
        · have h := h.2 hc
          refine r_aload_n (x := t) d_X12_term_101 rfl o_t.1 ?_
          refine r_iconst (x := 1) d_X12_term_102 ⟨by decide, by decide⟩ ?_
          refine r_aload_n (x := t) d_X12_term_103 rfl o_t.1 ?_
          refine r_getf (j := 21) (t := 0) (x := (σ10 t 21)) d_X12_term_104 kX12 (by decide) fl_X12_255 o_t.1 o_t.2.1 o_t.2.2.1 o_t.2.2.2 rfl rfl ?_
          refine r_callV (Y2 := mX12_wrongs) (d := d - 1) (mc := 0) (ms := 0) (c := t) (As := [(0, 1), (0, (σ10 t 21))]) (S := []) d_X12_term_107 ok_mX12_wrongs ml_X12_276 rfl (rmc h0d (by decide)) rm00 (Nat.le_of_ble_eq_true rfl) rfl kX12 o_t.1 o_t.2.1 o_t.2.2.1 o_t.2.2.2 (MC.mono h (fun r N1 Λ1 σ13 hq => ?_))
          obtain ⟨rfl, rfl, rfl, h⟩ := hq
          refine r_iload_n (x := x1) d_X12_term_110 rfl ?_
          refine r_iload (x := 0) d_X12_term_111 rfl ?_
          refine r_if_eq (tgt := 121) d_X12_term_113 rfl (fun _ => ?_) (fun hc => absurd hc (by decide))
          refine r_iconst (x := 1) d_X12_term_121 ⟨by decide, by decide⟩ ?_
          refine r_imul d_X12_term_122 ?_
          refine r_i2l d_X12_term_123 ?_
          refine r_nm (fun y14 ey14 => ?_)
          have h := h y14 ey14
          refine r_lstore (L2 := [(2, t), (0, x1), (0, x2), (0, x3), (0, x4), (0, 0), (1, y14), (3, 0), (3, 0), (3, 0)]) d_X12_term_124 (by decide) rfl rfl ?_
          refine r_iconst (x := 0) d_X12_term_126 ⟨by decide, by decide⟩ ?_
          refine r_istore (L2 := [(2, t), (0, x1), (0, x2), (0, x3), (0, x4), (0, 0), (1, y14), (3, 0), (0, 0), (3, 0)]) d_X12_term_127 (by decide) rfl rfl ?_
          exact h
      · have h := h.2 hc
        refine r_iconst (x := 1) d_X12_term_80 ⟨by decide, by decide⟩ ?_
        refine r_goto (tgt := 85) d_X12_term_81 rfl ?_
        refine r_istore (L2 := [(2, t), (0, x1), (0, x2), (0, x3), (0, x4), (0, 1), (3, 0), (3, 0), (3, 0), (3, 0)]) d_X12_term_85 (by decide) rfl rfl ?_
        refine r_iload (x := 1) d_X12_term_87 rfl ?_
        refine r_if_ne (tgt := 110) d_X12_term_89 rfl (fun _ => ?_) (fun hc => absurd hc (by decide))
        refine r_iload_n (x := x1) d_X12_term_110 rfl ?_
        refine r_iload (x := 1) d_X12_term_111 rfl ?_
        refine r_if_eq (tgt := 121) d_X12_term_113 rfl (fun hc => absurd hc (by decide)) (fun _ => ?_)
        refine r_iload (x := x4) d_X12_term_116 rfl ?_
        refine r_goto (tgt := 122) d_X12_term_118 rfl ?_
        refine r_imul d_X12_term_122 ?_
        refine r_i2l d_X12_term_123 ?_
        refine r_nm (fun y15 ey15 => ?_)
        have h := h y15 ey15
        refine r_lstore (L2 := [(2, t), (0, x1), (0, x2), (0, x3), (0, x4), (0, 1), (1, y15), (3, 0), (3, 0), (3, 0)]) d_X12_term_124 (by decide) rfl rfl ?_
        refine r_iconst (x := 0) d_X12_term_126 ⟨by decide, by decide⟩ ?_
        refine r_istore (L2 := [(2, t), (0, x1), (0, x2), (0, x3), (0, x4), (0, 1), (1, y15), (3, 0), (0, 0), (3, 0)]) d_X12_term_127 (by decide) rfl rfl ?_
        exact h
  · have h := h.2 hc
    refine r_iload (x := x4) d_X12_term_15 rfl ?_
    refine r_sipush (x := 9999) d_X12_term_17 ⟨by decide, by decide⟩ (by decide) ?_
    refine r_ic_le (tgt := 28) d_X12_term_20 rfl (fun hc => ?_) (fun hc => ?_)
    · have h := h.1 hc
      refine r_bipush (x := 10) d_X12_term_28 ⟨by decide, by decide⟩ (by decide) ?_
      refine r_iload (x := x4) d_X12_term_30 rfl ?_
      refine r_imul d_X12_term_32 ?_
      refine r_aload_n (x := t) d_X12_term_33 rfl o_t.1 ?_
      refine r_callV (Y2 := mX12_see) (d := d - 1) (mc := 0) (ms := 0) (c := t) (As := []) (S := [(0, (mulI 10 x4))]) d_X12_term_34 ok_mX12_see ml_X12_264 rfl (rmc h0d (by decide)) rm00 (Nat.le_of_ble_eq_true rfl) rfl kX12 o_t.1 o_t.2.1 o_t.2.2.1 o_t.2.2.2 (MC.mono h (fun r N1 Λ1 σ16 hq => ?_))
      obtain ⟨v17, rfl, rfl, rfl, h⟩ := hq
      refine r_iadd d_X12_term_37 ?_
      refine r_bipush (x := 48) d_X12_term_38 ⟨by decide, by decide⟩ (by decide) ?_
      refine r_isub d_X12_term_40 ?_
      refine r_nm (fun y18 ey18 => ?_)
      have h := h y18 ey18
      refine r_istore (L2 := [(2, t), (0, x1), (0, x2), (0, x3), (0, y18), (3, 0), (3, 0), (3, 0), (3, 0), (3, 0)]) d_X12_term_41 (by decide) rfl rfl ?_
      refine r_aload_n (x := t) d_X12_term_43 rfl o_t.1 ?_
      refine r_dup d_X12_term_44 rfl ?_
      refine r_getf (j := 21) (t := 0) (x := (σ16 t 21)) d_X12_term_45 kX12 (by decide) fl_X12_255 o_t.1 o_t.2.1 o_t.2.2.1 o_t.2.2.2 rfl rfl ?_
      refine r_iconst (x := 1) d_X12_term_48 ⟨by decide, by decide⟩ ?_
      refine r_iadd d_X12_term_49 ?_
      refine r_putI (j := 21) d_X12_term_50 kX12 (by decide) fl_X12_255 rfl o_t.1 o_t.2.1 o_t.2.2.1 o_t.2.2.2 rfl ?_
      refine r_nmM (fun τ19 eτ19 => ?_)
      have h := h τ19 eτ19
      refine r_goto (tgt := 8) d_X12_term_53 rfl ?_
      exact h
    · have h := h.2 hc
      refine r_iload (x := x4) d_X12_term_23 rfl ?_
      refine r_goto (tgt := 41) d_X12_term_25 rfl ?_
      refine r_istore (L2 := [(2, t), (0, x1), (0, x2), (0, x3), (0, x4), (3, 0), (3, 0), (3, 0), (3, 0), (3, 0)]) d_X12_term_41 (by decide) rfl rfl ?_
      refine r_aload_n (x := t) d_X12_term_43 rfl o_t.1 ?_
      refine r_dup d_X12_term_44 rfl ?_
      refine r_getf (j := 21) (t := 0) (x := (σ1 t 21)) d_X12_term_45 kX12 (by decide) fl_X12_255 o_t.1 o_t.2.1 o_t.2.2.1 o_t.2.2.2 rfl rfl ?_
      refine r_iconst (x := 1) d_X12_term_48 ⟨by decide, by decide⟩ ?_
      refine r_iadd d_X12_term_49 ?_
      refine r_putI (j := 21) d_X12_term_50 kX12 (by decide) fl_X12_255 rfl o_t.1 o_t.2.1 o_t.2.2.1 o_t.2.2.2 rfl ?_
      refine r_nmM (fun τ20 eτ20 => ?_)
      have h := h τ20 eτ20
      refine r_goto (tgt := 8) d_X12_term_53 rfl ?_
      exact h
theorem v_X12_term_129 {l : Launch} {d N : Nat} {Λ : Lay} {P : Mem → Prop} {σ : Mem} {x1 x2 x3 x4 x5 x6 x8 t : Int} (o_t : Ob N Λ t 21 36) (h0d : 1 ≤ d)
    (h : ((¬ (σ t 22) = 0 → ((x2 = 0 → P σ) ∧ (¬ (x2 = 0) → (((cmpL x6 0) = 0 → P σ) ∧ (¬ ((cmpL x6 0) = 0) → (CI l mX12_keyOf (d - 1) [(2, t), (0, x8)] N Λ σ (fun v2 σ1 => (CI l mX12_puts (d - 1) [(2, t), (0, 0), (0, v2), (1, x6)] N Λ σ1 (fun v4 σ3 => P σ3))))))))) ∧ ((σ t 22) = 0 → (CI l mX12_see (d - 1) [(2, t)] N Λ σ (fun v6 σ5 => ((¬ v6 = 91 → ((x2 = 0 → P σ5) ∧ (¬ (x2 = 0) → (((cmpL x6 0) = 0 → P σ5) ∧ (¬ ((cmpL x6 0) = 0) → (CI l mX12_keyOf (d - 1) [(2, t), (0, x8)] N Λ σ5 (fun v8 σ7 => (CI l mX12_puts (d - 1) [(2, t), (0, 0), (0, v8), (1, x6)] N Λ σ7 (fun v10 σ9 => P σ9))))))))) ∧ (v6 = 91 → ((¬ x8 = 4 → (∀ τ11, τ11 = st σ5 t 21 (addI (σ5 t 21) 1) → WV l mX12_term d P 174 [(2, t), (0, x1), (0, x2), (0, x3), (0, x4), (0, x5), (1, x6), (3, 0), (0, x8), (0, 0)] [] N Λ τ11)) ∧ (x8 = 4 → (CV l mX12_wrongs (d - 1) [(2, t), (0, 3), (0, (σ5 t 21))] N Λ σ5 (fun σ12 => P σ12))))))))))) :
    WV l mX12_term d P 129 [(2, t), (0, x1), (0, x2), (0, x3), (0, x4), (0, x5), (1, x6), (3, 0), (0, x8), (3, 0)] [] N Λ σ := by
  refine r_aload_n (x := t) d_X12_term_129 rfl o_t.1 ?_
  refine r_getf (j := 22) (t := 0) (x := (σ t 22)) d_X12_term_130 kX12 (by decide) fl_X12_261 o_t.1 o_t.2.1 o_t.2.2.1 o_t.2.2.2 rfl rfl ?_
  refine r_if_ne (tgt := 307) d_X12_term_133 rfl (fun hc => ?_) (fun hc => ?_)
  · have h := h.1 hc
    refine r_iload_n (x := x2) d_X12_term_307 rfl ?_
    refine r_if_eq (tgt := 332) d_X12_term_308 rfl (fun hc => ?_) (fun hc => ?_)
    · have h := h.1 hc
      exact r_vret d_X12_term_332 rfl (Nat.le_refl 0) (Nat.le_refl 0) ⟨rfl, rfl, rfl, h⟩
    · have h := h.2 hc
      refine r_lload (x := x6) d_X12_term_311 rfl ?_
      refine r_lconst d_X12_term_313 ?_
      skip
      refine r_lcmp d_X12_term_314 ?_
      refine r_if_eq (tgt := 332) d_X12_term_315 rfl (fun hc => ?_) (fun hc => ?_)
      · have h := h.1 hc
        exact r_vret d_X12_term_332 rfl (Nat.le_refl 0) (Nat.le_refl 0) ⟨rfl, rfl, rfl, h⟩
      · have h := h.2 hc
        refine r_aload_n (x := t) d_X12_term_318 rfl o_t.1 ?_
        refine r_iconst (x := 0) d_X12_term_319 ⟨by decide, by decide⟩ ?_
        refine r_aload_n (x := t) d_X12_term_320 rfl o_t.1 ?_
        refine r_iload (x := x8) d_X12_term_321 rfl ?_
        refine r_callV (Y2 := mX12_keyOf) (d := d - 1) (mc := 0) (ms := 0) (c := t) (As := [(0, x8)]) (S := [(0, 0), (2, t)]) d_X12_term_323 ok_mX12_keyOf ml_X12_141 rfl (rmc h0d (by decide)) rm00 (Nat.le_of_ble_eq_true rfl) rfl kX12 o_t.1 o_t.2.1 o_t.2.2.1 o_t.2.2.2 (MC.mono h (fun r N1 Λ1 σ1 hq => ?_))
        obtain ⟨v2, rfl, rfl, rfl, h⟩ := hq
        refine r_lload (x := x6) d_X12_term_326 rfl ?_
        refine r_callV (Y2 := mX12_puts) (d := d - 1) (mc := 0) (ms := 0) (c := t) (As := [(0, 0), (0, v2), (1, x6)]) (S := []) d_X12_term_328 ok_mX12_puts ml_X12_147 rfl (rmc h0d (by decide)) rm00 (Nat.le_of_ble_eq_true rfl) rfl kX12 o_t.1 o_t.2.1 o_t.2.2.1 o_t.2.2.2 (MC.mono h (fun r N1 Λ1 σ3 hq => ?_))
        obtain ⟨v4, rfl, rfl, rfl, h⟩ := hq
        refine r_pop d_X12_term_331 rfl ?_
        exact r_vret d_X12_term_332 rfl (Nat.le_refl 0) (Nat.le_refl 0) ⟨rfl, rfl, rfl, h⟩
  · have h := h.2 hc
    refine r_aload_n (x := t) d_X12_term_136 rfl o_t.1 ?_
    refine r_callV (Y2 := mX12_see) (d := d - 1) (mc := 0) (ms := 0) (c := t) (As := []) (S := []) d_X12_term_137 ok_mX12_see ml_X12_264 rfl (rmc h0d (by decide)) rm00 (Nat.le_of_ble_eq_true rfl) rfl kX12 o_t.1 o_t.2.1 o_t.2.2.1 o_t.2.2.2 (MC.mono h (fun r N1 Λ1 σ5 hq => ?_))
    obtain ⟨v6, rfl, rfl, rfl, h⟩ := hq
    refine r_bipush (x := 91) d_X12_term_140 ⟨by decide, by decide⟩ (by decide) ?_
    refine r_ic_ne (tgt := 307) d_X12_term_142 rfl (fun hc => ?_) (fun hc => ?_)
    · have h := h.1 hc
      refine r_iload_n (x := x2) d_X12_term_307 rfl ?_
      refine r_if_eq (tgt := 332) d_X12_term_308 rfl (fun hc => ?_) (fun hc => ?_)
      · have h := h.1 hc
        exact r_vret d_X12_term_332 rfl (Nat.le_refl 0) (Nat.le_refl 0) ⟨rfl, rfl, rfl, h⟩
      · have h := h.2 hc
        refine r_lload (x := x6) d_X12_term_311 rfl ?_
        refine r_lconst d_X12_term_313 ?_
        skip
        refine r_lcmp d_X12_term_314 ?_
        refine r_if_eq (tgt := 332) d_X12_term_315 rfl (fun hc => ?_) (fun hc => ?_)
        · have h := h.1 hc
          exact r_vret d_X12_term_332 rfl (Nat.le_refl 0) (Nat.le_refl 0) ⟨rfl, rfl, rfl, h⟩
        · have h := h.2 hc
          refine r_aload_n (x := t) d_X12_term_318 rfl o_t.1 ?_
          refine r_iconst (x := 0) d_X12_term_319 ⟨by decide, by decide⟩ ?_
          refine r_aload_n (x := t) d_X12_term_320 rfl o_t.1 ?_
          refine r_iload (x := x8) d_X12_term_321 rfl ?_
          refine r_callV (Y2 := mX12_keyOf) (d := d - 1) (mc := 0) (ms := 0) (c := t) (As := [(0, x8)]) (S := [(0, 0), (2, t)]) d_X12_term_323 ok_mX12_keyOf ml_X12_141 rfl (rmc h0d (by decide)) rm00 (Nat.le_of_ble_eq_true rfl) rfl kX12 o_t.1 o_t.2.1 o_t.2.2.1 o_t.2.2.2 (MC.mono h (fun r N1 Λ1 σ7 hq => ?_))
          obtain ⟨v8, rfl, rfl, rfl, h⟩ := hq
          refine r_lload (x := x6) d_X12_term_326 rfl ?_
          refine r_callV (Y2 := mX12_puts) (d := d - 1) (mc := 0) (ms := 0) (c := t) (As := [(0, 0), (0, v8), (1, x6)]) (S := []) d_X12_term_328 ok_mX12_puts ml_X12_147 rfl (rmc h0d (by decide)) rm00 (Nat.le_of_ble_eq_true rfl) rfl kX12 o_t.1 o_t.2.1 o_t.2.2.1 o_t.2.2.2 (MC.mono h (fun r N1 Λ1 σ9 hq => ?_))
          obtain ⟨v10, rfl, rfl, rfl, h⟩ := hq
          refine r_pop d_X12_term_331 rfl ?_
          exact r_vret d_X12_term_332 rfl (Nat.le_refl 0) (Nat.le_refl 0) ⟨rfl, rfl, rfl, h⟩
    · have h := h.2 hc
      refine r_iload (x := x8) d_X12_term_145 rfl ?_
      refine r_iconst (x := 4) d_X12_term_147 ⟨by decide, by decide⟩ ?_
      refine r_ic_ne (tgt := 161) d_X12_term_148 rfl (fun hc => ?_) (fun hc => ?_)
      · have h := h.1 hc
        refine r_aload_n (x := t) d_X12_term_161 rfl o_t.1 ?_
        refine r_dup d_X12_term_162 rfl ?_
        refine r_getf (j := 21) (t := 0) (x := (σ5 t 21)) d_X12_term_163 kX12 (by decide) fl_X12_255 o_t.1 o_t.2.1 o_t.2.2.1 o_t.2.2.2 rfl rfl ?_
        refine r_iconst (x := 1) d_X12_term_166 ⟨by decide, by decide⟩ ?_
        refine r_iadd d_X12_term_167 ?_
        refine r_putI (j := 21) d_X12_term_168 kX12 (by decide) fl_X12_255 rfl o_t.1 o_t.2.1 o_t.2.2.1 o_t.2.2.2 rfl ?_
        refine r_nmM (fun τ11 eτ11 => ?_)
        have h := h τ11 eτ11
        refine r_iconst (x := 0) d_X12_term_171 ⟨by decide, by decide⟩ ?_
        refine r_istore (L2 := [(2, t), (0, x1), (0, x2), (0, x3), (0, x4), (0, x5), (1, x6), (3, 0), (0, x8), (0, 0)]) d_X12_term_172 (by decide) rfl rfl ?_
        exact h
      · have h := h.2 hc
        refine r_aload_n (x := t) d_X12_term_151 rfl o_t.1 ?_
        refine r_iconst (x := 3) d_X12_term_152 ⟨by decide, by decide⟩ ?_
        refine r_aload_n (x := t) d_X12_term_153 rfl o_t.1 ?_
        refine r_getf (j := 21) (t := 0) (x := (σ5 t 21)) d_X12_term_154 kX12 (by decide) fl_X12_255 o_t.1 o_t.2.1 o_t.2.2.1 o_t.2.2.2 rfl rfl ?_
        refine r_callV (Y2 := mX12_wrongs) (d := d - 1) (mc := 0) (ms := 0) (c := t) (As := [(0, 3), (0, (σ5 t 21))]) (S := []) d_X12_term_157 ok_mX12_wrongs ml_X12_276 rfl (rmc h0d (by decide)) rm00 (Nat.le_of_ble_eq_true rfl) rfl kX12 o_t.1 o_t.2.1 o_t.2.2.1 o_t.2.2.2 (MC.mono h (fun r N1 Λ1 σ12 hq => ?_))
        obtain ⟨rfl, rfl, rfl, h⟩ := hq
        exact r_vret d_X12_term_160 rfl (Nat.le_refl 0) (Nat.le_refl 0) ⟨rfl, rfl, rfl, h⟩
theorem v_X12_term_174 {l : Launch} {d N : Nat} {Λ : Lay} {P : Mem → Prop} {σ : Mem} {x1 x2 x3 x4 x5 x6 x8 x9 t t_rankOf t_ranks : Int} (o_t : Ob N Λ t 21 36) (f_t_rankOf : (Λ t).2.2 1 = t_rankOf) (f_t_ranks : (Λ t).2.2 9 = t_ranks) (h0d : 1 ≤ d)
    (h : ((3 ≤ x9 → (CI l mX12_see (d - 1) [(2, t)] N Λ σ (fun v2 σ1 => ((¬ v2 = 93 → (CV l mX12_must (d - 1) [(2, t), (0, 0)] N Λ σ1 (fun σ3 => (((σ3 t 22) = 0 → (CI l mX12_letterAt (d - 1) [(2, t), (0, (subI (σ3 t 21) 4))] N Λ σ3 (fun v5 σ4 => (CI l mX12_letterAt (d - 1) [(2, t), (0, (subI (σ4 t 21) 3))] N Λ σ4 (fun v7 σ6 => (CI l mX12_letterAt (d - 1) [(2, t), (0, (subI (σ6 t 21) 2))] N Λ σ6 (fun v9 σ8 => (Ix N Λ t_rankOf 0 (addI (addI (mulI 100 v5) (mulI 10 v7)) v9) ∧ (∀ y10, y10 = (σ8 t_rankOf (addI (addI (mulI 100 v5) (mulI 10 v7)) v9)) → ((0 ≤ y10 → ((¬ y10 = 0 → (CI l mX12_sizeOf (d - 1) [(0, y10)] N Λ σ8 (fun v12 σ11 => (Ix N Λ t_ranks 0 x8 ∧ (∀ τ13, τ13 = st σ11 t_ranks x8 v12 → (∀ y14, y14 = addI x8 1 → WV l mX12_term d P 129 [(2, t), (0, x1), (0, x2), (0, x3), (0, x4), (0, x5), (1, x6), (3, 0), (0, y14), (3, 0)] [] N Λ τ13)))))) ∧ (y10 = 0 → (CI l mX12_sizeOf (d - 1) [(0, y10)] N Λ σ8 (fun v16 σ15 => (Ix N Λ t_ranks 0 x8 ∧ (∀ τ17, τ17 = st σ15 t_ranks x8 v16 → (∀ y18, y18 = addI x8 1 → WV l mX12_term d P 129 [(2, t), (0, x1), (0, x2), (0, x3), (0, x4), (0, x5), (1, 0), (3, 0), (0, y18), (3, 0)] [] N Λ τ17)))))))) ∧ (¬ (0 ≤ y10) → (∀ y19, y19 = (negL x6) → (CI l mX12_sizeOf (d - 1) [(0, y10)] N Λ σ8 (fun v21 σ20 => (Ix N Λ t_ranks 0 x8 ∧ (∀ τ22, τ22 = st σ20 t_ranks x8 v21 → (∀ y23, y23 = addI x8 1 → WV l mX12_term d P 129 [(2, t), (0, x1), (0, x2), (0, x3), (0, x4), (0, x5), (1, y19), (3, 0), (0, y23), (3, 0)] [] N Λ τ22))))))))))))))))) ∧ (¬ ((σ3 t 22) = 0) → P σ3))))) ∧ (v2 = 93 → (CV l mX12_must (d - 1) [(2, t), (0, 1)] N Λ σ1 (fun σ24 => (((σ24 t 22) = 0 → (CI l mX12_letterAt (d - 1) [(2, t), (0, (subI (σ24 t 21) 4))] N Λ σ24 (fun v26 σ25 => (CI l mX12_letterAt (d - 1) [(2, t), (0, (subI (σ25 t 21) 3))] N Λ σ25 (fun v28 σ27 => (CI l mX12_letterAt (d - 1) [(2, t), (0, (subI (σ27 t 21) 2))] N Λ σ27 (fun v30 σ29 => (Ix N Λ t_rankOf 0 (addI (addI (mulI 100 v26) (mulI 10 v28)) v30) ∧ (∀ y31, y31 = (σ29 t_rankOf (addI (addI (mulI 100 v26) (mulI 10 v28)) v30)) → ((0 ≤ y31 → ((¬ y31 = 0 → (CI l mX12_sizeOf (d - 1) [(0, y31)] N Λ σ29 (fun v33 σ32 => (Ix N Λ t_ranks 0 x8 ∧ (∀ τ34, τ34 = st σ32 t_ranks x8 v33 → (∀ y35, y35 = addI x8 1 → WV l mX12_term d P 129 [(2, t), (0, x1), (0, x2), (0, x3), (0, x4), (0, x5), (1, x6), (3, 0), (0, y35), (3, 0)] [] N Λ τ34)))))) ∧ (y31 = 0 → (CI l mX12_sizeOf (d - 1) [(0, y31)] N Λ σ29 (fun v37 σ36 => (Ix N Λ t_ranks 0 x8 ∧ (∀ τ38, τ38 = st σ36 t_ranks x8 v37 → (∀ y39, y39 = addI x8 1 → WV l mX12_term d P 129 [(2, t), (0, x1), (0, x2), (0, x3), (0, x4), (0, x5), (1, 0), (3, 0), (0, y39), (3, 0)] [] N Λ τ38)))))))) ∧ (¬ (0 ≤ y31) → (∀ y40, y40 = (negL x6) → (CI l mX12_sizeOf (d - 1) [(0, y31)] N Λ σ29 (fun v42 σ41 => (Ix N Λ t_ranks 0 x8 ∧ (∀ τ43, τ43 = st σ41 t_ranks x8 v42 → (∀ y44, y44 = addI x8 1 → WV l mX12_term d P 129 [(2, t), (0, x1), (0, x2), (0, x3), (0, x4), (0, x5), (1, y40), (3, 0), (0, y44), (3, 0)] [] N Λ τ43))))))))))))))))) ∧ (¬ ((σ24 t 22) = 0) → P σ24))))))))) ∧ (¬ (3 ≤ x9) → (CI l mX12_seesLetter (d - 1) [(2, t)] N Λ σ (fun v46 σ45 => (CV l mX12_must (d - 1) [(2, t), (0, v46)] N Λ σ45 (fun σ47 => (∀ y48, y48 = addI x9 1 → WV l mX12_term d P 174 [(2, t), (0, x1), (0, x2), (0, x3), (0, x4), (0, x5), (1, x6), (3, 0), (0, x8), (0, y48)] [] N Λ σ47)))))))) :
    WV l mX12_term d P 174 [(2, t), (0, x1), (0, x2), (0, x3), (0, x4), (0, x5), (1, x6), (3, 0), (0, x8), (0, x9)] [] N Λ σ := by
  refine r_iload (x := x9) d_X12_term_174 rfl ?_
  refine r_iconst (x := 3) d_X12_term_176 ⟨by decide, by decide⟩ ?_
  refine r_ic_ge (tgt := 194) d_X12_term_177 rfl (fun hc => ?_) (fun hc => ?_)
  · have h := h.1 hc
    refine r_aload_n (x := t) d_X12_term_194 rfl o_t.1 ?_
    refine r_aload_n (x := t) d_X12_term_195 rfl o_t.1 ?_
    refine r_callV (Y2 := mX12_see) (d := d - 1) (mc := 0) (ms := 0) (c := t) (As := []) (S := [(2, t)]) d_X12_term_196 ok_mX12_see ml_X12_264 rfl (rmc h0d (by decide)) rm00 (Nat.le_of_ble_eq_true rfl) rfl kX12 o_t.1 o_t.2.1 o_t.2.2.1 o_t.2.2.2 (MC.mono h (fun r N1 Λ1 σ1 hq => ?_))
    obtain ⟨v2, rfl, rfl, rfl, h⟩ := hq
    refine r_bipush (x := 93) d_X12_term_199 ⟨by decide, by decide⟩ (by decide) ?_
    refine r_ic_ne (tgt := 208) d_X12_term_201 rfl (fun hc => ?_) (fun hc => ?_)
    · have h := h.1 hc
      refine r_iconst (x := 0) d_X12_term_208 ⟨by decide, by decide⟩ ?_
      refine r_callV (Y2 := mX12_must) (d := d - 1) (mc := 0) (ms := 0) (c := t) (As := [(0, 0)]) (S := []) d_X12_term_209 ok_mX12_must ml_X12_286 rfl (rmc h0d (by decide)) rm00 (Nat.le_of_ble_eq_true rfl) rfl kX12 o_t.1 o_t.2.1 o_t.2.2.1 o_t.2.2.2 (MC.mono h (fun r N1 Λ1 σ3 hq => ?_))
      obtain ⟨rfl, rfl, rfl, h⟩ := hq
      refine r_aload_n (x := t) d_X12_term_212 rfl o_t.1 ?_
      refine r_getf (j := 22) (t := 0) (x := (σ3 t 22)) d_X12_term_213 kX12 (by decide) fl_X12_261 o_t.1 o_t.2.1 o_t.2.2.1 o_t.2.2.2 rfl rfl ?_
      refine r_if_eq (tgt := 220) d_X12_term_216 rfl (fun hc => ?_) (fun hc => ?_)
      · have h := h.1 hc
        refine r_aload_n (x := t) d_X12_term_220 rfl o_t.1 ?_
        refine r_getf (j := 1) (t := 2) (x := t_rankOf) d_X12_term_221 kX12 (by decide) fl_X12_13 o_t.1 o_t.2.1 o_t.2.2.1 o_t.2.2.2 rfl f_t_rankOf ?_
        refine r_bipush (x := 100) d_X12_term_224 ⟨by decide, by decide⟩ (by decide) ?_
        refine r_aload_n (x := t) d_X12_term_226 rfl o_t.1 ?_
        refine r_aload_n (x := t) d_X12_term_227 rfl o_t.1 ?_
        refine r_getf (j := 21) (t := 0) (x := (σ3 t 21)) d_X12_term_228 kX12 (by decide) fl_X12_255 o_t.1 o_t.2.1 o_t.2.2.1 o_t.2.2.2 rfl rfl ?_
        refine r_iconst (x := 4) d_X12_term_231 ⟨by decide, by decide⟩ ?_
        refine r_isub d_X12_term_232 ?_
        refine r_callV (Y2 := mX12_letterAt) (d := d - 1) (mc := 0) (ms := 0) (c := t) (As := [(0, (subI (σ3 t 21) 4))]) (S := [(0, 100), (2, t_rankOf)]) d_X12_term_233 ok_mX12_letterAt ml_X12_290 rfl (rmc h0d (by decide)) rm00 (Nat.le_of_ble_eq_true rfl) rfl kX12 o_t.1 o_t.2.1 o_t.2.2.1 o_t.2.2.2 (MC.mono h (fun r N1 Λ1 σ4 hq => ?_))
        obtain ⟨v5, rfl, rfl, rfl, h⟩ := hq
        refine r_imul d_X12_term_236 ?_
        refine r_bipush (x := 10) d_X12_term_237 ⟨by decide, by decide⟩ (by decide) ?_
        refine r_aload_n (x := t) d_X12_term_239 rfl o_t.1 ?_
        refine r_aload_n (x := t) d_X12_term_240 rfl o_t.1 ?_
        refine r_getf (j := 21) (t := 0) (x := (σ4 t 21)) d_X12_term_241 kX12 (by decide) fl_X12_255 o_t.1 o_t.2.1 o_t.2.2.1 o_t.2.2.2 rfl rfl ?_
        refine r_iconst (x := 3) d_X12_term_244 ⟨by decide, by decide⟩ ?_
        refine r_isub d_X12_term_245 ?_
        refine r_callV (Y2 := mX12_letterAt) (d := d - 1) (mc := 0) (ms := 0) (c := t) (As := [(0, (subI (σ4 t 21) 3))]) (S := [(0, 10), (0, (mulI 100 v5)), (2, t_rankOf)]) d_X12_term_246 ok_mX12_letterAt ml_X12_290 rfl (rmc h0d (by decide)) rm00 (Nat.le_of_ble_eq_true rfl) rfl kX12 o_t.1 o_t.2.1 o_t.2.2.1 o_t.2.2.2 (MC.mono h (fun r N1 Λ1 σ6 hq => ?_))
        obtain ⟨v7, rfl, rfl, rfl, h⟩ := hq
        refine r_imul d_X12_term_249 ?_
        refine r_iadd d_X12_term_250 ?_
        refine r_aload_n (x := t) d_X12_term_251 rfl o_t.1 ?_
        refine r_aload_n (x := t) d_X12_term_252 rfl o_t.1 ?_
        refine r_getf (j := 21) (t := 0) (x := (σ6 t 21)) d_X12_term_253 kX12 (by decide) fl_X12_255 o_t.1 o_t.2.1 o_t.2.2.1 o_t.2.2.2 rfl rfl ?_
        refine r_iconst (x := 2) d_X12_term_256 ⟨by decide, by decide⟩ ?_
        refine r_isub d_X12_term_257 ?_
        refine r_callV (Y2 := mX12_letterAt) (d := d - 1) (mc := 0) (ms := 0) (c := t) (As := [(0, (subI (σ6 t 21) 2))]) (S := [(0, (addI (mulI 100 v5) (mulI 10 v7))), (2, t_rankOf)]) d_X12_term_258 ok_mX12_letterAt ml_X12_290 rfl (rmc h0d (by decide)) rm00 (Nat.le_of_ble_eq_true rfl) rfl kX12 o_t.1 o_t.2.1 o_t.2.2.1 o_t.2.2.2 (MC.mono h (fun r N1 Λ1 σ8 hq => ?_))
        obtain ⟨v9, rfl, rfl, rfl, h⟩ := hq
        refine r_iadd d_X12_term_261 ?_
        refine x_iald d_X12_term_262 h.1 ?_
        have h := h.2
        refine r_nm (fun y10 ey10 => ?_)
        have h := h y10 ey10
        refine r_istore (L2 := [(2, t), (0, x1), (0, x2), (0, x3), (0, x4), (0, x5), (1, x6), (3, 0), (0, x8), (0, y10)]) d_X12_term_263 (by decide) rfl rfl ?_
        refine r_iload (x := y10) d_X12_term_265 rfl ?_
        refine r_if_ge (tgt := 276) d_X12_term_267 rfl (fun hc => ?_) (fun hc => ?_)
        · have h := h.1 hc
          refine r_iload (x := y10) d_X12_term_276 rfl ?_
          refine r_if_ne (tgt := 285) d_X12_term_278 rfl (fun hc => ?_) (fun hc => ?_)
          · have h := h.1 hc
            refine r_lload (x := x6) d_X12_term_285 rfl ?_
            refine r_lstore (L2 := [(2, t), (0, x1), (0, x2), (0, x3), (0, x4), (0, x5), (1, x6), (3, 0), (0, x8), (0, y10)]) d_X12_term_287 (by decide) rfl rfl ?_
            refine r_aload_n (x := t) d_X12_term_289 rfl o_t.1 ?_
            refine r_getf (j := 9) (t := 2) (x := t_ranks) d_X12_term_290 kX12 (by decide) fl_X12_33 o_t.1 o_t.2.1 o_t.2.2.1 o_t.2.2.2 rfl f_t_ranks ?_
            refine r_iload (x := x8) d_X12_term_293 rfl ?_
            refine r_iload (x := y10) d_X12_term_295 rfl ?_
            refine r_callS (Y2 := mX12_sizeOf) (d := d - 1) (mc := 0) (ms := 0) (As := [(0, y10)]) (S := [(0, x8), (2, t_ranks)]) d_X12_term_297 ok_mX12_sizeOf ml_X12_168 rfl (rmc h0d (by decide)) rm00 (Nat.le_of_ble_eq_true rfl) rfl (MC.mono h (fun r N1 Λ1 σ11 hq => ?_))
            obtain ⟨v12, rfl, rfl, rfl, h⟩ := hq
            refine x_iast d_X12_term_300 h.1 ?_
            have h := h.2
            refine r_nmM (fun τ13 eτ13 => ?_)
            have h := h τ13 eτ13
            refine x_iinc (x := x8) (L := [(2, t), (0, x1), (0, x2), (0, x3), (0, x4), (0, x5), (1, x6), (3, 0), (0, x8), (0, y10)]) d_X12_term_301 rfl (by decide) rfl (fun y14 ey14 => ?_)
            have h := h y14 ey14
            show WP _ _ _ _ _ _ _ _ [(2, t), (0, x1), (0, x2), (0, x3), (0, x4), (0, x5), (1, x6), (3, 0), (0, y14), (0, y10)] _ _ _ _
            refine r_goto (tgt := 129) d_X12_term_304 rfl ?_
            exact x_mask h ⟨Or.inr rfl, Or.inr rfl, Or.inr rfl, Or.inr rfl, Or.inr rfl, Or.inr rfl, Or.inr rfl, Or.inl rfl, Or.inr rfl, Or.inl rfl, trivial⟩
          · have h := h.2 hc
            refine r_lconst d_X12_term_281 ?_
            skip
            refine r_goto (tgt := 287) d_X12_term_282 rfl ?_
            refine r_lstore (L2 := [(2, t), (0, x1), (0, x2), (0, x3), (0, x4), (0, x5), (1, 0), (3, 0), (0, x8), (0, y10)]) d_X12_term_287 (by decide) rfl rfl ?_
            refine r_aload_n (x := t) d_X12_term_289 rfl o_t.1 ?_
            refine r_getf (j := 9) (t := 2) (x := t_ranks) d_X12_term_290 kX12 (by decide) fl_X12_33 o_t.1 o_t.2.1 o_t.2.2.1 o_t.2.2.2 rfl f_t_ranks ?_
            refine r_iload (x := x8) d_X12_term_293 rfl ?_
            refine r_iload (x := y10) d_X12_term_295 rfl ?_
            refine r_callS (Y2 := mX12_sizeOf) (d := d - 1) (mc := 0) (ms := 0) (As := [(0, y10)]) (S := [(0, x8), (2, t_ranks)]) d_X12_term_297 ok_mX12_sizeOf ml_X12_168 rfl (rmc h0d (by decide)) rm00 (Nat.le_of_ble_eq_true rfl) rfl (MC.mono h (fun r N1 Λ1 σ15 hq => ?_))
            obtain ⟨v16, rfl, rfl, rfl, h⟩ := hq
            refine x_iast d_X12_term_300 h.1 ?_
            have h := h.2
            refine r_nmM (fun τ17 eτ17 => ?_)
            have h := h τ17 eτ17
            refine x_iinc (x := x8) (L := [(2, t), (0, x1), (0, x2), (0, x3), (0, x4), (0, x5), (1, 0), (3, 0), (0, x8), (0, y10)]) d_X12_term_301 rfl (by decide) rfl (fun y18 ey18 => ?_)
            have h := h y18 ey18
            show WP _ _ _ _ _ _ _ _ [(2, t), (0, x1), (0, x2), (0, x3), (0, x4), (0, x5), (1, 0), (3, 0), (0, y18), (0, y10)] _ _ _ _
            refine r_goto (tgt := 129) d_X12_term_304 rfl ?_
            exact x_mask h ⟨Or.inr rfl, Or.inr rfl, Or.inr rfl, Or.inr rfl, Or.inr rfl, Or.inr rfl, Or.inr rfl, Or.inl rfl, Or.inr rfl, Or.inl rfl, trivial⟩
        · have h := h.2 hc
          refine r_lload (x := x6) d_X12_term_270 rfl ?_
          refine r_lneg d_X12_term_272 ?_
          refine r_goto (tgt := 287) d_X12_term_273 rfl ?_
          refine r_nm (fun y19 ey19 => ?_)
          have h := h y19 ey19
          refine r_lstore (L2 := [(2, t), (0, x1), (0, x2), (0, x3), (0, x4), (0, x5), (1, y19), (3, 0), (0, x8), (0, y10)]) d_X12_term_287 (by decide) rfl rfl ?_
          refine r_aload_n (x := t) d_X12_term_289 rfl o_t.1 ?_
          refine r_getf (j := 9) (t := 2) (x := t_ranks) d_X12_term_290 kX12 (by decide) fl_X12_33 o_t.1 o_t.2.1 o_t.2.2.1 o_t.2.2.2 rfl f_t_ranks ?_
          refine r_iload (x := x8) d_X12_term_293 rfl ?_
          refine r_iload (x := y10) d_X12_term_295 rfl ?_
          refine r_callS (Y2 := mX12_sizeOf) (d := d - 1) (mc := 0) (ms := 0) (As := [(0, y10)]) (S := [(0, x8), (2, t_ranks)]) d_X12_term_297 ok_mX12_sizeOf ml_X12_168 rfl (rmc h0d (by decide)) rm00 (Nat.le_of_ble_eq_true rfl) rfl (MC.mono h (fun r N1 Λ1 σ20 hq => ?_))
          obtain ⟨v21, rfl, rfl, rfl, h⟩ := hq
          refine x_iast d_X12_term_300 h.1 ?_
          have h := h.2
          refine r_nmM (fun τ22 eτ22 => ?_)
          have h := h τ22 eτ22
          refine x_iinc (x := x8) (L := [(2, t), (0, x1), (0, x2), (0, x3), (0, x4), (0, x5), (1, y19), (3, 0), (0, x8), (0, y10)]) d_X12_term_301 rfl (by decide) rfl (fun y23 ey23 => ?_)
          have h := h y23 ey23
          show WP _ _ _ _ _ _ _ _ [(2, t), (0, x1), (0, x2), (0, x3), (0, x4), (0, x5), (1, y19), (3, 0), (0, y23), (0, y10)] _ _ _ _
          refine r_goto (tgt := 129) d_X12_term_304 rfl ?_
          exact x_mask h ⟨Or.inr rfl, Or.inr rfl, Or.inr rfl, Or.inr rfl, Or.inr rfl, Or.inr rfl, Or.inr rfl, Or.inl rfl, Or.inr rfl, Or.inl rfl, trivial⟩
      · have h := h.2 hc
        exact r_vret d_X12_term_219 rfl (Nat.le_refl 0) (Nat.le_refl 0) ⟨rfl, rfl, rfl, h⟩
    · have h := h.2 hc
      refine r_iconst (x := 1) d_X12_term_204 ⟨by decide, by decide⟩ ?_
      refine r_goto (tgt := 209) d_X12_term_205 rfl ?_
      refine r_callV (Y2 := mX12_must) (d := d - 1) (mc := 0) (ms := 0) (c := t) (As := [(0, 1)]) (S := []) d_X12_term_209 ok_mX12_must ml_X12_286 rfl (rmc h0d (by decide)) rm00 (Nat.le_of_ble_eq_true rfl) rfl kX12 o_t.1 o_t.2.1 o_t.2.2.1 o_t.2.2.2 (MC.mono h (fun r N1 Λ1 σ24 hq => ?_))
      obtain ⟨rfl, rfl, rfl, h⟩ := hq
      refine r_aload_n (x := t) d_X12_term_212 rfl o_t.1 ?_
      refine r_getf (j := 22) (t := 0) (x := (σ24 t 22)) d_X12_term_213 kX12 (by decide) fl_X12_261 o_t.1 o_t.2.1 o_t.2.2.1 o_t.2.2.2 rfl rfl ?_
      refine r_if_eq (tgt := 220) d_X12_term_216 rfl (fun hc => ?_) (fun hc => ?_)
      · have h := h.1 hc
        refine r_aload_n (x := t) d_X12_term_220 rfl o_t.1 ?_
        refine r_getf (j := 1) (t := 2) (x := t_rankOf) d_X12_term_221 kX12 (by decide) fl_X12_13 o_t.1 o_t.2.1 o_t.2.2.1 o_t.2.2.2 rfl f_t_rankOf ?_
        refine r_bipush (x := 100) d_X12_term_224 ⟨by decide, by decide⟩ (by decide) ?_
        refine r_aload_n (x := t) d_X12_term_226 rfl o_t.1 ?_
        refine r_aload_n (x := t) d_X12_term_227 rfl o_t.1 ?_
        refine r_getf (j := 21) (t := 0) (x := (σ24 t 21)) d_X12_term_228 kX12 (by decide) fl_X12_255 o_t.1 o_t.2.1 o_t.2.2.1 o_t.2.2.2 rfl rfl ?_
        refine r_iconst (x := 4) d_X12_term_231 ⟨by decide, by decide⟩ ?_
        refine r_isub d_X12_term_232 ?_
        refine r_callV (Y2 := mX12_letterAt) (d := d - 1) (mc := 0) (ms := 0) (c := t) (As := [(0, (subI (σ24 t 21) 4))]) (S := [(0, 100), (2, t_rankOf)]) d_X12_term_233 ok_mX12_letterAt ml_X12_290 rfl (rmc h0d (by decide)) rm00 (Nat.le_of_ble_eq_true rfl) rfl kX12 o_t.1 o_t.2.1 o_t.2.2.1 o_t.2.2.2 (MC.mono h (fun r N1 Λ1 σ25 hq => ?_))
        obtain ⟨v26, rfl, rfl, rfl, h⟩ := hq
        refine r_imul d_X12_term_236 ?_
        refine r_bipush (x := 10) d_X12_term_237 ⟨by decide, by decide⟩ (by decide) ?_
        refine r_aload_n (x := t) d_X12_term_239 rfl o_t.1 ?_
        refine r_aload_n (x := t) d_X12_term_240 rfl o_t.1 ?_
        refine r_getf (j := 21) (t := 0) (x := (σ25 t 21)) d_X12_term_241 kX12 (by decide) fl_X12_255 o_t.1 o_t.2.1 o_t.2.2.1 o_t.2.2.2 rfl rfl ?_
        refine r_iconst (x := 3) d_X12_term_244 ⟨by decide, by decide⟩ ?_
        refine r_isub d_X12_term_245 ?_
        refine r_callV (Y2 := mX12_letterAt) (d := d - 1) (mc := 0) (ms := 0) (c := t) (As := [(0, (subI (σ25 t 21) 3))]) (S := [(0, 10), (0, (mulI 100 v26)), (2, t_rankOf)]) d_X12_term_246 ok_mX12_letterAt ml_X12_290 rfl (rmc h0d (by decide)) rm00 (Nat.le_of_ble_eq_true rfl) rfl kX12 o_t.1 o_t.2.1 o_t.2.2.1 o_t.2.2.2 (MC.mono h (fun r N1 Λ1 σ27 hq => ?_))
        obtain ⟨v28, rfl, rfl, rfl, h⟩ := hq
        refine r_imul d_X12_term_249 ?_
        refine r_iadd d_X12_term_250 ?_
        refine r_aload_n (x := t) d_X12_term_251 rfl o_t.1 ?_
        refine r_aload_n (x := t) d_X12_term_252 rfl o_t.1 ?_
        refine r_getf (j := 21) (t := 0) (x := (σ27 t 21)) d_X12_term_253 kX12 (by decide) fl_X12_255 o_t.1 o_t.2.1 o_t.2.2.1 o_t.2.2.2 rfl rfl ?_
        refine r_iconst (x := 2) d_X12_term_256 ⟨by decide, by decide⟩ ?_
        refine r_isub d_X12_term_257 ?_
        refine r_callV (Y2 := mX12_letterAt) (d := d - 1) (mc := 0) (ms := 0) (c := t) (As := [(0, (subI (σ27 t 21) 2))]) (S := [(0, (addI (mulI 100 v26) (mulI 10 v28))), (2, t_rankOf)]) d_X12_term_258 ok_mX12_letterAt ml_X12_290 rfl (rmc h0d (by decide)) rm00 (Nat.le_of_ble_eq_true rfl) rfl kX12 o_t.1 o_t.2.1 o_t.2.2.1 o_t.2.2.2 (MC.mono h (fun r N1 Λ1 σ29 hq => ?_))
        obtain ⟨v30, rfl, rfl, rfl, h⟩ := hq
        refine r_iadd d_X12_term_261 ?_
        refine x_iald d_X12_term_262 h.1 ?_
        have h := h.2
        refine r_nm (fun y31 ey31 => ?_)
        have h := h y31 ey31
        refine r_istore (L2 := [(2, t), (0, x1), (0, x2), (0, x3), (0, x4), (0, x5), (1, x6), (3, 0), (0, x8), (0, y31)]) d_X12_term_263 (by decide) rfl rfl ?_
        refine r_iload (x := y31) d_X12_term_265 rfl ?_
        refine r_if_ge (tgt := 276) d_X12_term_267 rfl (fun hc => ?_) (fun hc => ?_)
        · have h := h.1 hc
          refine r_iload (x := y31) d_X12_term_276 rfl ?_
          refine r_if_ne (tgt := 285) d_X12_term_278 rfl (fun hc => ?_) (fun hc => ?_)
          · have h := h.1 hc
            refine r_lload (x := x6) d_X12_term_285 rfl ?_
            refine r_lstore (L2 := [(2, t), (0, x1), (0, x2), (0, x3), (0, x4), (0, x5), (1, x6), (3, 0), (0, x8), (0, y31)]) d_X12_term_287 (by decide) rfl rfl ?_
            refine r_aload_n (x := t) d_X12_term_289 rfl o_t.1 ?_
            refine r_getf (j := 9) (t := 2) (x := t_ranks) d_X12_term_290 kX12 (by decide) fl_X12_33 o_t.1 o_t.2.1 o_t.2.2.1 o_t.2.2.2 rfl f_t_ranks ?_
            refine r_iload (x := x8) d_X12_term_293 rfl ?_
            refine r_iload (x := y31) d_X12_term_295 rfl ?_
            refine r_callS (Y2 := mX12_sizeOf) (d := d - 1) (mc := 0) (ms := 0) (As := [(0, y31)]) (S := [(0, x8), (2, t_ranks)]) d_X12_term_297 ok_mX12_sizeOf ml_X12_168 rfl (rmc h0d (by decide)) rm00 (Nat.le_of_ble_eq_true rfl) rfl (MC.mono h (fun r N1 Λ1 σ32 hq => ?_))
            obtain ⟨v33, rfl, rfl, rfl, h⟩ := hq
            refine x_iast d_X12_term_300 h.1 ?_
            have h := h.2
            refine r_nmM (fun τ34 eτ34 => ?_)
            have h := h τ34 eτ34
            refine x_iinc (x := x8) (L := [(2, t), (0, x1), (0, x2), (0, x3), (0, x4), (0, x5), (1, x6), (3, 0), (0, x8), (0, y31)]) d_X12_term_301 rfl (by decide) rfl (fun y35 ey35 => ?_)
            have h := h y35 ey35
            show WP _ _ _ _ _ _ _ _ [(2, t), (0, x1), (0, x2), (0, x3), (0, x4), (0, x5), (1, x6), (3, 0), (0, y35), (0, y31)] _ _ _ _
            refine r_goto (tgt := 129) d_X12_term_304 rfl ?_
            exact x_mask h ⟨Or.inr rfl, Or.inr rfl, Or.inr rfl, Or.inr rfl, Or.inr rfl, Or.inr rfl, Or.inr rfl, Or.inl rfl, Or.inr rfl, Or.inl rfl, trivial⟩
          · have h := h.2 hc
            refine r_lconst d_X12_term_281 ?_
            skip
            refine r_goto (tgt := 287) d_X12_term_282 rfl ?_
            refine r_lstore (L2 := [(2, t), (0, x1), (0, x2), (0, x3), (0, x4), (0, x5), (1, 0), (3, 0), (0, x8), (0, y31)]) d_X12_term_287 (by decide) rfl rfl ?_
            refine r_aload_n (x := t) d_X12_term_289 rfl o_t.1 ?_
            refine r_getf (j := 9) (t := 2) (x := t_ranks) d_X12_term_290 kX12 (by decide) fl_X12_33 o_t.1 o_t.2.1 o_t.2.2.1 o_t.2.2.2 rfl f_t_ranks ?_
            refine r_iload (x := x8) d_X12_term_293 rfl ?_
            refine r_iload (x := y31) d_X12_term_295 rfl ?_
            refine r_callS (Y2 := mX12_sizeOf) (d := d - 1) (mc := 0) (ms := 0) (As := [(0, y31)]) (S := [(0, x8), (2, t_ranks)]) d_X12_term_297 ok_mX12_sizeOf ml_X12_168 rfl (rmc h0d (by decide)) rm00 (Nat.le_of_ble_eq_true rfl) rfl (MC.mono h (fun r N1 Λ1 σ36 hq => ?_))
            obtain ⟨v37, rfl, rfl, rfl, h⟩ := hq
            refine x_iast d_X12_term_300 h.1 ?_
            have h := h.2
            refine r_nmM (fun τ38 eτ38 => ?_)
            have h := h τ38 eτ38
            refine x_iinc (x := x8) (L := [(2, t), (0, x1), (0, x2), (0, x3), (0, x4), (0, x5), (1, 0), (3, 0), (0, x8), (0, y31)]) d_X12_term_301 rfl (by decide) rfl (fun y39 ey39 => ?_)
            have h := h y39 ey39
            show WP _ _ _ _ _ _ _ _ [(2, t), (0, x1), (0, x2), (0, x3), (0, x4), (0, x5), (1, 0), (3, 0), (0, y39), (0, y31)] _ _ _ _
            refine r_goto (tgt := 129) d_X12_term_304 rfl ?_
            exact x_mask h ⟨Or.inr rfl, Or.inr rfl, Or.inr rfl, Or.inr rfl, Or.inr rfl, Or.inr rfl, Or.inr rfl, Or.inl rfl, Or.inr rfl, Or.inl rfl, trivial⟩
        · have h := h.2 hc
          refine r_lload (x := x6) d_X12_term_270 rfl ?_
          refine r_lneg d_X12_term_272 ?_
          refine r_goto (tgt := 287) d_X12_term_273 rfl ?_
          refine r_nm (fun y40 ey40 => ?_)
          have h := h y40 ey40
          refine r_lstore (L2 := [(2, t), (0, x1), (0, x2), (0, x3), (0, x4), (0, x5), (1, y40), (3, 0), (0, x8), (0, y31)]) d_X12_term_287 (by decide) rfl rfl ?_
          refine r_aload_n (x := t) d_X12_term_289 rfl o_t.1 ?_
          refine r_getf (j := 9) (t := 2) (x := t_ranks) d_X12_term_290 kX12 (by decide) fl_X12_33 o_t.1 o_t.2.1 o_t.2.2.1 o_t.2.2.2 rfl f_t_ranks ?_
          refine r_iload (x := x8) d_X12_term_293 rfl ?_
          refine r_iload (x := y31) d_X12_term_295 rfl ?_
          refine r_callS (Y2 := mX12_sizeOf) (d := d - 1) (mc := 0) (ms := 0) (As := [(0, y31)]) (S := [(0, x8), (2, t_ranks)]) d_X12_term_297 ok_mX12_sizeOf ml_X12_168 rfl (rmc h0d (by decide)) rm00 (Nat.le_of_ble_eq_true rfl) rfl (MC.mono h (fun r N1 Λ1 σ41 hq => ?_))
          obtain ⟨v42, rfl, rfl, rfl, h⟩ := hq
          refine x_iast d_X12_term_300 h.1 ?_
          have h := h.2
          refine r_nmM (fun τ43 eτ43 => ?_)
          have h := h τ43 eτ43
          refine x_iinc (x := x8) (L := [(2, t), (0, x1), (0, x2), (0, x3), (0, x4), (0, x5), (1, y40), (3, 0), (0, x8), (0, y31)]) d_X12_term_301 rfl (by decide) rfl (fun y44 ey44 => ?_)
          have h := h y44 ey44
          show WP _ _ _ _ _ _ _ _ [(2, t), (0, x1), (0, x2), (0, x3), (0, x4), (0, x5), (1, y40), (3, 0), (0, y44), (0, y31)] _ _ _ _
          refine r_goto (tgt := 129) d_X12_term_304 rfl ?_
          exact x_mask h ⟨Or.inr rfl, Or.inr rfl, Or.inr rfl, Or.inr rfl, Or.inr rfl, Or.inr rfl, Or.inr rfl, Or.inl rfl, Or.inr rfl, Or.inl rfl, trivial⟩
      · have h := h.2 hc
        exact r_vret d_X12_term_219 rfl (Nat.le_refl 0) (Nat.le_refl 0) ⟨rfl, rfl, rfl, h⟩
  · have h := h.2 hc
    refine r_aload_n (x := t) d_X12_term_180 rfl o_t.1 ?_
    refine r_aload_n (x := t) d_X12_term_181 rfl o_t.1 ?_
    refine r_callV (Y2 := mX12_seesLetter) (d := d - 1) (mc := 0) (ms := 0) (c := t) (As := []) (S := [(2, t)]) d_X12_term_182 ok_mX12_seesLetter ml_X12_283 rfl (rmc h0d (by decide)) rm00 (Nat.le_of_ble_eq_true rfl) rfl kX12 o_t.1 o_t.2.1 o_t.2.2.1 o_t.2.2.2 (MC.mono h (fun r N1 Λ1 σ45 hq => ?_))
    obtain ⟨v46, rfl, rfl, rfl, h⟩ := hq
    refine r_callV (Y2 := mX12_must) (d := d - 1) (mc := 0) (ms := 0) (c := t) (As := [(0, v46)]) (S := []) d_X12_term_185 ok_mX12_must ml_X12_286 rfl (rmc h0d (by decide)) rm00 (Nat.le_of_ble_eq_true rfl) rfl kX12 o_t.1 o_t.2.1 o_t.2.2.1 o_t.2.2.2 (MC.mono h (fun r N1 Λ1 σ47 hq => ?_))
    obtain ⟨rfl, rfl, rfl, h⟩ := hq
    refine x_iinc (x := x9) (L := [(2, t), (0, x1), (0, x2), (0, x3), (0, x4), (0, x5), (1, x6), (3, 0), (0, x8), (0, x9)]) d_X12_term_188 rfl (by decide) rfl (fun y48 ey48 => ?_)
    have h := h y48 ey48
    show WP _ _ _ _ _ _ _ _ [(2, t), (0, x1), (0, x2), (0, x3), (0, x4), (0, x5), (1, x6), (3, 0), (0, x8), (0, y48)] _ _ _ _
    refine r_goto (tgt := 174) d_X12_term_191 rfl ?_
    exact h
theorem v_X12_polynomial_0 {l : Launch} {d N : Nat} {Λ : Lay} {P : Mem → Prop} {σ : Mem} {x1 t : Int} (o_t : Ob N Λ t 21 36)
    (h : (∀ τ1, τ1 = st σ t 21 0 → (((τ1 t 20) ≤ 0 → WV l mX12_polynomial d P 17 [(2, t), (0, x1), (3, 0), (3, 0), (3, 0), (3, 0)] [(0, 0)] N Λ τ1) ∧ (¬ ((τ1 t 20) ≤ 0) → WV l mX12_polynomial d P 17 [(2, t), (0, x1), (3, 0), (3, 0), (3, 0), (3, 0)] [(0, 1)] N Λ τ1)))) :
    WV l mX12_polynomial d P 0 [(2, t), (0, x1), (3, 0), (3, 0), (3, 0), (3, 0)] [] N Λ σ := by
  refine r_aload_n (x := t) d_X12_polynomial_0 rfl o_t.1 ?_
  refine r_iconst (x := 0) d_X12_polynomial_1 ⟨by decide, by decide⟩ ?_
  refine r_putI (j := 21) d_X12_polynomial_2 kX12 (by decide) fl_X12_255 rfl o_t.1 o_t.2.1 o_t.2.2.1 o_t.2.2.2 rfl ?_
  refine r_nmM (fun τ1 eτ1 => ?_)
  have h := h τ1 eτ1
  refine r_aload_n (x := t) d_X12_polynomial_5 rfl o_t.1 ?_
  refine r_getf (j := 20) (t := 0) (x := (τ1 t 20)) d_X12_polynomial_6 kX12 (by decide) fl_X12_258 o_t.1 o_t.2.1 o_t.2.2.1 o_t.2.2.2 rfl rfl ?_
  refine r_if_le (tgt := 16) d_X12_polynomial_9 rfl (fun hc => ?_) (fun hc => ?_)
  · have h := h.1 hc
    refine r_iconst (x := 0) d_X12_polynomial_16 ⟨by decide, by decide⟩ ?_
    exact h
  · have h := h.2 hc
    refine r_iconst (x := 1) d_X12_polynomial_12 ⟨by decide, by decide⟩ ?_
    refine r_goto (tgt := 17) d_X12_polynomial_13 rfl ?_
    exact h
theorem v_X12_polynomial_17 {l : Launch} {d N : Nat} {Λ : Lay} {P : Mem → Prop} {σ : Mem} {x1 w0 t : Int}
    (h : WV l mX12_polynomial d P 20 [(2, t), (0, x1), (0, w0), (0, 1), (3, 0), (3, 0)] [] N Λ σ) :
    WV l mX12_polynomial d P 17 [(2, t), (0, x1), (3, 0), (3, 0), (3, 0), (3, 0)] [(0, w0)] N Λ σ := by
  refine r_istore_n (L2 := [(2, t), (0, x1), (0, w0), (3, 0), (3, 0), (3, 0)]) d_X12_polynomial_17 (by decide) rfl rfl ?_
  refine r_iconst (x := 1) d_X12_polynomial_18 ⟨by decide, by decide⟩ ?_
  refine r_istore_n (L2 := [(2, t), (0, x1), (0, w0), (0, 1), (3, 0), (3, 0)]) d_X12_polynomial_19 (by decide) rfl rfl ?_
  exact h
theorem v_X12_polynomial_20 {l : Launch} {d N : Nat} {Λ : Lay} {P : Mem → Prop} {σ : Mem} {x1 x2 x3 t : Int} (o_t : Ob N Λ t 21 36) (h0d : 1 ≤ d)
    (h : ((x2 = 0 → WV l mX12_polynomial d P 146 [(2, t), (0, x1), (0, x2), (0, x3), (3, 0), (3, 0)] [] N Λ σ) ∧ (¬ (x2 = 0) → ((¬ (σ t 22) = 0 → WV l mX12_polynomial d P 146 [(2, t), (0, x1), (0, x2), (0, x3), (3, 0), (3, 0)] [] N Λ σ) ∧ ((σ t 22) = 0 → (CI l mX12_see (d - 1) [(2, t)] N Λ σ (fun v2 σ1 => ((v2 = 43 → WV l mX12_polynomial d P 49 [(2, t), (0, x1), (0, x2), (0, x3), (3, 0), (3, 0)] [] N Λ σ1) ∧ (¬ (v2 = 43) → (CI l mX12_see (d - 1) [(2, t)] N Λ σ1 (fun v4 σ3 => ((¬ v4 = 45 → WV l mX12_polynomial d P 54 [(2, t), (0, x1), (0, x2), (0, x3), (3, 0), (3, 0)] [(0, 0)] N Λ σ3) ∧ (v4 = 45 → WV l mX12_polynomial d P 49 [(2, t), (0, x1), (0, x2), (0, x3), (3, 0), (3, 0)] [] N Λ σ3))))))))))))) :
    WV l mX12_polynomial d P 20 [(2, t), (0, x1), (0, x2), (0, x3), (3, 0), (3, 0)] [] N Λ σ := by
  refine r_iload_n (x := x2) d_X12_polynomial_20 rfl ?_
  refine r_if_eq (tgt := 146) d_X12_polynomial_21 rfl (fun hc => ?_) (fun hc => ?_)
  · have h := h.1 hc
    exact h
  · have h := h.2 hc
    refine r_aload_n (x := t) d_X12_polynomial_24 rfl o_t.1 ?_
    refine r_getf (j := 22) (t := 0) (x := (σ t 22)) d_X12_polynomial_25 kX12 (by decide) fl_X12_261 o_t.1 o_t.2.1 o_t.2.2.1 o_t.2.2.2 rfl rfl ?_
    refine r_if_ne (tgt := 146) d_X12_polynomial_28 rfl (fun hc => ?_) (fun hc => ?_)
    · have h := h.1 hc
      exact h
    · have h := h.2 hc
      refine r_aload_n (x := t) d_X12_polynomial_31 rfl o_t.1 ?_
      refine r_callV (Y2 := mX12_see) (d := d - 1) (mc := 0) (ms := 0) (c := t) (As := []) (S := []) d_X12_polynomial_32 ok_mX12_see ml_X12_264 rfl (rmc h0d (by decide)) rm00 (Nat.le_of_ble_eq_true rfl) rfl kX12 o_t.1 o_t.2.1 o_t.2.2.1 o_t.2.2.2 (MC.mono h (fun r N1 Λ1 σ1 hq => ?_))
      obtain ⟨v2, rfl, rfl, rfl, h⟩ := hq
      refine r_bipush (x := 43) d_X12_polynomial_35 ⟨by decide, by decide⟩ (by decide) ?_
      refine r_ic_eq (tgt := 49) d_X12_polynomial_37 rfl (fun hc => ?_) (fun hc => ?_)
      · have h := h.1 hc
        exact h
      · have h := h.2 hc
        refine r_aload_n (x := t) d_X12_polynomial_40 rfl o_t.1 ?_
        refine r_callV (Y2 := mX12_see) (d := d - 1) (mc := 0) (ms := 0) (c := t) (As := []) (S := []) d_X12_polynomial_41 ok_mX12_see ml_X12_264 rfl (rmc h0d (by decide)) rm00 (Nat.le_of_ble_eq_true rfl) rfl kX12 o_t.1 o_t.2.1 o_t.2.2.1 o_t.2.2.2 (MC.mono h (fun r N1 Λ1 σ3 hq => ?_))
        obtain ⟨v4, rfl, rfl, rfl, h⟩ := hq
        refine r_bipush (x := 45) d_X12_polynomial_44 ⟨by decide, by decide⟩ (by decide) ?_
        refine r_ic_ne (tgt := 53) d_X12_polynomial_46 rfl (fun hc => ?_) (fun hc => ?_)
        · have h := h.1 hc
          refine r_iconst (x := 0) d_X12_polynomial_53 ⟨by decide, by decide⟩ ?_
          exact h
        · have h := h.2 hc
          exact h
theorem v_X12_polynomial_49 {l : Launch} {d N : Nat} {Λ : Lay} {P : Mem → Prop} {σ : Mem} {x1 x2 x3 t : Int}
    (h : WV l mX12_polynomial d P 54 [(2, t), (0, x1), (0, x2), (0, x3), (3, 0), (3, 0)] [(0, 1)] N Λ σ) :
    WV l mX12_polynomial d P 49 [(2, t), (0, x1), (0, x2), (0, x3), (3, 0), (3, 0)] [] N Λ σ := by
  refine r_iconst (x := 1) d_X12_polynomial_49 ⟨by decide, by decide⟩ ?_
  refine r_goto (tgt := 54) d_X12_polynomial_50 rfl ?_
  exact h
theorem v_X12_polynomial_54 {l : Launch} {d N : Nat} {Λ : Lay} {P : Mem → Prop} {σ : Mem} {x1 x2 x3 w0 t : Int} (o_t : Ob N Λ t 21 36) (h0d : 1 ≤ d)
    (h : (CI l mX12_see (d - 1) [(2, t)] N Λ σ (fun v2 σ1 => ((¬ v2 = 45 → WV l mX12_polynomial d P 70 [(2, t), (0, x1), (0, x2), (0, x3), (0, w0), (3, 0)] [(0, 1)] N Λ σ1) ∧ (v2 = 45 → WV l mX12_polynomial d P 70 [(2, t), (0, x1), (0, x2), (0, x3), (0, w0), (3, 0)] [(0, (-1))] N Λ σ1))))) :
    WV l mX12_polynomial d P 54 [(2, t), (0, x1), (0, x2), (0, x3), (3, 0), (3, 0)] [(0, w0)] N Λ σ := by
  refine r_istore (L2 := [(2, t), (0, x1), (0, x2), (0, x3), (0, w0), (3, 0)]) d_X12_polynomial_54 (by decide) rfl rfl ?_
  refine r_aload_n (x := t) d_X12_polynomial_56 rfl o_t.1 ?_
  refine r_callV (Y2 := mX12_see) (d := d - 1) (mc := 0) (ms := 0) (c := t) (As := []) (S := []) d_X12_polynomial_57 ok_mX12_see ml_X12_264 rfl (rmc h0d (by decide)) rm00 (Nat.le_of_ble_eq_true rfl) rfl kX12 o_t.1 o_t.2.1 o_t.2.2.1 o_t.2.2.2 (MC.mono h (fun r N1 Λ1 σ1 hq => ?_))
  obtain ⟨v2, rfl, rfl, rfl, h⟩ := hq
  refine r_bipush (x := 45) d_X12_polynomial_60 ⟨by decide, by decide⟩ (by decide) ?_
  refine r_ic_ne (tgt := 69) d_X12_polynomial_62 rfl (fun hc => ?_) (fun hc => ?_)
  · have h := h.1 hc
    refine r_iconst (x := 1) d_X12_polynomial_69 ⟨by decide, by decide⟩ ?_
    exact h
  · have h := h.2 hc
    refine r_iconst (x := (-1)) d_X12_polynomial_65 ⟨by decide, by decide⟩ ?_
    refine r_goto (tgt := 70) d_X12_polynomial_66 rfl ?_
    exact h
theorem v_X12_polynomial_70 {l : Launch} {d N : Nat} {Λ : Lay} {P : Mem → Prop} {σ : Mem} {x1 x2 x3 x4 w0 t : Int} (o_t : Ob N Λ t 21 36) (h0d : 1 ≤ d)
    (h : ((x4 = 0 → ((¬ x3 = 0 → WV l mX12_polynomial d P 103 [(2, t), (0, x1), (0, x2), (0, x3), (0, x4), (0, w0)] [] N Λ σ) ∧ (x3 = 0 → (CV l mX12_wrongs (d - 1) [(2, t), (0, 1), (0, (σ t 21))] N Λ σ (fun σ1 => WV l mX12_polynomial d P 103 [(2, t), (0, x1), (0, x2), (0, x3), (0, x4), (0, w0)] [] N Λ σ1))))) ∧ (¬ (x4 = 0) → (∀ τ2, τ2 = st σ t 21 (addI (σ t 21) 1) → WV l mX12_polynomial d P 103 [(2, t), (0, x1), (0, x2), (0, x3), (0, x4), (0, w0)] [] N Λ τ2)))) :
    WV l mX12_polynomial d P 70 [(2, t), (0, x1), (0, x2), (0, x3), (0, x4), (3, 0)] [(0, w0)] N Λ σ := by
  refine r_istore (L2 := [(2, t), (0, x1), (0, x2), (0, x3), (0, x4), (0, w0)]) d_X12_polynomial_70 (by decide) rfl rfl ?_
  refine r_iload (x := x4) d_X12_polynomial_72 rfl ?_
  refine r_if_eq (tgt := 90) d_X12_polynomial_74 rfl (fun hc => ?_) (fun hc => ?_)
  · have h := h.1 hc
    refine r_iload_n (x := x3) d_X12_polynomial_90 rfl ?_
    refine r_if_ne (tgt := 103) d_X12_polynomial_91 rfl (fun hc => ?_) (fun hc => ?_)
    · have h := h.1 hc
      exact h
    · have h := h.2 hc
      refine r_aload_n (x := t) d_X12_polynomial_94 rfl o_t.1 ?_
      refine r_iconst (x := 1) d_X12_polynomial_95 ⟨by decide, by decide⟩ ?_
      refine r_aload_n (x := t) d_X12_polynomial_96 rfl o_t.1 ?_
      refine r_getf (j := 21) (t := 0) (x := (σ t 21)) d_X12_polynomial_97 kX12 (by decide) fl_X12_255 o_t.1 o_t.2.1 o_t.2.2.1 o_t.2.2.2 rfl rfl ?_
      refine r_callV (Y2 := mX12_wrongs) (d := d - 1) (mc := 0) (ms := 0) (c := t) (As := [(0, 1), (0, (σ t 21))]) (S := []) d_X12_polynomial_100 ok_mX12_wrongs ml_X12_276 rfl (rmc h0d (by decide)) rm00 (Nat.le_of_ble_eq_true rfl) rfl kX12 o_t.1 o_t.2.1 o_t.2.2.1 o_t.2.2.2 (MC.mono h (fun r N1 Λ1 σ1 hq => ?_))
      obtain ⟨rfl, rfl, rfl, h⟩ := hq
      exact h
  · have h := h.2 hc
    refine r_aload_n (x := t) d_X12_polynomial_77 rfl o_t.1 ?_
    refine r_dup d_X12_polynomial_78 rfl ?_
    refine r_getf (j := 21) (t := 0) (x := (σ t 21)) d_X12_polynomial_79 kX12 (by decide) fl_X12_255 o_t.1 o_t.2.1 o_t.2.2.1 o_t.2.2.2 rfl rfl ?_
    refine r_iconst (x := 1) d_X12_polynomial_82 ⟨by decide, by decide⟩ ?_
    refine r_iadd d_X12_polynomial_83 ?_
    refine r_putI (j := 21) d_X12_polynomial_84 kX12 (by decide) fl_X12_255 rfl o_t.1 o_t.2.1 o_t.2.2.1 o_t.2.2.2 rfl ?_
    refine r_nmM (fun τ2 eτ2 => ?_)
    have h := h τ2 eτ2
    refine r_goto (tgt := 103) d_X12_polynomial_87 rfl ?_
    exact h
theorem v_X12_polynomial_103 {l : Launch} {d N : Nat} {Λ : Lay} {P : Mem → Prop} {σ : Mem} {x1 x2 x3 x4 x5 t : Int} (o_t : Ob N Λ t 21 36) (h0d : 1 ≤ d)
    (h : ((¬ (σ t 22) = 0 → WV l mX12_polynomial d P 119 [(2, t), (0, x1), (0, x2), (0, 0), (0, x4), (0, x5)] [] N Λ σ) ∧ ((σ t 22) = 0 → (CV l mX12_term (d - 1) [(2, t), (0, x5), (0, x1)] N Λ σ (fun σ1 => WV l mX12_polynomial d P 119 [(2, t), (0, x1), (0, x2), (0, 0), (0, x4), (0, x5)] [] N Λ σ1))))) :
    WV l mX12_polynomial d P 103 [(2, t), (0, x1), (0, x2), (0, x3), (0, x4), (0, x5)] [] N Λ σ := by
  refine r_iconst (x := 0) d_X12_polynomial_103 ⟨by decide, by decide⟩ ?_
  refine r_istore_n (L2 := [(2, t), (0, x1), (0, x2), (0, 0), (0, x4), (0, x5)]) d_X12_polynomial_104 (by decide) rfl rfl ?_
  refine r_aload_n (x := t) d_X12_polynomial_105 rfl o_t.1 ?_
  refine r_getf (j := 22) (t := 0) (x := (σ t 22)) d_X12_polynomial_106 kX12 (by decide) fl_X12_261 o_t.1 o_t.2.1 o_t.2.2.1 o_t.2.2.2 rfl rfl ?_
  refine r_if_ne (tgt := 119) d_X12_polynomial_109 rfl (fun hc => ?_) (fun hc => ?_)
  · have h := h.1 hc
    exact h
  · have h := h.2 hc
    refine r_aload_n (x := t) d_X12_polynomial_112 rfl o_t.1 ?_
    refine r_iload (x := x5) d_X12_polynomial_113 rfl ?_
    refine r_iload_n (x := x1) d_X12_polynomial_115 rfl ?_
    refine r_callV (Y2 := mX12_term) (d := d - 1) (mc := 0) (ms := 0) (c := t) (As := [(0, x5), (0, x1)]) (S := []) d_X12_polynomial_116 ok_mX12_term ml_X12_293 rfl (rmc h0d (by decide)) rm00 (Nat.le_of_ble_eq_true rfl) rfl kX12 o_t.1 o_t.2.1 o_t.2.2.1 o_t.2.2.2 (MC.mono h (fun r N1 Λ1 σ1 hq => ?_))
    obtain ⟨rfl, rfl, rfl, h⟩ := hq
    exact h
theorem v_X12_polynomial_119 {l : Launch} {d N : Nat} {Λ : Lay} {P : Mem → Prop} {σ : Mem} {x1 x2 x3 x4 x5 t : Int} (o_t : Ob N Λ t 21 36)
    (h : ((¬ (σ t 22) = 0 → WV l mX12_polynomial d P 141 [(2, t), (0, x1), (0, x2), (0, x3), (0, x4), (0, x5)] [] N Λ σ) ∧ ((σ t 22) = 0 → (((σ t 20) ≤ (σ t 21) → WV l mX12_polynomial d P 141 [(2, t), (0, x1), (0, x2), (0, x3), (0, x4), (0, x5)] [] N Λ σ) ∧ (¬ ((σ t 20) ≤ (σ t 21)) → WV l mX12_polynomial d P 142 [(2, t), (0, x1), (0, x2), (0, x3), (0, x4), (0, x5)] [(0, 1)] N Λ σ))))) :
    WV l mX12_polynomial d P 119 [(2, t), (0, x1), (0, x2), (0, x3), (0, x4), (0, x5)] [] N Λ σ := by
  refine r_aload_n (x := t) d_X12_polynomial_119 rfl o_t.1 ?_
  refine r_getf (j := 22) (t := 0) (x := (σ t 22)) d_X12_polynomial_120 kX12 (by decide) fl_X12_261 o_t.1 o_t.2.1 o_t.2.2.1 o_t.2.2.2 rfl rfl ?_
  refine r_if_ne (tgt := 141) d_X12_polynomial_123 rfl (fun hc => ?_) (fun hc => ?_)
  · have h := h.1 hc
    exact h
  · have h := h.2 hc
    refine r_aload_n (x := t) d_X12_polynomial_126 rfl o_t.1 ?_
    refine r_getf (j := 21) (t := 0) (x := (σ t 21)) d_X12_polynomial_127 kX12 (by decide) fl_X12_255 o_t.1 o_t.2.1 o_t.2.2.1 o_t.2.2.2 rfl rfl ?_
    refine r_aload_n (x := t) d_X12_polynomial_130 rfl o_t.1 ?_
    refine r_getf (j := 20) (t := 0) (x := (σ t 20)) d_X12_polynomial_131 kX12 (by decide) fl_X12_258 o_t.1 o_t.2.1 o_t.2.2.1 o_t.2.2.2 rfl rfl ?_
    refine r_ic_ge (tgt := 141) d_X12_polynomial_134 rfl (fun hc => ?_) (fun hc => ?_)
    · have h := h.1 hc
      exact h
    · have h := h.2 hc
      refine r_iconst (x := 1) d_X12_polynomial_137 ⟨by decide, by decide⟩ ?_
      refine r_goto (tgt := 142) d_X12_polynomial_138 rfl ?_
      exact h
theorem v_X12_polynomial_141 {l : Launch} {d N : Nat} {Λ : Lay} {P : Mem → Prop} {σ : Mem} {x1 x2 x3 x4 x5 t : Int}
    (h : WV l mX12_polynomial d P 142 [(2, t), (0, x1), (0, x2), (0, x3), (0, x4), (0, x5)] [(0, 0)] N Λ σ) :
    WV l mX12_polynomial d P 141 [(2, t), (0, x1), (0, x2), (0, x3), (0, x4), (0, x5)] [] N Λ σ := by
  refine r_iconst (x := 0) d_X12_polynomial_141 ⟨by decide, by decide⟩ ?_
  exact h
theorem v_X12_polynomial_142 {l : Launch} {d N : Nat} {Λ : Lay} {P : Mem → Prop} {σ : Mem} {x1 x2 x3 x4 x5 w0 t : Int}
    (h : WV l mX12_polynomial d P 20 [(2, t), (0, x1), (0, w0), (0, x3), (3, 0), (3, 0)] [] N Λ σ) :
    WV l mX12_polynomial d P 142 [(2, t), (0, x1), (0, x2), (0, x3), (0, x4), (0, x5)] [(0, w0)] N Λ σ := by
  refine r_istore_n (L2 := [(2, t), (0, x1), (0, w0), (0, x3), (0, x4), (0, x5)]) d_X12_polynomial_142 (by decide) rfl rfl ?_
  refine r_goto (tgt := 20) d_X12_polynomial_143 rfl ?_
  exact x_mask h ⟨Or.inr rfl, Or.inr rfl, Or.inr rfl, Or.inr rfl, Or.inl rfl, Or.inl rfl, trivial⟩
theorem v_X12_polynomial_146 {l : Launch} {d N : Nat} {Λ : Lay} {P : Mem → Prop} {σ : Mem} {x1 x2 x3 t : Int}
    (h : P σ) :
    WV l mX12_polynomial d P 146 [(2, t), (0, x1), (0, x2), (0, x3), (3, 0), (3, 0)] [] N Λ σ := by
  exact r_vret d_X12_polynomial_146 rfl (Nat.le_refl 0) (Nat.le_refl 0) ⟨rfl, rfl, rfl, h⟩
