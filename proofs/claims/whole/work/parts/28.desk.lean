theorem d_X11_feed_0 : DC mX11_feed 0 (.aload_n 0) 1 1 := ⟨by decide +kernel, rfl⟩
theorem d_X11_feed_1 : DC mX11_feed 1 (.getfield 34) 3 4 := ⟨by decide +kernel, rfl⟩
theorem d_X11_feed_4 : DC mX11_feed 4 (.getfield 94) 3 7 := ⟨by decide +kernel, rfl⟩
theorem d_X11_feed_7 : DC mX11_feed 7 (.bipush 20) 2 9 := ⟨by decide +kernel, rfl⟩
theorem d_X11_feed_9 : DC mX11_feed 9 (.iadd) 1 10 := ⟨by decide +kernel, rfl⟩
theorem d_X11_feed_10 : DC mX11_feed 10 (.sipush 300) 3 13 := ⟨by decide +kernel, rfl⟩
theorem d_X11_feed_13 : DC mX11_feed 13 (.if_icmp .le 6) 3 16 := ⟨by decide +kernel, rfl⟩
theorem d_X11_feed_16 : DC mX11_feed 16 (.bipush (-4)) 2 18 := ⟨by decide +kernel, rfl⟩
theorem d_X11_feed_18 : DC mX11_feed 18 (.ireturn) 1 19 := ⟨by decide +kernel, rfl⟩
theorem d_X11_feed_19 : DC mX11_feed 19 (.aload_n 0) 1 20 := ⟨by decide +kernel, rfl⟩
theorem d_X11_feed_20 : DC mX11_feed 20 (.getfield 34) 3 23 := ⟨by decide +kernel, rfl⟩
theorem d_X11_feed_23 : DC mX11_feed 23 (.iload_n 1) 1 24 := ⟨by decide +kernel, rfl⟩
theorem d_X11_feed_24 : DC mX11_feed 24 (.invokevirtual 97) 3 27 := ⟨by decide +kernel, rfl⟩
theorem d_X11_feed_27 : DC mX11_feed 27 (.aload_n 0) 1 28 := ⟨by decide +kernel, rfl⟩
theorem d_X11_feed_28 : DC mX11_feed 28 (.getfield 34) 3 31 := ⟨by decide +kernel, rfl⟩
theorem d_X11_feed_31 : DC mX11_feed 31 (.iload_n 2) 1 32 := ⟨by decide +kernel, rfl⟩
theorem d_X11_feed_32 : DC mX11_feed 32 (.invokevirtual 97) 3 35 := ⟨by decide +kernel, rfl⟩
theorem d_X11_feed_35 : DC mX11_feed 35 (.aload_n 0) 1 36 := ⟨by decide +kernel, rfl⟩
theorem d_X11_feed_36 : DC mX11_feed 36 (.getfield 34) 3 39 := ⟨by decide +kernel, rfl⟩
theorem d_X11_feed_39 : DC mX11_feed 39 (.iload_n 3) 1 40 := ⟨by decide +kernel, rfl⟩
theorem d_X11_feed_40 : DC mX11_feed 40 (.invokevirtual 97) 3 43 := ⟨by decide +kernel, rfl⟩
theorem d_X11_feed_43 : DC mX11_feed 43 (.aload_n 0) 1 44 := ⟨by decide +kernel, rfl⟩
theorem d_X11_feed_44 : DC mX11_feed 44 (.getfield 34) 3 47 := ⟨by decide +kernel, rfl⟩
theorem d_X11_feed_47 : DC mX11_feed 47 (.iload 4) 2 49 := ⟨by decide +kernel, rfl⟩
theorem d_X11_feed_49 : DC mX11_feed 49 (.invokevirtual 97) 3 52 := ⟨by decide +kernel, rfl⟩
theorem d_X11_feed_52 : DC mX11_feed 52 (.aload_n 0) 1 53 := ⟨by decide +kernel, rfl⟩
theorem d_X11_feed_53 : DC mX11_feed 53 (.getfield 34) 3 56 := ⟨by decide +kernel, rfl⟩
theorem d_X11_feed_56 : DC mX11_feed 56 (.iload 5) 2 58 := ⟨by decide +kernel, rfl⟩
theorem d_X11_feed_58 : DC mX11_feed 58 (.invokevirtual 97) 3 61 := ⟨by decide +kernel, rfl⟩
theorem d_X11_feed_61 : DC mX11_feed 61 (.aload_n 0) 1 62 := ⟨by decide +kernel, rfl⟩
theorem d_X11_feed_62 : DC mX11_feed 62 (.getfield 34) 3 65 := ⟨by decide +kernel, rfl⟩
theorem d_X11_feed_65 : DC mX11_feed 65 (.getfield 94) 3 68 := ⟨by decide +kernel, rfl⟩
theorem d_X11_feed_68 : DC mX11_feed 68 (.ireturn) 1 69 := ⟨by decide +kernel, rfl⟩
theorem d_X11_told_0 : DC mX11_told 0 (.aload_n 0) 1 1 := ⟨by decide +kernel, rfl⟩
theorem d_X11_told_1 : DC mX11_told 1 (.iconst 0) 1 2 := ⟨by decide +kernel, rfl⟩
theorem d_X11_told_2 : DC mX11_told 2 (.putfield 90) 3 5 := ⟨by decide +kernel, rfl⟩
theorem d_X11_told_5 : DC mX11_told 5 (.aload_n 0) 1 6 := ⟨by decide +kernel, rfl⟩
theorem d_X11_told_6 : DC mX11_told 6 (.iload_n 1) 1 7 := ⟨by decide +kernel, rfl⟩
theorem d_X11_told_7 : DC mX11_told 7 (.iload_n 2) 1 8 := ⟨by decide +kernel, rfl⟩
theorem d_X11_told_8 : DC mX11_told 8 (.invokevirtual 101) 3 11 := ⟨by decide +kernel, rfl⟩
theorem d_X11_told_11 : DC mX11_told 11 (.istore_n 3) 1 12 := ⟨by decide +kernel, rfl⟩
theorem d_X11_told_12 : DC mX11_told 12 (.iload_n 3) 1 13 := ⟨by decide +kernel, rfl⟩
theorem d_X11_told_13 : DC mX11_told 13 (.ifCond .eq 5) 3 16 := ⟨by decide +kernel, rfl⟩
theorem d_X11_told_16 : DC mX11_told 16 (.iload_n 3) 1 17 := ⟨by decide +kernel, rfl⟩
theorem d_X11_told_17 : DC mX11_told 17 (.ireturn) 1 18 := ⟨by decide +kernel, rfl⟩
theorem d_X11_told_18 : DC mX11_told 18 (.aload_n 0) 1 19 := ⟨by decide +kernel, rfl⟩
theorem d_X11_told_19 : DC mX11_told 19 (.getfield 34) 3 22 := ⟨by decide +kernel, rfl⟩
theorem d_X11_told_22 : DC mX11_told 22 (.iload_n 2) 1 23 := ⟨by decide +kernel, rfl⟩
theorem d_X11_told_23 : DC mX11_told 23 (.invokevirtual 105) 3 26 := ⟨by decide +kernel, rfl⟩
theorem d_X11_told_26 : DC mX11_told 26 (.ifCond .ne 8) 3 29 := ⟨by decide +kernel, rfl⟩
theorem d_X11_told_29 : DC mX11_told 29 (.aload_n 0) 1 30 := ⟨by decide +kernel, rfl⟩
theorem d_X11_told_30 : DC mX11_told 30 (.invokevirtual 109) 3 33 := ⟨by decide +kernel, rfl⟩
theorem d_X11_told_33 : DC mX11_told 33 (.ireturn) 1 34 := ⟨by decide +kernel, rfl⟩
theorem d_X11_told_34 : DC mX11_told 34 (.aload_n 0) 1 35 := ⟨by decide +kernel, rfl⟩
theorem d_X11_told_35 : DC mX11_told 35 (.iload_n 1) 1 36 := ⟨by decide +kernel, rfl⟩
theorem d_X11_told_36 : DC mX11_told 36 (.aload_n 0) 1 37 := ⟨by decide +kernel, rfl⟩
theorem d_X11_told_37 : DC mX11_told 37 (.getfield 34) 3 40 := ⟨by decide +kernel, rfl⟩
theorem d_X11_told_40 : DC mX11_told 40 (.iload_n 2) 1 41 := ⟨by decide +kernel, rfl⟩
theorem d_X11_told_41 : DC mX11_told 41 (.aload_n 0) 1 42 := ⟨by decide +kernel, rfl⟩
theorem d_X11_told_42 : DC mX11_told 42 (.getfield 83) 3 45 := ⟨by decide +kernel, rfl⟩
theorem d_X11_told_45 : DC mX11_told 45 (.invokevirtual 113) 3 48 := ⟨by decide +kernel, rfl⟩
theorem d_X11_told_48 : DC mX11_told 48 (.invokevirtual 117) 3 51 := ⟨by decide +kernel, rfl⟩
theorem d_X11_told_51 : DC mX11_told 51 (.ireturn) 1 52 := ⟨by decide +kernel, rfl⟩
theorem d_X11_figure_0 : DC mX11_figure 0 (.aload_n 0) 1 1 := ⟨by decide +kernel, rfl⟩
theorem d_X11_figure_1 : DC mX11_figure 1 (.iconst 0) 1 2 := ⟨by decide +kernel, rfl⟩
theorem d_X11_figure_2 : DC mX11_figure 2 (.putfield 90) 3 5 := ⟨by decide +kernel, rfl⟩
theorem d_X11_figure_5 : DC mX11_figure 5 (.aload_n 0) 1 6 := ⟨by decide +kernel, rfl⟩
theorem d_X11_figure_6 : DC mX11_figure 6 (.iload_n 1) 1 7 := ⟨by decide +kernel, rfl⟩
theorem d_X11_figure_7 : DC mX11_figure 7 (.iload_n 2) 1 8 := ⟨by decide +kernel, rfl⟩
theorem d_X11_figure_8 : DC mX11_figure 8 (.invokevirtual 101) 3 11 := ⟨by decide +kernel, rfl⟩
theorem d_X11_figure_11 : DC mX11_figure 11 (.istore_n 3) 1 12 := ⟨by decide +kernel, rfl⟩
theorem d_X11_figure_12 : DC mX11_figure 12 (.iload_n 3) 1 13 := ⟨by decide +kernel, rfl⟩
theorem d_X11_figure_13 : DC mX11_figure 13 (.ifCond .eq 5) 3 16 := ⟨by decide +kernel, rfl⟩
theorem d_X11_figure_16 : DC mX11_figure 16 (.iload_n 3) 1 17 := ⟨by decide +kernel, rfl⟩
theorem d_X11_figure_17 : DC mX11_figure 17 (.ireturn) 1 18 := ⟨by decide +kernel, rfl⟩
theorem d_X11_figure_18 : DC mX11_figure 18 (.aload_n 0) 1 19 := ⟨by decide +kernel, rfl⟩
theorem d_X11_figure_19 : DC mX11_figure 19 (.getfield 34) 3 22 := ⟨by decide +kernel, rfl⟩
theorem d_X11_figure_22 : DC mX11_figure 22 (.iload_n 2) 1 23 := ⟨by decide +kernel, rfl⟩
theorem d_X11_figure_23 : DC mX11_figure 23 (.invokevirtual 120) 3 26 := ⟨by decide +kernel, rfl⟩
theorem d_X11_figure_26 : DC mX11_figure 26 (.ifCond .ne 8) 3 29 := ⟨by decide +kernel, rfl⟩
theorem d_X11_figure_29 : DC mX11_figure 29 (.aload_n 0) 1 30 := ⟨by decide +kernel, rfl⟩
theorem d_X11_figure_30 : DC mX11_figure 30 (.invokevirtual 109) 3 33 := ⟨by decide +kernel, rfl⟩
theorem d_X11_figure_33 : DC mX11_figure 33 (.ireturn) 1 34 := ⟨by decide +kernel, rfl⟩
theorem d_X11_figure_34 : DC mX11_figure 34 (.aload_n 0) 1 35 := ⟨by decide +kernel, rfl⟩
theorem d_X11_figure_35 : DC mX11_figure 35 (.getfield 48) 3 38 := ⟨by decide +kernel, rfl⟩
theorem d_X11_figure_38 : DC mX11_figure 38 (.invokevirtual 123) 3 41 := ⟨by decide +kernel, rfl⟩
theorem d_X11_figure_41 : DC mX11_figure 41 (.iconst 0) 1 42 := ⟨by decide +kernel, rfl⟩
theorem d_X11_figure_42 : DC mX11_figure 42 (.istore 4) 2 44 := ⟨by decide +kernel, rfl⟩
theorem d_X11_figure_44 : DC mX11_figure 44 (.iconst 0) 1 45 := ⟨by decide +kernel, rfl⟩
theorem d_X11_figure_45 : DC mX11_figure 45 (.istore 5) 2 47 := ⟨by decide +kernel, rfl⟩
theorem d_X11_figure_47 : DC mX11_figure 47 (.iload 5) 2 49 := ⟨by decide +kernel, rfl⟩
theorem d_X11_figure_49 : DC mX11_figure 49 (.iload_n 2) 1 50 := ⟨by decide +kernel, rfl⟩
theorem d_X11_figure_50 : DC mX11_figure 50 (.if_icmp .ge 33) 3 53 := ⟨by decide +kernel, rfl⟩
theorem d_X11_figure_53 : DC mX11_figure 53 (.iload 4) 2 55 := ⟨by decide +kernel, rfl⟩
theorem d_X11_figure_55 : DC mX11_figure 55 (.ifCond .ne 28) 3 58 := ⟨by decide +kernel, rfl⟩
theorem d_X11_figure_58 : DC mX11_figure 58 (.aload_n 0) 1 59 := ⟨by decide +kernel, rfl⟩
theorem d_X11_figure_59 : DC mX11_figure 59 (.getfield 48) 3 62 := ⟨by decide +kernel, rfl⟩
theorem d_X11_figure_62 : DC mX11_figure 62 (.aload_n 0) 1 63 := ⟨by decide +kernel, rfl⟩
theorem d_X11_figure_63 : DC mX11_figure 63 (.getfield 34) 3 66 := ⟨by decide +kernel, rfl⟩
theorem d_X11_figure_66 : DC mX11_figure 66 (.getfield 126) 3 69 := ⟨by decide +kernel, rfl⟩
theorem d_X11_figure_69 : DC mX11_figure 69 (.iload 5) 2 71 := ⟨by decide +kernel, rfl⟩
theorem d_X11_figure_71 : DC mX11_figure 71 (.iaload) 1 72 := ⟨by decide +kernel, rfl⟩
theorem d_X11_figure_72 : DC mX11_figure 72 (.invokevirtual 130) 3 75 := ⟨by decide +kernel, rfl⟩
theorem d_X11_figure_75 : DC mX11_figure 75 (.istore 4) 2 77 := ⟨by decide +kernel, rfl⟩
theorem d_X11_figure_77 : DC mX11_figure 77 (.iinc 5 1) 3 80 := ⟨by decide +kernel, rfl⟩
theorem d_X11_figure_80 : DC mX11_figure 80 (.goto (-33)) 3 83 := ⟨by decide +kernel, rfl⟩
theorem d_X11_figure_83 : DC mX11_figure 83 (.aload_n 0) 1 84 := ⟨by decide +kernel, rfl⟩
theorem d_X11_figure_84 : DC mX11_figure 84 (.iload_n 1) 1 85 := ⟨by decide +kernel, rfl⟩
theorem d_X11_figure_85 : DC mX11_figure 85 (.iload 4) 2 87 := ⟨by decide +kernel, rfl⟩
theorem d_X11_figure_87 : DC mX11_figure 87 (.ifCond .ne 17) 3 90 := ⟨by decide +kernel, rfl⟩
theorem d_X11_figure_90 : DC mX11_figure 90 (.aload_n 0) 1 91 := ⟨by decide +kernel, rfl⟩
theorem d_X11_figure_91 : DC mX11_figure 91 (.getfield 48) 3 94 := ⟨by decide +kernel, rfl⟩
theorem d_X11_figure_94 : DC mX11_figure 94 (.aload_n 0) 1 95 := ⟨by decide +kernel, rfl⟩
theorem d_X11_figure_95 : DC mX11_figure 95 (.getfield 83) 3 98 := ⟨by decide +kernel, rfl⟩
theorem d_X11_figure_98 : DC mX11_figure 98 (.invokevirtual 133) 3 101 := ⟨by decide +kernel, rfl⟩
theorem d_X11_figure_101 : DC mX11_figure 101 (.goto 5) 3 104 := ⟨by decide +kernel, rfl⟩
theorem d_X11_figure_104 : DC mX11_figure 104 (.iload 4) 2 106 := ⟨by decide +kernel, rfl⟩
theorem d_X11_figure_106 : DC mX11_figure 106 (.invokevirtual 117) 3 109 := ⟨by decide +kernel, rfl⟩
theorem d_X11_figure_109 : DC mX11_figure 109 (.ireturn) 1 110 := ⟨by decide +kernel, rfl⟩
theorem d_X11_fault_0 : DC mX11_fault 0 (.iload_n 1) 1 1 := ⟨by decide +kernel, rfl⟩
theorem d_X11_fault_1 : DC mX11_fault 1 (.ifCond .ne 11) 3 4 := ⟨by decide +kernel, rfl⟩
theorem d_X11_fault_4 : DC mX11_fault 4 (.aload_n 0) 1 5 := ⟨by decide +kernel, rfl⟩
theorem d_X11_fault_5 : DC mX11_fault 5 (.getfield 34) 3 8 := ⟨by decide +kernel, rfl⟩
theorem d_X11_fault_8 : DC mX11_fault 8 (.getfield 137) 3 11 := ⟨by decide +kernel, rfl⟩
theorem d_X11_fault_11 : DC mX11_fault 11 (.ireturn) 1 12 := ⟨by decide +kernel, rfl⟩
theorem d_X11_fault_12 : DC mX11_fault 12 (.iload_n 1) 1 13 := ⟨by decide +kernel, rfl⟩
theorem d_X11_fault_13 : DC mX11_fault 13 (.iconst 1) 1 14 := ⟨by decide +kernel, rfl⟩
theorem d_X11_fault_14 : DC mX11_fault 14 (.if_icmp .ne 13) 3 17 := ⟨by decide +kernel, rfl⟩
theorem d_X11_fault_17 : DC mX11_fault 17 (.aload_n 0) 1 18 := ⟨by decide +kernel, rfl⟩
theorem d_X11_fault_18 : DC mX11_fault 18 (.getfield 34) 3 21 := ⟨by decide +kernel, rfl⟩
theorem d_X11_fault_21 : DC mX11_fault 21 (.getfield 140) 3 24 := ⟨by decide +kernel, rfl⟩
theorem d_X11_fault_24 : DC mX11_fault 24 (.goto 4) 3 27 := ⟨by decide +kernel, rfl⟩
theorem d_X11_fault_27 : DC mX11_fault 27 (.iconst (-1)) 1 28 := ⟨by decide +kernel, rfl⟩
theorem d_X11_fault_28 : DC mX11_fault 28 (.ireturn) 1 29 := ⟨by decide +kernel, rfl⟩
theorem d_X11_why_0 : DC mX11_why 0 (.aload_n 0) 1 1 := ⟨by decide +kernel, rfl⟩
theorem d_X11_why_1 : DC mX11_why 1 (.getfield 90) 3 4 := ⟨by decide +kernel, rfl⟩
theorem d_X11_why_4 : DC mX11_why 4 (.ireturn) 1 5 := ⟨by decide +kernel, rfl⟩
theorem d_X11_clear_0 : DC mX11_clear 0 (.iload_n 1) 1 1 := ⟨by decide +kernel, rfl⟩
theorem d_X11_clear_1 : DC mX11_clear 1 (.invokestatic 143) 3 4 := ⟨by decide +kernel, rfl⟩
theorem d_X11_clear_4 : DC mX11_clear 4 (.ifCond .ne 6) 3 7 := ⟨by decide +kernel, rfl⟩
theorem d_X11_clear_7 : DC mX11_clear 7 (.bipush (-2)) 2 9 := ⟨by decide +kernel, rfl⟩
theorem d_X11_clear_9 : DC mX11_clear 9 (.ireturn) 1 10 := ⟨by decide +kernel, rfl⟩
theorem d_X11_clear_10 : DC mX11_clear 10 (.aload_n 0) 1 11 := ⟨by decide +kernel, rfl⟩
theorem d_X11_clear_11 : DC mX11_clear 11 (.getfield 10) 3 14 := ⟨by decide +kernel, rfl⟩
theorem d_X11_clear_14 : DC mX11_clear 14 (.getfield 146) 3 17 := ⟨by decide +kernel, rfl⟩
theorem d_X11_clear_17 : DC mX11_clear 17 (.iload_n 1) 1 18 := ⟨by decide +kernel, rfl⟩
theorem d_X11_clear_18 : DC mX11_clear 18 (.aaload) 1 19 := ⟨by decide +kernel, rfl⟩
theorem d_X11_clear_19 : DC mX11_clear 19 (.getfield 150) 3 22 := ⟨by decide +kernel, rfl⟩
theorem d_X11_clear_22 : DC mX11_clear 22 (.istore_n 2) 1 23 := ⟨by decide +kernel, rfl⟩
theorem d_X11_clear_23 : DC mX11_clear 23 (.aload_n 0) 1 24 := ⟨by decide +kernel, rfl⟩
theorem d_X11_clear_24 : DC mX11_clear 24 (.getfield 83) 3 27 := ⟨by decide +kernel, rfl⟩
theorem d_X11_clear_27 : DC mX11_clear 27 (.invokevirtual 151) 3 30 := ⟨by decide +kernel, rfl⟩
theorem d_X11_clear_30 : DC mX11_clear 30 (.aload_n 0) 1 31 := ⟨by decide +kernel, rfl⟩
theorem d_X11_clear_31 : DC mX11_clear 31 (.iload_n 1) 1 32 := ⟨by decide +kernel, rfl⟩
theorem d_X11_clear_32 : DC mX11_clear 32 (.iconst 0) 1 33 := ⟨by decide +kernel, rfl⟩
theorem d_X11_clear_33 : DC mX11_clear 33 (.invokevirtual 154) 3 36 := ⟨by decide +kernel, rfl⟩
theorem d_X11_clear_36 : DC mX11_clear 36 (.pop) 1 37 := ⟨by decide +kernel, rfl⟩
theorem d_X11_clear_37 : DC mX11_clear 37 (.iload_n 2) 1 38 := ⟨by decide +kernel, rfl⟩
theorem d_X11_clear_38 : DC mX11_clear 38 (.ireturn) 1 39 := ⟨by decide +kernel, rfl⟩
theorem d_X11_copy_0 : DC mX11_copy 0 (.iload_n 1) 1 1 := ⟨by decide +kernel, rfl⟩
theorem d_X11_copy_1 : DC mX11_copy 1 (.invokestatic 143) 3 4 := ⟨by decide +kernel, rfl⟩
theorem d_X11_copy_4 : DC mX11_copy 4 (.ifCond .eq 10) 3 7 := ⟨by decide +kernel, rfl⟩
theorem d_X11_copy_7 : DC mX11_copy 7 (.iload_n 2) 1 8 := ⟨by decide +kernel, rfl⟩
theorem d_X11_copy_8 : DC mX11_copy 8 (.invokestatic 143) 3 11 := ⟨by decide +kernel, rfl⟩
theorem d_X11_copy_11 : DC mX11_copy 11 (.ifCond .ne 6) 3 14 := ⟨by decide +kernel, rfl⟩
theorem d_X11_copy_14 : DC mX11_copy 14 (.bipush (-2)) 2 16 := ⟨by decide +kernel, rfl⟩
theorem d_X11_copy_16 : DC mX11_copy 16 (.ireturn) 1 17 := ⟨by decide +kernel, rfl⟩
theorem d_X11_copy_17 : DC mX11_copy 17 (.aload_n 0) 1 18 := ⟨by decide +kernel, rfl⟩
theorem d_X11_copy_18 : DC mX11_copy 18 (.getfield 83) 3 21 := ⟨by decide +kernel, rfl⟩
theorem d_X11_copy_21 : DC mX11_copy 21 (.aload_n 0) 1 22 := ⟨by decide +kernel, rfl⟩
theorem d_X11_copy_22 : DC mX11_copy 22 (.getfield 10) 3 25 := ⟨by decide +kernel, rfl⟩
theorem d_X11_copy_25 : DC mX11_copy 25 (.getfield 146) 3 28 := ⟨by decide +kernel, rfl⟩
theorem d_X11_copy_28 : DC mX11_copy 28 (.iload_n 2) 1 29 := ⟨by decide +kernel, rfl⟩
theorem d_X11_copy_29 : DC mX11_copy 29 (.aaload) 1 30 := ⟨by decide +kernel, rfl⟩
theorem d_X11_copy_30 : DC mX11_copy 30 (.invokevirtual 157) 3 33 := ⟨by decide +kernel, rfl⟩
theorem d_X11_copy_33 : DC mX11_copy 33 (.aload_n 0) 1 34 := ⟨by decide +kernel, rfl⟩
theorem d_X11_copy_34 : DC mX11_copy 34 (.iload_n 1) 1 35 := ⟨by decide +kernel, rfl⟩
theorem d_X11_copy_35 : DC mX11_copy 35 (.iconst 0) 1 36 := ⟨by decide +kernel, rfl⟩
theorem d_X11_copy_36 : DC mX11_copy 36 (.invokevirtual 154) 3 39 := ⟨by decide +kernel, rfl⟩
theorem d_X11_copy_39 : DC mX11_copy 39 (.ireturn) 1 40 := ⟨by decide +kernel, rfl⟩
theorem d_X11_bracket_0 : DC mX11_bracket 0 (.iload_n 1) 1 1 := ⟨by decide +kernel, rfl⟩
theorem d_X11_bracket_1 : DC mX11_bracket 1 (.invokestatic 143) 3 4 := ⟨by decide +kernel, rfl⟩
theorem d_X11_bracket_4 : DC mX11_bracket 4 (.ifCond .eq 13) 3 7 := ⟨by decide +kernel, rfl⟩
theorem d_X11_bracket_7 : DC mX11_bracket 7 (.iload_n 2) 1 8 := ⟨by decide +kernel, rfl⟩
theorem d_X11_bracket_8 : DC mX11_bracket 8 (.iload_n 3) 1 9 := ⟨by decide +kernel, rfl⟩
theorem d_X11_bracket_9 : DC mX11_bracket 9 (.iload 4) 2 11 := ⟨by decide +kernel, rfl⟩
theorem d_X11_bracket_11 : DC mX11_bracket 11 (.invokestatic 160) 3 14 := ⟨by decide +kernel, rfl⟩
theorem d_X11_bracket_14 : DC mX11_bracket 14 (.ifCond .ne 6) 3 17 := ⟨by decide +kernel, rfl⟩
theorem d_X11_bracket_17 : DC mX11_bracket 17 (.bipush (-2)) 2 19 := ⟨by decide +kernel, rfl⟩
theorem d_X11_bracket_19 : DC mX11_bracket 19 (.ireturn) 1 20 := ⟨by decide +kernel, rfl⟩
theorem d_X11_bracket_20 : DC mX11_bracket 20 (.aload_n 0) 1 21 := ⟨by decide +kernel, rfl⟩
theorem d_X11_bracket_21 : DC mX11_bracket 21 (.getfield 76) 3 24 := ⟨by decide +kernel, rfl⟩
theorem d_X11_bracket_24 : DC mX11_bracket 24 (.lconst 0) 1 25 := ⟨by decide +kernel, rfl⟩
theorem d_X11_bracket_25 : DC mX11_bracket 25 (.invokevirtual 164) 3 28 := ⟨by decide +kernel, rfl⟩
theorem d_X11_bracket_28 : DC mX11_bracket 28 (.aload_n 0) 1 29 := ⟨by decide +kernel, rfl⟩
theorem d_X11_bracket_29 : DC mX11_bracket 29 (.getfield 76) 3 32 := ⟨by decide +kernel, rfl⟩
theorem d_X11_bracket_32 : DC mX11_bracket 32 (.iload_n 2) 1 33 := ⟨by decide +kernel, rfl⟩
theorem d_X11_bracket_33 : DC mX11_bracket 33 (.iload_n 3) 1 34 := ⟨by decide +kernel, rfl⟩
theorem d_X11_bracket_34 : DC mX11_bracket 34 (.iload 4) 2 36 := ⟨by decide +kernel, rfl⟩
theorem d_X11_bracket_36 : DC mX11_bracket 36 (.invokestatic 167) 3 39 := ⟨by decide +kernel, rfl⟩
theorem d_X11_bracket_39 : DC mX11_bracket 39 (.invokevirtual 173) 3 42 := ⟨by decide +kernel, rfl⟩
theorem d_X11_bracket_42 : DC mX11_bracket 42 (.aload_n 0) 1 43 := ⟨by decide +kernel, rfl⟩
theorem d_X11_bracket_43 : DC mX11_bracket 43 (.getfield 83) 3 46 := ⟨by decide +kernel, rfl⟩
theorem d_X11_bracket_46 : DC mX11_bracket 46 (.invokevirtual 151) 3 49 := ⟨by decide +kernel, rfl⟩
theorem d_X11_bracket_49 : DC mX11_bracket 49 (.aload_n 0) 1 50 := ⟨by decide +kernel, rfl⟩
theorem d_X11_bracket_50 : DC mX11_bracket 50 (.iload_n 1) 1 51 := ⟨by decide +kernel, rfl⟩
theorem d_X11_bracket_51 : DC mX11_bracket 51 (.aload_n 0) 1 52 := ⟨by decide +kernel, rfl⟩
theorem d_X11_bracket_52 : DC mX11_bracket 52 (.getfield 83) 3 55 := ⟨by decide +kernel, rfl⟩
theorem d_X11_bracket_55 : DC mX11_bracket 55 (.aload_n 0) 1 56 := ⟨by decide +kernel, rfl⟩
theorem d_X11_bracket_56 : DC mX11_bracket 56 (.getfield 76) 3 59 := ⟨by decide +kernel, rfl⟩
theorem d_X11_bracket_59 : DC mX11_bracket 59 (.getfield 176) 3 62 := ⟨by decide +kernel, rfl⟩
theorem d_X11_bracket_62 : DC mX11_bracket 62 (.aload_n 0) 1 63 := ⟨by decide +kernel, rfl⟩
theorem d_X11_bracket_63 : DC mX11_bracket 63 (.getfield 76) 3 66 := ⟨by decide +kernel, rfl⟩
theorem d_X11_bracket_66 : DC mX11_bracket 66 (.getfield 180) 3 69 := ⟨by decide +kernel, rfl⟩
theorem d_X11_bracket_69 : DC mX11_bracket 69 (.i2l) 1 70 := ⟨by decide +kernel, rfl⟩
theorem d_X11_bracket_70 : DC mX11_bracket 70 (.invokevirtual 183) 3 73 := ⟨by decide +kernel, rfl⟩
theorem d_X11_bracket_73 : DC mX11_bracket 73 (.invokevirtual 154) 3 76 := ⟨by decide +kernel, rfl⟩
theorem d_X11_bracket_76 : DC mX11_bracket 76 (.ireturn) 1 77 := ⟨by decide +kernel, rfl⟩
theorem d_X11_exchange_0 : DC mX11_exchange 0 (.iload_n 1) 1 1 := ⟨by decide +kernel, rfl⟩
theorem d_X11_exchange_1 : DC mX11_exchange 1 (.invokestatic 143) 3 4 := ⟨by decide +kernel, rfl⟩
theorem d_X11_exchange_4 : DC mX11_exchange 4 (.ifCond .ne 6) 3 7 := ⟨by decide +kernel, rfl⟩
theorem d_X11_exchange_7 : DC mX11_exchange 7 (.bipush (-2)) 2 9 := ⟨by decide +kernel, rfl⟩
theorem d_X11_exchange_9 : DC mX11_exchange 9 (.ireturn) 1 10 := ⟨by decide +kernel, rfl⟩
theorem d_X11_exchange_10 : DC mX11_exchange 10 (.iload_n 2) 1 11 := ⟨by decide +kernel, rfl⟩
theorem d_X11_exchange_11 : DC mX11_exchange 11 (.ifCond .lt 33) 3 14 := ⟨by decide +kernel, rfl⟩
theorem d_X11_exchange_14 : DC mX11_exchange 14 (.iload_n 2) 1 15 := ⟨by decide +kernel, rfl⟩
theorem d_X11_exchange_15 : DC mX11_exchange 15 (.sipush 999) 3 18 := ⟨by decide +kernel, rfl⟩
theorem d_X11_exchange_18 : DC mX11_exchange 18 (.if_icmp .gt 26) 3 21 := ⟨by decide +kernel, rfl⟩
theorem d_X11_exchange_21 : DC mX11_exchange 21 (.iload_n 3) 1 22 := ⟨by decide +kernel, rfl⟩
theorem d_X11_exchange_22 : DC mX11_exchange 22 (.ifCond .lt 22) 3 25 := ⟨by decide +kernel, rfl⟩
theorem d_X11_exchange_25 : DC mX11_exchange 25 (.iload_n 3) 1 26 := ⟨by decide +kernel, rfl⟩
theorem d_X11_exchange_26 : DC mX11_exchange 26 (.sipush 999) 3 29 := ⟨by decide +kernel, rfl⟩
theorem d_X11_exchange_29 : DC mX11_exchange 29 (.if_icmp .gt 15) 3 32 := ⟨by decide +kernel, rfl⟩
theorem d_X11_exchange_32 : DC mX11_exchange 32 (.iload 4) 2 34 := ⟨by decide +kernel, rfl⟩
theorem d_X11_exchange_34 : DC mX11_exchange 34 (.iconst 1) 1 35 := ⟨by decide +kernel, rfl⟩
theorem d_X11_exchange_35 : DC mX11_exchange 35 (.if_icmp .lt 9) 3 38 := ⟨by decide +kernel, rfl⟩
theorem d_X11_exchange_38 : DC mX11_exchange 38 (.iload 4) 2 40 := ⟨by decide +kernel, rfl⟩
theorem d_X11_exchange_40 : DC mX11_exchange 40 (.iconst 3) 1 41 := ⟨by decide +kernel, rfl⟩
theorem d_X11_exchange_41 : DC mX11_exchange 41 (.if_icmp .le 6) 3 44 := ⟨by decide +kernel, rfl⟩
theorem d_X11_exchange_44 : DC mX11_exchange 44 (.bipush (-3)) 2 46 := ⟨by decide +kernel, rfl⟩
theorem d_X11_exchange_46 : DC mX11_exchange 46 (.ireturn) 1 47 := ⟨by decide +kernel, rfl⟩
theorem d_X11_exchange_47 : DC mX11_exchange 47 (.aload_n 0) 1 48 := ⟨by decide +kernel, rfl⟩
theorem d_X11_exchange_48 : DC mX11_exchange 48 (.getfield 83) 3 51 := ⟨by decide +kernel, rfl⟩
theorem d_X11_exchange_51 : DC mX11_exchange 51 (.invokevirtual 151) 3 54 := ⟨by decide +kernel, rfl⟩
theorem d_X11_exchange_54 : DC mX11_exchange 54 (.aload_n 0) 1 55 := ⟨by decide +kernel, rfl⟩
theorem d_X11_exchange_55 : DC mX11_exchange 55 (.iload_n 1) 1 56 := ⟨by decide +kernel, rfl⟩
theorem d_X11_exchange_56 : DC mX11_exchange 56 (.aload_n 0) 1 57 := ⟨by decide +kernel, rfl⟩
theorem d_X11_exchange_57 : DC mX11_exchange 57 (.getfield 41) 3 60 := ⟨by decide +kernel, rfl⟩
theorem d_X11_exchange_60 : DC mX11_exchange 60 (.aload_n 0) 1 61 := ⟨by decide +kernel, rfl⟩
theorem d_X11_exchange_61 : DC mX11_exchange 61 (.getfield 83) 3 64 := ⟨by decide +kernel, rfl⟩
theorem d_X11_exchange_64 : DC mX11_exchange 64 (.iload_n 2) 1 65 := ⟨by decide +kernel, rfl⟩
theorem d_X11_exchange_65 : DC mX11_exchange 65 (.invokestatic 187) 3 68 := ⟨by decide +kernel, rfl⟩
theorem d_X11_exchange_68 : DC mX11_exchange 68 (.iload_n 3) 1 69 := ⟨by decide +kernel, rfl⟩
theorem d_X11_exchange_69 : DC mX11_exchange 69 (.invokestatic 187) 3 72 := ⟨by decide +kernel, rfl⟩
theorem d_X11_exchange_72 : DC mX11_exchange 72 (.iload 4) 2 74 := ⟨by decide +kernel, rfl⟩
theorem d_X11_exchange_74 : DC mX11_exchange 74 (.lconst 0) 1 75 := ⟨by decide +kernel, rfl⟩
theorem d_X11_exchange_75 : DC mX11_exchange 75 (.lconst 1) 1 76 := ⟨by decide +kernel, rfl⟩
theorem d_X11_exchange_76 : DC mX11_exchange 76 (.invokevirtual 190) 3 79 := ⟨by decide +kernel, rfl⟩
theorem d_X11_exchange_79 : DC mX11_exchange 79 (.invokevirtual 154) 3 82 := ⟨by decide +kernel, rfl⟩
theorem d_X11_exchange_82 : DC mX11_exchange 82 (.ireturn) 1 83 := ⟨by decide +kernel, rfl⟩
theorem d_X11_add_0 : DC mX11_add 0 (.aload_n 0) 1 1 := ⟨by decide +kernel, rfl⟩
theorem d_X11_add_1 : DC mX11_add 1 (.iconst 0) 1 2 := ⟨by decide +kernel, rfl⟩
theorem d_X11_add_2 : DC mX11_add 2 (.putfield 90) 3 5 := ⟨by decide +kernel, rfl⟩
theorem d_X11_add_5 : DC mX11_add 5 (.iload_n 1) 1 6 := ⟨by decide +kernel, rfl⟩
theorem d_X11_add_6 : DC mX11_add 6 (.invokestatic 143) 3 9 := ⟨by decide +kernel, rfl⟩
theorem d_X11_add_9 : DC mX11_add 9 (.ifCond .eq 18) 3 12 := ⟨by decide +kernel, rfl⟩
theorem d_X11_add_12 : DC mX11_add 12 (.iload_n 2) 1 13 := ⟨by decide +kernel, rfl⟩
theorem d_X11_add_13 : DC mX11_add 13 (.invokestatic 143) 3 16 := ⟨by decide +kernel, rfl⟩
theorem d_X11_add_16 : DC mX11_add 16 (.ifCond .eq 11) 3 19 := ⟨by decide +kernel, rfl⟩
theorem d_X11_add_19 : DC mX11_add 19 (.iload 4) 2 21 := ⟨by decide +kernel, rfl⟩
theorem d_X11_add_21 : DC mX11_add 21 (.invokestatic 143) 3 24 := ⟨by decide +kernel, rfl⟩
theorem d_X11_add_24 : DC mX11_add 24 (.ifCond .ne 6) 3 27 := ⟨by decide +kernel, rfl⟩
theorem d_X11_add_27 : DC mX11_add 27 (.bipush (-2)) 2 29 := ⟨by decide +kernel, rfl⟩
theorem d_X11_add_29 : DC mX11_add 29 (.ireturn) 1 30 := ⟨by decide +kernel, rfl⟩
theorem d_X11_add_30 : DC mX11_add 30 (.iload_n 3) 1 31 := ⟨by decide +kernel, rfl⟩
theorem d_X11_add_31 : DC mX11_add 31 (.invokestatic 194) 3 34 := ⟨by decide +kernel, rfl⟩
theorem d_X11_add_34 : DC mX11_add 34 (.ifCond .eq 11) 3 37 := ⟨by decide +kernel, rfl⟩
theorem d_X11_add_37 : DC mX11_add 37 (.iload 5) 2 39 := ⟨by decide +kernel, rfl⟩
theorem d_X11_add_39 : DC mX11_add 39 (.invokestatic 194) 3 42 := ⟨by decide +kernel, rfl⟩
theorem d_X11_add_42 : DC mX11_add 42 (.ifCond .ne 6) 3 45 := ⟨by decide +kernel, rfl⟩
theorem d_X11_add_45 : DC mX11_add 45 (.bipush (-3)) 2 47 := ⟨by decide +kernel, rfl⟩
theorem d_X11_add_47 : DC mX11_add 47 (.ireturn) 1 48 := ⟨by decide +kernel, rfl⟩
theorem d_X11_add_48 : DC mX11_add 48 (.aload_n 0) 1 49 := ⟨by decide +kernel, rfl⟩
theorem d_X11_add_49 : DC mX11_add 49 (.getfield 83) 3 52 := ⟨by decide +kernel, rfl⟩
theorem d_X11_add_52 : DC mX11_add 52 (.invokevirtual 151) 3 55 := ⟨by decide +kernel, rfl⟩
theorem d_X11_add_55 : DC mX11_add 55 (.aload_n 0) 1 56 := ⟨by decide +kernel, rfl⟩
theorem d_X11_add_56 : DC mX11_add 56 (.getfield 83) 3 59 := ⟨by decide +kernel, rfl⟩
theorem d_X11_add_59 : DC mX11_add 59 (.aload_n 0) 1 60 := ⟨by decide +kernel, rfl⟩
theorem d_X11_add_60 : DC mX11_add 60 (.getfield 10) 3 63 := ⟨by decide +kernel, rfl⟩
theorem d_X11_add_63 : DC mX11_add 63 (.getfield 146) 3 66 := ⟨by decide +kernel, rfl⟩
theorem d_X11_add_66 : DC mX11_add 66 (.iload_n 2) 1 67 := ⟨by decide +kernel, rfl⟩
theorem d_X11_add_67 : DC mX11_add 67 (.aaload) 1 68 := ⟨by decide +kernel, rfl⟩
theorem d_X11_add_68 : DC mX11_add 68 (.iload_n 3) 1 69 := ⟨by decide +kernel, rfl⟩
theorem d_X11_add_69 : DC mX11_add 69 (.invokevirtual 197) 3 72 := ⟨by decide +kernel, rfl⟩
theorem d_X11_add_72 : DC mX11_add 72 (.istore 6) 2 74 := ⟨by decide +kernel, rfl⟩
theorem d_X11_add_74 : DC mX11_add 74 (.iload 6) 2 76 := ⟨by decide +kernel, rfl⟩
theorem d_X11_add_76 : DC mX11_add 76 (.ifCond .ne 24) 3 79 := ⟨by decide +kernel, rfl⟩
theorem d_X11_add_79 : DC mX11_add 79 (.aload_n 0) 1 80 := ⟨by decide +kernel, rfl⟩
theorem d_X11_add_80 : DC mX11_add 80 (.getfield 83) 3 83 := ⟨by decide +kernel, rfl⟩
theorem d_X11_add_83 : DC mX11_add 83 (.aload_n 0) 1 84 := ⟨by decide +kernel, rfl⟩
theorem d_X11_add_84 : DC mX11_add 84 (.getfield 10) 3 87 := ⟨by decide +kernel, rfl⟩
theorem d_X11_add_87 : DC mX11_add 87 (.getfield 146) 3 90 := ⟨by decide +kernel, rfl⟩
theorem d_X11_add_90 : DC mX11_add 90 (.iload 4) 2 92 := ⟨by decide +kernel, rfl⟩
theorem d_X11_add_92 : DC mX11_add 92 (.aaload) 1 93 := ⟨by decide +kernel, rfl⟩
theorem d_X11_add_93 : DC mX11_add 93 (.iload 5) 2 95 := ⟨by decide +kernel, rfl⟩
theorem d_X11_add_95 : DC mX11_add 95 (.invokevirtual 197) 3 98 := ⟨by decide +kernel, rfl⟩
theorem d_X11_add_98 : DC mX11_add 98 (.istore 6) 2 100 := ⟨by decide +kernel, rfl⟩
theorem d_X11_add_100 : DC mX11_add 100 (.aload_n 0) 1 101 := ⟨by decide +kernel, rfl⟩
theorem d_X11_add_101 : DC mX11_add 101 (.iload_n 1) 1 102 := ⟨by decide +kernel, rfl⟩
theorem d_X11_add_102 : DC mX11_add 102 (.iload 6) 2 104 := ⟨by decide +kernel, rfl⟩
theorem d_X11_add_104 : DC mX11_add 104 (.invokevirtual 154) 3 107 := ⟨by decide +kernel, rfl⟩
theorem d_X11_add_107 : DC mX11_add 107 (.ireturn) 1 108 := ⟨by decide +kernel, rfl⟩
theorem d_X11_times_0 : DC mX11_times 0 (.aload_n 0) 1 1 := ⟨by decide +kernel, rfl⟩
theorem d_X11_times_1 : DC mX11_times 1 (.iconst 0) 1 2 := ⟨by decide +kernel, rfl⟩
theorem d_X11_times_2 : DC mX11_times 2 (.putfield 90) 3 5 := ⟨by decide +kernel, rfl⟩
theorem d_X11_times_5 : DC mX11_times 5 (.iload_n 1) 1 6 := ⟨by decide +kernel, rfl⟩
theorem d_X11_times_6 : DC mX11_times 6 (.invokestatic 143) 3 9 := ⟨by decide +kernel, rfl⟩
theorem d_X11_times_9 : DC mX11_times 9 (.ifCond .eq 17) 3 12 := ⟨by decide +kernel, rfl⟩
theorem d_X11_times_12 : DC mX11_times 12 (.iload_n 2) 1 13 := ⟨by decide +kernel, rfl⟩
theorem d_X11_times_13 : DC mX11_times 13 (.invokestatic 143) 3 16 := ⟨by decide +kernel, rfl⟩
theorem d_X11_times_16 : DC mX11_times 16 (.ifCond .eq 10) 3 19 := ⟨by decide +kernel, rfl⟩
theorem d_X11_times_19 : DC mX11_times 19 (.iload_n 3) 1 20 := ⟨by decide +kernel, rfl⟩
theorem d_X11_times_20 : DC mX11_times 20 (.invokestatic 143) 3 23 := ⟨by decide +kernel, rfl⟩
theorem d_X11_times_23 : DC mX11_times 23 (.ifCond .ne 6) 3 26 := ⟨by decide +kernel, rfl⟩
theorem d_X11_times_26 : DC mX11_times 26 (.bipush (-2)) 2 28 := ⟨by decide +kernel, rfl⟩
theorem d_X11_times_28 : DC mX11_times 28 (.ireturn) 1 29 := ⟨by decide +kernel, rfl⟩
theorem d_X11_times_29 : DC mX11_times 29 (.aload_n 0) 1 30 := ⟨by decide +kernel, rfl⟩
theorem d_X11_times_30 : DC mX11_times 30 (.getfield 83) 3 33 := ⟨by decide +kernel, rfl⟩
theorem d_X11_times_33 : DC mX11_times 33 (.invokevirtual 151) 3 36 := ⟨by decide +kernel, rfl⟩
theorem d_X11_times_36 : DC mX11_times 36 (.aload_n 0) 1 37 := ⟨by decide +kernel, rfl⟩
theorem d_X11_times_37 : DC mX11_times 37 (.iload_n 1) 1 38 := ⟨by decide +kernel, rfl⟩
theorem d_X11_times_38 : DC mX11_times 38 (.aload_n 0) 1 39 := ⟨by decide +kernel, rfl⟩
theorem d_X11_times_39 : DC mX11_times 39 (.getfield 83) 3 42 := ⟨by decide +kernel, rfl⟩
theorem d_X11_times_42 : DC mX11_times 42 (.aload_n 0) 1 43 := ⟨by decide +kernel, rfl⟩
theorem d_X11_times_43 : DC mX11_times 43 (.getfield 10) 3 46 := ⟨by decide +kernel, rfl⟩
theorem d_X11_times_46 : DC mX11_times 46 (.getfield 146) 3 49 := ⟨by decide +kernel, rfl⟩
theorem d_X11_times_49 : DC mX11_times 49 (.iload_n 2) 1 50 := ⟨by decide +kernel, rfl⟩
theorem d_X11_times_50 : DC mX11_times 50 (.aaload) 1 51 := ⟨by decide +kernel, rfl⟩
theorem d_X11_times_51 : DC mX11_times 51 (.aload_n 0) 1 52 := ⟨by decide +kernel, rfl⟩
theorem d_X11_times_52 : DC mX11_times 52 (.getfield 10) 3 55 := ⟨by decide +kernel, rfl⟩
theorem d_X11_times_55 : DC mX11_times 55 (.getfield 146) 3 58 := ⟨by decide +kernel, rfl⟩
theorem d_X11_times_58 : DC mX11_times 58 (.iload_n 3) 1 59 := ⟨by decide +kernel, rfl⟩
theorem d_X11_times_59 : DC mX11_times 59 (.aaload) 1 60 := ⟨by decide +kernel, rfl⟩
theorem d_X11_times_60 : DC mX11_times 60 (.invokevirtual 201) 3 63 := ⟨by decide +kernel, rfl⟩
theorem d_X11_times_63 : DC mX11_times 63 (.invokevirtual 154) 3 66 := ⟨by decide +kernel, rfl⟩
theorem d_X11_times_66 : DC mX11_times 66 (.ireturn) 1 67 := ⟨by decide +kernel, rfl⟩
theorem d_X11_put_0 : DC mX11_put 0 (.aload_n 0) 1 1 := ⟨by decide +kernel, rfl⟩
theorem d_X11_put_1 : DC mX11_put 1 (.iconst 0) 1 2 := ⟨by decide +kernel, rfl⟩
theorem d_X11_put_2 : DC mX11_put 2 (.putfield 90) 3 5 := ⟨by decide +kernel, rfl⟩
theorem d_X11_put_5 : DC mX11_put 5 (.iload_n 1) 1 6 := ⟨by decide +kernel, rfl⟩
theorem d_X11_put_6 : DC mX11_put 6 (.invokestatic 143) 3 9 := ⟨by decide +kernel, rfl⟩
theorem d_X11_put_9 : DC mX11_put 9 (.ifCond .eq 25) 3 12 := ⟨by decide +kernel, rfl⟩
theorem d_X11_put_12 : DC mX11_put 12 (.iload_n 2) 1 13 := ⟨by decide +kernel, rfl⟩
theorem d_X11_put_13 : DC mX11_put 13 (.invokestatic 143) 3 16 := ⟨by decide +kernel, rfl⟩
theorem d_X11_put_16 : DC mX11_put 16 (.ifCond .eq 18) 3 19 := ⟨by decide +kernel, rfl⟩
theorem d_X11_put_19 : DC mX11_put 19 (.iload_n 3) 1 20 := ⟨by decide +kernel, rfl⟩
theorem d_X11_put_20 : DC mX11_put 20 (.invokestatic 205) 3 23 := ⟨by decide +kernel, rfl⟩
theorem d_X11_put_23 : DC mX11_put 23 (.ifCond .eq 11) 3 26 := ⟨by decide +kernel, rfl⟩
theorem d_X11_put_26 : DC mX11_put 26 (.iload 4) 2 28 := ⟨by decide +kernel, rfl⟩
theorem d_X11_put_28 : DC mX11_put 28 (.invokestatic 205) 3 31 := ⟨by decide +kernel, rfl⟩
theorem d_X11_put_31 : DC mX11_put 31 (.ifCond .ne 6) 3 34 := ⟨by decide +kernel, rfl⟩
theorem d_X11_put_34 : DC mX11_put 34 (.bipush (-2)) 2 36 := ⟨by decide +kernel, rfl⟩
theorem d_X11_put_36 : DC mX11_put 36 (.ireturn) 1 37 := ⟨by decide +kernel, rfl⟩
theorem d_X11_put_37 : DC mX11_put 37 (.aload_n 0) 1 38 := ⟨by decide +kernel, rfl⟩
theorem d_X11_put_38 : DC mX11_put 38 (.iload_n 1) 1 39 := ⟨by decide +kernel, rfl⟩
theorem d_X11_put_39 : DC mX11_put 39 (.aload_n 0) 1 40 := ⟨by decide +kernel, rfl⟩
theorem d_X11_put_40 : DC mX11_put 40 (.aload_n 0) 1 41 := ⟨by decide +kernel, rfl⟩
theorem d_X11_put_41 : DC mX11_put 41 (.getfield 10) 3 44 := ⟨by decide +kernel, rfl⟩
theorem d_X11_put_44 : DC mX11_put 44 (.getfield 146) 3 47 := ⟨by decide +kernel, rfl⟩
theorem d_X11_put_47 : DC mX11_put 47 (.iload_n 2) 1 48 := ⟨by decide +kernel, rfl⟩
theorem d_X11_put_48 : DC mX11_put 48 (.aaload) 1 49 := ⟨by decide +kernel, rfl⟩
theorem d_X11_put_49 : DC mX11_put 49 (.iload_n 3) 1 50 := ⟨by decide +kernel, rfl⟩
theorem d_X11_put_50 : DC mX11_put 50 (.iload 4) 2 52 := ⟨by decide +kernel, rfl⟩
theorem d_X11_put_52 : DC mX11_put 52 (.iconst 0) 1 53 := ⟨by decide +kernel, rfl⟩
theorem d_X11_put_53 : DC mX11_put 53 (.invokevirtual 208) 3 56 := ⟨by decide +kernel, rfl⟩
theorem d_X11_put_56 : DC mX11_put 56 (.invokevirtual 154) 3 59 := ⟨by decide +kernel, rfl⟩
theorem d_X11_put_59 : DC mX11_put 59 (.ireturn) 1 60 := ⟨by decide +kernel, rfl⟩
theorem d_X11_turn_0 : DC mX11_turn 0 (.aload_n 0) 1 1 := ⟨by decide +kernel, rfl⟩
theorem d_X11_turn_1 : DC mX11_turn 1 (.iconst 0) 1 2 := ⟨by decide +kernel, rfl⟩
theorem d_X11_turn_2 : DC mX11_turn 2 (.putfield 90) 3 5 := ⟨by decide +kernel, rfl⟩
theorem d_X11_turn_5 : DC mX11_turn 5 (.iload_n 1) 1 6 := ⟨by decide +kernel, rfl⟩
theorem d_X11_turn_6 : DC mX11_turn 6 (.invokestatic 143) 3 9 := ⟨by decide +kernel, rfl⟩
theorem d_X11_turn_9 : DC mX11_turn 9 (.ifCond .eq 25) 3 12 := ⟨by decide +kernel, rfl⟩
theorem d_X11_turn_12 : DC mX11_turn 12 (.iload_n 2) 1 13 := ⟨by decide +kernel, rfl⟩
theorem d_X11_turn_13 : DC mX11_turn 13 (.invokestatic 143) 3 16 := ⟨by decide +kernel, rfl⟩
theorem d_X11_turn_16 : DC mX11_turn 16 (.ifCond .eq 18) 3 19 := ⟨by decide +kernel, rfl⟩
theorem d_X11_turn_19 : DC mX11_turn 19 (.iload_n 3) 1 20 := ⟨by decide +kernel, rfl⟩
theorem d_X11_turn_20 : DC mX11_turn 20 (.invokestatic 205) 3 23 := ⟨by decide +kernel, rfl⟩
theorem d_X11_turn_23 : DC mX11_turn 23 (.ifCond .eq 11) 3 26 := ⟨by decide +kernel, rfl⟩
theorem d_X11_turn_26 : DC mX11_turn 26 (.iload 4) 2 28 := ⟨by decide +kernel, rfl⟩
theorem d_X11_turn_28 : DC mX11_turn 28 (.invokestatic 205) 3 31 := ⟨by decide +kernel, rfl⟩
theorem d_X11_turn_31 : DC mX11_turn 31 (.ifCond .ne 6) 3 34 := ⟨by decide +kernel, rfl⟩
theorem d_X11_turn_34 : DC mX11_turn 34 (.bipush (-2)) 2 36 := ⟨by decide +kernel, rfl⟩
theorem d_X11_turn_36 : DC mX11_turn 36 (.ireturn) 1 37 := ⟨by decide +kernel, rfl⟩
theorem d_X11_turn_37 : DC mX11_turn 37 (.aload_n 0) 1 38 := ⟨by decide +kernel, rfl⟩
theorem d_X11_turn_38 : DC mX11_turn 38 (.iload_n 1) 1 39 := ⟨by decide +kernel, rfl⟩
theorem d_X11_turn_39 : DC mX11_turn 39 (.aload_n 0) 1 40 := ⟨by decide +kernel, rfl⟩
theorem d_X11_turn_40 : DC mX11_turn 40 (.aload_n 0) 1 41 := ⟨by decide +kernel, rfl⟩
theorem d_X11_turn_41 : DC mX11_turn 41 (.getfield 10) 3 44 := ⟨by decide +kernel, rfl⟩
theorem d_X11_turn_44 : DC mX11_turn 44 (.getfield 146) 3 47 := ⟨by decide +kernel, rfl⟩
theorem d_X11_turn_47 : DC mX11_turn 47 (.iload_n 2) 1 48 := ⟨by decide +kernel, rfl⟩
theorem d_X11_turn_48 : DC mX11_turn 48 (.aaload) 1 49 := ⟨by decide +kernel, rfl⟩
theorem d_X11_turn_49 : DC mX11_turn 49 (.iload_n 3) 1 50 := ⟨by decide +kernel, rfl⟩
theorem d_X11_turn_50 : DC mX11_turn 50 (.iload 4) 2 52 := ⟨by decide +kernel, rfl⟩
theorem d_X11_turn_52 : DC mX11_turn 52 (.iconst 1) 1 53 := ⟨by decide +kernel, rfl⟩
theorem d_X11_turn_53 : DC mX11_turn 53 (.invokevirtual 208) 3 56 := ⟨by decide +kernel, rfl⟩
theorem d_X11_turn_56 : DC mX11_turn 56 (.invokevirtual 154) 3 59 := ⟨by decide +kernel, rfl⟩
theorem d_X11_turn_59 : DC mX11_turn 59 (.ireturn) 1 60 := ⟨by decide +kernel, rfl⟩
theorem d_X11_straight_0 : DC mX11_straight 0 (.aload_n 0) 1 1 := ⟨by decide +kernel, rfl⟩
theorem d_X11_straight_1 : DC mX11_straight 1 (.iconst 0) 1 2 := ⟨by decide +kernel, rfl⟩
theorem d_X11_straight_2 : DC mX11_straight 2 (.putfield 90) 3 5 := ⟨by decide +kernel, rfl⟩
theorem d_X11_straight_5 : DC mX11_straight 5 (.iload_n 1) 1 6 := ⟨by decide +kernel, rfl⟩
theorem d_X11_straight_6 : DC mX11_straight 6 (.invokestatic 143) 3 9 := ⟨by decide +kernel, rfl⟩
theorem d_X11_straight_9 : DC mX11_straight 9 (.ifCond .eq 10) 3 12 := ⟨by decide +kernel, rfl⟩
theorem d_X11_straight_12 : DC mX11_straight 12 (.iload_n 2) 1 13 := ⟨by decide +kernel, rfl⟩
theorem d_X11_straight_13 : DC mX11_straight 13 (.invokestatic 143) 3 16 := ⟨by decide +kernel, rfl⟩
theorem d_X11_straight_16 : DC mX11_straight 16 (.ifCond .ne 6) 3 19 := ⟨by decide +kernel, rfl⟩
theorem d_X11_straight_19 : DC mX11_straight 19 (.bipush (-2)) 2 21 := ⟨by decide +kernel, rfl⟩
theorem d_X11_straight_21 : DC mX11_straight 21 (.ireturn) 1 22 := ⟨by decide +kernel, rfl⟩
theorem d_X11_straight_22 : DC mX11_straight 22 (.aload_n 0) 1 23 := ⟨by decide +kernel, rfl⟩
theorem d_X11_straight_23 : DC mX11_straight 23 (.iload_n 1) 1 24 := ⟨by decide +kernel, rfl⟩
theorem d_X11_straight_24 : DC mX11_straight 24 (.aload_n 0) 1 25 := ⟨by decide +kernel, rfl⟩
theorem d_X11_straight_25 : DC mX11_straight 25 (.getfield 41) 3 28 := ⟨by decide +kernel, rfl⟩
theorem d_X11_straight_28 : DC mX11_straight 28 (.aload_n 0) 1 29 := ⟨by decide +kernel, rfl⟩
theorem d_X11_straight_29 : DC mX11_straight 29 (.getfield 10) 3 32 := ⟨by decide +kernel, rfl⟩
theorem d_X11_straight_32 : DC mX11_straight 32 (.getfield 146) 3 35 := ⟨by decide +kernel, rfl⟩
theorem d_X11_straight_35 : DC mX11_straight 35 (.iload_n 2) 1 36 := ⟨by decide +kernel, rfl⟩
theorem d_X11_straight_36 : DC mX11_straight 36 (.aaload) 1 37 := ⟨by decide +kernel, rfl⟩
theorem d_X11_straight_37 : DC mX11_straight 37 (.aload_n 0) 1 38 := ⟨by decide +kernel, rfl⟩
theorem d_X11_straight_38 : DC mX11_straight 38 (.getfield 83) 3 41 := ⟨by decide +kernel, rfl⟩
theorem d_X11_straight_41 : DC mX11_straight 41 (.invokevirtual 212) 3 44 := ⟨by decide +kernel, rfl⟩
theorem d_X11_straight_44 : DC mX11_straight 44 (.invokevirtual 154) 3 47 := ⟨by decide +kernel, rfl⟩
theorem d_X11_straight_47 : DC mX11_straight 47 (.ireturn) 1 48 := ⟨by decide +kernel, rfl⟩
theorem d_X11_reduce_0 : DC mX11_reduce 0 (.iload_n 1) 1 1 := ⟨by decide +kernel, rfl⟩
theorem d_X11_reduce_1 : DC mX11_reduce 1 (.invokestatic 143) 3 4 := ⟨by decide +kernel, rfl⟩
theorem d_X11_reduce_4 : DC mX11_reduce 4 (.ifCond .eq 10) 3 7 := ⟨by decide +kernel, rfl⟩
theorem d_X11_reduce_7 : DC mX11_reduce 7 (.iload_n 2) 1 8 := ⟨by decide +kernel, rfl⟩
theorem d_X11_reduce_8 : DC mX11_reduce 8 (.invokestatic 143) 3 11 := ⟨by decide +kernel, rfl⟩
theorem d_X11_reduce_11 : DC mX11_reduce 11 (.ifCond .ne 6) 3 14 := ⟨by decide +kernel, rfl⟩
theorem d_X11_reduce_14 : DC mX11_reduce 14 (.bipush (-2)) 2 16 := ⟨by decide +kernel, rfl⟩
theorem d_X11_reduce_16 : DC mX11_reduce 16 (.ireturn) 1 17 := ⟨by decide +kernel, rfl⟩
theorem d_X11_reduce_17 : DC mX11_reduce 17 (.aload_n 0) 1 18 := ⟨by decide +kernel, rfl⟩
theorem d_X11_reduce_18 : DC mX11_reduce 18 (.getfield 10) 3 21 := ⟨by decide +kernel, rfl⟩
theorem d_X11_reduce_21 : DC mX11_reduce 21 (.aload_n 0) 1 22 := ⟨by decide +kernel, rfl⟩
theorem d_X11_reduce_22 : DC mX11_reduce 22 (.getfield 83) 3 25 := ⟨by decide +kernel, rfl⟩
theorem d_X11_reduce_25 : DC mX11_reduce 25 (.aload_n 0) 1 26 := ⟨by decide +kernel, rfl⟩
theorem d_X11_reduce_26 : DC mX11_reduce 26 (.getfield 10) 3 29 := ⟨by decide +kernel, rfl⟩
theorem d_X11_reduce_29 : DC mX11_reduce 29 (.getfield 146) 3 32 := ⟨by decide +kernel, rfl⟩
theorem d_X11_reduce_32 : DC mX11_reduce 32 (.iload_n 2) 1 33 := ⟨by decide +kernel, rfl⟩
theorem d_X11_reduce_33 : DC mX11_reduce 33 (.aaload) 1 34 := ⟨by decide +kernel, rfl⟩
theorem d_X11_reduce_34 : DC mX11_reduce 34 (.invokevirtual 215) 3 37 := ⟨by decide +kernel, rfl⟩
theorem d_X11_reduce_37 : DC mX11_reduce 37 (.aload_n 0) 1 38 := ⟨by decide +kernel, rfl⟩
theorem d_X11_reduce_38 : DC mX11_reduce 38 (.iload_n 1) 1 39 := ⟨by decide +kernel, rfl⟩
theorem d_X11_reduce_39 : DC mX11_reduce 39 (.iconst 0) 1 40 := ⟨by decide +kernel, rfl⟩
theorem d_X11_reduce_40 : DC mX11_reduce 40 (.invokevirtual 154) 3 43 := ⟨by decide +kernel, rfl⟩
theorem d_X11_reduce_43 : DC mX11_reduce 43 (.ireturn) 1 44 := ⟨by decide +kernel, rfl⟩
theorem d_X11_fact_0 : DC mX11_fact 0 (.iload_n 1) 1 1 := ⟨by decide +kernel, rfl⟩
theorem d_X11_fact_1 : DC mX11_fact 1 (.iload_n 2) 1 2 := ⟨by decide +kernel, rfl⟩
theorem d_X11_fact_2 : DC mX11_fact 2 (.iload_n 3) 1 3 := ⟨by decide +kernel, rfl⟩
theorem d_X11_fact_3 : DC mX11_fact 3 (.invokestatic 160) 3 6 := ⟨by decide +kernel, rfl⟩
theorem d_X11_fact_6 : DC mX11_fact 6 (.ifCond .ne 6) 3 9 := ⟨by decide +kernel, rfl⟩
theorem d_X11_fact_9 : DC mX11_fact 9 (.bipush (-2)) 2 11 := ⟨by decide +kernel, rfl⟩
theorem d_X11_fact_11 : DC mX11_fact 11 (.ireturn) 1 12 := ⟨by decide +kernel, rfl⟩
theorem d_X11_fact_12 : DC mX11_fact 12 (.iload_n 1) 1 13 := ⟨by decide +kernel, rfl⟩
theorem d_X11_fact_13 : DC mX11_fact 13 (.iload_n 2) 1 14 := ⟨by decide +kernel, rfl⟩
theorem d_X11_fact_14 : DC mX11_fact 14 (.iload_n 3) 1 15 := ⟨by decide +kernel, rfl⟩
theorem d_X11_fact_15 : DC mX11_fact 15 (.invokestatic 167) 3 18 := ⟨by decide +kernel, rfl⟩
theorem d_X11_fact_18 : DC mX11_fact 18 (.invokestatic 219) 3 21 := ⟨by decide +kernel, rfl⟩
theorem d_X11_fact_21 : DC mX11_fact 21 (.invokestatic 222) 3 24 := ⟨by decide +kernel, rfl⟩
theorem d_X11_fact_24 : DC mX11_fact 24 (.istore 5) 2 26 := ⟨by decide +kernel, rfl⟩
theorem d_X11_fact_26 : DC mX11_fact 26 (.iload 4) 2 28 := ⟨by decide +kernel, rfl⟩
theorem d_X11_fact_28 : DC mX11_fact 28 (.ifCond .lt 14) 3 31 := ⟨by decide +kernel, rfl⟩
theorem d_X11_fact_31 : DC mX11_fact 31 (.iload 4) 2 33 := ⟨by decide +kernel, rfl⟩
theorem d_X11_fact_33 : DC mX11_fact 33 (.iconst 2) 1 34 := ⟨by decide +kernel, rfl⟩
theorem d_X11_fact_34 : DC mX11_fact 34 (.if_icmp .gt 8) 3 37 := ⟨by decide +kernel, rfl⟩
theorem d_X11_fact_37 : DC mX11_fact 37 (.iload 5) 2 39 := ⟨by decide +kernel, rfl⟩
theorem d_X11_fact_39 : DC mX11_fact 39 (.ifCond .ne 6) 3 42 := ⟨by decide +kernel, rfl⟩
theorem d_X11_fact_42 : DC mX11_fact 42 (.bipush (-3)) 2 44 := ⟨by decide +kernel, rfl⟩
theorem d_X11_fact_44 : DC mX11_fact 44 (.ireturn) 1 45 := ⟨by decide +kernel, rfl⟩
theorem d_X11_fact_45 : DC mX11_fact 45 (.aload_n 0) 1 46 := ⟨by decide +kernel, rfl⟩
theorem d_X11_fact_46 : DC mX11_fact 46 (.getfield 10) 3 49 := ⟨by decide +kernel, rfl⟩
theorem d_X11_fact_49 : DC mX11_fact 49 (.iload 5) 2 51 := ⟨by decide +kernel, rfl⟩
theorem d_X11_fact_51 : DC mX11_fact 51 (.invokevirtual 227) 3 54 := ⟨by decide +kernel, rfl⟩
theorem d_X11_fact_54 : DC mX11_fact 54 (.istore 6) 2 56 := ⟨by decide +kernel, rfl⟩
theorem d_X11_fact_56 : DC mX11_fact 56 (.aload_n 0) 1 57 := ⟨by decide +kernel, rfl⟩
theorem d_X11_fact_57 : DC mX11_fact 57 (.getfield 19) 3 60 := ⟨by decide +kernel, rfl⟩
theorem d_X11_fact_60 : DC mX11_fact 60 (.aload_n 0) 1 61 := ⟨by decide +kernel, rfl⟩
theorem d_X11_fact_61 : DC mX11_fact 61 (.getfield 10) 3 64 := ⟨by decide +kernel, rfl⟩
theorem d_X11_fact_64 : DC mX11_fact 64 (.invokevirtual 230) 3 67 := ⟨by decide +kernel, rfl⟩
theorem d_X11_fact_67 : DC mX11_fact 67 (.aload_n 0) 1 68 := ⟨by decide +kernel, rfl⟩
theorem d_X11_fact_68 : DC mX11_fact 68 (.getfield 10) 3 71 := ⟨by decide +kernel, rfl⟩
theorem d_X11_fact_71 : DC mX11_fact 71 (.iload 5) 2 73 := ⟨by decide +kernel, rfl⟩
theorem d_X11_fact_73 : DC mX11_fact 73 (.iload 4) 2 75 := ⟨by decide +kernel, rfl⟩
theorem d_X11_fact_75 : DC mX11_fact 75 (.invokevirtual 233) 3 78 := ⟨by decide +kernel, rfl⟩
theorem d_X11_fact_78 : DC mX11_fact 78 (.iload 6) 2 80 := ⟨by decide +kernel, rfl⟩
theorem d_X11_fact_80 : DC mX11_fact 80 (.ireturn) 1 81 := ⟨by decide +kernel, rfl⟩
theorem d_X11_place_0 : DC mX11_place 0 (.iload_n 1) 1 1 := ⟨by decide +kernel, rfl⟩
theorem d_X11_place_1 : DC mX11_place 1 (.invokestatic 205) 3 4 := ⟨by decide +kernel, rfl⟩
theorem d_X11_place_4 : DC mX11_place 4 (.ifCond .ne 6) 3 7 := ⟨by decide +kernel, rfl⟩
theorem d_X11_place_7 : DC mX11_place 7 (.bipush (-2)) 2 9 := ⟨by decide +kernel, rfl⟩
theorem d_X11_place_9 : DC mX11_place 9 (.ireturn) 1 10 := ⟨by decide +kernel, rfl⟩
theorem d_X11_place_10 : DC mX11_place 10 (.iload_n 2) 1 11 := ⟨by decide +kernel, rfl⟩
theorem d_X11_place_11 : DC mX11_place 11 (.invokestatic 194) 3 14 := ⟨by decide +kernel, rfl⟩
theorem d_X11_place_14 : DC mX11_place 14 (.ifCond .eq 18) 3 17 := ⟨by decide +kernel, rfl⟩
theorem d_X11_place_17 : DC mX11_place 17 (.iload_n 3) 1 18 := ⟨by decide +kernel, rfl⟩
theorem d_X11_place_18 : DC mX11_place 18 (.invokestatic 194) 3 21 := ⟨by decide +kernel, rfl⟩
theorem d_X11_place_21 : DC mX11_place 21 (.ifCond .eq 11) 3 24 := ⟨by decide +kernel, rfl⟩
theorem d_X11_place_24 : DC mX11_place 24 (.iload 4) 2 26 := ⟨by decide +kernel, rfl⟩
theorem d_X11_place_26 : DC mX11_place 26 (.invokestatic 194) 3 29 := ⟨by decide +kernel, rfl⟩
theorem d_X11_place_29 : DC mX11_place 29 (.ifCond .ne 6) 3 32 := ⟨by decide +kernel, rfl⟩
theorem d_X11_place_32 : DC mX11_place 32 (.bipush (-3)) 2 34 := ⟨by decide +kernel, rfl⟩
theorem d_X11_place_34 : DC mX11_place 34 (.ireturn) 1 35 := ⟨by decide +kernel, rfl⟩
theorem d_X11_place_35 : DC mX11_place 35 (.aload_n 0) 1 36 := ⟨by decide +kernel, rfl⟩
theorem d_X11_place_36 : DC mX11_place 36 (.getfield 19) 3 39 := ⟨by decide +kernel, rfl⟩
theorem d_X11_place_39 : DC mX11_place 39 (.aload_n 0) 1 40 := ⟨by decide +kernel, rfl⟩
theorem d_X11_place_40 : DC mX11_place 40 (.getfield 10) 3 43 := ⟨by decide +kernel, rfl⟩
theorem d_X11_place_43 : DC mX11_place 43 (.invokevirtual 230) 3 46 := ⟨by decide +kernel, rfl⟩
theorem d_X11_place_46 : DC mX11_place 46 (.aload_n 0) 1 47 := ⟨by decide +kernel, rfl⟩
theorem d_X11_place_47 : DC mX11_place 47 (.getfield 10) 3 50 := ⟨by decide +kernel, rfl⟩
theorem d_X11_place_50 : DC mX11_place 50 (.getfield 237) 3 53 := ⟨by decide +kernel, rfl⟩
theorem d_X11_place_53 : DC mX11_place 53 (.iconst 3) 1 54 := ⟨by decide +kernel, rfl⟩
theorem d_X11_place_54 : DC mX11_place 54 (.iload_n 1) 1 55 := ⟨by decide +kernel, rfl⟩
theorem d_X11_place_55 : DC mX11_place 55 (.imul) 1 56 := ⟨by decide +kernel, rfl⟩
theorem d_X11_place_56 : DC mX11_place 56 (.iload_n 2) 1 57 := ⟨by decide +kernel, rfl⟩
theorem d_X11_place_57 : DC mX11_place 57 (.iastore) 1 58 := ⟨by decide +kernel, rfl⟩
theorem d_X11_place_58 : DC mX11_place 58 (.aload_n 0) 1 59 := ⟨by decide +kernel, rfl⟩
theorem d_X11_place_59 : DC mX11_place 59 (.getfield 10) 3 62 := ⟨by decide +kernel, rfl⟩
theorem d_X11_place_62 : DC mX11_place 62 (.getfield 237) 3 65 := ⟨by decide +kernel, rfl⟩
theorem d_X11_place_65 : DC mX11_place 65 (.iconst 3) 1 66 := ⟨by decide +kernel, rfl⟩
theorem d_X11_place_66 : DC mX11_place 66 (.iload_n 1) 1 67 := ⟨by decide +kernel, rfl⟩
theorem d_X11_place_67 : DC mX11_place 67 (.imul) 1 68 := ⟨by decide +kernel, rfl⟩
theorem d_X11_place_68 : DC mX11_place 68 (.iconst 1) 1 69 := ⟨by decide +kernel, rfl⟩
theorem d_X11_place_69 : DC mX11_place 69 (.iadd) 1 70 := ⟨by decide +kernel, rfl⟩
theorem d_X11_place_70 : DC mX11_place 70 (.iload_n 3) 1 71 := ⟨by decide +kernel, rfl⟩
theorem d_X11_place_71 : DC mX11_place 71 (.iastore) 1 72 := ⟨by decide +kernel, rfl⟩
theorem d_X11_place_72 : DC mX11_place 72 (.aload_n 0) 1 73 := ⟨by decide +kernel, rfl⟩
theorem d_X11_place_73 : DC mX11_place 73 (.getfield 10) 3 76 := ⟨by decide +kernel, rfl⟩
theorem d_X11_place_76 : DC mX11_place 76 (.getfield 237) 3 79 := ⟨by decide +kernel, rfl⟩
theorem d_X11_place_79 : DC mX11_place 79 (.iconst 3) 1 80 := ⟨by decide +kernel, rfl⟩
theorem d_X11_place_80 : DC mX11_place 80 (.iload_n 1) 1 81 := ⟨by decide +kernel, rfl⟩
theorem d_X11_place_81 : DC mX11_place 81 (.imul) 1 82 := ⟨by decide +kernel, rfl⟩
theorem d_X11_place_82 : DC mX11_place 82 (.iconst 2) 1 83 := ⟨by decide +kernel, rfl⟩
theorem d_X11_place_83 : DC mX11_place 83 (.iadd) 1 84 := ⟨by decide +kernel, rfl⟩
theorem d_X11_place_84 : DC mX11_place 84 (.iload 4) 2 86 := ⟨by decide +kernel, rfl⟩
theorem d_X11_place_86 : DC mX11_place 86 (.iastore) 1 87 := ⟨by decide +kernel, rfl⟩
theorem d_X11_place_87 : DC mX11_place 87 (.iconst 0) 1 88 := ⟨by decide +kernel, rfl⟩
theorem d_X11_place_88 : DC mX11_place 88 (.ireturn) 1 89 := ⟨by decide +kernel, rfl⟩
theorem d_X11_terms_0 : DC mX11_terms 0 (.iload_n 1) 1 1 := ⟨by decide +kernel, rfl⟩
theorem d_X11_terms_1 : DC mX11_terms 1 (.invokestatic 143) 3 4 := ⟨by decide +kernel, rfl⟩
theorem d_X11_terms_4 : DC mX11_terms 4 (.ifCond .eq 18) 3 7 := ⟨by decide +kernel, rfl⟩
theorem d_X11_terms_7 : DC mX11_terms 7 (.aload_n 0) 1 8 := ⟨by decide +kernel, rfl⟩
theorem d_X11_terms_8 : DC mX11_terms 8 (.getfield 10) 3 11 := ⟨by decide +kernel, rfl⟩
theorem d_X11_terms_11 : DC mX11_terms 11 (.getfield 146) 3 14 := ⟨by decide +kernel, rfl⟩
theorem d_X11_terms_14 : DC mX11_terms 14 (.iload_n 1) 1 15 := ⟨by decide +kernel, rfl⟩
theorem d_X11_terms_15 : DC mX11_terms 15 (.aaload) 1 16 := ⟨by decide +kernel, rfl⟩
theorem d_X11_terms_16 : DC mX11_terms 16 (.getfield 150) 3 19 := ⟨by decide +kernel, rfl⟩
theorem d_X11_terms_19 : DC mX11_terms 19 (.goto 5) 3 22 := ⟨by decide +kernel, rfl⟩
theorem d_X11_terms_22 : DC mX11_terms 22 (.bipush (-2)) 2 24 := ⟨by decide +kernel, rfl⟩
theorem d_X11_terms_24 : DC mX11_terms 24 (.ireturn) 1 25 := ⟨by decide +kernel, rfl⟩
theorem d_X11_term_0 : DC mX11_term 0 (.iload_n 1) 1 1 := ⟨by decide +kernel, rfl⟩
theorem d_X11_term_1 : DC mX11_term 1 (.invokestatic 143) 3 4 := ⟨by decide +kernel, rfl⟩
theorem d_X11_term_4 : DC mX11_term 4 (.ifCond .eq 23) 3 7 := ⟨by decide +kernel, rfl⟩
theorem d_X11_term_7 : DC mX11_term 7 (.iload_n 2) 1 8 := ⟨by decide +kernel, rfl⟩
theorem d_X11_term_8 : DC mX11_term 8 (.ifCond .lt 19) 3 11 := ⟨by decide +kernel, rfl⟩
theorem d_X11_term_11 : DC mX11_term 11 (.iload_n 2) 1 12 := ⟨by decide +kernel, rfl⟩
theorem d_X11_term_12 : DC mX11_term 12 (.aload_n 0) 1 13 := ⟨by decide +kernel, rfl⟩
theorem d_X11_term_13 : DC mX11_term 13 (.getfield 10) 3 16 := ⟨by decide +kernel, rfl⟩
theorem d_X11_term_16 : DC mX11_term 16 (.getfield 146) 3 19 := ⟨by decide +kernel, rfl⟩
theorem d_X11_term_19 : DC mX11_term 19 (.iload_n 1) 1 20 := ⟨by decide +kernel, rfl⟩
theorem d_X11_term_20 : DC mX11_term 20 (.aaload) 1 21 := ⟨by decide +kernel, rfl⟩
theorem d_X11_term_21 : DC mX11_term 21 (.getfield 150) 3 24 := ⟨by decide +kernel, rfl⟩
theorem d_X11_term_24 : DC mX11_term 24 (.if_icmp .lt 6) 3 27 := ⟨by decide +kernel, rfl⟩
theorem d_X11_term_27 : DC mX11_term 27 (.ldc 240) 2 29 := ⟨by decide +kernel, rfl⟩
theorem d_X11_term_29 : DC mX11_term 29 (.ireturn) 1 30 := ⟨by decide +kernel, rfl⟩
theorem d_X11_term_30 : DC mX11_term 30 (.aload_n 0) 1 31 := ⟨by decide +kernel, rfl⟩
theorem d_X11_term_31 : DC mX11_term 31 (.getfield 10) 3 34 := ⟨by decide +kernel, rfl⟩
theorem d_X11_term_34 : DC mX11_term 34 (.getfield 146) 3 37 := ⟨by decide +kernel, rfl⟩
theorem d_X11_term_37 : DC mX11_term 37 (.iload_n 1) 1 38 := ⟨by decide +kernel, rfl⟩
theorem d_X11_term_38 : DC mX11_term 38 (.aaload) 1 39 := ⟨by decide +kernel, rfl⟩
theorem d_X11_term_39 : DC mX11_term 39 (.astore 4) 2 41 := ⟨by decide +kernel, rfl⟩
theorem d_X11_term_41 : DC mX11_term 41 (.aload 4) 2 43 := ⟨by decide +kernel, rfl⟩
theorem d_X11_term_43 : DC mX11_term 43 (.getfield 241) 3 46 := ⟨by decide +kernel, rfl⟩
theorem d_X11_term_46 : DC mX11_term 46 (.iload_n 2) 1 47 := ⟨by decide +kernel, rfl⟩
theorem d_X11_term_47 : DC mX11_term 47 (.laload) 1 48 := ⟨by decide +kernel, rfl⟩
theorem d_X11_term_48 : DC mX11_term 48 (.lstore 5) 2 50 := ⟨by decide +kernel, rfl⟩
theorem d_X11_term_50 : DC mX11_term 50 (.lload 5) 2 52 := ⟨by decide +kernel, rfl⟩
theorem d_X11_term_52 : DC mX11_term 52 (.invokestatic 245) 3 55 := ⟨by decide +kernel, rfl⟩
theorem d_X11_term_55 : DC mX11_term 55 (.istore 7) 2 57 := ⟨by decide +kernel, rfl⟩
theorem d_X11_term_57 : DC mX11_term 57 (.iload_n 3) 1 58 := ⟨by decide +kernel, rfl⟩
theorem d_X11_term_58 : DC mX11_term 58 (.tableswitch 89 0 4 #[34, 42, 48, 59, 74]) 34 92 := ⟨by decide +kernel, rfl⟩
theorem d_X11_term_92 : DC mX11_term 92 (.aload 4) 2 94 := ⟨by decide +kernel, rfl⟩
theorem d_X11_term_94 : DC mX11_term 94 (.getfield 249) 3 97 := ⟨by decide +kernel, rfl⟩
theorem d_X11_term_97 : DC mX11_term 97 (.iload_n 2) 1 98 := ⟨by decide +kernel, rfl⟩
theorem d_X11_term_98 : DC mX11_term 98 (.iaload) 1 99 := ⟨by decide +kernel, rfl⟩
theorem d_X11_term_99 : DC mX11_term 99 (.ireturn) 1 100 := ⟨by decide +kernel, rfl⟩
theorem d_X11_term_100 : DC mX11_term 100 (.lload 5) 2 102 := ⟨by decide +kernel, rfl⟩
theorem d_X11_term_102 : DC mX11_term 102 (.invokestatic 252) 3 105 := ⟨by decide +kernel, rfl⟩
theorem d_X11_term_105 : DC mX11_term 105 (.ireturn) 1 106 := ⟨by decide +kernel, rfl⟩
theorem d_X11_term_106 : DC mX11_term 106 (.iload 7) 2 108 := ⟨by decide +kernel, rfl⟩
theorem d_X11_term_108 : DC mX11_term 108 (.ifCond .ne 7) 3 111 := ⟨by decide +kernel, rfl⟩
theorem d_X11_term_111 : DC mX11_term 111 (.iconst 1) 1 112 := ⟨by decide +kernel, rfl⟩
theorem d_X11_term_112 : DC mX11_term 112 (.goto 4) 3 115 := ⟨by decide +kernel, rfl⟩
theorem d_X11_term_115 : DC mX11_term 115 (.iconst 0) 1 116 := ⟨by decide +kernel, rfl⟩
theorem d_X11_term_116 : DC mX11_term 116 (.ireturn) 1 117 := ⟨by decide +kernel, rfl⟩
theorem d_X11_term_117 : DC mX11_term 117 (.iload 7) 2 119 := ⟨by decide +kernel, rfl⟩
theorem d_X11_term_119 : DC mX11_term 119 (.ifCond .ne 7) 3 122 := ⟨by decide +kernel, rfl⟩
theorem d_X11_term_122 : DC mX11_term 122 (.iconst (-1)) 1 123 := ⟨by decide +kernel, rfl⟩
theorem d_X11_term_123 : DC mX11_term 123 (.goto 8) 3 126 := ⟨by decide +kernel, rfl⟩
theorem d_X11_term_126 : DC mX11_term 126 (.iload 7) 2 128 := ⟨by decide +kernel, rfl⟩
theorem d_X11_term_128 : DC mX11_term 128 (.invokestatic 255) 3 131 := ⟨by decide +kernel, rfl⟩
theorem d_X11_term_131 : DC mX11_term 131 (.ireturn) 1 132 := ⟨by decide +kernel, rfl⟩
theorem d_X11_term_132 : DC mX11_term 132 (.iload 7) 2 134 := ⟨by decide +kernel, rfl⟩
theorem d_X11_term_134 : DC mX11_term 134 (.ifCond .ne 7) 3 137 := ⟨by decide +kernel, rfl⟩
theorem d_X11_term_137 : DC mX11_term 137 (.iconst (-1)) 1 138 := ⟨by decide +kernel, rfl⟩
theorem d_X11_term_138 : DC mX11_term 138 (.goto 8) 3 141 := ⟨by decide +kernel, rfl⟩
theorem d_X11_term_141 : DC mX11_term 141 (.iload 7) 2 143 := ⟨by decide +kernel, rfl⟩
theorem d_X11_term_143 : DC mX11_term 143 (.invokestatic 258) 3 146 := ⟨by decide +kernel, rfl⟩
theorem d_X11_term_146 : DC mX11_term 146 (.ireturn) 1 147 := ⟨by decide +kernel, rfl⟩
theorem d_X11_term_147 : DC mX11_term 147 (.iload_n 3) 1 148 := ⟨by decide +kernel, rfl⟩
theorem d_X11_term_148 : DC mX11_term 148 (.bipush 10) 2 150 := ⟨by decide +kernel, rfl⟩
theorem d_X11_term_150 : DC mX11_term 150 (.if_icmp .lt 9) 3 153 := ⟨by decide +kernel, rfl⟩
theorem d_X11_term_153 : DC mX11_term 153 (.iload_n 3) 1 154 := ⟨by decide +kernel, rfl⟩
theorem d_X11_term_154 : DC mX11_term 154 (.bipush 21) 2 156 := ⟨by decide +kernel, rfl⟩
theorem d_X11_term_156 : DC mX11_term 156 (.if_icmp .le 8) 3 159 := ⟨by decide +kernel, rfl⟩
theorem d_X11_term_159 : DC mX11_term 159 (.ldc 240) 2 161 := ⟨by decide +kernel, rfl⟩
theorem d_X11_term_161 : DC mX11_term 161 (.goto 12) 3 164 := ⟨by decide +kernel, rfl⟩
theorem d_X11_term_164 : DC mX11_term 164 (.lload 5) 2 166 := ⟨by decide +kernel, rfl⟩
theorem d_X11_term_166 : DC mX11_term 166 (.iload_n 3) 1 167 := ⟨by decide +kernel, rfl⟩
theorem d_X11_term_167 : DC mX11_term 167 (.bipush 10) 2 169 := ⟨by decide +kernel, rfl⟩
theorem d_X11_term_169 : DC mX11_term 169 (.isub) 1 170 := ⟨by decide +kernel, rfl⟩
theorem d_X11_term_170 : DC mX11_term 170 (.invokestatic 261) 3 173 := ⟨by decide +kernel, rfl⟩
theorem d_X11_term_173 : DC mX11_term 173 (.ireturn) 1 174 := ⟨by decide +kernel, rfl⟩
theorem d_X11_degree_0 : DC mX11_degree 0 (.iload_n 1) 1 1 := ⟨by decide +kernel, rfl⟩
theorem d_X11_degree_1 : DC mX11_degree 1 (.invokestatic 143) 3 4 := ⟨by decide +kernel, rfl⟩
theorem d_X11_degree_4 : DC mX11_degree 4 (.ifCond .eq 10) 3 7 := ⟨by decide +kernel, rfl⟩
theorem d_X11_degree_7 : DC mX11_degree 7 (.iload_n 2) 1 8 := ⟨by decide +kernel, rfl⟩
theorem d_X11_degree_8 : DC mX11_degree 8 (.invokestatic 205) 3 11 := ⟨by decide +kernel, rfl⟩
theorem d_X11_degree_11 : DC mX11_degree 11 (.ifCond .ne 6) 3 14 := ⟨by decide +kernel, rfl⟩
theorem d_X11_degree_14 : DC mX11_degree 14 (.bipush (-2)) 2 16 := ⟨by decide +kernel, rfl⟩
theorem d_X11_degree_16 : DC mX11_degree 16 (.ireturn) 1 17 := ⟨by decide +kernel, rfl⟩
theorem d_X11_degree_17 : DC mX11_degree 17 (.aload_n 0) 1 18 := ⟨by decide +kernel, rfl⟩
theorem d_X11_degree_18 : DC mX11_degree 18 (.getfield 10) 3 21 := ⟨by decide +kernel, rfl⟩
theorem d_X11_degree_21 : DC mX11_degree 21 (.getfield 146) 3 24 := ⟨by decide +kernel, rfl⟩
theorem d_X11_degree_24 : DC mX11_degree 24 (.iload_n 1) 1 25 := ⟨by decide +kernel, rfl⟩
theorem d_X11_degree_25 : DC mX11_degree 25 (.aaload) 1 26 := ⟨by decide +kernel, rfl⟩
theorem d_X11_degree_26 : DC mX11_degree 26 (.astore_n 3) 1 27 := ⟨by decide +kernel, rfl⟩
theorem d_X11_degree_27 : DC mX11_degree 27 (.aload_n 3) 1 28 := ⟨by decide +kernel, rfl⟩
theorem d_X11_degree_28 : DC mX11_degree 28 (.getfield 150) 3 31 := ⟨by decide +kernel, rfl⟩
theorem d_X11_degree_31 : DC mX11_degree 31 (.ifCond .ne 5) 3 34 := ⟨by decide +kernel, rfl⟩
theorem d_X11_degree_34 : DC mX11_degree 34 (.iconst (-1)) 1 35 := ⟨by decide +kernel, rfl⟩
theorem d_X11_degree_35 : DC mX11_degree 35 (.ireturn) 1 36 := ⟨by decide +kernel, rfl⟩
theorem d_X11_degree_36 : DC mX11_degree 36 (.aload_n 3) 1 37 := ⟨by decide +kernel, rfl⟩
theorem d_X11_degree_37 : DC mX11_degree 37 (.getfield 241) 3 40 := ⟨by decide +kernel, rfl⟩
theorem d_X11_degree_40 : DC mX11_degree 40 (.iconst 0) 1 41 := ⟨by decide +kernel, rfl⟩
theorem d_X11_degree_41 : DC mX11_degree 41 (.laload) 1 42 := ⟨by decide +kernel, rfl⟩
theorem d_X11_degree_42 : DC mX11_degree 42 (.iload_n 2) 1 43 := ⟨by decide +kernel, rfl⟩
theorem d_X11_degree_43 : DC mX11_degree 43 (.invokestatic 265) 3 46 := ⟨by decide +kernel, rfl⟩
theorem d_X11_degree_46 : DC mX11_degree 46 (.istore 4) 2 48 := ⟨by decide +kernel, rfl⟩
theorem d_X11_degree_48 : DC mX11_degree 48 (.iconst 1) 1 49 := ⟨by decide +kernel, rfl⟩
theorem d_X11_degree_49 : DC mX11_degree 49 (.istore 5) 2 51 := ⟨by decide +kernel, rfl⟩
theorem d_X11_degree_51 : DC mX11_degree 51 (.iload 5) 2 53 := ⟨by decide +kernel, rfl⟩
theorem d_X11_degree_53 : DC mX11_degree 53 (.aload_n 3) 1 54 := ⟨by decide +kernel, rfl⟩
theorem d_X11_degree_54 : DC mX11_degree 54 (.getfield 150) 3 57 := ⟨by decide +kernel, rfl⟩
theorem d_X11_degree_57 : DC mX11_degree 57 (.if_icmp .ge 27) 3 60 := ⟨by decide +kernel, rfl⟩
theorem d_X11_degree_60 : DC mX11_degree 60 (.aload_n 3) 1 61 := ⟨by decide +kernel, rfl⟩
theorem d_X11_degree_61 : DC mX11_degree 61 (.getfield 241) 3 64 := ⟨by decide +kernel, rfl⟩
theorem d_X11_degree_64 : DC mX11_degree 64 (.iload 5) 2 66 := ⟨by decide +kernel, rfl⟩
theorem d_X11_degree_66 : DC mX11_degree 66 (.laload) 1 67 := ⟨by decide +kernel, rfl⟩
theorem d_X11_degree_67 : DC mX11_degree 67 (.iload_n 2) 1 68 := ⟨by decide +kernel, rfl⟩
theorem d_X11_degree_68 : DC mX11_degree 68 (.invokestatic 265) 3 71 := ⟨by decide +kernel, rfl⟩
theorem d_X11_degree_71 : DC mX11_degree 71 (.iload 4) 2 73 := ⟨by decide +kernel, rfl⟩
theorem d_X11_degree_73 : DC mX11_degree 73 (.if_icmp .eq 5) 3 76 := ⟨by decide +kernel, rfl⟩
theorem d_X11_degree_76 : DC mX11_degree 76 (.iconst (-1)) 1 77 := ⟨by decide +kernel, rfl⟩
theorem d_X11_degree_77 : DC mX11_degree 77 (.ireturn) 1 78 := ⟨by decide +kernel, rfl⟩
theorem d_X11_degree_78 : DC mX11_degree 78 (.iinc 5 1) 3 81 := ⟨by decide +kernel, rfl⟩
theorem d_X11_degree_81 : DC mX11_degree 81 (.goto (-30)) 3 84 := ⟨by decide +kernel, rfl⟩
theorem d_X11_degree_84 : DC mX11_degree 84 (.iload 4) 2 86 := ⟨by decide +kernel, rfl⟩
theorem d_X11_degree_86 : DC mX11_degree 86 (.ireturn) 1 87 := ⟨by decide +kernel, rfl⟩
theorem d_X11_steps_0 : DC mX11_steps 0 (.aload_n 0) 1 1 := ⟨by decide +kernel, rfl⟩
theorem d_X11_steps_1 : DC mX11_steps 1 (.iconst 0) 1 2 := ⟨by decide +kernel, rfl⟩
theorem d_X11_steps_2 : DC mX11_steps 2 (.putfield 90) 3 5 := ⟨by decide +kernel, rfl⟩
theorem d_X11_steps_5 : DC mX11_steps 5 (.iload_n 1) 1 6 := ⟨by decide +kernel, rfl⟩
theorem d_X11_steps_6 : DC mX11_steps 6 (.invokestatic 143) 3 9 := ⟨by decide +kernel, rfl⟩
theorem d_X11_steps_9 : DC mX11_steps 9 (.ifCond .ne 6) 3 12 := ⟨by decide +kernel, rfl⟩
theorem d_X11_steps_12 : DC mX11_steps 12 (.bipush (-2)) 2 14 := ⟨by decide +kernel, rfl⟩
theorem d_X11_steps_14 : DC mX11_steps 14 (.ireturn) 1 15 := ⟨by decide +kernel, rfl⟩
theorem d_X11_steps_15 : DC mX11_steps 15 (.aload_n 0) 1 16 := ⟨by decide +kernel, rfl⟩
theorem d_X11_steps_16 : DC mX11_steps 16 (.getfield 41) 3 19 := ⟨by decide +kernel, rfl⟩
theorem d_X11_steps_19 : DC mX11_steps 19 (.aload_n 0) 1 20 := ⟨by decide +kernel, rfl⟩
theorem d_X11_steps_20 : DC mX11_steps 20 (.getfield 10) 3 23 := ⟨by decide +kernel, rfl⟩
theorem d_X11_steps_23 : DC mX11_steps 23 (.getfield 146) 3 26 := ⟨by decide +kernel, rfl⟩
theorem d_X11_steps_26 : DC mX11_steps 26 (.iload_n 1) 1 27 := ⟨by decide +kernel, rfl⟩
theorem d_X11_steps_27 : DC mX11_steps 27 (.aaload) 1 28 := ⟨by decide +kernel, rfl⟩
theorem d_X11_steps_28 : DC mX11_steps 28 (.aload_n 0) 1 29 := ⟨by decide +kernel, rfl⟩
theorem d_X11_steps_29 : DC mX11_steps 29 (.getfield 83) 3 32 := ⟨by decide +kernel, rfl⟩
theorem d_X11_steps_32 : DC mX11_steps 32 (.invokevirtual 212) 3 35 := ⟨by decide +kernel, rfl⟩
theorem d_X11_steps_35 : DC mX11_steps 35 (.istore_n 2) 1 36 := ⟨by decide +kernel, rfl⟩
theorem d_X11_steps_36 : DC mX11_steps 36 (.iload_n 2) 1 37 := ⟨by decide +kernel, rfl⟩
theorem d_X11_steps_37 : DC mX11_steps 37 (.ifCond .ne 13) 3 40 := ⟨by decide +kernel, rfl⟩
theorem d_X11_steps_40 : DC mX11_steps 40 (.aload_n 0) 1 41 := ⟨by decide +kernel, rfl⟩
theorem d_X11_steps_41 : DC mX11_steps 41 (.getfield 41) 3 44 := ⟨by decide +kernel, rfl⟩
theorem d_X11_steps_44 : DC mX11_steps 44 (.getfield 268) 3 47 := ⟨by decide +kernel, rfl⟩
theorem d_X11_steps_47 : DC mX11_steps 47 (.goto 8) 3 50 := ⟨by decide +kernel, rfl⟩
theorem d_X11_steps_50 : DC mX11_steps 50 (.aload_n 0) 1 51 := ⟨by decide +kernel, rfl⟩
theorem d_X11_steps_51 : DC mX11_steps 51 (.iload_n 2) 1 52 := ⟨by decide +kernel, rfl⟩
theorem d_X11_steps_52 : DC mX11_steps 52 (.invokevirtual 271) 3 55 := ⟨by decide +kernel, rfl⟩
theorem d_X11_steps_55 : DC mX11_steps 55 (.ireturn) 1 56 := ⟨by decide +kernel, rfl⟩
theorem d_X11_left_0 : DC mX11_left 0 (.aload_n 0) 1 1 := ⟨by decide +kernel, rfl⟩
theorem d_X11_left_1 : DC mX11_left 1 (.iconst 0) 1 2 := ⟨by decide +kernel, rfl⟩
theorem d_X11_left_2 : DC mX11_left 2 (.putfield 90) 3 5 := ⟨by decide +kernel, rfl⟩
theorem d_X11_left_5 : DC mX11_left 5 (.iload_n 1) 1 6 := ⟨by decide +kernel, rfl⟩
theorem d_X11_left_6 : DC mX11_left 6 (.invokestatic 143) 3 9 := ⟨by decide +kernel, rfl⟩
theorem d_X11_left_9 : DC mX11_left 9 (.ifCond .ne 6) 3 12 := ⟨by decide +kernel, rfl⟩
theorem d_X11_left_12 : DC mX11_left 12 (.bipush (-2)) 2 14 := ⟨by decide +kernel, rfl⟩
theorem d_X11_left_14 : DC mX11_left 14 (.ireturn) 1 15 := ⟨by decide +kernel, rfl⟩
theorem d_X11_left_15 : DC mX11_left 15 (.aload_n 0) 1 16 := ⟨by decide +kernel, rfl⟩
theorem d_X11_left_16 : DC mX11_left 16 (.getfield 41) 3 19 := ⟨by decide +kernel, rfl⟩
theorem d_X11_left_19 : DC mX11_left 19 (.aload_n 0) 1 20 := ⟨by decide +kernel, rfl⟩
theorem d_X11_left_20 : DC mX11_left 20 (.getfield 10) 3 23 := ⟨by decide +kernel, rfl⟩
theorem d_X11_left_23 : DC mX11_left 23 (.getfield 146) 3 26 := ⟨by decide +kernel, rfl⟩
theorem d_X11_left_26 : DC mX11_left 26 (.iload_n 1) 1 27 := ⟨by decide +kernel, rfl⟩
theorem d_X11_left_27 : DC mX11_left 27 (.aaload) 1 28 := ⟨by decide +kernel, rfl⟩
theorem d_X11_left_28 : DC mX11_left 28 (.aload_n 0) 1 29 := ⟨by decide +kernel, rfl⟩
theorem d_X11_left_29 : DC mX11_left 29 (.getfield 83) 3 32 := ⟨by decide +kernel, rfl⟩
theorem d_X11_left_32 : DC mX11_left 32 (.invokevirtual 212) 3 35 := ⟨by decide +kernel, rfl⟩
theorem d_X11_left_35 : DC mX11_left 35 (.istore_n 2) 1 36 := ⟨by decide +kernel, rfl⟩
theorem d_X11_left_36 : DC mX11_left 36 (.iload_n 2) 1 37 := ⟨by decide +kernel, rfl⟩
theorem d_X11_left_37 : DC mX11_left 37 (.ifCond .ne 13) 3 40 := ⟨by decide +kernel, rfl⟩
theorem d_X11_left_40 : DC mX11_left 40 (.aload_n 0) 1 41 := ⟨by decide +kernel, rfl⟩
theorem d_X11_left_41 : DC mX11_left 41 (.getfield 83) 3 44 := ⟨by decide +kernel, rfl⟩
theorem d_X11_left_44 : DC mX11_left 44 (.getfield 150) 3 47 := ⟨by decide +kernel, rfl⟩
theorem d_X11_left_47 : DC mX11_left 47 (.goto 8) 3 50 := ⟨by decide +kernel, rfl⟩
theorem d_X11_left_50 : DC mX11_left 50 (.aload_n 0) 1 51 := ⟨by decide +kernel, rfl⟩
theorem d_X11_left_51 : DC mX11_left 51 (.iload_n 2) 1 52 := ⟨by decide +kernel, rfl⟩
theorem d_X11_left_52 : DC mX11_left 52 (.invokevirtual 271) 3 55 := ⟨by decide +kernel, rfl⟩
theorem d_X11_left_55 : DC mX11_left 55 (.ireturn) 1 56 := ⟨by decide +kernel, rfl⟩
theorem d_X11_equal_0 : DC mX11_equal 0 (.aload_n 0) 1 1 := ⟨by decide +kernel, rfl⟩
theorem d_X11_equal_1 : DC mX11_equal 1 (.iconst 0) 1 2 := ⟨by decide +kernel, rfl⟩
theorem d_X11_equal_2 : DC mX11_equal 2 (.putfield 90) 3 5 := ⟨by decide +kernel, rfl⟩
theorem d_X11_equal_5 : DC mX11_equal 5 (.iload_n 1) 1 6 := ⟨by decide +kernel, rfl⟩
theorem d_X11_equal_6 : DC mX11_equal 6 (.invokestatic 143) 3 9 := ⟨by decide +kernel, rfl⟩
theorem d_X11_equal_9 : DC mX11_equal 9 (.ifCond .eq 10) 3 12 := ⟨by decide +kernel, rfl⟩
theorem d_X11_equal_12 : DC mX11_equal 12 (.iload_n 2) 1 13 := ⟨by decide +kernel, rfl⟩
theorem d_X11_equal_13 : DC mX11_equal 13 (.invokestatic 143) 3 16 := ⟨by decide +kernel, rfl⟩
theorem d_X11_equal_16 : DC mX11_equal 16 (.ifCond .ne 6) 3 19 := ⟨by decide +kernel, rfl⟩
theorem d_X11_equal_19 : DC mX11_equal 19 (.bipush (-2)) 2 21 := ⟨by decide +kernel, rfl⟩
theorem d_X11_equal_21 : DC mX11_equal 21 (.ireturn) 1 22 := ⟨by decide +kernel, rfl⟩
theorem d_X11_equal_22 : DC mX11_equal 22 (.aload_n 0) 1 23 := ⟨by decide +kernel, rfl⟩
theorem d_X11_equal_23 : DC mX11_equal 23 (.getfield 41) 3 26 := ⟨by decide +kernel, rfl⟩
theorem d_X11_equal_26 : DC mX11_equal 26 (.aload_n 0) 1 27 := ⟨by decide +kernel, rfl⟩
theorem d_X11_equal_27 : DC mX11_equal 27 (.getfield 10) 3 30 := ⟨by decide +kernel, rfl⟩
theorem d_X11_equal_30 : DC mX11_equal 30 (.getfield 146) 3 33 := ⟨by decide +kernel, rfl⟩
theorem d_X11_equal_33 : DC mX11_equal 33 (.iload_n 1) 1 34 := ⟨by decide +kernel, rfl⟩
theorem d_X11_equal_34 : DC mX11_equal 34 (.aaload) 1 35 := ⟨by decide +kernel, rfl⟩
theorem d_X11_equal_35 : DC mX11_equal 35 (.aload_n 0) 1 36 := ⟨by decide +kernel, rfl⟩
theorem d_X11_equal_36 : DC mX11_equal 36 (.getfield 83) 3 39 := ⟨by decide +kernel, rfl⟩
theorem d_X11_equal_39 : DC mX11_equal 39 (.invokevirtual 212) 3 42 := ⟨by decide +kernel, rfl⟩
theorem d_X11_equal_42 : DC mX11_equal 42 (.istore_n 3) 1 43 := ⟨by decide +kernel, rfl⟩
theorem d_X11_equal_43 : DC mX11_equal 43 (.iload_n 3) 1 44 := ⟨by decide +kernel, rfl⟩
theorem d_X11_equal_44 : DC mX11_equal 44 (.ifCond .ne 24) 3 47 := ⟨by decide +kernel, rfl⟩
theorem d_X11_equal_47 : DC mX11_equal 47 (.aload_n 0) 1 48 := ⟨by decide +kernel, rfl⟩
theorem d_X11_equal_48 : DC mX11_equal 48 (.getfield 41) 3 51 := ⟨by decide +kernel, rfl⟩
theorem d_X11_equal_51 : DC mX11_equal 51 (.aload_n 0) 1 52 := ⟨by decide +kernel, rfl⟩
theorem d_X11_equal_52 : DC mX11_equal 52 (.getfield 10) 3 55 := ⟨by decide +kernel, rfl⟩
theorem d_X11_equal_55 : DC mX11_equal 55 (.getfield 146) 3 58 := ⟨by decide +kernel, rfl⟩
theorem d_X11_equal_58 : DC mX11_equal 58 (.iload_n 2) 1 59 := ⟨by decide +kernel, rfl⟩
theorem d_X11_equal_59 : DC mX11_equal 59 (.aaload) 1 60 := ⟨by decide +kernel, rfl⟩
theorem d_X11_equal_60 : DC mX11_equal 60 (.aload_n 0) 1 61 := ⟨by decide +kernel, rfl⟩
theorem d_X11_equal_61 : DC mX11_equal 61 (.getfield 87) 3 64 := ⟨by decide +kernel, rfl⟩
theorem d_X11_equal_64 : DC mX11_equal 64 (.invokevirtual 212) 3 67 := ⟨by decide +kernel, rfl⟩
theorem d_X11_equal_67 : DC mX11_equal 67 (.istore_n 3) 1 68 := ⟨by decide +kernel, rfl⟩
theorem d_X11_equal_68 : DC mX11_equal 68 (.iload_n 3) 1 69 := ⟨by decide +kernel, rfl⟩
theorem d_X11_equal_69 : DC mX11_equal 69 (.ifCond .eq 9) 3 72 := ⟨by decide +kernel, rfl⟩
theorem d_X11_equal_72 : DC mX11_equal 72 (.aload_n 0) 1 73 := ⟨by decide +kernel, rfl⟩
theorem d_X11_equal_73 : DC mX11_equal 73 (.iload_n 3) 1 74 := ⟨by decide +kernel, rfl⟩
theorem d_X11_equal_74 : DC mX11_equal 74 (.invokevirtual 271) 3 77 := ⟨by decide +kernel, rfl⟩
theorem d_X11_equal_77 : DC mX11_equal 77 (.ireturn) 1 78 := ⟨by decide +kernel, rfl⟩
theorem d_X11_equal_78 : DC mX11_equal 78 (.aload_n 0) 1 79 := ⟨by decide +kernel, rfl⟩
theorem d_X11_equal_79 : DC mX11_equal 79 (.getfield 83) 3 82 := ⟨by decide +kernel, rfl⟩
theorem d_X11_equal_82 : DC mX11_equal 82 (.aload_n 0) 1 83 := ⟨by decide +kernel, rfl⟩
theorem d_X11_equal_83 : DC mX11_equal 83 (.getfield 87) 3 86 := ⟨by decide +kernel, rfl⟩
theorem d_X11_equal_86 : DC mX11_equal 86 (.invokevirtual 274) 3 89 := ⟨by decide +kernel, rfl⟩
theorem d_X11_equal_89 : DC mX11_equal 89 (.ifCond .eq 7) 3 92 := ⟨by decide +kernel, rfl⟩
theorem d_X11_equal_92 : DC mX11_equal 92 (.iconst 1) 1 93 := ⟨by decide +kernel, rfl⟩
theorem d_X11_equal_93 : DC mX11_equal 93 (.goto 4) 3 96 := ⟨by decide +kernel, rfl⟩
theorem d_X11_equal_96 : DC mX11_equal 96 (.iconst 0) 1 97 := ⟨by decide +kernel, rfl⟩
theorem d_X11_equal_97 : DC mX11_equal 97 (.ireturn) 1 98 := ⟨by decide +kernel, rfl⟩
theorem d_X11_forms_0 : DC mX11_forms 0 (.iload_n 1) 1 1 := ⟨by decide +kernel, rfl⟩
theorem d_X11_forms_1 : DC mX11_forms 1 (.invokestatic 143) 3 4 := ⟨by decide +kernel, rfl⟩
theorem d_X11_forms_4 : DC mX11_forms 4 (.ifCond .ne 6) 3 7 := ⟨by decide +kernel, rfl⟩
theorem d_X11_forms_7 : DC mX11_forms 7 (.bipush (-2)) 2 9 := ⟨by decide +kernel, rfl⟩
theorem d_X11_forms_9 : DC mX11_forms 9 (.ireturn) 1 10 := ⟨by decide +kernel, rfl⟩
theorem d_X11_forms_10 : DC mX11_forms 10 (.aload_n 0) 1 11 := ⟨by decide +kernel, rfl⟩
theorem d_X11_forms_11 : DC mX11_forms 11 (.getfield 10) 3 14 := ⟨by decide +kernel, rfl⟩
theorem d_X11_forms_14 : DC mX11_forms 14 (.getfield 146) 3 17 := ⟨by decide +kernel, rfl⟩
theorem d_X11_forms_17 : DC mX11_forms 17 (.iload_n 1) 1 18 := ⟨by decide +kernel, rfl⟩
theorem d_X11_forms_18 : DC mX11_forms 18 (.aaload) 1 19 := ⟨by decide +kernel, rfl⟩
theorem d_X11_forms_19 : DC mX11_forms 19 (.astore_n 2) 1 20 := ⟨by decide +kernel, rfl⟩
theorem d_X11_forms_20 : DC mX11_forms 20 (.aload_n 2) 1 21 := ⟨by decide +kernel, rfl⟩
theorem d_X11_forms_21 : DC mX11_forms 21 (.getfield 150) 3 24 := ⟨by decide +kernel, rfl⟩
theorem d_X11_forms_24 : DC mX11_forms 24 (.ifCond .ne 7) 3 27 := ⟨by decide +kernel, rfl⟩
theorem d_X11_forms_27 : DC mX11_forms 27 (.iconst (-1)) 1 28 := ⟨by decide +kernel, rfl⟩
theorem d_X11_forms_28 : DC mX11_forms 28 (.goto 16) 3 31 := ⟨by decide +kernel, rfl⟩
theorem d_X11_forms_31 : DC mX11_forms 31 (.aload_n 0) 1 32 := ⟨by decide +kernel, rfl⟩
theorem d_X11_forms_32 : DC mX11_forms 32 (.getfield 55) 3 35 := ⟨by decide +kernel, rfl⟩
theorem d_X11_forms_35 : DC mX11_forms 35 (.aload_n 2) 1 36 := ⟨by decide +kernel, rfl⟩
theorem d_X11_forms_36 : DC mX11_forms 36 (.getfield 241) 3 39 := ⟨by decide +kernel, rfl⟩
theorem d_X11_forms_39 : DC mX11_forms 39 (.iconst 0) 1 40 := ⟨by decide +kernel, rfl⟩
theorem d_X11_forms_40 : DC mX11_forms 40 (.laload) 1 41 := ⟨by decide +kernel, rfl⟩
theorem d_X11_forms_41 : DC mX11_forms 41 (.invokevirtual 278) 3 44 := ⟨by decide +kernel, rfl⟩
theorem d_X11_forms_44 : DC mX11_forms 44 (.ireturn) 1 45 := ⟨by decide +kernel, rfl⟩
theorem d_X11_form_0 : DC mX11_form 0 (.iload_n 1) 1 1 := ⟨by decide +kernel, rfl⟩
theorem d_X11_form_1 : DC mX11_form 1 (.invokestatic 143) 3 4 := ⟨by decide +kernel, rfl⟩
theorem d_X11_form_4 : DC mX11_form 4 (.ifCond .ne 6) 3 7 := ⟨by decide +kernel, rfl⟩
theorem d_X11_form_7 : DC mX11_form 7 (.bipush (-2)) 2 9 := ⟨by decide +kernel, rfl⟩
theorem d_X11_form_9 : DC mX11_form 9 (.ireturn) 1 10 := ⟨by decide +kernel, rfl⟩
theorem d_X11_form_10 : DC mX11_form 10 (.iload_n 2) 1 11 := ⟨by decide +kernel, rfl⟩
theorem d_X11_form_11 : DC mX11_form 11 (.ifCond .lt 7) 3 14 := ⟨by decide +kernel, rfl⟩
theorem d_X11_form_14 : DC mX11_form 14 (.iload_n 3) 1 15 := ⟨by decide +kernel, rfl⟩
theorem d_X11_form_15 : DC mX11_form 15 (.ifCond .ge 6) 3 18 := ⟨by decide +kernel, rfl⟩
theorem d_X11_form_18 : DC mX11_form 18 (.bipush (-3)) 2 20 := ⟨by decide +kernel, rfl⟩
theorem d_X11_form_20 : DC mX11_form 20 (.ireturn) 1 21 := ⟨by decide +kernel, rfl⟩
theorem d_X11_form_21 : DC mX11_form 21 (.aload_n 0) 1 22 := ⟨by decide +kernel, rfl⟩
theorem d_X11_form_22 : DC mX11_form 22 (.getfield 10) 3 25 := ⟨by decide +kernel, rfl⟩
theorem d_X11_form_25 : DC mX11_form 25 (.getfield 146) 3 28 := ⟨by decide +kernel, rfl⟩
theorem d_X11_form_28 : DC mX11_form 28 (.iload_n 1) 1 29 := ⟨by decide +kernel, rfl⟩
theorem d_X11_form_29 : DC mX11_form 29 (.aaload) 1 30 := ⟨by decide +kernel, rfl⟩
theorem d_X11_form_30 : DC mX11_form 30 (.astore 4) 2 32 := ⟨by decide +kernel, rfl⟩
theorem d_X11_form_32 : DC mX11_form 32 (.aload 4) 2 34 := ⟨by decide +kernel, rfl⟩
theorem d_X11_form_34 : DC mX11_form 34 (.getfield 150) 3 37 := ⟨by decide +kernel, rfl⟩
theorem d_X11_form_37 : DC mX11_form 37 (.ifCond .ne 7) 3 40 := ⟨by decide +kernel, rfl⟩
theorem d_X11_form_40 : DC mX11_form 40 (.iconst (-1)) 1 41 := ⟨by decide +kernel, rfl⟩
theorem d_X11_form_41 : DC mX11_form 41 (.goto 19) 3 44 := ⟨by decide +kernel, rfl⟩
theorem d_X11_form_44 : DC mX11_form 44 (.aload_n 0) 1 45 := ⟨by decide +kernel, rfl⟩
theorem d_X11_form_45 : DC mX11_form 45 (.getfield 55) 3 48 := ⟨by decide +kernel, rfl⟩
theorem d_X11_form_48 : DC mX11_form 48 (.aload 4) 2 50 := ⟨by decide +kernel, rfl⟩
theorem d_X11_form_50 : DC mX11_form 50 (.getfield 241) 3 53 := ⟨by decide +kernel, rfl⟩
theorem d_X11_form_53 : DC mX11_form 53 (.iconst 0) 1 54 := ⟨by decide +kernel, rfl⟩
theorem d_X11_form_54 : DC mX11_form 54 (.laload) 1 55 := ⟨by decide +kernel, rfl⟩
theorem d_X11_form_55 : DC mX11_form 55 (.iload_n 2) 1 56 := ⟨by decide +kernel, rfl⟩
theorem d_X11_form_56 : DC mX11_form 56 (.iload_n 3) 1 57 := ⟨by decide +kernel, rfl⟩
theorem d_X11_form_57 : DC mX11_form 57 (.invokevirtual 281) 3 60 := ⟨by decide +kernel, rfl⟩
theorem d_X11_form_60 : DC mX11_form 60 (.ireturn) 1 61 := ⟨by decide +kernel, rfl⟩
theorem d_X11_rank_0 : DC mX11_rank 0 (.aload_n 0) 1 1 := ⟨by decide +kernel, rfl⟩
theorem d_X11_rank_1 : DC mX11_rank 1 (.iconst 0) 1 2 := ⟨by decide +kernel, rfl⟩
theorem d_X11_rank_2 : DC mX11_rank 2 (.putfield 90) 3 5 := ⟨by decide +kernel, rfl⟩
theorem d_X11_rank_5 : DC mX11_rank 5 (.iload_n 1) 1 6 := ⟨by decide +kernel, rfl⟩
theorem d_X11_rank_6 : DC mX11_rank 6 (.ifCond .lt 9) 3 9 := ⟨by decide +kernel, rfl⟩
theorem d_X11_rank_9 : DC mX11_rank 9 (.iload_n 1) 1 10 := ⟨by decide +kernel, rfl⟩
theorem d_X11_rank_10 : DC mX11_rank 10 (.bipush 64) 2 12 := ⟨by decide +kernel, rfl⟩
theorem d_X11_rank_12 : DC mX11_rank 12 (.if_icmp .lt 6) 3 15 := ⟨by decide +kernel, rfl⟩
theorem d_X11_rank_15 : DC mX11_rank 15 (.bipush (-2)) 2 17 := ⟨by decide +kernel, rfl⟩
theorem d_X11_rank_17 : DC mX11_rank 17 (.ireturn) 1 18 := ⟨by decide +kernel, rfl⟩
theorem d_X11_rank_18 : DC mX11_rank 18 (.aload_n 0) 1 19 := ⟨by decide +kernel, rfl⟩
theorem d_X11_rank_19 : DC mX11_rank 19 (.getfield 62) 3 22 := ⟨by decide +kernel, rfl⟩
theorem d_X11_rank_22 : DC mX11_rank 22 (.invokevirtual 285) 3 25 := ⟨by decide +kernel, rfl⟩
theorem d_X11_rank_25 : DC mX11_rank 25 (.iconst 0) 1 26 := ⟨by decide +kernel, rfl⟩
theorem d_X11_rank_26 : DC mX11_rank 26 (.istore_n 2) 1 27 := ⟨by decide +kernel, rfl⟩
theorem d_X11_rank_27 : DC mX11_rank 27 (.iload_n 2) 1 28 := ⟨by decide +kernel, rfl⟩
theorem d_X11_rank_28 : DC mX11_rank 28 (.bipush 6) 2 30 := ⟨by decide +kernel, rfl⟩
theorem d_X11_rank_30 : DC mX11_rank 30 (.if_icmp .ge 60) 3 33 := ⟨by decide +kernel, rfl⟩
theorem d_X11_rank_33 : DC mX11_rank 33 (.iload_n 1) 1 34 := ⟨by decide +kernel, rfl⟩
theorem d_X11_rank_34 : DC mX11_rank 34 (.iload_n 2) 1 35 := ⟨by decide +kernel, rfl⟩
theorem d_X11_rank_35 : DC mX11_rank 35 (.ishr) 1 36 := ⟨by decide +kernel, rfl⟩
theorem d_X11_rank_36 : DC mX11_rank 36 (.iconst 1) 1 37 := ⟨by decide +kernel, rfl⟩
theorem d_X11_rank_37 : DC mX11_rank 37 (.iand) 1 38 := ⟨by decide +kernel, rfl⟩
theorem d_X11_rank_38 : DC mX11_rank 38 (.iconst 1) 1 39 := ⟨by decide +kernel, rfl⟩
theorem d_X11_rank_39 : DC mX11_rank 39 (.if_icmp .ne 45) 3 42 := ⟨by decide +kernel, rfl⟩
theorem d_X11_rank_42 : DC mX11_rank 42 (.aload_n 0) 1 43 := ⟨by decide +kernel, rfl⟩
theorem d_X11_rank_43 : DC mX11_rank 43 (.getfield 41) 3 46 := ⟨by decide +kernel, rfl⟩
theorem d_X11_rank_46 : DC mX11_rank 46 (.aload_n 0) 1 47 := ⟨by decide +kernel, rfl⟩
theorem d_X11_rank_47 : DC mX11_rank 47 (.getfield 10) 3 50 := ⟨by decide +kernel, rfl⟩
theorem d_X11_rank_50 : DC mX11_rank 50 (.getfield 146) 3 53 := ⟨by decide +kernel, rfl⟩
theorem d_X11_rank_53 : DC mX11_rank 53 (.iload_n 2) 1 54 := ⟨by decide +kernel, rfl⟩
theorem d_X11_rank_54 : DC mX11_rank 54 (.aaload) 1 55 := ⟨by decide +kernel, rfl⟩
theorem d_X11_rank_55 : DC mX11_rank 55 (.aload_n 0) 1 56 := ⟨by decide +kernel, rfl⟩
theorem d_X11_rank_56 : DC mX11_rank 56 (.getfield 83) 3 59 := ⟨by decide +kernel, rfl⟩
theorem d_X11_rank_59 : DC mX11_rank 59 (.invokevirtual 212) 3 62 := ⟨by decide +kernel, rfl⟩
theorem d_X11_rank_62 : DC mX11_rank 62 (.istore_n 3) 1 63 := ⟨by decide +kernel, rfl⟩
theorem d_X11_rank_63 : DC mX11_rank 63 (.iload_n 3) 1 64 := ⟨by decide +kernel, rfl⟩
theorem d_X11_rank_64 : DC mX11_rank 64 (.ifCond .eq 9) 3 67 := ⟨by decide +kernel, rfl⟩
theorem d_X11_rank_67 : DC mX11_rank 67 (.aload_n 0) 1 68 := ⟨by decide +kernel, rfl⟩
theorem d_X11_rank_68 : DC mX11_rank 68 (.iload_n 3) 1 69 := ⟨by decide +kernel, rfl⟩
theorem d_X11_rank_69 : DC mX11_rank 69 (.invokevirtual 271) 3 72 := ⟨by decide +kernel, rfl⟩
theorem d_X11_rank_72 : DC mX11_rank 72 (.ireturn) 1 73 := ⟨by decide +kernel, rfl⟩
theorem d_X11_rank_73 : DC mX11_rank 73 (.aload_n 0) 1 74 := ⟨by decide +kernel, rfl⟩
theorem d_X11_rank_74 : DC mX11_rank 74 (.getfield 62) 3 77 := ⟨by decide +kernel, rfl⟩
theorem d_X11_rank_77 : DC mX11_rank 77 (.aload_n 0) 1 78 := ⟨by decide +kernel, rfl⟩
theorem d_X11_rank_78 : DC mX11_rank 78 (.getfield 83) 3 81 := ⟨by decide +kernel, rfl⟩
theorem d_X11_rank_81 : DC mX11_rank 81 (.invokevirtual 286) 3 84 := ⟨by decide +kernel, rfl⟩
theorem d_X11_rank_84 : DC mX11_rank 84 (.iinc 2 1) 3 87 := ⟨by decide +kernel, rfl⟩
theorem d_X11_rank_87 : DC mX11_rank 87 (.goto (-60)) 3 90 := ⟨by decide +kernel, rfl⟩
theorem d_X11_rank_90 : DC mX11_rank 90 (.aload_n 0) 1 91 := ⟨by decide +kernel, rfl⟩
theorem d_X11_rank_91 : DC mX11_rank 91 (.getfield 62) 3 94 := ⟨by decide +kernel, rfl⟩
theorem d_X11_rank_94 : DC mX11_rank 94 (.invokevirtual 289) 3 97 := ⟨by decide +kernel, rfl⟩
theorem d_X11_rank_97 : DC mX11_rank 97 (.ireturn) 1 98 := ⟨by decide +kernel, rfl⟩
theorem d_X11_factor_0 : DC mX11_factor 0 (.aload_n 0) 1 1 := ⟨by decide +kernel, rfl⟩
theorem d_X11_factor_1 : DC mX11_factor 1 (.iconst 0) 1 2 := ⟨by decide +kernel, rfl⟩
theorem d_X11_factor_2 : DC mX11_factor 2 (.putfield 90) 3 5 := ⟨by decide +kernel, rfl⟩
theorem d_X11_factor_5 : DC mX11_factor 5 (.iload_n 1) 1 6 := ⟨by decide +kernel, rfl⟩
theorem d_X11_factor_6 : DC mX11_factor 6 (.invokestatic 143) 3 9 := ⟨by decide +kernel, rfl⟩
theorem d_X11_factor_9 : DC mX11_factor 9 (.ifCond .eq 13) 3 12 := ⟨by decide +kernel, rfl⟩
theorem d_X11_factor_12 : DC mX11_factor 12 (.iload_n 2) 1 13 := ⟨by decide +kernel, rfl⟩
theorem d_X11_factor_13 : DC mX11_factor 13 (.ifCond .lt 9) 3 16 := ⟨by decide +kernel, rfl⟩
theorem d_X11_factor_16 : DC mX11_factor 16 (.iload_n 2) 1 17 := ⟨by decide +kernel, rfl⟩
theorem d_X11_factor_17 : DC mX11_factor 17 (.bipush 6) 2 19 := ⟨by decide +kernel, rfl⟩
theorem d_X11_factor_19 : DC mX11_factor 19 (.if_icmp .le 6) 3 22 := ⟨by decide +kernel, rfl⟩
theorem d_X11_factor_22 : DC mX11_factor 22 (.bipush (-2)) 2 24 := ⟨by decide +kernel, rfl⟩
theorem d_X11_factor_24 : DC mX11_factor 24 (.ireturn) 1 25 := ⟨by decide +kernel, rfl⟩
theorem d_X11_factor_25 : DC mX11_factor 25 (.aload_n 0) 1 26 := ⟨by decide +kernel, rfl⟩
theorem d_X11_factor_26 : DC mX11_factor 26 (.getfield 10) 3 29 := ⟨by decide +kernel, rfl⟩
theorem d_X11_factor_29 : DC mX11_factor 29 (.getfield 146) 3 32 := ⟨by decide +kernel, rfl⟩
theorem d_X11_factor_32 : DC mX11_factor 32 (.iload_n 1) 1 33 := ⟨by decide +kernel, rfl⟩
theorem d_X11_factor_33 : DC mX11_factor 33 (.aaload) 1 34 := ⟨by decide +kernel, rfl⟩
theorem d_X11_factor_34 : DC mX11_factor 34 (.astore_n 3) 1 35 := ⟨by decide +kernel, rfl⟩
theorem d_X11_factor_35 : DC mX11_factor 35 (.aload_n 3) 1 36 := ⟨by decide +kernel, rfl⟩
theorem d_X11_factor_36 : DC mX11_factor 36 (.getfield 150) 3 39 := ⟨by decide +kernel, rfl⟩
theorem d_X11_factor_39 : DC mX11_factor 39 (.ifCond .eq 19) 3 42 := ⟨by decide +kernel, rfl⟩
theorem d_X11_factor_42 : DC mX11_factor 42 (.aload_n 0) 1 43 := ⟨by decide +kernel, rfl⟩
theorem d_X11_factor_43 : DC mX11_factor 43 (.getfield 69) 3 46 := ⟨by decide +kernel, rfl⟩
theorem d_X11_factor_46 : DC mX11_factor 46 (.aload_n 3) 1 47 := ⟨by decide +kernel, rfl⟩
theorem d_X11_factor_47 : DC mX11_factor 47 (.getfield 241) 3 50 := ⟨by decide +kernel, rfl⟩
theorem d_X11_factor_50 : DC mX11_factor 50 (.iconst 0) 1 51 := ⟨by decide +kernel, rfl⟩
theorem d_X11_factor_51 : DC mX11_factor 51 (.laload) 1 52 := ⟨by decide +kernel, rfl⟩
theorem d_X11_factor_52 : DC mX11_factor 52 (.invokevirtual 292) 3 55 := ⟨by decide +kernel, rfl⟩
theorem d_X11_factor_55 : DC mX11_factor 55 (.ifCond .ne 5) 3 58 := ⟨by decide +kernel, rfl⟩
theorem d_X11_factor_58 : DC mX11_factor 58 (.iconst 0) 1 59 := ⟨by decide +kernel, rfl⟩
theorem d_X11_factor_59 : DC mX11_factor 59 (.ireturn) 1 60 := ⟨by decide +kernel, rfl⟩
theorem d_X11_factor_60 : DC mX11_factor 60 (.aload_n 0) 1 61 := ⟨by decide +kernel, rfl⟩
theorem d_X11_factor_61 : DC mX11_factor 61 (.getfield 41) 3 64 := ⟨by decide +kernel, rfl⟩
theorem d_X11_factor_64 : DC mX11_factor 64 (.aload_n 0) 1 65 := ⟨by decide +kernel, rfl⟩
theorem d_X11_factor_65 : DC mX11_factor 65 (.getfield 10) 3 68 := ⟨by decide +kernel, rfl⟩
theorem d_X11_factor_68 : DC mX11_factor 68 (.getfield 146) 3 71 := ⟨by decide +kernel, rfl⟩
theorem d_X11_factor_71 : DC mX11_factor 71 (.iload_n 1) 1 72 := ⟨by decide +kernel, rfl⟩
theorem d_X11_factor_72 : DC mX11_factor 72 (.aaload) 1 73 := ⟨by decide +kernel, rfl⟩
theorem d_X11_factor_73 : DC mX11_factor 73 (.aload_n 0) 1 74 := ⟨by decide +kernel, rfl⟩
theorem d_X11_factor_74 : DC mX11_factor 74 (.getfield 83) 3 77 := ⟨by decide +kernel, rfl⟩
theorem d_X11_factor_77 : DC mX11_factor 77 (.invokevirtual 212) 3 80 := ⟨by decide +kernel, rfl⟩
theorem d_X11_factor_80 : DC mX11_factor 80 (.istore 4) 2 82 := ⟨by decide +kernel, rfl⟩
theorem d_X11_factor_82 : DC mX11_factor 82 (.iload 4) 2 84 := ⟨by decide +kernel, rfl⟩
theorem d_X11_factor_84 : DC mX11_factor 84 (.ifCond .eq 10) 3 87 := ⟨by decide +kernel, rfl⟩
theorem d_X11_factor_87 : DC mX11_factor 87 (.aload_n 0) 1 88 := ⟨by decide +kernel, rfl⟩
theorem d_X11_factor_88 : DC mX11_factor 88 (.iload 4) 2 90 := ⟨by decide +kernel, rfl⟩
theorem d_X11_factor_90 : DC mX11_factor 90 (.invokevirtual 271) 3 93 := ⟨by decide +kernel, rfl⟩
theorem d_X11_factor_93 : DC mX11_factor 93 (.ireturn) 1 94 := ⟨by decide +kernel, rfl⟩
theorem d_X11_factor_94 : DC mX11_factor 94 (.aload_n 0) 1 95 := ⟨by decide +kernel, rfl⟩
theorem d_X11_factor_95 : DC mX11_factor 95 (.getfield 69) 3 98 := ⟨by decide +kernel, rfl⟩
theorem d_X11_factor_98 : DC mX11_factor 98 (.aload_n 0) 1 99 := ⟨by decide +kernel, rfl⟩
theorem d_X11_factor_99 : DC mX11_factor 99 (.getfield 83) 3 102 := ⟨by decide +kernel, rfl⟩
theorem d_X11_factor_102 : DC mX11_factor 102 (.invokevirtual 296) 3 105 := ⟨by decide +kernel, rfl⟩
theorem d_X11_factor_105 : DC mX11_factor 105 (.ifCond .ne 5) 3 108 := ⟨by decide +kernel, rfl⟩
theorem d_X11_factor_108 : DC mX11_factor 108 (.iconst 0) 1 109 := ⟨by decide +kernel, rfl⟩
theorem d_X11_factor_109 : DC mX11_factor 109 (.ireturn) 1 110 := ⟨by decide +kernel, rfl⟩
theorem d_X11_factor_110 : DC mX11_factor 110 (.iload_n 2) 1 111 := ⟨by decide +kernel, rfl⟩
theorem d_X11_factor_111 : DC mX11_factor 111 (.ifCond .ne 13) 3 114 := ⟨by decide +kernel, rfl⟩
theorem d_X11_factor_114 : DC mX11_factor 114 (.aload_n 0) 1 115 := ⟨by decide +kernel, rfl⟩
theorem d_X11_factor_115 : DC mX11_factor 115 (.getfield 69) 3 118 := ⟨by decide +kernel, rfl⟩
theorem d_X11_factor_118 : DC mX11_factor 118 (.getfield 299) 3 121 := ⟨by decide +kernel, rfl⟩
theorem d_X11_factor_121 : DC mX11_factor 121 (.goto 15) 3 124 := ⟨by decide +kernel, rfl⟩
theorem d_X11_factor_124 : DC mX11_factor 124 (.aload_n 0) 1 125 := ⟨by decide +kernel, rfl⟩
theorem d_X11_factor_125 : DC mX11_factor 125 (.getfield 69) 3 128 := ⟨by decide +kernel, rfl⟩
theorem d_X11_factor_128 : DC mX11_factor 128 (.iload_n 2) 1 129 := ⟨by decide +kernel, rfl⟩
theorem d_X11_factor_129 : DC mX11_factor 129 (.iconst 1) 1 130 := ⟨by decide +kernel, rfl⟩
theorem d_X11_factor_130 : DC mX11_factor 130 (.isub) 1 131 := ⟨by decide +kernel, rfl⟩
theorem d_X11_factor_131 : DC mX11_factor 131 (.invokevirtual 302) 3 134 := ⟨by decide +kernel, rfl⟩
theorem d_X11_factor_134 : DC mX11_factor 134 (.iconst 1) 1 135 := ⟨by decide +kernel, rfl⟩
theorem d_X11_factor_135 : DC mX11_factor 135 (.iadd) 1 136 := ⟨by decide +kernel, rfl⟩
theorem d_X11_factor_136 : DC mX11_factor 136 (.ireturn) 1 137 := ⟨by decide +kernel, rfl⟩
theorem d_X11_isFinal_0 : DC mX11_isFinal 0 (.aload_n 0) 1 1 := ⟨by decide +kernel, rfl⟩
theorem d_X11_isFinal_1 : DC mX11_isFinal 1 (.iconst 0) 1 2 := ⟨by decide +kernel, rfl⟩
theorem d_X11_isFinal_2 : DC mX11_isFinal 2 (.putfield 90) 3 5 := ⟨by decide +kernel, rfl⟩
theorem d_X11_isFinal_5 : DC mX11_isFinal 5 (.iload_n 1) 1 6 := ⟨by decide +kernel, rfl⟩
theorem d_X11_isFinal_6 : DC mX11_isFinal 6 (.invokestatic 143) 3 9 := ⟨by decide +kernel, rfl⟩
theorem d_X11_isFinal_9 : DC mX11_isFinal 9 (.ifCond .ne 6) 3 12 := ⟨by decide +kernel, rfl⟩
theorem d_X11_isFinal_12 : DC mX11_isFinal 12 (.bipush (-2)) 2 14 := ⟨by decide +kernel, rfl⟩
theorem d_X11_isFinal_14 : DC mX11_isFinal 14 (.ireturn) 1 15 := ⟨by decide +kernel, rfl⟩
theorem d_X11_isFinal_15 : DC mX11_isFinal 15 (.aload_n 0) 1 16 := ⟨by decide +kernel, rfl⟩
theorem d_X11_isFinal_16 : DC mX11_isFinal 16 (.getfield 41) 3 19 := ⟨by decide +kernel, rfl⟩
theorem d_X11_isFinal_19 : DC mX11_isFinal 19 (.aload_n 0) 1 20 := ⟨by decide +kernel, rfl⟩
theorem d_X11_isFinal_20 : DC mX11_isFinal 20 (.getfield 10) 3 23 := ⟨by decide +kernel, rfl⟩
theorem d_X11_isFinal_23 : DC mX11_isFinal 23 (.getfield 146) 3 26 := ⟨by decide +kernel, rfl⟩
theorem d_X11_isFinal_26 : DC mX11_isFinal 26 (.iload_n 1) 1 27 := ⟨by decide +kernel, rfl⟩
theorem d_X11_isFinal_27 : DC mX11_isFinal 27 (.aaload) 1 28 := ⟨by decide +kernel, rfl⟩
theorem d_X11_isFinal_28 : DC mX11_isFinal 28 (.aload_n 0) 1 29 := ⟨by decide +kernel, rfl⟩
theorem d_X11_isFinal_29 : DC mX11_isFinal 29 (.getfield 83) 3 32 := ⟨by decide +kernel, rfl⟩
theorem d_X11_isFinal_32 : DC mX11_isFinal 32 (.invokevirtual 212) 3 35 := ⟨by decide +kernel, rfl⟩
theorem d_X11_isFinal_35 : DC mX11_isFinal 35 (.istore_n 2) 1 36 := ⟨by decide +kernel, rfl⟩
theorem d_X11_isFinal_36 : DC mX11_isFinal 36 (.iload_n 2) 1 37 := ⟨by decide +kernel, rfl⟩
theorem d_X11_isFinal_37 : DC mX11_isFinal 37 (.ifCond .eq 9) 3 40 := ⟨by decide +kernel, rfl⟩
theorem d_X11_isFinal_40 : DC mX11_isFinal 40 (.aload_n 0) 1 41 := ⟨by decide +kernel, rfl⟩
theorem d_X11_isFinal_41 : DC mX11_isFinal 41 (.iload_n 2) 1 42 := ⟨by decide +kernel, rfl⟩
theorem d_X11_isFinal_42 : DC mX11_isFinal 42 (.invokevirtual 271) 3 45 := ⟨by decide +kernel, rfl⟩
theorem d_X11_isFinal_45 : DC mX11_isFinal 45 (.ireturn) 1 46 := ⟨by decide +kernel, rfl⟩
theorem d_X11_isFinal_46 : DC mX11_isFinal 46 (.aload_n 0) 1 47 := ⟨by decide +kernel, rfl⟩
theorem d_X11_isFinal_47 : DC mX11_isFinal 47 (.getfield 83) 3 50 := ⟨by decide +kernel, rfl⟩
theorem d_X11_isFinal_50 : DC mX11_isFinal 50 (.getfield 150) 3 53 := ⟨by decide +kernel, rfl⟩
theorem d_X11_isFinal_53 : DC mX11_isFinal 53 (.ifCond .eq 5) 3 56 := ⟨by decide +kernel, rfl⟩
theorem d_X11_isFinal_56 : DC mX11_isFinal 56 (.iconst 0) 1 57 := ⟨by decide +kernel, rfl⟩
theorem d_X11_isFinal_57 : DC mX11_isFinal 57 (.ireturn) 1 58 := ⟨by decide +kernel, rfl⟩
theorem d_X11_isFinal_58 : DC mX11_isFinal 58 (.aload_n 0) 1 59 := ⟨by decide +kernel, rfl⟩
theorem d_X11_isFinal_59 : DC mX11_isFinal 59 (.getfield 10) 3 62 := ⟨by decide +kernel, rfl⟩
theorem d_X11_isFinal_62 : DC mX11_isFinal 62 (.aload_n 0) 1 63 := ⟨by decide +kernel, rfl⟩
theorem d_X11_isFinal_63 : DC mX11_isFinal 63 (.getfield 87) 3 66 := ⟨by decide +kernel, rfl⟩
theorem d_X11_isFinal_66 : DC mX11_isFinal 66 (.aload_n 0) 1 67 := ⟨by decide +kernel, rfl⟩
theorem d_X11_isFinal_67 : DC mX11_isFinal 67 (.getfield 10) 3 70 := ⟨by decide +kernel, rfl⟩
theorem d_X11_isFinal_70 : DC mX11_isFinal 70 (.getfield 146) 3 73 := ⟨by decide +kernel, rfl⟩
theorem d_X11_isFinal_73 : DC mX11_isFinal 73 (.iload_n 1) 1 74 := ⟨by decide +kernel, rfl⟩
theorem d_X11_isFinal_74 : DC mX11_isFinal 74 (.aaload) 1 75 := ⟨by decide +kernel, rfl⟩
theorem d_X11_isFinal_75 : DC mX11_isFinal 75 (.invokevirtual 215) 3 78 := ⟨by decide +kernel, rfl⟩
theorem d_X11_isFinal_78 : DC mX11_isFinal 78 (.aload_n 0) 1 79 := ⟨by decide +kernel, rfl⟩
theorem d_X11_isFinal_79 : DC mX11_isFinal 79 (.getfield 87) 3 82 := ⟨by decide +kernel, rfl⟩
theorem d_X11_isFinal_82 : DC mX11_isFinal 82 (.getfield 150) 3 85 := ⟨by decide +kernel, rfl⟩
theorem d_X11_isFinal_85 : DC mX11_isFinal 85 (.iconst 1) 1 86 := ⟨by decide +kernel, rfl⟩
theorem d_X11_isFinal_86 : DC mX11_isFinal 86 (.if_icmp .ne 26) 3 89 := ⟨by decide +kernel, rfl⟩
theorem d_X11_isFinal_89 : DC mX11_isFinal 89 (.aload_n 0) 1 90 := ⟨by decide +kernel, rfl⟩
theorem d_X11_isFinal_90 : DC mX11_isFinal 90 (.getfield 10) 3 93 := ⟨by decide +kernel, rfl⟩
theorem d_X11_isFinal_93 : DC mX11_isFinal 93 (.aload_n 0) 1 94 := ⟨by decide +kernel, rfl⟩
theorem d_X11_isFinal_94 : DC mX11_isFinal 94 (.getfield 87) 3 97 := ⟨by decide +kernel, rfl⟩
theorem d_X11_isFinal_97 : DC mX11_isFinal 97 (.getfield 241) 3 100 := ⟨by decide +kernel, rfl⟩
theorem d_X11_isFinal_100 : DC mX11_isFinal 100 (.iconst 0) 1 101 := ⟨by decide +kernel, rfl⟩
theorem d_X11_isFinal_101 : DC mX11_isFinal 101 (.laload) 1 102 := ⟨by decide +kernel, rfl⟩
theorem d_X11_isFinal_102 : DC mX11_isFinal 102 (.invokevirtual 305) 3 105 := ⟨by decide +kernel, rfl⟩
theorem d_X11_isFinal_105 : DC mX11_isFinal 105 (.ifCond .eq 7) 3 108 := ⟨by decide +kernel, rfl⟩
theorem d_X11_isFinal_108 : DC mX11_isFinal 108 (.iconst 1) 1 109 := ⟨by decide +kernel, rfl⟩
theorem d_X11_isFinal_109 : DC mX11_isFinal 109 (.goto 4) 3 112 := ⟨by decide +kernel, rfl⟩
theorem d_X11_isFinal_112 : DC mX11_isFinal 112 (.iconst 0) 1 113 := ⟨by decide +kernel, rfl⟩
theorem d_X11_isFinal_113 : DC mX11_isFinal 113 (.ireturn) 1 114 := ⟨by decide +kernel, rfl⟩
theorem d_X11_known_0 : DC mX11_known 0 (.iload_n 1) 1 1 := ⟨by decide +kernel, rfl⟩
theorem d_X11_known_1 : DC mX11_known 1 (.iload_n 2) 1 2 := ⟨by decide +kernel, rfl⟩
theorem d_X11_known_2 : DC mX11_known 2 (.iload_n 3) 1 3 := ⟨by decide +kernel, rfl⟩
theorem d_X11_known_3 : DC mX11_known 3 (.invokestatic 160) 3 6 := ⟨by decide +kernel, rfl⟩
theorem d_X11_known_6 : DC mX11_known 6 (.ifCond .ne 6) 3 9 := ⟨by decide +kernel, rfl⟩
theorem d_X11_known_9 : DC mX11_known 9 (.bipush (-2)) 2 11 := ⟨by decide +kernel, rfl⟩
theorem d_X11_known_11 : DC mX11_known 11 (.ireturn) 1 12 := ⟨by decide +kernel, rfl⟩
theorem d_X11_known_12 : DC mX11_known 12 (.iload_n 1) 1 13 := ⟨by decide +kernel, rfl⟩
theorem d_X11_known_13 : DC mX11_known 13 (.iload_n 2) 1 14 := ⟨by decide +kernel, rfl⟩
theorem d_X11_known_14 : DC mX11_known 14 (.iload_n 3) 1 15 := ⟨by decide +kernel, rfl⟩
theorem d_X11_known_15 : DC mX11_known 15 (.invokestatic 167) 3 18 := ⟨by decide +kernel, rfl⟩
theorem d_X11_known_18 : DC mX11_known 18 (.invokestatic 219) 3 21 := ⟨by decide +kernel, rfl⟩
theorem d_X11_known_21 : DC mX11_known 21 (.invokestatic 222) 3 24 := ⟨by decide +kernel, rfl⟩
theorem d_X11_known_24 : DC mX11_known 24 (.istore 4) 2 26 := ⟨by decide +kernel, rfl⟩
theorem d_X11_known_26 : DC mX11_known 26 (.iload 4) 2 28 := ⟨by decide +kernel, rfl⟩
theorem d_X11_known_28 : DC mX11_known 28 (.ifCond .ne 8) 3 31 := ⟨by decide +kernel, rfl⟩
theorem d_X11_known_31 : DC mX11_known 31 (.bipush (-3)) 2 33 := ⟨by decide +kernel, rfl⟩
theorem d_X11_known_33 : DC mX11_known 33 (.goto 12) 3 36 := ⟨by decide +kernel, rfl⟩
theorem d_X11_known_36 : DC mX11_known 36 (.aload_n 0) 1 37 := ⟨by decide +kernel, rfl⟩
theorem d_X11_known_37 : DC mX11_known 37 (.getfield 10) 3 40 := ⟨by decide +kernel, rfl⟩
theorem d_X11_known_40 : DC mX11_known 40 (.iload 4) 2 42 := ⟨by decide +kernel, rfl⟩
theorem d_X11_known_42 : DC mX11_known 42 (.invokevirtual 227) 3 45 := ⟨by decide +kernel, rfl⟩
theorem d_X11_known_45 : DC mX11_known 45 (.ireturn) 1 46 := ⟨by decide +kernel, rfl⟩
theorem d_X11_at_0 : DC mX11_at 0 (.iload_n 1) 1 1 := ⟨by decide +kernel, rfl⟩
theorem d_X11_at_1 : DC mX11_at 1 (.invokestatic 205) 3 4 := ⟨by decide +kernel, rfl⟩
theorem d_X11_at_4 : DC mX11_at 4 (.ifCond .eq 12) 3 7 := ⟨by decide +kernel, rfl⟩
theorem d_X11_at_7 : DC mX11_at 7 (.iload_n 2) 1 8 := ⟨by decide +kernel, rfl⟩
theorem d_X11_at_8 : DC mX11_at 8 (.ifCond .lt 8) 3 11 := ⟨by decide +kernel, rfl⟩
theorem d_X11_at_11 : DC mX11_at 11 (.iload_n 2) 1 12 := ⟨by decide +kernel, rfl⟩
theorem d_X11_at_12 : DC mX11_at 12 (.iconst 2) 1 13 := ⟨by decide +kernel, rfl⟩
theorem d_X11_at_13 : DC mX11_at 13 (.if_icmp .le 6) 3 16 := ⟨by decide +kernel, rfl⟩
theorem d_X11_at_16 : DC mX11_at 16 (.bipush (-100)) 2 18 := ⟨by decide +kernel, rfl⟩
theorem d_X11_at_18 : DC mX11_at 18 (.ireturn) 1 19 := ⟨by decide +kernel, rfl⟩
theorem d_X11_at_19 : DC mX11_at 19 (.aload_n 0) 1 20 := ⟨by decide +kernel, rfl⟩
theorem d_X11_at_20 : DC mX11_at 20 (.getfield 10) 3 23 := ⟨by decide +kernel, rfl⟩
theorem d_X11_at_23 : DC mX11_at 23 (.getfield 237) 3 26 := ⟨by decide +kernel, rfl⟩
theorem d_X11_at_26 : DC mX11_at 26 (.iconst 3) 1 27 := ⟨by decide +kernel, rfl⟩
theorem d_X11_at_27 : DC mX11_at 27 (.iload_n 1) 1 28 := ⟨by decide +kernel, rfl⟩
theorem d_X11_at_28 : DC mX11_at 28 (.imul) 1 29 := ⟨by decide +kernel, rfl⟩
theorem d_X11_at_29 : DC mX11_at 29 (.iload_n 2) 1 30 := ⟨by decide +kernel, rfl⟩
theorem d_X11_at_30 : DC mX11_at 30 (.iadd) 1 31 := ⟨by decide +kernel, rfl⟩
theorem d_X11_at_31 : DC mX11_at 31 (.iaload) 1 32 := ⟨by decide +kernel, rfl⟩
theorem d_X11_at_32 : DC mX11_at 32 (.ireturn) 1 33 := ⟨by decide +kernel, rfl⟩
theorem d_X11_worth_0 : DC mX11_worth 0 (.iload_n 1) 1 1 := ⟨by decide +kernel, rfl⟩
theorem d_X11_worth_1 : DC mX11_worth 1 (.iload_n 2) 1 2 := ⟨by decide +kernel, rfl⟩
theorem d_X11_worth_2 : DC mX11_worth 2 (.iload_n 3) 1 3 := ⟨by decide +kernel, rfl⟩
theorem d_X11_worth_3 : DC mX11_worth 3 (.invokestatic 160) 3 6 := ⟨by decide +kernel, rfl⟩
theorem d_X11_worth_6 : DC mX11_worth 6 (.ifCond .eq 16) 3 9 := ⟨by decide +kernel, rfl⟩
theorem d_X11_worth_9 : DC mX11_worth 9 (.aload_n 0) 1 10 := ⟨by decide +kernel, rfl⟩
theorem d_X11_worth_10 : DC mX11_worth 10 (.getfield 10) 3 13 := ⟨by decide +kernel, rfl⟩
theorem d_X11_worth_13 : DC mX11_worth 13 (.iload_n 1) 1 14 := ⟨by decide +kernel, rfl⟩
theorem d_X11_worth_14 : DC mX11_worth 14 (.iload_n 2) 1 15 := ⟨by decide +kernel, rfl⟩
theorem d_X11_worth_15 : DC mX11_worth 15 (.iload_n 3) 1 16 := ⟨by decide +kernel, rfl⟩
theorem d_X11_worth_16 : DC mX11_worth 16 (.invokevirtual 308) 3 19 := ⟨by decide +kernel, rfl⟩
theorem d_X11_worth_19 : DC mX11_worth 19 (.goto 5) 3 22 := ⟨by decide +kernel, rfl⟩
theorem d_X11_worth_22 : DC mX11_worth 22 (.ldc 240) 2 24 := ⟨by decide +kernel, rfl⟩
theorem d_X11_worth_24 : DC mX11_worth 24 (.ireturn) 1 25 := ⟨by decide +kernel, rfl⟩
theorem d_X11_value_0 : DC mX11_value 0 (.iload_n 1) 1 1 := ⟨by decide +kernel, rfl⟩
theorem d_X11_value_1 : DC mX11_value 1 (.invokestatic 143) 3 4 := ⟨by decide +kernel, rfl⟩
theorem d_X11_value_4 : DC mX11_value 4 (.ifCond .ne 7) 3 7 := ⟨by decide +kernel, rfl⟩
theorem d_X11_value_7 : DC mX11_value 7 (.ldc2_w 311) 3 10 := ⟨by decide +kernel, rfl⟩
theorem d_X11_value_10 : DC mX11_value 10 (.lreturn) 1 11 := ⟨by decide +kernel, rfl⟩
theorem d_X11_value_11 : DC mX11_value 11 (.aload_n 0) 1 12 := ⟨by decide +kernel, rfl⟩
theorem d_X11_value_12 : DC mX11_value 12 (.getfield 10) 3 15 := ⟨by decide +kernel, rfl⟩
theorem d_X11_value_15 : DC mX11_value 15 (.aload_n 0) 1 16 := ⟨by decide +kernel, rfl⟩
theorem d_X11_value_16 : DC mX11_value 16 (.getfield 10) 3 19 := ⟨by decide +kernel, rfl⟩
theorem d_X11_value_19 : DC mX11_value 19 (.getfield 146) 3 22 := ⟨by decide +kernel, rfl⟩
theorem d_X11_value_22 : DC mX11_value 22 (.iload_n 1) 1 23 := ⟨by decide +kernel, rfl⟩
theorem d_X11_value_23 : DC mX11_value 23 (.aaload) 1 24 := ⟨by decide +kernel, rfl⟩
theorem d_X11_value_24 : DC mX11_value 24 (.invokevirtual 313) 3 27 := ⟨by decide +kernel, rfl⟩
theorem d_X11_value_27 : DC mX11_value 27 (.lreturn) 1 28 := ⟨by decide +kernel, rfl⟩
theorem d_X11_undo_0 : DC mX11_undo 0 (.iload_n 1) 1 1 := ⟨by decide +kernel, rfl⟩
theorem d_X11_undo_1 : DC mX11_undo 1 (.iconst 1) 1 2 := ⟨by decide +kernel, rfl⟩
theorem d_X11_undo_2 : DC mX11_undo 2 (.if_icmp .lt 20) 3 5 := ⟨by decide +kernel, rfl⟩
theorem d_X11_undo_5 : DC mX11_undo 5 (.iload_n 1) 1 6 := ⟨by decide +kernel, rfl⟩
theorem d_X11_undo_6 : DC mX11_undo 6 (.bipush 10) 2 8 := ⟨by decide +kernel, rfl⟩
theorem d_X11_undo_8 : DC mX11_undo 8 (.if_icmp .gt 14) 3 11 := ⟨by decide +kernel, rfl⟩
theorem d_X11_undo_11 : DC mX11_undo 11 (.iload_n 1) 1 12 := ⟨by decide +kernel, rfl⟩
theorem d_X11_undo_12 : DC mX11_undo 12 (.aload_n 0) 1 13 := ⟨by decide +kernel, rfl⟩
theorem d_X11_undo_13 : DC mX11_undo 13 (.getfield 19) 3 16 := ⟨by decide +kernel, rfl⟩
theorem d_X11_undo_16 : DC mX11_undo 16 (.getfield 317) 3 19 := ⟨by decide +kernel, rfl⟩
theorem d_X11_undo_19 : DC mX11_undo 19 (.if_icmp .le 6) 3 22 := ⟨by decide +kernel, rfl⟩
theorem d_X11_undo_22 : DC mX11_undo 22 (.bipush (-3)) 2 24 := ⟨by decide +kernel, rfl⟩
theorem d_X11_undo_24 : DC mX11_undo 24 (.ireturn) 1 25 := ⟨by decide +kernel, rfl⟩
theorem d_X11_undo_25 : DC mX11_undo 25 (.aload_n 0) 1 26 := ⟨by decide +kernel, rfl⟩
theorem d_X11_undo_26 : DC mX11_undo 26 (.getfield 19) 3 29 := ⟨by decide +kernel, rfl⟩
theorem d_X11_undo_29 : DC mX11_undo 29 (.iload_n 1) 1 30 := ⟨by decide +kernel, rfl⟩
theorem d_X11_undo_30 : DC mX11_undo 30 (.aload_n 0) 1 31 := ⟨by decide +kernel, rfl⟩
theorem d_X11_undo_31 : DC mX11_undo 31 (.getfield 10) 3 34 := ⟨by decide +kernel, rfl⟩
theorem d_X11_undo_34 : DC mX11_undo 34 (.invokevirtual 318) 3 37 := ⟨by decide +kernel, rfl⟩
theorem d_X11_undo_37 : DC mX11_undo 37 (.aload_n 0) 1 38 := ⟨by decide +kernel, rfl⟩
theorem d_X11_undo_38 : DC mX11_undo 38 (.getfield 19) 3 41 := ⟨by decide +kernel, rfl⟩
theorem d_X11_undo_41 : DC mX11_undo 41 (.getfield 317) 3 44 := ⟨by decide +kernel, rfl⟩
theorem d_X11_undo_44 : DC mX11_undo 44 (.ireturn) 1 45 := ⟨by decide +kernel, rfl⟩
theorem d_X11_image_0 : DC mX11_image 0 (.iload_n 1) 1 1 := ⟨by decide +kernel, rfl⟩
theorem d_X11_image_1 : DC mX11_image 1 (.ifCond .lt 8) 3 4 := ⟨by decide +kernel, rfl⟩
theorem d_X11_image_4 : DC mX11_image 4 (.iload_n 1) 1 5 := ⟨by decide +kernel, rfl⟩
theorem d_X11_image_5 : DC mX11_image 5 (.iconst 2) 1 6 := ⟨by decide +kernel, rfl⟩
theorem d_X11_image_6 : DC mX11_image 6 (.if_icmp .lt 6) 3 9 := ⟨by decide +kernel, rfl⟩
theorem d_X11_image_9 : DC mX11_image 9 (.bipush (-2)) 2 11 := ⟨by decide +kernel, rfl⟩
theorem d_X11_image_11 : DC mX11_image 11 (.ireturn) 1 12 := ⟨by decide +kernel, rfl⟩
theorem d_X11_image_12 : DC mX11_image 12 (.aload_n 0) 1 13 := ⟨by decide +kernel, rfl⟩
theorem d_X11_image_13 : DC mX11_image 13 (.getfield 23) 3 16 := ⟨by decide +kernel, rfl⟩
theorem d_X11_image_16 : DC mX11_image 16 (.iload_n 1) 1 17 := ⟨by decide +kernel, rfl⟩
theorem d_X11_image_17 : DC mX11_image 17 (.aaload) 1 18 := ⟨by decide +kernel, rfl⟩
theorem d_X11_image_18 : DC mX11_image 18 (.aload_n 0) 1 19 := ⟨by decide +kernel, rfl⟩
theorem d_X11_image_19 : DC mX11_image 19 (.getfield 10) 3 22 := ⟨by decide +kernel, rfl⟩
theorem d_X11_image_22 : DC mX11_image 22 (.invokevirtual 322) 3 25 := ⟨by decide +kernel, rfl⟩
theorem d_X11_image_25 : DC mX11_image 25 (.aload_n 0) 1 26 := ⟨by decide +kernel, rfl⟩
theorem d_X11_image_26 : DC mX11_image 26 (.getfield 27) 3 29 := ⟨by decide +kernel, rfl⟩
theorem d_X11_image_29 : DC mX11_image 29 (.iload_n 1) 1 30 := ⟨by decide +kernel, rfl⟩
theorem d_X11_image_30 : DC mX11_image 30 (.iconst 1) 1 31 := ⟨by decide +kernel, rfl⟩
theorem d_X11_image_31 : DC mX11_image 31 (.bastore) 1 32 := ⟨by decide +kernel, rfl⟩
theorem d_X11_image_32 : DC mX11_image 32 (.iconst 0) 1 33 := ⟨by decide +kernel, rfl⟩
theorem d_X11_image_33 : DC mX11_image 33 (.ireturn) 1 34 := ⟨by decide +kernel, rfl⟩
theorem d_X11_restore_0 : DC mX11_restore 0 (.iload_n 1) 1 1 := ⟨by decide +kernel, rfl⟩
theorem d_X11_restore_1 : DC mX11_restore 1 (.ifCond .lt 8) 3 4 := ⟨by decide +kernel, rfl⟩
theorem d_X11_restore_4 : DC mX11_restore 4 (.iload_n 1) 1 5 := ⟨by decide +kernel, rfl⟩
theorem d_X11_restore_5 : DC mX11_restore 5 (.iconst 2) 1 6 := ⟨by decide +kernel, rfl⟩
theorem d_X11_restore_6 : DC mX11_restore 6 (.if_icmp .lt 6) 3 9 := ⟨by decide +kernel, rfl⟩
theorem d_X11_restore_9 : DC mX11_restore 9 (.bipush (-2)) 2 11 := ⟨by decide +kernel, rfl⟩
theorem d_X11_restore_11 : DC mX11_restore 11 (.ireturn) 1 12 := ⟨by decide +kernel, rfl⟩
theorem d_X11_restore_12 : DC mX11_restore 12 (.aload_n 0) 1 13 := ⟨by decide +kernel, rfl⟩
theorem d_X11_restore_13 : DC mX11_restore 13 (.getfield 27) 3 16 := ⟨by decide +kernel, rfl⟩
theorem d_X11_restore_16 : DC mX11_restore 16 (.iload_n 1) 1 17 := ⟨by decide +kernel, rfl⟩
theorem d_X11_restore_17 : DC mX11_restore 17 (.baload) 1 18 := ⟨by decide +kernel, rfl⟩
theorem d_X11_restore_18 : DC mX11_restore 18 (.ifCond .ne 6) 3 21 := ⟨by decide +kernel, rfl⟩
theorem d_X11_restore_21 : DC mX11_restore 21 (.bipush (-6)) 2 23 := ⟨by decide +kernel, rfl⟩
theorem d_X11_restore_23 : DC mX11_restore 23 (.ireturn) 1 24 := ⟨by decide +kernel, rfl⟩
theorem d_X11_restore_24 : DC mX11_restore 24 (.aload_n 0) 1 25 := ⟨by decide +kernel, rfl⟩
theorem d_X11_restore_25 : DC mX11_restore 25 (.getfield 10) 3 28 := ⟨by decide +kernel, rfl⟩
theorem d_X11_restore_28 : DC mX11_restore 28 (.aload_n 0) 1 29 := ⟨by decide +kernel, rfl⟩
theorem d_X11_restore_29 : DC mX11_restore 29 (.getfield 23) 3 32 := ⟨by decide +kernel, rfl⟩
theorem d_X11_restore_32 : DC mX11_restore 32 (.iload_n 1) 1 33 := ⟨by decide +kernel, rfl⟩
theorem d_X11_restore_33 : DC mX11_restore 33 (.aaload) 1 34 := ⟨by decide +kernel, rfl⟩
theorem d_X11_restore_34 : DC mX11_restore 34 (.invokevirtual 322) 3 37 := ⟨by decide +kernel, rfl⟩
theorem d_X11_restore_37 : DC mX11_restore 37 (.aload_n 0) 1 38 := ⟨by decide +kernel, rfl⟩
theorem d_X11_restore_38 : DC mX11_restore 38 (.getfield 19) 3 41 := ⟨by decide +kernel, rfl⟩
theorem d_X11_restore_41 : DC mX11_restore 41 (.invokevirtual 324) 3 44 := ⟨by decide +kernel, rfl⟩
theorem d_X11_restore_44 : DC mX11_restore 44 (.iconst 0) 1 45 := ⟨by decide +kernel, rfl⟩
theorem d_X11_restore_45 : DC mX11_restore 45 (.ireturn) 1 46 := ⟨by decide +kernel, rfl⟩
theorem d_X11_count_0 : DC mX11_count 0 (.iload_n 1) 1 1 := ⟨by decide +kernel, rfl⟩
theorem d_X11_count_1 : DC mX11_count 1 (.tableswitch 89 0 5 #[39, 47, 56, 65, 73, 81]) 39 40 := ⟨by decide +kernel, rfl⟩
theorem d_X11_count_40 : DC mX11_count 40 (.aload_n 0) 1 41 := ⟨by decide +kernel, rfl⟩
theorem d_X11_count_41 : DC mX11_count 41 (.getfield 10) 3 44 := ⟨by decide +kernel, rfl⟩
theorem d_X11_count_44 : DC mX11_count 44 (.invokevirtual 327) 3 47 := ⟨by decide +kernel, rfl⟩
theorem d_X11_count_47 : DC mX11_count 47 (.ireturn) 1 48 := ⟨by decide +kernel, rfl⟩
theorem d_X11_count_48 : DC mX11_count 48 (.aload_n 0) 1 49 := ⟨by decide +kernel, rfl⟩
theorem d_X11_count_49 : DC mX11_count 49 (.getfield 10) 3 52 := ⟨by decide +kernel, rfl⟩
theorem d_X11_count_52 : DC mX11_count 52 (.iconst 0) 1 53 := ⟨by decide +kernel, rfl⟩
theorem d_X11_count_53 : DC mX11_count 53 (.invokevirtual 330) 3 56 := ⟨by decide +kernel, rfl⟩
theorem d_X11_count_56 : DC mX11_count 56 (.ireturn) 1 57 := ⟨by decide +kernel, rfl⟩
theorem d_X11_count_57 : DC mX11_count 57 (.aload_n 0) 1 58 := ⟨by decide +kernel, rfl⟩
theorem d_X11_count_58 : DC mX11_count 58 (.getfield 10) 3 61 := ⟨by decide +kernel, rfl⟩
theorem d_X11_count_61 : DC mX11_count 61 (.iconst 1) 1 62 := ⟨by decide +kernel, rfl⟩
theorem d_X11_count_62 : DC mX11_count 62 (.invokevirtual 330) 3 65 := ⟨by decide +kernel, rfl⟩
theorem d_X11_count_65 : DC mX11_count 65 (.ireturn) 1 66 := ⟨by decide +kernel, rfl⟩
theorem d_X11_count_66 : DC mX11_count 66 (.aload_n 0) 1 67 := ⟨by decide +kernel, rfl⟩
theorem d_X11_count_67 : DC mX11_count 67 (.getfield 34) 3 70 := ⟨by decide +kernel, rfl⟩
theorem d_X11_count_70 : DC mX11_count 70 (.getfield 94) 3 73 := ⟨by decide +kernel, rfl⟩
theorem d_X11_count_73 : DC mX11_count 73 (.ireturn) 1 74 := ⟨by decide +kernel, rfl⟩
theorem d_X11_count_74 : DC mX11_count 74 (.aload_n 0) 1 75 := ⟨by decide +kernel, rfl⟩
theorem d_X11_count_75 : DC mX11_count 75 (.getfield 19) 3 78 := ⟨by decide +kernel, rfl⟩
theorem d_X11_count_78 : DC mX11_count 78 (.getfield 317) 3 81 := ⟨by decide +kernel, rfl⟩
theorem d_X11_count_81 : DC mX11_count 81 (.ireturn) 1 82 := ⟨by decide +kernel, rfl⟩
theorem d_X11_count_82 : DC mX11_count 82 (.aload_n 0) 1 83 := ⟨by decide +kernel, rfl⟩
theorem d_X11_count_83 : DC mX11_count 83 (.getfield 10) 3 86 := ⟨by decide +kernel, rfl⟩
theorem d_X11_count_86 : DC mX11_count 86 (.invokevirtual 333) 3 89 := ⟨by decide +kernel, rfl⟩
theorem d_X11_count_89 : DC mX11_count 89 (.ireturn) 1 90 := ⟨by decide +kernel, rfl⟩
theorem d_X11_count_90 : DC mX11_count 90 (.iconst (-1)) 1 91 := ⟨by decide +kernel, rfl⟩
theorem d_X11_count_91 : DC mX11_count 91 (.ireturn) 1 92 := ⟨by decide +kernel, rfl⟩
theorem d_X11_isShelf_0 : DC mX11_isShelf 0 (.iload_n 0) 1 1 := ⟨by decide +kernel, rfl⟩
theorem d_X11_isShelf_1 : DC mX11_isShelf 1 (.ifCond .lt 13) 3 4 := ⟨by decide +kernel, rfl⟩
theorem d_X11_isShelf_4 : DC mX11_isShelf 4 (.iload_n 0) 1 5 := ⟨by decide +kernel, rfl⟩
theorem d_X11_isShelf_5 : DC mX11_isShelf 5 (.bipush 6) 2 7 := ⟨by decide +kernel, rfl⟩
theorem d_X11_isShelf_7 : DC mX11_isShelf 7 (.if_icmp .ge 7) 3 10 := ⟨by decide +kernel, rfl⟩
theorem d_X11_isShelf_10 : DC mX11_isShelf 10 (.iconst 1) 1 11 := ⟨by decide +kernel, rfl⟩
theorem d_X11_isShelf_11 : DC mX11_isShelf 11 (.goto 4) 3 14 := ⟨by decide +kernel, rfl⟩
theorem d_X11_isShelf_14 : DC mX11_isShelf 14 (.iconst 0) 1 15 := ⟨by decide +kernel, rfl⟩
theorem d_X11_isShelf_15 : DC mX11_isShelf 15 (.ireturn) 1 16 := ⟨by decide +kernel, rfl⟩
theorem d_X11_isLetter_0 : DC mX11_isLetter 0 (.iload_n 0) 1 1 := ⟨by decide +kernel, rfl⟩
theorem d_X11_isLetter_1 : DC mX11_isLetter 1 (.ifCond .lt 13) 3 4 := ⟨by decide +kernel, rfl⟩
theorem d_X11_isLetter_4 : DC mX11_isLetter 4 (.iload_n 0) 1 5 := ⟨by decide +kernel, rfl⟩
theorem d_X11_isLetter_5 : DC mX11_isLetter 5 (.bipush 10) 2 7 := ⟨by decide +kernel, rfl⟩
theorem d_X11_isLetter_7 : DC mX11_isLetter 7 (.if_icmp .ge 7) 3 10 := ⟨by decide +kernel, rfl⟩
theorem d_X11_isLetter_10 : DC mX11_isLetter 10 (.iconst 1) 1 11 := ⟨by decide +kernel, rfl⟩
theorem d_X11_isLetter_11 : DC mX11_isLetter 11 (.goto 4) 3 14 := ⟨by decide +kernel, rfl⟩
theorem d_X11_isLetter_14 : DC mX11_isLetter 14 (.iconst 0) 1 15 := ⟨by decide +kernel, rfl⟩
theorem d_X11_isLetter_15 : DC mX11_isLetter 15 (.ireturn) 1 16 := ⟨by decide +kernel, rfl⟩
theorem d_X11_areLetters_0 : DC mX11_areLetters 0 (.iload_n 0) 1 1 := ⟨by decide +kernel, rfl⟩
theorem d_X11_areLetters_1 : DC mX11_areLetters 1 (.invokestatic 205) 3 4 := ⟨by decide +kernel, rfl⟩
theorem d_X11_areLetters_4 : DC mX11_areLetters 4 (.ifCond .eq 21) 3 7 := ⟨by decide +kernel, rfl⟩
theorem d_X11_areLetters_7 : DC mX11_areLetters 7 (.iload_n 1) 1 8 := ⟨by decide +kernel, rfl⟩
theorem d_X11_areLetters_8 : DC mX11_areLetters 8 (.invokestatic 205) 3 11 := ⟨by decide +kernel, rfl⟩
theorem d_X11_areLetters_11 : DC mX11_areLetters 11 (.ifCond .eq 14) 3 14 := ⟨by decide +kernel, rfl⟩
theorem d_X11_areLetters_14 : DC mX11_areLetters 14 (.iload_n 2) 1 15 := ⟨by decide +kernel, rfl⟩
theorem d_X11_areLetters_15 : DC mX11_areLetters 15 (.invokestatic 205) 3 18 := ⟨by decide +kernel, rfl⟩
theorem d_X11_areLetters_18 : DC mX11_areLetters 18 (.ifCond .eq 7) 3 21 := ⟨by decide +kernel, rfl⟩
theorem d_X11_areLetters_21 : DC mX11_areLetters 21 (.iconst 1) 1 22 := ⟨by decide +kernel, rfl⟩
theorem d_X11_areLetters_22 : DC mX11_areLetters 22 (.goto 4) 3 25 := ⟨by decide +kernel, rfl⟩
theorem d_X11_areLetters_25 : DC mX11_areLetters 25 (.iconst 0) 1 26 := ⟨by decide +kernel, rfl⟩
theorem d_X11_areLetters_26 : DC mX11_areLetters 26 (.ireturn) 1 27 := ⟨by decide +kernel, rfl⟩
theorem d_X11_isNear_0 : DC mX11_isNear 0 (.iload_n 0) 1 1 := ⟨by decide +kernel, rfl⟩
theorem d_X11_isNear_1 : DC mX11_isNear 1 (.bipush (-99)) 2 3 := ⟨by decide +kernel, rfl⟩
theorem d_X11_isNear_3 : DC mX11_isNear 3 (.if_icmp .lt 13) 3 6 := ⟨by decide +kernel, rfl⟩
theorem d_X11_isNear_6 : DC mX11_isNear 6 (.iload_n 0) 1 7 := ⟨by decide +kernel, rfl⟩
theorem d_X11_isNear_7 : DC mX11_isNear 7 (.bipush 99) 2 9 := ⟨by decide +kernel, rfl⟩
theorem d_X11_isNear_9 : DC mX11_isNear 9 (.if_icmp .gt 7) 3 12 := ⟨by decide +kernel, rfl⟩
theorem d_X11_isNear_12 : DC mX11_isNear 12 (.iconst 1) 1 13 := ⟨by decide +kernel, rfl⟩
theorem d_X11_isNear_13 : DC mX11_isNear 13 (.goto 4) 3 16 := ⟨by decide +kernel, rfl⟩
theorem d_X11_isNear_16 : DC mX11_isNear 16 (.iconst 0) 1 17 := ⟨by decide +kernel, rfl⟩
theorem d_X11_isNear_17 : DC mX11_isNear 17 (.ireturn) 1 18 := ⟨by decide +kernel, rfl⟩
theorem d_X11_rowOfDigits_0 : DC mX11_rowOfDigits 0 (.iload_n 0) 1 1 := ⟨by decide +kernel, rfl⟩
theorem d_X11_rowOfDigits_1 : DC mX11_rowOfDigits 1 (.bipush 100) 2 3 := ⟨by decide +kernel, rfl⟩
theorem d_X11_rowOfDigits_3 : DC mX11_rowOfDigits 3 (.idiv) 1 4 := ⟨by decide +kernel, rfl⟩
theorem d_X11_rowOfDigits_4 : DC mX11_rowOfDigits 4 (.iload_n 0) 1 5 := ⟨by decide +kernel, rfl⟩
theorem d_X11_rowOfDigits_5 : DC mX11_rowOfDigits 5 (.bipush 10) 2 7 := ⟨by decide +kernel, rfl⟩
theorem d_X11_rowOfDigits_7 : DC mX11_rowOfDigits 7 (.idiv) 1 8 := ⟨by decide +kernel, rfl⟩
theorem d_X11_rowOfDigits_8 : DC mX11_rowOfDigits 8 (.bipush 10) 2 10 := ⟨by decide +kernel, rfl⟩
theorem d_X11_rowOfDigits_10 : DC mX11_rowOfDigits 10 (.irem) 1 11 := ⟨by decide +kernel, rfl⟩
theorem d_X11_rowOfDigits_11 : DC mX11_rowOfDigits 11 (.iload_n 0) 1 12 := ⟨by decide +kernel, rfl⟩
theorem d_X11_rowOfDigits_12 : DC mX11_rowOfDigits 12 (.bipush 10) 2 14 := ⟨by decide +kernel, rfl⟩
theorem d_X11_rowOfDigits_14 : DC mX11_rowOfDigits 14 (.irem) 1 15 := ⟨by decide +kernel, rfl⟩
theorem d_X11_rowOfDigits_15 : DC mX11_rowOfDigits 15 (.invokestatic 167) 3 18 := ⟨by decide +kernel, rfl⟩
theorem d_X11_rowOfDigits_18 : DC mX11_rowOfDigits 18 (.ireturn) 1 19 := ⟨by decide +kernel, rfl⟩
theorem d_X11_askedOfTape_0 : DC mX11_askedOfTape 0 (.iload_n 1) 1 1 := ⟨by decide +kernel, rfl⟩
theorem d_X11_askedOfTape_1 : DC mX11_askedOfTape 1 (.invokestatic 143) 3 4 := ⟨by decide +kernel, rfl⟩
theorem d_X11_askedOfTape_4 : DC mX11_askedOfTape 4 (.ifCond .ne 6) 3 7 := ⟨by decide +kernel, rfl⟩
theorem d_X11_askedOfTape_7 : DC mX11_askedOfTape 7 (.bipush (-2)) 2 9 := ⟨by decide +kernel, rfl⟩
theorem d_X11_askedOfTape_9 : DC mX11_askedOfTape 9 (.ireturn) 1 10 := ⟨by decide +kernel, rfl⟩
theorem d_X11_askedOfTape_10 : DC mX11_askedOfTape 10 (.iload_n 2) 1 11 := ⟨by decide +kernel, rfl⟩
theorem d_X11_askedOfTape_11 : DC mX11_askedOfTape 11 (.ifCond .lt 14) 3 14 := ⟨by decide +kernel, rfl⟩
theorem d_X11_askedOfTape_14 : DC mX11_askedOfTape 14 (.iload_n 2) 1 15 := ⟨by decide +kernel, rfl⟩
theorem d_X11_askedOfTape_15 : DC mX11_askedOfTape 15 (.aload_n 0) 1 16 := ⟨by decide +kernel, rfl⟩
theorem d_X11_askedOfTape_16 : DC mX11_askedOfTape 16 (.getfield 34) 3 19 := ⟨by decide +kernel, rfl⟩
theorem d_X11_askedOfTape_19 : DC mX11_askedOfTape 19 (.getfield 94) 3 22 := ⟨by decide +kernel, rfl⟩
theorem d_X11_askedOfTape_22 : DC mX11_askedOfTape 22 (.if_icmp .le 8) 3 25 := ⟨by decide +kernel, rfl⟩
theorem d_X11_askedOfTape_25 : DC mX11_askedOfTape 25 (.bipush (-3)) 2 27 := ⟨by decide +kernel, rfl⟩
theorem d_X11_askedOfTape_27 : DC mX11_askedOfTape 27 (.goto 4) 3 30 := ⟨by decide +kernel, rfl⟩
theorem d_X11_askedOfTape_30 : DC mX11_askedOfTape 30 (.iconst 0) 1 31 := ⟨by decide +kernel, rfl⟩
theorem d_X11_askedOfTape_31 : DC mX11_askedOfTape 31 (.ireturn) 1 32 := ⟨by decide +kernel, rfl⟩
theorem d_X11_badText_0 : DC mX11_badText 0 (.aload_n 0) 1 1 := ⟨by decide +kernel, rfl⟩
theorem d_X11_badText_1 : DC mX11_badText 1 (.getfield 34) 3 4 := ⟨by decide +kernel, rfl⟩
theorem d_X11_badText_4 : DC mX11_badText 4 (.iconst 0) 1 5 := ⟨by decide +kernel, rfl⟩
theorem d_X11_badText_5 : DC mX11_badText 5 (.putfield 94) 3 8 := ⟨by decide +kernel, rfl⟩
theorem d_X11_badText_8 : DC mX11_badText 8 (.bipush (-30)) 2 10 := ⟨by decide +kernel, rfl⟩
theorem d_X11_badText_10 : DC mX11_badText 10 (.aload_n 0) 1 11 := ⟨by decide +kernel, rfl⟩
theorem d_X11_badText_11 : DC mX11_badText 11 (.getfield 34) 3 14 := ⟨by decide +kernel, rfl⟩
theorem d_X11_badText_14 : DC mX11_badText 14 (.getfield 137) 3 17 := ⟨by decide +kernel, rfl⟩
theorem d_X11_badText_17 : DC mX11_badText 17 (.isub) 1 18 := ⟨by decide +kernel, rfl⟩
theorem d_X11_badText_18 : DC mX11_badText 18 (.ireturn) 1 19 := ⟨by decide +kernel, rfl⟩
theorem d_X11_keepText_0 : DC mX11_keepText 0 (.iload_n 2) 1 1 := ⟨by decide +kernel, rfl⟩
theorem d_X11_keepText_1 : DC mX11_keepText 1 (.ifCond .ne 11) 3 4 := ⟨by decide +kernel, rfl⟩
theorem d_X11_keepText_4 : DC mX11_keepText 4 (.aload_n 0) 1 5 := ⟨by decide +kernel, rfl⟩
theorem d_X11_keepText_5 : DC mX11_keepText 5 (.getfield 34) 3 8 := ⟨by decide +kernel, rfl⟩
theorem d_X11_keepText_8 : DC mX11_keepText 8 (.iconst 0) 1 9 := ⟨by decide +kernel, rfl⟩
theorem d_X11_keepText_9 : DC mX11_keepText 9 (.putfield 94) 3 12 := ⟨by decide +kernel, rfl⟩
theorem d_X11_keepText_12 : DC mX11_keepText 12 (.aload_n 0) 1 13 := ⟨by decide +kernel, rfl⟩
theorem d_X11_keepText_13 : DC mX11_keepText 13 (.iload_n 1) 1 14 := ⟨by decide +kernel, rfl⟩
theorem d_X11_keepText_14 : DC mX11_keepText 14 (.iload_n 2) 1 15 := ⟨by decide +kernel, rfl⟩
theorem d_X11_keepText_15 : DC mX11_keepText 15 (.invokevirtual 154) 3 18 := ⟨by decide +kernel, rfl⟩
theorem d_X11_keepText_18 : DC mX11_keepText 18 (.ireturn) 1 19 := ⟨by decide +kernel, rfl⟩
theorem d_X11_keep_0 : DC mX11_keep 0 (.iload_n 2) 1 1 := ⟨by decide +kernel, rfl⟩
theorem d_X11_keep_1 : DC mX11_keep 1 (.ifCond .eq 9) 3 4 := ⟨by decide +kernel, rfl⟩
theorem d_X11_keep_4 : DC mX11_keep 4 (.aload_n 0) 1 5 := ⟨by decide +kernel, rfl⟩
theorem d_X11_keep_5 : DC mX11_keep 5 (.iload_n 2) 1 6 := ⟨by decide +kernel, rfl⟩
theorem d_X11_keep_6 : DC mX11_keep 6 (.invokevirtual 271) 3 9 := ⟨by decide +kernel, rfl⟩
theorem d_X11_keep_9 : DC mX11_keep 9 (.ireturn) 1 10 := ⟨by decide +kernel, rfl⟩
theorem d_X11_keep_10 : DC mX11_keep 10 (.aload_n 0) 1 11 := ⟨by decide +kernel, rfl⟩
theorem d_X11_keep_11 : DC mX11_keep 11 (.getfield 19) 3 14 := ⟨by decide +kernel, rfl⟩
theorem d_X11_keep_14 : DC mX11_keep 14 (.aload_n 0) 1 15 := ⟨by decide +kernel, rfl⟩
theorem d_X11_keep_15 : DC mX11_keep 15 (.getfield 10) 3 18 := ⟨by decide +kernel, rfl⟩
theorem d_X11_keep_18 : DC mX11_keep 18 (.invokevirtual 230) 3 21 := ⟨by decide +kernel, rfl⟩
theorem d_X11_keep_21 : DC mX11_keep 21 (.aload_n 0) 1 22 := ⟨by decide +kernel, rfl⟩
theorem d_X11_keep_22 : DC mX11_keep 22 (.getfield 10) 3 25 := ⟨by decide +kernel, rfl⟩
theorem d_X11_keep_25 : DC mX11_keep 25 (.getfield 146) 3 28 := ⟨by decide +kernel, rfl⟩
theorem d_X11_keep_28 : DC mX11_keep 28 (.iload_n 1) 1 29 := ⟨by decide +kernel, rfl⟩
theorem d_X11_keep_29 : DC mX11_keep 29 (.aaload) 1 30 := ⟨by decide +kernel, rfl⟩
theorem d_X11_keep_30 : DC mX11_keep 30 (.aload_n 0) 1 31 := ⟨by decide +kernel, rfl⟩
theorem d_X11_keep_31 : DC mX11_keep 31 (.getfield 83) 3 34 := ⟨by decide +kernel, rfl⟩
theorem d_X11_keep_34 : DC mX11_keep 34 (.invokevirtual 157) 3 37 := ⟨by decide +kernel, rfl⟩
theorem d_X11_keep_37 : DC mX11_keep 37 (.aload_n 0) 1 38 := ⟨by decide +kernel, rfl⟩
theorem d_X11_keep_38 : DC mX11_keep 38 (.getfield 83) 3 41 := ⟨by decide +kernel, rfl⟩
theorem d_X11_keep_41 : DC mX11_keep 41 (.getfield 150) 3 44 := ⟨by decide +kernel, rfl⟩
theorem d_X11_keep_44 : DC mX11_keep 44 (.ireturn) 1 45 := ⟨by decide +kernel, rfl⟩
theorem d_X11_refused_0 : DC mX11_refused 0 (.aload_n 0) 1 1 := ⟨by decide +kernel, rfl⟩
theorem d_X11_refused_1 : DC mX11_refused 1 (.iload_n 1) 1 2 := ⟨by decide +kernel, rfl⟩
theorem d_X11_refused_2 : DC mX11_refused 2 (.putfield 90) 3 5 := ⟨by decide +kernel, rfl⟩
theorem d_X11_refused_5 : DC mX11_refused 5 (.iload_n 1) 1 6 := ⟨by decide +kernel, rfl⟩
theorem d_X11_refused_6 : DC mX11_refused 6 (.iconst 4) 1 7 := ⟨by decide +kernel, rfl⟩
theorem d_X11_refused_7 : DC mX11_refused 7 (.if_icmp .ne 8) 3 10 := ⟨by decide +kernel, rfl⟩
theorem d_X11_refused_10 : DC mX11_refused 10 (.bipush (-7)) 2 12 := ⟨by decide +kernel, rfl⟩
theorem d_X11_refused_12 : DC mX11_refused 12 (.goto 5) 3 15 := ⟨by decide +kernel, rfl⟩
theorem d_X11_refused_15 : DC mX11_refused 15 (.bipush (-4)) 2 17 := ⟨by decide +kernel, rfl⟩
theorem d_X11_refused_17 : DC mX11_refused 17 (.ireturn) 1 18 := ⟨by decide +kernel, rfl⟩
theorem d_X11_rename_0 : DC mX11_rename 0 (.aload_n 0) 1 1 := ⟨by decide +kernel, rfl⟩
theorem d_X11_rename_1 : DC mX11_rename 1 (.getfield 83) 3 4 := ⟨by decide +kernel, rfl⟩
theorem d_X11_rename_4 : DC mX11_rename 4 (.invokevirtual 151) 3 7 := ⟨by decide +kernel, rfl⟩
theorem d_X11_rename_7 : DC mX11_rename 7 (.iconst 0) 1 8 := ⟨by decide +kernel, rfl⟩
theorem d_X11_rename_8 : DC mX11_rename 8 (.istore 5) 2 10 := ⟨by decide +kernel, rfl⟩
theorem d_X11_rename_10 : DC mX11_rename 10 (.iconst 0) 1 11 := ⟨by decide +kernel, rfl⟩
theorem d_X11_rename_11 : DC mX11_rename 11 (.istore 6) 2 13 := ⟨by decide +kernel, rfl⟩
theorem d_X11_rename_13 : DC mX11_rename 13 (.iload 6) 2 15 := ⟨by decide +kernel, rfl⟩
theorem d_X11_rename_15 : DC mX11_rename 15 (.aload_n 1) 1 16 := ⟨by decide +kernel, rfl⟩
theorem d_X11_rename_16 : DC mX11_rename 16 (.getfield 150) 3 19 := ⟨by decide +kernel, rfl⟩
theorem d_X11_rename_19 : DC mX11_rename 19 (.if_icmp .ge 65) 3 22 := ⟨by decide +kernel, rfl⟩
theorem d_X11_rename_22 : DC mX11_rename 22 (.iload 5) 2 24 := ⟨by decide +kernel, rfl⟩
theorem d_X11_rename_24 : DC mX11_rename 24 (.ifCond .ne 60) 3 27 := ⟨by decide +kernel, rfl⟩
theorem d_X11_rename_27 : DC mX11_rename 27 (.aload_n 0) 1 28 := ⟨by decide +kernel, rfl⟩
theorem d_X11_rename_28 : DC mX11_rename 28 (.getfield 76) 3 31 := ⟨by decide +kernel, rfl⟩
theorem d_X11_rename_31 : DC mX11_rename 31 (.aload_n 1) 1 32 := ⟨by decide +kernel, rfl⟩
theorem d_X11_rename_32 : DC mX11_rename 32 (.getfield 241) 3 35 := ⟨by decide +kernel, rfl⟩
theorem d_X11_rename_35 : DC mX11_rename 35 (.iload 6) 2 37 := ⟨by decide +kernel, rfl⟩
theorem d_X11_rename_37 : DC mX11_rename 37 (.laload) 1 38 := ⟨by decide +kernel, rfl⟩
theorem d_X11_rename_38 : DC mX11_rename 38 (.iload_n 2) 1 39 := ⟨by decide +kernel, rfl⟩
theorem d_X11_rename_39 : DC mX11_rename 39 (.iload_n 3) 1 40 := ⟨by decide +kernel, rfl⟩
theorem d_X11_rename_40 : DC mX11_rename 40 (.iload 4) 2 42 := ⟨by decide +kernel, rfl⟩
theorem d_X11_rename_42 : DC mX11_rename 42 (.invokevirtual 336) 3 45 := ⟨by decide +kernel, rfl⟩
theorem d_X11_rename_45 : DC mX11_rename 45 (.aload_n 0) 1 46 := ⟨by decide +kernel, rfl⟩
theorem d_X11_rename_46 : DC mX11_rename 46 (.getfield 83) 3 49 := ⟨by decide +kernel, rfl⟩
theorem d_X11_rename_49 : DC mX11_rename 49 (.aload_n 0) 1 50 := ⟨by decide +kernel, rfl⟩
theorem d_X11_rename_50 : DC mX11_rename 50 (.getfield 76) 3 53 := ⟨by decide +kernel, rfl⟩
theorem d_X11_rename_53 : DC mX11_rename 53 (.getfield 176) 3 56 := ⟨by decide +kernel, rfl⟩
theorem d_X11_rename_56 : DC mX11_rename 56 (.aload_n 1) 1 57 := ⟨by decide +kernel, rfl⟩
theorem d_X11_rename_57 : DC mX11_rename 57 (.getfield 249) 3 60 := ⟨by decide +kernel, rfl⟩
theorem d_X11_rename_60 : DC mX11_rename 60 (.iload 6) 2 62 := ⟨by decide +kernel, rfl⟩
theorem d_X11_rename_62 : DC mX11_rename 62 (.iaload) 1 63 := ⟨by decide +kernel, rfl⟩
theorem d_X11_rename_63 : DC mX11_rename 63 (.i2l) 1 64 := ⟨by decide +kernel, rfl⟩
theorem d_X11_rename_64 : DC mX11_rename 64 (.aload_n 0) 1 65 := ⟨by decide +kernel, rfl⟩
theorem d_X11_rename_65 : DC mX11_rename 65 (.getfield 76) 3 68 := ⟨by decide +kernel, rfl⟩
theorem d_X11_rename_68 : DC mX11_rename 68 (.getfield 180) 3 71 := ⟨by decide +kernel, rfl⟩
theorem d_X11_rename_71 : DC mX11_rename 71 (.i2l) 1 72 := ⟨by decide +kernel, rfl⟩
theorem d_X11_rename_72 : DC mX11_rename 72 (.lmul) 1 73 := ⟨by decide +kernel, rfl⟩
theorem d_X11_rename_73 : DC mX11_rename 73 (.invokevirtual 183) 3 76 := ⟨by decide +kernel, rfl⟩
theorem d_X11_rename_76 : DC mX11_rename 76 (.istore 5) 2 78 := ⟨by decide +kernel, rfl⟩
theorem d_X11_rename_78 : DC mX11_rename 78 (.iinc 6 1) 3 81 := ⟨by decide +kernel, rfl⟩
theorem d_X11_rename_81 : DC mX11_rename 81 (.goto (-68)) 3 84 := ⟨by decide +kernel, rfl⟩
theorem d_X11_rename_84 : DC mX11_rename 84 (.iload 5) 2 86 := ⟨by decide +kernel, rfl⟩
theorem d_X11_rename_86 : DC mX11_rename 86 (.ireturn) 1 87 := ⟨by decide +kernel, rfl⟩
theorem v_X11_feed_0 {l : Launch} {d N : Nat} {Λ : Lay} {P : Int → Mem → Prop} {σ : Mem} {x1 x2 x3 x4 x5 t t_tape : Int} (o_t : Ob N Λ t 20 14) (f_t_tape : (Λ t).2.2 4 = t_tape) (o_t_tape : Ob N Λ t_tape 18 6) (h0d : 1 ≤ d)
    (h : (((addI (σ t_tape 1) 20) ≤ 300 → (CV l mX9_take (d - 1) [(2, t_tape), (0, x1)] N Λ σ (fun σ1 => (CV l mX9_take (d - 1) [(2, t_tape), (0, x2)] N Λ σ1 (fun σ2 => (CV l mX9_take (d - 1) [(2, t_tape), (0, x3)] N Λ σ2 (fun σ3 => (CV l mX9_take (d - 1) [(2, t_tape), (0, x4)] N Λ σ3 (fun σ4 => (CV l mX9_take (d - 1) [(2, t_tape), (0, x5)] N Λ σ4 (fun σ5 => P (σ5 t_tape 1) σ5))))))))))) ∧ (¬ ((addI (σ t_tape 1) 20) ≤ 300) → P (-4) σ))) :
    WI l mX11_feed d P 0 [(2, t), (0, x1), (0, x2), (0, x3), (0, x4), (0, x5)] [] N Λ σ := by
  refine r_aload_n (x := t) d_X11_feed_0 rfl o_t.1 ?_
  refine r_getf (j := 4) (t := 2) (x := t_tape) d_X11_feed_1 kX11 (by decide) fl_X11_34 o_t.1 o_t.2.1 o_t.2.2.1 o_t.2.2.2 rfl f_t_tape ?_
  refine r_getf (j := 1) (t := 0) (x := (σ t_tape 1)) d_X11_feed_4 kX9 (by decide) fl_X11_94 o_t_tape.1 o_t_tape.2.1 o_t_tape.2.2.1 o_t_tape.2.2.2 rfl rfl ?_
  refine r_bipush (x := 20) d_X11_feed_7 ⟨by decide, by decide⟩ (by decide) ?_
  refine r_iadd d_X11_feed_9 ?_
  refine r_sipush (x := 300) d_X11_feed_10 ⟨by decide, by decide⟩ (by decide) ?_
  refine r_ic_le (tgt := 19) d_X11_feed_13 rfl (fun hc => ?_) (fun hc => ?_)
  · have h := h.1 hc
    refine r_aload_n (x := t) d_X11_feed_19 rfl o_t.1 ?_
    refine r_getf (j := 4) (t := 2) (x := t_tape) d_X11_feed_20 kX11 (by decide) fl_X11_34 o_t.1 o_t.2.1 o_t.2.2.1 o_t.2.2.2 rfl f_t_tape ?_
    refine r_iload_n (x := x1) d_X11_feed_23 rfl ?_
    refine r_callV (Y2 := mX9_take) (d := d - 1) (mc := 0) (ms := 0) (c := t_tape) (As := [(0, x1)]) (S := []) d_X11_feed_24 ok_mX9_take ml_X11_97 rfl (rmc h0d (by decide)) rm00 (Nat.le_of_ble_eq_true rfl) rfl kX9 o_t_tape.1 o_t_tape.2.1 o_t_tape.2.2.1 o_t_tape.2.2.2 (MC.mono h (fun r N1 Λ1 σ1 hq => ?_))
    obtain ⟨rfl, rfl, rfl, h⟩ := hq
    refine r_aload_n (x := t) d_X11_feed_27 rfl o_t.1 ?_
    refine r_getf (j := 4) (t := 2) (x := t_tape) d_X11_feed_28 kX11 (by decide) fl_X11_34 o_t.1 o_t.2.1 o_t.2.2.1 o_t.2.2.2 rfl f_t_tape ?_
    refine r_iload_n (x := x2) d_X11_feed_31 rfl ?_
    refine r_callV (Y2 := mX9_take) (d := d - 1) (mc := 0) (ms := 0) (c := t_tape) (As := [(0, x2)]) (S := []) d_X11_feed_32 ok_mX9_take ml_X11_97 rfl (rmc h0d (by decide)) rm00 (Nat.le_of_ble_eq_true rfl) rfl kX9 o_t_tape.1 o_t_tape.2.1 o_t_tape.2.2.1 o_t_tape.2.2.2 (MC.mono h (fun r N1 Λ1 σ2 hq => ?_))
    obtain ⟨rfl, rfl, rfl, h⟩ := hq
    refine r_aload_n (x := t) d_X11_feed_35 rfl o_t.1 ?_
    refine r_getf (j := 4) (t := 2) (x := t_tape) d_X11_feed_36 kX11 (by decide) fl_X11_34 o_t.1 o_t.2.1 o_t.2.2.1 o_t.2.2.2 rfl f_t_tape ?_
    refine r_iload_n (x := x3) d_X11_feed_39 rfl ?_
    refine r_callV (Y2 := mX9_take) (d := d - 1) (mc := 0) (ms := 0) (c := t_tape) (As := [(0, x3)]) (S := []) d_X11_feed_40 ok_mX9_take ml_X11_97 rfl (rmc h0d (by decide)) rm00 (Nat.le_of_ble_eq_true rfl) rfl kX9 o_t_tape.1 o_t_tape.2.1 o_t_tape.2.2.1 o_t_tape.2.2.2 (MC.mono h (fun r N1 Λ1 σ3 hq => ?_))
    obtain ⟨rfl, rfl, rfl, h⟩ := hq
    refine r_aload_n (x := t) d_X11_feed_43 rfl o_t.1 ?_
    refine r_getf (j := 4) (t := 2) (x := t_tape) d_X11_feed_44 kX11 (by decide) fl_X11_34 o_t.1 o_t.2.1 o_t.2.2.1 o_t.2.2.2 rfl f_t_tape ?_
    refine r_iload (x := x4) d_X11_feed_47 rfl ?_
    refine r_callV (Y2 := mX9_take) (d := d - 1) (mc := 0) (ms := 0) (c := t_tape) (As := [(0, x4)]) (S := []) d_X11_feed_49 ok_mX9_take ml_X11_97 rfl (rmc h0d (by decide)) rm00 (Nat.le_of_ble_eq_true rfl) rfl kX9 o_t_tape.1 o_t_tape.2.1 o_t_tape.2.2.1 o_t_tape.2.2.2 (MC.mono h (fun r N1 Λ1 σ4 hq => ?_))
    obtain ⟨rfl, rfl, rfl, h⟩ := hq
    refine r_aload_n (x := t) d_X11_feed_52 rfl o_t.1 ?_
    refine r_getf (j := 4) (t := 2) (x := t_tape) d_X11_feed_53 kX11 (by decide) fl_X11_34 o_t.1 o_t.2.1 o_t.2.2.1 o_t.2.2.2 rfl f_t_tape ?_
    refine r_iload (x := x5) d_X11_feed_56 rfl ?_
    refine r_callV (Y2 := mX9_take) (d := d - 1) (mc := 0) (ms := 0) (c := t_tape) (As := [(0, x5)]) (S := []) d_X11_feed_58 ok_mX9_take ml_X11_97 rfl (rmc h0d (by decide)) rm00 (Nat.le_of_ble_eq_true rfl) rfl kX9 o_t_tape.1 o_t_tape.2.1 o_t_tape.2.2.1 o_t_tape.2.2.2 (MC.mono h (fun r N1 Λ1 σ5 hq => ?_))
    obtain ⟨rfl, rfl, rfl, h⟩ := hq
    refine r_aload_n (x := t) d_X11_feed_61 rfl o_t.1 ?_
    refine r_getf (j := 4) (t := 2) (x := t_tape) d_X11_feed_62 kX11 (by decide) fl_X11_34 o_t.1 o_t.2.1 o_t.2.2.1 o_t.2.2.2 rfl f_t_tape ?_
    refine r_getf (j := 1) (t := 0) (x := (σ5 t_tape 1)) d_X11_feed_65 kX9 (by decide) fl_X11_94 o_t_tape.1 o_t_tape.2.1 o_t_tape.2.2.1 o_t_tape.2.2.2 rfl rfl ?_
    exact r_iret d_X11_feed_68 rfl rfl (Nat.le_refl 0) (Nat.le_refl 0) ⟨_, rfl, rfl, rfl, h⟩
  · have h := h.2 hc
    refine r_bipush (x := (-4)) d_X11_feed_16 ⟨by decide, by decide⟩ (by decide) ?_
    exact r_iret d_X11_feed_18 rfl rfl (Nat.le_refl 0) (Nat.le_refl 0) ⟨_, rfl, rfl, rfl, h⟩
theorem v_X11_told_0 {l : Launch} {d N : Nat} {Λ : Lay} {P : Int → Mem → Prop} {σ : Mem} {x1 x2 t t_tape t_work : Int} (o_t : Ob N Λ t 20 14) (f_t_tape : (Λ t).2.2 4 = t_tape) (o_t_tape : Ob N Λ t_tape 18 6) (f_t_work : (Λ t).2.2 11 = t_work) (h0d : 1 ≤ d)
    (h : (∀ τ1, τ1 = st σ t 13 0 → (CI l mX11_askedOfTape (d - 1) [(2, t), (0, x1), (0, x2)] N Λ τ1 (fun v3 σ2 => ((v3 = 0 → (CI l mX9_tellsPolynomial (d - 1) [(2, t_tape), (0, x2)] N Λ σ2 (fun v5 σ4 => ((¬ v5 = 0 → (CI l mX9_readPolynomial (d - 1) [(2, t_tape), (0, x2), (2, t_work)] N Λ σ4 (fun v7 σ6 => (CI l mX11_keepText (d - 1) [(2, t), (0, x1), (0, v7)] N Λ σ6 (fun v9 σ8 => P v9 σ8))))) ∧ (v5 = 0 → (CI l mX11_badText (d - 1) [(2, t)] N Λ σ4 (fun v11 σ10 => P v11 σ10))))))) ∧ (¬ (v3 = 0) → P v3 σ2)))))) :
    WI l mX11_told d P 0 [(2, t), (0, x1), (0, x2), (3, 0)] [] N Λ σ := by
  refine r_aload_n (x := t) d_X11_told_0 rfl o_t.1 ?_
  refine r_iconst (x := 0) d_X11_told_1 ⟨by decide, by decide⟩ ?_
  refine r_putI (j := 13) d_X11_told_2 kX11 (by decide) fl_X11_90 rfl o_t.1 o_t.2.1 o_t.2.2.1 o_t.2.2.2 rfl ?_
  refine r_nmM (fun τ1 eτ1 => ?_)
  have h := h τ1 eτ1
  refine r_aload_n (x := t) d_X11_told_5 rfl o_t.1 ?_
  refine r_iload_n (x := x1) d_X11_told_6 rfl ?_
  refine r_iload_n (x := x2) d_X11_told_7 rfl ?_
  refine r_callV (Y2 := mX11_askedOfTape) (d := d - 1) (mc := 0) (ms := 0) (c := t) (As := [(0, x1), (0, x2)]) (S := []) d_X11_told_8 ok_mX11_askedOfTape ml_X11_101 rfl (rmc h0d (by decide)) rm00 (Nat.le_of_ble_eq_true rfl) rfl kX11 o_t.1 o_t.2.1 o_t.2.2.1 o_t.2.2.2 (MC.mono h (fun r N1 Λ1 σ2 hq => ?_))
  obtain ⟨v3, rfl, rfl, rfl, h⟩ := hq
  refine r_istore_n (L2 := [(2, t), (0, x1), (0, x2), (0, v3)]) d_X11_told_11 (by decide) rfl rfl ?_
  refine r_iload_n (x := v3) d_X11_told_12 rfl ?_
  refine r_if_eq (tgt := 18) d_X11_told_13 rfl (fun hc => ?_) (fun hc => ?_)
  · have h := h.1 hc
    refine r_aload_n (x := t) d_X11_told_18 rfl o_t.1 ?_
    refine r_getf (j := 4) (t := 2) (x := t_tape) d_X11_told_19 kX11 (by decide) fl_X11_34 o_t.1 o_t.2.1 o_t.2.2.1 o_t.2.2.2 rfl f_t_tape ?_
    refine r_iload_n (x := x2) d_X11_told_22 rfl ?_
    refine r_callV (Y2 := mX9_tellsPolynomial) (d := d - 1) (mc := 0) (ms := 0) (c := t_tape) (As := [(0, x2)]) (S := []) d_X11_told_23 ok_mX9_tellsPolynomial ml_X11_105 rfl (rmc h0d (by decide)) rm00 (Nat.le_of_ble_eq_true rfl) rfl kX9 o_t_tape.1 o_t_tape.2.1 o_t_tape.2.2.1 o_t_tape.2.2.2 (MC.mono h (fun r N1 Λ1 σ4 hq => ?_))
    obtain ⟨v5, rfl, rfl, rfl, h⟩ := hq
    refine r_if_ne (tgt := 34) d_X11_told_26 rfl (fun hc => ?_) (fun hc => ?_)
    · have h := h.1 hc
      refine r_aload_n (x := t) d_X11_told_34 rfl o_t.1 ?_
      refine r_iload_n (x := x1) d_X11_told_35 rfl ?_
      refine r_aload_n (x := t) d_X11_told_36 rfl o_t.1 ?_
      refine r_getf (j := 4) (t := 2) (x := t_tape) d_X11_told_37 kX11 (by decide) fl_X11_34 o_t.1 o_t.2.1 o_t.2.2.1 o_t.2.2.2 rfl f_t_tape ?_
      refine r_iload_n (x := x2) d_X11_told_40 rfl ?_
      refine r_aload_n (x := t) d_X11_told_41 rfl o_t.1 ?_
      refine r_getf (j := 11) (t := 2) (x := t_work) d_X11_told_42 kX11 (by decide) fl_X11_83 o_t.1 o_t.2.1 o_t.2.2.1 o_t.2.2.2 rfl f_t_work ?_
      refine r_callV (Y2 := mX9_readPolynomial) (d := d - 1) (mc := 0) (ms := 0) (c := t_tape) (As := [(0, x2), (2, t_work)]) (S := [(0, x1), (2, t)]) d_X11_told_45 ok_mX9_readPolynomial ml_X11_113 rfl (rmc h0d (by decide)) rm00 (Nat.le_of_ble_eq_true rfl) rfl kX9 o_t_tape.1 o_t_tape.2.1 o_t_tape.2.2.1 o_t_tape.2.2.2 (MC.mono h (fun r N1 Λ1 σ6 hq => ?_))
      obtain ⟨v7, rfl, rfl, rfl, h⟩ := hq
      refine r_callV (Y2 := mX11_keepText) (d := d - 1) (mc := 0) (ms := 0) (c := t) (As := [(0, x1), (0, v7)]) (S := []) d_X11_told_48 ok_mX11_keepText ml_X11_117 rfl (rmc h0d (by decide)) rm00 (Nat.le_of_ble_eq_true rfl) rfl kX11 o_t.1 o_t.2.1 o_t.2.2.1 o_t.2.2.2 (MC.mono h (fun r N1 Λ1 σ8 hq => ?_))
      obtain ⟨v9, rfl, rfl, rfl, h⟩ := hq
      exact r_iret d_X11_told_51 rfl rfl (Nat.le_refl 0) (Nat.le_refl 0) ⟨_, rfl, rfl, rfl, h⟩
    · have h := h.2 hc
      refine r_aload_n (x := t) d_X11_told_29 rfl o_t.1 ?_
      refine r_callV (Y2 := mX11_badText) (d := d - 1) (mc := 0) (ms := 0) (c := t) (As := []) (S := []) d_X11_told_30 ok_mX11_badText ml_X11_109 rfl (rmc h0d (by decide)) rm00 (Nat.le_of_ble_eq_true rfl) rfl kX11 o_t.1 o_t.2.1 o_t.2.2.1 o_t.2.2.2 (MC.mono h (fun r N1 Λ1 σ10 hq => ?_))
      obtain ⟨v11, rfl, rfl, rfl, h⟩ := hq
      exact r_iret d_X11_told_33 rfl rfl (Nat.le_refl 0) (Nat.le_refl 0) ⟨_, rfl, rfl, rfl, h⟩
  · have h := h.2 hc
    refine r_iload_n (x := v3) d_X11_told_16 rfl ?_
    exact r_iret d_X11_told_17 rfl rfl (Nat.le_refl 0) (Nat.le_refl 0) ⟨_, rfl, rfl, rfl, h⟩
theorem v_X11_figure_0 {l : Launch} {d N : Nat} {Λ : Lay} {P : Int → Mem → Prop} {σ : Mem} {x1 x2 t t_figures t_tape : Int} (o_t : Ob N Λ t 20 14) (f_t_tape : (Λ t).2.2 4 = t_tape) (o_t_tape : Ob N Λ t_tape 18 6) (f_t_figures : (Λ t).2.2 6 = t_figures) (o_t_figures : Ob N Λ t_figures 12 9) (h0d : 1 ≤ d)
    (h : (∀ τ1, τ1 = st σ t 13 0 → (CI l mX11_askedOfTape (d - 1) [(2, t), (0, x1), (0, x2)] N Λ τ1 (fun v3 σ2 => ((v3 = 0 → (CI l mX9_tellsFigure (d - 1) [(2, t_tape), (0, x2)] N Λ σ2 (fun v5 σ4 => ((¬ v5 = 0 → (CV l mX2_begin (d - 1) [(2, t_figures)] N Λ σ4 (fun σ6 => WI l mX11_figure d P 47 [(2, t), (0, x1), (0, x2), (0, v3), (0, 0), (0, 0)] [] N Λ σ6))) ∧ (v5 = 0 → (CI l mX11_badText (d - 1) [(2, t)] N Λ σ4 (fun v8 σ7 => P v8 σ7))))))) ∧ (¬ (v3 = 0) → P v3 σ2)))))) :
    WI l mX11_figure d P 0 [(2, t), (0, x1), (0, x2), (3, 0), (3, 0), (3, 0)] [] N Λ σ := by
  refine r_aload_n (x := t) d_X11_figure_0 rfl o_t.1 ?_
  refine r_iconst (x := 0) d_X11_figure_1 ⟨by decide, by decide⟩ ?_
  refine r_putI (j := 13) d_X11_figure_2 kX11 (by decide) fl_X11_90 rfl o_t.1 o_t.2.1 o_t.2.2.1 o_t.2.2.2 rfl ?_
  refine r_nmM (fun τ1 eτ1 => ?_)
  have h := h τ1 eτ1
  refine r_aload_n (x := t) d_X11_figure_5 rfl o_t.1 ?_
  refine r_iload_n (x := x1) d_X11_figure_6 rfl ?_
  refine r_iload_n (x := x2) d_X11_figure_7 rfl ?_
  refine r_callV (Y2 := mX11_askedOfTape) (d := d - 1) (mc := 0) (ms := 0) (c := t) (As := [(0, x1), (0, x2)]) (S := []) d_X11_figure_8 ok_mX11_askedOfTape ml_X11_101 rfl (rmc h0d (by decide)) rm00 (Nat.le_of_ble_eq_true rfl) rfl kX11 o_t.1 o_t.2.1 o_t.2.2.1 o_t.2.2.2 (MC.mono h (fun r N1 Λ1 σ2 hq => ?_))
  obtain ⟨v3, rfl, rfl, rfl, h⟩ := hq
  refine r_istore_n (L2 := [(2, t), (0, x1), (0, x2), (0, v3), (3, 0), (3, 0)]) d_X11_figure_11 (by decide) rfl rfl ?_
  refine r_iload_n (x := v3) d_X11_figure_12 rfl ?_
  refine r_if_eq (tgt := 18) d_X11_figure_13 rfl (fun hc => ?_) (fun hc => ?_)
  · have h := h.1 hc
    refine r_aload_n (x := t) d_X11_figure_18 rfl o_t.1 ?_
    refine r_getf (j := 4) (t := 2) (x := t_tape) d_X11_figure_19 kX11 (by decide) fl_X11_34 o_t.1 o_t.2.1 o_t.2.2.1 o_t.2.2.2 rfl f_t_tape ?_
    refine r_iload_n (x := x2) d_X11_figure_22 rfl ?_
    refine r_callV (Y2 := mX9_tellsFigure) (d := d - 1) (mc := 0) (ms := 0) (c := t_tape) (As := [(0, x2)]) (S := []) d_X11_figure_23 ok_mX9_tellsFigure ml_X11_120 rfl (rmc h0d (by decide)) rm00 (Nat.le_of_ble_eq_true rfl) rfl kX9 o_t_tape.1 o_t_tape.2.1 o_t_tape.2.2.1 o_t_tape.2.2.2 (MC.mono h (fun r N1 Λ1 σ4 hq => ?_))
    obtain ⟨v5, rfl, rfl, rfl, h⟩ := hq
    refine r_if_ne (tgt := 34) d_X11_figure_26 rfl (fun hc => ?_) (fun hc => ?_)
    · have h := h.1 hc
      refine r_aload_n (x := t) d_X11_figure_34 rfl o_t.1 ?_
      refine r_getf (j := 6) (t := 2) (x := t_figures) d_X11_figure_35 kX11 (by decide) fl_X11_48 o_t.1 o_t.2.1 o_t.2.2.1 o_t.2.2.2 rfl f_t_figures ?_
      refine r_callV (Y2 := mX2_begin) (d := d - 1) (mc := 0) (ms := 0) (c := t_figures) (As := []) (S := []) d_X11_figure_38 ok_mX2_begin ml_X11_123 rfl (rmc h0d (by decide)) rm00 (Nat.le_of_ble_eq_true rfl) rfl kX2 o_t_figures.1 o_t_figures.2.1 o_t_figures.2.2.1 o_t_figures.2.2.2 (MC.mono h (fun r N1 Λ1 σ6 hq => ?_))
      obtain ⟨rfl, rfl, rfl, h⟩ := hq
      refine r_iconst (x := 0) d_X11_figure_41 ⟨by decide, by decide⟩ ?_
      refine r_istore (L2 := [(2, t), (0, x1), (0, x2), (0, v3), (0, 0), (3, 0)]) d_X11_figure_42 (by decide) rfl rfl ?_
      refine r_iconst (x := 0) d_X11_figure_44 ⟨by decide, by decide⟩ ?_
      refine r_istore (L2 := [(2, t), (0, x1), (0, x2), (0, v3), (0, 0), (0, 0)]) d_X11_figure_45 (by decide) rfl rfl ?_
      exact h
    · have h := h.2 hc
      refine r_aload_n (x := t) d_X11_figure_29 rfl o_t.1 ?_
      refine r_callV (Y2 := mX11_badText) (d := d - 1) (mc := 0) (ms := 0) (c := t) (As := []) (S := []) d_X11_figure_30 ok_mX11_badText ml_X11_109 rfl (rmc h0d (by decide)) rm00 (Nat.le_of_ble_eq_true rfl) rfl kX11 o_t.1 o_t.2.1 o_t.2.2.1 o_t.2.2.2 (MC.mono h (fun r N1 Λ1 σ7 hq => ?_))
      obtain ⟨v8, rfl, rfl, rfl, h⟩ := hq
      exact r_iret d_X11_figure_33 rfl rfl (Nat.le_refl 0) (Nat.le_refl 0) ⟨_, rfl, rfl, rfl, h⟩
  · have h := h.2 hc
    refine r_iload_n (x := v3) d_X11_figure_16 rfl ?_
    exact r_iret d_X11_figure_17 rfl rfl (Nat.le_refl 0) (Nat.le_refl 0) ⟨_, rfl, rfl, rfl, h⟩
theorem v_X11_figure_47 {l : Launch} {d N : Nat} {Λ : Lay} {P : Int → Mem → Prop} {σ : Mem} {x1 x2 x3 x4 x5 t t_figures t_tape t_tape_bytes t_work : Int} (o_t : Ob N Λ t 20 14) (f_t_figures : (Λ t).2.2 6 = t_figures) (f_t_work : (Λ t).2.2 11 = t_work) (o_t_figures : Ob N Λ t_figures 12 9) (f_t_tape : (Λ t).2.2 4 = t_tape) (o_t_tape : Ob N Λ t_tape 18 6) (f_t_tape_bytes : (Λ t_tape).2.2 0 = t_tape_bytes) (h0d : 1 ≤ d)
    (h : ((x2 ≤ x5 → ((¬ x4 = 0 → (CI l mX11_keepText (d - 1) [(2, t), (0, x1), (0, x4)] N Λ σ (fun v2 σ1 => P v2 σ1))) ∧ (x4 = 0 → (CI l mX2_makeFigure (d - 1) [(2, t_figures), (2, t_work)] N Λ σ (fun v4 σ3 => (CI l mX11_keepText (d - 1) [(2, t), (0, x1), (0, v4)] N Λ σ3 (fun v6 σ5 => P v6 σ5))))))) ∧ (¬ (x2 ≤ x5) → ((¬ x4 = 0 → ((¬ x4 = 0 → (CI l mX11_keepText (d - 1) [(2, t), (0, x1), (0, x4)] N Λ σ (fun v8 σ7 => P v8 σ7))) ∧ (x4 = 0 → (CI l mX2_makeFigure (d - 1) [(2, t_figures), (2, t_work)] N Λ σ (fun v10 σ9 => (CI l mX11_keepText (d - 1) [(2, t), (0, x1), (0, v10)] N Λ σ9 (fun v12 σ11 => P v12 σ11))))))) ∧ (x4 = 0 → (Ix N Λ t_tape_bytes 0 x5 ∧ (CI l mX2_take (d - 1) [(2, t_figures), (0, (σ t_tape_bytes x5))] N Λ σ (fun v14 σ13 => (∀ y15, y15 = addI x5 1 → WI l mX11_figure d P 47 [(2, t), (0, x1), (0, x2), (0, x3), (0, v14), (0, y15)] [] N Λ σ13))))))))) :
    WI l mX11_figure d P 47 [(2, t), (0, x1), (0, x2), (0, x3), (0, x4), (0, x5)] [] N Λ σ := by
  refine r_iload (x := x5) d_X11_figure_47 rfl ?_
  refine r_iload_n (x := x2) d_X11_figure_49 rfl ?_
  refine r_ic_ge (tgt := 83) d_X11_figure_50 rfl (fun hc => ?_) (fun hc => ?_)
  · have h := h.1 hc
    refine r_aload_n (x := t) d_X11_figure_83 rfl o_t.1 ?_
    refine r_iload_n (x := x1) d_X11_figure_84 rfl ?_
    refine r_iload (x := x4) d_X11_figure_85 rfl ?_
    refine r_if_ne (tgt := 104) d_X11_figure_87 rfl (fun hc => ?_) (fun hc => ?_)
    · have h := h.1 hc
      refine r_iload (x := x4) d_X11_figure_104 rfl ?_
      refine r_callV (Y2 := mX11_keepText) (d := d - 1) (mc := 0) (ms := 0) (c := t) (As := [(0, x1), (0, x4)]) (S := []) d_X11_figure_106 ok_mX11_keepText ml_X11_117 rfl (rmc h0d (by decide)) rm00 (Nat.le_of_ble_eq_true rfl) rfl kX11 o_t.1 o_t.2.1 o_t.2.2.1 o_t.2.2.2 (MC.mono h (fun r N1 Λ1 σ1 hq => ?_))
      obtain ⟨v2, rfl, rfl, rfl, h⟩ := hq
      exact r_iret d_X11_figure_109 rfl rfl (Nat.le_refl 0) (Nat.le_refl 0) ⟨_, rfl, rfl, rfl, h⟩
    · have h := h.2 hc
      refine r_aload_n (x := t) d_X11_figure_90 rfl o_t.1 ?_
      refine r_getf (j := 6) (t := 2) (x := t_figures) d_X11_figure_91 kX11 (by decide) fl_X11_48 o_t.1 o_t.2.1 o_t.2.2.1 o_t.2.2.2 rfl f_t_figures ?_
      refine r_aload_n (x := t) d_X11_figure_94 rfl o_t.1 ?_
      refine r_getf (j := 11) (t := 2) (x := t_work) d_X11_figure_95 kX11 (by decide) fl_X11_83 o_t.1 o_t.2.1 o_t.2.2.1 o_t.2.2.2 rfl f_t_work ?_
      refine r_callV (Y2 := mX2_makeFigure) (d := d - 1) (mc := 0) (ms := 0) (c := t_figures) (As := [(2, t_work)]) (S := [(0, x1), (2, t)]) d_X11_figure_98 ok_mX2_makeFigure ml_X11_133 rfl (rmc h0d (by decide)) rm00 (Nat.le_of_ble_eq_true rfl) rfl kX2 o_t_figures.1 o_t_figures.2.1 o_t_figures.2.2.1 o_t_figures.2.2.2 (MC.mono h (fun r N1 Λ1 σ3 hq => ?_))
      obtain ⟨v4, rfl, rfl, rfl, h⟩ := hq
      refine r_goto (tgt := 106) d_X11_figure_101 rfl ?_
      refine r_callV (Y2 := mX11_keepText) (d := d - 1) (mc := 0) (ms := 0) (c := t) (As := [(0, x1), (0, v4)]) (S := []) d_X11_figure_106 ok_mX11_keepText ml_X11_117 rfl (rmc h0d (by decide)) rm00 (Nat.le_of_ble_eq_true rfl) rfl kX11 o_t.1 o_t.2.1 o_t.2.2.1 o_t.2.2.2 (MC.mono h (fun r N1 Λ1 σ5 hq => ?_))
      obtain ⟨v6, rfl, rfl, rfl, h⟩ := hq
      exact r_iret d_X11_figure_109 rfl rfl (Nat.le_refl 0) (Nat.le_refl 0) ⟨_, rfl, rfl, rfl, h⟩
  · have h := h.2 hc
    refine r_iload (x := x4) d_X11_figure_53 rfl ?_
    refine r_if_ne (tgt := 83) d_X11_figure_55 rfl (fun hc => ?_) (fun hc => ?_)
    · have h := h.1 hc
      refine r_aload_n (x := t) d_X11_figure_83 rfl o_t.1 ?_
      refine r_iload_n (x := x1) d_X11_figure_84 rfl ?_
      refine r_iload (x := x4) d_X11_figure_85 rfl ?_
      refine r_if_ne (tgt := 104) d_X11_figure_87 rfl (fun hc => ?_) (fun hc => ?_)
      · have h := h.1 hc
        refine r_iload (x := x4) d_X11_figure_104 rfl ?_
        refine r_callV (Y2 := mX11_keepText) (d := d - 1) (mc := 0) (ms := 0) (c := t) (As := [(0, x1), (0, x4)]) (S := []) d_X11_figure_106 ok_mX11_keepText ml_X11_117 rfl (rmc h0d (by decide)) rm00 (Nat.le_of_ble_eq_true rfl) rfl kX11 o_t.1 o_t.2.1 o_t.2.2.1 o_t.2.2.2 (MC.mono h (fun r N1 Λ1 σ7 hq => ?_))
        obtain ⟨v8, rfl, rfl, rfl, h⟩ := hq
        exact r_iret d_X11_figure_109 rfl rfl (Nat.le_refl 0) (Nat.le_refl 0) ⟨_, rfl, rfl, rfl, h⟩
      · have h := h.2 hc
        refine r_aload_n (x := t) d_X11_figure_90 rfl o_t.1 ?_
        refine r_getf (j := 6) (t := 2) (x := t_figures) d_X11_figure_91 kX11 (by decide) fl_X11_48 o_t.1 o_t.2.1 o_t.2.2.1 o_t.2.2.2 rfl f_t_figures ?_
        refine r_aload_n (x := t) d_X11_figure_94 rfl o_t.1 ?_
        refine r_getf (j := 11) (t := 2) (x := t_work) d_X11_figure_95 kX11 (by decide) fl_X11_83 o_t.1 o_t.2.1 o_t.2.2.1 o_t.2.2.2 rfl f_t_work ?_
        refine r_callV (Y2 := mX2_makeFigure) (d := d - 1) (mc := 0) (ms := 0) (c := t_figures) (As := [(2, t_work)]) (S := [(0, x1), (2, t)]) d_X11_figure_98 ok_mX2_makeFigure ml_X11_133 rfl (rmc h0d (by decide)) rm00 (Nat.le_of_ble_eq_true rfl) rfl kX2 o_t_figures.1 o_t_figures.2.1 o_t_figures.2.2.1 o_t_figures.2.2.2 (MC.mono h (fun r N1 Λ1 σ9 hq => ?_))
        obtain ⟨v10, rfl, rfl, rfl, h⟩ := hq
        refine r_goto (tgt := 106) d_X11_figure_101 rfl ?_
        refine r_callV (Y2 := mX11_keepText) (d := d - 1) (mc := 0) (ms := 0) (c := t) (As := [(0, x1), (0, v10)]) (S := []) d_X11_figure_106 ok_mX11_keepText ml_X11_117 rfl (rmc h0d (by decide)) rm00 (Nat.le_of_ble_eq_true rfl) rfl kX11 o_t.1 o_t.2.1 o_t.2.2.1 o_t.2.2.2 (MC.mono h (fun r N1 Λ1 σ11 hq => ?_))
        obtain ⟨v12, rfl, rfl, rfl, h⟩ := hq
        exact r_iret d_X11_figure_109 rfl rfl (Nat.le_refl 0) (Nat.le_refl 0) ⟨_, rfl, rfl, rfl, h⟩
    · have h := h.2 hc
      refine r_aload_n (x := t) d_X11_figure_58 rfl o_t.1 ?_
      refine r_getf (j := 6) (t := 2) (x := t_figures) d_X11_figure_59 kX11 (by decide) fl_X11_48 o_t.1 o_t.2.1 o_t.2.2.1 o_t.2.2.2 rfl f_t_figures ?_
      refine r_aload_n (x := t) d_X11_figure_62 rfl o_t.1 ?_
      refine r_getf (j := 4) (t := 2) (x := t_tape) d_X11_figure_63 kX11 (by decide) fl_X11_34 o_t.1 o_t.2.1 o_t.2.2.1 o_t.2.2.2 rfl f_t_tape ?_
      refine r_getf (j := 0) (t := 2) (x := t_tape_bytes) d_X11_figure_66 kX9 (by decide) fl_X11_126 o_t_tape.1 o_t_tape.2.1 o_t_tape.2.2.1 o_t_tape.2.2.2 rfl f_t_tape_bytes ?_
      refine r_iload (x := x5) d_X11_figure_69 rfl ?_
      refine x_iald d_X11_figure_71 h.1 ?_
      have h := h.2
      refine r_callV (Y2 := mX2_take) (d := d - 1) (mc := 0) (ms := 0) (c := t_figures) (As := [(0, (σ t_tape_bytes x5))]) (S := []) d_X11_figure_72 ok_mX2_take ml_X11_130 rfl (rmc h0d (by decide)) rm00 (Nat.le_of_ble_eq_true rfl) rfl kX2 o_t_figures.1 o_t_figures.2.1 o_t_figures.2.2.1 o_t_figures.2.2.2 (MC.mono h (fun r N1 Λ1 σ13 hq => ?_))
      obtain ⟨v14, rfl, rfl, rfl, h⟩ := hq
      refine r_istore (L2 := [(2, t), (0, x1), (0, x2), (0, x3), (0, v14), (0, x5)]) d_X11_figure_75 (by decide) rfl rfl ?_
      refine x_iinc (x := x5) (L := [(2, t), (0, x1), (0, x2), (0, x3), (0, v14), (0, x5)]) d_X11_figure_77 rfl (by decide) rfl (fun y15 ey15 => ?_)
      have h := h y15 ey15
      show WP _ _ _ _ _ _ _ _ [(2, t), (0, x1), (0, x2), (0, x3), (0, v14), (0, y15)] _ _ _ _
      refine r_goto (tgt := 47) d_X11_figure_80 rfl ?_
      exact h
theorem v_X11_fault_0 {l : Launch} {d N : Nat} {Λ : Lay} {P : Int → Mem → Prop} {σ : Mem} {x1 t t_tape : Int} (o_t : Ob N Λ t 20 14) (f_t_tape : (Λ t).2.2 4 = t_tape) (o_t_tape : Ob N Λ t_tape 18 6)
    (h : ((¬ x1 = 0 → ((¬ x1 = 1 → P (-1) σ) ∧ (x1 = 1 → P (σ t_tape 3) σ))) ∧ (x1 = 0 → P (σ t_tape 2) σ))) :
    WI l mX11_fault d P 0 [(2, t), (0, x1)] [] N Λ σ := by
  refine r_iload_n (x := x1) d_X11_fault_0 rfl ?_
  refine r_if_ne (tgt := 12) d_X11_fault_1 rfl (fun hc => ?_) (fun hc => ?_)
  · have h := h.1 hc
    refine r_iload_n (x := x1) d_X11_fault_12 rfl ?_
    refine r_iconst (x := 1) d_X11_fault_13 ⟨by decide, by decide⟩ ?_
    refine r_ic_ne (tgt := 27) d_X11_fault_14 rfl (fun hc => ?_) (fun hc => ?_)
    · have h := h.1 hc
      refine r_iconst (x := (-1)) d_X11_fault_27 ⟨by decide, by decide⟩ ?_
      exact r_iret d_X11_fault_28 rfl rfl (Nat.le_refl 0) (Nat.le_refl 0) ⟨_, rfl, rfl, rfl, h⟩
    · have h := h.2 hc
      refine r_aload_n (x := t) d_X11_fault_17 rfl o_t.1 ?_
      refine r_getf (j := 4) (t := 2) (x := t_tape) d_X11_fault_18 kX11 (by decide) fl_X11_34 o_t.1 o_t.2.1 o_t.2.2.1 o_t.2.2.2 rfl f_t_tape ?_
      refine r_getf (j := 3) (t := 0) (x := (σ t_tape 3)) d_X11_fault_21 kX9 (by decide) fl_X11_140 o_t_tape.1 o_t_tape.2.1 o_t_tape.2.2.1 o_t_tape.2.2.2 rfl rfl ?_
      refine r_goto (tgt := 28) d_X11_fault_24 rfl ?_
      exact r_iret d_X11_fault_28 rfl rfl (Nat.le_refl 0) (Nat.le_refl 0) ⟨_, rfl, rfl, rfl, h⟩
  · have h := h.2 hc
    refine r_aload_n (x := t) d_X11_fault_4 rfl o_t.1 ?_
    refine r_getf (j := 4) (t := 2) (x := t_tape) d_X11_fault_5 kX11 (by decide) fl_X11_34 o_t.1 o_t.2.1 o_t.2.2.1 o_t.2.2.2 rfl f_t_tape ?_
    refine r_getf (j := 2) (t := 0) (x := (σ t_tape 2)) d_X11_fault_8 kX9 (by decide) fl_X11_137 o_t_tape.1 o_t_tape.2.1 o_t_tape.2.2.1 o_t_tape.2.2.2 rfl rfl ?_
    exact r_iret d_X11_fault_11 rfl rfl (Nat.le_refl 0) (Nat.le_refl 0) ⟨_, rfl, rfl, rfl, h⟩
theorem v_X11_why_0 {l : Launch} {d N : Nat} {Λ : Lay} {P : Int → Mem → Prop} {σ : Mem} {t : Int} (o_t : Ob N Λ t 20 14)
    (h : P (σ t 13) σ) :
    WI l mX11_why d P 0 [(2, t)] [] N Λ σ := by
  refine r_aload_n (x := t) d_X11_why_0 rfl o_t.1 ?_
  refine r_getf (j := 13) (t := 0) (x := (σ t 13)) d_X11_why_1 kX11 (by decide) fl_X11_90 o_t.1 o_t.2.1 o_t.2.2.1 o_t.2.2.2 rfl rfl ?_
  exact r_iret d_X11_why_4 rfl rfl (Nat.le_refl 0) (Nat.le_refl 0) ⟨_, rfl, rfl, rfl, h⟩
theorem v_X11_clear_0 {l : Launch} {d N : Nat} {Λ : Lay} {P : Int → Mem → Prop} {σ : Mem} {x1 t t_now t_now_shelves t_work : Int} (o_t : Ob N Λ t 20 14) (f_t_now : (Λ t).2.2 0 = t_now) (o_t_now : Ob N Λ t_now 16 3) (f_t_now_shelves : (Λ t_now).2.2 0 = t_now_shelves) (f_t_work : (Λ t).2.2 11 = t_work) (o_t_work : Ob N Λ t_work 15 3) (h0d : 1 ≤ d)
    (h : (CI l mX11_isShelf (d - 1) [(0, x1)] N Λ σ (fun v2 σ1 => ((¬ v2 = 0 → (Ix N Λ t_now_shelves 3 x1 ∧ ∀ b3, b3 = (Λ t_now_shelves).2.2 x1 → Ob N Λ b3 15 3 ∧ (∀ y4, y4 = (σ1 b3 2) → (CV l mX5_empty (d - 1) [(2, t_work)] N Λ σ1 (fun σ5 => (CI l mX11_keep (d - 1) [(2, t), (0, x1), (0, 0)] N Λ σ5 (fun v7 σ6 => P y4 σ6))))))) ∧ (v2 = 0 → P (-2) σ1))))) :
    WI l mX11_clear d P 0 [(2, t), (0, x1), (3, 0)] [] N Λ σ := by
  refine r_iload_n (x := x1) d_X11_clear_0 rfl ?_
  refine r_callS (Y2 := mX11_isShelf) (d := d - 1) (mc := 0) (ms := 0) (As := [(0, x1)]) (S := []) d_X11_clear_1 ok_mX11_isShelf ml_X11_143 rfl (rmc h0d (by decide)) rm00 (Nat.le_of_ble_eq_true rfl) rfl (MC.mono h (fun r N1 Λ1 σ1 hq => ?_))
  obtain ⟨v2, rfl, rfl, rfl, h⟩ := hq
  refine r_if_ne (tgt := 10) d_X11_clear_4 rfl (fun hc => ?_) (fun hc => ?_)
  · have h := h.1 hc
    refine r_aload_n (x := t) d_X11_clear_10 rfl o_t.1 ?_
    refine r_getf (j := 0) (t := 2) (x := t_now) d_X11_clear_11 kX11 (by decide) fl_X11_10 o_t.1 o_t.2.1 o_t.2.2.1 o_t.2.2.2 rfl f_t_now ?_
    refine r_getf (j := 0) (t := 2) (x := t_now_shelves) d_X11_clear_14 kX7 (by decide) fl_X11_146 o_t_now.1 o_t_now.2.1 o_t_now.2.2.1 o_t_now.2.2.2 rfl f_t_now_shelves ?_
    refine r_iload_n (x := x1) d_X11_clear_17 rfl ?_
    refine x_aald (t := 3) (by decide) d_X11_clear_18 h.1 (fun b3 eb3 => ?_)
    have h := h.2 b3 eb3
    have oob3 := h.1
    have h := h.2
    refine r_getf (j := 2) (t := 0) (x := (σ1 b3 2)) d_X11_clear_19 kX5 (by decide) fl_X11_150 oob3.1 oob3.2.1 oob3.2.2.1 oob3.2.2.2 rfl rfl ?_
    refine r_nm (fun y4 ey4 => ?_)
    have h := h y4 ey4
    refine r_istore_n (L2 := [(2, t), (0, x1), (0, y4)]) d_X11_clear_22 (by decide) rfl rfl ?_
    refine r_aload_n (x := t) d_X11_clear_23 rfl o_t.1 ?_
    refine r_getf (j := 11) (t := 2) (x := t_work) d_X11_clear_24 kX11 (by decide) fl_X11_83 o_t.1 o_t.2.1 o_t.2.2.1 o_t.2.2.2 rfl f_t_work ?_
    refine r_callV (Y2 := mX5_empty) (d := d - 1) (mc := 0) (ms := 0) (c := t_work) (As := []) (S := []) d_X11_clear_27 ok_mX5_empty ml_X11_151 rfl (rmc h0d (by decide)) rm00 (Nat.le_of_ble_eq_true rfl) rfl kX5 o_t_work.1 o_t_work.2.1 o_t_work.2.2.1 o_t_work.2.2.2 (MC.mono h (fun r N1 Λ1 σ5 hq => ?_))
    obtain ⟨rfl, rfl, rfl, h⟩ := hq
    refine r_aload_n (x := t) d_X11_clear_30 rfl o_t.1 ?_
    refine r_iload_n (x := x1) d_X11_clear_31 rfl ?_
    refine r_iconst (x := 0) d_X11_clear_32 ⟨by decide, by decide⟩ ?_
    refine r_callV (Y2 := mX11_keep) (d := d - 1) (mc := 0) (ms := 0) (c := t) (As := [(0, x1), (0, 0)]) (S := []) d_X11_clear_33 ok_mX11_keep ml_X11_154 rfl (rmc h0d (by decide)) rm00 (Nat.le_of_ble_eq_true rfl) rfl kX11 o_t.1 o_t.2.1 o_t.2.2.1 o_t.2.2.2 (MC.mono h (fun r N1 Λ1 σ6 hq => ?_))
    obtain ⟨v7, rfl, rfl, rfl, h⟩ := hq
    refine r_pop d_X11_clear_36 rfl ?_
    refine r_iload_n (x := y4) d_X11_clear_37 rfl ?_
    exact r_iret d_X11_clear_38 rfl rfl (Nat.le_refl 0) (Nat.le_refl 0) ⟨_, rfl, rfl, rfl, h⟩
  · have h := h.2 hc
    refine r_bipush (x := (-2)) d_X11_clear_7 ⟨by decide, by decide⟩ (by decide) ?_
    exact r_iret d_X11_clear_9 rfl rfl (Nat.le_refl 0) (Nat.le_refl 0) ⟨_, rfl, rfl, rfl, h⟩
theorem v_X11_copy_0 {l : Launch} {d N : Nat} {Λ : Lay} {P : Int → Mem → Prop} {σ : Mem} {x1 x2 t t_now t_now_shelves t_work : Int} (o_t : Ob N Λ t 20 14) (f_t_work : (Λ t).2.2 11 = t_work) (f_t_now : (Λ t).2.2 0 = t_now) (o_t_now : Ob N Λ t_now 16 3) (f_t_now_shelves : (Λ t_now).2.2 0 = t_now_shelves) (o_t_work : Ob N Λ t_work 15 3) (h0d : 1 ≤ d)
    (h : (CI l mX11_isShelf (d - 1) [(0, x1)] N Λ σ (fun v2 σ1 => ((v2 = 0 → P (-2) σ1) ∧ (¬ (v2 = 0) → (CI l mX11_isShelf (d - 1) [(0, x2)] N Λ σ1 (fun v4 σ3 => ((¬ v4 = 0 → (Ix N Λ t_now_shelves 3 x2 ∧ ∀ b5, b5 = (Λ t_now_shelves).2.2 x2 → Ob N Λ b5 15 3 ∧ (CV l mX5_take (d - 1) [(2, t_work), (2, b5)] N Λ σ3 (fun σ6 => (CI l mX11_keep (d - 1) [(2, t), (0, x1), (0, 0)] N Λ σ6 (fun v8 σ7 => P v8 σ7)))))) ∧ (v4 = 0 → P (-2) σ3))))))))) :
    WI l mX11_copy d P 0 [(2, t), (0, x1), (0, x2)] [] N Λ σ := by
  refine r_iload_n (x := x1) d_X11_copy_0 rfl ?_
  refine r_callS (Y2 := mX11_isShelf) (d := d - 1) (mc := 0) (ms := 0) (As := [(0, x1)]) (S := []) d_X11_copy_1 ok_mX11_isShelf ml_X11_143 rfl (rmc h0d (by decide)) rm00 (Nat.le_of_ble_eq_true rfl) rfl (MC.mono h (fun r N1 Λ1 σ1 hq => ?_))
  obtain ⟨v2, rfl, rfl, rfl, h⟩ := hq
  refine r_if_eq (tgt := 14) d_X11_copy_4 rfl (fun hc => ?_) (fun hc => ?_)
  · have h := h.1 hc
    refine r_bipush (x := (-2)) d_X11_copy_14 ⟨by decide, by decide⟩ (by decide) ?_
    exact r_iret d_X11_copy_16 rfl rfl (Nat.le_refl 0) (Nat.le_refl 0) ⟨_, rfl, rfl, rfl, h⟩
  · have h := h.2 hc
    refine r_iload_n (x := x2) d_X11_copy_7 rfl ?_
    refine r_callS (Y2 := mX11_isShelf) (d := d - 1) (mc := 0) (ms := 0) (As := [(0, x2)]) (S := []) d_X11_copy_8 ok_mX11_isShelf ml_X11_143 rfl (rmc h0d (by decide)) rm00 (Nat.le_of_ble_eq_true rfl) rfl (MC.mono h (fun r N1 Λ1 σ3 hq => ?_))
    obtain ⟨v4, rfl, rfl, rfl, h⟩ := hq
    refine r_if_ne (tgt := 17) d_X11_copy_11 rfl (fun hc => ?_) (fun hc => ?_)
    · have h := h.1 hc
      refine r_aload_n (x := t) d_X11_copy_17 rfl o_t.1 ?_
      refine r_getf (j := 11) (t := 2) (x := t_work) d_X11_copy_18 kX11 (by decide) fl_X11_83 o_t.1 o_t.2.1 o_t.2.2.1 o_t.2.2.2 rfl f_t_work ?_
      refine r_aload_n (x := t) d_X11_copy_21 rfl o_t.1 ?_
      refine r_getf (j := 0) (t := 2) (x := t_now) d_X11_copy_22 kX11 (by decide) fl_X11_10 o_t.1 o_t.2.1 o_t.2.2.1 o_t.2.2.2 rfl f_t_now ?_
      refine r_getf (j := 0) (t := 2) (x := t_now_shelves) d_X11_copy_25 kX7 (by decide) fl_X11_146 o_t_now.1 o_t_now.2.1 o_t_now.2.2.1 o_t_now.2.2.2 rfl f_t_now_shelves ?_
      refine r_iload_n (x := x2) d_X11_copy_28 rfl ?_
      refine x_aald (t := 3) (by decide) d_X11_copy_29 h.1 (fun b5 eb5 => ?_)
      have h := h.2 b5 eb5
      have oob5 := h.1
      have h := h.2
      refine r_callV (Y2 := mX5_take) (d := d - 1) (mc := 0) (ms := 0) (c := t_work) (As := [(2, b5)]) (S := []) d_X11_copy_30 ok_mX5_take ml_X11_157 rfl (rmc h0d (by decide)) rm00 (Nat.le_of_ble_eq_true rfl) rfl kX5 o_t_work.1 o_t_work.2.1 o_t_work.2.2.1 o_t_work.2.2.2 (MC.mono h (fun r N1 Λ1 σ6 hq => ?_))
      obtain ⟨rfl, rfl, rfl, h⟩ := hq
      refine r_aload_n (x := t) d_X11_copy_33 rfl o_t.1 ?_
      refine r_iload_n (x := x1) d_X11_copy_34 rfl ?_
      refine r_iconst (x := 0) d_X11_copy_35 ⟨by decide, by decide⟩ ?_
      refine r_callV (Y2 := mX11_keep) (d := d - 1) (mc := 0) (ms := 0) (c := t) (As := [(0, x1), (0, 0)]) (S := []) d_X11_copy_36 ok_mX11_keep ml_X11_154 rfl (rmc h0d (by decide)) rm00 (Nat.le_of_ble_eq_true rfl) rfl kX11 o_t.1 o_t.2.1 o_t.2.2.1 o_t.2.2.2 (MC.mono h (fun r N1 Λ1 σ7 hq => ?_))
      obtain ⟨v8, rfl, rfl, rfl, h⟩ := hq
      exact r_iret d_X11_copy_39 rfl rfl (Nat.le_refl 0) (Nat.le_refl 0) ⟨_, rfl, rfl, rfl, h⟩
    · have h := h.2 hc
      refine r_bipush (x := (-2)) d_X11_copy_14 ⟨by decide, by decide⟩ (by decide) ?_
      exact r_iret d_X11_copy_16 rfl rfl (Nat.le_refl 0) (Nat.le_refl 0) ⟨_, rfl, rfl, rfl, h⟩
theorem v_X11_bracket_0 {l : Launch} {d N : Nat} {Λ : Lay} {P : Int → Mem → Prop} {σ : Mem} {x1 x2 x3 x4 t t_term t_work : Int} (o_t : Ob N Λ t 20 14) (f_t_term : (Λ t).2.2 10 = t_term) (o_t_term : Ob N Λ t_term 19 2) (f_t_work : (Λ t).2.2 11 = t_work) (o_t_work : Ob N Λ t_work 15 3) (h0d : 1 ≤ d)
    (h : (CI l mX11_isShelf (d - 1) [(0, x1)] N Λ σ (fun v2 σ1 => ((v2 = 0 → P (-2) σ1) ∧ (¬ (v2 = 0) → (CI l mX11_areLetters (d - 1) [(0, x2), (0, x3), (0, x4)] N Λ σ1 (fun v4 σ3 => ((¬ v4 = 0 → (CV l mX10_begin (d - 1) [(2, t_term), (1, 0)] N Λ σ3 (fun σ5 => (CI l mX6_row (d - 1) [(0, x2), (0, x3), (0, x4)] N Λ σ5 (fun v7 σ6 => (CV l mX10_attach (d - 1) [(2, t_term), (0, v7)] N Λ σ6 (fun σ8 => (CV l mX5_empty (d - 1) [(2, t_work)] N Λ σ8 (fun σ9 => (CI l mX5_lay (d - 1) [(2, t_work), (1, (σ9 t_term 0)), (1, (σ9 t_term 1))] N Λ σ9 (fun v11 σ10 => (CI l mX11_keep (d - 1) [(2, t), (0, x1), (0, v11)] N Λ σ10 (fun v13 σ12 => P v13 σ12))))))))))))) ∧ (v4 = 0 → P (-2) σ3))))))))) :
    WI l mX11_bracket d P 0 [(2, t), (0, x1), (0, x2), (0, x3), (0, x4)] [] N Λ σ := by
  refine r_iload_n (x := x1) d_X11_bracket_0 rfl ?_
  refine r_callS (Y2 := mX11_isShelf) (d := d - 1) (mc := 0) (ms := 0) (As := [(0, x1)]) (S := []) d_X11_bracket_1 ok_mX11_isShelf ml_X11_143 rfl (rmc h0d (by decide)) rm00 (Nat.le_of_ble_eq_true rfl) rfl (MC.mono h (fun r N1 Λ1 σ1 hq => ?_))
  obtain ⟨v2, rfl, rfl, rfl, h⟩ := hq
  refine r_if_eq (tgt := 17) d_X11_bracket_4 rfl (fun hc => ?_) (fun hc => ?_)
  · have h := h.1 hc
    refine r_bipush (x := (-2)) d_X11_bracket_17 ⟨by decide, by decide⟩ (by decide) ?_
    exact r_iret d_X11_bracket_19 rfl rfl (Nat.le_refl 0) (Nat.le_refl 0) ⟨_, rfl, rfl, rfl, h⟩
  · have h := h.2 hc
    refine r_iload_n (x := x2) d_X11_bracket_7 rfl ?_
    refine r_iload_n (x := x3) d_X11_bracket_8 rfl ?_
    refine r_iload (x := x4) d_X11_bracket_9 rfl ?_
    refine r_callS (Y2 := mX11_areLetters) (d := d - 1) (mc := 0) (ms := 0) (As := [(0, x2), (0, x3), (0, x4)]) (S := []) d_X11_bracket_11 ok_mX11_areLetters ml_X11_160 rfl (rmc h0d (by decide)) rm00 (Nat.le_of_ble_eq_true rfl) rfl (MC.mono h (fun r N1 Λ1 σ3 hq => ?_))
    obtain ⟨v4, rfl, rfl, rfl, h⟩ := hq
    refine r_if_ne (tgt := 20) d_X11_bracket_14 rfl (fun hc => ?_) (fun hc => ?_)
    · have h := h.1 hc
      refine r_aload_n (x := t) d_X11_bracket_20 rfl o_t.1 ?_
      refine r_getf (j := 10) (t := 2) (x := t_term) d_X11_bracket_21 kX11 (by decide) fl_X11_76 o_t.1 o_t.2.1 o_t.2.2.1 o_t.2.2.2 rfl f_t_term ?_
      refine r_lconst d_X11_bracket_24 ?_
      skip
      refine r_callV (Y2 := mX10_begin) (d := d - 1) (mc := 0) (ms := 0) (c := t_term) (As := [(1, 0)]) (S := []) d_X11_bracket_25 ok_mX10_begin ml_X11_164 rfl (rmc h0d (by decide)) rm00 (Nat.le_of_ble_eq_true rfl) rfl kX10 o_t_term.1 o_t_term.2.1 o_t_term.2.2.1 o_t_term.2.2.2 (MC.mono h (fun r N1 Λ1 σ5 hq => ?_))
      obtain ⟨rfl, rfl, rfl, h⟩ := hq
      refine r_aload_n (x := t) d_X11_bracket_28 rfl o_t.1 ?_
      refine r_getf (j := 10) (t := 2) (x := t_term) d_X11_bracket_29 kX11 (by decide) fl_X11_76 o_t.1 o_t.2.1 o_t.2.2.1 o_t.2.2.2 rfl f_t_term ?_
      refine r_iload_n (x := x2) d_X11_bracket_32 rfl ?_
      refine r_iload_n (x := x3) d_X11_bracket_33 rfl ?_
      refine r_iload (x := x4) d_X11_bracket_34 rfl ?_
      refine r_callS (Y2 := mX6_row) (d := d - 1) (mc := 0) (ms := 0) (As := [(0, x2), (0, x3), (0, x4)]) (S := [(2, t_term)]) d_X11_bracket_36 ok_mX6_row ml_X11_167 rfl (rmc h0d (by decide)) rm00 (Nat.le_of_ble_eq_true rfl) rfl (MC.mono h (fun r N1 Λ1 σ6 hq => ?_))
      obtain ⟨v7, rfl, rfl, rfl, h⟩ := hq
      refine r_callV (Y2 := mX10_attach) (d := d - 1) (mc := 0) (ms := 0) (c := t_term) (As := [(0, v7)]) (S := []) d_X11_bracket_39 ok_mX10_attach ml_X11_173 rfl (rmc h0d (by decide)) rm00 (Nat.le_of_ble_eq_true rfl) rfl kX10 o_t_term.1 o_t_term.2.1 o_t_term.2.2.1 o_t_term.2.2.2 (MC.mono h (fun r N1 Λ1 σ8 hq => ?_))
      obtain ⟨rfl, rfl, rfl, h⟩ := hq
      refine r_aload_n (x := t) d_X11_bracket_42 rfl o_t.1 ?_
      refine r_getf (j := 11) (t := 2) (x := t_work) d_X11_bracket_43 kX11 (by decide) fl_X11_83 o_t.1 o_t.2.1 o_t.2.2.1 o_t.2.2.2 rfl f_t_work ?_
      refine r_callV (Y2 := mX5_empty) (d := d - 1) (mc := 0) (ms := 0) (c := t_work) (As := []) (S := []) d_X11_bracket_46 ok_mX5_empty ml_X11_151 rfl (rmc h0d (by decide)) rm00 (Nat.le_of_ble_eq_true rfl) rfl kX5 o_t_work.1 o_t_work.2.1 o_t_work.2.2.1 o_t_work.2.2.2 (MC.mono h (fun r N1 Λ1 σ9 hq => ?_))
      obtain ⟨rfl, rfl, rfl, h⟩ := hq
      refine r_aload_n (x := t) d_X11_bracket_49 rfl o_t.1 ?_
      refine r_iload_n (x := x1) d_X11_bracket_50 rfl ?_
      refine r_aload_n (x := t) d_X11_bracket_51 rfl o_t.1 ?_
      refine r_getf (j := 11) (t := 2) (x := t_work) d_X11_bracket_52 kX11 (by decide) fl_X11_83 o_t.1 o_t.2.1 o_t.2.2.1 o_t.2.2.2 rfl f_t_work ?_
      refine r_aload_n (x := t) d_X11_bracket_55 rfl o_t.1 ?_
      refine r_getf (j := 10) (t := 2) (x := t_term) d_X11_bracket_56 kX11 (by decide) fl_X11_76 o_t.1 o_t.2.1 o_t.2.2.1 o_t.2.2.2 rfl f_t_term ?_
      refine r_getf (j := 0) (t := 1) (x := (σ9 t_term 0)) d_X11_bracket_59 kX10 (by decide) fl_X11_176 o_t_term.1 o_t_term.2.1 o_t_term.2.2.1 o_t_term.2.2.2 rfl rfl ?_
      refine r_aload_n (x := t) d_X11_bracket_62 rfl o_t.1 ?_
      refine r_getf (j := 10) (t := 2) (x := t_term) d_X11_bracket_63 kX11 (by decide) fl_X11_76 o_t.1 o_t.2.1 o_t.2.2.1 o_t.2.2.2 rfl f_t_term ?_
      refine r_getf (j := 1) (t := 0) (x := (σ9 t_term 1)) d_X11_bracket_66 kX10 (by decide) fl_X11_180 o_t_term.1 o_t_term.2.1 o_t_term.2.2.1 o_t_term.2.2.2 rfl rfl ?_
      refine r_i2l d_X11_bracket_69 ?_
      refine r_callV (Y2 := mX5_lay) (d := d - 1) (mc := 0) (ms := 0) (c := t_work) (As := [(1, (σ9 t_term 0)), (1, (σ9 t_term 1))]) (S := [(0, x1), (2, t)]) d_X11_bracket_70 ok_mX5_lay ml_X11_183 rfl (rmc h0d (by decide)) rm00 (Nat.le_of_ble_eq_true rfl) rfl kX5 o_t_work.1 o_t_work.2.1 o_t_work.2.2.1 o_t_work.2.2.2 (MC.mono h (fun r N1 Λ1 σ10 hq => ?_))
      obtain ⟨v11, rfl, rfl, rfl, h⟩ := hq
      refine r_callV (Y2 := mX11_keep) (d := d - 1) (mc := 0) (ms := 0) (c := t) (As := [(0, x1), (0, v11)]) (S := []) d_X11_bracket_73 ok_mX11_keep ml_X11_154 rfl (rmc h0d (by decide)) rm00 (Nat.le_of_ble_eq_true rfl) rfl kX11 o_t.1 o_t.2.1 o_t.2.2.1 o_t.2.2.2 (MC.mono h (fun r N1 Λ1 σ12 hq => ?_))
      obtain ⟨v13, rfl, rfl, rfl, h⟩ := hq
      exact r_iret d_X11_bracket_76 rfl rfl (Nat.le_refl 0) (Nat.le_refl 0) ⟨_, rfl, rfl, rfl, h⟩
    · have h := h.2 hc
      refine r_bipush (x := (-2)) d_X11_bracket_17 ⟨by decide, by decide⟩ (by decide) ?_
      exact r_iret d_X11_bracket_19 rfl rfl (Nat.le_refl 0) (Nat.le_refl 0) ⟨_, rfl, rfl, rfl, h⟩
theorem v_X11_exchange_0 {l : Launch} {d N : Nat} {Λ : Lay} {P : Int → Mem → Prop} {σ : Mem} {x1 x2 x3 x4 t t_straightener t_work : Int} (o_t : Ob N Λ t 20 14) (f_t_work : (Λ t).2.2 11 = t_work) (o_t_work : Ob N Λ t_work 15 3) (f_t_straightener : (Λ t).2.2 5 = t_straightener) (o_t_straightener : Ob N Λ t_straightener 17 2) (h0d : 1 ≤ d)
    (h : (CI l mX11_isShelf (d - 1) [(0, x1)] N Λ σ (fun v2 σ1 => ((¬ v2 = 0 → ((x2 < 0 → P (-3) σ1) ∧ (¬ (x2 < 0) → ((999 < x2 → P (-3) σ1) ∧ (¬ (999 < x2) → ((x3 < 0 → P (-3) σ1) ∧ (¬ (x3 < 0) → ((999 < x3 → P (-3) σ1) ∧ (¬ (999 < x3) → ((x4 < 1 → P (-3) σ1) ∧ (¬ (x4 < 1) → ((x4 ≤ 3 → (CV l mX5_empty (d - 1) [(2, t_work)] N Λ σ1 (fun σ3 => (CI l mX11_rowOfDigits (d - 1) [(0, x2)] N Λ σ3 (fun v5 σ4 => (CI l mX11_rowOfDigits (d - 1) [(0, x3)] N Λ σ4 (fun v7 σ6 => (CI l mX8_layExchange (d - 1) [(2, t_straightener), (2, t_work), (0, v5), (0, v7), (0, x4), (1, 0), (1, 1)] N Λ σ6 (fun v9 σ8 => (CI l mX11_keep (d - 1) [(2, t), (0, x1), (0, v9)] N Λ σ8 (fun v11 σ10 => P v11 σ10))))))))))) ∧ (¬ (x4 ≤ 3) → P (-3) σ1))))))))))))) ∧ (v2 = 0 → P (-2) σ1))))) :
    WI l mX11_exchange d P 0 [(2, t), (0, x1), (0, x2), (0, x3), (0, x4)] [] N Λ σ := by
  refine r_iload_n (x := x1) d_X11_exchange_0 rfl ?_
  refine r_callS (Y2 := mX11_isShelf) (d := d - 1) (mc := 0) (ms := 0) (As := [(0, x1)]) (S := []) d_X11_exchange_1 ok_mX11_isShelf ml_X11_143 rfl (rmc h0d (by decide)) rm00 (Nat.le_of_ble_eq_true rfl) rfl (MC.mono h (fun r N1 Λ1 σ1 hq => ?_))
  obtain ⟨v2, rfl, rfl, rfl, h⟩ := hq
  refine r_if_ne (tgt := 10) d_X11_exchange_4 rfl (fun hc => ?_) (fun hc => ?_)
  · have h := h.1 hc
    refine r_iload_n (x := x2) d_X11_exchange_10 rfl ?_
    refine r_if_lt (tgt := 44) d_X11_exchange_11 rfl (fun hc => ?_) (fun hc => ?_)
    · have h := h.1 hc
      refine r_bipush (x := (-3)) d_X11_exchange_44 ⟨by decide, by decide⟩ (by decide) ?_
      exact r_iret d_X11_exchange_46 rfl rfl (Nat.le_refl 0) (Nat.le_refl 0) ⟨_, rfl, rfl, rfl, h⟩
    · have h := h.2 hc
      refine r_iload_n (x := x2) d_X11_exchange_14 rfl ?_
      refine r_sipush (x := 999) d_X11_exchange_15 ⟨by decide, by decide⟩ (by decide) ?_
      refine r_ic_gt (tgt := 44) d_X11_exchange_18 rfl (fun hc => ?_) (fun hc => ?_)
      · have h := h.1 hc
        refine r_bipush (x := (-3)) d_X11_exchange_44 ⟨by decide, by decide⟩ (by decide) ?_
        exact r_iret d_X11_exchange_46 rfl rfl (Nat.le_refl 0) (Nat.le_refl 0) ⟨_, rfl, rfl, rfl, h⟩
      · have h := h.2 hc
        refine r_iload_n (x := x3) d_X11_exchange_21 rfl ?_
        refine r_if_lt (tgt := 44) d_X11_exchange_22 rfl (fun hc => ?_) (fun hc => ?_)
        · have h := h.1 hc
          refine r_bipush (x := (-3)) d_X11_exchange_44 ⟨by decide, by decide⟩ (by decide) ?_
          exact r_iret d_X11_exchange_46 rfl rfl (Nat.le_refl 0) (Nat.le_refl 0) ⟨_, rfl, rfl, rfl, h⟩
        · have h := h.2 hc
          refine r_iload_n (x := x3) d_X11_exchange_25 rfl ?_
          refine r_sipush (x := 999) d_X11_exchange_26 ⟨by decide, by decide⟩ (by decide) ?_
          refine r_ic_gt (tgt := 44) d_X11_exchange_29 rfl (fun hc => ?_) (fun hc => ?_)
          · have h := h.1 hc
            refine r_bipush (x := (-3)) d_X11_exchange_44 ⟨by decide, by decide⟩ (by decide) ?_
            exact r_iret d_X11_exchange_46 rfl rfl (Nat.le_refl 0) (Nat.le_refl 0) ⟨_, rfl, rfl, rfl, h⟩
          · have h := h.2 hc
            refine r_iload (x := x4) d_X11_exchange_32 rfl ?_
            refine r_iconst (x := 1) d_X11_exchange_34 ⟨by decide, by decide⟩ ?_
            refine r_ic_lt (tgt := 44) d_X11_exchange_35 rfl (fun hc => ?_) (fun hc => ?_)
            · have h := h.1 hc
              refine r_bipush (x := (-3)) d_X11_exchange_44 ⟨by decide, by decide⟩ (by decide) ?_
              exact r_iret d_X11_exchange_46 rfl rfl (Nat.le_refl 0) (Nat.le_refl 0) ⟨_, rfl, rfl, rfl, h⟩
            · have h := h.2 hc
              refine r_iload (x := x4) d_X11_exchange_38 rfl ?_
              refine r_iconst (x := 3) d_X11_exchange_40 ⟨by decide, by decide⟩ ?_
              refine r_ic_le (tgt := 47) d_X11_exchange_41 rfl (fun hc => ?_) (fun hc => ?_)
              · have h := h.1 hc
                refine r_aload_n (x := t) d_X11_exchange_47 rfl o_t.1 ?_
                refine r_getf (j := 11) (t := 2) (x := t_work) d_X11_exchange_48 kX11 (by decide) fl_X11_83 o_t.1 o_t.2.1 o_t.2.2.1 o_t.2.2.2 rfl f_t_work ?_
                refine r_callV (Y2 := mX5_empty) (d := d - 1) (mc := 0) (ms := 0) (c := t_work) (As := []) (S := []) d_X11_exchange_51 ok_mX5_empty ml_X11_151 rfl (rmc h0d (by decide)) rm00 (Nat.le_of_ble_eq_true rfl) rfl kX5 o_t_work.1 o_t_work.2.1 o_t_work.2.2.1 o_t_work.2.2.2 (MC.mono h (fun r N1 Λ1 σ3 hq => ?_))
                obtain ⟨rfl, rfl, rfl, h⟩ := hq
                refine r_aload_n (x := t) d_X11_exchange_54 rfl o_t.1 ?_
                refine r_iload_n (x := x1) d_X11_exchange_55 rfl ?_
                refine r_aload_n (x := t) d_X11_exchange_56 rfl o_t.1 ?_
                refine r_getf (j := 5) (t := 2) (x := t_straightener) d_X11_exchange_57 kX11 (by decide) fl_X11_41 o_t.1 o_t.2.1 o_t.2.2.1 o_t.2.2.2 rfl f_t_straightener ?_
                refine r_aload_n (x := t) d_X11_exchange_60 rfl o_t.1 ?_
                refine r_getf (j := 11) (t := 2) (x := t_work) d_X11_exchange_61 kX11 (by decide) fl_X11_83 o_t.1 o_t.2.1 o_t.2.2.1 o_t.2.2.2 rfl f_t_work ?_
                refine r_iload_n (x := x2) d_X11_exchange_64 rfl ?_
                refine r_callS (Y2 := mX11_rowOfDigits) (d := d - 1) (mc := 0) (ms := 0) (As := [(0, x2)]) (S := [(2, t_work), (2, t_straightener), (0, x1), (2, t)]) d_X11_exchange_65 ok_mX11_rowOfDigits ml_X11_187 rfl (rmc h0d (by decide)) rm00 (Nat.le_of_ble_eq_true rfl) rfl (MC.mono h (fun r N1 Λ1 σ4 hq => ?_))
                obtain ⟨v5, rfl, rfl, rfl, h⟩ := hq
                refine r_iload_n (x := x3) d_X11_exchange_68 rfl ?_
                refine r_callS (Y2 := mX11_rowOfDigits) (d := d - 1) (mc := 0) (ms := 0) (As := [(0, x3)]) (S := [(0, v5), (2, t_work), (2, t_straightener), (0, x1), (2, t)]) d_X11_exchange_69 ok_mX11_rowOfDigits ml_X11_187 rfl (rmc h0d (by decide)) rm00 (Nat.le_of_ble_eq_true rfl) rfl (MC.mono h (fun r N1 Λ1 σ6 hq => ?_))
                obtain ⟨v7, rfl, rfl, rfl, h⟩ := hq
                refine r_iload (x := x4) d_X11_exchange_72 rfl ?_
                refine r_lconst d_X11_exchange_74 ?_
                skip
                refine r_lconst d_X11_exchange_75 ?_
                skip
                refine r_callV (Y2 := mX8_layExchange) (d := d - 1) (mc := 0) (ms := 0) (c := t_straightener) (As := [(2, t_work), (0, v5), (0, v7), (0, x4), (1, 0), (1, 1)]) (S := [(0, x1), (2, t)]) d_X11_exchange_76 ok_mX8_layExchange ml_X11_190 rfl (rmc h0d (by decide)) rm00 (Nat.le_of_ble_eq_true rfl) rfl kX8 o_t_straightener.1 o_t_straightener.2.1 o_t_straightener.2.2.1 o_t_straightener.2.2.2 (MC.mono h (fun r N1 Λ1 σ8 hq => ?_))
                obtain ⟨v9, rfl, rfl, rfl, h⟩ := hq
                refine r_callV (Y2 := mX11_keep) (d := d - 1) (mc := 0) (ms := 0) (c := t) (As := [(0, x1), (0, v9)]) (S := []) d_X11_exchange_79 ok_mX11_keep ml_X11_154 rfl (rmc h0d (by decide)) rm00 (Nat.le_of_ble_eq_true rfl) rfl kX11 o_t.1 o_t.2.1 o_t.2.2.1 o_t.2.2.2 (MC.mono h (fun r N1 Λ1 σ10 hq => ?_))
                obtain ⟨v11, rfl, rfl, rfl, h⟩ := hq
                exact r_iret d_X11_exchange_82 rfl rfl (Nat.le_refl 0) (Nat.le_refl 0) ⟨_, rfl, rfl, rfl, h⟩
              · have h := h.2 hc
                refine r_bipush (x := (-3)) d_X11_exchange_44 ⟨by decide, by decide⟩ (by decide) ?_
                exact r_iret d_X11_exchange_46 rfl rfl (Nat.le_refl 0) (Nat.le_refl 0) ⟨_, rfl, rfl, rfl, h⟩
  · have h := h.2 hc
    refine r_bipush (x := (-2)) d_X11_exchange_7 ⟨by decide, by decide⟩ (by decide) ?_
    exact r_iret d_X11_exchange_9 rfl rfl (Nat.le_refl 0) (Nat.le_refl 0) ⟨_, rfl, rfl, rfl, h⟩
theorem v_X11_add_0 {l : Launch} {d N : Nat} {Λ : Lay} {P : Int → Mem → Prop} {σ : Mem} {x1 x2 x3 x4 x5 t t_now t_now_shelves t_work : Int} (o_t : Ob N Λ t 20 14) (f_t_work : (Λ t).2.2 11 = t_work) (o_t_work : Ob N Λ t_work 15 3) (f_t_now : (Λ t).2.2 0 = t_now) (o_t_now : Ob N Λ t_now 16 3) (f_t_now_shelves : (Λ t_now).2.2 0 = t_now_shelves) (h0d : 1 ≤ d)
    (h : (∀ τ1, τ1 = st σ t 13 0 → (CI l mX11_isShelf (d - 1) [(0, x1)] N Λ τ1 (fun v3 σ2 => ((v3 = 0 → P (-2) σ2) ∧ (¬ (v3 = 0) → (CI l mX11_isShelf (d - 1) [(0, x2)] N Λ σ2 (fun v5 σ4 => ((v5 = 0 → P (-2) σ4) ∧ (¬ (v5 = 0) → (CI l mX11_isShelf (d - 1) [(0, x4)] N Λ σ4 (fun v7 σ6 => ((¬ v7 = 0 → (CI l mX11_isNear (d - 1) [(0, x3)] N Λ σ6 (fun v9 σ8 => ((v9 = 0 → P (-3) σ8) ∧ (¬ (v9 = 0) → (CI l mX11_isNear (d - 1) [(0, x5)] N Λ σ8 (fun v11 σ10 => ((¬ v11 = 0 → (CV l mX5_empty (d - 1) [(2, t_work)] N Λ σ10 (fun σ12 => (Ix N Λ t_now_shelves 3 x2 ∧ ∀ b13, b13 = (Λ t_now_shelves).2.2 x2 → Ob N Λ b13 15 3 ∧ (CI l mX5_laySum (d - 1) [(2, t_work), (2, b13), (0, x3)] N Λ σ12 (fun v15 σ14 => ((¬ v15 = 0 → (CI l mX11_keep (d - 1) [(2, t), (0, x1), (0, v15)] N Λ σ14 (fun v17 σ16 => P v17 σ16))) ∧ (v15 = 0 → (Ix N Λ t_now_shelves 3 x4 ∧ ∀ b18, b18 = (Λ t_now_shelves).2.2 x4 → Ob N Λ b18 15 3 ∧ (CI l mX5_laySum (d - 1) [(2, t_work), (2, b18), (0, x5)] N Λ σ14 (fun v20 σ19 => (CI l mX11_keep (d - 1) [(2, t), (0, x1), (0, v20)] N Λ σ19 (fun v22 σ21 => P v22 σ21))))))))))))) ∧ (v11 = 0 → P (-3) σ10))))))))) ∧ (v7 = 0 → P (-2) σ6)))))))))))))) :
    WI l mX11_add d P 0 [(2, t), (0, x1), (0, x2), (0, x3), (0, x4), (0, x5), (3, 0)] [] N Λ σ := by
  refine r_aload_n (x := t) d_X11_add_0 rfl o_t.1 ?_
  refine r_iconst (x := 0) d_X11_add_1 ⟨by decide, by decide⟩ ?_
  refine r_putI (j := 13) d_X11_add_2 kX11 (by decide) fl_X11_90 rfl o_t.1 o_t.2.1 o_t.2.2.1 o_t.2.2.2 rfl ?_
  refine r_nmM (fun τ1 eτ1 => ?_)
  have h := h τ1 eτ1
  refine r_iload_n (x := x1) d_X11_add_5 rfl ?_
  refine r_callS (Y2 := mX11_isShelf) (d := d - 1) (mc := 0) (ms := 0) (As := [(0, x1)]) (S := []) d_X11_add_6 ok_mX11_isShelf ml_X11_143 rfl (rmc h0d (by decide)) rm00 (Nat.le_of_ble_eq_true rfl) rfl (MC.mono h (fun r N1 Λ1 σ2 hq => ?_))
  obtain ⟨v3, rfl, rfl, rfl, h⟩ := hq
  refine r_if_eq (tgt := 27) d_X11_add_9 rfl (fun hc => ?_) (fun hc => ?_)
  · have h := h.1 hc
    refine r_bipush (x := (-2)) d_X11_add_27 ⟨by decide, by decide⟩ (by decide) ?_
    exact r_iret d_X11_add_29 rfl rfl (Nat.le_refl 0) (Nat.le_refl 0) ⟨_, rfl, rfl, rfl, h⟩
  · have h := h.2 hc
    refine r_iload_n (x := x2) d_X11_add_12 rfl ?_
    refine r_callS (Y2 := mX11_isShelf) (d := d - 1) (mc := 0) (ms := 0) (As := [(0, x2)]) (S := []) d_X11_add_13 ok_mX11_isShelf ml_X11_143 rfl (rmc h0d (by decide)) rm00 (Nat.le_of_ble_eq_true rfl) rfl (MC.mono h (fun r N1 Λ1 σ4 hq => ?_))
    obtain ⟨v5, rfl, rfl, rfl, h⟩ := hq
    refine r_if_eq (tgt := 27) d_X11_add_16 rfl (fun hc => ?_) (fun hc => ?_)
    · have h := h.1 hc
      refine r_bipush (x := (-2)) d_X11_add_27 ⟨by decide, by decide⟩ (by decide) ?_
      exact r_iret d_X11_add_29 rfl rfl (Nat.le_refl 0) (Nat.le_refl 0) ⟨_, rfl, rfl, rfl, h⟩
    · have h := h.2 hc
      refine r_iload (x := x4) d_X11_add_19 rfl ?_
      refine r_callS (Y2 := mX11_isShelf) (d := d - 1) (mc := 0) (ms := 0) (As := [(0, x4)]) (S := []) d_X11_add_21 ok_mX11_isShelf ml_X11_143 rfl (rmc h0d (by decide)) rm00 (Nat.le_of_ble_eq_true rfl) rfl (MC.mono h (fun r N1 Λ1 σ6 hq => ?_))
      obtain ⟨v7, rfl, rfl, rfl, h⟩ := hq
      refine r_if_ne (tgt := 30) d_X11_add_24 rfl (fun hc => ?_) (fun hc => ?_)
      · have h := h.1 hc
        refine r_iload_n (x := x3) d_X11_add_30 rfl ?_
        refine r_callS (Y2 := mX11_isNear) (d := d - 1) (mc := 0) (ms := 0) (As := [(0, x3)]) (S := []) d_X11_add_31 ok_mX11_isNear ml_X11_194 rfl (rmc h0d (by decide)) rm00 (Nat.le_of_ble_eq_true rfl) rfl (MC.mono h (fun r N1 Λ1 σ8 hq => ?_))
        obtain ⟨v9, rfl, rfl, rfl, h⟩ := hq
        refine r_if_eq (tgt := 45) d_X11_add_34 rfl (fun hc => ?_) (fun hc => ?_)
        · have h := h.1 hc
          refine r_bipush (x := (-3)) d_X11_add_45 ⟨by decide, by decide⟩ (by decide) ?_
          exact r_iret d_X11_add_47 rfl rfl (Nat.le_refl 0) (Nat.le_refl 0) ⟨_, rfl, rfl, rfl, h⟩
        · have h := h.2 hc
          refine r_iload (x := x5) d_X11_add_37 rfl ?_
          refine r_callS (Y2 := mX11_isNear) (d := d - 1) (mc := 0) (ms := 0) (As := [(0, x5)]) (S := []) d_X11_add_39 ok_mX11_isNear ml_X11_194 rfl (rmc h0d (by decide)) rm00 (Nat.le_of_ble_eq_true rfl) rfl (MC.mono h (fun r N1 Λ1 σ10 hq => ?_))
          obtain ⟨v11, rfl, rfl, rfl, h⟩ := hq
          refine r_if_ne (tgt := 48) d_X11_add_42 rfl (fun hc => ?_) (fun hc => ?_)
          · have h := h.1 hc
            refine r_aload_n (x := t) d_X11_add_48 rfl o_t.1 ?_
            refine r_getf (j := 11) (t := 2) (x := t_work) d_X11_add_49 kX11 (by decide) fl_X11_83 o_t.1 o_t.2.1 o_t.2.2.1 o_t.2.2.2 rfl f_t_work ?_
            refine r_callV (Y2 := mX5_empty) (d := d - 1) (mc := 0) (ms := 0) (c := t_work) (As := []) (S := []) d_X11_add_52 ok_mX5_empty ml_X11_151 rfl (rmc h0d (by decide)) rm00 (Nat.le_of_ble_eq_true rfl) rfl kX5 o_t_work.1 o_t_work.2.1 o_t_work.2.2.1 o_t_work.2.2.2 (MC.mono h (fun r N1 Λ1 σ12 hq => ?_))
            obtain ⟨rfl, rfl, rfl, h⟩ := hq
            refine r_aload_n (x := t) d_X11_add_55 rfl o_t.1 ?_
            refine r_getf (j := 11) (t := 2) (x := t_work) d_X11_add_56 kX11 (by decide) fl_X11_83 o_t.1 o_t.2.1 o_t.2.2.1 o_t.2.2.2 rfl f_t_work ?_
            refine r_aload_n (x := t) d_X11_add_59 rfl o_t.1 ?_
            refine r_getf (j := 0) (t := 2) (x := t_now) d_X11_add_60 kX11 (by decide) fl_X11_10 o_t.1 o_t.2.1 o_t.2.2.1 o_t.2.2.2 rfl f_t_now ?_
            refine r_getf (j := 0) (t := 2) (x := t_now_shelves) d_X11_add_63 kX7 (by decide) fl_X11_146 o_t_now.1 o_t_now.2.1 o_t_now.2.2.1 o_t_now.2.2.2 rfl f_t_now_shelves ?_
            refine r_iload_n (x := x2) d_X11_add_66 rfl ?_
            refine x_aald (t := 3) (by decide) d_X11_add_67 h.1 (fun b13 eb13 => ?_)
            have h := h.2 b13 eb13
            have oob13 := h.1
            have h := h.2
            refine r_iload_n (x := x3) d_X11_add_68 rfl ?_
            refine r_callV (Y2 := mX5_laySum) (d := d - 1) (mc := 0) (ms := 0) (c := t_work) (As := [(2, b13), (0, x3)]) (S := []) d_X11_add_69 ok_mX5_laySum ml_X11_197 rfl (rmc h0d (by decide)) rm00 (Nat.le_of_ble_eq_true rfl) rfl kX5 o_t_work.1 o_t_work.2.1 o_t_work.2.2.1 o_t_work.2.2.2 (MC.mono h (fun r N1 Λ1 σ14 hq => ?_))
            obtain ⟨v15, rfl, rfl, rfl, h⟩ := hq
            refine r_istore (L2 := [(2, t), (0, x1), (0, x2), (0, x3), (0, x4), (0, x5), (0, v15)]) d_X11_add_72 (by decide) rfl rfl ?_
            refine r_iload (x := v15) d_X11_add_74 rfl ?_
            refine r_if_ne (tgt := 100) d_X11_add_76 rfl (fun hc => ?_) (fun hc => ?_)
            · have h := h.1 hc
              refine r_aload_n (x := t) d_X11_add_100 rfl o_t.1 ?_
              refine r_iload_n (x := x1) d_X11_add_101 rfl ?_
              refine r_iload (x := v15) d_X11_add_102 rfl ?_
              refine r_callV (Y2 := mX11_keep) (d := d - 1) (mc := 0) (ms := 0) (c := t) (As := [(0, x1), (0, v15)]) (S := []) d_X11_add_104 ok_mX11_keep ml_X11_154 rfl (rmc h0d (by decide)) rm00 (Nat.le_of_ble_eq_true rfl) rfl kX11 o_t.1 o_t.2.1 o_t.2.2.1 o_t.2.2.2 (MC.mono h (fun r N1 Λ1 σ16 hq => ?_))
              obtain ⟨v17, rfl, rfl, rfl, h⟩ := hq
              exact r_iret d_X11_add_107 rfl rfl (Nat.le_refl 0) (Nat.le_refl 0) ⟨_, rfl, rfl, rfl, h⟩
            · have h := h.2 hc
              refine r_aload_n (x := t) d_X11_add_79 rfl o_t.1 ?_
              refine r_getf (j := 11) (t := 2) (x := t_work) d_X11_add_80 kX11 (by decide) fl_X11_83 o_t.1 o_t.2.1 o_t.2.2.1 o_t.2.2.2 rfl f_t_work ?_
              refine r_aload_n (x := t) d_X11_add_83 rfl o_t.1 ?_
              refine r_getf (j := 0) (t := 2) (x := t_now) d_X11_add_84 kX11 (by decide) fl_X11_10 o_t.1 o_t.2.1 o_t.2.2.1 o_t.2.2.2 rfl f_t_now ?_
              refine r_getf (j := 0) (t := 2) (x := t_now_shelves) d_X11_add_87 kX7 (by decide) fl_X11_146 o_t_now.1 o_t_now.2.1 o_t_now.2.2.1 o_t_now.2.2.2 rfl f_t_now_shelves ?_
              refine r_iload (x := x4) d_X11_add_90 rfl ?_
              refine x_aald (t := 3) (by decide) d_X11_add_92 h.1 (fun b18 eb18 => ?_)
              have h := h.2 b18 eb18
              have oob18 := h.1
              have h := h.2
              refine r_iload (x := x5) d_X11_add_93 rfl ?_
              refine r_callV (Y2 := mX5_laySum) (d := d - 1) (mc := 0) (ms := 0) (c := t_work) (As := [(2, b18), (0, x5)]) (S := []) d_X11_add_95 ok_mX5_laySum ml_X11_197 rfl (rmc h0d (by decide)) rm00 (Nat.le_of_ble_eq_true rfl) rfl kX5 o_t_work.1 o_t_work.2.1 o_t_work.2.2.1 o_t_work.2.2.2 (MC.mono h (fun r N1 Λ1 σ19 hq => ?_))
              obtain ⟨v20, rfl, rfl, rfl, h⟩ := hq
              refine r_istore (L2 := [(2, t), (0, x1), (0, x2), (0, x3), (0, x4), (0, x5), (0, v20)]) d_X11_add_98 (by decide) rfl rfl ?_
              refine r_aload_n (x := t) d_X11_add_100 rfl o_t.1 ?_
              refine r_iload_n (x := x1) d_X11_add_101 rfl ?_
              refine r_iload (x := v20) d_X11_add_102 rfl ?_
              refine r_callV (Y2 := mX11_keep) (d := d - 1) (mc := 0) (ms := 0) (c := t) (As := [(0, x1), (0, v20)]) (S := []) d_X11_add_104 ok_mX11_keep ml_X11_154 rfl (rmc h0d (by decide)) rm00 (Nat.le_of_ble_eq_true rfl) rfl kX11 o_t.1 o_t.2.1 o_t.2.2.1 o_t.2.2.2 (MC.mono h (fun r N1 Λ1 σ21 hq => ?_))
              obtain ⟨v22, rfl, rfl, rfl, h⟩ := hq
              exact r_iret d_X11_add_107 rfl rfl (Nat.le_refl 0) (Nat.le_refl 0) ⟨_, rfl, rfl, rfl, h⟩
          · have h := h.2 hc
            refine r_bipush (x := (-3)) d_X11_add_45 ⟨by decide, by decide⟩ (by decide) ?_
            exact r_iret d_X11_add_47 rfl rfl (Nat.le_refl 0) (Nat.le_refl 0) ⟨_, rfl, rfl, rfl, h⟩
      · have h := h.2 hc
        refine r_bipush (x := (-2)) d_X11_add_27 ⟨by decide, by decide⟩ (by decide) ?_
        exact r_iret d_X11_add_29 rfl rfl (Nat.le_refl 0) (Nat.le_refl 0) ⟨_, rfl, rfl, rfl, h⟩
theorem v_X11_times_0 {l : Launch} {d N : Nat} {Λ : Lay} {P : Int → Mem → Prop} {σ : Mem} {x1 x2 x3 t t_now t_now_shelves t_work : Int} (o_t : Ob N Λ t 20 14) (f_t_work : (Λ t).2.2 11 = t_work) (o_t_work : Ob N Λ t_work 15 3) (f_t_now : (Λ t).2.2 0 = t_now) (o_t_now : Ob N Λ t_now 16 3) (f_t_now_shelves : (Λ t_now).2.2 0 = t_now_shelves) (h0d : 1 ≤ d)
    (h : (∀ τ1, τ1 = st σ t 13 0 → (CI l mX11_isShelf (d - 1) [(0, x1)] N Λ τ1 (fun v3 σ2 => ((v3 = 0 → P (-2) σ2) ∧ (¬ (v3 = 0) → (CI l mX11_isShelf (d - 1) [(0, x2)] N Λ σ2 (fun v5 σ4 => ((v5 = 0 → P (-2) σ4) ∧ (¬ (v5 = 0) → (CI l mX11_isShelf (d - 1) [(0, x3)] N Λ σ4 (fun v7 σ6 => ((¬ v7 = 0 → (CV l mX5_empty (d - 1) [(2, t_work)] N Λ σ6 (fun σ8 => (Ix N Λ t_now_shelves 3 x2 ∧ ∀ b9, b9 = (Λ t_now_shelves).2.2 x2 → Ob N Λ b9 15 3 ∧ (Ix N Λ t_now_shelves 3 x3 ∧ ∀ b10, b10 = (Λ t_now_shelves).2.2 x3 → Ob N Λ b10 15 3 ∧ (CI l mX5_layProduct (d - 1) [(2, t_work), (2, b9), (2, b10)] N Λ σ8 (fun v12 σ11 => (CI l mX11_keep (d - 1) [(2, t), (0, x1), (0, v12)] N Λ σ11 (fun v14 σ13 => P v14 σ13))))))))) ∧ (v7 = 0 → P (-2) σ6)))))))))))))) :
    WI l mX11_times d P 0 [(2, t), (0, x1), (0, x2), (0, x3)] [] N Λ σ := by
  refine r_aload_n (x := t) d_X11_times_0 rfl o_t.1 ?_
  refine r_iconst (x := 0) d_X11_times_1 ⟨by decide, by decide⟩ ?_
  refine r_putI (j := 13) d_X11_times_2 kX11 (by decide) fl_X11_90 rfl o_t.1 o_t.2.1 o_t.2.2.1 o_t.2.2.2 rfl ?_
  refine r_nmM (fun τ1 eτ1 => ?_)
  have h := h τ1 eτ1
  refine r_iload_n (x := x1) d_X11_times_5 rfl ?_
  refine r_callS (Y2 := mX11_isShelf) (d := d - 1) (mc := 0) (ms := 0) (As := [(0, x1)]) (S := []) d_X11_times_6 ok_mX11_isShelf ml_X11_143 rfl (rmc h0d (by decide)) rm00 (Nat.le_of_ble_eq_true rfl) rfl (MC.mono h (fun r N1 Λ1 σ2 hq => ?_))
  obtain ⟨v3, rfl, rfl, rfl, h⟩ := hq
  refine r_if_eq (tgt := 26) d_X11_times_9 rfl (fun hc => ?_) (fun hc => ?_)
  · have h := h.1 hc
    refine r_bipush (x := (-2)) d_X11_times_26 ⟨by decide, by decide⟩ (by decide) ?_
    exact r_iret d_X11_times_28 rfl rfl (Nat.le_refl 0) (Nat.le_refl 0) ⟨_, rfl, rfl, rfl, h⟩
  · have h := h.2 hc
    refine r_iload_n (x := x2) d_X11_times_12 rfl ?_
    refine r_callS (Y2 := mX11_isShelf) (d := d - 1) (mc := 0) (ms := 0) (As := [(0, x2)]) (S := []) d_X11_times_13 ok_mX11_isShelf ml_X11_143 rfl (rmc h0d (by decide)) rm00 (Nat.le_of_ble_eq_true rfl) rfl (MC.mono h (fun r N1 Λ1 σ4 hq => ?_))
    obtain ⟨v5, rfl, rfl, rfl, h⟩ := hq
    refine r_if_eq (tgt := 26) d_X11_times_16 rfl (fun hc => ?_) (fun hc => ?_)
    · have h := h.1 hc
      refine r_bipush (x := (-2)) d_X11_times_26 ⟨by decide, by decide⟩ (by decide) ?_
      exact r_iret d_X11_times_28 rfl rfl (Nat.le_refl 0) (Nat.le_refl 0) ⟨_, rfl, rfl, rfl, h⟩
    · have h := h.2 hc
      refine r_iload_n (x := x3) d_X11_times_19 rfl ?_
      refine r_callS (Y2 := mX11_isShelf) (d := d - 1) (mc := 0) (ms := 0) (As := [(0, x3)]) (S := []) d_X11_times_20 ok_mX11_isShelf ml_X11_143 rfl (rmc h0d (by decide)) rm00 (Nat.le_of_ble_eq_true rfl) rfl (MC.mono h (fun r N1 Λ1 σ6 hq => ?_))
      obtain ⟨v7, rfl, rfl, rfl, h⟩ := hq
      refine r_if_ne (tgt := 29) d_X11_times_23 rfl (fun hc => ?_) (fun hc => ?_)
      · have h := h.1 hc
        refine r_aload_n (x := t) d_X11_times_29 rfl o_t.1 ?_
        refine r_getf (j := 11) (t := 2) (x := t_work) d_X11_times_30 kX11 (by decide) fl_X11_83 o_t.1 o_t.2.1 o_t.2.2.1 o_t.2.2.2 rfl f_t_work ?_
        refine r_callV (Y2 := mX5_empty) (d := d - 1) (mc := 0) (ms := 0) (c := t_work) (As := []) (S := []) d_X11_times_33 ok_mX5_empty ml_X11_151 rfl (rmc h0d (by decide)) rm00 (Nat.le_of_ble_eq_true rfl) rfl kX5 o_t_work.1 o_t_work.2.1 o_t_work.2.2.1 o_t_work.2.2.2 (MC.mono h (fun r N1 Λ1 σ8 hq => ?_))
        obtain ⟨rfl, rfl, rfl, h⟩ := hq
        refine r_aload_n (x := t) d_X11_times_36 rfl o_t.1 ?_
        refine r_iload_n (x := x1) d_X11_times_37 rfl ?_
        refine r_aload_n (x := t) d_X11_times_38 rfl o_t.1 ?_
        refine r_getf (j := 11) (t := 2) (x := t_work) d_X11_times_39 kX11 (by decide) fl_X11_83 o_t.1 o_t.2.1 o_t.2.2.1 o_t.2.2.2 rfl f_t_work ?_
        refine r_aload_n (x := t) d_X11_times_42 rfl o_t.1 ?_
        refine r_getf (j := 0) (t := 2) (x := t_now) d_X11_times_43 kX11 (by decide) fl_X11_10 o_t.1 o_t.2.1 o_t.2.2.1 o_t.2.2.2 rfl f_t_now ?_
        refine r_getf (j := 0) (t := 2) (x := t_now_shelves) d_X11_times_46 kX7 (by decide) fl_X11_146 o_t_now.1 o_t_now.2.1 o_t_now.2.2.1 o_t_now.2.2.2 rfl f_t_now_shelves ?_
        refine r_iload_n (x := x2) d_X11_times_49 rfl ?_
        refine x_aald (t := 3) (by decide) d_X11_times_50 h.1 (fun b9 eb9 => ?_)
        have h := h.2 b9 eb9
        have oob9 := h.1
        have h := h.2
        refine r_aload_n (x := t) d_X11_times_51 rfl o_t.1 ?_
        refine r_getf (j := 0) (t := 2) (x := t_now) d_X11_times_52 kX11 (by decide) fl_X11_10 o_t.1 o_t.2.1 o_t.2.2.1 o_t.2.2.2 rfl f_t_now ?_
        refine r_getf (j := 0) (t := 2) (x := t_now_shelves) d_X11_times_55 kX7 (by decide) fl_X11_146 o_t_now.1 o_t_now.2.1 o_t_now.2.2.1 o_t_now.2.2.2 rfl f_t_now_shelves ?_
        refine r_iload_n (x := x3) d_X11_times_58 rfl ?_
        refine x_aald (t := 3) (by decide) d_X11_times_59 h.1 (fun b10 eb10 => ?_)
        have h := h.2 b10 eb10
        have oob10 := h.1
        have h := h.2
        refine r_callV (Y2 := mX5_layProduct) (d := d - 1) (mc := 0) (ms := 0) (c := t_work) (As := [(2, b9), (2, b10)]) (S := [(0, x1), (2, t)]) d_X11_times_60 ok_mX5_layProduct ml_X11_201 rfl (rmc h0d (by decide)) rm00 (Nat.le_of_ble_eq_true rfl) rfl kX5 o_t_work.1 o_t_work.2.1 o_t_work.2.2.1 o_t_work.2.2.2 (MC.mono h (fun r N1 Λ1 σ11 hq => ?_))
        obtain ⟨v12, rfl, rfl, rfl, h⟩ := hq
        refine r_callV (Y2 := mX11_keep) (d := d - 1) (mc := 0) (ms := 0) (c := t) (As := [(0, x1), (0, v12)]) (S := []) d_X11_times_63 ok_mX11_keep ml_X11_154 rfl (rmc h0d (by decide)) rm00 (Nat.le_of_ble_eq_true rfl) rfl kX11 o_t.1 o_t.2.1 o_t.2.2.1 o_t.2.2.2 (MC.mono h (fun r N1 Λ1 σ13 hq => ?_))
        obtain ⟨v14, rfl, rfl, rfl, h⟩ := hq
        exact r_iret d_X11_times_66 rfl rfl (Nat.le_refl 0) (Nat.le_refl 0) ⟨_, rfl, rfl, rfl, h⟩
      · have h := h.2 hc
        refine r_bipush (x := (-2)) d_X11_times_26 ⟨by decide, by decide⟩ (by decide) ?_
        exact r_iret d_X11_times_28 rfl rfl (Nat.le_refl 0) (Nat.le_refl 0) ⟨_, rfl, rfl, rfl, h⟩
theorem v_X11_put_0 {l : Launch} {d N : Nat} {Λ : Lay} {P : Int → Mem → Prop} {σ : Mem} {x1 x2 x3 x4 t t_now t_now_shelves : Int} (o_t : Ob N Λ t 20 14) (f_t_now : (Λ t).2.2 0 = t_now) (o_t_now : Ob N Λ t_now 16 3) (f_t_now_shelves : (Λ t_now).2.2 0 = t_now_shelves) (h0d : 1 ≤ d)
    (h : (∀ τ1, τ1 = st σ t 13 0 → (CI l mX11_isShelf (d - 1) [(0, x1)] N Λ τ1 (fun v3 σ2 => ((v3 = 0 → P (-2) σ2) ∧ (¬ (v3 = 0) → (CI l mX11_isShelf (d - 1) [(0, x2)] N Λ σ2 (fun v5 σ4 => ((v5 = 0 → P (-2) σ4) ∧ (¬ (v5 = 0) → (CI l mX11_isLetter (d - 1) [(0, x3)] N Λ σ4 (fun v7 σ6 => ((v7 = 0 → P (-2) σ6) ∧ (¬ (v7 = 0) → (CI l mX11_isLetter (d - 1) [(0, x4)] N Λ σ6 (fun v9 σ8 => ((¬ v9 = 0 → (Ix N Λ t_now_shelves 3 x2 ∧ ∀ b10, b10 = (Λ t_now_shelves).2.2 x2 → Ob N Λ b10 15 3 ∧ (CI l mX11_rename (d - 1) [(2, t), (2, b10), (0, x3), (0, x4), (0, 0)] N Λ σ8 (fun v12 σ11 => (CI l mX11_keep (d - 1) [(2, t), (0, x1), (0, v12)] N Λ σ11 (fun v14 σ13 => P v14 σ13)))))) ∧ (v9 = 0 → P (-2) σ8)))))))))))))))))) :
    WI l mX11_put d P 0 [(2, t), (0, x1), (0, x2), (0, x3), (0, x4)] [] N Λ σ := by
  refine r_aload_n (x := t) d_X11_put_0 rfl o_t.1 ?_
  refine r_iconst (x := 0) d_X11_put_1 ⟨by decide, by decide⟩ ?_
  refine r_putI (j := 13) d_X11_put_2 kX11 (by decide) fl_X11_90 rfl o_t.1 o_t.2.1 o_t.2.2.1 o_t.2.2.2 rfl ?_
  refine r_nmM (fun τ1 eτ1 => ?_)
  have h := h τ1 eτ1
  refine r_iload_n (x := x1) d_X11_put_5 rfl ?_
  refine r_callS (Y2 := mX11_isShelf) (d := d - 1) (mc := 0) (ms := 0) (As := [(0, x1)]) (S := []) d_X11_put_6 ok_mX11_isShelf ml_X11_143 rfl (rmc h0d (by decide)) rm00 (Nat.le_of_ble_eq_true rfl) rfl (MC.mono h (fun r N1 Λ1 σ2 hq => ?_))
  obtain ⟨v3, rfl, rfl, rfl, h⟩ := hq
  refine r_if_eq (tgt := 34) d_X11_put_9 rfl (fun hc => ?_) (fun hc => ?_)
  · have h := h.1 hc
    refine r_bipush (x := (-2)) d_X11_put_34 ⟨by decide, by decide⟩ (by decide) ?_
    exact r_iret d_X11_put_36 rfl rfl (Nat.le_refl 0) (Nat.le_refl 0) ⟨_, rfl, rfl, rfl, h⟩
  · have h := h.2 hc
    refine r_iload_n (x := x2) d_X11_put_12 rfl ?_
    refine r_callS (Y2 := mX11_isShelf) (d := d - 1) (mc := 0) (ms := 0) (As := [(0, x2)]) (S := []) d_X11_put_13 ok_mX11_isShelf ml_X11_143 rfl (rmc h0d (by decide)) rm00 (Nat.le_of_ble_eq_true rfl) rfl (MC.mono h (fun r N1 Λ1 σ4 hq => ?_))
    obtain ⟨v5, rfl, rfl, rfl, h⟩ := hq
    refine r_if_eq (tgt := 34) d_X11_put_16 rfl (fun hc => ?_) (fun hc => ?_)
    · have h := h.1 hc
      refine r_bipush (x := (-2)) d_X11_put_34 ⟨by decide, by decide⟩ (by decide) ?_
      exact r_iret d_X11_put_36 rfl rfl (Nat.le_refl 0) (Nat.le_refl 0) ⟨_, rfl, rfl, rfl, h⟩
    · have h := h.2 hc
      refine r_iload_n (x := x3) d_X11_put_19 rfl ?_
      refine r_callS (Y2 := mX11_isLetter) (d := d - 1) (mc := 0) (ms := 0) (As := [(0, x3)]) (S := []) d_X11_put_20 ok_mX11_isLetter ml_X11_205 rfl (rmc h0d (by decide)) rm00 (Nat.le_of_ble_eq_true rfl) rfl (MC.mono h (fun r N1 Λ1 σ6 hq => ?_))
      obtain ⟨v7, rfl, rfl, rfl, h⟩ := hq
      refine r_if_eq (tgt := 34) d_X11_put_23 rfl (fun hc => ?_) (fun hc => ?_)
      · have h := h.1 hc
        refine r_bipush (x := (-2)) d_X11_put_34 ⟨by decide, by decide⟩ (by decide) ?_
        exact r_iret d_X11_put_36 rfl rfl (Nat.le_refl 0) (Nat.le_refl 0) ⟨_, rfl, rfl, rfl, h⟩
      · have h := h.2 hc
        refine r_iload (x := x4) d_X11_put_26 rfl ?_
        refine r_callS (Y2 := mX11_isLetter) (d := d - 1) (mc := 0) (ms := 0) (As := [(0, x4)]) (S := []) d_X11_put_28 ok_mX11_isLetter ml_X11_205 rfl (rmc h0d (by decide)) rm00 (Nat.le_of_ble_eq_true rfl) rfl (MC.mono h (fun r N1 Λ1 σ8 hq => ?_))
        obtain ⟨v9, rfl, rfl, rfl, h⟩ := hq
        refine r_if_ne (tgt := 37) d_X11_put_31 rfl (fun hc => ?_) (fun hc => ?_)
        · have h := h.1 hc
          refine r_aload_n (x := t) d_X11_put_37 rfl o_t.1 ?_
          refine r_iload_n (x := x1) d_X11_put_38 rfl ?_
          refine r_aload_n (x := t) d_X11_put_39 rfl o_t.1 ?_
          refine r_aload_n (x := t) d_X11_put_40 rfl o_t.1 ?_
          refine r_getf (j := 0) (t := 2) (x := t_now) d_X11_put_41 kX11 (by decide) fl_X11_10 o_t.1 o_t.2.1 o_t.2.2.1 o_t.2.2.2 rfl f_t_now ?_
          refine r_getf (j := 0) (t := 2) (x := t_now_shelves) d_X11_put_44 kX7 (by decide) fl_X11_146 o_t_now.1 o_t_now.2.1 o_t_now.2.2.1 o_t_now.2.2.2 rfl f_t_now_shelves ?_
          refine r_iload_n (x := x2) d_X11_put_47 rfl ?_
          refine x_aald (t := 3) (by decide) d_X11_put_48 h.1 (fun b10 eb10 => ?_)
          have h := h.2 b10 eb10
          have oob10 := h.1
          have h := h.2
          refine r_iload_n (x := x3) d_X11_put_49 rfl ?_
          refine r_iload (x := x4) d_X11_put_50 rfl ?_
          refine r_iconst (x := 0) d_X11_put_52 ⟨by decide, by decide⟩ ?_
          refine r_callV (Y2 := mX11_rename) (d := d - 1) (mc := 0) (ms := 0) (c := t) (As := [(2, b10), (0, x3), (0, x4), (0, 0)]) (S := [(0, x1), (2, t)]) d_X11_put_53 ok_mX11_rename ml_X11_208 rfl (rmc h0d (by decide)) rm00 (Nat.le_of_ble_eq_true rfl) rfl kX11 o_t.1 o_t.2.1 o_t.2.2.1 o_t.2.2.2 (MC.mono h (fun r N1 Λ1 σ11 hq => ?_))
          obtain ⟨v12, rfl, rfl, rfl, h⟩ := hq
          refine r_callV (Y2 := mX11_keep) (d := d - 1) (mc := 0) (ms := 0) (c := t) (As := [(0, x1), (0, v12)]) (S := []) d_X11_put_56 ok_mX11_keep ml_X11_154 rfl (rmc h0d (by decide)) rm00 (Nat.le_of_ble_eq_true rfl) rfl kX11 o_t.1 o_t.2.1 o_t.2.2.1 o_t.2.2.2 (MC.mono h (fun r N1 Λ1 σ13 hq => ?_))
          obtain ⟨v14, rfl, rfl, rfl, h⟩ := hq
          exact r_iret d_X11_put_59 rfl rfl (Nat.le_refl 0) (Nat.le_refl 0) ⟨_, rfl, rfl, rfl, h⟩
        · have h := h.2 hc
          refine r_bipush (x := (-2)) d_X11_put_34 ⟨by decide, by decide⟩ (by decide) ?_
          exact r_iret d_X11_put_36 rfl rfl (Nat.le_refl 0) (Nat.le_refl 0) ⟨_, rfl, rfl, rfl, h⟩
theorem v_X11_turn_0 {l : Launch} {d N : Nat} {Λ : Lay} {P : Int → Mem → Prop} {σ : Mem} {x1 x2 x3 x4 t t_now t_now_shelves : Int} (o_t : Ob N Λ t 20 14) (f_t_now : (Λ t).2.2 0 = t_now) (o_t_now : Ob N Λ t_now 16 3) (f_t_now_shelves : (Λ t_now).2.2 0 = t_now_shelves) (h0d : 1 ≤ d)
    (h : (∀ τ1, τ1 = st σ t 13 0 → (CI l mX11_isShelf (d - 1) [(0, x1)] N Λ τ1 (fun v3 σ2 => ((v3 = 0 → P (-2) σ2) ∧ (¬ (v3 = 0) → (CI l mX11_isShelf (d - 1) [(0, x2)] N Λ σ2 (fun v5 σ4 => ((v5 = 0 → P (-2) σ4) ∧ (¬ (v5 = 0) → (CI l mX11_isLetter (d - 1) [(0, x3)] N Λ σ4 (fun v7 σ6 => ((v7 = 0 → P (-2) σ6) ∧ (¬ (v7 = 0) → (CI l mX11_isLetter (d - 1) [(0, x4)] N Λ σ6 (fun v9 σ8 => ((¬ v9 = 0 → (Ix N Λ t_now_shelves 3 x2 ∧ ∀ b10, b10 = (Λ t_now_shelves).2.2 x2 → Ob N Λ b10 15 3 ∧ (CI l mX11_rename (d - 1) [(2, t), (2, b10), (0, x3), (0, x4), (0, 1)] N Λ σ8 (fun v12 σ11 => (CI l mX11_keep (d - 1) [(2, t), (0, x1), (0, v12)] N Λ σ11 (fun v14 σ13 => P v14 σ13)))))) ∧ (v9 = 0 → P (-2) σ8)))))))))))))))))) :
    WI l mX11_turn d P 0 [(2, t), (0, x1), (0, x2), (0, x3), (0, x4)] [] N Λ σ := by
  refine r_aload_n (x := t) d_X11_turn_0 rfl o_t.1 ?_
  refine r_iconst (x := 0) d_X11_turn_1 ⟨by decide, by decide⟩ ?_
  refine r_putI (j := 13) d_X11_turn_2 kX11 (by decide) fl_X11_90 rfl o_t.1 o_t.2.1 o_t.2.2.1 o_t.2.2.2 rfl ?_
  refine r_nmM (fun τ1 eτ1 => ?_)
  have h := h τ1 eτ1
  refine r_iload_n (x := x1) d_X11_turn_5 rfl ?_
  refine r_callS (Y2 := mX11_isShelf) (d := d - 1) (mc := 0) (ms := 0) (As := [(0, x1)]) (S := []) d_X11_turn_6 ok_mX11_isShelf ml_X11_143 rfl (rmc h0d (by decide)) rm00 (Nat.le_of_ble_eq_true rfl) rfl (MC.mono h (fun r N1 Λ1 σ2 hq => ?_))
  obtain ⟨v3, rfl, rfl, rfl, h⟩ := hq
  refine r_if_eq (tgt := 34) d_X11_turn_9 rfl (fun hc => ?_) (fun hc => ?_)
  · have h := h.1 hc
    refine r_bipush (x := (-2)) d_X11_turn_34 ⟨by decide, by decide⟩ (by decide) ?_
    exact r_iret d_X11_turn_36 rfl rfl (Nat.le_refl 0) (Nat.le_refl 0) ⟨_, rfl, rfl, rfl, h⟩
  · have h := h.2 hc
    refine r_iload_n (x := x2) d_X11_turn_12 rfl ?_
    refine r_callS (Y2 := mX11_isShelf) (d := d - 1) (mc := 0) (ms := 0) (As := [(0, x2)]) (S := []) d_X11_turn_13 ok_mX11_isShelf ml_X11_143 rfl (rmc h0d (by decide)) rm00 (Nat.le_of_ble_eq_true rfl) rfl (MC.mono h (fun r N1 Λ1 σ4 hq => ?_))
    obtain ⟨v5, rfl, rfl, rfl, h⟩ := hq
    refine r_if_eq (tgt := 34) d_X11_turn_16 rfl (fun hc => ?_) (fun hc => ?_)
    · have h := h.1 hc
      refine r_bipush (x := (-2)) d_X11_turn_34 ⟨by decide, by decide⟩ (by decide) ?_
      exact r_iret d_X11_turn_36 rfl rfl (Nat.le_refl 0) (Nat.le_refl 0) ⟨_, rfl, rfl, rfl, h⟩
    · have h := h.2 hc
      refine r_iload_n (x := x3) d_X11_turn_19 rfl ?_
      refine r_callS (Y2 := mX11_isLetter) (d := d - 1) (mc := 0) (ms := 0) (As := [(0, x3)]) (S := []) d_X11_turn_20 ok_mX11_isLetter ml_X11_205 rfl (rmc h0d (by decide)) rm00 (Nat.le_of_ble_eq_true rfl) rfl (MC.mono h (fun r N1 Λ1 σ6 hq => ?_))
      obtain ⟨v7, rfl, rfl, rfl, h⟩ := hq
      refine r_if_eq (tgt := 34) d_X11_turn_23 rfl (fun hc => ?_) (fun hc => ?_)
      · have h := h.1 hc
        refine r_bipush (x := (-2)) d_X11_turn_34 ⟨by decide, by decide⟩ (by decide) ?_
        exact r_iret d_X11_turn_36 rfl rfl (Nat.le_refl 0) (Nat.le_refl 0) ⟨_, rfl, rfl, rfl, h⟩
      · have h := h.2 hc
        refine r_iload (x := x4) d_X11_turn_26 rfl ?_
        refine r_callS (Y2 := mX11_isLetter) (d := d - 1) (mc := 0) (ms := 0) (As := [(0, x4)]) (S := []) d_X11_turn_28 ok_mX11_isLetter ml_X11_205 rfl (rmc h0d (by decide)) rm00 (Nat.le_of_ble_eq_true rfl) rfl (MC.mono h (fun r N1 Λ1 σ8 hq => ?_))
        obtain ⟨v9, rfl, rfl, rfl, h⟩ := hq
        refine r_if_ne (tgt := 37) d_X11_turn_31 rfl (fun hc => ?_) (fun hc => ?_)
        · have h := h.1 hc
          refine r_aload_n (x := t) d_X11_turn_37 rfl o_t.1 ?_
          refine r_iload_n (x := x1) d_X11_turn_38 rfl ?_
          refine r_aload_n (x := t) d_X11_turn_39 rfl o_t.1 ?_
          refine r_aload_n (x := t) d_X11_turn_40 rfl o_t.1 ?_
          refine r_getf (j := 0) (t := 2) (x := t_now) d_X11_turn_41 kX11 (by decide) fl_X11_10 o_t.1 o_t.2.1 o_t.2.2.1 o_t.2.2.2 rfl f_t_now ?_
          refine r_getf (j := 0) (t := 2) (x := t_now_shelves) d_X11_turn_44 kX7 (by decide) fl_X11_146 o_t_now.1 o_t_now.2.1 o_t_now.2.2.1 o_t_now.2.2.2 rfl f_t_now_shelves ?_
          refine r_iload_n (x := x2) d_X11_turn_47 rfl ?_
          refine x_aald (t := 3) (by decide) d_X11_turn_48 h.1 (fun b10 eb10 => ?_)
          have h := h.2 b10 eb10
          have oob10 := h.1
          have h := h.2
          refine r_iload_n (x := x3) d_X11_turn_49 rfl ?_
          refine r_iload (x := x4) d_X11_turn_50 rfl ?_
          refine r_iconst (x := 1) d_X11_turn_52 ⟨by decide, by decide⟩ ?_
          refine r_callV (Y2 := mX11_rename) (d := d - 1) (mc := 0) (ms := 0) (c := t) (As := [(2, b10), (0, x3), (0, x4), (0, 1)]) (S := [(0, x1), (2, t)]) d_X11_turn_53 ok_mX11_rename ml_X11_208 rfl (rmc h0d (by decide)) rm00 (Nat.le_of_ble_eq_true rfl) rfl kX11 o_t.1 o_t.2.1 o_t.2.2.1 o_t.2.2.2 (MC.mono h (fun r N1 Λ1 σ11 hq => ?_))
          obtain ⟨v12, rfl, rfl, rfl, h⟩ := hq
          refine r_callV (Y2 := mX11_keep) (d := d - 1) (mc := 0) (ms := 0) (c := t) (As := [(0, x1), (0, v12)]) (S := []) d_X11_turn_56 ok_mX11_keep ml_X11_154 rfl (rmc h0d (by decide)) rm00 (Nat.le_of_ble_eq_true rfl) rfl kX11 o_t.1 o_t.2.1 o_t.2.2.1 o_t.2.2.2 (MC.mono h (fun r N1 Λ1 σ13 hq => ?_))
          obtain ⟨v14, rfl, rfl, rfl, h⟩ := hq
          exact r_iret d_X11_turn_59 rfl rfl (Nat.le_refl 0) (Nat.le_refl 0) ⟨_, rfl, rfl, rfl, h⟩
        · have h := h.2 hc
          refine r_bipush (x := (-2)) d_X11_turn_34 ⟨by decide, by decide⟩ (by decide) ?_
          exact r_iret d_X11_turn_36 rfl rfl (Nat.le_refl 0) (Nat.le_refl 0) ⟨_, rfl, rfl, rfl, h⟩
theorem v_X11_straight_0 {l : Launch} {d N : Nat} {Λ : Lay} {P : Int → Mem → Prop} {σ : Mem} {x1 x2 t t_now t_now_shelves t_straightener t_work : Int} (o_t : Ob N Λ t 20 14) (f_t_straightener : (Λ t).2.2 5 = t_straightener) (f_t_now : (Λ t).2.2 0 = t_now) (o_t_now : Ob N Λ t_now 16 3) (f_t_now_shelves : (Λ t_now).2.2 0 = t_now_shelves) (f_t_work : (Λ t).2.2 11 = t_work) (o_t_straightener : Ob N Λ t_straightener 17 2) (h0d : 1 ≤ d)
    (h : (∀ τ1, τ1 = st σ t 13 0 → (CI l mX11_isShelf (d - 1) [(0, x1)] N Λ τ1 (fun v3 σ2 => ((v3 = 0 → P (-2) σ2) ∧ (¬ (v3 = 0) → (CI l mX11_isShelf (d - 1) [(0, x2)] N Λ σ2 (fun v5 σ4 => ((¬ v5 = 0 → (Ix N Λ t_now_shelves 3 x2 ∧ ∀ b6, b6 = (Λ t_now_shelves).2.2 x2 → Ob N Λ b6 15 3 ∧ (CI l mX8_straighten (d - 1) [(2, t_straightener), (2, b6), (2, t_work)] N Λ σ4 (fun v8 σ7 => (CI l mX11_keep (d - 1) [(2, t), (0, x1), (0, v8)] N Λ σ7 (fun v10 σ9 => P v10 σ9)))))) ∧ (v5 = 0 → P (-2) σ4)))))))))) :
    WI l mX11_straight d P 0 [(2, t), (0, x1), (0, x2)] [] N Λ σ := by
  refine r_aload_n (x := t) d_X11_straight_0 rfl o_t.1 ?_
  refine r_iconst (x := 0) d_X11_straight_1 ⟨by decide, by decide⟩ ?_
  refine r_putI (j := 13) d_X11_straight_2 kX11 (by decide) fl_X11_90 rfl o_t.1 o_t.2.1 o_t.2.2.1 o_t.2.2.2 rfl ?_
  refine r_nmM (fun τ1 eτ1 => ?_)
  have h := h τ1 eτ1
  refine r_iload_n (x := x1) d_X11_straight_5 rfl ?_
  refine r_callS (Y2 := mX11_isShelf) (d := d - 1) (mc := 0) (ms := 0) (As := [(0, x1)]) (S := []) d_X11_straight_6 ok_mX11_isShelf ml_X11_143 rfl (rmc h0d (by decide)) rm00 (Nat.le_of_ble_eq_true rfl) rfl (MC.mono h (fun r N1 Λ1 σ2 hq => ?_))
  obtain ⟨v3, rfl, rfl, rfl, h⟩ := hq
  refine r_if_eq (tgt := 19) d_X11_straight_9 rfl (fun hc => ?_) (fun hc => ?_)
  · have h := h.1 hc
    refine r_bipush (x := (-2)) d_X11_straight_19 ⟨by decide, by decide⟩ (by decide) ?_
    exact r_iret d_X11_straight_21 rfl rfl (Nat.le_refl 0) (Nat.le_refl 0) ⟨_, rfl, rfl, rfl, h⟩
  · have h := h.2 hc
    refine r_iload_n (x := x2) d_X11_straight_12 rfl ?_
    refine r_callS (Y2 := mX11_isShelf) (d := d - 1) (mc := 0) (ms := 0) (As := [(0, x2)]) (S := []) d_X11_straight_13 ok_mX11_isShelf ml_X11_143 rfl (rmc h0d (by decide)) rm00 (Nat.le_of_ble_eq_true rfl) rfl (MC.mono h (fun r N1 Λ1 σ4 hq => ?_))
    obtain ⟨v5, rfl, rfl, rfl, h⟩ := hq
    refine r_if_ne (tgt := 22) d_X11_straight_16 rfl (fun hc => ?_) (fun hc => ?_)
    · have h := h.1 hc
      refine r_aload_n (x := t) d_X11_straight_22 rfl o_t.1 ?_
      refine r_iload_n (x := x1) d_X11_straight_23 rfl ?_
      refine r_aload_n (x := t) d_X11_straight_24 rfl o_t.1 ?_
      refine r_getf (j := 5) (t := 2) (x := t_straightener) d_X11_straight_25 kX11 (by decide) fl_X11_41 o_t.1 o_t.2.1 o_t.2.2.1 o_t.2.2.2 rfl f_t_straightener ?_
      refine r_aload_n (x := t) d_X11_straight_28 rfl o_t.1 ?_
      refine r_getf (j := 0) (t := 2) (x := t_now) d_X11_straight_29 kX11 (by decide) fl_X11_10 o_t.1 o_t.2.1 o_t.2.2.1 o_t.2.2.2 rfl f_t_now ?_
      refine r_getf (j := 0) (t := 2) (x := t_now_shelves) d_X11_straight_32 kX7 (by decide) fl_X11_146 o_t_now.1 o_t_now.2.1 o_t_now.2.2.1 o_t_now.2.2.2 rfl f_t_now_shelves ?_
      refine r_iload_n (x := x2) d_X11_straight_35 rfl ?_
      refine x_aald (t := 3) (by decide) d_X11_straight_36 h.1 (fun b6 eb6 => ?_)
      have h := h.2 b6 eb6
      have oob6 := h.1
      have h := h.2
      refine r_aload_n (x := t) d_X11_straight_37 rfl o_t.1 ?_
      refine r_getf (j := 11) (t := 2) (x := t_work) d_X11_straight_38 kX11 (by decide) fl_X11_83 o_t.1 o_t.2.1 o_t.2.2.1 o_t.2.2.2 rfl f_t_work ?_
      refine r_callV (Y2 := mX8_straighten) (d := d - 1) (mc := 0) (ms := 0) (c := t_straightener) (As := [(2, b6), (2, t_work)]) (S := [(0, x1), (2, t)]) d_X11_straight_41 ok_mX8_straighten ml_X11_212 rfl (rmc h0d (by decide)) rm00 (Nat.le_of_ble_eq_true rfl) rfl kX8 o_t_straightener.1 o_t_straightener.2.1 o_t_straightener.2.2.1 o_t_straightener.2.2.2 (MC.mono h (fun r N1 Λ1 σ7 hq => ?_))
      obtain ⟨v8, rfl, rfl, rfl, h⟩ := hq
      refine r_callV (Y2 := mX11_keep) (d := d - 1) (mc := 0) (ms := 0) (c := t) (As := [(0, x1), (0, v8)]) (S := []) d_X11_straight_44 ok_mX11_keep ml_X11_154 rfl (rmc h0d (by decide)) rm00 (Nat.le_of_ble_eq_true rfl) rfl kX11 o_t.1 o_t.2.1 o_t.2.2.1 o_t.2.2.2 (MC.mono h (fun r N1 Λ1 σ9 hq => ?_))
      obtain ⟨v10, rfl, rfl, rfl, h⟩ := hq
      exact r_iret d_X11_straight_47 rfl rfl (Nat.le_refl 0) (Nat.le_refl 0) ⟨_, rfl, rfl, rfl, h⟩
    · have h := h.2 hc
      refine r_bipush (x := (-2)) d_X11_straight_19 ⟨by decide, by decide⟩ (by decide) ?_
      exact r_iret d_X11_straight_21 rfl rfl (Nat.le_refl 0) (Nat.le_refl 0) ⟨_, rfl, rfl, rfl, h⟩
theorem v_X11_reduce_0 {l : Launch} {d N : Nat} {Λ : Lay} {P : Int → Mem → Prop} {σ : Mem} {x1 x2 t t_now t_now_shelves t_work : Int} (o_t : Ob N Λ t 20 14) (f_t_now : (Λ t).2.2 0 = t_now) (f_t_work : (Λ t).2.2 11 = t_work) (o_t_now : Ob N Λ t_now 16 3) (f_t_now_shelves : (Λ t_now).2.2 0 = t_now_shelves) (h0d : 1 ≤ d)
    (h : (CI l mX11_isShelf (d - 1) [(0, x1)] N Λ σ (fun v2 σ1 => ((v2 = 0 → P (-2) σ1) ∧ (¬ (v2 = 0) → (CI l mX11_isShelf (d - 1) [(0, x2)] N Λ σ1 (fun v4 σ3 => ((¬ v4 = 0 → (Ix N Λ t_now_shelves 3 x2 ∧ ∀ b5, b5 = (Λ t_now_shelves).2.2 x2 → Ob N Λ b5 15 3 ∧ (CV l mX7_reduceTo (d - 1) [(2, t_now), (2, t_work), (2, b5)] N Λ σ3 (fun σ6 => (CI l mX11_keep (d - 1) [(2, t), (0, x1), (0, 0)] N Λ σ6 (fun v8 σ7 => P v8 σ7)))))) ∧ (v4 = 0 → P (-2) σ3))))))))) :
    WI l mX11_reduce d P 0 [(2, t), (0, x1), (0, x2)] [] N Λ σ := by
  refine r_iload_n (x := x1) d_X11_reduce_0 rfl ?_
  refine r_callS (Y2 := mX11_isShelf) (d := d - 1) (mc := 0) (ms := 0) (As := [(0, x1)]) (S := []) d_X11_reduce_1 ok_mX11_isShelf ml_X11_143 rfl (rmc h0d (by decide)) rm00 (Nat.le_of_ble_eq_true rfl) rfl (MC.mono h (fun r N1 Λ1 σ1 hq => ?_))
  obtain ⟨v2, rfl, rfl, rfl, h⟩ := hq
  refine r_if_eq (tgt := 14) d_X11_reduce_4 rfl (fun hc => ?_) (fun hc => ?_)
  · have h := h.1 hc
    refine r_bipush (x := (-2)) d_X11_reduce_14 ⟨by decide, by decide⟩ (by decide) ?_
    exact r_iret d_X11_reduce_16 rfl rfl (Nat.le_refl 0) (Nat.le_refl 0) ⟨_, rfl, rfl, rfl, h⟩
  · have h := h.2 hc
    refine r_iload_n (x := x2) d_X11_reduce_7 rfl ?_
    refine r_callS (Y2 := mX11_isShelf) (d := d - 1) (mc := 0) (ms := 0) (As := [(0, x2)]) (S := []) d_X11_reduce_8 ok_mX11_isShelf ml_X11_143 rfl (rmc h0d (by decide)) rm00 (Nat.le_of_ble_eq_true rfl) rfl (MC.mono h (fun r N1 Λ1 σ3 hq => ?_))
    obtain ⟨v4, rfl, rfl, rfl, h⟩ := hq
    refine r_if_ne (tgt := 17) d_X11_reduce_11 rfl (fun hc => ?_) (fun hc => ?_)
    · have h := h.1 hc
      refine r_aload_n (x := t) d_X11_reduce_17 rfl o_t.1 ?_
      refine r_getf (j := 0) (t := 2) (x := t_now) d_X11_reduce_18 kX11 (by decide) fl_X11_10 o_t.1 o_t.2.1 o_t.2.2.1 o_t.2.2.2 rfl f_t_now ?_
      refine r_aload_n (x := t) d_X11_reduce_21 rfl o_t.1 ?_
      refine r_getf (j := 11) (t := 2) (x := t_work) d_X11_reduce_22 kX11 (by decide) fl_X11_83 o_t.1 o_t.2.1 o_t.2.2.1 o_t.2.2.2 rfl f_t_work ?_
      refine r_aload_n (x := t) d_X11_reduce_25 rfl o_t.1 ?_
      refine r_getf (j := 0) (t := 2) (x := t_now) d_X11_reduce_26 kX11 (by decide) fl_X11_10 o_t.1 o_t.2.1 o_t.2.2.1 o_t.2.2.2 rfl f_t_now ?_
      refine r_getf (j := 0) (t := 2) (x := t_now_shelves) d_X11_reduce_29 kX7 (by decide) fl_X11_146 o_t_now.1 o_t_now.2.1 o_t_now.2.2.1 o_t_now.2.2.2 rfl f_t_now_shelves ?_
      refine r_iload_n (x := x2) d_X11_reduce_32 rfl ?_
      refine x_aald (t := 3) (by decide) d_X11_reduce_33 h.1 (fun b5 eb5 => ?_)
      have h := h.2 b5 eb5
      have oob5 := h.1
      have h := h.2
      refine r_callV (Y2 := mX7_reduceTo) (d := d - 1) (mc := 0) (ms := 0) (c := t_now) (As := [(2, t_work), (2, b5)]) (S := []) d_X11_reduce_34 ok_mX7_reduceTo ml_X11_215 rfl (rmc h0d (by decide)) rm00 (Nat.le_of_ble_eq_true rfl) rfl kX7 o_t_now.1 o_t_now.2.1 o_t_now.2.2.1 o_t_now.2.2.2 (MC.mono h (fun r N1 Λ1 σ6 hq => ?_))
      obtain ⟨rfl, rfl, rfl, h⟩ := hq
      refine r_aload_n (x := t) d_X11_reduce_37 rfl o_t.1 ?_
      refine r_iload_n (x := x1) d_X11_reduce_38 rfl ?_
      refine r_iconst (x := 0) d_X11_reduce_39 ⟨by decide, by decide⟩ ?_
      refine r_callV (Y2 := mX11_keep) (d := d - 1) (mc := 0) (ms := 0) (c := t) (As := [(0, x1), (0, 0)]) (S := []) d_X11_reduce_40 ok_mX11_keep ml_X11_154 rfl (rmc h0d (by decide)) rm00 (Nat.le_of_ble_eq_true rfl) rfl kX11 o_t.1 o_t.2.1 o_t.2.2.1 o_t.2.2.2 (MC.mono h (fun r N1 Λ1 σ7 hq => ?_))
      obtain ⟨v8, rfl, rfl, rfl, h⟩ := hq
      exact r_iret d_X11_reduce_43 rfl rfl (Nat.le_refl 0) (Nat.le_refl 0) ⟨_, rfl, rfl, rfl, h⟩
    · have h := h.2 hc
      refine r_bipush (x := (-2)) d_X11_reduce_14 ⟨by decide, by decide⟩ (by decide) ?_
      exact r_iret d_X11_reduce_16 rfl rfl (Nat.le_refl 0) (Nat.le_refl 0) ⟨_, rfl, rfl, rfl, h⟩
theorem v_X11_fact_0 {l : Launch} {d N : Nat} {Λ : Lay} {P : Int → Mem → Prop} {σ : Mem} {x1 x2 x3 x4 t t_history t_now : Int} (o_t : Ob N Λ t 20 14) (f_t_now : (Λ t).2.2 0 = t_now) (o_t_now : Ob N Λ t_now 16 3) (f_t_history : (Λ t).2.2 1 = t_history) (o_t_history : Ob N Λ t_history 14 3) (h0d : 1 ≤ d)
    (h : (CI l mX11_areLetters (d - 1) [(0, x1), (0, x2), (0, x3)] N Λ σ (fun v2 σ1 => ((¬ v2 = 0 → (CI l mX6_row (d - 1) [(0, x1), (0, x2), (0, x3)] N Λ σ1 (fun v4 σ3 => (CI l mX6_ordered (d - 1) [(0, v4)] N Λ σ3 (fun v6 σ5 => (CI l mJ9_abs_0f7a4 (d - 1) [(0, v6)] N Λ σ5 (fun v8 σ7 => ((x4 < 0 → P (-3) σ7) ∧ (¬ (x4 < 0) → ((2 < x4 → P (-3) σ7) ∧ (¬ (2 < x4) → ((¬ v8 = 0 → (CI l mX7_factOf (d - 1) [(2, t_now), (0, v8)] N Λ σ7 (fun v10 σ9 => (CV l mX4_keep (d - 1) [(2, t_history), (2, t_now)] N Λ σ9 (fun σ11 => (CV l mX7_tellFact (d - 1) [(2, t_now), (0, v8), (0, x4)] N Λ σ11 (fun σ12 => P v10 σ12))))))) ∧ (v8 = 0 → P (-3) σ7))))))))))))) ∧ (v2 = 0 → P (-2) σ1))))) :
    WI l mX11_fact d P 0 [(2, t), (0, x1), (0, x2), (0, x3), (0, x4), (3, 0), (3, 0)] [] N Λ σ := by
  refine r_iload_n (x := x1) d_X11_fact_0 rfl ?_
  refine r_iload_n (x := x2) d_X11_fact_1 rfl ?_
  refine r_iload_n (x := x3) d_X11_fact_2 rfl ?_
  refine r_callS (Y2 := mX11_areLetters) (d := d - 1) (mc := 0) (ms := 0) (As := [(0, x1), (0, x2), (0, x3)]) (S := []) d_X11_fact_3 ok_mX11_areLetters ml_X11_160 rfl (rmc h0d (by decide)) rm00 (Nat.le_of_ble_eq_true rfl) rfl (MC.mono h (fun r N1 Λ1 σ1 hq => ?_))
  obtain ⟨v2, rfl, rfl, rfl, h⟩ := hq
  refine r_if_ne (tgt := 12) d_X11_fact_6 rfl (fun hc => ?_) (fun hc => ?_)
  · have h := h.1 hc
    refine r_iload_n (x := x1) d_X11_fact_12 rfl ?_
    refine r_iload_n (x := x2) d_X11_fact_13 rfl ?_
    refine r_iload_n (x := x3) d_X11_fact_14 rfl ?_
    refine r_callS (Y2 := mX6_row) (d := d - 1) (mc := 0) (ms := 0) (As := [(0, x1), (0, x2), (0, x3)]) (S := []) d_X11_fact_15 ok_mX6_row ml_X11_167 rfl (rmc h0d (by decide)) rm00 (Nat.le_of_ble_eq_true rfl) rfl (MC.mono h (fun r N1 Λ1 σ3 hq => ?_))
    obtain ⟨v4, rfl, rfl, rfl, h⟩ := hq
    refine r_callS (Y2 := mX6_ordered) (d := d - 1) (mc := 0) (ms := 0) (As := [(0, v4)]) (S := []) d_X11_fact_18 ok_mX6_ordered ml_X11_219 rfl (rmc h0d (by decide)) rm00 (Nat.le_of_ble_eq_true rfl) rfl (MC.mono h (fun r N1 Λ1 σ5 hq => ?_))
    obtain ⟨v6, rfl, rfl, rfl, h⟩ := hq
    refine r_callS (Y2 := mJ9_abs_0f7a4) (d := d - 1) (mc := 0) (ms := 0) (As := [(0, v6)]) (S := []) d_X11_fact_21 ok_mJ9_abs_0f7a4 ml_X11_222 rfl (rmc h0d (by decide)) rm00 (Nat.le_of_ble_eq_true rfl) rfl (MC.mono h (fun r N1 Λ1 σ7 hq => ?_))
    obtain ⟨v8, rfl, rfl, rfl, h⟩ := hq
    refine r_istore (L2 := [(2, t), (0, x1), (0, x2), (0, x3), (0, x4), (0, v8), (3, 0)]) d_X11_fact_24 (by decide) rfl rfl ?_
    refine r_iload (x := x4) d_X11_fact_26 rfl ?_
    refine r_if_lt (tgt := 42) d_X11_fact_28 rfl (fun hc => ?_) (fun hc => ?_)
    · have h := h.1 hc
      refine r_bipush (x := (-3)) d_X11_fact_42 ⟨by decide, by decide⟩ (by decide) ?_
      exact r_iret d_X11_fact_44 rfl rfl (Nat.le_refl 0) (Nat.le_refl 0) ⟨_, rfl, rfl, rfl, h⟩
    · have h := h.2 hc
      refine r_iload (x := x4) d_X11_fact_31 rfl ?_
      refine r_iconst (x := 2) d_X11_fact_33 ⟨by decide, by decide⟩ ?_
      refine r_ic_gt (tgt := 42) d_X11_fact_34 rfl (fun hc => ?_) (fun hc => ?_)
      · have h := h.1 hc
        refine r_bipush (x := (-3)) d_X11_fact_42 ⟨by decide, by decide⟩ (by decide) ?_
        exact r_iret d_X11_fact_44 rfl rfl (Nat.le_refl 0) (Nat.le_refl 0) ⟨_, rfl, rfl, rfl, h⟩
      · have h := h.2 hc
        refine r_iload (x := v8) d_X11_fact_37 rfl ?_
        refine r_if_ne (tgt := 45) d_X11_fact_39 rfl (fun hc => ?_) (fun hc => ?_)
        · have h := h.1 hc
          refine r_aload_n (x := t) d_X11_fact_45 rfl o_t.1 ?_
          refine r_getf (j := 0) (t := 2) (x := t_now) d_X11_fact_46 kX11 (by decide) fl_X11_10 o_t.1 o_t.2.1 o_t.2.2.1 o_t.2.2.2 rfl f_t_now ?_
          refine r_iload (x := v8) d_X11_fact_49 rfl ?_
          refine r_callV (Y2 := mX7_factOf) (d := d - 1) (mc := 0) (ms := 0) (c := t_now) (As := [(0, v8)]) (S := []) d_X11_fact_51 ok_mX7_factOf ml_X11_227 rfl (rmc h0d (by decide)) rm00 (Nat.le_of_ble_eq_true rfl) rfl kX7 o_t_now.1 o_t_now.2.1 o_t_now.2.2.1 o_t_now.2.2.2 (MC.mono h (fun r N1 Λ1 σ9 hq => ?_))
          obtain ⟨v10, rfl, rfl, rfl, h⟩ := hq
          refine r_istore (L2 := [(2, t), (0, x1), (0, x2), (0, x3), (0, x4), (0, v8), (0, v10)]) d_X11_fact_54 (by decide) rfl rfl ?_
          refine r_aload_n (x := t) d_X11_fact_56 rfl o_t.1 ?_
          refine r_getf (j := 1) (t := 2) (x := t_history) d_X11_fact_57 kX11 (by decide) fl_X11_19 o_t.1 o_t.2.1 o_t.2.2.1 o_t.2.2.2 rfl f_t_history ?_
          refine r_aload_n (x := t) d_X11_fact_60 rfl o_t.1 ?_
          refine r_getf (j := 0) (t := 2) (x := t_now) d_X11_fact_61 kX11 (by decide) fl_X11_10 o_t.1 o_t.2.1 o_t.2.2.1 o_t.2.2.2 rfl f_t_now ?_
          refine r_callV (Y2 := mX4_keep) (d := d - 1) (mc := 0) (ms := 0) (c := t_history) (As := [(2, t_now)]) (S := []) d_X11_fact_64 ok_mX4_keep ml_X11_230 rfl (rmc h0d (by decide)) rm00 (Nat.le_of_ble_eq_true rfl) rfl kX4 o_t_history.1 o_t_history.2.1 o_t_history.2.2.1 o_t_history.2.2.2 (MC.mono h (fun r N1 Λ1 σ11 hq => ?_))
          obtain ⟨rfl, rfl, rfl, h⟩ := hq
          refine r_aload_n (x := t) d_X11_fact_67 rfl o_t.1 ?_
          refine r_getf (j := 0) (t := 2) (x := t_now) d_X11_fact_68 kX11 (by decide) fl_X11_10 o_t.1 o_t.2.1 o_t.2.2.1 o_t.2.2.2 rfl f_t_now ?_
          refine r_iload (x := v8) d_X11_fact_71 rfl ?_
          refine r_iload (x := x4) d_X11_fact_73 rfl ?_
          refine r_callV (Y2 := mX7_tellFact) (d := d - 1) (mc := 0) (ms := 0) (c := t_now) (As := [(0, v8), (0, x4)]) (S := []) d_X11_fact_75 ok_mX7_tellFact ml_X11_233 rfl (rmc h0d (by decide)) rm00 (Nat.le_of_ble_eq_true rfl) rfl kX7 o_t_now.1 o_t_now.2.1 o_t_now.2.2.1 o_t_now.2.2.2 (MC.mono h (fun r N1 Λ1 σ12 hq => ?_))
          obtain ⟨rfl, rfl, rfl, h⟩ := hq
          refine r_iload (x := v10) d_X11_fact_78 rfl ?_
          exact r_iret d_X11_fact_80 rfl rfl (Nat.le_refl 0) (Nat.le_refl 0) ⟨_, rfl, rfl, rfl, h⟩
        · have h := h.2 hc
          refine r_bipush (x := (-3)) d_X11_fact_42 ⟨by decide, by decide⟩ (by decide) ?_
          exact r_iret d_X11_fact_44 rfl rfl (Nat.le_refl 0) (Nat.le_refl 0) ⟨_, rfl, rfl, rfl, h⟩
  · have h := h.2 hc
    refine r_bipush (x := (-2)) d_X11_fact_9 ⟨by decide, by decide⟩ (by decide) ?_
    exact r_iret d_X11_fact_11 rfl rfl (Nat.le_refl 0) (Nat.le_refl 0) ⟨_, rfl, rfl, rfl, h⟩
theorem v_X11_place_0 {l : Launch} {d N : Nat} {Λ : Lay} {P : Int → Mem → Prop} {σ : Mem} {x1 x2 x3 x4 t t_history t_now t_now_places : Int} (o_t : Ob N Λ t 20 14) (f_t_history : (Λ t).2.2 1 = t_history) (f_t_now : (Λ t).2.2 0 = t_now) (o_t_history : Ob N Λ t_history 14 3) (o_t_now : Ob N Λ t_now 16 3) (f_t_now_places : (Λ t_now).2.2 1 = t_now_places) (h0d : 1 ≤ d)
    (h : (CI l mX11_isLetter (d - 1) [(0, x1)] N Λ σ (fun v2 σ1 => ((¬ v2 = 0 → (CI l mX11_isNear (d - 1) [(0, x2)] N Λ σ1 (fun v4 σ3 => ((v4 = 0 → P (-3) σ3) ∧ (¬ (v4 = 0) → (CI l mX11_isNear (d - 1) [(0, x3)] N Λ σ3 (fun v6 σ5 => ((v6 = 0 → P (-3) σ5) ∧ (¬ (v6 = 0) → (CI l mX11_isNear (d - 1) [(0, x4)] N Λ σ5 (fun v8 σ7 => ((¬ v8 = 0 → (CV l mX4_keep (d - 1) [(2, t_history), (2, t_now)] N Λ σ7 (fun σ9 => (Ix N Λ t_now_places 0 (mulI 3 x1) ∧ (∀ τ10, τ10 = st σ9 t_now_places (mulI 3 x1) x2 → (Ix N Λ t_now_places 0 (addI (mulI 3 x1) 1) ∧ (∀ τ11, τ11 = st τ10 t_now_places (addI (mulI 3 x1) 1) x3 → (Ix N Λ t_now_places 0 (addI (mulI 3 x1) 2) ∧ (∀ τ12, τ12 = st τ11 t_now_places (addI (mulI 3 x1) 2) x4 → P 0 τ12))))))))) ∧ (v8 = 0 → P (-3) σ7))))))))))))) ∧ (v2 = 0 → P (-2) σ1))))) :
    WI l mX11_place d P 0 [(2, t), (0, x1), (0, x2), (0, x3), (0, x4)] [] N Λ σ := by
  refine r_iload_n (x := x1) d_X11_place_0 rfl ?_
  refine r_callS (Y2 := mX11_isLetter) (d := d - 1) (mc := 0) (ms := 0) (As := [(0, x1)]) (S := []) d_X11_place_1 ok_mX11_isLetter ml_X11_205 rfl (rmc h0d (by decide)) rm00 (Nat.le_of_ble_eq_true rfl) rfl (MC.mono h (fun r N1 Λ1 σ1 hq => ?_))
  obtain ⟨v2, rfl, rfl, rfl, h⟩ := hq
  refine r_if_ne (tgt := 10) d_X11_place_4 rfl (fun hc => ?_) (fun hc => ?_)
  · have h := h.1 hc
    refine r_iload_n (x := x2) d_X11_place_10 rfl ?_
    refine r_callS (Y2 := mX11_isNear) (d := d - 1) (mc := 0) (ms := 0) (As := [(0, x2)]) (S := []) d_X11_place_11 ok_mX11_isNear ml_X11_194 rfl (rmc h0d (by decide)) rm00 (Nat.le_of_ble_eq_true rfl) rfl (MC.mono h (fun r N1 Λ1 σ3 hq => ?_))
    obtain ⟨v4, rfl, rfl, rfl, h⟩ := hq
    refine r_if_eq (tgt := 32) d_X11_place_14 rfl (fun hc => ?_) (fun hc => ?_)
    · have h := h.1 hc
      refine r_bipush (x := (-3)) d_X11_place_32 ⟨by decide, by decide⟩ (by decide) ?_
      exact r_iret d_X11_place_34 rfl rfl (Nat.le_refl 0) (Nat.le_refl 0) ⟨_, rfl, rfl, rfl, h⟩
    · have h := h.2 hc
      refine r_iload_n (x := x3) d_X11_place_17 rfl ?_
      refine r_callS (Y2 := mX11_isNear) (d := d - 1) (mc := 0) (ms := 0) (As := [(0, x3)]) (S := []) d_X11_place_18 ok_mX11_isNear ml_X11_194 rfl (rmc h0d (by decide)) rm00 (Nat.le_of_ble_eq_true rfl) rfl (MC.mono h (fun r N1 Λ1 σ5 hq => ?_))
      obtain ⟨v6, rfl, rfl, rfl, h⟩ := hq
      refine r_if_eq (tgt := 32) d_X11_place_21 rfl (fun hc => ?_) (fun hc => ?_)
      · have h := h.1 hc
        refine r_bipush (x := (-3)) d_X11_place_32 ⟨by decide, by decide⟩ (by decide) ?_
        exact r_iret d_X11_place_34 rfl rfl (Nat.le_refl 0) (Nat.le_refl 0) ⟨_, rfl, rfl, rfl, h⟩
      · have h := h.2 hc
        refine r_iload (x := x4) d_X11_place_24 rfl ?_
        refine r_callS (Y2 := mX11_isNear) (d := d - 1) (mc := 0) (ms := 0) (As := [(0, x4)]) (S := []) d_X11_place_26 ok_mX11_isNear ml_X11_194 rfl (rmc h0d (by decide)) rm00 (Nat.le_of_ble_eq_true rfl) rfl (MC.mono h (fun r N1 Λ1 σ7 hq => ?_))
        obtain ⟨v8, rfl, rfl, rfl, h⟩ := hq
        refine r_if_ne (tgt := 35) d_X11_place_29 rfl (fun hc => ?_) (fun hc => ?_)
        · have h := h.1 hc
          refine r_aload_n (x := t) d_X11_place_35 rfl o_t.1 ?_
          refine r_getf (j := 1) (t := 2) (x := t_history) d_X11_place_36 kX11 (by decide) fl_X11_19 o_t.1 o_t.2.1 o_t.2.2.1 o_t.2.2.2 rfl f_t_history ?_
          refine r_aload_n (x := t) d_X11_place_39 rfl o_t.1 ?_
          refine r_getf (j := 0) (t := 2) (x := t_now) d_X11_place_40 kX11 (by decide) fl_X11_10 o_t.1 o_t.2.1 o_t.2.2.1 o_t.2.2.2 rfl f_t_now ?_
          refine r_callV (Y2 := mX4_keep) (d := d - 1) (mc := 0) (ms := 0) (c := t_history) (As := [(2, t_now)]) (S := []) d_X11_place_43 ok_mX4_keep ml_X11_230 rfl (rmc h0d (by decide)) rm00 (Nat.le_of_ble_eq_true rfl) rfl kX4 o_t_history.1 o_t_history.2.1 o_t_history.2.2.1 o_t_history.2.2.2 (MC.mono h (fun r N1 Λ1 σ9 hq => ?_))
          obtain ⟨rfl, rfl, rfl, h⟩ := hq
          refine r_aload_n (x := t) d_X11_place_46 rfl o_t.1 ?_
          refine r_getf (j := 0) (t := 2) (x := t_now) d_X11_place_47 kX11 (by decide) fl_X11_10 o_t.1 o_t.2.1 o_t.2.2.1 o_t.2.2.2 rfl f_t_now ?_
          refine r_getf (j := 1) (t := 2) (x := t_now_places) d_X11_place_50 kX7 (by decide) fl_X11_237 o_t_now.1 o_t_now.2.1 o_t_now.2.2.1 o_t_now.2.2.2 rfl f_t_now_places ?_
          refine r_iconst (x := 3) d_X11_place_53 ⟨by decide, by decide⟩ ?_
          refine r_iload_n (x := x1) d_X11_place_54 rfl ?_
          refine r_imul d_X11_place_55 ?_
          refine r_iload_n (x := x2) d_X11_place_56 rfl ?_
          refine x_iast d_X11_place_57 h.1 ?_
          have h := h.2
          refine r_nmM (fun τ10 eτ10 => ?_)
          have h := h τ10 eτ10
          refine r_aload_n (x := t) d_X11_place_58 rfl o_t.1 ?_
          refine r_getf (j := 0) (t := 2) (x := t_now) d_X11_place_59 kX11 (by decide) fl_X11_10 o_t.1 o_t.2.1 o_t.2.2.1 o_t.2.2.2 rfl f_t_now ?_
          refine r_getf (j := 1) (t := 2) (x := t_now_places) d_X11_place_62 kX7 (by decide) fl_X11_237 o_t_now.1 o_t_now.2.1 o_t_now.2.2.1 o_t_now.2.2.2 rfl f_t_now_places ?_
          refine r_iconst (x := 3) d_X11_place_65 ⟨by decide, by decide⟩ ?_
          refine r_iload_n (x := x1) d_X11_place_66 rfl ?_
          refine r_imul d_X11_place_67 ?_
          refine r_iconst (x := 1) d_X11_place_68 ⟨by decide, by decide⟩ ?_
          refine r_iadd d_X11_place_69 ?_
          refine r_iload_n (x := x3) d_X11_place_70 rfl ?_
          refine x_iast d_X11_place_71 h.1 ?_
          have h := h.2
          refine r_nmM (fun τ11 eτ11 => ?_)
          have h := h τ11 eτ11
          refine r_aload_n (x := t) d_X11_place_72 rfl o_t.1 ?_
          refine r_getf (j := 0) (t := 2) (x := t_now) d_X11_place_73 kX11 (by decide) fl_X11_10 o_t.1 o_t.2.1 o_t.2.2.1 o_t.2.2.2 rfl f_t_now ?_
          refine r_getf (j := 1) (t := 2) (x := t_now_places) d_X11_place_76 kX7 (by decide) fl_X11_237 o_t_now.1 o_t_now.2.1 o_t_now.2.2.1 o_t_now.2.2.2 rfl f_t_now_places ?_
          refine r_iconst (x := 3) d_X11_place_79 ⟨by decide, by decide⟩ ?_
          refine r_iload_n (x := x1) d_X11_place_80 rfl ?_
          refine r_imul d_X11_place_81 ?_
          refine r_iconst (x := 2) d_X11_place_82 ⟨by decide, by decide⟩ ?_
          refine r_iadd d_X11_place_83 ?_
          refine r_iload (x := x4) d_X11_place_84 rfl ?_
          refine x_iast d_X11_place_86 h.1 ?_
          have h := h.2
          refine r_nmM (fun τ12 eτ12 => ?_)
          have h := h τ12 eτ12
          refine r_iconst (x := 0) d_X11_place_87 ⟨by decide, by decide⟩ ?_
          exact r_iret d_X11_place_88 rfl rfl (Nat.le_refl 0) (Nat.le_refl 0) ⟨_, rfl, rfl, rfl, h⟩
        · have h := h.2 hc
          refine r_bipush (x := (-3)) d_X11_place_32 ⟨by decide, by decide⟩ (by decide) ?_
          exact r_iret d_X11_place_34 rfl rfl (Nat.le_refl 0) (Nat.le_refl 0) ⟨_, rfl, rfl, rfl, h⟩
  · have h := h.2 hc
    refine r_bipush (x := (-2)) d_X11_place_7 ⟨by decide, by decide⟩ (by decide) ?_
    exact r_iret d_X11_place_9 rfl rfl (Nat.le_refl 0) (Nat.le_refl 0) ⟨_, rfl, rfl, rfl, h⟩
theorem v_X11_terms_0 {l : Launch} {d N : Nat} {Λ : Lay} {P : Int → Mem → Prop} {σ : Mem} {x1 t t_now t_now_shelves : Int} (o_t : Ob N Λ t 20 14) (f_t_now : (Λ t).2.2 0 = t_now) (o_t_now : Ob N Λ t_now 16 3) (f_t_now_shelves : (Λ t_now).2.2 0 = t_now_shelves) (h0d : 1 ≤ d)
    (h : (CI l mX11_isShelf (d - 1) [(0, x1)] N Λ σ (fun v2 σ1 => ((v2 = 0 → P (-2) σ1) ∧ (¬ (v2 = 0) → (Ix N Λ t_now_shelves 3 x1 ∧ ∀ b3, b3 = (Λ t_now_shelves).2.2 x1 → Ob N Λ b3 15 3 ∧ P (σ1 b3 2) σ1)))))) :
    WI l mX11_terms d P 0 [(2, t), (0, x1)] [] N Λ σ := by
  refine r_iload_n (x := x1) d_X11_terms_0 rfl ?_
  refine r_callS (Y2 := mX11_isShelf) (d := d - 1) (mc := 0) (ms := 0) (As := [(0, x1)]) (S := []) d_X11_terms_1 ok_mX11_isShelf ml_X11_143 rfl (rmc h0d (by decide)) rm00 (Nat.le_of_ble_eq_true rfl) rfl (MC.mono h (fun r N1 Λ1 σ1 hq => ?_))
  obtain ⟨v2, rfl, rfl, rfl, h⟩ := hq
  refine r_if_eq (tgt := 22) d_X11_terms_4 rfl (fun hc => ?_) (fun hc => ?_)
  · have h := h.1 hc
    refine r_bipush (x := (-2)) d_X11_terms_22 ⟨by decide, by decide⟩ (by decide) ?_
    exact r_iret d_X11_terms_24 rfl rfl (Nat.le_refl 0) (Nat.le_refl 0) ⟨_, rfl, rfl, rfl, h⟩
  · have h := h.2 hc
    refine r_aload_n (x := t) d_X11_terms_7 rfl o_t.1 ?_
    refine r_getf (j := 0) (t := 2) (x := t_now) d_X11_terms_8 kX11 (by decide) fl_X11_10 o_t.1 o_t.2.1 o_t.2.2.1 o_t.2.2.2 rfl f_t_now ?_
    refine r_getf (j := 0) (t := 2) (x := t_now_shelves) d_X11_terms_11 kX7 (by decide) fl_X11_146 o_t_now.1 o_t_now.2.1 o_t_now.2.2.1 o_t_now.2.2.2 rfl f_t_now_shelves ?_
    refine r_iload_n (x := x1) d_X11_terms_14 rfl ?_
    refine x_aald (t := 3) (by decide) d_X11_terms_15 h.1 (fun b3 eb3 => ?_)
    have h := h.2 b3 eb3
    have oob3 := h.1
    have h := h.2
    refine r_getf (j := 2) (t := 0) (x := (σ1 b3 2)) d_X11_terms_16 kX5 (by decide) fl_X11_150 oob3.1 oob3.2.1 oob3.2.2.1 oob3.2.2.2 rfl rfl ?_
    refine r_goto (tgt := 24) d_X11_terms_19 rfl ?_
    exact r_iret d_X11_terms_24 rfl rfl (Nat.le_refl 0) (Nat.le_refl 0) ⟨_, rfl, rfl, rfl, h⟩
theorem v_X11_term_0 {l : Launch} {d N : Nat} {Λ : Lay} {P : Int → Mem → Prop} {σ : Mem} {x1 x2 x3 t t_now t_now_shelves : Int} (o_t : Ob N Λ t 20 14) (f_t_now : (Λ t).2.2 0 = t_now) (o_t_now : Ob N Λ t_now 16 3) (f_t_now_shelves : (Λ t_now).2.2 0 = t_now_shelves) (h0d : 1 ≤ d)
    (h : (CI l mX11_isShelf (d - 1) [(0, x1)] N Λ σ (fun v2 σ1 => ((v2 = 0 → P (-2147483648) σ1) ∧ (¬ (v2 = 0) → ((x2 < 0 → P (-2147483648) σ1) ∧ (¬ (x2 < 0) → (Ix N Λ t_now_shelves 3 x1 ∧ ∀ b3, b3 = (Λ t_now_shelves).2.2 x1 → Ob N Λ b3 15 3 ∧ ((x2 < (σ1 b3 2) → (Ix N Λ t_now_shelves 3 x1 ∧ ∀ b4, b4 = (Λ t_now_shelves).2.2 x1 → Ob N Λ b4 15 3 ∧ (∀ b5, b5 = (Λ b4).2.2 0 → (Ix N Λ b5 1 x2 ∧ (∀ y6, y6 = (σ1 b5 x2) → (CI l mX6_breakOf (d - 1) [(1, y6)] N Λ σ1 (fun v8 σ7 => ((x3 < 0 ∨ 4 < x3 → ((x3 < 10 → P (-2147483648) σ7) ∧ (¬ (x3 < 10) → ((x3 ≤ 21 → (CI l mX6_letterOfKey (d - 1) [(1, y6), (0, (subI x3 10))] N Λ σ7 (fun v10 σ9 => P v10 σ9))) ∧ (¬ (x3 ≤ 21) → P (-2147483648) σ7))))) ∧ (x3 = 0 → (∀ b11, b11 = (Λ b4).2.2 1 → (Ix N Λ b11 0 x2 ∧ P (σ7 b11 x2) σ7))) ∧ (x3 = 1 → (CI l mX6_bracketsIn (d - 1) [(1, y6)] N Λ σ7 (fun v13 σ12 => P v13 σ12))) ∧ (x3 = 2 → ((¬ v8 = 0 → P 0 σ7) ∧ (v8 = 0 → P 1 σ7))) ∧ (x3 = 3 → ((¬ v8 = 0 → (CI l mX6_bracketOfBreak (d - 1) [(0, v8)] N Λ σ7 (fun v15 σ14 => P v15 σ14))) ∧ (v8 = 0 → P (-1) σ7))) ∧ (x3 = 4 → ((¬ v8 = 0 → (CI l mX6_placeOfBreak (d - 1) [(0, v8)] N Λ σ7 (fun v17 σ16 => P v17 σ16))) ∧ (v8 = 0 → P (-1) σ7))))))))))) ∧ (¬ (x2 < (σ1 b3 2)) → P (-2147483648) σ1)))))))))) :
    WI l mX11_term d P 0 [(2, t), (0, x1), (0, x2), (0, x3), (3, 0), (3, 0), (3, 0), (3, 0)] [] N Λ σ := by
  refine r_iload_n (x := x1) d_X11_term_0 rfl ?_
  refine r_callS (Y2 := mX11_isShelf) (d := d - 1) (mc := 0) (ms := 0) (As := [(0, x1)]) (S := []) d_X11_term_1 ok_mX11_isShelf ml_X11_143 rfl (rmc h0d (by decide)) rm00 (Nat.le_of_ble_eq_true rfl) rfl (MC.mono h (fun r N1 Λ1 σ1 hq => ?_))
  obtain ⟨v2, rfl, rfl, rfl, h⟩ := hq
  refine r_if_eq (tgt := 27) d_X11_term_4 rfl (fun hc => ?_) (fun hc => ?_)
  · have h := h.1 hc
    refine r_ldc (x := (-2147483648)) d_X11_term_27 ck_X11_240 (by decide) ?_
    exact r_iret d_X11_term_29 rfl rfl (Nat.le_refl 0) (Nat.le_refl 0) ⟨_, rfl, rfl, rfl, h⟩
  · have h := h.2 hc
    refine r_iload_n (x := x2) d_X11_term_7 rfl ?_
    refine r_if_lt (tgt := 27) d_X11_term_8 rfl (fun hc => ?_) (fun hc => ?_)
    · have h := h.1 hc
      refine r_ldc (x := (-2147483648)) d_X11_term_27 ck_X11_240 (by decide) ?_
      exact r_iret d_X11_term_29 rfl rfl (Nat.le_refl 0) (Nat.le_refl 0) ⟨_, rfl, rfl, rfl, h⟩
    · have h := h.2 hc
      refine r_iload_n (x := x2) d_X11_term_11 rfl ?_
      refine r_aload_n (x := t) d_X11_term_12 rfl o_t.1 ?_
      refine r_getf (j := 0) (t := 2) (x := t_now) d_X11_term_13 kX11 (by decide) fl_X11_10 o_t.1 o_t.2.1 o_t.2.2.1 o_t.2.2.2 rfl f_t_now ?_
      refine r_getf (j := 0) (t := 2) (x := t_now_shelves) d_X11_term_16 kX7 (by decide) fl_X11_146 o_t_now.1 o_t_now.2.1 o_t_now.2.2.1 o_t_now.2.2.2 rfl f_t_now_shelves ?_
      refine r_iload_n (x := x1) d_X11_term_19 rfl ?_
      refine x_aald (t := 3) (by decide) d_X11_term_20 h.1 (fun b3 eb3 => ?_)
      have h := h.2 b3 eb3
      have oob3 := h.1
      have h := h.2
      refine r_getf (j := 2) (t := 0) (x := (σ1 b3 2)) d_X11_term_21 kX5 (by decide) fl_X11_150 oob3.1 oob3.2.1 oob3.2.2.1 oob3.2.2.2 rfl rfl ?_
      refine r_ic_lt (tgt := 30) d_X11_term_24 rfl (fun hc => ?_) (fun hc => ?_)
      · have h := h.1 hc
        refine r_aload_n (x := t) d_X11_term_30 rfl o_t.1 ?_
        refine r_getf (j := 0) (t := 2) (x := t_now) d_X11_term_31 kX11 (by decide) fl_X11_10 o_t.1 o_t.2.1 o_t.2.2.1 o_t.2.2.2 rfl f_t_now ?_
        refine r_getf (j := 0) (t := 2) (x := t_now_shelves) d_X11_term_34 kX7 (by decide) fl_X11_146 o_t_now.1 o_t_now.2.1 o_t_now.2.2.1 o_t_now.2.2.2 rfl f_t_now_shelves ?_
        refine r_iload_n (x := x1) d_X11_term_37 rfl ?_
        refine x_aald (t := 3) (by decide) d_X11_term_38 h.1 (fun b4 eb4 => ?_)
        have h := h.2 b4 eb4
        have oob4 := h.1
        have h := h.2
        refine r_astore (L2 := [(2, t), (0, x1), (0, x2), (0, x3), (2, b4), (3, 0), (3, 0), (3, 0)]) d_X11_term_39 (by decide) rfl rfl oob4.1 ?_
        refine r_aload (x := b4) d_X11_term_41 rfl oob4.1 ?_
        refine r_nmR (j := 0) d_X11_term_43 kX5 (by decide) fl_X11_241 oob4 rfl (fun b5 eb5 => ?_)
        have h := h b5 eb5
        refine r_iload_n (x := x2) d_X11_term_46 rfl ?_
        refine x_lald d_X11_term_47 h.1 ?_
        have h := h.2
        refine r_nm (fun y6 ey6 => ?_)
        have h := h y6 ey6
        refine r_lstore (L2 := [(2, t), (0, x1), (0, x2), (0, x3), (2, b4), (1, y6), (3, 0), (3, 0)]) d_X11_term_48 (by decide) rfl rfl ?_
        refine r_lload (x := y6) d_X11_term_50 rfl ?_
        refine r_callS (Y2 := mX6_breakOf) (d := d - 1) (mc := 0) (ms := 0) (As := [(1, y6)]) (S := []) d_X11_term_52 ok_mX6_breakOf ml_X11_245 rfl (rmc h0d (by decide)) rm00 (Nat.le_of_ble_eq_true rfl) rfl (MC.mono h (fun r N1 Λ1 σ7 hq => ?_))
        obtain ⟨v8, rfl, rfl, rfl, h⟩ := hq
        refine r_istore (L2 := [(2, t), (0, x1), (0, x2), (0, x3), (2, b4), (1, y6), (3, 0), (0, v8)]) d_X11_term_55 (by decide) rfl rfl ?_
        refine r_iload_n (x := x3) d_X11_term_57 rfl ?_
        by_cases hr : x3 < 0 ∨ 4 < x3
        · have h := h.1 hr
          refine r_tout (tgt := 147) d_X11_term_58 hr rfl ?_
          refine r_iload_n (x := x3) d_X11_term_147 rfl ?_
          refine r_bipush (x := 10) d_X11_term_148 ⟨by decide, by decide⟩ (by decide) ?_
          refine r_ic_lt (tgt := 159) d_X11_term_150 rfl (fun hc => ?_) (fun hc => ?_)
          · have h := h.1 hc
            refine r_ldc (x := (-2147483648)) d_X11_term_159 ck_X11_240 (by decide) ?_
            refine r_goto (tgt := 173) d_X11_term_161 rfl ?_
            exact r_iret d_X11_term_173 rfl rfl (Nat.le_refl 0) (Nat.le_refl 0) ⟨_, rfl, rfl, rfl, h⟩
          · have h := h.2 hc
            refine r_iload_n (x := x3) d_X11_term_153 rfl ?_
            refine r_bipush (x := 21) d_X11_term_154 ⟨by decide, by decide⟩ (by decide) ?_
            refine r_ic_le (tgt := 164) d_X11_term_156 rfl (fun hc => ?_) (fun hc => ?_)
            · have h := h.1 hc
              refine r_lload (x := y6) d_X11_term_164 rfl ?_
              refine r_iload_n (x := x3) d_X11_term_166 rfl ?_
              refine r_bipush (x := 10) d_X11_term_167 ⟨by decide, by decide⟩ (by decide) ?_
              refine r_isub d_X11_term_169 ?_
              refine r_callS (Y2 := mX6_letterOfKey) (d := d - 1) (mc := 0) (ms := 0) (As := [(1, y6), (0, (subI x3 10))]) (S := []) d_X11_term_170 ok_mX6_letterOfKey ml_X11_261 rfl (rmc h0d (by decide)) rm00 (Nat.le_of_ble_eq_true rfl) rfl (MC.mono h (fun r N1 Λ1 σ9 hq => ?_))
              obtain ⟨v10, rfl, rfl, rfl, h⟩ := hq
              exact r_iret d_X11_term_173 rfl rfl (Nat.le_refl 0) (Nat.le_refl 0) ⟨_, rfl, rfl, rfl, h⟩
            · have h := h.2 hc
              refine r_ldc (x := (-2147483648)) d_X11_term_159 ck_X11_240 (by decide) ?_
              refine r_goto (tgt := 173) d_X11_term_161 rfl ?_
              exact r_iret d_X11_term_173 rfl rfl (Nat.le_refl 0) (Nat.le_refl 0) ⟨_, rfl, rfl, rfl, h⟩
        · have h := h.2
          by_cases hk0 : x3 = 0
          · have h := h.1 hk0
            refine r_tin (off := 34) (tgt := 92) d_X11_term_58 (by rw [hk0]; decide) (by rw [hk0]; decide) (by rw [hk0]; rfl) rfl ?_
            refine r_aload (x := b4) d_X11_term_92 rfl oob4.1 ?_
            refine r_nmR (j := 1) d_X11_term_94 kX5 (by decide) fl_X11_249 oob4 rfl (fun b11 eb11 => ?_)
            have h := h b11 eb11
            refine r_iload_n (x := x2) d_X11_term_97 rfl ?_
            refine x_iald d_X11_term_98 h.1 ?_
            have h := h.2
            exact r_iret d_X11_term_99 rfl rfl (Nat.le_refl 0) (Nat.le_refl 0) ⟨_, rfl, rfl, rfl, h⟩
          have h := h.2
          by_cases hk1 : x3 = 1
          · have h := h.1 hk1
            refine r_tin (off := 42) (tgt := 100) d_X11_term_58 (by rw [hk1]; decide) (by rw [hk1]; decide) (by rw [hk1]; rfl) rfl ?_
            refine r_lload (x := y6) d_X11_term_100 rfl ?_
            refine r_callS (Y2 := mX6_bracketsIn) (d := d - 1) (mc := 0) (ms := 0) (As := [(1, y6)]) (S := []) d_X11_term_102 ok_mX6_bracketsIn ml_X11_252 rfl (rmc h0d (by decide)) rm00 (Nat.le_of_ble_eq_true rfl) rfl (MC.mono h (fun r N1 Λ1 σ12 hq => ?_))
            obtain ⟨v13, rfl, rfl, rfl, h⟩ := hq
            exact r_iret d_X11_term_105 rfl rfl (Nat.le_refl 0) (Nat.le_refl 0) ⟨_, rfl, rfl, rfl, h⟩
          have h := h.2
          by_cases hk2 : x3 = 2
          · have h := h.1 hk2
            refine r_tin (off := 48) (tgt := 106) d_X11_term_58 (by rw [hk2]; decide) (by rw [hk2]; decide) (by rw [hk2]; rfl) rfl ?_
            refine r_iload (x := v8) d_X11_term_106 rfl ?_
            refine r_if_ne (tgt := 115) d_X11_term_108 rfl (fun hc => ?_) (fun hc => ?_)
            · have h := h.1 hc
              refine r_iconst (x := 0) d_X11_term_115 ⟨by decide, by decide⟩ ?_
              exact r_iret d_X11_term_116 rfl rfl (Nat.le_refl 0) (Nat.le_refl 0) ⟨_, rfl, rfl, rfl, h⟩
            · have h := h.2 hc
              refine r_iconst (x := 1) d_X11_term_111 ⟨by decide, by decide⟩ ?_
              refine r_goto (tgt := 116) d_X11_term_112 rfl ?_
              exact r_iret d_X11_term_116 rfl rfl (Nat.le_refl 0) (Nat.le_refl 0) ⟨_, rfl, rfl, rfl, h⟩
          have h := h.2
          by_cases hk3 : x3 = 3
          · have h := h.1 hk3
            refine r_tin (off := 59) (tgt := 117) d_X11_term_58 (by rw [hk3]; decide) (by rw [hk3]; decide) (by rw [hk3]; rfl) rfl ?_
            refine r_iload (x := v8) d_X11_term_117 rfl ?_
            refine r_if_ne (tgt := 126) d_X11_term_119 rfl (fun hc => ?_) (fun hc => ?_)
            · have h := h.1 hc
              refine r_iload (x := v8) d_X11_term_126 rfl ?_
              refine r_callS (Y2 := mX6_bracketOfBreak) (d := d - 1) (mc := 0) (ms := 0) (As := [(0, v8)]) (S := []) d_X11_term_128 ok_mX6_bracketOfBreak ml_X11_255 rfl (rmc h0d (by decide)) rm00 (Nat.le_of_ble_eq_true rfl) rfl (MC.mono h (fun r N1 Λ1 σ14 hq => ?_))
              obtain ⟨v15, rfl, rfl, rfl, h⟩ := hq
              exact r_iret d_X11_term_131 rfl rfl (Nat.le_refl 0) (Nat.le_refl 0) ⟨_, rfl, rfl, rfl, h⟩
            · have h := h.2 hc
              refine r_iconst (x := (-1)) d_X11_term_122 ⟨by decide, by decide⟩ ?_
              refine r_goto (tgt := 131) d_X11_term_123 rfl ?_
              exact r_iret d_X11_term_131 rfl rfl (Nat.le_refl 0) (Nat.le_refl 0) ⟨_, rfl, rfl, rfl, h⟩
          have h := h.2
          by_cases hk4 : x3 = 4
          · have h := h hk4
            refine r_tin (off := 74) (tgt := 132) d_X11_term_58 (by rw [hk4]; decide) (by rw [hk4]; decide) (by rw [hk4]; rfl) rfl ?_
            refine r_iload (x := v8) d_X11_term_132 rfl ?_
            refine r_if_ne (tgt := 141) d_X11_term_134 rfl (fun hc => ?_) (fun hc => ?_)
            · have h := h.1 hc
              refine r_iload (x := v8) d_X11_term_141 rfl ?_
              refine r_callS (Y2 := mX6_placeOfBreak) (d := d - 1) (mc := 0) (ms := 0) (As := [(0, v8)]) (S := []) d_X11_term_143 ok_mX6_placeOfBreak ml_X11_258 rfl (rmc h0d (by decide)) rm00 (Nat.le_of_ble_eq_true rfl) rfl (MC.mono h (fun r N1 Λ1 σ16 hq => ?_))
              obtain ⟨v17, rfl, rfl, rfl, h⟩ := hq
              exact r_iret d_X11_term_146 rfl rfl (Nat.le_refl 0) (Nat.le_refl 0) ⟨_, rfl, rfl, rfl, h⟩
            · have h := h.2 hc
              refine r_iconst (x := (-1)) d_X11_term_137 ⟨by decide, by decide⟩ ?_
              refine r_goto (tgt := 146) d_X11_term_138 rfl ?_
              exact r_iret d_X11_term_146 rfl rfl (Nat.le_refl 0) (Nat.le_refl 0) ⟨_, rfl, rfl, rfl, h⟩
          exact (tsw_4 hr hk0 hk1 hk2 hk3 hk4).elim
      · have h := h.2 hc
        refine r_ldc (x := (-2147483648)) d_X11_term_27 ck_X11_240 (by decide) ?_
        exact r_iret d_X11_term_29 rfl rfl (Nat.le_refl 0) (Nat.le_refl 0) ⟨_, rfl, rfl, rfl, h⟩
theorem v_X11_degree_0 {l : Launch} {d N : Nat} {Λ : Lay} {P : Int → Mem → Prop} {σ : Mem} {x1 x2 t t_now t_now_shelves : Int} (o_t : Ob N Λ t 20 14) (f_t_now : (Λ t).2.2 0 = t_now) (o_t_now : Ob N Λ t_now 16 3) (f_t_now_shelves : (Λ t_now).2.2 0 = t_now_shelves) (h0d : 1 ≤ d)
    (h : (CI l mX11_isShelf (d - 1) [(0, x1)] N Λ σ (fun v2 σ1 => ((v2 = 0 → P (-2) σ1) ∧ (¬ (v2 = 0) → (CI l mX11_isLetter (d - 1) [(0, x2)] N Λ σ1 (fun v4 σ3 => ((¬ v4 = 0 → (Ix N Λ t_now_shelves 3 x1 ∧ ∀ b5, b5 = (Λ t_now_shelves).2.2 x1 → Ob N Λ b5 15 3 ∧ ((¬ (σ3 b5 2) = 0 → (∀ b6, b6 = (Λ b5).2.2 0 → (Ix N Λ b6 1 0 ∧ (CI l mX6_timesOf (d - 1) [(1, (σ3 b6 0)), (0, x2)] N Λ σ3 (fun v8 σ7 => WI l mX11_degree d P 51 [(2, t), (0, x1), (0, x2), (2, b5), (0, v8), (0, 1)] [] N Λ σ7))))) ∧ ((σ3 b5 2) = 0 → P (-1) σ3)))) ∧ (v4 = 0 → P (-2) σ3))))))))) :
    WI l mX11_degree d P 0 [(2, t), (0, x1), (0, x2), (3, 0), (3, 0), (3, 0)] [] N Λ σ := by
  refine r_iload_n (x := x1) d_X11_degree_0 rfl ?_
  refine r_callS (Y2 := mX11_isShelf) (d := d - 1) (mc := 0) (ms := 0) (As := [(0, x1)]) (S := []) d_X11_degree_1 ok_mX11_isShelf ml_X11_143 rfl (rmc h0d (by decide)) rm00 (Nat.le_of_ble_eq_true rfl) rfl (MC.mono h (fun r N1 Λ1 σ1 hq => ?_))
  obtain ⟨v2, rfl, rfl, rfl, h⟩ := hq
  refine r_if_eq (tgt := 14) d_X11_degree_4 rfl (fun hc => ?_) (fun hc => ?_)
  · have h := h.1 hc
    refine r_bipush (x := (-2)) d_X11_degree_14 ⟨by decide, by decide⟩ (by decide) ?_
    exact r_iret d_X11_degree_16 rfl rfl (Nat.le_refl 0) (Nat.le_refl 0) ⟨_, rfl, rfl, rfl, h⟩
  · have h := h.2 hc
    refine r_iload_n (x := x2) d_X11_degree_7 rfl ?_
    refine r_callS (Y2 := mX11_isLetter) (d := d - 1) (mc := 0) (ms := 0) (As := [(0, x2)]) (S := []) d_X11_degree_8 ok_mX11_isLetter ml_X11_205 rfl (rmc h0d (by decide)) rm00 (Nat.le_of_ble_eq_true rfl) rfl (MC.mono h (fun r N1 Λ1 σ3 hq => ?_))
    obtain ⟨v4, rfl, rfl, rfl, h⟩ := hq
    refine r_if_ne (tgt := 17) d_X11_degree_11 rfl (fun hc => ?_) (fun hc => ?_)
    · have h := h.1 hc
      refine r_aload_n (x := t) d_X11_degree_17 rfl o_t.1 ?_
      refine r_getf (j := 0) (t := 2) (x := t_now) d_X11_degree_18 kX11 (by decide) fl_X11_10 o_t.1 o_t.2.1 o_t.2.2.1 o_t.2.2.2 rfl f_t_now ?_
      refine r_getf (j := 0) (t := 2) (x := t_now_shelves) d_X11_degree_21 kX7 (by decide) fl_X11_146 o_t_now.1 o_t_now.2.1 o_t_now.2.2.1 o_t_now.2.2.2 rfl f_t_now_shelves ?_
      refine r_iload_n (x := x1) d_X11_degree_24 rfl ?_
      refine x_aald (t := 3) (by decide) d_X11_degree_25 h.1 (fun b5 eb5 => ?_)
      have h := h.2 b5 eb5
      have oob5 := h.1
      have h := h.2
      refine r_astore_n (L2 := [(2, t), (0, x1), (0, x2), (2, b5), (3, 0), (3, 0)]) d_X11_degree_26 (by decide) rfl rfl oob5.1 ?_
      refine r_aload_n (x := b5) d_X11_degree_27 rfl oob5.1 ?_
      refine r_getf (j := 2) (t := 0) (x := (σ3 b5 2)) d_X11_degree_28 kX5 (by decide) fl_X11_150 oob5.1 oob5.2.1 oob5.2.2.1 oob5.2.2.2 rfl rfl ?_
      refine r_if_ne (tgt := 36) d_X11_degree_31 rfl (fun hc => ?_) (fun hc => ?_)
      · have h := h.1 hc
        refine r_aload_n (x := b5) d_X11_degree_36 rfl oob5.1 ?_
        refine r_nmR (j := 0) d_X11_degree_37 kX5 (by decide) fl_X11_241 oob5 rfl (fun b6 eb6 => ?_)
        have h := h b6 eb6
        refine r_iconst (x := 0) d_X11_degree_40 ⟨by decide, by decide⟩ ?_
        refine x_lald d_X11_degree_41 h.1 ?_
        have h := h.2
        refine r_iload_n (x := x2) d_X11_degree_42 rfl ?_
        refine r_callS (Y2 := mX6_timesOf) (d := d - 1) (mc := 0) (ms := 0) (As := [(1, (σ3 b6 0)), (0, x2)]) (S := []) d_X11_degree_43 ok_mX6_timesOf ml_X11_265 rfl (rmc h0d (by decide)) rm00 (Nat.le_of_ble_eq_true rfl) rfl (MC.mono h (fun r N1 Λ1 σ7 hq => ?_))
        obtain ⟨v8, rfl, rfl, rfl, h⟩ := hq
        refine r_istore (L2 := [(2, t), (0, x1), (0, x2), (2, b5), (0, v8), (3, 0)]) d_X11_degree_46 (by decide) rfl rfl ?_
        refine r_iconst (x := 1) d_X11_degree_48 ⟨by decide, by decide⟩ ?_
        refine r_istore (L2 := [(2, t), (0, x1), (0, x2), (2, b5), (0, v8), (0, 1)]) d_X11_degree_49 (by decide) rfl rfl ?_
        exact h
      · have h := h.2 hc
        refine r_iconst (x := (-1)) d_X11_degree_34 ⟨by decide, by decide⟩ ?_
        exact r_iret d_X11_degree_35 rfl rfl (Nat.le_refl 0) (Nat.le_refl 0) ⟨_, rfl, rfl, rfl, h⟩
    · have h := h.2 hc
      refine r_bipush (x := (-2)) d_X11_degree_14 ⟨by decide, by decide⟩ (by decide) ?_
      exact r_iret d_X11_degree_16 rfl rfl (Nat.le_refl 0) (Nat.le_refl 0) ⟨_, rfl, rfl, rfl, h⟩
theorem v_X11_degree_51 {l : Launch} {d N : Nat} {Λ : Lay} {P : Int → Mem → Prop} {σ : Mem} {x1 x2 x4 x5 b5 b5_keys t : Int} (o_b5 : Ob N Λ b5 15 3) (f_b5_keys : (Λ b5).2.2 0 = b5_keys) (h0d : 1 ≤ d)
    (h : (((σ b5 2) ≤ x5 → P x4 σ) ∧ (¬ ((σ b5 2) ≤ x5) → (Ix N Λ b5_keys 1 x5 ∧ (CI l mX6_timesOf (d - 1) [(1, (σ b5_keys x5)), (0, x2)] N Λ σ (fun v2 σ1 => ((v2 = x4 → (∀ y3, y3 = addI x5 1 → WI l mX11_degree d P 51 [(2, t), (0, x1), (0, x2), (2, b5), (0, x4), (0, y3)] [] N Λ σ1)) ∧ (¬ (v2 = x4) → P (-1) σ1)))))))) :
    WI l mX11_degree d P 51 [(2, t), (0, x1), (0, x2), (2, b5), (0, x4), (0, x5)] [] N Λ σ := by
  refine r_iload (x := x5) d_X11_degree_51 rfl ?_
  refine r_aload_n (x := b5) d_X11_degree_53 rfl o_b5.1 ?_
  refine r_getf (j := 2) (t := 0) (x := (σ b5 2)) d_X11_degree_54 kX5 (by decide) fl_X11_150 o_b5.1 o_b5.2.1 o_b5.2.2.1 o_b5.2.2.2 rfl rfl ?_
  refine r_ic_ge (tgt := 84) d_X11_degree_57 rfl (fun hc => ?_) (fun hc => ?_)
  · have h := h.1 hc
    refine r_iload (x := x4) d_X11_degree_84 rfl ?_
    exact r_iret d_X11_degree_86 rfl rfl (Nat.le_refl 0) (Nat.le_refl 0) ⟨_, rfl, rfl, rfl, h⟩
  · have h := h.2 hc
    refine r_aload_n (x := b5) d_X11_degree_60 rfl o_b5.1 ?_
    refine r_getf (j := 0) (t := 2) (x := b5_keys) d_X11_degree_61 kX5 (by decide) fl_X11_241 o_b5.1 o_b5.2.1 o_b5.2.2.1 o_b5.2.2.2 rfl f_b5_keys ?_
    refine r_iload (x := x5) d_X11_degree_64 rfl ?_
    refine x_lald d_X11_degree_66 h.1 ?_
    have h := h.2
    refine r_iload_n (x := x2) d_X11_degree_67 rfl ?_
    refine r_callS (Y2 := mX6_timesOf) (d := d - 1) (mc := 0) (ms := 0) (As := [(1, (σ b5_keys x5)), (0, x2)]) (S := []) d_X11_degree_68 ok_mX6_timesOf ml_X11_265 rfl (rmc h0d (by decide)) rm00 (Nat.le_of_ble_eq_true rfl) rfl (MC.mono h (fun r N1 Λ1 σ1 hq => ?_))
    obtain ⟨v2, rfl, rfl, rfl, h⟩ := hq
    refine r_iload (x := x4) d_X11_degree_71 rfl ?_
    refine r_ic_eq (tgt := 78) d_X11_degree_73 rfl (fun hc => ?_) (fun hc => ?_)
    · have h := h.1 hc
      refine x_iinc (x := x5) (L := [(2, t), (0, x1), (0, x2), (2, b5), (0, x4), (0, x5)]) d_X11_degree_78 rfl (by decide) rfl (fun y3 ey3 => ?_)
      have h := h y3 ey3
      show WP _ _ _ _ _ _ _ _ [(2, t), (0, x1), (0, x2), (2, b5), (0, x4), (0, y3)] _ _ _ _
      refine r_goto (tgt := 51) d_X11_degree_81 rfl ?_
      exact h
    · have h := h.2 hc
      refine r_iconst (x := (-1)) d_X11_degree_76 ⟨by decide, by decide⟩ ?_
      exact r_iret d_X11_degree_77 rfl rfl (Nat.le_refl 0) (Nat.le_refl 0) ⟨_, rfl, rfl, rfl, h⟩
theorem v_X11_steps_0 {l : Launch} {d N : Nat} {Λ : Lay} {P : Int → Mem → Prop} {σ : Mem} {x1 t t_now t_now_shelves t_straightener t_work : Int} (o_t : Ob N Λ t 20 14) (f_t_straightener : (Λ t).2.2 5 = t_straightener) (f_t_now : (Λ t).2.2 0 = t_now) (o_t_now : Ob N Λ t_now 16 3) (f_t_now_shelves : (Λ t_now).2.2 0 = t_now_shelves) (f_t_work : (Λ t).2.2 11 = t_work) (o_t_straightener : Ob N Λ t_straightener 17 2) (h0d : 1 ≤ d)
    (h : (∀ τ1, τ1 = st σ t 13 0 → (CI l mX11_isShelf (d - 1) [(0, x1)] N Λ τ1 (fun v3 σ2 => ((¬ v3 = 0 → (Ix N Λ t_now_shelves 3 x1 ∧ ∀ b4, b4 = (Λ t_now_shelves).2.2 x1 → Ob N Λ b4 15 3 ∧ (CI l mX8_straighten (d - 1) [(2, t_straightener), (2, b4), (2, t_work)] N Λ σ2 (fun v6 σ5 => ((¬ v6 = 0 → (CI l mX11_refused (d - 1) [(2, t), (0, v6)] N Λ σ5 (fun v8 σ7 => P v8 σ7))) ∧ (v6 = 0 → P (σ5 t_straightener 0) σ5)))))) ∧ (v3 = 0 → P (-2) σ2)))))) :
    WI l mX11_steps d P 0 [(2, t), (0, x1), (3, 0)] [] N Λ σ := by
  refine r_aload_n (x := t) d_X11_steps_0 rfl o_t.1 ?_
  refine r_iconst (x := 0) d_X11_steps_1 ⟨by decide, by decide⟩ ?_
  refine r_putI (j := 13) d_X11_steps_2 kX11 (by decide) fl_X11_90 rfl o_t.1 o_t.2.1 o_t.2.2.1 o_t.2.2.2 rfl ?_
  refine r_nmM (fun τ1 eτ1 => ?_)
  have h := h τ1 eτ1
  refine r_iload_n (x := x1) d_X11_steps_5 rfl ?_
  refine r_callS (Y2 := mX11_isShelf) (d := d - 1) (mc := 0) (ms := 0) (As := [(0, x1)]) (S := []) d_X11_steps_6 ok_mX11_isShelf ml_X11_143 rfl (rmc h0d (by decide)) rm00 (Nat.le_of_ble_eq_true rfl) rfl (MC.mono h (fun r N1 Λ1 σ2 hq => ?_))
  obtain ⟨v3, rfl, rfl, rfl, h⟩ := hq
  refine r_if_ne (tgt := 15) d_X11_steps_9 rfl (fun hc => ?_) (fun hc => ?_)
  · have h := h.1 hc
    refine r_aload_n (x := t) d_X11_steps_15 rfl o_t.1 ?_
    refine r_getf (j := 5) (t := 2) (x := t_straightener) d_X11_steps_16 kX11 (by decide) fl_X11_41 o_t.1 o_t.2.1 o_t.2.2.1 o_t.2.2.2 rfl f_t_straightener ?_
    refine r_aload_n (x := t) d_X11_steps_19 rfl o_t.1 ?_
    refine r_getf (j := 0) (t := 2) (x := t_now) d_X11_steps_20 kX11 (by decide) fl_X11_10 o_t.1 o_t.2.1 o_t.2.2.1 o_t.2.2.2 rfl f_t_now ?_
    refine r_getf (j := 0) (t := 2) (x := t_now_shelves) d_X11_steps_23 kX7 (by decide) fl_X11_146 o_t_now.1 o_t_now.2.1 o_t_now.2.2.1 o_t_now.2.2.2 rfl f_t_now_shelves ?_
    refine r_iload_n (x := x1) d_X11_steps_26 rfl ?_
    refine x_aald (t := 3) (by decide) d_X11_steps_27 h.1 (fun b4 eb4 => ?_)
    have h := h.2 b4 eb4
    have oob4 := h.1
    have h := h.2
    refine r_aload_n (x := t) d_X11_steps_28 rfl o_t.1 ?_
    refine r_getf (j := 11) (t := 2) (x := t_work) d_X11_steps_29 kX11 (by decide) fl_X11_83 o_t.1 o_t.2.1 o_t.2.2.1 o_t.2.2.2 rfl f_t_work ?_
    refine r_callV (Y2 := mX8_straighten) (d := d - 1) (mc := 0) (ms := 0) (c := t_straightener) (As := [(2, b4), (2, t_work)]) (S := []) d_X11_steps_32 ok_mX8_straighten ml_X11_212 rfl (rmc h0d (by decide)) rm00 (Nat.le_of_ble_eq_true rfl) rfl kX8 o_t_straightener.1 o_t_straightener.2.1 o_t_straightener.2.2.1 o_t_straightener.2.2.2 (MC.mono h (fun r N1 Λ1 σ5 hq => ?_))
    obtain ⟨v6, rfl, rfl, rfl, h⟩ := hq
    refine r_istore_n (L2 := [(2, t), (0, x1), (0, v6)]) d_X11_steps_35 (by decide) rfl rfl ?_
    refine r_iload_n (x := v6) d_X11_steps_36 rfl ?_
    refine r_if_ne (tgt := 50) d_X11_steps_37 rfl (fun hc => ?_) (fun hc => ?_)
    · have h := h.1 hc
      refine r_aload_n (x := t) d_X11_steps_50 rfl o_t.1 ?_
      refine r_iload_n (x := v6) d_X11_steps_51 rfl ?_
      refine r_callV (Y2 := mX11_refused) (d := d - 1) (mc := 0) (ms := 0) (c := t) (As := [(0, v6)]) (S := []) d_X11_steps_52 ok_mX11_refused ml_X11_271 rfl (rmc h0d (by decide)) rm00 (Nat.le_of_ble_eq_true rfl) rfl kX11 o_t.1 o_t.2.1 o_t.2.2.1 o_t.2.2.2 (MC.mono h (fun r N1 Λ1 σ7 hq => ?_))
      obtain ⟨v8, rfl, rfl, rfl, h⟩ := hq
      exact r_iret d_X11_steps_55 rfl rfl (Nat.le_refl 0) (Nat.le_refl 0) ⟨_, rfl, rfl, rfl, h⟩
    · have h := h.2 hc
      refine r_aload_n (x := t) d_X11_steps_40 rfl o_t.1 ?_
      refine r_getf (j := 5) (t := 2) (x := t_straightener) d_X11_steps_41 kX11 (by decide) fl_X11_41 o_t.1 o_t.2.1 o_t.2.2.1 o_t.2.2.2 rfl f_t_straightener ?_
      refine r_getf (j := 0) (t := 0) (x := (σ5 t_straightener 0)) d_X11_steps_44 kX8 (by decide) fl_X11_268 o_t_straightener.1 o_t_straightener.2.1 o_t_straightener.2.2.1 o_t_straightener.2.2.2 rfl rfl ?_
      refine r_goto (tgt := 55) d_X11_steps_47 rfl ?_
      exact r_iret d_X11_steps_55 rfl rfl (Nat.le_refl 0) (Nat.le_refl 0) ⟨_, rfl, rfl, rfl, h⟩
  · have h := h.2 hc
    refine r_bipush (x := (-2)) d_X11_steps_12 ⟨by decide, by decide⟩ (by decide) ?_
    exact r_iret d_X11_steps_14 rfl rfl (Nat.le_refl 0) (Nat.le_refl 0) ⟨_, rfl, rfl, rfl, h⟩
theorem v_X11_left_0 {l : Launch} {d N : Nat} {Λ : Lay} {P : Int → Mem → Prop} {σ : Mem} {x1 t t_now t_now_shelves t_straightener t_work : Int} (o_t : Ob N Λ t 20 14) (f_t_straightener : (Λ t).2.2 5 = t_straightener) (f_t_now : (Λ t).2.2 0 = t_now) (o_t_now : Ob N Λ t_now 16 3) (f_t_now_shelves : (Λ t_now).2.2 0 = t_now_shelves) (f_t_work : (Λ t).2.2 11 = t_work) (o_t_straightener : Ob N Λ t_straightener 17 2) (o_t_work : Ob N Λ t_work 15 3) (h0d : 1 ≤ d)
    (h : (∀ τ1, τ1 = st σ t 13 0 → (CI l mX11_isShelf (d - 1) [(0, x1)] N Λ τ1 (fun v3 σ2 => ((¬ v3 = 0 → (Ix N Λ t_now_shelves 3 x1 ∧ ∀ b4, b4 = (Λ t_now_shelves).2.2 x1 → Ob N Λ b4 15 3 ∧ (CI l mX8_straighten (d - 1) [(2, t_straightener), (2, b4), (2, t_work)] N Λ σ2 (fun v6 σ5 => ((¬ v6 = 0 → (CI l mX11_refused (d - 1) [(2, t), (0, v6)] N Λ σ5 (fun v8 σ7 => P v8 σ7))) ∧ (v6 = 0 → P (σ5 t_work 2) σ5)))))) ∧ (v3 = 0 → P (-2) σ2)))))) :
    WI l mX11_left d P 0 [(2, t), (0, x1), (3, 0)] [] N Λ σ := by
  refine r_aload_n (x := t) d_X11_left_0 rfl o_t.1 ?_
  refine r_iconst (x := 0) d_X11_left_1 ⟨by decide, by decide⟩ ?_
  refine r_putI (j := 13) d_X11_left_2 kX11 (by decide) fl_X11_90 rfl o_t.1 o_t.2.1 o_t.2.2.1 o_t.2.2.2 rfl ?_
  refine r_nmM (fun τ1 eτ1 => ?_)
  have h := h τ1 eτ1
  refine r_iload_n (x := x1) d_X11_left_5 rfl ?_
  refine r_callS (Y2 := mX11_isShelf) (d := d - 1) (mc := 0) (ms := 0) (As := [(0, x1)]) (S := []) d_X11_left_6 ok_mX11_isShelf ml_X11_143 rfl (rmc h0d (by decide)) rm00 (Nat.le_of_ble_eq_true rfl) rfl (MC.mono h (fun r N1 Λ1 σ2 hq => ?_))
  obtain ⟨v3, rfl, rfl, rfl, h⟩ := hq
  refine r_if_ne (tgt := 15) d_X11_left_9 rfl (fun hc => ?_) (fun hc => ?_)
  · have h := h.1 hc
    refine r_aload_n (x := t) d_X11_left_15 rfl o_t.1 ?_
    refine r_getf (j := 5) (t := 2) (x := t_straightener) d_X11_left_16 kX11 (by decide) fl_X11_41 o_t.1 o_t.2.1 o_t.2.2.1 o_t.2.2.2 rfl f_t_straightener ?_
    refine r_aload_n (x := t) d_X11_left_19 rfl o_t.1 ?_
    refine r_getf (j := 0) (t := 2) (x := t_now) d_X11_left_20 kX11 (by decide) fl_X11_10 o_t.1 o_t.2.1 o_t.2.2.1 o_t.2.2.2 rfl f_t_now ?_
    refine r_getf (j := 0) (t := 2) (x := t_now_shelves) d_X11_left_23 kX7 (by decide) fl_X11_146 o_t_now.1 o_t_now.2.1 o_t_now.2.2.1 o_t_now.2.2.2 rfl f_t_now_shelves ?_
    refine r_iload_n (x := x1) d_X11_left_26 rfl ?_
    refine x_aald (t := 3) (by decide) d_X11_left_27 h.1 (fun b4 eb4 => ?_)
    have h := h.2 b4 eb4
    have oob4 := h.1
    have h := h.2
    refine r_aload_n (x := t) d_X11_left_28 rfl o_t.1 ?_
    refine r_getf (j := 11) (t := 2) (x := t_work) d_X11_left_29 kX11 (by decide) fl_X11_83 o_t.1 o_t.2.1 o_t.2.2.1 o_t.2.2.2 rfl f_t_work ?_
    refine r_callV (Y2 := mX8_straighten) (d := d - 1) (mc := 0) (ms := 0) (c := t_straightener) (As := [(2, b4), (2, t_work)]) (S := []) d_X11_left_32 ok_mX8_straighten ml_X11_212 rfl (rmc h0d (by decide)) rm00 (Nat.le_of_ble_eq_true rfl) rfl kX8 o_t_straightener.1 o_t_straightener.2.1 o_t_straightener.2.2.1 o_t_straightener.2.2.2 (MC.mono h (fun r N1 Λ1 σ5 hq => ?_))
    obtain ⟨v6, rfl, rfl, rfl, h⟩ := hq
    refine r_istore_n (L2 := [(2, t), (0, x1), (0, v6)]) d_X11_left_35 (by decide) rfl rfl ?_
    refine r_iload_n (x := v6) d_X11_left_36 rfl ?_
    refine r_if_ne (tgt := 50) d_X11_left_37 rfl (fun hc => ?_) (fun hc => ?_)
    · have h := h.1 hc
      refine r_aload_n (x := t) d_X11_left_50 rfl o_t.1 ?_
      refine r_iload_n (x := v6) d_X11_left_51 rfl ?_
      refine r_callV (Y2 := mX11_refused) (d := d - 1) (mc := 0) (ms := 0) (c := t) (As := [(0, v6)]) (S := []) d_X11_left_52 ok_mX11_refused ml_X11_271 rfl (rmc h0d (by decide)) rm00 (Nat.le_of_ble_eq_true rfl) rfl kX11 o_t.1 o_t.2.1 o_t.2.2.1 o_t.2.2.2 (MC.mono h (fun r N1 Λ1 σ7 hq => ?_))
      obtain ⟨v8, rfl, rfl, rfl, h⟩ := hq
      exact r_iret d_X11_left_55 rfl rfl (Nat.le_refl 0) (Nat.le_refl 0) ⟨_, rfl, rfl, rfl, h⟩
    · have h := h.2 hc
      refine r_aload_n (x := t) d_X11_left_40 rfl o_t.1 ?_
      refine r_getf (j := 11) (t := 2) (x := t_work) d_X11_left_41 kX11 (by decide) fl_X11_83 o_t.1 o_t.2.1 o_t.2.2.1 o_t.2.2.2 rfl f_t_work ?_
      refine r_getf (j := 2) (t := 0) (x := (σ5 t_work 2)) d_X11_left_44 kX5 (by decide) fl_X11_150 o_t_work.1 o_t_work.2.1 o_t_work.2.2.1 o_t_work.2.2.2 rfl rfl ?_
      refine r_goto (tgt := 55) d_X11_left_47 rfl ?_
      exact r_iret d_X11_left_55 rfl rfl (Nat.le_refl 0) (Nat.le_refl 0) ⟨_, rfl, rfl, rfl, h⟩
  · have h := h.2 hc
    refine r_bipush (x := (-2)) d_X11_left_12 ⟨by decide, by decide⟩ (by decide) ?_
    exact r_iret d_X11_left_14 rfl rfl (Nat.le_refl 0) (Nat.le_refl 0) ⟨_, rfl, rfl, rfl, h⟩
theorem v_X11_equal_0 {l : Launch} {d N : Nat} {Λ : Lay} {P : Int → Mem → Prop} {σ : Mem} {x1 x2 t t_now t_now_shelves t_other t_straightener t_work : Int} (o_t : Ob N Λ t 20 14) (f_t_straightener : (Λ t).2.2 5 = t_straightener) (f_t_now : (Λ t).2.2 0 = t_now) (o_t_now : Ob N Λ t_now 16 3) (f_t_now_shelves : (Λ t_now).2.2 0 = t_now_shelves) (f_t_work : (Λ t).2.2 11 = t_work) (o_t_straightener : Ob N Λ t_straightener 17 2) (f_t_other : (Λ t).2.2 12 = t_other) (o_t_work : Ob N Λ t_work 15 3) (h0d : 1 ≤ d)
    (h : (∀ τ1, τ1 = st σ t 13 0 → (CI l mX11_isShelf (d - 1) [(0, x1)] N Λ τ1 (fun v3 σ2 => ((v3 = 0 → P (-2) σ2) ∧ (¬ (v3 = 0) → (CI l mX11_isShelf (d - 1) [(0, x2)] N Λ σ2 (fun v5 σ4 => ((¬ v5 = 0 → (Ix N Λ t_now_shelves 3 x1 ∧ ∀ b6, b6 = (Λ t_now_shelves).2.2 x1 → Ob N Λ b6 15 3 ∧ (CI l mX8_straighten (d - 1) [(2, t_straightener), (2, b6), (2, t_work)] N Λ σ4 (fun v8 σ7 => ((¬ v8 = 0 → ((v8 = 0 → (CI l mX5_isLike (d - 1) [(2, t_work), (2, t_other)] N Λ σ7 (fun v10 σ9 => ((v10 = 0 → P 0 σ9) ∧ (¬ (v10 = 0) → P 1 σ9))))) ∧ (¬ (v8 = 0) → (CI l mX11_refused (d - 1) [(2, t), (0, v8)] N Λ σ7 (fun v12 σ11 => P v12 σ11))))) ∧ (v8 = 0 → (Ix N Λ t_now_shelves 3 x2 ∧ ∀ b13, b13 = (Λ t_now_shelves).2.2 x2 → Ob N Λ b13 15 3 ∧ (CI l mX8_straighten (d - 1) [(2, t_straightener), (2, b13), (2, t_other)] N Λ σ7 (fun v15 σ14 => ((v15 = 0 → (CI l mX5_isLike (d - 1) [(2, t_work), (2, t_other)] N Λ σ14 (fun v17 σ16 => ((v17 = 0 → P 0 σ16) ∧ (¬ (v17 = 0) → P 1 σ16))))) ∧ (¬ (v15 = 0) → (CI l mX11_refused (d - 1) [(2, t), (0, v15)] N Λ σ14 (fun v19 σ18 => P v19 σ18))))))))))))) ∧ (v5 = 0 → P (-2) σ4)))))))))) :
    WI l mX11_equal d P 0 [(2, t), (0, x1), (0, x2), (3, 0)] [] N Λ σ := by
  refine r_aload_n (x := t) d_X11_equal_0 rfl o_t.1 ?_
  refine r_iconst (x := 0) d_X11_equal_1 ⟨by decide, by decide⟩ ?_
  refine r_putI (j := 13) d_X11_equal_2 kX11 (by decide) fl_X11_90 rfl o_t.1 o_t.2.1 o_t.2.2.1 o_t.2.2.2 rfl ?_
  refine r_nmM (fun τ1 eτ1 => ?_)
  have h := h τ1 eτ1
  refine r_iload_n (x := x1) d_X11_equal_5 rfl ?_
  refine r_callS (Y2 := mX11_isShelf) (d := d - 1) (mc := 0) (ms := 0) (As := [(0, x1)]) (S := []) d_X11_equal_6 ok_mX11_isShelf ml_X11_143 rfl (rmc h0d (by decide)) rm00 (Nat.le_of_ble_eq_true rfl) rfl (MC.mono h (fun r N1 Λ1 σ2 hq => ?_))
  obtain ⟨v3, rfl, rfl, rfl, h⟩ := hq
  refine r_if_eq (tgt := 19) d_X11_equal_9 rfl (fun hc => ?_) (fun hc => ?_)
  · have h := h.1 hc
    refine r_bipush (x := (-2)) d_X11_equal_19 ⟨by decide, by decide⟩ (by decide) ?_
    exact r_iret d_X11_equal_21 rfl rfl (Nat.le_refl 0) (Nat.le_refl 0) ⟨_, rfl, rfl, rfl, h⟩
  · have h := h.2 hc
    refine r_iload_n (x := x2) d_X11_equal_12 rfl ?_
    refine r_callS (Y2 := mX11_isShelf) (d := d - 1) (mc := 0) (ms := 0) (As := [(0, x2)]) (S := []) d_X11_equal_13 ok_mX11_isShelf ml_X11_143 rfl (rmc h0d (by decide)) rm00 (Nat.le_of_ble_eq_true rfl) rfl (MC.mono h (fun r N1 Λ1 σ4 hq => ?_))
    obtain ⟨v5, rfl, rfl, rfl, h⟩ := hq
    refine r_if_ne (tgt := 22) d_X11_equal_16 rfl (fun hc => ?_) (fun hc => ?_)
    · have h := h.1 hc
      refine r_aload_n (x := t) d_X11_equal_22 rfl o_t.1 ?_
      refine r_getf (j := 5) (t := 2) (x := t_straightener) d_X11_equal_23 kX11 (by decide) fl_X11_41 o_t.1 o_t.2.1 o_t.2.2.1 o_t.2.2.2 rfl f_t_straightener ?_
      refine r_aload_n (x := t) d_X11_equal_26 rfl o_t.1 ?_
      refine r_getf (j := 0) (t := 2) (x := t_now) d_X11_equal_27 kX11 (by decide) fl_X11_10 o_t.1 o_t.2.1 o_t.2.2.1 o_t.2.2.2 rfl f_t_now ?_
      refine r_getf (j := 0) (t := 2) (x := t_now_shelves) d_X11_equal_30 kX7 (by decide) fl_X11_146 o_t_now.1 o_t_now.2.1 o_t_now.2.2.1 o_t_now.2.2.2 rfl f_t_now_shelves ?_
      refine r_iload_n (x := x1) d_X11_equal_33 rfl ?_
      refine x_aald (t := 3) (by decide) d_X11_equal_34 h.1 (fun b6 eb6 => ?_)
      have h := h.2 b6 eb6
      have oob6 := h.1
      have h := h.2
      refine r_aload_n (x := t) d_X11_equal_35 rfl o_t.1 ?_
      refine r_getf (j := 11) (t := 2) (x := t_work) d_X11_equal_36 kX11 (by decide) fl_X11_83 o_t.1 o_t.2.1 o_t.2.2.1 o_t.2.2.2 rfl f_t_work ?_
      refine r_callV (Y2 := mX8_straighten) (d := d - 1) (mc := 0) (ms := 0) (c := t_straightener) (As := [(2, b6), (2, t_work)]) (S := []) d_X11_equal_39 ok_mX8_straighten ml_X11_212 rfl (rmc h0d (by decide)) rm00 (Nat.le_of_ble_eq_true rfl) rfl kX8 o_t_straightener.1 o_t_straightener.2.1 o_t_straightener.2.2.1 o_t_straightener.2.2.2 (MC.mono h (fun r N1 Λ1 σ7 hq => ?_))
      obtain ⟨v8, rfl, rfl, rfl, h⟩ := hq
      refine r_istore_n (L2 := [(2, t), (0, x1), (0, x2), (0, v8)]) d_X11_equal_42 (by decide) rfl rfl ?_
      refine r_iload_n (x := v8) d_X11_equal_43 rfl ?_
      refine r_if_ne (tgt := 68) d_X11_equal_44 rfl (fun hc => ?_) (fun hc => ?_)
      · have h := h.1 hc
        refine r_iload_n (x := v8) d_X11_equal_68 rfl ?_
        refine r_if_eq (tgt := 78) d_X11_equal_69 rfl (fun hc => ?_) (fun hc => ?_)
        · have h := h.1 hc
          refine r_aload_n (x := t) d_X11_equal_78 rfl o_t.1 ?_
          refine r_getf (j := 11) (t := 2) (x := t_work) d_X11_equal_79 kX11 (by decide) fl_X11_83 o_t.1 o_t.2.1 o_t.2.2.1 o_t.2.2.2 rfl f_t_work ?_
          refine r_aload_n (x := t) d_X11_equal_82 rfl o_t.1 ?_
          refine r_getf (j := 12) (t := 2) (x := t_other) d_X11_equal_83 kX11 (by decide) fl_X11_87 o_t.1 o_t.2.1 o_t.2.2.1 o_t.2.2.2 rfl f_t_other ?_
          refine r_callV (Y2 := mX5_isLike) (d := d - 1) (mc := 0) (ms := 0) (c := t_work) (As := [(2, t_other)]) (S := []) d_X11_equal_86 ok_mX5_isLike ml_X11_274 rfl (rmc h0d (by decide)) rm00 (Nat.le_of_ble_eq_true rfl) rfl kX5 o_t_work.1 o_t_work.2.1 o_t_work.2.2.1 o_t_work.2.2.2 (MC.mono h (fun r N1 Λ1 σ9 hq => ?_))
          obtain ⟨v10, rfl, rfl, rfl, h⟩ := hq
          refine r_if_eq (tgt := 96) d_X11_equal_89 rfl (fun hc => ?_) (fun hc => ?_)
          · have h := h.1 hc
            refine r_iconst (x := 0) d_X11_equal_96 ⟨by decide, by decide⟩ ?_
            exact r_iret d_X11_equal_97 rfl rfl (Nat.le_refl 0) (Nat.le_refl 0) ⟨_, rfl, rfl, rfl, h⟩
          · have h := h.2 hc
            refine r_iconst (x := 1) d_X11_equal_92 ⟨by decide, by decide⟩ ?_
            refine r_goto (tgt := 97) d_X11_equal_93 rfl ?_
            exact r_iret d_X11_equal_97 rfl rfl (Nat.le_refl 0) (Nat.le_refl 0) ⟨_, rfl, rfl, rfl, h⟩
        · have h := h.2 hc
          refine r_aload_n (x := t) d_X11_equal_72 rfl o_t.1 ?_
          refine r_iload_n (x := v8) d_X11_equal_73 rfl ?_
          refine r_callV (Y2 := mX11_refused) (d := d - 1) (mc := 0) (ms := 0) (c := t) (As := [(0, v8)]) (S := []) d_X11_equal_74 ok_mX11_refused ml_X11_271 rfl (rmc h0d (by decide)) rm00 (Nat.le_of_ble_eq_true rfl) rfl kX11 o_t.1 o_t.2.1 o_t.2.2.1 o_t.2.2.2 (MC.mono h (fun r N1 Λ1 σ11 hq => ?_))
          obtain ⟨v12, rfl, rfl, rfl, h⟩ := hq
          exact r_iret d_X11_equal_77 rfl rfl (Nat.le_refl 0) (Nat.le_refl 0) ⟨_, rfl, rfl, rfl, h⟩
      · have h := h.2 hc
        refine r_aload_n (x := t) d_X11_equal_47 rfl o_t.1 ?_
        refine r_getf (j := 5) (t := 2) (x := t_straightener) d_X11_equal_48 kX11 (by decide) fl_X11_41 o_t.1 o_t.2.1 o_t.2.2.1 o_t.2.2.2 rfl f_t_straightener ?_
        refine r_aload_n (x := t) d_X11_equal_51 rfl o_t.1 ?_
        refine r_getf (j := 0) (t := 2) (x := t_now) d_X11_equal_52 kX11 (by decide) fl_X11_10 o_t.1 o_t.2.1 o_t.2.2.1 o_t.2.2.2 rfl f_t_now ?_
        refine r_getf (j := 0) (t := 2) (x := t_now_shelves) d_X11_equal_55 kX7 (by decide) fl_X11_146 o_t_now.1 o_t_now.2.1 o_t_now.2.2.1 o_t_now.2.2.2 rfl f_t_now_shelves ?_
        refine r_iload_n (x := x2) d_X11_equal_58 rfl ?_
        refine x_aald (t := 3) (by decide) d_X11_equal_59 h.1 (fun b13 eb13 => ?_)
        have h := h.2 b13 eb13
        have oob13 := h.1
        have h := h.2
        refine r_aload_n (x := t) d_X11_equal_60 rfl o_t.1 ?_
        refine r_getf (j := 12) (t := 2) (x := t_other) d_X11_equal_61 kX11 (by decide) fl_X11_87 o_t.1 o_t.2.1 o_t.2.2.1 o_t.2.2.2 rfl f_t_other ?_
        refine r_callV (Y2 := mX8_straighten) (d := d - 1) (mc := 0) (ms := 0) (c := t_straightener) (As := [(2, b13), (2, t_other)]) (S := []) d_X11_equal_64 ok_mX8_straighten ml_X11_212 rfl (rmc h0d (by decide)) rm00 (Nat.le_of_ble_eq_true rfl) rfl kX8 o_t_straightener.1 o_t_straightener.2.1 o_t_straightener.2.2.1 o_t_straightener.2.2.2 (MC.mono h (fun r N1 Λ1 σ14 hq => ?_))
        obtain ⟨v15, rfl, rfl, rfl, h⟩ := hq
        refine r_istore_n (L2 := [(2, t), (0, x1), (0, x2), (0, v15)]) d_X11_equal_67 (by decide) rfl rfl ?_
        refine r_iload_n (x := v15) d_X11_equal_68 rfl ?_
        refine r_if_eq (tgt := 78) d_X11_equal_69 rfl (fun hc => ?_) (fun hc => ?_)
        · have h := h.1 hc
          refine r_aload_n (x := t) d_X11_equal_78 rfl o_t.1 ?_
          refine r_getf (j := 11) (t := 2) (x := t_work) d_X11_equal_79 kX11 (by decide) fl_X11_83 o_t.1 o_t.2.1 o_t.2.2.1 o_t.2.2.2 rfl f_t_work ?_
          refine r_aload_n (x := t) d_X11_equal_82 rfl o_t.1 ?_
          refine r_getf (j := 12) (t := 2) (x := t_other) d_X11_equal_83 kX11 (by decide) fl_X11_87 o_t.1 o_t.2.1 o_t.2.2.1 o_t.2.2.2 rfl f_t_other ?_
          refine r_callV (Y2 := mX5_isLike) (d := d - 1) (mc := 0) (ms := 0) (c := t_work) (As := [(2, t_other)]) (S := []) d_X11_equal_86 ok_mX5_isLike ml_X11_274 rfl (rmc h0d (by decide)) rm00 (Nat.le_of_ble_eq_true rfl) rfl kX5 o_t_work.1 o_t_work.2.1 o_t_work.2.2.1 o_t_work.2.2.2 (MC.mono h (fun r N1 Λ1 σ16 hq => ?_))
          obtain ⟨v17, rfl, rfl, rfl, h⟩ := hq
          refine r_if_eq (tgt := 96) d_X11_equal_89 rfl (fun hc => ?_) (fun hc => ?_)
          · have h := h.1 hc
            refine r_iconst (x := 0) d_X11_equal_96 ⟨by decide, by decide⟩ ?_
            exact r_iret d_X11_equal_97 rfl rfl (Nat.le_refl 0) (Nat.le_refl 0) ⟨_, rfl, rfl, rfl, h⟩
          · have h := h.2 hc
            refine r_iconst (x := 1) d_X11_equal_92 ⟨by decide, by decide⟩ ?_
            refine r_goto (tgt := 97) d_X11_equal_93 rfl ?_
            exact r_iret d_X11_equal_97 rfl rfl (Nat.le_refl 0) (Nat.le_refl 0) ⟨_, rfl, rfl, rfl, h⟩
        · have h := h.2 hc
          refine r_aload_n (x := t) d_X11_equal_72 rfl o_t.1 ?_
          refine r_iload_n (x := v15) d_X11_equal_73 rfl ?_
          refine r_callV (Y2 := mX11_refused) (d := d - 1) (mc := 0) (ms := 0) (c := t) (As := [(0, v15)]) (S := []) d_X11_equal_74 ok_mX11_refused ml_X11_271 rfl (rmc h0d (by decide)) rm00 (Nat.le_of_ble_eq_true rfl) rfl kX11 o_t.1 o_t.2.1 o_t.2.2.1 o_t.2.2.2 (MC.mono h (fun r N1 Λ1 σ18 hq => ?_))
          obtain ⟨v19, rfl, rfl, rfl, h⟩ := hq
          exact r_iret d_X11_equal_77 rfl rfl (Nat.le_refl 0) (Nat.le_refl 0) ⟨_, rfl, rfl, rfl, h⟩
    · have h := h.2 hc
      refine r_bipush (x := (-2)) d_X11_equal_19 ⟨by decide, by decide⟩ (by decide) ?_
      exact r_iret d_X11_equal_21 rfl rfl (Nat.le_refl 0) (Nat.le_refl 0) ⟨_, rfl, rfl, rfl, h⟩
theorem v_X11_forms_0 {l : Launch} {d N : Nat} {Λ : Lay} {P : Int → Mem → Prop} {σ : Mem} {x1 t t_forms t_now t_now_shelves : Int} (o_t : Ob N Λ t 20 14) (f_t_now : (Λ t).2.2 0 = t_now) (o_t_now : Ob N Λ t_now 16 3) (f_t_now_shelves : (Λ t_now).2.2 0 = t_now_shelves) (f_t_forms : (Λ t).2.2 7 = t_forms) (o_t_forms : Ob N Λ t_forms 13 5) (h0d : 1 ≤ d)
    (h : (CI l mX11_isShelf (d - 1) [(0, x1)] N Λ σ (fun v2 σ1 => ((¬ v2 = 0 → (Ix N Λ t_now_shelves 3 x1 ∧ ∀ b3, b3 = (Λ t_now_shelves).2.2 x1 → Ob N Λ b3 15 3 ∧ ((¬ (σ1 b3 2) = 0 → (∀ b4, b4 = (Λ b3).2.2 0 → (Ix N Λ b4 1 0 ∧ (CI l mX3_countAll (d - 1) [(2, t_forms), (1, (σ1 b4 0))] N Λ σ1 (fun v6 σ5 => P v6 σ5))))) ∧ ((σ1 b3 2) = 0 → P (-1) σ1)))) ∧ (v2 = 0 → P (-2) σ1))))) :
    WI l mX11_forms d P 0 [(2, t), (0, x1), (3, 0)] [] N Λ σ := by
  refine r_iload_n (x := x1) d_X11_forms_0 rfl ?_
  refine r_callS (Y2 := mX11_isShelf) (d := d - 1) (mc := 0) (ms := 0) (As := [(0, x1)]) (S := []) d_X11_forms_1 ok_mX11_isShelf ml_X11_143 rfl (rmc h0d (by decide)) rm00 (Nat.le_of_ble_eq_true rfl) rfl (MC.mono h (fun r N1 Λ1 σ1 hq => ?_))
  obtain ⟨v2, rfl, rfl, rfl, h⟩ := hq
  refine r_if_ne (tgt := 10) d_X11_forms_4 rfl (fun hc => ?_) (fun hc => ?_)
  · have h := h.1 hc
    refine r_aload_n (x := t) d_X11_forms_10 rfl o_t.1 ?_
    refine r_getf (j := 0) (t := 2) (x := t_now) d_X11_forms_11 kX11 (by decide) fl_X11_10 o_t.1 o_t.2.1 o_t.2.2.1 o_t.2.2.2 rfl f_t_now ?_
    refine r_getf (j := 0) (t := 2) (x := t_now_shelves) d_X11_forms_14 kX7 (by decide) fl_X11_146 o_t_now.1 o_t_now.2.1 o_t_now.2.2.1 o_t_now.2.2.2 rfl f_t_now_shelves ?_
    refine r_iload_n (x := x1) d_X11_forms_17 rfl ?_
    refine x_aald (t := 3) (by decide) d_X11_forms_18 h.1 (fun b3 eb3 => ?_)
    have h := h.2 b3 eb3
    have oob3 := h.1
    have h := h.2
    refine r_astore_n (L2 := [(2, t), (0, x1), (2, b3)]) d_X11_forms_19 (by decide) rfl rfl oob3.1 ?_
    refine r_aload_n (x := b3) d_X11_forms_20 rfl oob3.1 ?_
    refine r_getf (j := 2) (t := 0) (x := (σ1 b3 2)) d_X11_forms_21 kX5 (by decide) fl_X11_150 oob3.1 oob3.2.1 oob3.2.2.1 oob3.2.2.2 rfl rfl ?_
    refine r_if_ne (tgt := 31) d_X11_forms_24 rfl (fun hc => ?_) (fun hc => ?_)
    · have h := h.1 hc
      refine r_aload_n (x := t) d_X11_forms_31 rfl o_t.1 ?_
      refine r_getf (j := 7) (t := 2) (x := t_forms) d_X11_forms_32 kX11 (by decide) fl_X11_55 o_t.1 o_t.2.1 o_t.2.2.1 o_t.2.2.2 rfl f_t_forms ?_
      refine r_aload_n (x := b3) d_X11_forms_35 rfl oob3.1 ?_
      refine r_nmR (j := 0) d_X11_forms_36 kX5 (by decide) fl_X11_241 oob3 rfl (fun b4 eb4 => ?_)
      have h := h b4 eb4
      refine r_iconst (x := 0) d_X11_forms_39 ⟨by decide, by decide⟩ ?_
      refine x_lald d_X11_forms_40 h.1 ?_
      have h := h.2
      refine r_callV (Y2 := mX3_countAll) (d := d - 1) (mc := 0) (ms := 0) (c := t_forms) (As := [(1, (σ1 b4 0))]) (S := []) d_X11_forms_41 ok_mX3_countAll ml_X11_278 rfl (rmc h0d (by decide)) rm00 (Nat.le_of_ble_eq_true rfl) rfl kX3 o_t_forms.1 o_t_forms.2.1 o_t_forms.2.2.1 o_t_forms.2.2.2 (MC.mono h (fun r N1 Λ1 σ5 hq => ?_))
      obtain ⟨v6, rfl, rfl, rfl, h⟩ := hq
      exact r_iret d_X11_forms_44 rfl rfl (Nat.le_refl 0) (Nat.le_refl 0) ⟨_, rfl, rfl, rfl, h⟩
    · have h := h.2 hc
      refine r_iconst (x := (-1)) d_X11_forms_27 ⟨by decide, by decide⟩ ?_
      refine r_goto (tgt := 44) d_X11_forms_28 rfl ?_
      exact r_iret d_X11_forms_44 rfl rfl (Nat.le_refl 0) (Nat.le_refl 0) ⟨_, rfl, rfl, rfl, h⟩
  · have h := h.2 hc
    refine r_bipush (x := (-2)) d_X11_forms_7 ⟨by decide, by decide⟩ (by decide) ?_
    exact r_iret d_X11_forms_9 rfl rfl (Nat.le_refl 0) (Nat.le_refl 0) ⟨_, rfl, rfl, rfl, h⟩
theorem v_X11_form_0 {l : Launch} {d N : Nat} {Λ : Lay} {P : Int → Mem → Prop} {σ : Mem} {x1 x2 x3 t t_forms t_now t_now_shelves : Int} (o_t : Ob N Λ t 20 14) (f_t_now : (Λ t).2.2 0 = t_now) (o_t_now : Ob N Λ t_now 16 3) (f_t_now_shelves : (Λ t_now).2.2 0 = t_now_shelves) (f_t_forms : (Λ t).2.2 7 = t_forms) (o_t_forms : Ob N Λ t_forms 13 5) (h0d : 1 ≤ d)
    (h : (CI l mX11_isShelf (d - 1) [(0, x1)] N Λ σ (fun v2 σ1 => ((¬ v2 = 0 → ((x2 < 0 → P (-3) σ1) ∧ (¬ (x2 < 0) → ((0 ≤ x3 → (Ix N Λ t_now_shelves 3 x1 ∧ ∀ b3, b3 = (Λ t_now_shelves).2.2 x1 → Ob N Λ b3 15 3 ∧ ((¬ (σ1 b3 2) = 0 → (∀ b4, b4 = (Λ b3).2.2 0 → (Ix N Λ b4 1 0 ∧ (CI l mX3_letterOf (d - 1) [(2, t_forms), (1, (σ1 b4 0)), (0, x2), (0, x3)] N Λ σ1 (fun v6 σ5 => P v6 σ5))))) ∧ ((σ1 b3 2) = 0 → P (-1) σ1)))) ∧ (¬ (0 ≤ x3) → P (-3) σ1))))) ∧ (v2 = 0 → P (-2) σ1))))) :
    WI l mX11_form d P 0 [(2, t), (0, x1), (0, x2), (0, x3), (3, 0)] [] N Λ σ := by
  refine r_iload_n (x := x1) d_X11_form_0 rfl ?_
  refine r_callS (Y2 := mX11_isShelf) (d := d - 1) (mc := 0) (ms := 0) (As := [(0, x1)]) (S := []) d_X11_form_1 ok_mX11_isShelf ml_X11_143 rfl (rmc h0d (by decide)) rm00 (Nat.le_of_ble_eq_true rfl) rfl (MC.mono h (fun r N1 Λ1 σ1 hq => ?_))
  obtain ⟨v2, rfl, rfl, rfl, h⟩ := hq
  refine r_if_ne (tgt := 10) d_X11_form_4 rfl (fun hc => ?_) (fun hc => ?_)
  · have h := h.1 hc
    refine r_iload_n (x := x2) d_X11_form_10 rfl ?_
    refine r_if_lt (tgt := 18) d_X11_form_11 rfl (fun hc => ?_) (fun hc => ?_)
    · have h := h.1 hc
      refine r_bipush (x := (-3)) d_X11_form_18 ⟨by decide, by decide⟩ (by decide) ?_
      exact r_iret d_X11_form_20 rfl rfl (Nat.le_refl 0) (Nat.le_refl 0) ⟨_, rfl, rfl, rfl, h⟩
    · have h := h.2 hc
      refine r_iload_n (x := x3) d_X11_form_14 rfl ?_
      refine r_if_ge (tgt := 21) d_X11_form_15 rfl (fun hc => ?_) (fun hc => ?_)
      · have h := h.1 hc
        refine r_aload_n (x := t) d_X11_form_21 rfl o_t.1 ?_
        refine r_getf (j := 0) (t := 2) (x := t_now) d_X11_form_22 kX11 (by decide) fl_X11_10 o_t.1 o_t.2.1 o_t.2.2.1 o_t.2.2.2 rfl f_t_now ?_
        refine r_getf (j := 0) (t := 2) (x := t_now_shelves) d_X11_form_25 kX7 (by decide) fl_X11_146 o_t_now.1 o_t_now.2.1 o_t_now.2.2.1 o_t_now.2.2.2 rfl f_t_now_shelves ?_
        refine r_iload_n (x := x1) d_X11_form_28 rfl ?_
        refine x_aald (t := 3) (by decide) d_X11_form_29 h.1 (fun b3 eb3 => ?_)
        have h := h.2 b3 eb3
        have oob3 := h.1
        have h := h.2
        refine r_astore (L2 := [(2, t), (0, x1), (0, x2), (0, x3), (2, b3)]) d_X11_form_30 (by decide) rfl rfl oob3.1 ?_
        refine r_aload (x := b3) d_X11_form_32 rfl oob3.1 ?_
        refine r_getf (j := 2) (t := 0) (x := (σ1 b3 2)) d_X11_form_34 kX5 (by decide) fl_X11_150 oob3.1 oob3.2.1 oob3.2.2.1 oob3.2.2.2 rfl rfl ?_
        refine r_if_ne (tgt := 44) d_X11_form_37 rfl (fun hc => ?_) (fun hc => ?_)
        · have h := h.1 hc
          refine r_aload_n (x := t) d_X11_form_44 rfl o_t.1 ?_
          refine r_getf (j := 7) (t := 2) (x := t_forms) d_X11_form_45 kX11 (by decide) fl_X11_55 o_t.1 o_t.2.1 o_t.2.2.1 o_t.2.2.2 rfl f_t_forms ?_
          refine r_aload (x := b3) d_X11_form_48 rfl oob3.1 ?_
          refine r_nmR (j := 0) d_X11_form_50 kX5 (by decide) fl_X11_241 oob3 rfl (fun b4 eb4 => ?_)
          have h := h b4 eb4
          refine r_iconst (x := 0) d_X11_form_53 ⟨by decide, by decide⟩ ?_
          refine x_lald d_X11_form_54 h.1 ?_
          have h := h.2
          refine r_iload_n (x := x2) d_X11_form_55 rfl ?_
          refine r_iload_n (x := x3) d_X11_form_56 rfl ?_
          refine r_callV (Y2 := mX3_letterOf) (d := d - 1) (mc := 0) (ms := 0) (c := t_forms) (As := [(1, (σ1 b4 0)), (0, x2), (0, x3)]) (S := []) d_X11_form_57 ok_mX3_letterOf ml_X11_281 rfl (rmc h0d (by decide)) rm00 (Nat.le_of_ble_eq_true rfl) rfl kX3 o_t_forms.1 o_t_forms.2.1 o_t_forms.2.2.1 o_t_forms.2.2.2 (MC.mono h (fun r N1 Λ1 σ5 hq => ?_))
          obtain ⟨v6, rfl, rfl, rfl, h⟩ := hq
          exact r_iret d_X11_form_60 rfl rfl (Nat.le_refl 0) (Nat.le_refl 0) ⟨_, rfl, rfl, rfl, h⟩
        · have h := h.2 hc
          refine r_iconst (x := (-1)) d_X11_form_40 ⟨by decide, by decide⟩ ?_
          refine r_goto (tgt := 60) d_X11_form_41 rfl ?_
          exact r_iret d_X11_form_60 rfl rfl (Nat.le_refl 0) (Nat.le_refl 0) ⟨_, rfl, rfl, rfl, h⟩
      · have h := h.2 hc
        refine r_bipush (x := (-3)) d_X11_form_18 ⟨by decide, by decide⟩ (by decide) ?_
        exact r_iret d_X11_form_20 rfl rfl (Nat.le_refl 0) (Nat.le_refl 0) ⟨_, rfl, rfl, rfl, h⟩
  · have h := h.2 hc
    refine r_bipush (x := (-2)) d_X11_form_7 ⟨by decide, by decide⟩ (by decide) ?_
    exact r_iret d_X11_form_9 rfl rfl (Nat.le_refl 0) (Nat.le_refl 0) ⟨_, rfl, rfl, rfl, h⟩
theorem v_X11_rank_0 {l : Launch} {d N : Nat} {Λ : Lay} {P : Int → Mem → Prop} {σ : Mem} {x1 t t_elimination : Int} (o_t : Ob N Λ t 20 14) (f_t_elimination : (Λ t).2.2 8 = t_elimination) (o_t_elimination : Ob N Λ t_elimination 10 4) (h0d : 1 ≤ d)
    (h : (∀ τ1, τ1 = st σ t 13 0 → ((x1 < 0 → P (-2) τ1) ∧ (¬ (x1 < 0) → ((x1 < 64 → (CV l mX0_begin (d - 1) [(2, t_elimination)] N Λ τ1 (fun σ2 => WI l mX11_rank d P 27 [(2, t), (0, x1), (0, 0), (3, 0)] [] N Λ σ2))) ∧ (¬ (x1 < 64) → P (-2) τ1)))))) :
    WI l mX11_rank d P 0 [(2, t), (0, x1), (3, 0), (3, 0)] [] N Λ σ := by
  refine r_aload_n (x := t) d_X11_rank_0 rfl o_t.1 ?_
  refine r_iconst (x := 0) d_X11_rank_1 ⟨by decide, by decide⟩ ?_
  refine r_putI (j := 13) d_X11_rank_2 kX11 (by decide) fl_X11_90 rfl o_t.1 o_t.2.1 o_t.2.2.1 o_t.2.2.2 rfl ?_
  refine r_nmM (fun τ1 eτ1 => ?_)
  have h := h τ1 eτ1
  refine r_iload_n (x := x1) d_X11_rank_5 rfl ?_
  refine r_if_lt (tgt := 15) d_X11_rank_6 rfl (fun hc => ?_) (fun hc => ?_)
  · have h := h.1 hc
    refine r_bipush (x := (-2)) d_X11_rank_15 ⟨by decide, by decide⟩ (by decide) ?_
    exact r_iret d_X11_rank_17 rfl rfl (Nat.le_refl 0) (Nat.le_refl 0) ⟨_, rfl, rfl, rfl, h⟩
  · have h := h.2 hc
    refine r_iload_n (x := x1) d_X11_rank_9 rfl ?_
    refine r_bipush (x := 64) d_X11_rank_10 ⟨by decide, by decide⟩ (by decide) ?_
    refine r_ic_lt (tgt := 18) d_X11_rank_12 rfl (fun hc => ?_) (fun hc => ?_)
    · have h := h.1 hc
      refine r_aload_n (x := t) d_X11_rank_18 rfl o_t.1 ?_
      refine r_getf (j := 8) (t := 2) (x := t_elimination) d_X11_rank_19 kX11 (by decide) fl_X11_62 o_t.1 o_t.2.1 o_t.2.2.1 o_t.2.2.2 rfl f_t_elimination ?_
      refine r_callV (Y2 := mX0_begin) (d := d - 1) (mc := 0) (ms := 0) (c := t_elimination) (As := []) (S := []) d_X11_rank_22 ok_mX0_begin ml_X11_285 rfl (rmc h0d (by decide)) rm00 (Nat.le_of_ble_eq_true rfl) rfl kX0 o_t_elimination.1 o_t_elimination.2.1 o_t_elimination.2.2.1 o_t_elimination.2.2.2 (MC.mono h (fun r N1 Λ1 σ2 hq => ?_))
      obtain ⟨rfl, rfl, rfl, h⟩ := hq
      refine r_iconst (x := 0) d_X11_rank_25 ⟨by decide, by decide⟩ ?_
      refine r_istore_n (L2 := [(2, t), (0, x1), (0, 0), (3, 0)]) d_X11_rank_26 (by decide) rfl rfl ?_
      exact h
    · have h := h.2 hc
      refine r_bipush (x := (-2)) d_X11_rank_15 ⟨by decide, by decide⟩ (by decide) ?_
      exact r_iret d_X11_rank_17 rfl rfl (Nat.le_refl 0) (Nat.le_refl 0) ⟨_, rfl, rfl, rfl, h⟩
theorem v_X11_rank_27 {l : Launch} {d N : Nat} {Λ : Lay} {P : Int → Mem → Prop} {σ : Mem} {x1 x2 t t_elimination t_now t_now_shelves t_straightener t_work : Int} (o_t : Ob N Λ t 20 14) (f_t_elimination : (Λ t).2.2 8 = t_elimination) (o_t_elimination : Ob N Λ t_elimination 10 4) (f_t_straightener : (Λ t).2.2 5 = t_straightener) (f_t_now : (Λ t).2.2 0 = t_now) (o_t_now : Ob N Λ t_now 16 3) (f_t_now_shelves : (Λ t_now).2.2 0 = t_now_shelves) (f_t_work : (Λ t).2.2 11 = t_work) (o_t_straightener : Ob N Λ t_straightener 17 2) (h0d : 1 ≤ d)
    (h : ((6 ≤ x2 → (CI l mX0_independentRows (d - 1) [(2, t_elimination)] N Λ σ (fun v2 σ1 => P v2 σ1))) ∧ (¬ (6 ≤ x2) → ((¬ (andI (shrI x1 x2) 1) = 1 → (∀ y3, y3 = addI x2 1 → WI l mX11_rank d P 27 [(2, t), (0, x1), (0, y3), (3, 0)] [] N Λ σ)) ∧ ((andI (shrI x1 x2) 1) = 1 → (Ix N Λ t_now_shelves 3 x2 ∧ ∀ b4, b4 = (Λ t_now_shelves).2.2 x2 → Ob N Λ b4 15 3 ∧ (CI l mX8_straighten (d - 1) [(2, t_straightener), (2, b4), (2, t_work)] N Λ σ (fun v6 σ5 => ((v6 = 0 → (CV l mX0_takeRow (d - 1) [(2, t_elimination), (2, t_work)] N Λ σ5 (fun σ7 => (∀ y8, y8 = addI x2 1 → WI l mX11_rank d P 27 [(2, t), (0, x1), (0, y8), (3, 0)] [] N Λ σ7)))) ∧ (¬ (v6 = 0) → (CI l mX11_refused (d - 1) [(2, t), (0, v6)] N Λ σ5 (fun v10 σ9 => P v10 σ9)))))))))))) :
    WI l mX11_rank d P 27 [(2, t), (0, x1), (0, x2), (3, 0)] [] N Λ σ := by
  refine r_iload_n (x := x2) d_X11_rank_27 rfl ?_
  refine r_bipush (x := 6) d_X11_rank_28 ⟨by decide, by decide⟩ (by decide) ?_
  refine r_ic_ge (tgt := 90) d_X11_rank_30 rfl (fun hc => ?_) (fun hc => ?_)
  · have h := h.1 hc
    refine r_aload_n (x := t) d_X11_rank_90 rfl o_t.1 ?_
    refine r_getf (j := 8) (t := 2) (x := t_elimination) d_X11_rank_91 kX11 (by decide) fl_X11_62 o_t.1 o_t.2.1 o_t.2.2.1 o_t.2.2.2 rfl f_t_elimination ?_
    refine r_callV (Y2 := mX0_independentRows) (d := d - 1) (mc := 0) (ms := 0) (c := t_elimination) (As := []) (S := []) d_X11_rank_94 ok_mX0_independentRows ml_X11_289 rfl (rmc h0d (by decide)) rm00 (Nat.le_of_ble_eq_true rfl) rfl kX0 o_t_elimination.1 o_t_elimination.2.1 o_t_elimination.2.2.1 o_t_elimination.2.2.2 (MC.mono h (fun r N1 Λ1 σ1 hq => ?_))
    obtain ⟨v2, rfl, rfl, rfl, h⟩ := hq
    exact r_iret d_X11_rank_97 rfl rfl (Nat.le_refl 0) (Nat.le_refl 0) ⟨_, rfl, rfl, rfl, h⟩
  · have h := h.2 hc
    refine r_iload_n (x := x1) d_X11_rank_33 rfl ?_
    refine r_iload_n (x := x2) d_X11_rank_34 rfl ?_
    refine r_ishr d_X11_rank_35 ?_
    refine r_iconst (x := 1) d_X11_rank_36 ⟨by decide, by decide⟩ ?_
    refine r_iand d_X11_rank_37 ?_
    refine r_iconst (x := 1) d_X11_rank_38 ⟨by decide, by decide⟩ ?_
    refine r_ic_ne (tgt := 84) d_X11_rank_39 rfl (fun hc => ?_) (fun hc => ?_)
    · have h := h.1 hc
      refine x_iinc (x := x2) (L := [(2, t), (0, x1), (0, x2), (3, 0)]) d_X11_rank_84 rfl (by decide) rfl (fun y3 ey3 => ?_)
      have h := h y3 ey3
      show WP _ _ _ _ _ _ _ _ [(2, t), (0, x1), (0, y3), (3, 0)] _ _ _ _
      refine r_goto (tgt := 27) d_X11_rank_87 rfl ?_
      exact h
    · have h := h.2 hc
      refine r_aload_n (x := t) d_X11_rank_42 rfl o_t.1 ?_
      refine r_getf (j := 5) (t := 2) (x := t_straightener) d_X11_rank_43 kX11 (by decide) fl_X11_41 o_t.1 o_t.2.1 o_t.2.2.1 o_t.2.2.2 rfl f_t_straightener ?_
      refine r_aload_n (x := t) d_X11_rank_46 rfl o_t.1 ?_
      refine r_getf (j := 0) (t := 2) (x := t_now) d_X11_rank_47 kX11 (by decide) fl_X11_10 o_t.1 o_t.2.1 o_t.2.2.1 o_t.2.2.2 rfl f_t_now ?_
      refine r_getf (j := 0) (t := 2) (x := t_now_shelves) d_X11_rank_50 kX7 (by decide) fl_X11_146 o_t_now.1 o_t_now.2.1 o_t_now.2.2.1 o_t_now.2.2.2 rfl f_t_now_shelves ?_
      refine r_iload_n (x := x2) d_X11_rank_53 rfl ?_
      refine x_aald (t := 3) (by decide) d_X11_rank_54 h.1 (fun b4 eb4 => ?_)
      have h := h.2 b4 eb4
      have oob4 := h.1
      have h := h.2
      refine r_aload_n (x := t) d_X11_rank_55 rfl o_t.1 ?_
      refine r_getf (j := 11) (t := 2) (x := t_work) d_X11_rank_56 kX11 (by decide) fl_X11_83 o_t.1 o_t.2.1 o_t.2.2.1 o_t.2.2.2 rfl f_t_work ?_
      refine r_callV (Y2 := mX8_straighten) (d := d - 1) (mc := 0) (ms := 0) (c := t_straightener) (As := [(2, b4), (2, t_work)]) (S := []) d_X11_rank_59 ok_mX8_straighten ml_X11_212 rfl (rmc h0d (by decide)) rm00 (Nat.le_of_ble_eq_true rfl) rfl kX8 o_t_straightener.1 o_t_straightener.2.1 o_t_straightener.2.2.1 o_t_straightener.2.2.2 (MC.mono h (fun r N1 Λ1 σ5 hq => ?_))
      obtain ⟨v6, rfl, rfl, rfl, h⟩ := hq
      refine r_istore_n (L2 := [(2, t), (0, x1), (0, x2), (0, v6)]) d_X11_rank_62 (by decide) rfl rfl ?_
      refine r_iload_n (x := v6) d_X11_rank_63 rfl ?_
      refine r_if_eq (tgt := 73) d_X11_rank_64 rfl (fun hc => ?_) (fun hc => ?_)
      · have h := h.1 hc
        refine r_aload_n (x := t) d_X11_rank_73 rfl o_t.1 ?_
        refine r_getf (j := 8) (t := 2) (x := t_elimination) d_X11_rank_74 kX11 (by decide) fl_X11_62 o_t.1 o_t.2.1 o_t.2.2.1 o_t.2.2.2 rfl f_t_elimination ?_
        refine r_aload_n (x := t) d_X11_rank_77 rfl o_t.1 ?_
        refine r_getf (j := 11) (t := 2) (x := t_work) d_X11_rank_78 kX11 (by decide) fl_X11_83 o_t.1 o_t.2.1 o_t.2.2.1 o_t.2.2.2 rfl f_t_work ?_
        refine r_callV (Y2 := mX0_takeRow) (d := d - 1) (mc := 0) (ms := 0) (c := t_elimination) (As := [(2, t_work)]) (S := []) d_X11_rank_81 ok_mX0_takeRow ml_X11_286 rfl (rmc h0d (by decide)) rm00 (Nat.le_of_ble_eq_true rfl) rfl kX0 o_t_elimination.1 o_t_elimination.2.1 o_t_elimination.2.2.1 o_t_elimination.2.2.2 (MC.mono h (fun r N1 Λ1 σ7 hq => ?_))
        obtain ⟨rfl, rfl, rfl, h⟩ := hq
        refine x_iinc (x := x2) (L := [(2, t), (0, x1), (0, x2), (0, v6)]) d_X11_rank_84 rfl (by decide) rfl (fun y8 ey8 => ?_)
        have h := h y8 ey8
        show WP _ _ _ _ _ _ _ _ [(2, t), (0, x1), (0, y8), (0, v6)] _ _ _ _
        refine r_goto (tgt := 27) d_X11_rank_87 rfl ?_
        exact x_mask h ⟨Or.inr rfl, Or.inr rfl, Or.inr rfl, Or.inl rfl, trivial⟩
      · have h := h.2 hc
        refine r_aload_n (x := t) d_X11_rank_67 rfl o_t.1 ?_
        refine r_iload_n (x := v6) d_X11_rank_68 rfl ?_
        refine r_callV (Y2 := mX11_refused) (d := d - 1) (mc := 0) (ms := 0) (c := t) (As := [(0, v6)]) (S := []) d_X11_rank_69 ok_mX11_refused ml_X11_271 rfl (rmc h0d (by decide)) rm00 (Nat.le_of_ble_eq_true rfl) rfl kX11 o_t.1 o_t.2.1 o_t.2.2.1 o_t.2.2.2 (MC.mono h (fun r N1 Λ1 σ9 hq => ?_))
        obtain ⟨v10, rfl, rfl, rfl, h⟩ := hq
        exact r_iret d_X11_rank_72 rfl rfl (Nat.le_refl 0) (Nat.le_refl 0) ⟨_, rfl, rfl, rfl, h⟩
theorem v_X11_factor_0 {l : Launch} {d N : Nat} {Λ : Lay} {P : Int → Mem → Prop} {σ : Mem} {x1 x2 t t_factors t_now t_now_shelves t_straightener t_work : Int} (o_t : Ob N Λ t 20 14) (f_t_now : (Λ t).2.2 0 = t_now) (o_t_now : Ob N Λ t_now 16 3) (f_t_now_shelves : (Λ t_now).2.2 0 = t_now_shelves) (f_t_factors : (Λ t).2.2 9 = t_factors) (o_t_factors : Ob N Λ t_factors 11 6) (f_t_straightener : (Λ t).2.2 5 = t_straightener) (f_t_work : (Λ t).2.2 11 = t_work) (o_t_straightener : Ob N Λ t_straightener 17 2) (h0d : 1 ≤ d)
    (h : (∀ τ1, τ1 = st σ t 13 0 → (CI l mX11_isShelf (d - 1) [(0, x1)] N Λ τ1 (fun v3 σ2 => ((v3 = 0 → P (-2) σ2) ∧ (¬ (v3 = 0) → ((x2 < 0 → P (-2) σ2) ∧ (¬ (x2 < 0) → ((x2 ≤ 6 → (Ix N Λ t_now_shelves 3 x1 ∧ ∀ b4, b4 = (Λ t_now_shelves).2.2 x1 → Ob N Λ b4 15 3 ∧ (((σ2 b4 2) = 0 → P 0 σ2) ∧ (¬ ((σ2 b4 2) = 0) → (∀ b5, b5 = (Λ b4).2.2 0 → (Ix N Λ b5 1 0 ∧ (CI l mX1_takeLetters (d - 1) [(2, t_factors), (1, (σ2 b5 0))] N Λ σ2 (fun v7 σ6 => ((¬ v7 = 0 → (Ix N Λ t_now_shelves 3 x1 ∧ ∀ b8, b8 = (Λ t_now_shelves).2.2 x1 → Ob N Λ b8 15 3 ∧ (CI l mX8_straighten (d - 1) [(2, t_straightener), (2, b8), (2, t_work)] N Λ σ6 (fun v10 σ9 => ((v10 = 0 → (CI l mX1_search (d - 1) [(2, t_factors), (2, t_work)] N Λ σ9 (fun v12 σ11 => ((¬ v12 = 0 → ((¬ x2 = 0 → (CI l mX1_letterOfRow (d - 1) [(2, t_factors), (0, (subI x2 1))] N Λ σ11 (fun v14 σ13 => P (addI v14 1) σ13))) ∧ (x2 = 0 → P (σ11 t_factors 0) σ11))) ∧ (v12 = 0 → P 0 σ11))))) ∧ (¬ (v10 = 0) → (CI l mX11_refused (d - 1) [(2, t), (0, v10)] N Λ σ9 (fun v16 σ15 => P v16 σ15)))))))) ∧ (v7 = 0 → P 0 σ6)))))))))) ∧ (¬ (x2 ≤ 6) → P (-2) σ2)))))))))) :
    WI l mX11_factor d P 0 [(2, t), (0, x1), (0, x2), (3, 0), (3, 0)] [] N Λ σ := by
  refine r_aload_n (x := t) d_X11_factor_0 rfl o_t.1 ?_
  refine r_iconst (x := 0) d_X11_factor_1 ⟨by decide, by decide⟩ ?_
  refine r_putI (j := 13) d_X11_factor_2 kX11 (by decide) fl_X11_90 rfl o_t.1 o_t.2.1 o_t.2.2.1 o_t.2.2.2 rfl ?_
  refine r_nmM (fun τ1 eτ1 => ?_)
  have h := h τ1 eτ1
  refine r_iload_n (x := x1) d_X11_factor_5 rfl ?_
  refine r_callS (Y2 := mX11_isShelf) (d := d - 1) (mc := 0) (ms := 0) (As := [(0, x1)]) (S := []) d_X11_factor_6 ok_mX11_isShelf ml_X11_143 rfl (rmc h0d (by decide)) rm00 (Nat.le_of_ble_eq_true rfl) rfl (MC.mono h (fun r N1 Λ1 σ2 hq => ?_))
  obtain ⟨v3, rfl, rfl, rfl, h⟩ := hq
  refine r_if_eq (tgt := 22) d_X11_factor_9 rfl (fun hc => ?_) (fun hc => ?_)
  · have h := h.1 hc
    refine r_bipush (x := (-2)) d_X11_factor_22 ⟨by decide, by decide⟩ (by decide) ?_
    exact r_iret d_X11_factor_24 rfl rfl (Nat.le_refl 0) (Nat.le_refl 0) ⟨_, rfl, rfl, rfl, h⟩
  · have h := h.2 hc
    refine r_iload_n (x := x2) d_X11_factor_12 rfl ?_
    refine r_if_lt (tgt := 22) d_X11_factor_13 rfl (fun hc => ?_) (fun hc => ?_)
    · have h := h.1 hc
      refine r_bipush (x := (-2)) d_X11_factor_22 ⟨by decide, by decide⟩ (by decide) ?_
      exact r_iret d_X11_factor_24 rfl rfl (Nat.le_refl 0) (Nat.le_refl 0) ⟨_, rfl, rfl, rfl, h⟩
    · have h := h.2 hc
      refine r_iload_n (x := x2) d_X11_factor_16 rfl ?_
      refine r_bipush (x := 6) d_X11_factor_17 ⟨by decide, by decide⟩ (by decide) ?_
      refine r_ic_le (tgt := 25) d_X11_factor_19 rfl (fun hc => ?_) (fun hc => ?_)
      · have h := h.1 hc
        refine r_aload_n (x := t) d_X11_factor_25 rfl o_t.1 ?_
        refine r_getf (j := 0) (t := 2) (x := t_now) d_X11_factor_26 kX11 (by decide) fl_X11_10 o_t.1 o_t.2.1 o_t.2.2.1 o_t.2.2.2 rfl f_t_now ?_
        refine r_getf (j := 0) (t := 2) (x := t_now_shelves) d_X11_factor_29 kX7 (by decide) fl_X11_146 o_t_now.1 o_t_now.2.1 o_t_now.2.2.1 o_t_now.2.2.2 rfl f_t_now_shelves ?_
        refine r_iload_n (x := x1) d_X11_factor_32 rfl ?_
        refine x_aald (t := 3) (by decide) d_X11_factor_33 h.1 (fun b4 eb4 => ?_)
        have h := h.2 b4 eb4
        have oob4 := h.1
        have h := h.2
        refine r_astore_n (L2 := [(2, t), (0, x1), (0, x2), (2, b4), (3, 0)]) d_X11_factor_34 (by decide) rfl rfl oob4.1 ?_
        refine r_aload_n (x := b4) d_X11_factor_35 rfl oob4.1 ?_
        refine r_getf (j := 2) (t := 0) (x := (σ2 b4 2)) d_X11_factor_36 kX5 (by decide) fl_X11_150 oob4.1 oob4.2.1 oob4.2.2.1 oob4.2.2.2 rfl rfl ?_
        refine r_if_eq (tgt := 58) d_X11_factor_39 rfl (fun hc => ?_) (fun hc => ?_)
        · have h := h.1 hc
          refine r_iconst (x := 0) d_X11_factor_58 ⟨by decide, by decide⟩ ?_
          exact r_iret d_X11_factor_59 rfl rfl (Nat.le_refl 0) (Nat.le_refl 0) ⟨_, rfl, rfl, rfl, h⟩
        · have h := h.2 hc
          refine r_aload_n (x := t) d_X11_factor_42 rfl o_t.1 ?_
          refine r_getf (j := 9) (t := 2) (x := t_factors) d_X11_factor_43 kX11 (by decide) fl_X11_69 o_t.1 o_t.2.1 o_t.2.2.1 o_t.2.2.2 rfl f_t_factors ?_
          refine r_aload_n (x := b4) d_X11_factor_46 rfl oob4.1 ?_
          refine r_nmR (j := 0) d_X11_factor_47 kX5 (by decide) fl_X11_241 oob4 rfl (fun b5 eb5 => ?_)
          have h := h b5 eb5
          refine r_iconst (x := 0) d_X11_factor_50 ⟨by decide, by decide⟩ ?_
          refine x_lald d_X11_factor_51 h.1 ?_
          have h := h.2
          refine r_callV (Y2 := mX1_takeLetters) (d := d - 1) (mc := 0) (ms := 0) (c := t_factors) (As := [(1, (σ2 b5 0))]) (S := []) d_X11_factor_52 ok_mX1_takeLetters ml_X11_292 rfl (rmc h0d (by decide)) rm00 (Nat.le_of_ble_eq_true rfl) rfl kX1 o_t_factors.1 o_t_factors.2.1 o_t_factors.2.2.1 o_t_factors.2.2.2 (MC.mono h (fun r N1 Λ1 σ6 hq => ?_))
          obtain ⟨v7, rfl, rfl, rfl, h⟩ := hq
          refine r_if_ne (tgt := 60) d_X11_factor_55 rfl (fun hc => ?_) (fun hc => ?_)
          · have h := h.1 hc
            refine r_aload_n (x := t) d_X11_factor_60 rfl o_t.1 ?_
            refine r_getf (j := 5) (t := 2) (x := t_straightener) d_X11_factor_61 kX11 (by decide) fl_X11_41 o_t.1 o_t.2.1 o_t.2.2.1 o_t.2.2.2 rfl f_t_straightener ?_
            refine r_aload_n (x := t) d_X11_factor_64 rfl o_t.1 ?_
            refine r_getf (j := 0) (t := 2) (x := t_now) d_X11_factor_65 kX11 (by decide) fl_X11_10 o_t.1 o_t.2.1 o_t.2.2.1 o_t.2.2.2 rfl f_t_now ?_
            refine r_getf (j := 0) (t := 2) (x := t_now_shelves) d_X11_factor_68 kX7 (by decide) fl_X11_146 o_t_now.1 o_t_now.2.1 o_t_now.2.2.1 o_t_now.2.2.2 rfl f_t_now_shelves ?_
            refine r_iload_n (x := x1) d_X11_factor_71 rfl ?_
            refine x_aald (t := 3) (by decide) d_X11_factor_72 h.1 (fun b8 eb8 => ?_)
            have h := h.2 b8 eb8
            have oob8 := h.1
            have h := h.2
            refine r_aload_n (x := t) d_X11_factor_73 rfl o_t.1 ?_
            refine r_getf (j := 11) (t := 2) (x := t_work) d_X11_factor_74 kX11 (by decide) fl_X11_83 o_t.1 o_t.2.1 o_t.2.2.1 o_t.2.2.2 rfl f_t_work ?_
            refine r_callV (Y2 := mX8_straighten) (d := d - 1) (mc := 0) (ms := 0) (c := t_straightener) (As := [(2, b8), (2, t_work)]) (S := []) d_X11_factor_77 ok_mX8_straighten ml_X11_212 rfl (rmc h0d (by decide)) rm00 (Nat.le_of_ble_eq_true rfl) rfl kX8 o_t_straightener.1 o_t_straightener.2.1 o_t_straightener.2.2.1 o_t_straightener.2.2.2 (MC.mono h (fun r N1 Λ1 σ9 hq => ?_))
            obtain ⟨v10, rfl, rfl, rfl, h⟩ := hq
            refine r_istore (L2 := [(2, t), (0, x1), (0, x2), (2, b4), (0, v10)]) d_X11_factor_80 (by decide) rfl rfl ?_
            refine r_iload (x := v10) d_X11_factor_82 rfl ?_
            refine r_if_eq (tgt := 94) d_X11_factor_84 rfl (fun hc => ?_) (fun hc => ?_)
            · have h := h.1 hc
              refine r_aload_n (x := t) d_X11_factor_94 rfl o_t.1 ?_
              refine r_getf (j := 9) (t := 2) (x := t_factors) d_X11_factor_95 kX11 (by decide) fl_X11_69 o_t.1 o_t.2.1 o_t.2.2.1 o_t.2.2.2 rfl f_t_factors ?_
              refine r_aload_n (x := t) d_X11_factor_98 rfl o_t.1 ?_
              refine r_getf (j := 11) (t := 2) (x := t_work) d_X11_factor_99 kX11 (by decide) fl_X11_83 o_t.1 o_t.2.1 o_t.2.2.1 o_t.2.2.2 rfl f_t_work ?_
              refine r_callV (Y2 := mX1_search) (d := d - 1) (mc := 0) (ms := 0) (c := t_factors) (As := [(2, t_work)]) (S := []) d_X11_factor_102 ok_mX1_search ml_X11_296 rfl (rmc h0d (by decide)) rm00 (Nat.le_of_ble_eq_true rfl) rfl kX1 o_t_factors.1 o_t_factors.2.1 o_t_factors.2.2.1 o_t_factors.2.2.2 (MC.mono h (fun r N1 Λ1 σ11 hq => ?_))
              obtain ⟨v12, rfl, rfl, rfl, h⟩ := hq
              refine r_if_ne (tgt := 110) d_X11_factor_105 rfl (fun hc => ?_) (fun hc => ?_)
              · have h := h.1 hc
                refine r_iload_n (x := x2) d_X11_factor_110 rfl ?_
                refine r_if_ne (tgt := 124) d_X11_factor_111 rfl (fun hc => ?_) (fun hc => ?_)
                · have h := h.1 hc
                  refine r_aload_n (x := t) d_X11_factor_124 rfl o_t.1 ?_
                  refine r_getf (j := 9) (t := 2) (x := t_factors) d_X11_factor_125 kX11 (by decide) fl_X11_69 o_t.1 o_t.2.1 o_t.2.2.1 o_t.2.2.2 rfl f_t_factors ?_
                  refine r_iload_n (x := x2) d_X11_factor_128 rfl ?_
                  refine r_iconst (x := 1) d_X11_factor_129 ⟨by decide, by decide⟩ ?_
                  refine r_isub d_X11_factor_130 ?_
                  refine r_callV (Y2 := mX1_letterOfRow) (d := d - 1) (mc := 0) (ms := 0) (c := t_factors) (As := [(0, (subI x2 1))]) (S := []) d_X11_factor_131 ok_mX1_letterOfRow ml_X11_302 rfl (rmc h0d (by decide)) rm00 (Nat.le_of_ble_eq_true rfl) rfl kX1 o_t_factors.1 o_t_factors.2.1 o_t_factors.2.2.1 o_t_factors.2.2.2 (MC.mono h (fun r N1 Λ1 σ13 hq => ?_))
                  obtain ⟨v14, rfl, rfl, rfl, h⟩ := hq
                  refine r_iconst (x := 1) d_X11_factor_134 ⟨by decide, by decide⟩ ?_
                  refine r_iadd d_X11_factor_135 ?_
                  exact r_iret d_X11_factor_136 rfl rfl (Nat.le_refl 0) (Nat.le_refl 0) ⟨_, rfl, rfl, rfl, h⟩
                · have h := h.2 hc
                  refine r_aload_n (x := t) d_X11_factor_114 rfl o_t.1 ?_
                  refine r_getf (j := 9) (t := 2) (x := t_factors) d_X11_factor_115 kX11 (by decide) fl_X11_69 o_t.1 o_t.2.1 o_t.2.2.1 o_t.2.2.2 rfl f_t_factors ?_
                  refine r_getf (j := 0) (t := 0) (x := (σ11 t_factors 0)) d_X11_factor_118 kX1 (by decide) fl_X11_299 o_t_factors.1 o_t_factors.2.1 o_t_factors.2.2.1 o_t_factors.2.2.2 rfl rfl ?_
                  refine r_goto (tgt := 136) d_X11_factor_121 rfl ?_
                  exact r_iret d_X11_factor_136 rfl rfl (Nat.le_refl 0) (Nat.le_refl 0) ⟨_, rfl, rfl, rfl, h⟩
              · have h := h.2 hc
                refine r_iconst (x := 0) d_X11_factor_108 ⟨by decide, by decide⟩ ?_
                exact r_iret d_X11_factor_109 rfl rfl (Nat.le_refl 0) (Nat.le_refl 0) ⟨_, rfl, rfl, rfl, h⟩
            · have h := h.2 hc
              refine r_aload_n (x := t) d_X11_factor_87 rfl o_t.1 ?_
              refine r_iload (x := v10) d_X11_factor_88 rfl ?_
              refine r_callV (Y2 := mX11_refused) (d := d - 1) (mc := 0) (ms := 0) (c := t) (As := [(0, v10)]) (S := []) d_X11_factor_90 ok_mX11_refused ml_X11_271 rfl (rmc h0d (by decide)) rm00 (Nat.le_of_ble_eq_true rfl) rfl kX11 o_t.1 o_t.2.1 o_t.2.2.1 o_t.2.2.2 (MC.mono h (fun r N1 Λ1 σ15 hq => ?_))
              obtain ⟨v16, rfl, rfl, rfl, h⟩ := hq
              exact r_iret d_X11_factor_93 rfl rfl (Nat.le_refl 0) (Nat.le_refl 0) ⟨_, rfl, rfl, rfl, h⟩
          · have h := h.2 hc
            refine r_iconst (x := 0) d_X11_factor_58 ⟨by decide, by decide⟩ ?_
            exact r_iret d_X11_factor_59 rfl rfl (Nat.le_refl 0) (Nat.le_refl 0) ⟨_, rfl, rfl, rfl, h⟩
      · have h := h.2 hc
        refine r_bipush (x := (-2)) d_X11_factor_22 ⟨by decide, by decide⟩ (by decide) ?_
        exact r_iret d_X11_factor_24 rfl rfl (Nat.le_refl 0) (Nat.le_refl 0) ⟨_, rfl, rfl, rfl, h⟩
theorem v_X11_isFinal_0 {l : Launch} {d N : Nat} {Λ : Lay} {P : Int → Mem → Prop} {σ : Mem} {x1 t t_now t_now_shelves t_other t_other_keys t_straightener t_work : Int} (o_t : Ob N Λ t 20 14) (f_t_straightener : (Λ t).2.2 5 = t_straightener) (f_t_now : (Λ t).2.2 0 = t_now) (o_t_now : Ob N Λ t_now 16 3) (f_t_now_shelves : (Λ t_now).2.2 0 = t_now_shelves) (f_t_work : (Λ t).2.2 11 = t_work) (o_t_straightener : Ob N Λ t_straightener 17 2) (o_t_work : Ob N Λ t_work 15 3) (f_t_other : (Λ t).2.2 12 = t_other) (o_t_other : Ob N Λ t_other 15 3) (f_t_other_keys : (Λ t_other).2.2 0 = t_other_keys) (h0d : 1 ≤ d)
    (h : (∀ τ1, τ1 = st σ t 13 0 → (CI l mX11_isShelf (d - 1) [(0, x1)] N Λ τ1 (fun v3 σ2 => ((¬ v3 = 0 → (Ix N Λ t_now_shelves 3 x1 ∧ ∀ b4, b4 = (Λ t_now_shelves).2.2 x1 → Ob N Λ b4 15 3 ∧ (CI l mX8_straighten (d - 1) [(2, t_straightener), (2, b4), (2, t_work)] N Λ σ2 (fun v6 σ5 => ((v6 = 0 → (((σ5 t_work 2) = 0 → (Ix N Λ t_now_shelves 3 x1 ∧ ∀ b7, b7 = (Λ t_now_shelves).2.2 x1 → Ob N Λ b7 15 3 ∧ (CV l mX7_reduceTo (d - 1) [(2, t_now), (2, t_other), (2, b7)] N Λ σ5 (fun σ8 => ((¬ (σ8 t_other 2) = 1 → P 0 σ8) ∧ ((σ8 t_other 2) = 1 → (Ix N Λ t_other_keys 1 0 ∧ (CI l mX7_cannotVanish (d - 1) [(2, t_now), (1, (σ8 t_other_keys 0))] N Λ σ8 (fun v10 σ9 => ((v10 = 0 → P 0 σ9) ∧ (¬ (v10 = 0) → P 1 σ9))))))))))) ∧ (¬ ((σ5 t_work 2) = 0) → P 0 σ5))) ∧ (¬ (v6 = 0) → (CI l mX11_refused (d - 1) [(2, t), (0, v6)] N Λ σ5 (fun v12 σ11 => P v12 σ11)))))))) ∧ (v3 = 0 → P (-2) σ2)))))) :
    WI l mX11_isFinal d P 0 [(2, t), (0, x1), (3, 0)] [] N Λ σ := by
  refine r_aload_n (x := t) d_X11_isFinal_0 rfl o_t.1 ?_
  refine r_iconst (x := 0) d_X11_isFinal_1 ⟨by decide, by decide⟩ ?_
  refine r_putI (j := 13) d_X11_isFinal_2 kX11 (by decide) fl_X11_90 rfl o_t.1 o_t.2.1 o_t.2.2.1 o_t.2.2.2 rfl ?_
  refine r_nmM (fun τ1 eτ1 => ?_)
  have h := h τ1 eτ1
  refine r_iload_n (x := x1) d_X11_isFinal_5 rfl ?_
  refine r_callS (Y2 := mX11_isShelf) (d := d - 1) (mc := 0) (ms := 0) (As := [(0, x1)]) (S := []) d_X11_isFinal_6 ok_mX11_isShelf ml_X11_143 rfl (rmc h0d (by decide)) rm00 (Nat.le_of_ble_eq_true rfl) rfl (MC.mono h (fun r N1 Λ1 σ2 hq => ?_))
  obtain ⟨v3, rfl, rfl, rfl, h⟩ := hq
  refine r_if_ne (tgt := 15) d_X11_isFinal_9 rfl (fun hc => ?_) (fun hc => ?_)
  · have h := h.1 hc
    refine r_aload_n (x := t) d_X11_isFinal_15 rfl o_t.1 ?_
    refine r_getf (j := 5) (t := 2) (x := t_straightener) d_X11_isFinal_16 kX11 (by decide) fl_X11_41 o_t.1 o_t.2.1 o_t.2.2.1 o_t.2.2.2 rfl f_t_straightener ?_
    refine r_aload_n (x := t) d_X11_isFinal_19 rfl o_t.1 ?_
    refine r_getf (j := 0) (t := 2) (x := t_now) d_X11_isFinal_20 kX11 (by decide) fl_X11_10 o_t.1 o_t.2.1 o_t.2.2.1 o_t.2.2.2 rfl f_t_now ?_
    refine r_getf (j := 0) (t := 2) (x := t_now_shelves) d_X11_isFinal_23 kX7 (by decide) fl_X11_146 o_t_now.1 o_t_now.2.1 o_t_now.2.2.1 o_t_now.2.2.2 rfl f_t_now_shelves ?_
    refine r_iload_n (x := x1) d_X11_isFinal_26 rfl ?_
    refine x_aald (t := 3) (by decide) d_X11_isFinal_27 h.1 (fun b4 eb4 => ?_)
    have h := h.2 b4 eb4
    have oob4 := h.1
    have h := h.2
    refine r_aload_n (x := t) d_X11_isFinal_28 rfl o_t.1 ?_
    refine r_getf (j := 11) (t := 2) (x := t_work) d_X11_isFinal_29 kX11 (by decide) fl_X11_83 o_t.1 o_t.2.1 o_t.2.2.1 o_t.2.2.2 rfl f_t_work ?_
    refine r_callV (Y2 := mX8_straighten) (d := d - 1) (mc := 0) (ms := 0) (c := t_straightener) (As := [(2, b4), (2, t_work)]) (S := []) d_X11_isFinal_32 ok_mX8_straighten ml_X11_212 rfl (rmc h0d (by decide)) rm00 (Nat.le_of_ble_eq_true rfl) rfl kX8 o_t_straightener.1 o_t_straightener.2.1 o_t_straightener.2.2.1 o_t_straightener.2.2.2 (MC.mono h (fun r N1 Λ1 σ5 hq => ?_))
    obtain ⟨v6, rfl, rfl, rfl, h⟩ := hq
    refine r_istore_n (L2 := [(2, t), (0, x1), (0, v6)]) d_X11_isFinal_35 (by decide) rfl rfl ?_
    refine r_iload_n (x := v6) d_X11_isFinal_36 rfl ?_
    refine r_if_eq (tgt := 46) d_X11_isFinal_37 rfl (fun hc => ?_) (fun hc => ?_)
    · have h := h.1 hc
      refine r_aload_n (x := t) d_X11_isFinal_46 rfl o_t.1 ?_
      refine r_getf (j := 11) (t := 2) (x := t_work) d_X11_isFinal_47 kX11 (by decide) fl_X11_83 o_t.1 o_t.2.1 o_t.2.2.1 o_t.2.2.2 rfl f_t_work ?_
      refine r_getf (j := 2) (t := 0) (x := (σ5 t_work 2)) d_X11_isFinal_50 kX5 (by decide) fl_X11_150 o_t_work.1 o_t_work.2.1 o_t_work.2.2.1 o_t_work.2.2.2 rfl rfl ?_
      refine r_if_eq (tgt := 58) d_X11_isFinal_53 rfl (fun hc => ?_) (fun hc => ?_)
      · have h := h.1 hc
        refine r_aload_n (x := t) d_X11_isFinal_58 rfl o_t.1 ?_
        refine r_getf (j := 0) (t := 2) (x := t_now) d_X11_isFinal_59 kX11 (by decide) fl_X11_10 o_t.1 o_t.2.1 o_t.2.2.1 o_t.2.2.2 rfl f_t_now ?_
        refine r_aload_n (x := t) d_X11_isFinal_62 rfl o_t.1 ?_
        refine r_getf (j := 12) (t := 2) (x := t_other) d_X11_isFinal_63 kX11 (by decide) fl_X11_87 o_t.1 o_t.2.1 o_t.2.2.1 o_t.2.2.2 rfl f_t_other ?_
        refine r_aload_n (x := t) d_X11_isFinal_66 rfl o_t.1 ?_
        refine r_getf (j := 0) (t := 2) (x := t_now) d_X11_isFinal_67 kX11 (by decide) fl_X11_10 o_t.1 o_t.2.1 o_t.2.2.1 o_t.2.2.2 rfl f_t_now ?_
        refine r_getf (j := 0) (t := 2) (x := t_now_shelves) d_X11_isFinal_70 kX7 (by decide) fl_X11_146 o_t_now.1 o_t_now.2.1 o_t_now.2.2.1 o_t_now.2.2.2 rfl f_t_now_shelves ?_
        refine r_iload_n (x := x1) d_X11_isFinal_73 rfl ?_
        refine x_aald (t := 3) (by decide) d_X11_isFinal_74 h.1 (fun b7 eb7 => ?_)
        have h := h.2 b7 eb7
        have oob7 := h.1
        have h := h.2
        refine r_callV (Y2 := mX7_reduceTo) (d := d - 1) (mc := 0) (ms := 0) (c := t_now) (As := [(2, t_other), (2, b7)]) (S := []) d_X11_isFinal_75 ok_mX7_reduceTo ml_X11_215 rfl (rmc h0d (by decide)) rm00 (Nat.le_of_ble_eq_true rfl) rfl kX7 o_t_now.1 o_t_now.2.1 o_t_now.2.2.1 o_t_now.2.2.2 (MC.mono h (fun r N1 Λ1 σ8 hq => ?_))
        obtain ⟨rfl, rfl, rfl, h⟩ := hq
        refine r_aload_n (x := t) d_X11_isFinal_78 rfl o_t.1 ?_
        refine r_getf (j := 12) (t := 2) (x := t_other) d_X11_isFinal_79 kX11 (by decide) fl_X11_87 o_t.1 o_t.2.1 o_t.2.2.1 o_t.2.2.2 rfl f_t_other ?_
        refine r_getf (j := 2) (t := 0) (x := (σ8 t_other 2)) d_X11_isFinal_82 kX5 (by decide) fl_X11_150 o_t_other.1 o_t_other.2.1 o_t_other.2.2.1 o_t_other.2.2.2 rfl rfl ?_
        refine r_iconst (x := 1) d_X11_isFinal_85 ⟨by decide, by decide⟩ ?_
        refine r_ic_ne (tgt := 112) d_X11_isFinal_86 rfl (fun hc => ?_) (fun hc => ?_)
        · have h := h.1 hc
          refine r_iconst (x := 0) d_X11_isFinal_112 ⟨by decide, by decide⟩ ?_
          exact r_iret d_X11_isFinal_113 rfl rfl (Nat.le_refl 0) (Nat.le_refl 0) ⟨_, rfl, rfl, rfl, h⟩
        · have h := h.2 hc
          refine r_aload_n (x := t) d_X11_isFinal_89 rfl o_t.1 ?_
          refine r_getf (j := 0) (t := 2) (x := t_now) d_X11_isFinal_90 kX11 (by decide) fl_X11_10 o_t.1 o_t.2.1 o_t.2.2.1 o_t.2.2.2 rfl f_t_now ?_
          refine r_aload_n (x := t) d_X11_isFinal_93 rfl o_t.1 ?_
          refine r_getf (j := 12) (t := 2) (x := t_other) d_X11_isFinal_94 kX11 (by decide) fl_X11_87 o_t.1 o_t.2.1 o_t.2.2.1 o_t.2.2.2 rfl f_t_other ?_
          refine r_getf (j := 0) (t := 2) (x := t_other_keys) d_X11_isFinal_97 kX5 (by decide) fl_X11_241 o_t_other.1 o_t_other.2.1 o_t_other.2.2.1 o_t_other.2.2.2 rfl f_t_other_keys ?_
          refine r_iconst (x := 0) d_X11_isFinal_100 ⟨by decide, by decide⟩ ?_
          refine x_lald d_X11_isFinal_101 h.1 ?_
          have h := h.2
          refine r_callV (Y2 := mX7_cannotVanish) (d := d - 1) (mc := 0) (ms := 0) (c := t_now) (As := [(1, (σ8 t_other_keys 0))]) (S := []) d_X11_isFinal_102 ok_mX7_cannotVanish ml_X11_305 rfl (rmc h0d (by decide)) rm00 (Nat.le_of_ble_eq_true rfl) rfl kX7 o_t_now.1 o_t_now.2.1 o_t_now.2.2.1 o_t_now.2.2.2 (MC.mono h (fun r N1 Λ1 σ9 hq => ?_))
          obtain ⟨v10, rfl, rfl, rfl, h⟩ := hq
          refine r_if_eq (tgt := 112) d_X11_isFinal_105 rfl (fun hc => ?_) (fun hc => ?_)
          · have h := h.1 hc
            refine r_iconst (x := 0) d_X11_isFinal_112 ⟨by decide, by decide⟩ ?_
            exact r_iret d_X11_isFinal_113 rfl rfl (Nat.le_refl 0) (Nat.le_refl 0) ⟨_, rfl, rfl, rfl, h⟩
          · have h := h.2 hc
            refine r_iconst (x := 1) d_X11_isFinal_108 ⟨by decide, by decide⟩ ?_
            refine r_goto (tgt := 113) d_X11_isFinal_109 rfl ?_
            exact r_iret d_X11_isFinal_113 rfl rfl (Nat.le_refl 0) (Nat.le_refl 0) ⟨_, rfl, rfl, rfl, h⟩
      · have h := h.2 hc
        refine r_iconst (x := 0) d_X11_isFinal_56 ⟨by decide, by decide⟩ ?_
        exact r_iret d_X11_isFinal_57 rfl rfl (Nat.le_refl 0) (Nat.le_refl 0) ⟨_, rfl, rfl, rfl, h⟩
    · have h := h.2 hc
      refine r_aload_n (x := t) d_X11_isFinal_40 rfl o_t.1 ?_
      refine r_iload_n (x := v6) d_X11_isFinal_41 rfl ?_
      refine r_callV (Y2 := mX11_refused) (d := d - 1) (mc := 0) (ms := 0) (c := t) (As := [(0, v6)]) (S := []) d_X11_isFinal_42 ok_mX11_refused ml_X11_271 rfl (rmc h0d (by decide)) rm00 (Nat.le_of_ble_eq_true rfl) rfl kX11 o_t.1 o_t.2.1 o_t.2.2.1 o_t.2.2.2 (MC.mono h (fun r N1 Λ1 σ11 hq => ?_))
      obtain ⟨v12, rfl, rfl, rfl, h⟩ := hq
      exact r_iret d_X11_isFinal_45 rfl rfl (Nat.le_refl 0) (Nat.le_refl 0) ⟨_, rfl, rfl, rfl, h⟩
  · have h := h.2 hc
    refine r_bipush (x := (-2)) d_X11_isFinal_12 ⟨by decide, by decide⟩ (by decide) ?_
    exact r_iret d_X11_isFinal_14 rfl rfl (Nat.le_refl 0) (Nat.le_refl 0) ⟨_, rfl, rfl, rfl, h⟩
theorem v_X11_known_0 {l : Launch} {d N : Nat} {Λ : Lay} {P : Int → Mem → Prop} {σ : Mem} {x1 x2 x3 t t_now : Int} (o_t : Ob N Λ t 20 14) (f_t_now : (Λ t).2.2 0 = t_now) (o_t_now : Ob N Λ t_now 16 3) (h0d : 1 ≤ d)
    (h : (CI l mX11_areLetters (d - 1) [(0, x1), (0, x2), (0, x3)] N Λ σ (fun v2 σ1 => ((¬ v2 = 0 → (CI l mX6_row (d - 1) [(0, x1), (0, x2), (0, x3)] N Λ σ1 (fun v4 σ3 => (CI l mX6_ordered (d - 1) [(0, v4)] N Λ σ3 (fun v6 σ5 => (CI l mJ9_abs_0f7a4 (d - 1) [(0, v6)] N Λ σ5 (fun v8 σ7 => ((¬ v8 = 0 → (CI l mX7_factOf (d - 1) [(2, t_now), (0, v8)] N Λ σ7 (fun v10 σ9 => P v10 σ9))) ∧ (v8 = 0 → P (-3) σ7))))))))) ∧ (v2 = 0 → P (-2) σ1))))) :
    WI l mX11_known d P 0 [(2, t), (0, x1), (0, x2), (0, x3), (3, 0)] [] N Λ σ := by
  refine r_iload_n (x := x1) d_X11_known_0 rfl ?_
  refine r_iload_n (x := x2) d_X11_known_1 rfl ?_
  refine r_iload_n (x := x3) d_X11_known_2 rfl ?_
  refine r_callS (Y2 := mX11_areLetters) (d := d - 1) (mc := 0) (ms := 0) (As := [(0, x1), (0, x2), (0, x3)]) (S := []) d_X11_known_3 ok_mX11_areLetters ml_X11_160 rfl (rmc h0d (by decide)) rm00 (Nat.le_of_ble_eq_true rfl) rfl (MC.mono h (fun r N1 Λ1 σ1 hq => ?_))
  obtain ⟨v2, rfl, rfl, rfl, h⟩ := hq
  refine r_if_ne (tgt := 12) d_X11_known_6 rfl (fun hc => ?_) (fun hc => ?_)
  · have h := h.1 hc
    refine r_iload_n (x := x1) d_X11_known_12 rfl ?_
    refine r_iload_n (x := x2) d_X11_known_13 rfl ?_
    refine r_iload_n (x := x3) d_X11_known_14 rfl ?_
    refine r_callS (Y2 := mX6_row) (d := d - 1) (mc := 0) (ms := 0) (As := [(0, x1), (0, x2), (0, x3)]) (S := []) d_X11_known_15 ok_mX6_row ml_X11_167 rfl (rmc h0d (by decide)) rm00 (Nat.le_of_ble_eq_true rfl) rfl (MC.mono h (fun r N1 Λ1 σ3 hq => ?_))
    obtain ⟨v4, rfl, rfl, rfl, h⟩ := hq
    refine r_callS (Y2 := mX6_ordered) (d := d - 1) (mc := 0) (ms := 0) (As := [(0, v4)]) (S := []) d_X11_known_18 ok_mX6_ordered ml_X11_219 rfl (rmc h0d (by decide)) rm00 (Nat.le_of_ble_eq_true rfl) rfl (MC.mono h (fun r N1 Λ1 σ5 hq => ?_))
    obtain ⟨v6, rfl, rfl, rfl, h⟩ := hq
    refine r_callS (Y2 := mJ9_abs_0f7a4) (d := d - 1) (mc := 0) (ms := 0) (As := [(0, v6)]) (S := []) d_X11_known_21 ok_mJ9_abs_0f7a4 ml_X11_222 rfl (rmc h0d (by decide)) rm00 (Nat.le_of_ble_eq_true rfl) rfl (MC.mono h (fun r N1 Λ1 σ7 hq => ?_))
    obtain ⟨v8, rfl, rfl, rfl, h⟩ := hq
    refine r_istore (L2 := [(2, t), (0, x1), (0, x2), (0, x3), (0, v8)]) d_X11_known_24 (by decide) rfl rfl ?_
    refine r_iload (x := v8) d_X11_known_26 rfl ?_
    refine r_if_ne (tgt := 36) d_X11_known_28 rfl (fun hc => ?_) (fun hc => ?_)
    · have h := h.1 hc
      refine r_aload_n (x := t) d_X11_known_36 rfl o_t.1 ?_
      refine r_getf (j := 0) (t := 2) (x := t_now) d_X11_known_37 kX11 (by decide) fl_X11_10 o_t.1 o_t.2.1 o_t.2.2.1 o_t.2.2.2 rfl f_t_now ?_
      refine r_iload (x := v8) d_X11_known_40 rfl ?_
      refine r_callV (Y2 := mX7_factOf) (d := d - 1) (mc := 0) (ms := 0) (c := t_now) (As := [(0, v8)]) (S := []) d_X11_known_42 ok_mX7_factOf ml_X11_227 rfl (rmc h0d (by decide)) rm00 (Nat.le_of_ble_eq_true rfl) rfl kX7 o_t_now.1 o_t_now.2.1 o_t_now.2.2.1 o_t_now.2.2.2 (MC.mono h (fun r N1 Λ1 σ9 hq => ?_))
      obtain ⟨v10, rfl, rfl, rfl, h⟩ := hq
      exact r_iret d_X11_known_45 rfl rfl (Nat.le_refl 0) (Nat.le_refl 0) ⟨_, rfl, rfl, rfl, h⟩
    · have h := h.2 hc
      refine r_bipush (x := (-3)) d_X11_known_31 ⟨by decide, by decide⟩ (by decide) ?_
      refine r_goto (tgt := 45) d_X11_known_33 rfl ?_
      exact r_iret d_X11_known_45 rfl rfl (Nat.le_refl 0) (Nat.le_refl 0) ⟨_, rfl, rfl, rfl, h⟩
  · have h := h.2 hc
    refine r_bipush (x := (-2)) d_X11_known_9 ⟨by decide, by decide⟩ (by decide) ?_
    exact r_iret d_X11_known_11 rfl rfl (Nat.le_refl 0) (Nat.le_refl 0) ⟨_, rfl, rfl, rfl, h⟩
theorem v_X11_at_0 {l : Launch} {d N : Nat} {Λ : Lay} {P : Int → Mem → Prop} {σ : Mem} {x1 x2 t t_now t_now_places : Int} (o_t : Ob N Λ t 20 14) (f_t_now : (Λ t).2.2 0 = t_now) (o_t_now : Ob N Λ t_now 16 3) (f_t_now_places : (Λ t_now).2.2 1 = t_now_places) (h0d : 1 ≤ d)
    (h : (CI l mX11_isLetter (d - 1) [(0, x1)] N Λ σ (fun v2 σ1 => ((v2 = 0 → P (-100) σ1) ∧ (¬ (v2 = 0) → ((x2 < 0 → P (-100) σ1) ∧ (¬ (x2 < 0) → ((x2 ≤ 2 → (Ix N Λ t_now_places 0 (addI (mulI 3 x1) x2) ∧ P (σ1 t_now_places (addI (mulI 3 x1) x2)) σ1)) ∧ (¬ (x2 ≤ 2) → P (-100) σ1))))))))) :
    WI l mX11_at d P 0 [(2, t), (0, x1), (0, x2)] [] N Λ σ := by
  refine r_iload_n (x := x1) d_X11_at_0 rfl ?_
  refine r_callS (Y2 := mX11_isLetter) (d := d - 1) (mc := 0) (ms := 0) (As := [(0, x1)]) (S := []) d_X11_at_1 ok_mX11_isLetter ml_X11_205 rfl (rmc h0d (by decide)) rm00 (Nat.le_of_ble_eq_true rfl) rfl (MC.mono h (fun r N1 Λ1 σ1 hq => ?_))
  obtain ⟨v2, rfl, rfl, rfl, h⟩ := hq
  refine r_if_eq (tgt := 16) d_X11_at_4 rfl (fun hc => ?_) (fun hc => ?_)
  · have h := h.1 hc
    refine r_bipush (x := (-100)) d_X11_at_16 ⟨by decide, by decide⟩ (by decide) ?_
    exact r_iret d_X11_at_18 rfl rfl (Nat.le_refl 0) (Nat.le_refl 0) ⟨_, rfl, rfl, rfl, h⟩
  · have h := h.2 hc
    refine r_iload_n (x := x2) d_X11_at_7 rfl ?_
    refine r_if_lt (tgt := 16) d_X11_at_8 rfl (fun hc => ?_) (fun hc => ?_)
    · have h := h.1 hc
      refine r_bipush (x := (-100)) d_X11_at_16 ⟨by decide, by decide⟩ (by decide) ?_
      exact r_iret d_X11_at_18 rfl rfl (Nat.le_refl 0) (Nat.le_refl 0) ⟨_, rfl, rfl, rfl, h⟩
    · have h := h.2 hc
      refine r_iload_n (x := x2) d_X11_at_11 rfl ?_
      refine r_iconst (x := 2) d_X11_at_12 ⟨by decide, by decide⟩ ?_
      refine r_ic_le (tgt := 19) d_X11_at_13 rfl (fun hc => ?_) (fun hc => ?_)
      · have h := h.1 hc
        refine r_aload_n (x := t) d_X11_at_19 rfl o_t.1 ?_
        refine r_getf (j := 0) (t := 2) (x := t_now) d_X11_at_20 kX11 (by decide) fl_X11_10 o_t.1 o_t.2.1 o_t.2.2.1 o_t.2.2.2 rfl f_t_now ?_
        refine r_getf (j := 1) (t := 2) (x := t_now_places) d_X11_at_23 kX7 (by decide) fl_X11_237 o_t_now.1 o_t_now.2.1 o_t_now.2.2.1 o_t_now.2.2.2 rfl f_t_now_places ?_
        refine r_iconst (x := 3) d_X11_at_26 ⟨by decide, by decide⟩ ?_
        refine r_iload_n (x := x1) d_X11_at_27 rfl ?_
        refine r_imul d_X11_at_28 ?_
        refine r_iload_n (x := x2) d_X11_at_29 rfl ?_
        refine r_iadd d_X11_at_30 ?_
        refine x_iald d_X11_at_31 h.1 ?_
        have h := h.2
        exact r_iret d_X11_at_32 rfl rfl (Nat.le_refl 0) (Nat.le_refl 0) ⟨_, rfl, rfl, rfl, h⟩
      · have h := h.2 hc
        refine r_bipush (x := (-100)) d_X11_at_16 ⟨by decide, by decide⟩ (by decide) ?_
        exact r_iret d_X11_at_18 rfl rfl (Nat.le_refl 0) (Nat.le_refl 0) ⟨_, rfl, rfl, rfl, h⟩
theorem v_X11_worth_0 {l : Launch} {d N : Nat} {Λ : Lay} {P : Int → Mem → Prop} {σ : Mem} {x1 x2 x3 t t_now : Int} (o_t : Ob N Λ t 20 14) (f_t_now : (Λ t).2.2 0 = t_now) (o_t_now : Ob N Λ t_now 16 3) (h0d : 1 ≤ d)
    (h : (CI l mX11_areLetters (d - 1) [(0, x1), (0, x2), (0, x3)] N Λ σ (fun v2 σ1 => ((v2 = 0 → P (-2147483648) σ1) ∧ (¬ (v2 = 0) → (CI l mX7_determinant (d - 1) [(2, t_now), (0, x1), (0, x2), (0, x3)] N Λ σ1 (fun v4 σ3 => P v4 σ3))))))) :
    WI l mX11_worth d P 0 [(2, t), (0, x1), (0, x2), (0, x3)] [] N Λ σ := by
  refine r_iload_n (x := x1) d_X11_worth_0 rfl ?_
  refine r_iload_n (x := x2) d_X11_worth_1 rfl ?_
  refine r_iload_n (x := x3) d_X11_worth_2 rfl ?_
  refine r_callS (Y2 := mX11_areLetters) (d := d - 1) (mc := 0) (ms := 0) (As := [(0, x1), (0, x2), (0, x3)]) (S := []) d_X11_worth_3 ok_mX11_areLetters ml_X11_160 rfl (rmc h0d (by decide)) rm00 (Nat.le_of_ble_eq_true rfl) rfl (MC.mono h (fun r N1 Λ1 σ1 hq => ?_))
  obtain ⟨v2, rfl, rfl, rfl, h⟩ := hq
  refine r_if_eq (tgt := 22) d_X11_worth_6 rfl (fun hc => ?_) (fun hc => ?_)
  · have h := h.1 hc
    refine r_ldc (x := (-2147483648)) d_X11_worth_22 ck_X11_240 (by decide) ?_
    exact r_iret d_X11_worth_24 rfl rfl (Nat.le_refl 0) (Nat.le_refl 0) ⟨_, rfl, rfl, rfl, h⟩
  · have h := h.2 hc
    refine r_aload_n (x := t) d_X11_worth_9 rfl o_t.1 ?_
    refine r_getf (j := 0) (t := 2) (x := t_now) d_X11_worth_10 kX11 (by decide) fl_X11_10 o_t.1 o_t.2.1 o_t.2.2.1 o_t.2.2.2 rfl f_t_now ?_
    refine r_iload_n (x := x1) d_X11_worth_13 rfl ?_
    refine r_iload_n (x := x2) d_X11_worth_14 rfl ?_
    refine r_iload_n (x := x3) d_X11_worth_15 rfl ?_
    refine r_callV (Y2 := mX7_determinant) (d := d - 1) (mc := 0) (ms := 0) (c := t_now) (As := [(0, x1), (0, x2), (0, x3)]) (S := []) d_X11_worth_16 ok_mX7_determinant ml_X11_308 rfl (rmc h0d (by decide)) rm00 (Nat.le_of_ble_eq_true rfl) rfl kX7 o_t_now.1 o_t_now.2.1 o_t_now.2.2.1 o_t_now.2.2.2 (MC.mono h (fun r N1 Λ1 σ3 hq => ?_))
    obtain ⟨v4, rfl, rfl, rfl, h⟩ := hq
    refine r_goto (tgt := 24) d_X11_worth_19 rfl ?_
    exact r_iret d_X11_worth_24 rfl rfl (Nat.le_refl 0) (Nat.le_refl 0) ⟨_, rfl, rfl, rfl, h⟩
theorem v_X11_value_0 {l : Launch} {d N : Nat} {Λ : Lay} {P : Int → Mem → Prop} {σ : Mem} {x1 t t_now t_now_shelves : Int} (o_t : Ob N Λ t 20 14) (f_t_now : (Λ t).2.2 0 = t_now) (o_t_now : Ob N Λ t_now 16 3) (f_t_now_shelves : (Λ t_now).2.2 0 = t_now_shelves) (h0d : 1 ≤ d)
    (h : (CI l mX11_isShelf (d - 1) [(0, x1)] N Λ σ (fun v2 σ1 => ((¬ v2 = 0 → (Ix N Λ t_now_shelves 3 x1 ∧ ∀ b3, b3 = (Λ t_now_shelves).2.2 x1 → Ob N Λ b3 15 3 ∧ (CL l mX7_worthOf (d - 1) [(2, t_now), (2, b3)] N Λ σ1 (fun v5 σ4 => P v5 σ4)))) ∧ (v2 = 0 → P (-9223372036854775808) σ1))))) :
    WL l mX11_value d P 0 [(2, t), (0, x1)] [] N Λ σ := by
  refine r_iload_n (x := x1) d_X11_value_0 rfl ?_
  refine r_callS (Y2 := mX11_isShelf) (d := d - 1) (mc := 0) (ms := 0) (As := [(0, x1)]) (S := []) d_X11_value_1 ok_mX11_isShelf ml_X11_143 rfl (rmc h0d (by decide)) rm00 (Nat.le_of_ble_eq_true rfl) rfl (MC.mono h (fun r N1 Λ1 σ1 hq => ?_))
  obtain ⟨v2, rfl, rfl, rfl, h⟩ := hq
  refine r_if_ne (tgt := 11) d_X11_value_4 rfl (fun hc => ?_) (fun hc => ?_)
  · have h := h.1 hc
    refine r_aload_n (x := t) d_X11_value_11 rfl o_t.1 ?_
    refine r_getf (j := 0) (t := 2) (x := t_now) d_X11_value_12 kX11 (by decide) fl_X11_10 o_t.1 o_t.2.1 o_t.2.2.1 o_t.2.2.2 rfl f_t_now ?_
    refine r_aload_n (x := t) d_X11_value_15 rfl o_t.1 ?_
    refine r_getf (j := 0) (t := 2) (x := t_now) d_X11_value_16 kX11 (by decide) fl_X11_10 o_t.1 o_t.2.1 o_t.2.2.1 o_t.2.2.2 rfl f_t_now ?_
    refine r_getf (j := 0) (t := 2) (x := t_now_shelves) d_X11_value_19 kX7 (by decide) fl_X11_146 o_t_now.1 o_t_now.2.1 o_t_now.2.2.1 o_t_now.2.2.2 rfl f_t_now_shelves ?_
    refine r_iload_n (x := x1) d_X11_value_22 rfl ?_
    refine x_aald (t := 3) (by decide) d_X11_value_23 h.1 (fun b3 eb3 => ?_)
    have h := h.2 b3 eb3
    have oob3 := h.1
    have h := h.2
    refine r_callV (Y2 := mX7_worthOf) (d := d - 1) (mc := 0) (ms := 0) (c := t_now) (As := [(2, b3)]) (S := []) d_X11_value_24 ok_mX7_worthOf ml_X11_313 rfl (rmc h0d (by decide)) rm00 (Nat.le_of_ble_eq_true rfl) rfl kX7 o_t_now.1 o_t_now.2.1 o_t_now.2.2.1 o_t_now.2.2.2 (MC.mono h (fun r N1 Λ1 σ4 hq => ?_))
    obtain ⟨v5, rfl, rfl, rfl, h⟩ := hq
    exact r_lret d_X11_value_27 rfl (Nat.le_refl 0) (Nat.le_refl 0) ⟨_, rfl, rfl, rfl, h⟩
  · have h := h.2 hc
    refine r_ldc2 (x := (-9223372036854775808)) d_X11_value_7 ck_X11_311 (by decide) ?_
    exact r_lret d_X11_value_10 rfl (Nat.le_refl 0) (Nat.le_refl 0) ⟨_, rfl, rfl, rfl, h⟩
theorem v_X11_undo_0 {l : Launch} {d N : Nat} {Λ : Lay} {P : Int → Mem → Prop} {σ : Mem} {x1 t t_history t_now : Int} (o_t : Ob N Λ t 20 14) (f_t_history : (Λ t).2.2 1 = t_history) (o_t_history : Ob N Λ t_history 14 3) (f_t_now : (Λ t).2.2 0 = t_now) (h0d : 1 ≤ d)
    (h : ((x1 < 1 → P (-3) σ) ∧ (¬ (x1 < 1) → ((10 < x1 → P (-3) σ) ∧ (¬ (10 < x1) → ((x1 ≤ (σ t_history 0) → (CV l mX4_goBack (d - 1) [(2, t_history), (0, x1), (2, t_now)] N Λ σ (fun σ1 => P (σ1 t_history 0) σ1))) ∧ (¬ (x1 ≤ (σ t_history 0)) → P (-3) σ))))))) :
    WI l mX11_undo d P 0 [(2, t), (0, x1)] [] N Λ σ := by
  refine r_iload_n (x := x1) d_X11_undo_0 rfl ?_
  refine r_iconst (x := 1) d_X11_undo_1 ⟨by decide, by decide⟩ ?_
  refine r_ic_lt (tgt := 22) d_X11_undo_2 rfl (fun hc => ?_) (fun hc => ?_)
  · have h := h.1 hc
    refine r_bipush (x := (-3)) d_X11_undo_22 ⟨by decide, by decide⟩ (by decide) ?_
    exact r_iret d_X11_undo_24 rfl rfl (Nat.le_refl 0) (Nat.le_refl 0) ⟨_, rfl, rfl, rfl, h⟩
  · have h := h.2 hc
    refine r_iload_n (x := x1) d_X11_undo_5 rfl ?_
    refine r_bipush (x := 10) d_X11_undo_6 ⟨by decide, by decide⟩ (by decide) ?_
    refine r_ic_gt (tgt := 22) d_X11_undo_8 rfl (fun hc => ?_) (fun hc => ?_)
    · have h := h.1 hc
      refine r_bipush (x := (-3)) d_X11_undo_22 ⟨by decide, by decide⟩ (by decide) ?_
      exact r_iret d_X11_undo_24 rfl rfl (Nat.le_refl 0) (Nat.le_refl 0) ⟨_, rfl, rfl, rfl, h⟩
    · have h := h.2 hc
      refine r_iload_n (x := x1) d_X11_undo_11 rfl ?_
      refine r_aload_n (x := t) d_X11_undo_12 rfl o_t.1 ?_
      refine r_getf (j := 1) (t := 2) (x := t_history) d_X11_undo_13 kX11 (by decide) fl_X11_19 o_t.1 o_t.2.1 o_t.2.2.1 o_t.2.2.2 rfl f_t_history ?_
      refine r_getf (j := 0) (t := 0) (x := (σ t_history 0)) d_X11_undo_16 kX4 (by decide) fl_X11_317 o_t_history.1 o_t_history.2.1 o_t_history.2.2.1 o_t_history.2.2.2 rfl rfl ?_
      refine r_ic_le (tgt := 25) d_X11_undo_19 rfl (fun hc => ?_) (fun hc => ?_)
      · have h := h.1 hc
        refine r_aload_n (x := t) d_X11_undo_25 rfl o_t.1 ?_
        refine r_getf (j := 1) (t := 2) (x := t_history) d_X11_undo_26 kX11 (by decide) fl_X11_19 o_t.1 o_t.2.1 o_t.2.2.1 o_t.2.2.2 rfl f_t_history ?_
        refine r_iload_n (x := x1) d_X11_undo_29 rfl ?_
        refine r_aload_n (x := t) d_X11_undo_30 rfl o_t.1 ?_
        refine r_getf (j := 0) (t := 2) (x := t_now) d_X11_undo_31 kX11 (by decide) fl_X11_10 o_t.1 o_t.2.1 o_t.2.2.1 o_t.2.2.2 rfl f_t_now ?_
        refine r_callV (Y2 := mX4_goBack) (d := d - 1) (mc := 0) (ms := 0) (c := t_history) (As := [(0, x1), (2, t_now)]) (S := []) d_X11_undo_34 ok_mX4_goBack ml_X11_318 rfl (rmc h0d (by decide)) rm00 (Nat.le_of_ble_eq_true rfl) rfl kX4 o_t_history.1 o_t_history.2.1 o_t_history.2.2.1 o_t_history.2.2.2 (MC.mono h (fun r N1 Λ1 σ1 hq => ?_))
        obtain ⟨rfl, rfl, rfl, h⟩ := hq
        refine r_aload_n (x := t) d_X11_undo_37 rfl o_t.1 ?_
        refine r_getf (j := 1) (t := 2) (x := t_history) d_X11_undo_38 kX11 (by decide) fl_X11_19 o_t.1 o_t.2.1 o_t.2.2.1 o_t.2.2.2 rfl f_t_history ?_
        refine r_getf (j := 0) (t := 0) (x := (σ1 t_history 0)) d_X11_undo_41 kX4 (by decide) fl_X11_317 o_t_history.1 o_t_history.2.1 o_t_history.2.2.1 o_t_history.2.2.2 rfl rfl ?_
        exact r_iret d_X11_undo_44 rfl rfl (Nat.le_refl 0) (Nat.le_refl 0) ⟨_, rfl, rfl, rfl, h⟩
      · have h := h.2 hc
        refine r_bipush (x := (-3)) d_X11_undo_22 ⟨by decide, by decide⟩ (by decide) ?_
        exact r_iret d_X11_undo_24 rfl rfl (Nat.le_refl 0) (Nat.le_refl 0) ⟨_, rfl, rfl, rfl, h⟩
theorem v_X11_image_0 {l : Launch} {d N : Nat} {Λ : Lay} {P : Int → Mem → Prop} {σ : Mem} {x1 t t_images t_made t_now : Int} (o_t : Ob N Λ t 20 14) (f_t_images : (Λ t).2.2 2 = t_images) (f_t_now : (Λ t).2.2 0 = t_now) (f_t_made : (Λ t).2.2 3 = t_made) (h0d : 1 ≤ d)
    (h : ((x1 < 0 → P (-2) σ) ∧ (¬ (x1 < 0) → ((x1 < 2 → (Ix N Λ t_images 4 x1 ∧ ∀ b1, b1 = (Λ t_images).2.2 x1 → Ob N Λ b1 16 3 ∧ (CV l mX7_take (d - 1) [(2, b1), (2, t_now)] N Λ σ (fun σ2 => (Ix N Λ t_made 2 x1 ∧ ((1 : Int) = 0 ∨ (1 : Int) = 1) ∧ (∀ τ3, τ3 = st σ2 t_made x1 1 → P 0 τ3)))))) ∧ (¬ (x1 < 2) → P (-2) σ))))) :
    WI l mX11_image d P 0 [(2, t), (0, x1)] [] N Λ σ := by
  refine r_iload_n (x := x1) d_X11_image_0 rfl ?_
  refine r_if_lt (tgt := 9) d_X11_image_1 rfl (fun hc => ?_) (fun hc => ?_)
  · have h := h.1 hc
    refine r_bipush (x := (-2)) d_X11_image_9 ⟨by decide, by decide⟩ (by decide) ?_
    exact r_iret d_X11_image_11 rfl rfl (Nat.le_refl 0) (Nat.le_refl 0) ⟨_, rfl, rfl, rfl, h⟩
  · have h := h.2 hc
    refine r_iload_n (x := x1) d_X11_image_4 rfl ?_
    refine r_iconst (x := 2) d_X11_image_5 ⟨by decide, by decide⟩ ?_
    refine r_ic_lt (tgt := 12) d_X11_image_6 rfl (fun hc => ?_) (fun hc => ?_)
    · have h := h.1 hc
      refine r_aload_n (x := t) d_X11_image_12 rfl o_t.1 ?_
      refine r_getf (j := 2) (t := 2) (x := t_images) d_X11_image_13 kX11 (by decide) fl_X11_23 o_t.1 o_t.2.1 o_t.2.2.1 o_t.2.2.2 rfl f_t_images ?_
      refine r_iload_n (x := x1) d_X11_image_16 rfl ?_
      refine x_aald (t := 4) (by decide) d_X11_image_17 h.1 (fun b1 eb1 => ?_)
      have h := h.2 b1 eb1
      have oob1 := h.1
      have h := h.2
      refine r_aload_n (x := t) d_X11_image_18 rfl o_t.1 ?_
      refine r_getf (j := 0) (t := 2) (x := t_now) d_X11_image_19 kX11 (by decide) fl_X11_10 o_t.1 o_t.2.1 o_t.2.2.1 o_t.2.2.2 rfl f_t_now ?_
      refine r_callV (Y2 := mX7_take) (d := d - 1) (mc := 0) (ms := 0) (c := b1) (As := [(2, t_now)]) (S := []) d_X11_image_22 ok_mX7_take ml_X11_322 rfl (rmc h0d (by decide)) rm00 (Nat.le_of_ble_eq_true rfl) rfl kX7 oob1.1 oob1.2.1 oob1.2.2.1 oob1.2.2.2 (MC.mono h (fun r N1 Λ1 σ2 hq => ?_))
      obtain ⟨rfl, rfl, rfl, h⟩ := hq
      refine r_aload_n (x := t) d_X11_image_25 rfl o_t.1 ?_
      refine r_getf (j := 3) (t := 2) (x := t_made) d_X11_image_26 kX11 (by decide) fl_X11_27 o_t.1 o_t.2.1 o_t.2.2.1 o_t.2.2.2 rfl f_t_made ?_
      refine r_iload_n (x := x1) d_X11_image_29 rfl ?_
      refine r_iconst (x := 1) d_X11_image_30 ⟨by decide, by decide⟩ ?_
      refine x_zast d_X11_image_31 h.1 h.2.1 ?_
      have h := h.2.2
      refine r_nmM (fun τ3 eτ3 => ?_)
      have h := h τ3 eτ3
      refine r_iconst (x := 0) d_X11_image_32 ⟨by decide, by decide⟩ ?_
      exact r_iret d_X11_image_33 rfl rfl (Nat.le_refl 0) (Nat.le_refl 0) ⟨_, rfl, rfl, rfl, h⟩
    · have h := h.2 hc
      refine r_bipush (x := (-2)) d_X11_image_9 ⟨by decide, by decide⟩ (by decide) ?_
      exact r_iret d_X11_image_11 rfl rfl (Nat.le_refl 0) (Nat.le_refl 0) ⟨_, rfl, rfl, rfl, h⟩
theorem v_X11_restore_0 {l : Launch} {d N : Nat} {Λ : Lay} {P : Int → Mem → Prop} {σ : Mem} {x1 t t_history t_images t_made t_now : Int} (o_t : Ob N Λ t 20 14) (f_t_made : (Λ t).2.2 3 = t_made) (f_t_now : (Λ t).2.2 0 = t_now) (f_t_images : (Λ t).2.2 2 = t_images) (o_t_now : Ob N Λ t_now 16 3) (f_t_history : (Λ t).2.2 1 = t_history) (o_t_history : Ob N Λ t_history 14 3) (h0d : 1 ≤ d)
    (h : ((x1 < 0 → P (-2) σ) ∧ (¬ (x1 < 0) → ((x1 < 2 → (Ix N Λ t_made 2 x1 ∧ ((¬ (σ t_made x1) = 0 → (Ix N Λ t_images 4 x1 ∧ ∀ b1, b1 = (Λ t_images).2.2 x1 → Ob N Λ b1 16 3 ∧ (CV l mX7_take (d - 1) [(2, t_now), (2, b1)] N Λ σ (fun σ2 => (CV l mX4_forget (d - 1) [(2, t_history)] N Λ σ2 (fun σ3 => P 0 σ3)))))) ∧ ((σ t_made x1) = 0 → P (-6) σ)))) ∧ (¬ (x1 < 2) → P (-2) σ))))) :
    WI l mX11_restore d P 0 [(2, t), (0, x1)] [] N Λ σ := by
  refine r_iload_n (x := x1) d_X11_restore_0 rfl ?_
  refine r_if_lt (tgt := 9) d_X11_restore_1 rfl (fun hc => ?_) (fun hc => ?_)
  · have h := h.1 hc
    refine r_bipush (x := (-2)) d_X11_restore_9 ⟨by decide, by decide⟩ (by decide) ?_
    exact r_iret d_X11_restore_11 rfl rfl (Nat.le_refl 0) (Nat.le_refl 0) ⟨_, rfl, rfl, rfl, h⟩
  · have h := h.2 hc
    refine r_iload_n (x := x1) d_X11_restore_4 rfl ?_
    refine r_iconst (x := 2) d_X11_restore_5 ⟨by decide, by decide⟩ ?_
    refine r_ic_lt (tgt := 12) d_X11_restore_6 rfl (fun hc => ?_) (fun hc => ?_)
    · have h := h.1 hc
      refine r_aload_n (x := t) d_X11_restore_12 rfl o_t.1 ?_
      refine r_getf (j := 3) (t := 2) (x := t_made) d_X11_restore_13 kX11 (by decide) fl_X11_27 o_t.1 o_t.2.1 o_t.2.2.1 o_t.2.2.2 rfl f_t_made ?_
      refine r_iload_n (x := x1) d_X11_restore_16 rfl ?_
      refine x_zald d_X11_restore_17 h.1 ?_
      have h := h.2
      refine r_if_ne (tgt := 24) d_X11_restore_18 rfl (fun hc => ?_) (fun hc => ?_)
      · have h := h.1 hc
        refine r_aload_n (x := t) d_X11_restore_24 rfl o_t.1 ?_
        refine r_getf (j := 0) (t := 2) (x := t_now) d_X11_restore_25 kX11 (by decide) fl_X11_10 o_t.1 o_t.2.1 o_t.2.2.1 o_t.2.2.2 rfl f_t_now ?_
        refine r_aload_n (x := t) d_X11_restore_28 rfl o_t.1 ?_
        refine r_getf (j := 2) (t := 2) (x := t_images) d_X11_restore_29 kX11 (by decide) fl_X11_23 o_t.1 o_t.2.1 o_t.2.2.1 o_t.2.2.2 rfl f_t_images ?_
        refine r_iload_n (x := x1) d_X11_restore_32 rfl ?_
        refine x_aald (t := 4) (by decide) d_X11_restore_33 h.1 (fun b1 eb1 => ?_)
        have h := h.2 b1 eb1
        have oob1 := h.1
        have h := h.2
        refine r_callV (Y2 := mX7_take) (d := d - 1) (mc := 0) (ms := 0) (c := t_now) (As := [(2, b1)]) (S := []) d_X11_restore_34 ok_mX7_take ml_X11_322 rfl (rmc h0d (by decide)) rm00 (Nat.le_of_ble_eq_true rfl) rfl kX7 o_t_now.1 o_t_now.2.1 o_t_now.2.2.1 o_t_now.2.2.2 (MC.mono h (fun r N1 Λ1 σ2 hq => ?_))
        obtain ⟨rfl, rfl, rfl, h⟩ := hq
        refine r_aload_n (x := t) d_X11_restore_37 rfl o_t.1 ?_
        refine r_getf (j := 1) (t := 2) (x := t_history) d_X11_restore_38 kX11 (by decide) fl_X11_19 o_t.1 o_t.2.1 o_t.2.2.1 o_t.2.2.2 rfl f_t_history ?_
        refine r_callV (Y2 := mX4_forget) (d := d - 1) (mc := 0) (ms := 0) (c := t_history) (As := []) (S := []) d_X11_restore_41 ok_mX4_forget ml_X11_324 rfl (rmc h0d (by decide)) rm00 (Nat.le_of_ble_eq_true rfl) rfl kX4 o_t_history.1 o_t_history.2.1 o_t_history.2.2.1 o_t_history.2.2.2 (MC.mono h (fun r N1 Λ1 σ3 hq => ?_))
        obtain ⟨rfl, rfl, rfl, h⟩ := hq
        refine r_iconst (x := 0) d_X11_restore_44 ⟨by decide, by decide⟩ ?_
        exact r_iret d_X11_restore_45 rfl rfl (Nat.le_refl 0) (Nat.le_refl 0) ⟨_, rfl, rfl, rfl, h⟩
      · have h := h.2 hc
        refine r_bipush (x := (-6)) d_X11_restore_21 ⟨by decide, by decide⟩ (by decide) ?_
        exact r_iret d_X11_restore_23 rfl rfl (Nat.le_refl 0) (Nat.le_refl 0) ⟨_, rfl, rfl, rfl, h⟩
    · have h := h.2 hc
      refine r_bipush (x := (-2)) d_X11_restore_9 ⟨by decide, by decide⟩ (by decide) ?_
      exact r_iret d_X11_restore_11 rfl rfl (Nat.le_refl 0) (Nat.le_refl 0) ⟨_, rfl, rfl, rfl, h⟩
theorem v_X11_count_0 {l : Launch} {d N : Nat} {Λ : Lay} {P : Int → Mem → Prop} {σ : Mem} {x1 t t_history t_now t_tape : Int} (o_t : Ob N Λ t 20 14) (f_t_now : (Λ t).2.2 0 = t_now) (o_t_now : Ob N Λ t_now 16 3) (f_t_tape : (Λ t).2.2 4 = t_tape) (o_t_tape : Ob N Λ t_tape 18 6) (f_t_history : (Λ t).2.2 1 = t_history) (o_t_history : Ob N Λ t_history 14 3) (h0d : 1 ≤ d)
    (h : ((x1 < 0 ∨ 5 < x1 → P (-1) σ) ∧ (x1 = 0 → (CI l mX7_allTerms (d - 1) [(2, t_now)] N Λ σ (fun v2 σ1 => P v2 σ1))) ∧ (x1 = 1 → (CI l mX7_factsThatAre (d - 1) [(2, t_now), (0, 0)] N Λ σ (fun v4 σ3 => P v4 σ3))) ∧ (x1 = 2 → (CI l mX7_factsThatAre (d - 1) [(2, t_now), (0, 1)] N Λ σ (fun v6 σ5 => P v6 σ5))) ∧ (x1 = 3 → P (σ t_tape 1) σ) ∧ (x1 = 4 → P (σ t_history 0) σ) ∧ (x1 = 5 → (CI l mX7_bracketsWorthZero (d - 1) [(2, t_now)] N Λ σ (fun v8 σ7 => P v8 σ7))))) :
    WI l mX11_count d P 0 [(2, t), (0, x1)] [] N Λ σ := by
  refine r_iload_n (x := x1) d_X11_count_0 rfl ?_
  by_cases hr : x1 < 0 ∨ 5 < x1
  · have h := h.1 hr
    refine r_tout (tgt := 90) d_X11_count_1 hr rfl ?_
    refine r_iconst (x := (-1)) d_X11_count_90 ⟨by decide, by decide⟩ ?_
    exact r_iret d_X11_count_91 rfl rfl (Nat.le_refl 0) (Nat.le_refl 0) ⟨_, rfl, rfl, rfl, h⟩
  · have h := h.2
    by_cases hk0 : x1 = 0
    · have h := h.1 hk0
      refine r_tin (off := 39) (tgt := 40) d_X11_count_1 (by rw [hk0]; decide) (by rw [hk0]; decide) (by rw [hk0]; rfl) rfl ?_
      refine r_aload_n (x := t) d_X11_count_40 rfl o_t.1 ?_
      refine r_getf (j := 0) (t := 2) (x := t_now) d_X11_count_41 kX11 (by decide) fl_X11_10 o_t.1 o_t.2.1 o_t.2.2.1 o_t.2.2.2 rfl f_t_now ?_
      refine r_callV (Y2 := mX7_allTerms) (d := d - 1) (mc := 0) (ms := 0) (c := t_now) (As := []) (S := []) d_X11_count_44 ok_mX7_allTerms ml_X11_327 rfl (rmc h0d (by decide)) rm00 (Nat.le_of_ble_eq_true rfl) rfl kX7 o_t_now.1 o_t_now.2.1 o_t_now.2.2.1 o_t_now.2.2.2 (MC.mono h (fun r N1 Λ1 σ1 hq => ?_))
      obtain ⟨v2, rfl, rfl, rfl, h⟩ := hq
      exact r_iret d_X11_count_47 rfl rfl (Nat.le_refl 0) (Nat.le_refl 0) ⟨_, rfl, rfl, rfl, h⟩
    have h := h.2
    by_cases hk1 : x1 = 1
    · have h := h.1 hk1
      refine r_tin (off := 47) (tgt := 48) d_X11_count_1 (by rw [hk1]; decide) (by rw [hk1]; decide) (by rw [hk1]; rfl) rfl ?_
      refine r_aload_n (x := t) d_X11_count_48 rfl o_t.1 ?_
      refine r_getf (j := 0) (t := 2) (x := t_now) d_X11_count_49 kX11 (by decide) fl_X11_10 o_t.1 o_t.2.1 o_t.2.2.1 o_t.2.2.2 rfl f_t_now ?_
      refine r_iconst (x := 0) d_X11_count_52 ⟨by decide, by decide⟩ ?_
      refine r_callV (Y2 := mX7_factsThatAre) (d := d - 1) (mc := 0) (ms := 0) (c := t_now) (As := [(0, 0)]) (S := []) d_X11_count_53 ok_mX7_factsThatAre ml_X11_330 rfl (rmc h0d (by decide)) rm00 (Nat.le_of_ble_eq_true rfl) rfl kX7 o_t_now.1 o_t_now.2.1 o_t_now.2.2.1 o_t_now.2.2.2 (MC.mono h (fun r N1 Λ1 σ3 hq => ?_))
      obtain ⟨v4, rfl, rfl, rfl, h⟩ := hq
      exact r_iret d_X11_count_56 rfl rfl (Nat.le_refl 0) (Nat.le_refl 0) ⟨_, rfl, rfl, rfl, h⟩
    have h := h.2
    by_cases hk2 : x1 = 2
    · have h := h.1 hk2
      refine r_tin (off := 56) (tgt := 57) d_X11_count_1 (by rw [hk2]; decide) (by rw [hk2]; decide) (by rw [hk2]; rfl) rfl ?_
      refine r_aload_n (x := t) d_X11_count_57 rfl o_t.1 ?_
      refine r_getf (j := 0) (t := 2) (x := t_now) d_X11_count_58 kX11 (by decide) fl_X11_10 o_t.1 o_t.2.1 o_t.2.2.1 o_t.2.2.2 rfl f_t_now ?_
      refine r_iconst (x := 1) d_X11_count_61 ⟨by decide, by decide⟩ ?_
      refine r_callV (Y2 := mX7_factsThatAre) (d := d - 1) (mc := 0) (ms := 0) (c := t_now) (As := [(0, 1)]) (S := []) d_X11_count_62 ok_mX7_factsThatAre ml_X11_330 rfl (rmc h0d (by decide)) rm00 (Nat.le_of_ble_eq_true rfl) rfl kX7 o_t_now.1 o_t_now.2.1 o_t_now.2.2.1 o_t_now.2.2.2 (MC.mono h (fun r N1 Λ1 σ5 hq => ?_))
      obtain ⟨v6, rfl, rfl, rfl, h⟩ := hq
      exact r_iret d_X11_count_65 rfl rfl (Nat.le_refl 0) (Nat.le_refl 0) ⟨_, rfl, rfl, rfl, h⟩
    have h := h.2
    by_cases hk3 : x1 = 3
    · have h := h.1 hk3
      refine r_tin (off := 65) (tgt := 66) d_X11_count_1 (by rw [hk3]; decide) (by rw [hk3]; decide) (by rw [hk3]; rfl) rfl ?_
      refine r_aload_n (x := t) d_X11_count_66 rfl o_t.1 ?_
      refine r_getf (j := 4) (t := 2) (x := t_tape) d_X11_count_67 kX11 (by decide) fl_X11_34 o_t.1 o_t.2.1 o_t.2.2.1 o_t.2.2.2 rfl f_t_tape ?_
      refine r_getf (j := 1) (t := 0) (x := (σ t_tape 1)) d_X11_count_70 kX9 (by decide) fl_X11_94 o_t_tape.1 o_t_tape.2.1 o_t_tape.2.2.1 o_t_tape.2.2.2 rfl rfl ?_
      exact r_iret d_X11_count_73 rfl rfl (Nat.le_refl 0) (Nat.le_refl 0) ⟨_, rfl, rfl, rfl, h⟩
    have h := h.2
    by_cases hk4 : x1 = 4
    · have h := h.1 hk4
      refine r_tin (off := 73) (tgt := 74) d_X11_count_1 (by rw [hk4]; decide) (by rw [hk4]; decide) (by rw [hk4]; rfl) rfl ?_
      refine r_aload_n (x := t) d_X11_count_74 rfl o_t.1 ?_
      refine r_getf (j := 1) (t := 2) (x := t_history) d_X11_count_75 kX11 (by decide) fl_X11_19 o_t.1 o_t.2.1 o_t.2.2.1 o_t.2.2.2 rfl f_t_history ?_
      refine r_getf (j := 0) (t := 0) (x := (σ t_history 0)) d_X11_count_78 kX4 (by decide) fl_X11_317 o_t_history.1 o_t_history.2.1 o_t_history.2.2.1 o_t_history.2.2.2 rfl rfl ?_
      exact r_iret d_X11_count_81 rfl rfl (Nat.le_refl 0) (Nat.le_refl 0) ⟨_, rfl, rfl, rfl, h⟩
    have h := h.2
    by_cases hk5 : x1 = 5
    · have h := h hk5
      refine r_tin (off := 81) (tgt := 82) d_X11_count_1 (by rw [hk5]; decide) (by rw [hk5]; decide) (by rw [hk5]; rfl) rfl ?_
      refine r_aload_n (x := t) d_X11_count_82 rfl o_t.1 ?_
      refine r_getf (j := 0) (t := 2) (x := t_now) d_X11_count_83 kX11 (by decide) fl_X11_10 o_t.1 o_t.2.1 o_t.2.2.1 o_t.2.2.2 rfl f_t_now ?_
      refine r_callV (Y2 := mX7_bracketsWorthZero) (d := d - 1) (mc := 0) (ms := 0) (c := t_now) (As := []) (S := []) d_X11_count_86 ok_mX7_bracketsWorthZero ml_X11_333 rfl (rmc h0d (by decide)) rm00 (Nat.le_of_ble_eq_true rfl) rfl kX7 o_t_now.1 o_t_now.2.1 o_t_now.2.2.1 o_t_now.2.2.2 (MC.mono h (fun r N1 Λ1 σ7 hq => ?_))
      obtain ⟨v8, rfl, rfl, rfl, h⟩ := hq
      exact r_iret d_X11_count_89 rfl rfl (Nat.le_refl 0) (Nat.le_refl 0) ⟨_, rfl, rfl, rfl, h⟩
    exact (tsw_5 hr hk0 hk1 hk2 hk3 hk4 hk5).elim
theorem v_X11_isShelf_0 {l : Launch} {d N : Nat} {Λ : Lay} {P : Int → Mem → Prop} {σ : Mem} {x0 : Int}
    (h : ((x0 < 0 → P 0 σ) ∧ (¬ (x0 < 0) → ((6 ≤ x0 → P 0 σ) ∧ (¬ (6 ≤ x0) → P 1 σ))))) :
    WI l mX11_isShelf d P 0 [(0, x0)] [] N Λ σ := by
  refine r_iload_n (x := x0) d_X11_isShelf_0 rfl ?_
  refine r_if_lt (tgt := 14) d_X11_isShelf_1 rfl (fun hc => ?_) (fun hc => ?_)
  · have h := h.1 hc
    refine r_iconst (x := 0) d_X11_isShelf_14 ⟨by decide, by decide⟩ ?_
    exact r_iret d_X11_isShelf_15 rfl (by decide) (Nat.le_refl 0) (Nat.le_refl 0) ⟨_, rfl, rfl, rfl, h⟩
  · have h := h.2 hc
    refine r_iload_n (x := x0) d_X11_isShelf_4 rfl ?_
    refine r_bipush (x := 6) d_X11_isShelf_5 ⟨by decide, by decide⟩ (by decide) ?_
    refine r_ic_ge (tgt := 14) d_X11_isShelf_7 rfl (fun hc => ?_) (fun hc => ?_)
    · have h := h.1 hc
      refine r_iconst (x := 0) d_X11_isShelf_14 ⟨by decide, by decide⟩ ?_
      exact r_iret d_X11_isShelf_15 rfl (by decide) (Nat.le_refl 0) (Nat.le_refl 0) ⟨_, rfl, rfl, rfl, h⟩
    · have h := h.2 hc
      refine r_iconst (x := 1) d_X11_isShelf_10 ⟨by decide, by decide⟩ ?_
      refine r_goto (tgt := 15) d_X11_isShelf_11 rfl ?_
      exact r_iret d_X11_isShelf_15 rfl (by decide) (Nat.le_refl 0) (Nat.le_refl 0) ⟨_, rfl, rfl, rfl, h⟩
theorem v_X11_isLetter_0 {l : Launch} {d N : Nat} {Λ : Lay} {P : Int → Mem → Prop} {σ : Mem} {x0 : Int}
    (h : ((x0 < 0 → P 0 σ) ∧ (¬ (x0 < 0) → ((10 ≤ x0 → P 0 σ) ∧ (¬ (10 ≤ x0) → P 1 σ))))) :
    WI l mX11_isLetter d P 0 [(0, x0)] [] N Λ σ := by
  refine r_iload_n (x := x0) d_X11_isLetter_0 rfl ?_
  refine r_if_lt (tgt := 14) d_X11_isLetter_1 rfl (fun hc => ?_) (fun hc => ?_)
  · have h := h.1 hc
    refine r_iconst (x := 0) d_X11_isLetter_14 ⟨by decide, by decide⟩ ?_
    exact r_iret d_X11_isLetter_15 rfl (by decide) (Nat.le_refl 0) (Nat.le_refl 0) ⟨_, rfl, rfl, rfl, h⟩
  · have h := h.2 hc
    refine r_iload_n (x := x0) d_X11_isLetter_4 rfl ?_
    refine r_bipush (x := 10) d_X11_isLetter_5 ⟨by decide, by decide⟩ (by decide) ?_
    refine r_ic_ge (tgt := 14) d_X11_isLetter_7 rfl (fun hc => ?_) (fun hc => ?_)
    · have h := h.1 hc
      refine r_iconst (x := 0) d_X11_isLetter_14 ⟨by decide, by decide⟩ ?_
      exact r_iret d_X11_isLetter_15 rfl (by decide) (Nat.le_refl 0) (Nat.le_refl 0) ⟨_, rfl, rfl, rfl, h⟩
    · have h := h.2 hc
      refine r_iconst (x := 1) d_X11_isLetter_10 ⟨by decide, by decide⟩ ?_
      refine r_goto (tgt := 15) d_X11_isLetter_11 rfl ?_
      exact r_iret d_X11_isLetter_15 rfl (by decide) (Nat.le_refl 0) (Nat.le_refl 0) ⟨_, rfl, rfl, rfl, h⟩
theorem v_X11_areLetters_0 {l : Launch} {d N : Nat} {Λ : Lay} {P : Int → Mem → Prop} {σ : Mem} {x0 x1 x2 : Int} (h0d : 1 ≤ d)
    (h : (CI l mX11_isLetter (d - 1) [(0, x0)] N Λ σ (fun v2 σ1 => ((v2 = 0 → P 0 σ1) ∧ (¬ (v2 = 0) → (CI l mX11_isLetter (d - 1) [(0, x1)] N Λ σ1 (fun v4 σ3 => ((v4 = 0 → P 0 σ3) ∧ (¬ (v4 = 0) → (CI l mX11_isLetter (d - 1) [(0, x2)] N Λ σ3 (fun v6 σ5 => ((v6 = 0 → P 0 σ5) ∧ (¬ (v6 = 0) → P 1 σ5))))))))))))) :
    WI l mX11_areLetters d P 0 [(0, x0), (0, x1), (0, x2)] [] N Λ σ := by
  refine r_iload_n (x := x0) d_X11_areLetters_0 rfl ?_
  refine r_callS (Y2 := mX11_isLetter) (d := d - 1) (mc := 0) (ms := 0) (As := [(0, x0)]) (S := []) d_X11_areLetters_1 ok_mX11_isLetter ml_X11_205 rfl (rmc h0d (by decide)) rm00 (Nat.le_of_ble_eq_true rfl) rfl (MC.mono h (fun r N1 Λ1 σ1 hq => ?_))
  obtain ⟨v2, rfl, rfl, rfl, h⟩ := hq
  refine r_if_eq (tgt := 25) d_X11_areLetters_4 rfl (fun hc => ?_) (fun hc => ?_)
  · have h := h.1 hc
    refine r_iconst (x := 0) d_X11_areLetters_25 ⟨by decide, by decide⟩ ?_
    exact r_iret d_X11_areLetters_26 rfl (by decide) (Nat.le_refl 0) (Nat.le_refl 0) ⟨_, rfl, rfl, rfl, h⟩
  · have h := h.2 hc
    refine r_iload_n (x := x1) d_X11_areLetters_7 rfl ?_
    refine r_callS (Y2 := mX11_isLetter) (d := d - 1) (mc := 0) (ms := 0) (As := [(0, x1)]) (S := []) d_X11_areLetters_8 ok_mX11_isLetter ml_X11_205 rfl (rmc h0d (by decide)) rm00 (Nat.le_of_ble_eq_true rfl) rfl (MC.mono h (fun r N1 Λ1 σ3 hq => ?_))
    obtain ⟨v4, rfl, rfl, rfl, h⟩ := hq
    refine r_if_eq (tgt := 25) d_X11_areLetters_11 rfl (fun hc => ?_) (fun hc => ?_)
    · have h := h.1 hc
      refine r_iconst (x := 0) d_X11_areLetters_25 ⟨by decide, by decide⟩ ?_
      exact r_iret d_X11_areLetters_26 rfl (by decide) (Nat.le_refl 0) (Nat.le_refl 0) ⟨_, rfl, rfl, rfl, h⟩
    · have h := h.2 hc
      refine r_iload_n (x := x2) d_X11_areLetters_14 rfl ?_
      refine r_callS (Y2 := mX11_isLetter) (d := d - 1) (mc := 0) (ms := 0) (As := [(0, x2)]) (S := []) d_X11_areLetters_15 ok_mX11_isLetter ml_X11_205 rfl (rmc h0d (by decide)) rm00 (Nat.le_of_ble_eq_true rfl) rfl (MC.mono h (fun r N1 Λ1 σ5 hq => ?_))
      obtain ⟨v6, rfl, rfl, rfl, h⟩ := hq
      refine r_if_eq (tgt := 25) d_X11_areLetters_18 rfl (fun hc => ?_) (fun hc => ?_)
      · have h := h.1 hc
        refine r_iconst (x := 0) d_X11_areLetters_25 ⟨by decide, by decide⟩ ?_
        exact r_iret d_X11_areLetters_26 rfl (by decide) (Nat.le_refl 0) (Nat.le_refl 0) ⟨_, rfl, rfl, rfl, h⟩
      · have h := h.2 hc
        refine r_iconst (x := 1) d_X11_areLetters_21 ⟨by decide, by decide⟩ ?_
        refine r_goto (tgt := 26) d_X11_areLetters_22 rfl ?_
        exact r_iret d_X11_areLetters_26 rfl (by decide) (Nat.le_refl 0) (Nat.le_refl 0) ⟨_, rfl, rfl, rfl, h⟩
theorem v_X11_isNear_0 {l : Launch} {d N : Nat} {Λ : Lay} {P : Int → Mem → Prop} {σ : Mem} {x0 : Int}
    (h : ((x0 < (-99) → P 0 σ) ∧ (¬ (x0 < (-99)) → ((99 < x0 → P 0 σ) ∧ (¬ (99 < x0) → P 1 σ))))) :
    WI l mX11_isNear d P 0 [(0, x0)] [] N Λ σ := by
  refine r_iload_n (x := x0) d_X11_isNear_0 rfl ?_
  refine r_bipush (x := (-99)) d_X11_isNear_1 ⟨by decide, by decide⟩ (by decide) ?_
  refine r_ic_lt (tgt := 16) d_X11_isNear_3 rfl (fun hc => ?_) (fun hc => ?_)
  · have h := h.1 hc
    refine r_iconst (x := 0) d_X11_isNear_16 ⟨by decide, by decide⟩ ?_
    exact r_iret d_X11_isNear_17 rfl (by decide) (Nat.le_refl 0) (Nat.le_refl 0) ⟨_, rfl, rfl, rfl, h⟩
  · have h := h.2 hc
    refine r_iload_n (x := x0) d_X11_isNear_6 rfl ?_
    refine r_bipush (x := 99) d_X11_isNear_7 ⟨by decide, by decide⟩ (by decide) ?_
    refine r_ic_gt (tgt := 16) d_X11_isNear_9 rfl (fun hc => ?_) (fun hc => ?_)
    · have h := h.1 hc
      refine r_iconst (x := 0) d_X11_isNear_16 ⟨by decide, by decide⟩ ?_
      exact r_iret d_X11_isNear_17 rfl (by decide) (Nat.le_refl 0) (Nat.le_refl 0) ⟨_, rfl, rfl, rfl, h⟩
    · have h := h.2 hc
      refine r_iconst (x := 1) d_X11_isNear_12 ⟨by decide, by decide⟩ ?_
      refine r_goto (tgt := 17) d_X11_isNear_13 rfl ?_
      exact r_iret d_X11_isNear_17 rfl (by decide) (Nat.le_refl 0) (Nat.le_refl 0) ⟨_, rfl, rfl, rfl, h⟩
theorem v_X11_rowOfDigits_0 {l : Launch} {d N : Nat} {Λ : Lay} {P : Int → Mem → Prop} {σ : Mem} {x0 : Int} (h0d : 1 ≤ d)
    (h : (CI l mX6_row (d - 1) [(0, (divI x0 100)), (0, (remI (divI x0 10) 10)), (0, (remI x0 10))] N Λ σ (fun v2 σ1 => P v2 σ1))) :
    WI l mX11_rowOfDigits d P 0 [(0, x0)] [] N Λ σ := by
  refine r_iload_n (x := x0) d_X11_rowOfDigits_0 rfl ?_
  refine r_bipush (x := 100) d_X11_rowOfDigits_1 ⟨by decide, by decide⟩ (by decide) ?_
  refine r_idiv d_X11_rowOfDigits_3 (by decide) ?_
  refine r_iload_n (x := x0) d_X11_rowOfDigits_4 rfl ?_
  refine r_bipush (x := 10) d_X11_rowOfDigits_5 ⟨by decide, by decide⟩ (by decide) ?_
  refine r_idiv d_X11_rowOfDigits_7 (by decide) ?_
  refine r_bipush (x := 10) d_X11_rowOfDigits_8 ⟨by decide, by decide⟩ (by decide) ?_
  refine r_irem d_X11_rowOfDigits_10 (by decide) ?_
  refine r_iload_n (x := x0) d_X11_rowOfDigits_11 rfl ?_
  refine r_bipush (x := 10) d_X11_rowOfDigits_12 ⟨by decide, by decide⟩ (by decide) ?_
  refine r_irem d_X11_rowOfDigits_14 (by decide) ?_
  refine r_callS (Y2 := mX6_row) (d := d - 1) (mc := 0) (ms := 0) (As := [(0, (divI x0 100)), (0, (remI (divI x0 10) 10)), (0, (remI x0 10))]) (S := []) d_X11_rowOfDigits_15 ok_mX6_row ml_X11_167 rfl (rmc h0d (by decide)) rm00 (Nat.le_of_ble_eq_true rfl) rfl (MC.mono h (fun r N1 Λ1 σ1 hq => ?_))
  obtain ⟨v2, rfl, rfl, rfl, h⟩ := hq
  exact r_iret d_X11_rowOfDigits_18 rfl rfl (Nat.le_refl 0) (Nat.le_refl 0) ⟨_, rfl, rfl, rfl, h⟩
theorem v_X11_askedOfTape_0 {l : Launch} {d N : Nat} {Λ : Lay} {P : Int → Mem → Prop} {σ : Mem} {x1 x2 t t_tape : Int} (o_t : Ob N Λ t 20 14) (f_t_tape : (Λ t).2.2 4 = t_tape) (o_t_tape : Ob N Λ t_tape 18 6) (h0d : 1 ≤ d)
    (h : (CI l mX11_isShelf (d - 1) [(0, x1)] N Λ σ (fun v2 σ1 => ((¬ v2 = 0 → ((x2 < 0 → P (-3) σ1) ∧ (¬ (x2 < 0) → ((x2 ≤ (σ1 t_tape 1) → P 0 σ1) ∧ (¬ (x2 ≤ (σ1 t_tape 1)) → P (-3) σ1))))) ∧ (v2 = 0 → P (-2) σ1))))) :
    WI l mX11_askedOfTape d P 0 [(2, t), (0, x1), (0, x2)] [] N Λ σ := by
  refine r_iload_n (x := x1) d_X11_askedOfTape_0 rfl ?_
  refine r_callS (Y2 := mX11_isShelf) (d := d - 1) (mc := 0) (ms := 0) (As := [(0, x1)]) (S := []) d_X11_askedOfTape_1 ok_mX11_isShelf ml_X11_143 rfl (rmc h0d (by decide)) rm00 (Nat.le_of_ble_eq_true rfl) rfl (MC.mono h (fun r N1 Λ1 σ1 hq => ?_))
  obtain ⟨v2, rfl, rfl, rfl, h⟩ := hq
  refine r_if_ne (tgt := 10) d_X11_askedOfTape_4 rfl (fun hc => ?_) (fun hc => ?_)
  · have h := h.1 hc
    refine r_iload_n (x := x2) d_X11_askedOfTape_10 rfl ?_
    refine r_if_lt (tgt := 25) d_X11_askedOfTape_11 rfl (fun hc => ?_) (fun hc => ?_)
    · have h := h.1 hc
      refine r_bipush (x := (-3)) d_X11_askedOfTape_25 ⟨by decide, by decide⟩ (by decide) ?_
      refine r_goto (tgt := 31) d_X11_askedOfTape_27 rfl ?_
      exact r_iret d_X11_askedOfTape_31 rfl rfl (Nat.le_refl 0) (Nat.le_refl 0) ⟨_, rfl, rfl, rfl, h⟩
    · have h := h.2 hc
      refine r_iload_n (x := x2) d_X11_askedOfTape_14 rfl ?_
      refine r_aload_n (x := t) d_X11_askedOfTape_15 rfl o_t.1 ?_
      refine r_getf (j := 4) (t := 2) (x := t_tape) d_X11_askedOfTape_16 kX11 (by decide) fl_X11_34 o_t.1 o_t.2.1 o_t.2.2.1 o_t.2.2.2 rfl f_t_tape ?_
      refine r_getf (j := 1) (t := 0) (x := (σ1 t_tape 1)) d_X11_askedOfTape_19 kX9 (by decide) fl_X11_94 o_t_tape.1 o_t_tape.2.1 o_t_tape.2.2.1 o_t_tape.2.2.2 rfl rfl ?_
      refine r_ic_le (tgt := 30) d_X11_askedOfTape_22 rfl (fun hc => ?_) (fun hc => ?_)
      · have h := h.1 hc
        refine r_iconst (x := 0) d_X11_askedOfTape_30 ⟨by decide, by decide⟩ ?_
        exact r_iret d_X11_askedOfTape_31 rfl rfl (Nat.le_refl 0) (Nat.le_refl 0) ⟨_, rfl, rfl, rfl, h⟩
      · have h := h.2 hc
        refine r_bipush (x := (-3)) d_X11_askedOfTape_25 ⟨by decide, by decide⟩ (by decide) ?_
        refine r_goto (tgt := 31) d_X11_askedOfTape_27 rfl ?_
        exact r_iret d_X11_askedOfTape_31 rfl rfl (Nat.le_refl 0) (Nat.le_refl 0) ⟨_, rfl, rfl, rfl, h⟩
  · have h := h.2 hc
    refine r_bipush (x := (-2)) d_X11_askedOfTape_7 ⟨by decide, by decide⟩ (by decide) ?_
    exact r_iret d_X11_askedOfTape_9 rfl rfl (Nat.le_refl 0) (Nat.le_refl 0) ⟨_, rfl, rfl, rfl, h⟩
theorem v_X11_badText_0 {l : Launch} {d N : Nat} {Λ : Lay} {P : Int → Mem → Prop} {σ : Mem} {t t_tape : Int} (o_t : Ob N Λ t 20 14) (f_t_tape : (Λ t).2.2 4 = t_tape) (o_t_tape : Ob N Λ t_tape 18 6)
    (h : (∀ τ1, τ1 = st σ t_tape 1 0 → P (subI (-30) (τ1 t_tape 2)) τ1)) :
    WI l mX11_badText d P 0 [(2, t)] [] N Λ σ := by
  refine r_aload_n (x := t) d_X11_badText_0 rfl o_t.1 ?_
  refine r_getf (j := 4) (t := 2) (x := t_tape) d_X11_badText_1 kX11 (by decide) fl_X11_34 o_t.1 o_t.2.1 o_t.2.2.1 o_t.2.2.2 rfl f_t_tape ?_
  refine r_iconst (x := 0) d_X11_badText_4 ⟨by decide, by decide⟩ ?_
  refine r_putI (j := 1) d_X11_badText_5 kX9 (by decide) fl_X11_94 rfl o_t_tape.1 o_t_tape.2.1 o_t_tape.2.2.1 o_t_tape.2.2.2 rfl ?_
  refine r_nmM (fun τ1 eτ1 => ?_)
  have h := h τ1 eτ1
  refine r_bipush (x := (-30)) d_X11_badText_8 ⟨by decide, by decide⟩ (by decide) ?_
  refine r_aload_n (x := t) d_X11_badText_10 rfl o_t.1 ?_
  refine r_getf (j := 4) (t := 2) (x := t_tape) d_X11_badText_11 kX11 (by decide) fl_X11_34 o_t.1 o_t.2.1 o_t.2.2.1 o_t.2.2.2 rfl f_t_tape ?_
  refine r_getf (j := 2) (t := 0) (x := (τ1 t_tape 2)) d_X11_badText_14 kX9 (by decide) fl_X11_137 o_t_tape.1 o_t_tape.2.1 o_t_tape.2.2.1 o_t_tape.2.2.2 rfl rfl ?_
  refine r_isub d_X11_badText_17 ?_
  exact r_iret d_X11_badText_18 rfl rfl (Nat.le_refl 0) (Nat.le_refl 0) ⟨_, rfl, rfl, rfl, h⟩
theorem v_X11_keepText_0 {l : Launch} {d N : Nat} {Λ : Lay} {P : Int → Mem → Prop} {σ : Mem} {x1 x2 t t_tape : Int} (o_t : Ob N Λ t 20 14) (f_t_tape : (Λ t).2.2 4 = t_tape) (o_t_tape : Ob N Λ t_tape 18 6) (h0d : 1 ≤ d)
    (h : ((¬ x2 = 0 → (CI l mX11_keep (d - 1) [(2, t), (0, x1), (0, x2)] N Λ σ (fun v2 σ1 => P v2 σ1))) ∧ (x2 = 0 → (∀ τ3, τ3 = st σ t_tape 1 0 → (CI l mX11_keep (d - 1) [(2, t), (0, x1), (0, x2)] N Λ τ3 (fun v5 σ4 => P v5 σ4)))))) :
    WI l mX11_keepText d P 0 [(2, t), (0, x1), (0, x2)] [] N Λ σ := by
  refine r_iload_n (x := x2) d_X11_keepText_0 rfl ?_
  refine r_if_ne (tgt := 12) d_X11_keepText_1 rfl (fun hc => ?_) (fun hc => ?_)
  · have h := h.1 hc
    refine r_aload_n (x := t) d_X11_keepText_12 rfl o_t.1 ?_
    refine r_iload_n (x := x1) d_X11_keepText_13 rfl ?_
    refine r_iload_n (x := x2) d_X11_keepText_14 rfl ?_
    refine r_callV (Y2 := mX11_keep) (d := d - 1) (mc := 0) (ms := 0) (c := t) (As := [(0, x1), (0, x2)]) (S := []) d_X11_keepText_15 ok_mX11_keep ml_X11_154 rfl (rmc h0d (by decide)) rm00 (Nat.le_of_ble_eq_true rfl) rfl kX11 o_t.1 o_t.2.1 o_t.2.2.1 o_t.2.2.2 (MC.mono h (fun r N1 Λ1 σ1 hq => ?_))
    obtain ⟨v2, rfl, rfl, rfl, h⟩ := hq
    exact r_iret d_X11_keepText_18 rfl rfl (Nat.le_refl 0) (Nat.le_refl 0) ⟨_, rfl, rfl, rfl, h⟩
  · have h := h.2 hc
    refine r_aload_n (x := t) d_X11_keepText_4 rfl o_t.1 ?_
    refine r_getf (j := 4) (t := 2) (x := t_tape) d_X11_keepText_5 kX11 (by decide) fl_X11_34 o_t.1 o_t.2.1 o_t.2.2.1 o_t.2.2.2 rfl f_t_tape ?_
    refine r_iconst (x := 0) d_X11_keepText_8 ⟨by decide, by decide⟩ ?_
    refine r_putI (j := 1) d_X11_keepText_9 kX9 (by decide) fl_X11_94 rfl o_t_tape.1 o_t_tape.2.1 o_t_tape.2.2.1 o_t_tape.2.2.2 rfl ?_
    refine r_nmM (fun τ3 eτ3 => ?_)
    have h := h τ3 eτ3
    refine r_aload_n (x := t) d_X11_keepText_12 rfl o_t.1 ?_
    refine r_iload_n (x := x1) d_X11_keepText_13 rfl ?_
    refine r_iload_n (x := x2) d_X11_keepText_14 rfl ?_
    refine r_callV (Y2 := mX11_keep) (d := d - 1) (mc := 0) (ms := 0) (c := t) (As := [(0, x1), (0, x2)]) (S := []) d_X11_keepText_15 ok_mX11_keep ml_X11_154 rfl (rmc h0d (by decide)) rm00 (Nat.le_of_ble_eq_true rfl) rfl kX11 o_t.1 o_t.2.1 o_t.2.2.1 o_t.2.2.2 (MC.mono h (fun r N1 Λ1 σ4 hq => ?_))
    obtain ⟨v5, rfl, rfl, rfl, h⟩ := hq
    exact r_iret d_X11_keepText_18 rfl rfl (Nat.le_refl 0) (Nat.le_refl 0) ⟨_, rfl, rfl, rfl, h⟩
theorem v_X11_keep_0 {l : Launch} {d N : Nat} {Λ : Lay} {P : Int → Mem → Prop} {σ : Mem} {x1 x2 t t_history t_now t_now_shelves t_work : Int} (o_t : Ob N Λ t 20 14) (f_t_history : (Λ t).2.2 1 = t_history) (f_t_now : (Λ t).2.2 0 = t_now) (o_t_history : Ob N Λ t_history 14 3) (o_t_now : Ob N Λ t_now 16 3) (f_t_now_shelves : (Λ t_now).2.2 0 = t_now_shelves) (f_t_work : (Λ t).2.2 11 = t_work) (o_t_work : Ob N Λ t_work 15 3) (h0d : 1 ≤ d)
    (h : ((x2 = 0 → (CV l mX4_keep (d - 1) [(2, t_history), (2, t_now)] N Λ σ (fun σ1 => (Ix N Λ t_now_shelves 3 x1 ∧ ∀ b2, b2 = (Λ t_now_shelves).2.2 x1 → Ob N Λ b2 15 3 ∧ (CV l mX5_take (d - 1) [(2, b2), (2, t_work)] N Λ σ1 (fun σ3 => P (σ3 t_work 2) σ3)))))) ∧ (¬ (x2 = 0) → (CI l mX11_refused (d - 1) [(2, t), (0, x2)] N Λ σ (fun v5 σ4 => P v5 σ4))))) :
    WI l mX11_keep d P 0 [(2, t), (0, x1), (0, x2)] [] N Λ σ := by
  refine r_iload_n (x := x2) d_X11_keep_0 rfl ?_
  refine r_if_eq (tgt := 10) d_X11_keep_1 rfl (fun hc => ?_) (fun hc => ?_)
  · have h := h.1 hc
    refine r_aload_n (x := t) d_X11_keep_10 rfl o_t.1 ?_
    refine r_getf (j := 1) (t := 2) (x := t_history) d_X11_keep_11 kX11 (by decide) fl_X11_19 o_t.1 o_t.2.1 o_t.2.2.1 o_t.2.2.2 rfl f_t_history ?_
    refine r_aload_n (x := t) d_X11_keep_14 rfl o_t.1 ?_
    refine r_getf (j := 0) (t := 2) (x := t_now) d_X11_keep_15 kX11 (by decide) fl_X11_10 o_t.1 o_t.2.1 o_t.2.2.1 o_t.2.2.2 rfl f_t_now ?_
    refine r_callV (Y2 := mX4_keep) (d := d - 1) (mc := 0) (ms := 0) (c := t_history) (As := [(2, t_now)]) (S := []) d_X11_keep_18 ok_mX4_keep ml_X11_230 rfl (rmc h0d (by decide)) rm00 (Nat.le_of_ble_eq_true rfl) rfl kX4 o_t_history.1 o_t_history.2.1 o_t_history.2.2.1 o_t_history.2.2.2 (MC.mono h (fun r N1 Λ1 σ1 hq => ?_))
    obtain ⟨rfl, rfl, rfl, h⟩ := hq
    refine r_aload_n (x := t) d_X11_keep_21 rfl o_t.1 ?_
    refine r_getf (j := 0) (t := 2) (x := t_now) d_X11_keep_22 kX11 (by decide) fl_X11_10 o_t.1 o_t.2.1 o_t.2.2.1 o_t.2.2.2 rfl f_t_now ?_
    refine r_getf (j := 0) (t := 2) (x := t_now_shelves) d_X11_keep_25 kX7 (by decide) fl_X11_146 o_t_now.1 o_t_now.2.1 o_t_now.2.2.1 o_t_now.2.2.2 rfl f_t_now_shelves ?_
    refine r_iload_n (x := x1) d_X11_keep_28 rfl ?_
    refine x_aald (t := 3) (by decide) d_X11_keep_29 h.1 (fun b2 eb2 => ?_)
    have h := h.2 b2 eb2
    have oob2 := h.1
    have h := h.2
    refine r_aload_n (x := t) d_X11_keep_30 rfl o_t.1 ?_
    refine r_getf (j := 11) (t := 2) (x := t_work) d_X11_keep_31 kX11 (by decide) fl_X11_83 o_t.1 o_t.2.1 o_t.2.2.1 o_t.2.2.2 rfl f_t_work ?_
    refine r_callV (Y2 := mX5_take) (d := d - 1) (mc := 0) (ms := 0) (c := b2) (As := [(2, t_work)]) (S := []) d_X11_keep_34 ok_mX5_take ml_X11_157 rfl (rmc h0d (by decide)) rm00 (Nat.le_of_ble_eq_true rfl) rfl kX5 oob2.1 oob2.2.1 oob2.2.2.1 oob2.2.2.2 (MC.mono h (fun r N1 Λ1 σ3 hq => ?_))
    obtain ⟨rfl, rfl, rfl, h⟩ := hq
    refine r_aload_n (x := t) d_X11_keep_37 rfl o_t.1 ?_
    refine r_getf (j := 11) (t := 2) (x := t_work) d_X11_keep_38 kX11 (by decide) fl_X11_83 o_t.1 o_t.2.1 o_t.2.2.1 o_t.2.2.2 rfl f_t_work ?_
    refine r_getf (j := 2) (t := 0) (x := (σ3 t_work 2)) d_X11_keep_41 kX5 (by decide) fl_X11_150 o_t_work.1 o_t_work.2.1 o_t_work.2.2.1 o_t_work.2.2.2 rfl rfl ?_
    exact r_iret d_X11_keep_44 rfl rfl (Nat.le_refl 0) (Nat.le_refl 0) ⟨_, rfl, rfl, rfl, h⟩
  · have h := h.2 hc
    refine r_aload_n (x := t) d_X11_keep_4 rfl o_t.1 ?_
    refine r_iload_n (x := x2) d_X11_keep_5 rfl ?_
    refine r_callV (Y2 := mX11_refused) (d := d - 1) (mc := 0) (ms := 0) (c := t) (As := [(0, x2)]) (S := []) d_X11_keep_6 ok_mX11_refused ml_X11_271 rfl (rmc h0d (by decide)) rm00 (Nat.le_of_ble_eq_true rfl) rfl kX11 o_t.1 o_t.2.1 o_t.2.2.1 o_t.2.2.2 (MC.mono h (fun r N1 Λ1 σ4 hq => ?_))
    obtain ⟨v5, rfl, rfl, rfl, h⟩ := hq
    exact r_iret d_X11_keep_9 rfl rfl (Nat.le_refl 0) (Nat.le_refl 0) ⟨_, rfl, rfl, rfl, h⟩
theorem v_X11_refused_0 {l : Launch} {d N : Nat} {Λ : Lay} {P : Int → Mem → Prop} {σ : Mem} {x1 t : Int} (o_t : Ob N Λ t 20 14)
    (h : (∀ τ1, τ1 = st σ t 13 x1 → ((¬ x1 = 4 → P (-4) τ1) ∧ (x1 = 4 → P (-7) τ1)))) :
    WI l mX11_refused d P 0 [(2, t), (0, x1)] [] N Λ σ := by
  refine r_aload_n (x := t) d_X11_refused_0 rfl o_t.1 ?_
  refine r_iload_n (x := x1) d_X11_refused_1 rfl ?_
  refine r_putI (j := 13) d_X11_refused_2 kX11 (by decide) fl_X11_90 rfl o_t.1 o_t.2.1 o_t.2.2.1 o_t.2.2.2 rfl ?_
  refine r_nmM (fun τ1 eτ1 => ?_)
  have h := h τ1 eτ1
  refine r_iload_n (x := x1) d_X11_refused_5 rfl ?_
  refine r_iconst (x := 4) d_X11_refused_6 ⟨by decide, by decide⟩ ?_
  refine r_ic_ne (tgt := 15) d_X11_refused_7 rfl (fun hc => ?_) (fun hc => ?_)
  · have h := h.1 hc
    refine r_bipush (x := (-4)) d_X11_refused_15 ⟨by decide, by decide⟩ (by decide) ?_
    exact r_iret d_X11_refused_17 rfl rfl (Nat.le_refl 0) (Nat.le_refl 0) ⟨_, rfl, rfl, rfl, h⟩
  · have h := h.2 hc
    refine r_bipush (x := (-7)) d_X11_refused_10 ⟨by decide, by decide⟩ (by decide) ?_
    refine r_goto (tgt := 17) d_X11_refused_12 rfl ?_
    exact r_iret d_X11_refused_17 rfl rfl (Nat.le_refl 0) (Nat.le_refl 0) ⟨_, rfl, rfl, rfl, h⟩
theorem v_X11_rename_0 {l : Launch} {d N : Nat} {Λ : Lay} {P : Int → Mem → Prop} {σ : Mem} {x2 x3 x4 a1 t t_work : Int} (o_t : Ob N Λ t 20 14) (f_t_work : (Λ t).2.2 11 = t_work) (o_t_work : Ob N Λ t_work 15 3) (h0d : 1 ≤ d)
    (h : (CV l mX5_empty (d - 1) [(2, t_work)] N Λ σ (fun σ1 => WI l mX11_rename d P 13 [(2, t), (2, a1), (0, x2), (0, x3), (0, x4), (0, 0), (0, 0)] [] N Λ σ1))) :
    WI l mX11_rename d P 0 [(2, t), (2, a1), (0, x2), (0, x3), (0, x4), (3, 0), (3, 0)] [] N Λ σ := by
  refine r_aload_n (x := t) d_X11_rename_0 rfl o_t.1 ?_
  refine r_getf (j := 11) (t := 2) (x := t_work) d_X11_rename_1 kX11 (by decide) fl_X11_83 o_t.1 o_t.2.1 o_t.2.2.1 o_t.2.2.2 rfl f_t_work ?_
  refine r_callV (Y2 := mX5_empty) (d := d - 1) (mc := 0) (ms := 0) (c := t_work) (As := []) (S := []) d_X11_rename_4 ok_mX5_empty ml_X11_151 rfl (rmc h0d (by decide)) rm00 (Nat.le_of_ble_eq_true rfl) rfl kX5 o_t_work.1 o_t_work.2.1 o_t_work.2.2.1 o_t_work.2.2.2 (MC.mono h (fun r N1 Λ1 σ1 hq => ?_))
  obtain ⟨rfl, rfl, rfl, h⟩ := hq
  refine r_iconst (x := 0) d_X11_rename_7 ⟨by decide, by decide⟩ ?_
  refine r_istore (L2 := [(2, t), (2, a1), (0, x2), (0, x3), (0, x4), (0, 0), (3, 0)]) d_X11_rename_8 (by decide) rfl rfl ?_
  refine r_iconst (x := 0) d_X11_rename_10 ⟨by decide, by decide⟩ ?_
  refine r_istore (L2 := [(2, t), (2, a1), (0, x2), (0, x3), (0, x4), (0, 0), (0, 0)]) d_X11_rename_11 (by decide) rfl rfl ?_
  exact h
theorem v_X11_rename_13 {l : Launch} {d N : Nat} {Λ : Lay} {P : Int → Mem → Prop} {σ : Mem} {x2 x3 x4 x5 x6 a1 a1_keys a1_numbers t t_term t_work : Int} (o_a1 : Ob N Λ a1 15 3) (o_t : Ob N Λ t 20 14) (f_t_term : (Λ t).2.2 10 = t_term) (f_a1_keys : (Λ a1).2.2 0 = a1_keys) (o_t_term : Ob N Λ t_term 19 2) (f_t_work : (Λ t).2.2 11 = t_work) (f_a1_numbers : (Λ a1).2.2 1 = a1_numbers) (o_t_work : Ob N Λ t_work 15 3) (h0d : 1 ≤ d)
    (h : (((σ a1 2) ≤ x6 → P x5 σ) ∧ (¬ ((σ a1 2) ≤ x6) → ((¬ x5 = 0 → P x5 σ) ∧ (x5 = 0 → (Ix N Λ a1_keys 1 x6 ∧ (CV l mX10_rename (d - 1) [(2, t_term), (1, (σ a1_keys x6)), (0, x2), (0, x3), (0, x4)] N Λ σ (fun σ1 => (Ix N Λ a1_numbers 0 x6 ∧ (CI l mX5_lay (d - 1) [(2, t_work), (1, (σ1 t_term 0)), (1, (mulL (σ1 a1_numbers x6) (σ1 t_term 1)))] N Λ σ1 (fun v3 σ2 => (∀ y4, y4 = addI x6 1 → WI l mX11_rename d P 13 [(2, t), (2, a1), (0, x2), (0, x3), (0, x4), (0, v3), (0, y4)] [] N Λ σ2)))))))))))) :
    WI l mX11_rename d P 13 [(2, t), (2, a1), (0, x2), (0, x3), (0, x4), (0, x5), (0, x6)] [] N Λ σ := by
  refine r_iload (x := x6) d_X11_rename_13 rfl ?_
  refine r_aload_n (x := a1) d_X11_rename_15 rfl o_a1.1 ?_
  refine r_getf (j := 2) (t := 0) (x := (σ a1 2)) d_X11_rename_16 kX5 (by decide) fl_X11_150 o_a1.1 o_a1.2.1 o_a1.2.2.1 o_a1.2.2.2 rfl rfl ?_
  refine r_ic_ge (tgt := 84) d_X11_rename_19 rfl (fun hc => ?_) (fun hc => ?_)
  · have h := h.1 hc
    refine r_iload (x := x5) d_X11_rename_84 rfl ?_
    exact r_iret d_X11_rename_86 rfl rfl (Nat.le_refl 0) (Nat.le_refl 0) ⟨_, rfl, rfl, rfl, h⟩
  · have h := h.2 hc
    refine r_iload (x := x5) d_X11_rename_22 rfl ?_
    refine r_if_ne (tgt := 84) d_X11_rename_24 rfl (fun hc => ?_) (fun hc => ?_)
    · have h := h.1 hc
      refine r_iload (x := x5) d_X11_rename_84 rfl ?_
      exact r_iret d_X11_rename_86 rfl rfl (Nat.le_refl 0) (Nat.le_refl 0) ⟨_, rfl, rfl, rfl, h⟩
    · have h := h.2 hc
      refine r_aload_n (x := t) d_X11_rename_27 rfl o_t.1 ?_
      refine r_getf (j := 10) (t := 2) (x := t_term) d_X11_rename_28 kX11 (by decide) fl_X11_76 o_t.1 o_t.2.1 o_t.2.2.1 o_t.2.2.2 rfl f_t_term ?_
      refine r_aload_n (x := a1) d_X11_rename_31 rfl o_a1.1 ?_
      refine r_getf (j := 0) (t := 2) (x := a1_keys) d_X11_rename_32 kX5 (by decide) fl_X11_241 o_a1.1 o_a1.2.1 o_a1.2.2.1 o_a1.2.2.2 rfl f_a1_keys ?_
      refine r_iload (x := x6) d_X11_rename_35 rfl ?_
      refine x_lald d_X11_rename_37 h.1 ?_
      have h := h.2
      refine r_iload_n (x := x2) d_X11_rename_38 rfl ?_
      refine r_iload_n (x := x3) d_X11_rename_39 rfl ?_
      refine r_iload (x := x4) d_X11_rename_40 rfl ?_
      refine r_callV (Y2 := mX10_rename) (d := d - 1) (mc := 0) (ms := 0) (c := t_term) (As := [(1, (σ a1_keys x6)), (0, x2), (0, x3), (0, x4)]) (S := []) d_X11_rename_42 ok_mX10_rename ml_X11_336 rfl (rmc h0d (by decide)) rm00 (Nat.le_of_ble_eq_true rfl) rfl kX10 o_t_term.1 o_t_term.2.1 o_t_term.2.2.1 o_t_term.2.2.2 (MC.mono h (fun r N1 Λ1 σ1 hq => ?_))
      obtain ⟨rfl, rfl, rfl, h⟩ := hq
      refine r_aload_n (x := t) d_X11_rename_45 rfl o_t.1 ?_
      refine r_getf (j := 11) (t := 2) (x := t_work) d_X11_rename_46 kX11 (by decide) fl_X11_83 o_t.1 o_t.2.1 o_t.2.2.1 o_t.2.2.2 rfl f_t_work ?_
      refine r_aload_n (x := t) d_X11_rename_49 rfl o_t.1 ?_
      refine r_getf (j := 10) (t := 2) (x := t_term) d_X11_rename_50 kX11 (by decide) fl_X11_76 o_t.1 o_t.2.1 o_t.2.2.1 o_t.2.2.2 rfl f_t_term ?_
      refine r_getf (j := 0) (t := 1) (x := (σ1 t_term 0)) d_X11_rename_53 kX10 (by decide) fl_X11_176 o_t_term.1 o_t_term.2.1 o_t_term.2.2.1 o_t_term.2.2.2 rfl rfl ?_
      refine r_aload_n (x := a1) d_X11_rename_56 rfl o_a1.1 ?_
      refine r_getf (j := 1) (t := 2) (x := a1_numbers) d_X11_rename_57 kX5 (by decide) fl_X11_249 o_a1.1 o_a1.2.1 o_a1.2.2.1 o_a1.2.2.2 rfl f_a1_numbers ?_
      refine r_iload (x := x6) d_X11_rename_60 rfl ?_
      refine x_iald d_X11_rename_62 h.1 ?_
      have h := h.2
      refine r_i2l d_X11_rename_63 ?_
      refine r_aload_n (x := t) d_X11_rename_64 rfl o_t.1 ?_
      refine r_getf (j := 10) (t := 2) (x := t_term) d_X11_rename_65 kX11 (by decide) fl_X11_76 o_t.1 o_t.2.1 o_t.2.2.1 o_t.2.2.2 rfl f_t_term ?_
      refine r_getf (j := 1) (t := 0) (x := (σ1 t_term 1)) d_X11_rename_68 kX10 (by decide) fl_X11_180 o_t_term.1 o_t_term.2.1 o_t_term.2.2.1 o_t_term.2.2.2 rfl rfl ?_
      refine r_i2l d_X11_rename_71 ?_
      refine r_lmul d_X11_rename_72 ?_
      refine r_callV (Y2 := mX5_lay) (d := d - 1) (mc := 0) (ms := 0) (c := t_work) (As := [(1, (σ1 t_term 0)), (1, (mulL (σ1 a1_numbers x6) (σ1 t_term 1)))]) (S := []) d_X11_rename_73 ok_mX5_lay ml_X11_183 rfl (rmc h0d (by decide)) rm00 (Nat.le_of_ble_eq_true rfl) rfl kX5 o_t_work.1 o_t_work.2.1 o_t_work.2.2.1 o_t_work.2.2.2 (MC.mono h (fun r N1 Λ1 σ2 hq => ?_))
      obtain ⟨v3, rfl, rfl, rfl, h⟩ := hq
      refine r_istore (L2 := [(2, t), (2, a1), (0, x2), (0, x3), (0, x4), (0, v3), (0, x6)]) d_X11_rename_76 (by decide) rfl rfl ?_
      refine x_iinc (x := x6) (L := [(2, t), (2, a1), (0, x2), (0, x3), (0, x4), (0, v3), (0, x6)]) d_X11_rename_78 rfl (by decide) rfl (fun y4 ey4 => ?_)
      have h := h y4 ey4
      show WP _ _ _ _ _ _ _ _ [(2, t), (2, a1), (0, x2), (0, x3), (0, x4), (0, v3), (0, y4)] _ _ _ _
      refine r_goto (tgt := 13) d_X11_rename_81 rfl ?_
      exact h
