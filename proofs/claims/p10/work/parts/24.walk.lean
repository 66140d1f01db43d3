theorem d_X11_feed_0 : DC mX11_feed 0 (.aload_n 0) 1 1 := ⟨by decide +kernel, rfl⟩
theorem d_X11_feed_1 : DC mX11_feed 1 (.getfield 34) 3 4 := ⟨by decide +kernel, rfl⟩
theorem d_X11_feed_4 : DC mX11_feed 4 (.getfield 94) 3 7 := ⟨by decide +kernel, rfl⟩
theorem d_X11_feed_7 : DC mX11_feed 7 (.bipush 20) 2 9 := ⟨by decide +kernel, rfl⟩
theorem d_X11_feed_9 : DC mX11_feed 9 (.iadd) 1 10 := ⟨by decide +kernel, rfl⟩
theorem d_X11_feed_10 : DC mX11_feed 10 (.sipush 300) 3 13 := ⟨by decide +kernel, rfl⟩
theorem d_X11_feed_13 : DC mX11_feed 13 (.if_icmp .le 6) 3 16 := ⟨by decide +kernel, rfl⟩
theorem d_X11_feed_16 : DC mX11_feed 16 (.bipush (-4)) 2 18 := ⟨by decide +kernel, rfl⟩
theorem d_X11_feed_18 : DC mX11_feed 18 (.ireturn) 1 19 := ⟨by decide +kernel, rfl⟩
theorem d_X11_feed_19 : DC mX11_feed 19 (.aload_n 0) 1 20 := ⟨by decide +kernel, rfl⟩
theorem d_X11_feed_20 : DC mX11_feed 20 (.getfield 34) 3 23 := ⟨by decide +kernel, rfl⟩
theorem d_X11_feed_23 : DC mX11_feed 23 (.iload_n 1) 1 24 := ⟨by decide +kernel, rfl⟩
theorem d_X11_feed_24 : DC mX11_feed 24 (.invokevirtual 97) 3 27 := ⟨by decide +kernel, rfl⟩
theorem d_X11_feed_27 : DC mX11_feed 27 (.aload_n 0) 1 28 := ⟨by decide +kernel, rfl⟩
theorem d_X11_feed_28 : DC mX11_feed 28 (.getfield 34) 3 31 := ⟨by decide +kernel, rfl⟩
theorem d_X11_feed_31 : DC mX11_feed 31 (.iload_n 2) 1 32 := ⟨by decide +kernel, rfl⟩
theorem d_X11_feed_32 : DC mX11_feed 32 (.invokevirtual 97) 3 35 := ⟨by decide +kernel, rfl⟩
theorem d_X11_feed_35 : DC mX11_feed 35 (.aload_n 0) 1 36 := ⟨by decide +kernel, rfl⟩
theorem d_X11_feed_36 : DC mX11_feed 36 (.getfield 34) 3 39 := ⟨by decide +kernel, rfl⟩
theorem d_X11_feed_39 : DC mX11_feed 39 (.iload_n 3) 1 40 := ⟨by decide +kernel, rfl⟩
theorem d_X11_feed_40 : DC mX11_feed 40 (.invokevirtual 97) 3 43 := ⟨by decide +kernel, rfl⟩
theorem d_X11_feed_43 : DC mX11_feed 43 (.aload_n 0) 1 44 := ⟨by decide +kernel, rfl⟩
theorem d_X11_feed_44 : DC mX11_feed 44 (.getfield 34) 3 47 := ⟨by decide +kernel, rfl⟩
theorem d_X11_feed_47 : DC mX11_feed 47 (.iload 4) 2 49 := ⟨by decide +kernel, rfl⟩
theorem d_X11_feed_49 : DC mX11_feed 49 (.invokevirtual 97) 3 52 := ⟨by decide +kernel, rfl⟩
theorem d_X11_feed_52 : DC mX11_feed 52 (.aload_n 0) 1 53 := ⟨by decide +kernel, rfl⟩
theorem d_X11_feed_53 : DC mX11_feed 53 (.getfield 34) 3 56 := ⟨by decide +kernel, rfl⟩
theorem d_X11_feed_56 : DC mX11_feed 56 (.iload 5) 2 58 := ⟨by decide +kernel, rfl⟩
theorem d_X11_feed_58 : DC mX11_feed 58 (.invokevirtual 97) 3 61 := ⟨by decide +kernel, rfl⟩
theorem d_X11_feed_61 : DC mX11_feed 61 (.aload_n 0) 1 62 := ⟨by decide +kernel, rfl⟩
theorem d_X11_feed_62 : DC mX11_feed 62 (.getfield 34) 3 65 := ⟨by decide +kernel, rfl⟩
theorem d_X11_feed_65 : DC mX11_feed 65 (.getfield 94) 3 68 := ⟨by decide +kernel, rfl⟩
theorem d_X11_feed_68 : DC mX11_feed 68 (.ireturn) 1 69 := ⟨by decide +kernel, rfl⟩
theorem d_X11_isShelf_0 : DC mX11_isShelf 0 (.iload_n 0) 1 1 := ⟨by decide +kernel, rfl⟩
theorem d_X11_isShelf_1 : DC mX11_isShelf 1 (.ifCond .lt 13) 3 4 := ⟨by decide +kernel, rfl⟩
theorem d_X11_isShelf_4 : DC mX11_isShelf 4 (.iload_n 0) 1 5 := ⟨by decide +kernel, rfl⟩
theorem d_X11_isShelf_5 : DC mX11_isShelf 5 (.bipush 6) 2 7 := ⟨by decide +kernel, rfl⟩
theorem d_X11_isShelf_7 : DC mX11_isShelf 7 (.if_icmp .ge 7) 3 10 := ⟨by decide +kernel, rfl⟩
theorem d_X11_isShelf_10 : DC mX11_isShelf 10 (.iconst 1) 1 11 := ⟨by decide +kernel, rfl⟩
theorem d_X11_isShelf_11 : DC mX11_isShelf 11 (.goto 4) 3 14 := ⟨by decide +kernel, rfl⟩
theorem d_X11_isShelf_14 : DC mX11_isShelf 14 (.iconst 0) 1 15 := ⟨by decide +kernel, rfl⟩
theorem d_X11_isShelf_15 : DC mX11_isShelf 15 (.ireturn) 1 16 := ⟨by decide +kernel, rfl⟩
theorem d_X11_askedOfTape_0 : DC mX11_askedOfTape 0 (.iload_n 1) 1 1 := ⟨by decide +kernel, rfl⟩
theorem d_X11_askedOfTape_1 : DC mX11_askedOfTape 1 (.invokestatic 143) 3 4 := ⟨by decide +kernel, rfl⟩
theorem d_X11_askedOfTape_4 : DC mX11_askedOfTape 4 (.ifCond .ne 6) 3 7 := ⟨by decide +kernel, rfl⟩
theorem d_X11_askedOfTape_7 : DC mX11_askedOfTape 7 (.bipush (-2)) 2 9 := ⟨by decide +kernel, rfl⟩
theorem d_X11_askedOfTape_9 : DC mX11_askedOfTape 9 (.ireturn) 1 10 := ⟨by decide +kernel, rfl⟩
theorem d_X11_askedOfTape_10 : DC mX11_askedOfTape 10 (.iload_n 2) 1 11 := ⟨by decide +kernel, rfl⟩
theorem d_X11_askedOfTape_11 : DC mX11_askedOfTape 11 (.ifCond .lt 14) 3 14 := ⟨by decide +kernel, rfl⟩
theorem d_X11_askedOfTape_14 : DC mX11_askedOfTape 14 (.iload_n 2) 1 15 := ⟨by decide +kernel, rfl⟩
theorem d_X11_askedOfTape_15 : DC mX11_askedOfTape 15 (.aload_n 0) 1 16 := ⟨by decide +kernel, rfl⟩
theorem d_X11_askedOfTape_16 : DC mX11_askedOfTape 16 (.getfield 34) 3 19 := ⟨by decide +kernel, rfl⟩
theorem d_X11_askedOfTape_19 : DC mX11_askedOfTape 19 (.getfield 94) 3 22 := ⟨by decide +kernel, rfl⟩
theorem d_X11_askedOfTape_22 : DC mX11_askedOfTape 22 (.if_icmp .le 8) 3 25 := ⟨by decide +kernel, rfl⟩
theorem d_X11_askedOfTape_25 : DC mX11_askedOfTape 25 (.bipush (-3)) 2 27 := ⟨by decide +kernel, rfl⟩
theorem d_X11_askedOfTape_27 : DC mX11_askedOfTape 27 (.goto 4) 3 30 := ⟨by decide +kernel, rfl⟩
theorem d_X11_askedOfTape_30 : DC mX11_askedOfTape 30 (.iconst 0) 1 31 := ⟨by decide +kernel, rfl⟩
theorem d_X11_askedOfTape_31 : DC mX11_askedOfTape 31 (.ireturn) 1 32 := ⟨by decide +kernel, rfl⟩
theorem d_X11_badText_0 : DC mX11_badText 0 (.aload_n 0) 1 1 := ⟨by decide +kernel, rfl⟩
theorem d_X11_badText_1 : DC mX11_badText 1 (.getfield 34) 3 4 := ⟨by decide +kernel, rfl⟩
theorem d_X11_badText_4 : DC mX11_badText 4 (.iconst 0) 1 5 := ⟨by decide +kernel, rfl⟩
theorem d_X11_badText_5 : DC mX11_badText 5 (.putfield 94) 3 8 := ⟨by decide +kernel, rfl⟩
theorem d_X11_badText_8 : DC mX11_badText 8 (.bipush (-30)) 2 10 := ⟨by decide +kernel, rfl⟩
theorem d_X11_badText_10 : DC mX11_badText 10 (.aload_n 0) 1 11 := ⟨by decide +kernel, rfl⟩
theorem d_X11_badText_11 : DC mX11_badText 11 (.getfield 34) 3 14 := ⟨by decide +kernel, rfl⟩
theorem d_X11_badText_14 : DC mX11_badText 14 (.getfield 137) 3 17 := ⟨by decide +kernel, rfl⟩
theorem d_X11_badText_17 : DC mX11_badText 17 (.isub) 1 18 := ⟨by decide +kernel, rfl⟩
theorem d_X11_badText_18 : DC mX11_badText 18 (.ireturn) 1 19 := ⟨by decide +kernel, rfl⟩
theorem d_X11_refused_0 : DC mX11_refused 0 (.aload_n 0) 1 1 := ⟨by decide +kernel, rfl⟩
theorem d_X11_refused_1 : DC mX11_refused 1 (.iload_n 1) 1 2 := ⟨by decide +kernel, rfl⟩
theorem d_X11_refused_2 : DC mX11_refused 2 (.putfield 90) 3 5 := ⟨by decide +kernel, rfl⟩
theorem d_X11_refused_5 : DC mX11_refused 5 (.iload_n 1) 1 6 := ⟨by decide +kernel, rfl⟩
theorem d_X11_refused_6 : DC mX11_refused 6 (.iconst 4) 1 7 := ⟨by decide +kernel, rfl⟩
theorem d_X11_refused_7 : DC mX11_refused 7 (.if_icmp .ne 8) 3 10 := ⟨by decide +kernel, rfl⟩
theorem d_X11_refused_10 : DC mX11_refused 10 (.bipush (-7)) 2 12 := ⟨by decide +kernel, rfl⟩
theorem d_X11_refused_12 : DC mX11_refused 12 (.goto 5) 3 15 := ⟨by decide +kernel, rfl⟩
theorem d_X11_refused_15 : DC mX11_refused 15 (.bipush (-4)) 2 17 := ⟨by decide +kernel, rfl⟩
theorem d_X11_refused_17 : DC mX11_refused 17 (.ireturn) 1 18 := ⟨by decide +kernel, rfl⟩
theorem d_X11_keep_0 : DC mX11_keep 0 (.iload_n 2) 1 1 := ⟨by decide +kernel, rfl⟩
theorem d_X11_keep_1 : DC mX11_keep 1 (.ifCond .eq 9) 3 4 := ⟨by decide +kernel, rfl⟩
theorem d_X11_keep_4 : DC mX11_keep 4 (.aload_n 0) 1 5 := ⟨by decide +kernel, rfl⟩
theorem d_X11_keep_5 : DC mX11_keep 5 (.iload_n 2) 1 6 := ⟨by decide +kernel, rfl⟩
theorem d_X11_keep_6 : DC mX11_keep 6 (.invokevirtual 271) 3 9 := ⟨by decide +kernel, rfl⟩
theorem d_X11_keep_9 : DC mX11_keep 9 (.ireturn) 1 10 := ⟨by decide +kernel, rfl⟩
theorem d_X11_keep_10 : DC mX11_keep 10 (.aload_n 0) 1 11 := ⟨by decide +kernel, rfl⟩
theorem d_X11_keep_11 : DC mX11_keep 11 (.getfield 19) 3 14 := ⟨by decide +kernel, rfl⟩
theorem d_X11_keep_14 : DC mX11_keep 14 (.aload_n 0) 1 15 := ⟨by decide +kernel, rfl⟩
theorem d_X11_keep_15 : DC mX11_keep 15 (.getfield 10) 3 18 := ⟨by decide +kernel, rfl⟩
theorem d_X11_keep_18 : DC mX11_keep 18 (.invokevirtual 230) 3 21 := ⟨by decide +kernel, rfl⟩
theorem d_X11_keep_21 : DC mX11_keep 21 (.aload_n 0) 1 22 := ⟨by decide +kernel, rfl⟩
theorem d_X11_keep_22 : DC mX11_keep 22 (.getfield 10) 3 25 := ⟨by decide +kernel, rfl⟩
theorem d_X11_keep_25 : DC mX11_keep 25 (.getfield 146) 3 28 := ⟨by decide +kernel, rfl⟩
theorem d_X11_keep_28 : DC mX11_keep 28 (.iload_n 1) 1 29 := ⟨by decide +kernel, rfl⟩
theorem d_X11_keep_29 : DC mX11_keep 29 (.aaload) 1 30 := ⟨by decide +kernel, rfl⟩
theorem d_X11_keep_30 : DC mX11_keep 30 (.aload_n 0) 1 31 := ⟨by decide +kernel, rfl⟩
theorem d_X11_keep_31 : DC mX11_keep 31 (.getfield 83) 3 34 := ⟨by decide +kernel, rfl⟩
theorem d_X11_keep_34 : DC mX11_keep 34 (.invokevirtual 157) 3 37 := ⟨by decide +kernel, rfl⟩
theorem d_X11_keep_37 : DC mX11_keep 37 (.aload_n 0) 1 38 := ⟨by decide +kernel, rfl⟩
theorem d_X11_keep_38 : DC mX11_keep 38 (.getfield 83) 3 41 := ⟨by decide +kernel, rfl⟩
theorem d_X11_keep_41 : DC mX11_keep 41 (.getfield 150) 3 44 := ⟨by decide +kernel, rfl⟩
theorem d_X11_keep_44 : DC mX11_keep 44 (.ireturn) 1 45 := ⟨by decide +kernel, rfl⟩
theorem d_X11_keepText_0 : DC mX11_keepText 0 (.iload_n 2) 1 1 := ⟨by decide +kernel, rfl⟩
theorem d_X11_keepText_1 : DC mX11_keepText 1 (.ifCond .ne 11) 3 4 := ⟨by decide +kernel, rfl⟩
theorem d_X11_keepText_4 : DC mX11_keepText 4 (.aload_n 0) 1 5 := ⟨by decide +kernel, rfl⟩
theorem d_X11_keepText_5 : DC mX11_keepText 5 (.getfield 34) 3 8 := ⟨by decide +kernel, rfl⟩
theorem d_X11_keepText_8 : DC mX11_keepText 8 (.iconst 0) 1 9 := ⟨by decide +kernel, rfl⟩
theorem d_X11_keepText_9 : DC mX11_keepText 9 (.putfield 94) 3 12 := ⟨by decide +kernel, rfl⟩
theorem d_X11_keepText_12 : DC mX11_keepText 12 (.aload_n 0) 1 13 := ⟨by decide +kernel, rfl⟩
theorem d_X11_keepText_13 : DC mX11_keepText 13 (.iload_n 1) 1 14 := ⟨by decide +kernel, rfl⟩
theorem d_X11_keepText_14 : DC mX11_keepText 14 (.iload_n 2) 1 15 := ⟨by decide +kernel, rfl⟩
theorem d_X11_keepText_15 : DC mX11_keepText 15 (.invokevirtual 154) 3 18 := ⟨by decide +kernel, rfl⟩
theorem d_X11_keepText_18 : DC mX11_keepText 18 (.ireturn) 1 19 := ⟨by decide +kernel, rfl⟩
theorem d_X11_told_0 : DC mX11_told 0 (.aload_n 0) 1 1 := ⟨by decide +kernel, rfl⟩
theorem d_X11_told_1 : DC mX11_told 1 (.iconst 0) 1 2 := ⟨by decide +kernel, rfl⟩
theorem d_X11_told_2 : DC mX11_told 2 (.putfield 90) 3 5 := ⟨by decide +kernel, rfl⟩
theorem d_X11_told_5 : DC mX11_told 5 (.aload_n 0) 1 6 := ⟨by decide +kernel, rfl⟩
theorem d_X11_told_6 : DC mX11_told 6 (.iload_n 1) 1 7 := ⟨by decide +kernel, rfl⟩
theorem d_X11_told_7 : DC mX11_told 7 (.iload_n 2) 1 8 := ⟨by decide +kernel, rfl⟩
theorem d_X11_told_8 : DC mX11_told 8 (.invokevirtual 101) 3 11 := ⟨by decide +kernel, rfl⟩
theorem d_X11_told_11 : DC mX11_told 11 (.istore_n 3) 1 12 := ⟨by decide +kernel, rfl⟩
theorem d_X11_told_12 : DC mX11_told 12 (.iload_n 3) 1 13 := ⟨by decide +kernel, rfl⟩
theorem d_X11_told_13 : DC mX11_told 13 (.ifCond .eq 5) 3 16 := ⟨by decide +kernel, rfl⟩
theorem d_X11_told_16 : DC mX11_told 16 (.iload_n 3) 1 17 := ⟨by decide +kernel, rfl⟩
theorem d_X11_told_17 : DC mX11_told 17 (.ireturn) 1 18 := ⟨by decide +kernel, rfl⟩
theorem d_X11_told_18 : DC mX11_told 18 (.aload_n 0) 1 19 := ⟨by decide +kernel, rfl⟩
theorem d_X11_told_19 : DC mX11_told 19 (.getfield 34) 3 22 := ⟨by decide +kernel, rfl⟩
theorem d_X11_told_22 : DC mX11_told 22 (.iload_n 2) 1 23 := ⟨by decide +kernel, rfl⟩
theorem d_X11_told_23 : DC mX11_told 23 (.invokevirtual 105) 3 26 := ⟨by decide +kernel, rfl⟩
theorem d_X11_told_26 : DC mX11_told 26 (.ifCond .ne 8) 3 29 := ⟨by decide +kernel, rfl⟩
theorem d_X11_told_29 : DC mX11_told 29 (.aload_n 0) 1 30 := ⟨by decide +kernel, rfl⟩
theorem d_X11_told_30 : DC mX11_told 30 (.invokevirtual 109) 3 33 := ⟨by decide +kernel, rfl⟩
theorem d_X11_told_33 : DC mX11_told 33 (.ireturn) 1 34 := ⟨by decide +kernel, rfl⟩
theorem d_X11_told_34 : DC mX11_told 34 (.aload_n 0) 1 35 := ⟨by decide +kernel, rfl⟩
theorem d_X11_told_35 : DC mX11_told 35 (.iload_n 1) 1 36 := ⟨by decide +kernel, rfl⟩
theorem d_X11_told_36 : DC mX11_told 36 (.aload_n 0) 1 37 := ⟨by decide +kernel, rfl⟩
theorem d_X11_told_37 : DC mX11_told 37 (.getfield 34) 3 40 := ⟨by decide +kernel, rfl⟩
theorem d_X11_told_40 : DC mX11_told 40 (.iload_n 2) 1 41 := ⟨by decide +kernel, rfl⟩
theorem d_X11_told_41 : DC mX11_told 41 (.aload_n 0) 1 42 := ⟨by decide +kernel, rfl⟩
theorem d_X11_told_42 : DC mX11_told 42 (.getfield 83) 3 45 := ⟨by decide +kernel, rfl⟩
theorem d_X11_told_45 : DC mX11_told 45 (.invokevirtual 113) 3 48 := ⟨by decide +kernel, rfl⟩
theorem d_X11_told_48 : DC mX11_told 48 (.invokevirtual 117) 3 51 := ⟨by decide +kernel, rfl⟩
theorem d_X11_told_51 : DC mX11_told 51 (.ireturn) 1 52 := ⟨by decide +kernel, rfl⟩
theorem d_X11_figure_0 : DC mX11_figure 0 (.aload_n 0) 1 1 := ⟨by decide +kernel, rfl⟩
theorem d_X11_figure_1 : DC mX11_figure 1 (.iconst 0) 1 2 := ⟨by decide +kernel, rfl⟩
theorem d_X11_figure_2 : DC mX11_figure 2 (.putfield 90) 3 5 := ⟨by decide +kernel, rfl⟩
theorem d_X11_figure_5 : DC mX11_figure 5 (.aload_n 0) 1 6 := ⟨by decide +kernel, rfl⟩
theorem d_X11_figure_6 : DC mX11_figure 6 (.iload_n 1) 1 7 := ⟨by decide +kernel, rfl⟩
theorem d_X11_figure_7 : DC mX11_figure 7 (.iload_n 2) 1 8 := ⟨by decide +kernel, rfl⟩
theorem d_X11_figure_8 : DC mX11_figure 8 (.invokevirtual 101) 3 11 := ⟨by decide +kernel, rfl⟩
theorem d_X11_figure_11 : DC mX11_figure 11 (.istore_n 3) 1 12 := ⟨by decide +kernel, rfl⟩
theorem d_X11_figure_12 : DC mX11_figure 12 (.iload_n 3) 1 13 := ⟨by decide +kernel, rfl⟩
theorem d_X11_figure_13 : DC mX11_figure 13 (.ifCond .eq 5) 3 16 := ⟨by decide +kernel, rfl⟩
theorem d_X11_figure_16 : DC mX11_figure 16 (.iload_n 3) 1 17 := ⟨by decide +kernel, rfl⟩
theorem d_X11_figure_17 : DC mX11_figure 17 (.ireturn) 1 18 := ⟨by decide +kernel, rfl⟩
theorem d_X11_figure_18 : DC mX11_figure 18 (.aload_n 0) 1 19 := ⟨by decide +kernel, rfl⟩
theorem d_X11_figure_19 : DC mX11_figure 19 (.getfield 34) 3 22 := ⟨by decide +kernel, rfl⟩
theorem d_X11_figure_22 : DC mX11_figure 22 (.iload_n 2) 1 23 := ⟨by decide +kernel, rfl⟩
theorem d_X11_figure_23 : DC mX11_figure 23 (.invokevirtual 120) 3 26 := ⟨by decide +kernel, rfl⟩
theorem d_X11_figure_26 : DC mX11_figure 26 (.ifCond .ne 8) 3 29 := ⟨by decide +kernel, rfl⟩
theorem d_X11_figure_29 : DC mX11_figure 29 (.aload_n 0) 1 30 := ⟨by decide +kernel, rfl⟩
theorem d_X11_figure_30 : DC mX11_figure 30 (.invokevirtual 109) 3 33 := ⟨by decide +kernel, rfl⟩
theorem d_X11_figure_33 : DC mX11_figure 33 (.ireturn) 1 34 := ⟨by decide +kernel, rfl⟩
theorem d_X11_figure_34 : DC mX11_figure 34 (.aload_n 0) 1 35 := ⟨by decide +kernel, rfl⟩
theorem d_X11_figure_35 : DC mX11_figure 35 (.getfield 48) 3 38 := ⟨by decide +kernel, rfl⟩
theorem d_X11_figure_38 : DC mX11_figure 38 (.invokevirtual 123) 3 41 := ⟨by decide +kernel, rfl⟩
theorem d_X11_figure_41 : DC mX11_figure 41 (.iconst 0) 1 42 := ⟨by decide +kernel, rfl⟩
theorem d_X11_figure_42 : DC mX11_figure 42 (.istore 4) 2 44 := ⟨by decide +kernel, rfl⟩
theorem d_X11_figure_44 : DC mX11_figure 44 (.iconst 0) 1 45 := ⟨by decide +kernel, rfl⟩
theorem d_X11_figure_45 : DC mX11_figure 45 (.istore 5) 2 47 := ⟨by decide +kernel, rfl⟩
theorem d_X11_figure_47 : DC mX11_figure 47 (.iload 5) 2 49 := ⟨by decide +kernel, rfl⟩
theorem d_X11_figure_49 : DC mX11_figure 49 (.iload_n 2) 1 50 := ⟨by decide +kernel, rfl⟩
theorem d_X11_figure_50 : DC mX11_figure 50 (.if_icmp .ge 33) 3 53 := ⟨by decide +kernel, rfl⟩
theorem d_X11_figure_53 : DC mX11_figure 53 (.iload 4) 2 55 := ⟨by decide +kernel, rfl⟩
theorem d_X11_figure_55 : DC mX11_figure 55 (.ifCond .ne 28) 3 58 := ⟨by decide +kernel, rfl⟩
theorem d_X11_figure_58 : DC mX11_figure 58 (.aload_n 0) 1 59 := ⟨by decide +kernel, rfl⟩
theorem d_X11_figure_59 : DC mX11_figure 59 (.getfield 48) 3 62 := ⟨by decide +kernel, rfl⟩
theorem d_X11_figure_62 : DC mX11_figure 62 (.aload_n 0) 1 63 := ⟨by decide +kernel, rfl⟩
theorem d_X11_figure_63 : DC mX11_figure 63 (.getfield 34) 3 66 := ⟨by decide +kernel, rfl⟩
theorem d_X11_figure_66 : DC mX11_figure 66 (.getfield 126) 3 69 := ⟨by decide +kernel, rfl⟩
theorem d_X11_figure_69 : DC mX11_figure 69 (.iload 5) 2 71 := ⟨by decide +kernel, rfl⟩
theorem d_X11_figure_71 : DC mX11_figure 71 (.iaload) 1 72 := ⟨by decide +kernel, rfl⟩
theorem d_X11_figure_72 : DC mX11_figure 72 (.invokevirtual 130) 3 75 := ⟨by decide +kernel, rfl⟩
theorem d_X11_figure_75 : DC mX11_figure 75 (.istore 4) 2 77 := ⟨by decide +kernel, rfl⟩
theorem d_X11_figure_77 : DC mX11_figure 77 (.iinc 5 1) 3 80 := ⟨by decide +kernel, rfl⟩
theorem d_X11_figure_80 : DC mX11_figure 80 (.goto (-33)) 3 83 := ⟨by decide +kernel, rfl⟩
theorem d_X11_figure_83 : DC mX11_figure 83 (.aload_n 0) 1 84 := ⟨by decide +kernel, rfl⟩
theorem d_X11_figure_84 : DC mX11_figure 84 (.iload_n 1) 1 85 := ⟨by decide +kernel, rfl⟩
theorem d_X11_figure_85 : DC mX11_figure 85 (.iload 4) 2 87 := ⟨by decide +kernel, rfl⟩
theorem d_X11_figure_87 : DC mX11_figure 87 (.ifCond .ne 17) 3 90 := ⟨by decide +kernel, rfl⟩
theorem d_X11_figure_90 : DC mX11_figure 90 (.aload_n 0) 1 91 := ⟨by decide +kernel, rfl⟩
theorem d_X11_figure_91 : DC mX11_figure 91 (.getfield 48) 3 94 := ⟨by decide +kernel, rfl⟩
theorem d_X11_figure_94 : DC mX11_figure 94 (.aload_n 0) 1 95 := ⟨by decide +kernel, rfl⟩
theorem d_X11_figure_95 : DC mX11_figure 95 (.getfield 83) 3 98 := ⟨by decide +kernel, rfl⟩
theorem d_X11_figure_98 : DC mX11_figure 98 (.invokevirtual 133) 3 101 := ⟨by decide +kernel, rfl⟩
theorem d_X11_figure_101 : DC mX11_figure 101 (.goto 5) 3 104 := ⟨by decide +kernel, rfl⟩
theorem d_X11_figure_104 : DC mX11_figure 104 (.iload 4) 2 106 := ⟨by decide +kernel, rfl⟩
theorem d_X11_figure_106 : DC mX11_figure 106 (.invokevirtual 117) 3 109 := ⟨by decide +kernel, rfl⟩
theorem d_X11_figure_109 : DC mX11_figure 109 (.ireturn) 1 110 := ⟨by decide +kernel, rfl⟩
theorem d_X11_fault_0 : DC mX11_fault 0 (.iload_n 1) 1 1 := ⟨by decide +kernel, rfl⟩
theorem d_X11_fault_1 : DC mX11_fault 1 (.ifCond .ne 11) 3 4 := ⟨by decide +kernel, rfl⟩
theorem d_X11_fault_4 : DC mX11_fault 4 (.aload_n 0) 1 5 := ⟨by decide +kernel, rfl⟩
theorem d_X11_fault_5 : DC mX11_fault 5 (.getfield 34) 3 8 := ⟨by decide +kernel, rfl⟩
theorem d_X11_fault_8 : DC mX11_fault 8 (.getfield 137) 3 11 := ⟨by decide +kernel, rfl⟩
theorem d_X11_fault_11 : DC mX11_fault 11 (.ireturn) 1 12 := ⟨by decide +kernel, rfl⟩
theorem d_X11_fault_12 : DC mX11_fault 12 (.iload_n 1) 1 13 := ⟨by decide +kernel, rfl⟩
theorem d_X11_fault_13 : DC mX11_fault 13 (.iconst 1) 1 14 := ⟨by decide +kernel, rfl⟩
theorem d_X11_fault_14 : DC mX11_fault 14 (.if_icmp .ne 13) 3 17 := ⟨by decide +kernel, rfl⟩
theorem d_X11_fault_17 : DC mX11_fault 17 (.aload_n 0) 1 18 := ⟨by decide +kernel, rfl⟩
theorem d_X11_fault_18 : DC mX11_fault 18 (.getfield 34) 3 21 := ⟨by decide +kernel, rfl⟩
theorem d_X11_fault_21 : DC mX11_fault 21 (.getfield 140) 3 24 := ⟨by decide +kernel, rfl⟩
theorem d_X11_fault_24 : DC mX11_fault 24 (.goto 4) 3 27 := ⟨by decide +kernel, rfl⟩
theorem d_X11_fault_27 : DC mX11_fault 27 (.iconst (-1)) 1 28 := ⟨by decide +kernel, rfl⟩
theorem d_X11_fault_28 : DC mX11_fault 28 (.ireturn) 1 29 := ⟨by decide +kernel, rfl⟩
theorem d_X11_why_0 : DC mX11_why 0 (.aload_n 0) 1 1 := ⟨by decide +kernel, rfl⟩
theorem d_X11_why_1 : DC mX11_why 1 (.getfield 90) 3 4 := ⟨by decide +kernel, rfl⟩
theorem d_X11_why_4 : DC mX11_why 4 (.ireturn) 1 5 := ⟨by decide +kernel, rfl⟩
theorem d_X11_clear_0 : DC mX11_clear 0 (.iload_n 1) 1 1 := ⟨by decide +kernel, rfl⟩
theorem d_X11_clear_1 : DC mX11_clear 1 (.invokestatic 143) 3 4 := ⟨by decide +kernel, rfl⟩
theorem d_X11_clear_4 : DC mX11_clear 4 (.ifCond .ne 6) 3 7 := ⟨by decide +kernel, rfl⟩
theorem d_X11_clear_7 : DC mX11_clear 7 (.bipush (-2)) 2 9 := ⟨by decide +kernel, rfl⟩
theorem d_X11_clear_9 : DC mX11_clear 9 (.ireturn) 1 10 := ⟨by decide +kernel, rfl⟩
theorem d_X11_clear_10 : DC mX11_clear 10 (.aload_n 0) 1 11 := ⟨by decide +kernel, rfl⟩
theorem d_X11_clear_11 : DC mX11_clear 11 (.getfield 10) 3 14 := ⟨by decide +kernel, rfl⟩
theorem d_X11_clear_14 : DC mX11_clear 14 (.getfield 146) 3 17 := ⟨by decide +kernel, rfl⟩
theorem d_X11_clear_17 : DC mX11_clear 17 (.iload_n 1) 1 18 := ⟨by decide +kernel, rfl⟩
theorem d_X11_clear_18 : DC mX11_clear 18 (.aaload) 1 19 := ⟨by decide +kernel, rfl⟩
theorem d_X11_clear_19 : DC mX11_clear 19 (.getfield 150) 3 22 := ⟨by decide +kernel, rfl⟩
theorem d_X11_clear_22 : DC mX11_clear 22 (.istore_n 2) 1 23 := ⟨by decide +kernel, rfl⟩
theorem d_X11_clear_23 : DC mX11_clear 23 (.aload_n 0) 1 24 := ⟨by decide +kernel, rfl⟩
theorem d_X11_clear_24 : DC mX11_clear 24 (.getfield 83) 3 27 := ⟨by decide +kernel, rfl⟩
theorem d_X11_clear_27 : DC mX11_clear 27 (.invokevirtual 151) 3 30 := ⟨by decide +kernel, rfl⟩
theorem d_X11_clear_30 : DC mX11_clear 30 (.aload_n 0) 1 31 := ⟨by decide +kernel, rfl⟩
theorem d_X11_clear_31 : DC mX11_clear 31 (.iload_n 1) 1 32 := ⟨by decide +kernel, rfl⟩
theorem d_X11_clear_32 : DC mX11_clear 32 (.iconst 0) 1 33 := ⟨by decide +kernel, rfl⟩
theorem d_X11_clear_33 : DC mX11_clear 33 (.invokevirtual 154) 3 36 := ⟨by decide +kernel, rfl⟩
theorem d_X11_clear_36 : DC mX11_clear 36 (.pop) 1 37 := ⟨by decide +kernel, rfl⟩
theorem d_X11_clear_37 : DC mX11_clear 37 (.iload_n 2) 1 38 := ⟨by decide +kernel, rfl⟩
theorem d_X11_clear_38 : DC mX11_clear 38 (.ireturn) 1 39 := ⟨by decide +kernel, rfl⟩
theorem d_X11_copy_0 : DC mX11_copy 0 (.iload_n 1) 1 1 := ⟨by decide +kernel, rfl⟩
theorem d_X11_copy_1 : DC mX11_copy 1 (.invokestatic 143) 3 4 := ⟨by decide +kernel, rfl⟩
theorem d_X11_copy_4 : DC mX11_copy 4 (.ifCond .eq 10) 3 7 := ⟨by decide +kernel, rfl⟩
theorem d_X11_copy_7 : DC mX11_copy 7 (.iload_n 2) 1 8 := ⟨by decide +kernel, rfl⟩
theorem d_X11_copy_8 : DC mX11_copy 8 (.invokestatic 143) 3 11 := ⟨by decide +kernel, rfl⟩
theorem d_X11_copy_11 : DC mX11_copy 11 (.ifCond .ne 6) 3 14 := ⟨by decide +kernel, rfl⟩
theorem d_X11_copy_14 : DC mX11_copy 14 (.bipush (-2)) 2 16 := ⟨by decide +kernel, rfl⟩
theorem d_X11_copy_16 : DC mX11_copy 16 (.ireturn) 1 17 := ⟨by decide +kernel, rfl⟩
theorem d_X11_copy_17 : DC mX11_copy 17 (.aload_n 0) 1 18 := ⟨by decide +kernel, rfl⟩
theorem d_X11_copy_18 : DC mX11_copy 18 (.getfield 83) 3 21 := ⟨by decide +kernel, rfl⟩
theorem d_X11_copy_21 : DC mX11_copy 21 (.aload_n 0) 1 22 := ⟨by decide +kernel, rfl⟩
theorem d_X11_copy_22 : DC mX11_copy 22 (.getfield 10) 3 25 := ⟨by decide +kernel, rfl⟩
theorem d_X11_copy_25 : DC mX11_copy 25 (.getfield 146) 3 28 := ⟨by decide +kernel, rfl⟩
theorem d_X11_copy_28 : DC mX11_copy 28 (.iload_n 2) 1 29 := ⟨by decide +kernel, rfl⟩
theorem d_X11_copy_29 : DC mX11_copy 29 (.aaload) 1 30 := ⟨by decide +kernel, rfl⟩
theorem d_X11_copy_30 : DC mX11_copy 30 (.invokevirtual 157) 3 33 := ⟨by decide +kernel, rfl⟩
theorem d_X11_copy_33 : DC mX11_copy 33 (.aload_n 0) 1 34 := ⟨by decide +kernel, rfl⟩
theorem d_X11_copy_34 : DC mX11_copy 34 (.iload_n 1) 1 35 := ⟨by decide +kernel, rfl⟩
theorem d_X11_copy_35 : DC mX11_copy 35 (.iconst 0) 1 36 := ⟨by decide +kernel, rfl⟩
theorem d_X11_copy_36 : DC mX11_copy 36 (.invokevirtual 154) 3 39 := ⟨by decide +kernel, rfl⟩
theorem d_X11_copy_39 : DC mX11_copy 39 (.ireturn) 1 40 := ⟨by decide +kernel, rfl⟩
theorem d_X11_isLetter_0 : DC mX11_isLetter 0 (.iload_n 0) 1 1 := ⟨by decide +kernel, rfl⟩
theorem d_X11_isLetter_1 : DC mX11_isLetter 1 (.ifCond .lt 13) 3 4 := ⟨by decide +kernel, rfl⟩
theorem d_X11_isLetter_4 : DC mX11_isLetter 4 (.iload_n 0) 1 5 := ⟨by decide +kernel, rfl⟩
theorem d_X11_isLetter_5 : DC mX11_isLetter 5 (.bipush 10) 2 7 := ⟨by decide +kernel, rfl⟩
theorem d_X11_isLetter_7 : DC mX11_isLetter 7 (.if_icmp .ge 7) 3 10 := ⟨by decide +kernel, rfl⟩
theorem d_X11_isLetter_10 : DC mX11_isLetter 10 (.iconst 1) 1 11 := ⟨by decide +kernel, rfl⟩
theorem d_X11_isLetter_11 : DC mX11_isLetter 11 (.goto 4) 3 14 := ⟨by decide +kernel, rfl⟩
theorem d_X11_isLetter_14 : DC mX11_isLetter 14 (.iconst 0) 1 15 := ⟨by decide +kernel, rfl⟩
theorem d_X11_isLetter_15 : DC mX11_isLetter 15 (.ireturn) 1 16 := ⟨by decide +kernel, rfl⟩
theorem d_X11_areLetters_0 : DC mX11_areLetters 0 (.iload_n 0) 1 1 := ⟨by decide +kernel, rfl⟩
theorem d_X11_areLetters_1 : DC mX11_areLetters 1 (.invokestatic 205) 3 4 := ⟨by decide +kernel, rfl⟩
theorem d_X11_areLetters_4 : DC mX11_areLetters 4 (.ifCond .eq 21) 3 7 := ⟨by decide +kernel, rfl⟩
theorem d_X11_areLetters_7 : DC mX11_areLetters 7 (.iload_n 1) 1 8 := ⟨by decide +kernel, rfl⟩
theorem d_X11_areLetters_8 : DC mX11_areLetters 8 (.invokestatic 205) 3 11 := ⟨by decide +kernel, rfl⟩
theorem d_X11_areLetters_11 : DC mX11_areLetters 11 (.ifCond .eq 14) 3 14 := ⟨by decide +kernel, rfl⟩
theorem d_X11_areLetters_14 : DC mX11_areLetters 14 (.iload_n 2) 1 15 := ⟨by decide +kernel, rfl⟩
theorem d_X11_areLetters_15 : DC mX11_areLetters 15 (.invokestatic 205) 3 18 := ⟨by decide +kernel, rfl⟩
theorem d_X11_areLetters_18 : DC mX11_areLetters 18 (.ifCond .eq 7) 3 21 := ⟨by decide +kernel, rfl⟩
theorem d_X11_areLetters_21 : DC mX11_areLetters 21 (.iconst 1) 1 22 := ⟨by decide +kernel, rfl⟩
theorem d_X11_areLetters_22 : DC mX11_areLetters 22 (.goto 4) 3 25 := ⟨by decide +kernel, rfl⟩
theorem d_X11_areLetters_25 : DC mX11_areLetters 25 (.iconst 0) 1 26 := ⟨by decide +kernel, rfl⟩
theorem d_X11_areLetters_26 : DC mX11_areLetters 26 (.ireturn) 1 27 := ⟨by decide +kernel, rfl⟩
theorem d_X11_bracket_0 : DC mX11_bracket 0 (.iload_n 1) 1 1 := ⟨by decide +kernel, rfl⟩
theorem d_X11_bracket_1 : DC mX11_bracket 1 (.invokestatic 143) 3 4 := ⟨by decide +kernel, rfl⟩
theorem d_X11_bracket_4 : DC mX11_bracket 4 (.ifCond .eq 13) 3 7 := ⟨by decide +kernel, rfl⟩
theorem d_X11_bracket_7 : DC mX11_bracket 7 (.iload_n 2) 1 8 := ⟨by decide +kernel, rfl⟩
theorem d_X11_bracket_8 : DC mX11_bracket 8 (.iload_n 3) 1 9 := ⟨by decide +kernel, rfl⟩
theorem d_X11_bracket_9 : DC mX11_bracket 9 (.iload 4) 2 11 := ⟨by decide +kernel, rfl⟩
theorem d_X11_bracket_11 : DC mX11_bracket 11 (.invokestatic 160) 3 14 := ⟨by decide +kernel, rfl⟩
theorem d_X11_bracket_14 : DC mX11_bracket 14 (.ifCond .ne 6) 3 17 := ⟨by decide +kernel, rfl⟩
theorem d_X11_bracket_17 : DC mX11_bracket 17 (.bipush (-2)) 2 19 := ⟨by decide +kernel, rfl⟩
theorem d_X11_bracket_19 : DC mX11_bracket 19 (.ireturn) 1 20 := ⟨by decide +kernel, rfl⟩
theorem d_X11_bracket_20 : DC mX11_bracket 20 (.aload_n 0) 1 21 := ⟨by decide +kernel, rfl⟩
theorem d_X11_bracket_21 : DC mX11_bracket 21 (.getfield 76) 3 24 := ⟨by decide +kernel, rfl⟩
theorem d_X11_bracket_24 : DC mX11_bracket 24 (.lconst 0) 1 25 := ⟨by decide +kernel, rfl⟩
theorem d_X11_bracket_25 : DC mX11_bracket 25 (.invokevirtual 164) 3 28 := ⟨by decide +kernel, rfl⟩
theorem d_X11_bracket_28 : DC mX11_bracket 28 (.aload_n 0) 1 29 := ⟨by decide +kernel, rfl⟩
theorem d_X11_bracket_29 : DC mX11_bracket 29 (.getfield 76) 3 32 := ⟨by decide +kernel, rfl⟩
theorem d_X11_bracket_32 : DC mX11_bracket 32 (.iload_n 2) 1 33 := ⟨by decide +kernel, rfl⟩
theorem d_X11_bracket_33 : DC mX11_bracket 33 (.iload_n 3) 1 34 := ⟨by decide +kernel, rfl⟩
theorem d_X11_bracket_34 : DC mX11_bracket 34 (.iload 4) 2 36 := ⟨by decide +kernel, rfl⟩
theorem d_X11_bracket_36 : DC mX11_bracket 36 (.invokestatic 167) 3 39 := ⟨by decide +kernel, rfl⟩
theorem d_X11_bracket_39 : DC mX11_bracket 39 (.invokevirtual 173) 3 42 := ⟨by decide +kernel, rfl⟩
theorem d_X11_bracket_42 : DC mX11_bracket 42 (.aload_n 0) 1 43 := ⟨by decide +kernel, rfl⟩
theorem d_X11_bracket_43 : DC mX11_bracket 43 (.getfield 83) 3 46 := ⟨by decide +kernel, rfl⟩
theorem d_X11_bracket_46 : DC mX11_bracket 46 (.invokevirtual 151) 3 49 := ⟨by decide +kernel, rfl⟩
theorem d_X11_bracket_49 : DC mX11_bracket 49 (.aload_n 0) 1 50 := ⟨by decide +kernel, rfl⟩
theorem d_X11_bracket_50 : DC mX11_bracket 50 (.iload_n 1) 1 51 := ⟨by decide +kernel, rfl⟩
theorem d_X11_bracket_51 : DC mX11_bracket 51 (.aload_n 0) 1 52 := ⟨by decide +kernel, rfl⟩
theorem d_X11_bracket_52 : DC mX11_bracket 52 (.getfield 83) 3 55 := ⟨by decide +kernel, rfl⟩
theorem d_X11_bracket_55 : DC mX11_bracket 55 (.aload_n 0) 1 56 := ⟨by decide +kernel, rfl⟩
theorem d_X11_bracket_56 : DC mX11_bracket 56 (.getfield 76) 3 59 := ⟨by decide +kernel, rfl⟩
theorem d_X11_bracket_59 : DC mX11_bracket 59 (.getfield 176) 3 62 := ⟨by decide +kernel, rfl⟩
theorem d_X11_bracket_62 : DC mX11_bracket 62 (.aload_n 0) 1 63 := ⟨by decide +kernel, rfl⟩
theorem d_X11_bracket_63 : DC mX11_bracket 63 (.getfield 76) 3 66 := ⟨by decide +kernel, rfl⟩
theorem d_X11_bracket_66 : DC mX11_bracket 66 (.getfield 180) 3 69 := ⟨by decide +kernel, rfl⟩
theorem d_X11_bracket_69 : DC mX11_bracket 69 (.i2l) 1 70 := ⟨by decide +kernel, rfl⟩
theorem d_X11_bracket_70 : DC mX11_bracket 70 (.invokevirtual 183) 3 73 := ⟨by decide +kernel, rfl⟩
theorem d_X11_bracket_73 : DC mX11_bracket 73 (.invokevirtual 154) 3 76 := ⟨by decide +kernel, rfl⟩
theorem d_X11_bracket_76 : DC mX11_bracket 76 (.ireturn) 1 77 := ⟨by decide +kernel, rfl⟩
theorem d_X11_rowOfDigits_0 : DC mX11_rowOfDigits 0 (.iload_n 0) 1 1 := ⟨by decide +kernel, rfl⟩
theorem d_X11_rowOfDigits_1 : DC mX11_rowOfDigits 1 (.bipush 100) 2 3 := ⟨by decide +kernel, rfl⟩
theorem d_X11_rowOfDigits_3 : DC mX11_rowOfDigits 3 (.idiv) 1 4 := ⟨by decide +kernel, rfl⟩
theorem d_X11_rowOfDigits_4 : DC mX11_rowOfDigits 4 (.iload_n 0) 1 5 := ⟨by decide +kernel, rfl⟩
theorem d_X11_rowOfDigits_5 : DC mX11_rowOfDigits 5 (.bipush 10) 2 7 := ⟨by decide +kernel, rfl⟩
theorem d_X11_rowOfDigits_7 : DC mX11_rowOfDigits 7 (.idiv) 1 8 := ⟨by decide +kernel, rfl⟩
theorem d_X11_rowOfDigits_8 : DC mX11_rowOfDigits 8 (.bipush 10) 2 10 := ⟨by decide +kernel, rfl⟩
theorem d_X11_rowOfDigits_10 : DC mX11_rowOfDigits 10 (.irem) 1 11 := ⟨by decide +kernel, rfl⟩
theorem d_X11_rowOfDigits_11 : DC mX11_rowOfDigits 11 (.iload_n 0) 1 12 := ⟨by decide +kernel, rfl⟩
theorem d_X11_rowOfDigits_12 : DC mX11_rowOfDigits 12 (.bipush 10) 2 14 := ⟨by decide +kernel, rfl⟩
theorem d_X11_rowOfDigits_14 : DC mX11_rowOfDigits 14 (.irem) 1 15 := ⟨by decide +kernel, rfl⟩
theorem d_X11_rowOfDigits_15 : DC mX11_rowOfDigits 15 (.invokestatic 167) 3 18 := ⟨by decide +kernel, rfl⟩
theorem d_X11_rowOfDigits_18 : DC mX11_rowOfDigits 18 (.ireturn) 1 19 := ⟨by decide +kernel, rfl⟩
theorem d_X11_exchange_0 : DC mX11_exchange 0 (.iload_n 1) 1 1 := ⟨by decide +kernel, rfl⟩
theorem d_X11_exchange_1 : DC mX11_exchange 1 (.invokestatic 143) 3 4 := ⟨by decide +kernel, rfl⟩
theorem d_X11_exchange_4 : DC mX11_exchange 4 (.ifCond .ne 6) 3 7 := ⟨by decide +kernel, rfl⟩
theorem d_X11_exchange_7 : DC mX11_exchange 7 (.bipush (-2)) 2 9 := ⟨by decide +kernel, rfl⟩
theorem d_X11_exchange_9 : DC mX11_exchange 9 (.ireturn) 1 10 := ⟨by decide +kernel, rfl⟩
theorem d_X11_exchange_10 : DC mX11_exchange 10 (.iload_n 2) 1 11 := ⟨by decide +kernel, rfl⟩
theorem d_X11_exchange_11 : DC mX11_exchange 11 (.ifCond .lt 33) 3 14 := ⟨by decide +kernel, rfl⟩
theorem d_X11_exchange_14 : DC mX11_exchange 14 (.iload_n 2) 1 15 := ⟨by decide +kernel, rfl⟩
theorem d_X11_exchange_15 : DC mX11_exchange 15 (.sipush 999) 3 18 := ⟨by decide +kernel, rfl⟩
theorem d_X11_exchange_18 : DC mX11_exchange 18 (.if_icmp .gt 26) 3 21 := ⟨by decide +kernel, rfl⟩
theorem d_X11_exchange_21 : DC mX11_exchange 21 (.iload_n 3) 1 22 := ⟨by decide +kernel, rfl⟩
theorem d_X11_exchange_22 : DC mX11_exchange 22 (.ifCond .lt 22) 3 25 := ⟨by decide +kernel, rfl⟩
theorem d_X11_exchange_25 : DC mX11_exchange 25 (.iload_n 3) 1 26 := ⟨by decide +kernel, rfl⟩
theorem d_X11_exchange_26 : DC mX11_exchange 26 (.sipush 999) 3 29 := ⟨by decide +kernel, rfl⟩
theorem d_X11_exchange_29 : DC mX11_exchange 29 (.if_icmp .gt 15) 3 32 := ⟨by decide +kernel, rfl⟩
theorem d_X11_exchange_32 : DC mX11_exchange 32 (.iload 4) 2 34 := ⟨by decide +kernel, rfl⟩
theorem d_X11_exchange_34 : DC mX11_exchange 34 (.iconst 1) 1 35 := ⟨by decide +kernel, rfl⟩
theorem d_X11_exchange_35 : DC mX11_exchange 35 (.if_icmp .lt 9) 3 38 := ⟨by decide +kernel, rfl⟩
theorem d_X11_exchange_38 : DC mX11_exchange 38 (.iload 4) 2 40 := ⟨by decide +kernel, rfl⟩
theorem d_X11_exchange_40 : DC mX11_exchange 40 (.iconst 3) 1 41 := ⟨by decide +kernel, rfl⟩
theorem d_X11_exchange_41 : DC mX11_exchange 41 (.if_icmp .le 6) 3 44 := ⟨by decide +kernel, rfl⟩
theorem d_X11_exchange_44 : DC mX11_exchange 44 (.bipush (-3)) 2 46 := ⟨by decide +kernel, rfl⟩
theorem d_X11_exchange_46 : DC mX11_exchange 46 (.ireturn) 1 47 := ⟨by decide +kernel, rfl⟩
theorem d_X11_exchange_47 : DC mX11_exchange 47 (.aload_n 0) 1 48 := ⟨by decide +kernel, rfl⟩
theorem d_X11_exchange_48 : DC mX11_exchange 48 (.getfield 83) 3 51 := ⟨by decide +kernel, rfl⟩
theorem d_X11_exchange_51 : DC mX11_exchange 51 (.invokevirtual 151) 3 54 := ⟨by decide +kernel, rfl⟩
theorem d_X11_exchange_54 : DC mX11_exchange 54 (.aload_n 0) 1 55 := ⟨by decide +kernel, rfl⟩
theorem d_X11_exchange_55 : DC mX11_exchange 55 (.iload_n 1) 1 56 := ⟨by decide +kernel, rfl⟩
theorem d_X11_exchange_56 : DC mX11_exchange 56 (.aload_n 0) 1 57 := ⟨by decide +kernel, rfl⟩
theorem d_X11_exchange_57 : DC mX11_exchange 57 (.getfield 41) 3 60 := ⟨by decide +kernel, rfl⟩
theorem d_X11_exchange_60 : DC mX11_exchange 60 (.aload_n 0) 1 61 := ⟨by decide +kernel, rfl⟩
theorem d_X11_exchange_61 : DC mX11_exchange 61 (.getfield 83) 3 64 := ⟨by decide +kernel, rfl⟩
theorem d_X11_exchange_64 : DC mX11_exchange 64 (.iload_n 2) 1 65 := ⟨by decide +kernel, rfl⟩
theorem d_X11_exchange_65 : DC mX11_exchange 65 (.invokestatic 187) 3 68 := ⟨by decide +kernel, rfl⟩
theorem d_X11_exchange_68 : DC mX11_exchange 68 (.iload_n 3) 1 69 := ⟨by decide +kernel, rfl⟩
theorem d_X11_exchange_69 : DC mX11_exchange 69 (.invokestatic 187) 3 72 := ⟨by decide +kernel, rfl⟩
theorem d_X11_exchange_72 : DC mX11_exchange 72 (.iload 4) 2 74 := ⟨by decide +kernel, rfl⟩
theorem d_X11_exchange_74 : DC mX11_exchange 74 (.lconst 0) 1 75 := ⟨by decide +kernel, rfl⟩
theorem d_X11_exchange_75 : DC mX11_exchange 75 (.lconst 1) 1 76 := ⟨by decide +kernel, rfl⟩
theorem d_X11_exchange_76 : DC mX11_exchange 76 (.invokevirtual 190) 3 79 := ⟨by decide +kernel, rfl⟩
theorem d_X11_exchange_79 : DC mX11_exchange 79 (.invokevirtual 154) 3 82 := ⟨by decide +kernel, rfl⟩
theorem d_X11_exchange_82 : DC mX11_exchange 82 (.ireturn) 1 83 := ⟨by decide +kernel, rfl⟩
theorem d_X11_isNear_0 : DC mX11_isNear 0 (.iload_n 0) 1 1 := ⟨by decide +kernel, rfl⟩
theorem d_X11_isNear_1 : DC mX11_isNear 1 (.bipush (-99)) 2 3 := ⟨by decide +kernel, rfl⟩
theorem d_X11_isNear_3 : DC mX11_isNear 3 (.if_icmp .lt 13) 3 6 := ⟨by decide +kernel, rfl⟩
theorem d_X11_isNear_6 : DC mX11_isNear 6 (.iload_n 0) 1 7 := ⟨by decide +kernel, rfl⟩
theorem d_X11_isNear_7 : DC mX11_isNear 7 (.bipush 99) 2 9 := ⟨by decide +kernel, rfl⟩
theorem d_X11_isNear_9 : DC mX11_isNear 9 (.if_icmp .gt 7) 3 12 := ⟨by decide +kernel, rfl⟩
theorem d_X11_isNear_12 : DC mX11_isNear 12 (.iconst 1) 1 13 := ⟨by decide +kernel, rfl⟩
theorem d_X11_isNear_13 : DC mX11_isNear 13 (.goto 4) 3 16 := ⟨by decide +kernel, rfl⟩
theorem d_X11_isNear_16 : DC mX11_isNear 16 (.iconst 0) 1 17 := ⟨by decide +kernel, rfl⟩
theorem d_X11_isNear_17 : DC mX11_isNear 17 (.ireturn) 1 18 := ⟨by decide +kernel, rfl⟩
theorem d_X11_add_0 : DC mX11_add 0 (.aload_n 0) 1 1 := ⟨by decide +kernel, rfl⟩
theorem d_X11_add_1 : DC mX11_add 1 (.iconst 0) 1 2 := ⟨by decide +kernel, rfl⟩
theorem d_X11_add_2 : DC mX11_add 2 (.putfield 90) 3 5 := ⟨by decide +kernel, rfl⟩
theorem d_X11_add_5 : DC mX11_add 5 (.iload_n 1) 1 6 := ⟨by decide +kernel, rfl⟩
theorem d_X11_add_6 : DC mX11_add 6 (.invokestatic 143) 3 9 := ⟨by decide +kernel, rfl⟩
theorem d_X11_add_9 : DC mX11_add 9 (.ifCond .eq 18) 3 12 := ⟨by decide +kernel, rfl⟩
theorem d_X11_add_12 : DC mX11_add 12 (.iload_n 2) 1 13 := ⟨by decide +kernel, rfl⟩
theorem d_X11_add_13 : DC mX11_add 13 (.invokestatic 143) 3 16 := ⟨by decide +kernel, rfl⟩
theorem d_X11_add_16 : DC mX11_add 16 (.ifCond .eq 11) 3 19 := ⟨by decide +kernel, rfl⟩
theorem d_X11_add_19 : DC mX11_add 19 (.iload 4) 2 21 := ⟨by decide +kernel, rfl⟩
theorem d_X11_add_21 : DC mX11_add 21 (.invokestatic 143) 3 24 := ⟨by decide +kernel, rfl⟩
theorem d_X11_add_24 : DC mX11_add 24 (.ifCond .ne 6) 3 27 := ⟨by decide +kernel, rfl⟩
theorem d_X11_add_27 : DC mX11_add 27 (.bipush (-2)) 2 29 := ⟨by decide +kernel, rfl⟩
theorem d_X11_add_29 : DC mX11_add 29 (.ireturn) 1 30 := ⟨by decide +kernel, rfl⟩
theorem d_X11_add_30 : DC mX11_add 30 (.iload_n 3) 1 31 := ⟨by decide +kernel, rfl⟩
theorem d_X11_add_31 : DC mX11_add 31 (.invokestatic 194) 3 34 := ⟨by decide +kernel, rfl⟩
theorem d_X11_add_34 : DC mX11_add 34 (.ifCond .eq 11) 3 37 := ⟨by decide +kernel, rfl⟩
theorem d_X11_add_37 : DC mX11_add 37 (.iload 5) 2 39 := ⟨by decide +kernel, rfl⟩
theorem d_X11_add_39 : DC mX11_add 39 (.invokestatic 194) 3 42 := ⟨by decide +kernel, rfl⟩
theorem d_X11_add_42 : DC mX11_add 42 (.ifCond .ne 6) 3 45 := ⟨by decide +kernel, rfl⟩
theorem d_X11_add_45 : DC mX11_add 45 (.bipush (-3)) 2 47 := ⟨by decide +kernel, rfl⟩
theorem d_X11_add_47 : DC mX11_add 47 (.ireturn) 1 48 := ⟨by decide +kernel, rfl⟩
theorem d_X11_add_48 : DC mX11_add 48 (.aload_n 0) 1 49 := ⟨by decide +kernel, rfl⟩
theorem d_X11_add_49 : DC mX11_add 49 (.getfield 83) 3 52 := ⟨by decide +kernel, rfl⟩
theorem d_X11_add_52 : DC mX11_add 52 (.invokevirtual 151) 3 55 := ⟨by decide +kernel, rfl⟩
theorem d_X11_add_55 : DC mX11_add 55 (.aload_n 0) 1 56 := ⟨by decide +kernel, rfl⟩
theorem d_X11_add_56 : DC mX11_add 56 (.getfield 83) 3 59 := ⟨by decide +kernel, rfl⟩
theorem d_X11_add_59 : DC mX11_add 59 (.aload_n 0) 1 60 := ⟨by decide +kernel, rfl⟩
theorem d_X11_add_60 : DC mX11_add 60 (.getfield 10) 3 63 := ⟨by decide +kernel, rfl⟩
theorem d_X11_add_63 : DC mX11_add 63 (.getfield 146) 3 66 := ⟨by decide +kernel, rfl⟩
theorem d_X11_add_66 : DC mX11_add 66 (.iload_n 2) 1 67 := ⟨by decide +kernel, rfl⟩
theorem d_X11_add_67 : DC mX11_add 67 (.aaload) 1 68 := ⟨by decide +kernel, rfl⟩
theorem d_X11_add_68 : DC mX11_add 68 (.iload_n 3) 1 69 := ⟨by decide +kernel, rfl⟩
theorem d_X11_add_69 : DC mX11_add 69 (.invokevirtual 197) 3 72 := ⟨by decide +kernel, rfl⟩
theorem d_X11_add_72 : DC mX11_add 72 (.istore 6) 2 74 := ⟨by decide +kernel, rfl⟩
theorem d_X11_add_74 : DC mX11_add 74 (.iload 6) 2 76 := ⟨by decide +kernel, rfl⟩
theorem d_X11_add_76 : DC mX11_add 76 (.ifCond .ne 24) 3 79 := ⟨by decide +kernel, rfl⟩
theorem d_X11_add_79 : DC mX11_add 79 (.aload_n 0) 1 80 := ⟨by decide +kernel, rfl⟩
theorem d_X11_add_80 : DC mX11_add 80 (.getfield 83) 3 83 := ⟨by decide +kernel, rfl⟩
theorem d_X11_add_83 : DC mX11_add 83 (.aload_n 0) 1 84 := ⟨by decide +kernel, rfl⟩
theorem d_X11_add_84 : DC mX11_add 84 (.getfield 10) 3 87 := ⟨by decide +kernel, rfl⟩
theorem d_X11_add_87 : DC mX11_add 87 (.getfield 146) 3 90 := ⟨by decide +kernel, rfl⟩
theorem d_X11_add_90 : DC mX11_add 90 (.iload 4) 2 92 := ⟨by decide +kernel, rfl⟩
theorem d_X11_add_92 : DC mX11_add 92 (.aaload) 1 93 := ⟨by decide +kernel, rfl⟩
theorem d_X11_add_93 : DC mX11_add 93 (.iload 5) 2 95 := ⟨by decide +kernel, rfl⟩
theorem d_X11_add_95 : DC mX11_add 95 (.invokevirtual 197) 3 98 := ⟨by decide +kernel, rfl⟩
theorem d_X11_add_98 : DC mX11_add 98 (.istore 6) 2 100 := ⟨by decide +kernel, rfl⟩
theorem d_X11_add_100 : DC mX11_add 100 (.aload_n 0) 1 101 := ⟨by decide +kernel, rfl⟩
theorem d_X11_add_101 : DC mX11_add 101 (.iload_n 1) 1 102 := ⟨by decide +kernel, rfl⟩
theorem d_X11_add_102 : DC mX11_add 102 (.iload 6) 2 104 := ⟨by decide +kernel, rfl⟩
theorem d_X11_add_104 : DC mX11_add 104 (.invokevirtual 154) 3 107 := ⟨by decide +kernel, rfl⟩
theorem d_X11_add_107 : DC mX11_add 107 (.ireturn) 1 108 := ⟨by decide +kernel, rfl⟩
theorem d_X11_times_0 : DC mX11_times 0 (.aload_n 0) 1 1 := ⟨by decide +kernel, rfl⟩
theorem d_X11_times_1 : DC mX11_times 1 (.iconst 0) 1 2 := ⟨by decide +kernel, rfl⟩
theorem d_X11_times_2 : DC mX11_times 2 (.putfield 90) 3 5 := ⟨by decide +kernel, rfl⟩
theorem d_X11_times_5 : DC mX11_times 5 (.iload_n 1) 1 6 := ⟨by decide +kernel, rfl⟩
theorem d_X11_times_6 : DC mX11_times 6 (.invokestatic 143) 3 9 := ⟨by decide +kernel, rfl⟩
theorem d_X11_times_9 : DC mX11_times 9 (.ifCond .eq 17) 3 12 := ⟨by decide +kernel, rfl⟩
theorem d_X11_times_12 : DC mX11_times 12 (.iload_n 2) 1 13 := ⟨by decide +kernel, rfl⟩
theorem d_X11_times_13 : DC mX11_times 13 (.invokestatic 143) 3 16 := ⟨by decide +kernel, rfl⟩
theorem d_X11_times_16 : DC mX11_times 16 (.ifCond .eq 10) 3 19 := ⟨by decide +kernel, rfl⟩
theorem d_X11_times_19 : DC mX11_times 19 (.iload_n 3) 1 20 := ⟨by decide +kernel, rfl⟩
theorem d_X11_times_20 : DC mX11_times 20 (.invokestatic 143) 3 23 := ⟨by decide +kernel, rfl⟩
theorem d_X11_times_23 : DC mX11_times 23 (.ifCond .ne 6) 3 26 := ⟨by decide +kernel, rfl⟩
theorem d_X11_times_26 : DC mX11_times 26 (.bipush (-2)) 2 28 := ⟨by decide +kernel, rfl⟩
theorem d_X11_times_28 : DC mX11_times 28 (.ireturn) 1 29 := ⟨by decide +kernel, rfl⟩
theorem d_X11_times_29 : DC mX11_times 29 (.aload_n 0) 1 30 := ⟨by decide +kernel, rfl⟩
theorem d_X11_times_30 : DC mX11_times 30 (.getfield 83) 3 33 := ⟨by decide +kernel, rfl⟩
theorem d_X11_times_33 : DC mX11_times 33 (.invokevirtual 151) 3 36 := ⟨by decide +kernel, rfl⟩
theorem d_X11_times_36 : DC mX11_times 36 (.aload_n 0) 1 37 := ⟨by decide +kernel, rfl⟩
theorem d_X11_times_37 : DC mX11_times 37 (.iload_n 1) 1 38 := ⟨by decide +kernel, rfl⟩
theorem d_X11_times_38 : DC mX11_times 38 (.aload_n 0) 1 39 := ⟨by decide +kernel, rfl⟩
theorem d_X11_times_39 : DC mX11_times 39 (.getfield 83) 3 42 := ⟨by decide +kernel, rfl⟩
theorem d_X11_times_42 : DC mX11_times 42 (.aload_n 0) 1 43 := ⟨by decide +kernel, rfl⟩
theorem d_X11_times_43 : DC mX11_times 43 (.getfield 10) 3 46 := ⟨by decide +kernel, rfl⟩
theorem d_X11_times_46 : DC mX11_times 46 (.getfield 146) 3 49 := ⟨by decide +kernel, rfl⟩
theorem d_X11_times_49 : DC mX11_times 49 (.iload_n 2) 1 50 := ⟨by decide +kernel, rfl⟩
theorem d_X11_times_50 : DC mX11_times 50 (.aaload) 1 51 := ⟨by decide +kernel, rfl⟩
theorem d_X11_times_51 : DC mX11_times 51 (.aload_n 0) 1 52 := ⟨by decide +kernel, rfl⟩
theorem d_X11_times_52 : DC mX11_times 52 (.getfield 10) 3 55 := ⟨by decide +kernel, rfl⟩
theorem d_X11_times_55 : DC mX11_times 55 (.getfield 146) 3 58 := ⟨by decide +kernel, rfl⟩
theorem d_X11_times_58 : DC mX11_times 58 (.iload_n 3) 1 59 := ⟨by decide +kernel, rfl⟩
theorem d_X11_times_59 : DC mX11_times 59 (.aaload) 1 60 := ⟨by decide +kernel, rfl⟩
theorem d_X11_times_60 : DC mX11_times 60 (.invokevirtual 201) 3 63 := ⟨by decide +kernel, rfl⟩
theorem d_X11_times_63 : DC mX11_times 63 (.invokevirtual 154) 3 66 := ⟨by decide +kernel, rfl⟩
theorem d_X11_times_66 : DC mX11_times 66 (.ireturn) 1 67 := ⟨by decide +kernel, rfl⟩
theorem d_X11_rename_0 : DC mX11_rename 0 (.aload_n 0) 1 1 := ⟨by decide +kernel, rfl⟩
theorem d_X11_rename_1 : DC mX11_rename 1 (.getfield 83) 3 4 := ⟨by decide +kernel, rfl⟩
theorem d_X11_rename_4 : DC mX11_rename 4 (.invokevirtual 151) 3 7 := ⟨by decide +kernel, rfl⟩
theorem d_X11_rename_7 : DC mX11_rename 7 (.iconst 0) 1 8 := ⟨by decide +kernel, rfl⟩
theorem d_X11_rename_8 : DC mX11_rename 8 (.istore 5) 2 10 := ⟨by decide +kernel, rfl⟩
theorem d_X11_rename_10 : DC mX11_rename 10 (.iconst 0) 1 11 := ⟨by decide +kernel, rfl⟩
theorem d_X11_rename_11 : DC mX11_rename 11 (.istore 6) 2 13 := ⟨by decide +kernel, rfl⟩
theorem d_X11_rename_13 : DC mX11_rename 13 (.iload 6) 2 15 := ⟨by decide +kernel, rfl⟩
theorem d_X11_rename_15 : DC mX11_rename 15 (.aload_n 1) 1 16 := ⟨by decide +kernel, rfl⟩
theorem d_X11_rename_16 : DC mX11_rename 16 (.getfield 150) 3 19 := ⟨by decide +kernel, rfl⟩
theorem d_X11_rename_19 : DC mX11_rename 19 (.if_icmp .ge 65) 3 22 := ⟨by decide +kernel, rfl⟩
theorem d_X11_rename_22 : DC mX11_rename 22 (.iload 5) 2 24 := ⟨by decide +kernel, rfl⟩
theorem d_X11_rename_24 : DC mX11_rename 24 (.ifCond .ne 60) 3 27 := ⟨by decide +kernel, rfl⟩
theorem d_X11_rename_27 : DC mX11_rename 27 (.aload_n 0) 1 28 := ⟨by decide +kernel, rfl⟩
theorem d_X11_rename_28 : DC mX11_rename 28 (.getfield 76) 3 31 := ⟨by decide +kernel, rfl⟩
theorem d_X11_rename_31 : DC mX11_rename 31 (.aload_n 1) 1 32 := ⟨by decide +kernel, rfl⟩
theorem d_X11_rename_32 : DC mX11_rename 32 (.getfield 241) 3 35 := ⟨by decide +kernel, rfl⟩
theorem d_X11_rename_35 : DC mX11_rename 35 (.iload 6) 2 37 := ⟨by decide +kernel, rfl⟩
theorem d_X11_rename_37 : DC mX11_rename 37 (.laload) 1 38 := ⟨by decide +kernel, rfl⟩
theorem d_X11_rename_38 : DC mX11_rename 38 (.iload_n 2) 1 39 := ⟨by decide +kernel, rfl⟩
theorem d_X11_rename_39 : DC mX11_rename 39 (.iload_n 3) 1 40 := ⟨by decide +kernel, rfl⟩
theorem d_X11_rename_40 : DC mX11_rename 40 (.iload 4) 2 42 := ⟨by decide +kernel, rfl⟩
theorem d_X11_rename_42 : DC mX11_rename 42 (.invokevirtual 336) 3 45 := ⟨by decide +kernel, rfl⟩
theorem d_X11_rename_45 : DC mX11_rename 45 (.aload_n 0) 1 46 := ⟨by decide +kernel, rfl⟩
theorem d_X11_rename_46 : DC mX11_rename 46 (.getfield 83) 3 49 := ⟨by decide +kernel, rfl⟩
theorem d_X11_rename_49 : DC mX11_rename 49 (.aload_n 0) 1 50 := ⟨by decide +kernel, rfl⟩
theorem d_X11_rename_50 : DC mX11_rename 50 (.getfield 76) 3 53 := ⟨by decide +kernel, rfl⟩
theorem d_X11_rename_53 : DC mX11_rename 53 (.getfield 176) 3 56 := ⟨by decide +kernel, rfl⟩
theorem d_X11_rename_56 : DC mX11_rename 56 (.aload_n 1) 1 57 := ⟨by decide +kernel, rfl⟩
theorem d_X11_rename_57 : DC mX11_rename 57 (.getfield 249) 3 60 := ⟨by decide +kernel, rfl⟩
theorem d_X11_rename_60 : DC mX11_rename 60 (.iload 6) 2 62 := ⟨by decide +kernel, rfl⟩
theorem d_X11_rename_62 : DC mX11_rename 62 (.iaload) 1 63 := ⟨by decide +kernel, rfl⟩
theorem d_X11_rename_63 : DC mX11_rename 63 (.i2l) 1 64 := ⟨by decide +kernel, rfl⟩
theorem d_X11_rename_64 : DC mX11_rename 64 (.aload_n 0) 1 65 := ⟨by decide +kernel, rfl⟩
theorem d_X11_rename_65 : DC mX11_rename 65 (.getfield 76) 3 68 := ⟨by decide +kernel, rfl⟩
theorem d_X11_rename_68 : DC mX11_rename 68 (.getfield 180) 3 71 := ⟨by decide +kernel, rfl⟩
theorem d_X11_rename_71 : DC mX11_rename 71 (.i2l) 1 72 := ⟨by decide +kernel, rfl⟩
theorem d_X11_rename_72 : DC mX11_rename 72 (.lmul) 1 73 := ⟨by decide +kernel, rfl⟩
theorem d_X11_rename_73 : DC mX11_rename 73 (.invokevirtual 183) 3 76 := ⟨by decide +kernel, rfl⟩
theorem d_X11_rename_76 : DC mX11_rename 76 (.istore 5) 2 78 := ⟨by decide +kernel, rfl⟩
theorem d_X11_rename_78 : DC mX11_rename 78 (.iinc 6 1) 3 81 := ⟨by decide +kernel, rfl⟩
theorem d_X11_rename_81 : DC mX11_rename 81 (.goto (-68)) 3 84 := ⟨by decide +kernel, rfl⟩
theorem d_X11_rename_84 : DC mX11_rename 84 (.iload 5) 2 86 := ⟨by decide +kernel, rfl⟩
theorem d_X11_rename_86 : DC mX11_rename 86 (.ireturn) 1 87 := ⟨by decide +kernel, rfl⟩
theorem d_X11_put_0 : DC mX11_put 0 (.aload_n 0) 1 1 := ⟨by decide +kernel, rfl⟩
theorem d_X11_put_1 : DC mX11_put 1 (.iconst 0) 1 2 := ⟨by decide +kernel, rfl⟩
theorem d_X11_put_2 : DC mX11_put 2 (.putfield 90) 3 5 := ⟨by decide +kernel, rfl⟩
theorem d_X11_put_5 : DC mX11_put 5 (.iload_n 1) 1 6 := ⟨by decide +kernel, rfl⟩
theorem d_X11_put_6 : DC mX11_put 6 (.invokestatic 143) 3 9 := ⟨by decide +kernel, rfl⟩
theorem d_X11_put_9 : DC mX11_put 9 (.ifCond .eq 25) 3 12 := ⟨by decide +kernel, rfl⟩
theorem d_X11_put_12 : DC mX11_put 12 (.iload_n 2) 1 13 := ⟨by decide +kernel, rfl⟩
theorem d_X11_put_13 : DC mX11_put 13 (.invokestatic 143) 3 16 := ⟨by decide +kernel, rfl⟩
theorem d_X11_put_16 : DC mX11_put 16 (.ifCond .eq 18) 3 19 := ⟨by decide +kernel, rfl⟩
theorem d_X11_put_19 : DC mX11_put 19 (.iload_n 3) 1 20 := ⟨by decide +kernel, rfl⟩
theorem d_X11_put_20 : DC mX11_put 20 (.invokestatic 205) 3 23 := ⟨by decide +kernel, rfl⟩
theorem d_X11_put_23 : DC mX11_put 23 (.ifCond .eq 11) 3 26 := ⟨by decide +kernel, rfl⟩
theorem d_X11_put_26 : DC mX11_put 26 (.iload 4) 2 28 := ⟨by decide +kernel, rfl⟩
theorem d_X11_put_28 : DC mX11_put 28 (.invokestatic 205) 3 31 := ⟨by decide +kernel, rfl⟩
theorem d_X11_put_31 : DC mX11_put 31 (.ifCond .ne 6) 3 34 := ⟨by decide +kernel, rfl⟩
theorem d_X11_put_34 : DC mX11_put 34 (.bipush (-2)) 2 36 := ⟨by decide +kernel, rfl⟩
theorem d_X11_put_36 : DC mX11_put 36 (.ireturn) 1 37 := ⟨by decide +kernel, rfl⟩
theorem d_X11_put_37 : DC mX11_put 37 (.aload_n 0) 1 38 := ⟨by decide +kernel, rfl⟩
theorem d_X11_put_38 : DC mX11_put 38 (.iload_n 1) 1 39 := ⟨by decide +kernel, rfl⟩
theorem d_X11_put_39 : DC mX11_put 39 (.aload_n 0) 1 40 := ⟨by decide +kernel, rfl⟩
theorem d_X11_put_40 : DC mX11_put 40 (.aload_n 0) 1 41 := ⟨by decide +kernel, rfl⟩
theorem d_X11_put_41 : DC mX11_put 41 (.getfield 10) 3 44 := ⟨by decide +kernel, rfl⟩
theorem d_X11_put_44 : DC mX11_put 44 (.getfield 146) 3 47 := ⟨by decide +kernel, rfl⟩
theorem d_X11_put_47 : DC mX11_put 47 (.iload_n 2) 1 48 := ⟨by decide +kernel, rfl⟩
theorem d_X11_put_48 : DC mX11_put 48 (.aaload) 1 49 := ⟨by decide +kernel, rfl⟩
theorem d_X11_put_49 : DC mX11_put 49 (.iload_n 3) 1 50 := ⟨by decide +kernel, rfl⟩
theorem d_X11_put_50 : DC mX11_put 50 (.iload 4) 2 52 := ⟨by decide +kernel, rfl⟩
theorem d_X11_put_52 : DC mX11_put 52 (.iconst 0) 1 53 := ⟨by decide +kernel, rfl⟩
theorem d_X11_put_53 : DC mX11_put 53 (.invokevirtual 208) 3 56 := ⟨by decide +kernel, rfl⟩
theorem d_X11_put_56 : DC mX11_put 56 (.invokevirtual 154) 3 59 := ⟨by decide +kernel, rfl⟩
theorem d_X11_put_59 : DC mX11_put 59 (.ireturn) 1 60 := ⟨by decide +kernel, rfl⟩
theorem d_X11_turn_0 : DC mX11_turn 0 (.aload_n 0) 1 1 := ⟨by decide +kernel, rfl⟩
theorem d_X11_turn_1 : DC mX11_turn 1 (.iconst 0) 1 2 := ⟨by decide +kernel, rfl⟩
theorem d_X11_turn_2 : DC mX11_turn 2 (.putfield 90) 3 5 := ⟨by decide +kernel, rfl⟩
theorem d_X11_turn_5 : DC mX11_turn 5 (.iload_n 1) 1 6 := ⟨by decide +kernel, rfl⟩
theorem d_X11_turn_6 : DC mX11_turn 6 (.invokestatic 143) 3 9 := ⟨by decide +kernel, rfl⟩
theorem d_X11_turn_9 : DC mX11_turn 9 (.ifCond .eq 25) 3 12 := ⟨by decide +kernel, rfl⟩
theorem d_X11_turn_12 : DC mX11_turn 12 (.iload_n 2) 1 13 := ⟨by decide +kernel, rfl⟩
theorem d_X11_turn_13 : DC mX11_turn 13 (.invokestatic 143) 3 16 := ⟨by decide +kernel, rfl⟩
theorem d_X11_turn_16 : DC mX11_turn 16 (.ifCond .eq 18) 3 19 := ⟨by decide +kernel, rfl⟩
theorem d_X11_turn_19 : DC mX11_turn 19 (.iload_n 3) 1 20 := ⟨by decide +kernel, rfl⟩
theorem d_X11_turn_20 : DC mX11_turn 20 (.invokestatic 205) 3 23 := ⟨by decide +kernel, rfl⟩
theorem d_X11_turn_23 : DC mX11_turn 23 (.ifCond .eq 11) 3 26 := ⟨by decide +kernel, rfl⟩
theorem d_X11_turn_26 : DC mX11_turn 26 (.iload 4) 2 28 := ⟨by decide +kernel, rfl⟩
theorem d_X11_turn_28 : DC mX11_turn 28 (.invokestatic 205) 3 31 := ⟨by decide +kernel, rfl⟩
theorem d_X11_turn_31 : DC mX11_turn 31 (.ifCond .ne 6) 3 34 := ⟨by decide +kernel, rfl⟩
theorem d_X11_turn_34 : DC mX11_turn 34 (.bipush (-2)) 2 36 := ⟨by decide +kernel, rfl⟩
theorem d_X11_turn_36 : DC mX11_turn 36 (.ireturn) 1 37 := ⟨by decide +kernel, rfl⟩
theorem d_X11_turn_37 : DC mX11_turn 37 (.aload_n 0) 1 38 := ⟨by decide +kernel, rfl⟩
theorem d_X11_turn_38 : DC mX11_turn 38 (.iload_n 1) 1 39 := ⟨by decide +kernel, rfl⟩
theorem d_X11_turn_39 : DC mX11_turn 39 (.aload_n 0) 1 40 := ⟨by decide +kernel, rfl⟩
theorem d_X11_turn_40 : DC mX11_turn 40 (.aload_n 0) 1 41 := ⟨by decide +kernel, rfl⟩
theorem d_X11_turn_41 : DC mX11_turn 41 (.getfield 10) 3 44 := ⟨by decide +kernel, rfl⟩
theorem d_X11_turn_44 : DC mX11_turn 44 (.getfield 146) 3 47 := ⟨by decide +kernel, rfl⟩
theorem d_X11_turn_47 : DC mX11_turn 47 (.iload_n 2) 1 48 := ⟨by decide +kernel, rfl⟩
theorem d_X11_turn_48 : DC mX11_turn 48 (.aaload) 1 49 := ⟨by decide +kernel, rfl⟩
theorem d_X11_turn_49 : DC mX11_turn 49 (.iload_n 3) 1 50 := ⟨by decide +kernel, rfl⟩
theorem d_X11_turn_50 : DC mX11_turn 50 (.iload 4) 2 52 := ⟨by decide +kernel, rfl⟩
theorem d_X11_turn_52 : DC mX11_turn 52 (.iconst 1) 1 53 := ⟨by decide +kernel, rfl⟩
theorem d_X11_turn_53 : DC mX11_turn 53 (.invokevirtual 208) 3 56 := ⟨by decide +kernel, rfl⟩
theorem d_X11_turn_56 : DC mX11_turn 56 (.invokevirtual 154) 3 59 := ⟨by decide +kernel, rfl⟩
theorem d_X11_turn_59 : DC mX11_turn 59 (.ireturn) 1 60 := ⟨by decide +kernel, rfl⟩
theorem d_X11_straight_0 : DC mX11_straight 0 (.aload_n 0) 1 1 := ⟨by decide +kernel, rfl⟩
theorem d_X11_straight_1 : DC mX11_straight 1 (.iconst 0) 1 2 := ⟨by decide +kernel, rfl⟩
theorem d_X11_straight_2 : DC mX11_straight 2 (.putfield 90) 3 5 := ⟨by decide +kernel, rfl⟩
theorem d_X11_straight_5 : DC mX11_straight 5 (.iload_n 1) 1 6 := ⟨by decide +kernel, rfl⟩
theorem d_X11_straight_6 : DC mX11_straight 6 (.invokestatic 143) 3 9 := ⟨by decide +kernel, rfl⟩
theorem d_X11_straight_9 : DC mX11_straight 9 (.ifCond .eq 10) 3 12 := ⟨by decide +kernel, rfl⟩
theorem d_X11_straight_12 : DC mX11_straight 12 (.iload_n 2) 1 13 := ⟨by decide +kernel, rfl⟩
theorem d_X11_straight_13 : DC mX11_straight 13 (.invokestatic 143) 3 16 := ⟨by decide +kernel, rfl⟩
theorem d_X11_straight_16 : DC mX11_straight 16 (.ifCond .ne 6) 3 19 := ⟨by decide +kernel, rfl⟩
theorem d_X11_straight_19 : DC mX11_straight 19 (.bipush (-2)) 2 21 := ⟨by decide +kernel, rfl⟩
theorem d_X11_straight_21 : DC mX11_straight 21 (.ireturn) 1 22 := ⟨by decide +kernel, rfl⟩
theorem d_X11_straight_22 : DC mX11_straight 22 (.aload_n 0) 1 23 := ⟨by decide +kernel, rfl⟩
theorem d_X11_straight_23 : DC mX11_straight 23 (.iload_n 1) 1 24 := ⟨by decide +kernel, rfl⟩
theorem d_X11_straight_24 : DC mX11_straight 24 (.aload_n 0) 1 25 := ⟨by decide +kernel, rfl⟩
theorem d_X11_straight_25 : DC mX11_straight 25 (.getfield 41) 3 28 := ⟨by decide +kernel, rfl⟩
theorem d_X11_straight_28 : DC mX11_straight 28 (.aload_n 0) 1 29 := ⟨by decide +kernel, rfl⟩
theorem d_X11_straight_29 : DC mX11_straight 29 (.getfield 10) 3 32 := ⟨by decide +kernel, rfl⟩
theorem d_X11_straight_32 : DC mX11_straight 32 (.getfield 146) 3 35 := ⟨by decide +kernel, rfl⟩
theorem d_X11_straight_35 : DC mX11_straight 35 (.iload_n 2) 1 36 := ⟨by decide +kernel, rfl⟩
theorem d_X11_straight_36 : DC mX11_straight 36 (.aaload) 1 37 := ⟨by decide +kernel, rfl⟩
theorem d_X11_straight_37 : DC mX11_straight 37 (.aload_n 0) 1 38 := ⟨by decide +kernel, rfl⟩
theorem d_X11_straight_38 : DC mX11_straight 38 (.getfield 83) 3 41 := ⟨by decide +kernel, rfl⟩
theorem d_X11_straight_41 : DC mX11_straight 41 (.invokevirtual 212) 3 44 := ⟨by decide +kernel, rfl⟩
theorem d_X11_straight_44 : DC mX11_straight 44 (.invokevirtual 154) 3 47 := ⟨by decide +kernel, rfl⟩
theorem d_X11_straight_47 : DC mX11_straight 47 (.ireturn) 1 48 := ⟨by decide +kernel, rfl⟩
theorem d_X11_reduce_0 : DC mX11_reduce 0 (.iload_n 1) 1 1 := ⟨by decide +kernel, rfl⟩
theorem d_X11_reduce_1 : DC mX11_reduce 1 (.invokestatic 143) 3 4 := ⟨by decide +kernel, rfl⟩
theorem d_X11_reduce_4 : DC mX11_reduce 4 (.ifCond .eq 10) 3 7 := ⟨by decide +kernel, rfl⟩
theorem d_X11_reduce_7 : DC mX11_reduce 7 (.iload_n 2) 1 8 := ⟨by decide +kernel, rfl⟩
theorem d_X11_reduce_8 : DC mX11_reduce 8 (.invokestatic 143) 3 11 := ⟨by decide +kernel, rfl⟩
theorem d_X11_reduce_11 : DC mX11_reduce 11 (.ifCond .ne 6) 3 14 := ⟨by decide +kernel, rfl⟩
theorem d_X11_reduce_14 : DC mX11_reduce 14 (.bipush (-2)) 2 16 := ⟨by decide +kernel, rfl⟩
theorem d_X11_reduce_16 : DC mX11_reduce 16 (.ireturn) 1 17 := ⟨by decide +kernel, rfl⟩
theorem d_X11_reduce_17 : DC mX11_reduce 17 (.aload_n 0) 1 18 := ⟨by decide +kernel, rfl⟩
theorem d_X11_reduce_18 : DC mX11_reduce 18 (.getfield 10) 3 21 := ⟨by decide +kernel, rfl⟩
theorem d_X11_reduce_21 : DC mX11_reduce 21 (.aload_n 0) 1 22 := ⟨by decide +kernel, rfl⟩
theorem d_X11_reduce_22 : DC mX11_reduce 22 (.getfield 83) 3 25 := ⟨by decide +kernel, rfl⟩
theorem d_X11_reduce_25 : DC mX11_reduce 25 (.aload_n 0) 1 26 := ⟨by decide +kernel, rfl⟩
theorem d_X11_reduce_26 : DC mX11_reduce 26 (.getfield 10) 3 29 := ⟨by decide +kernel, rfl⟩
theorem d_X11_reduce_29 : DC mX11_reduce 29 (.getfield 146) 3 32 := ⟨by decide +kernel, rfl⟩
theorem d_X11_reduce_32 : DC mX11_reduce 32 (.iload_n 2) 1 33 := ⟨by decide +kernel, rfl⟩
theorem d_X11_reduce_33 : DC mX11_reduce 33 (.aaload) 1 34 := ⟨by decide +kernel, rfl⟩
theorem d_X11_reduce_34 : DC mX11_reduce 34 (.invokevirtual 215) 3 37 := ⟨by decide +kernel, rfl⟩
theorem d_X11_reduce_37 : DC mX11_reduce 37 (.aload_n 0) 1 38 := ⟨by decide +kernel, rfl⟩
theorem d_X11_reduce_38 : DC mX11_reduce 38 (.iload_n 1) 1 39 := ⟨by decide +kernel, rfl⟩
theorem d_X11_reduce_39 : DC mX11_reduce 39 (.iconst 0) 1 40 := ⟨by decide +kernel, rfl⟩
theorem d_X11_reduce_40 : DC mX11_reduce 40 (.invokevirtual 154) 3 43 := ⟨by decide +kernel, rfl⟩
theorem d_X11_reduce_43 : DC mX11_reduce 43 (.ireturn) 1 44 := ⟨by decide +kernel, rfl⟩
theorem d_X11_fact_0 : DC mX11_fact 0 (.iload_n 1) 1 1 := ⟨by decide +kernel, rfl⟩
theorem d_X11_fact_1 : DC mX11_fact 1 (.iload_n 2) 1 2 := ⟨by decide +kernel, rfl⟩
theorem d_X11_fact_2 : DC mX11_fact 2 (.iload_n 3) 1 3 := ⟨by decide +kernel, rfl⟩
theorem d_X11_fact_3 : DC mX11_fact 3 (.invokestatic 160) 3 6 := ⟨by decide +kernel, rfl⟩
theorem d_X11_fact_6 : DC mX11_fact 6 (.ifCond .ne 6) 3 9 := ⟨by decide +kernel, rfl⟩
theorem d_X11_fact_9 : DC mX11_fact 9 (.bipush (-2)) 2 11 := ⟨by decide +kernel, rfl⟩
theorem d_X11_fact_11 : DC mX11_fact 11 (.ireturn) 1 12 := ⟨by decide +kernel, rfl⟩
theorem d_X11_fact_12 : DC mX11_fact 12 (.iload_n 1) 1 13 := ⟨by decide +kernel, rfl⟩
theorem d_X11_fact_13 : DC mX11_fact 13 (.iload_n 2) 1 14 := ⟨by decide +kernel, rfl⟩
theorem d_X11_fact_14 : DC mX11_fact 14 (.iload_n 3) 1 15 := ⟨by decide +kernel, rfl⟩
theorem d_X11_fact_15 : DC mX11_fact 15 (.invokestatic 167) 3 18 := ⟨by decide +kernel, rfl⟩
theorem d_X11_fact_18 : DC mX11_fact 18 (.invokestatic 219) 3 21 := ⟨by decide +kernel, rfl⟩
theorem d_X11_fact_21 : DC mX11_fact 21 (.invokestatic 222) 3 24 := ⟨by decide +kernel, rfl⟩
theorem d_X11_fact_24 : DC mX11_fact 24 (.istore 5) 2 26 := ⟨by decide +kernel, rfl⟩
theorem d_X11_fact_26 : DC mX11_fact 26 (.iload 4) 2 28 := ⟨by decide +kernel, rfl⟩
theorem d_X11_fact_28 : DC mX11_fact 28 (.ifCond .lt 14) 3 31 := ⟨by decide +kernel, rfl⟩
theorem d_X11_fact_31 : DC mX11_fact 31 (.iload 4) 2 33 := ⟨by decide +kernel, rfl⟩
theorem d_X11_fact_33 : DC mX11_fact 33 (.iconst 2) 1 34 := ⟨by decide +kernel, rfl⟩
theorem d_X11_fact_34 : DC mX11_fact 34 (.if_icmp .gt 8) 3 37 := ⟨by decide +kernel, rfl⟩
theorem d_X11_fact_37 : DC mX11_fact 37 (.iload 5) 2 39 := ⟨by decide +kernel, rfl⟩
theorem d_X11_fact_39 : DC mX11_fact 39 (.ifCond .ne 6) 3 42 := ⟨by decide +kernel, rfl⟩
theorem d_X11_fact_42 : DC mX11_fact 42 (.bipush (-3)) 2 44 := ⟨by decide +kernel, rfl⟩
theorem d_X11_fact_44 : DC mX11_fact 44 (.ireturn) 1 45 := ⟨by decide +kernel, rfl⟩
theorem d_X11_fact_45 : DC mX11_fact 45 (.aload_n 0) 1 46 := ⟨by decide +kernel, rfl⟩
theorem d_X11_fact_46 : DC mX11_fact 46 (.getfield 10) 3 49 := ⟨by decide +kernel, rfl⟩
theorem d_X11_fact_49 : DC mX11_fact 49 (.iload 5) 2 51 := ⟨by decide +kernel, rfl⟩
theorem d_X11_fact_51 : DC mX11_fact 51 (.invokevirtual 227) 3 54 := ⟨by decide +kernel, rfl⟩
theorem d_X11_fact_54 : DC mX11_fact 54 (.istore 6) 2 56 := ⟨by decide +kernel, rfl⟩
theorem d_X11_fact_56 : DC mX11_fact 56 (.aload_n 0) 1 57 := ⟨by decide +kernel, rfl⟩
theorem d_X11_fact_57 : DC mX11_fact 57 (.getfield 19) 3 60 := ⟨by decide +kernel, rfl⟩
theorem d_X11_fact_60 : DC mX11_fact 60 (.aload_n 0) 1 61 := ⟨by decide +kernel, rfl⟩
theorem d_X11_fact_61 : DC mX11_fact 61 (.getfield 10) 3 64 := ⟨by decide +kernel, rfl⟩
theorem d_X11_fact_64 : DC mX11_fact 64 (.invokevirtual 230) 3 67 := ⟨by decide +kernel, rfl⟩
theorem d_X11_fact_67 : DC mX11_fact 67 (.aload_n 0) 1 68 := ⟨by decide +kernel, rfl⟩
theorem d_X11_fact_68 : DC mX11_fact 68 (.getfield 10) 3 71 := ⟨by decide +kernel, rfl⟩
theorem d_X11_fact_71 : DC mX11_fact 71 (.iload 5) 2 73 := ⟨by decide +kernel, rfl⟩
theorem d_X11_fact_73 : DC mX11_fact 73 (.iload 4) 2 75 := ⟨by decide +kernel, rfl⟩
theorem d_X11_fact_75 : DC mX11_fact 75 (.invokevirtual 233) 3 78 := ⟨by decide +kernel, rfl⟩
theorem d_X11_fact_78 : DC mX11_fact 78 (.iload 6) 2 80 := ⟨by decide +kernel, rfl⟩
theorem d_X11_fact_80 : DC mX11_fact 80 (.ireturn) 1 81 := ⟨by decide +kernel, rfl⟩
theorem d_X11_place_0 : DC mX11_place 0 (.iload_n 1) 1 1 := ⟨by decide +kernel, rfl⟩
theorem d_X11_place_1 : DC mX11_place 1 (.invokestatic 205) 3 4 := ⟨by decide +kernel, rfl⟩
theorem d_X11_place_4 : DC mX11_place 4 (.ifCond .ne 6) 3 7 := ⟨by decide +kernel, rfl⟩
theorem d_X11_place_7 : DC mX11_place 7 (.bipush (-2)) 2 9 := ⟨by decide +kernel, rfl⟩
theorem d_X11_place_9 : DC mX11_place 9 (.ireturn) 1 10 := ⟨by decide +kernel, rfl⟩
theorem d_X11_place_10 : DC mX11_place 10 (.iload_n 2) 1 11 := ⟨by decide +kernel, rfl⟩
theorem d_X11_place_11 : DC mX11_place 11 (.invokestatic 194) 3 14 := ⟨by decide +kernel, rfl⟩
theorem d_X11_place_14 : DC mX11_place 14 (.ifCond .eq 18) 3 17 := ⟨by decide +kernel, rfl⟩
theorem d_X11_place_17 : DC mX11_place 17 (.iload_n 3) 1 18 := ⟨by decide +kernel, rfl⟩
theorem d_X11_place_18 : DC mX11_place 18 (.invokestatic 194) 3 21 := ⟨by decide +kernel, rfl⟩
theorem d_X11_place_21 : DC mX11_place 21 (.ifCond .eq 11) 3 24 := ⟨by decide +kernel, rfl⟩
theorem d_X11_place_24 : DC mX11_place 24 (.iload 4) 2 26 := ⟨by decide +kernel, rfl⟩
theorem d_X11_place_26 : DC mX11_place 26 (.invokestatic 194) 3 29 := ⟨by decide +kernel, rfl⟩
theorem d_X11_place_29 : DC mX11_place 29 (.ifCond .ne 6) 3 32 := ⟨by decide +kernel, rfl⟩
theorem d_X11_place_32 : DC mX11_place 32 (.bipush (-3)) 2 34 := ⟨by decide +kernel, rfl⟩
theorem d_X11_place_34 : DC mX11_place 34 (.ireturn) 1 35 := ⟨by decide +kernel, rfl⟩
theorem d_X11_place_35 : DC mX11_place 35 (.aload_n 0) 1 36 := ⟨by decide +kernel, rfl⟩
theorem d_X11_place_36 : DC mX11_place 36 (.getfield 19) 3 39 := ⟨by decide +kernel, rfl⟩
theorem d_X11_place_39 : DC mX11_place 39 (.aload_n 0) 1 40 := ⟨by decide +kernel, rfl⟩
theorem d_X11_place_40 : DC mX11_place 40 (.getfield 10) 3 43 := ⟨by decide +kernel, rfl⟩
theorem d_X11_place_43 : DC mX11_place 43 (.invokevirtual 230) 3 46 := ⟨by decide +kernel, rfl⟩
theorem d_X11_place_46 : DC mX11_place 46 (.aload_n 0) 1 47 := ⟨by decide +kernel, rfl⟩
theorem d_X11_place_47 : DC mX11_place 47 (.getfield 10) 3 50 := ⟨by decide +kernel, rfl⟩
theorem d_X11_place_50 : DC mX11_place 50 (.getfield 237) 3 53 := ⟨by decide +kernel, rfl⟩
theorem d_X11_place_53 : DC mX11_place 53 (.iconst 3) 1 54 := ⟨by decide +kernel, rfl⟩
theorem d_X11_place_54 : DC mX11_place 54 (.iload_n 1) 1 55 := ⟨by decide +kernel, rfl⟩
theorem d_X11_place_55 : DC mX11_place 55 (.imul) 1 56 := ⟨by decide +kernel, rfl⟩
theorem d_X11_place_56 : DC mX11_place 56 (.iload_n 2) 1 57 := ⟨by decide +kernel, rfl⟩
theorem d_X11_place_57 : DC mX11_place 57 (.iastore) 1 58 := ⟨by decide +kernel, rfl⟩
theorem d_X11_place_58 : DC mX11_place 58 (.aload_n 0) 1 59 := ⟨by decide +kernel, rfl⟩
theorem d_X11_place_59 : DC mX11_place 59 (.getfield 10) 3 62 := ⟨by decide +kernel, rfl⟩
theorem d_X11_place_62 : DC mX11_place 62 (.getfield 237) 3 65 := ⟨by decide +kernel, rfl⟩
theorem d_X11_place_65 : DC mX11_place 65 (.iconst 3) 1 66 := ⟨by decide +kernel, rfl⟩
theorem d_X11_place_66 : DC mX11_place 66 (.iload_n 1) 1 67 := ⟨by decide +kernel, rfl⟩
theorem d_X11_place_67 : DC mX11_place 67 (.imul) 1 68 := ⟨by decide +kernel, rfl⟩
theorem d_X11_place_68 : DC mX11_place 68 (.iconst 1) 1 69 := ⟨by decide +kernel, rfl⟩
theorem d_X11_place_69 : DC mX11_place 69 (.iadd) 1 70 := ⟨by decide +kernel, rfl⟩
theorem d_X11_place_70 : DC mX11_place 70 (.iload_n 3) 1 71 := ⟨by decide +kernel, rfl⟩
theorem d_X11_place_71 : DC mX11_place 71 (.iastore) 1 72 := ⟨by decide +kernel, rfl⟩
theorem d_X11_place_72 : DC mX11_place 72 (.aload_n 0) 1 73 := ⟨by decide +kernel, rfl⟩
theorem d_X11_place_73 : DC mX11_place 73 (.getfield 10) 3 76 := ⟨by decide +kernel, rfl⟩
theorem d_X11_place_76 : DC mX11_place 76 (.getfield 237) 3 79 := ⟨by decide +kernel, rfl⟩
theorem d_X11_place_79 : DC mX11_place 79 (.iconst 3) 1 80 := ⟨by decide +kernel, rfl⟩
theorem d_X11_place_80 : DC mX11_place 80 (.iload_n 1) 1 81 := ⟨by decide +kernel, rfl⟩
theorem d_X11_place_81 : DC mX11_place 81 (.imul) 1 82 := ⟨by decide +kernel, rfl⟩
theorem d_X11_place_82 : DC mX11_place 82 (.iconst 2) 1 83 := ⟨by decide +kernel, rfl⟩
theorem d_X11_place_83 : DC mX11_place 83 (.iadd) 1 84 := ⟨by decide +kernel, rfl⟩
theorem d_X11_place_84 : DC mX11_place 84 (.iload 4) 2 86 := ⟨by decide +kernel, rfl⟩
theorem d_X11_place_86 : DC mX11_place 86 (.iastore) 1 87 := ⟨by decide +kernel, rfl⟩
theorem d_X11_place_87 : DC mX11_place 87 (.iconst 0) 1 88 := ⟨by decide +kernel, rfl⟩
theorem d_X11_place_88 : DC mX11_place 88 (.ireturn) 1 89 := ⟨by decide +kernel, rfl⟩
theorem d_X11_terms_0 : DC mX11_terms 0 (.iload_n 1) 1 1 := ⟨by decide +kernel, rfl⟩
theorem d_X11_terms_1 : DC mX11_terms 1 (.invokestatic 143) 3 4 := ⟨by decide +kernel, rfl⟩
theorem d_X11_terms_4 : DC mX11_terms 4 (.ifCond .eq 18) 3 7 := ⟨by decide +kernel, rfl⟩
theorem d_X11_terms_7 : DC mX11_terms 7 (.aload_n 0) 1 8 := ⟨by decide +kernel, rfl⟩
theorem d_X11_terms_8 : DC mX11_terms 8 (.getfield 10) 3 11 := ⟨by decide +kernel, rfl⟩
theorem d_X11_terms_11 : DC mX11_terms 11 (.getfield 146) 3 14 := ⟨by decide +kernel, rfl⟩
theorem d_X11_terms_14 : DC mX11_terms 14 (.iload_n 1) 1 15 := ⟨by decide +kernel, rfl⟩
theorem d_X11_terms_15 : DC mX11_terms 15 (.aaload) 1 16 := ⟨by decide +kernel, rfl⟩
theorem d_X11_terms_16 : DC mX11_terms 16 (.getfield 150) 3 19 := ⟨by decide +kernel, rfl⟩
theorem d_X11_terms_19 : DC mX11_terms 19 (.goto 5) 3 22 := ⟨by decide +kernel, rfl⟩
theorem d_X11_terms_22 : DC mX11_terms 22 (.bipush (-2)) 2 24 := ⟨by decide +kernel, rfl⟩
theorem d_X11_terms_24 : DC mX11_terms 24 (.ireturn) 1 25 := ⟨by decide +kernel, rfl⟩
theorem d_X11_term_0 : DC mX11_term 0 (.iload_n 1) 1 1 := ⟨by decide +kernel, rfl⟩
theorem d_X11_term_1 : DC mX11_term 1 (.invokestatic 143) 3 4 := ⟨by decide +kernel, rfl⟩
theorem d_X11_term_4 : DC mX11_term 4 (.ifCond .eq 23) 3 7 := ⟨by decide +kernel, rfl⟩
theorem d_X11_term_7 : DC mX11_term 7 (.iload_n 2) 1 8 := ⟨by decide +kernel, rfl⟩
theorem d_X11_term_8 : DC mX11_term 8 (.ifCond .lt 19) 3 11 := ⟨by decide +kernel, rfl⟩
theorem d_X11_term_11 : DC mX11_term 11 (.iload_n 2) 1 12 := ⟨by decide +kernel, rfl⟩
theorem d_X11_term_12 : DC mX11_term 12 (.aload_n 0) 1 13 := ⟨by decide +kernel, rfl⟩
theorem d_X11_term_13 : DC mX11_term 13 (.getfield 10) 3 16 := ⟨by decide +kernel, rfl⟩
theorem d_X11_term_16 : DC mX11_term 16 (.getfield 146) 3 19 := ⟨by decide +kernel, rfl⟩
theorem d_X11_term_19 : DC mX11_term 19 (.iload_n 1) 1 20 := ⟨by decide +kernel, rfl⟩
theorem d_X11_term_20 : DC mX11_term 20 (.aaload) 1 21 := ⟨by decide +kernel, rfl⟩
theorem d_X11_term_21 : DC mX11_term 21 (.getfield 150) 3 24 := ⟨by decide +kernel, rfl⟩
theorem d_X11_term_24 : DC mX11_term 24 (.if_icmp .lt 6) 3 27 := ⟨by decide +kernel, rfl⟩
theorem d_X11_term_27 : DC mX11_term 27 (.ldc 240) 2 29 := ⟨by decide +kernel, rfl⟩
theorem d_X11_term_29 : DC mX11_term 29 (.ireturn) 1 30 := ⟨by decide +kernel, rfl⟩
theorem d_X11_term_30 : DC mX11_term 30 (.aload_n 0) 1 31 := ⟨by decide +kernel, rfl⟩
theorem d_X11_term_31 : DC mX11_term 31 (.getfield 10) 3 34 := ⟨by decide +kernel, rfl⟩
theorem d_X11_term_34 : DC mX11_term 34 (.getfield 146) 3 37 := ⟨by decide +kernel, rfl⟩
theorem d_X11_term_37 : DC mX11_term 37 (.iload_n 1) 1 38 := ⟨by decide +kernel, rfl⟩
theorem d_X11_term_38 : DC mX11_term 38 (.aaload) 1 39 := ⟨by decide +kernel, rfl⟩
theorem d_X11_term_39 : DC mX11_term 39 (.astore 4) 2 41 := ⟨by decide +kernel, rfl⟩
theorem d_X11_term_41 : DC mX11_term 41 (.aload 4) 2 43 := ⟨by decide +kernel, rfl⟩
theorem d_X11_term_43 : DC mX11_term 43 (.getfield 241) 3 46 := ⟨by decide +kernel, rfl⟩
theorem d_X11_term_46 : DC mX11_term 46 (.iload_n 2) 1 47 := ⟨by decide +kernel, rfl⟩
theorem d_X11_term_47 : DC mX11_term 47 (.laload) 1 48 := ⟨by decide +kernel, rfl⟩
theorem d_X11_term_48 : DC mX11_term 48 (.lstore 5) 2 50 := ⟨by decide +kernel, rfl⟩
theorem d_X11_term_50 : DC mX11_term 50 (.lload 5) 2 52 := ⟨by decide +kernel, rfl⟩
theorem d_X11_term_52 : DC mX11_term 52 (.invokestatic 245) 3 55 := ⟨by decide +kernel, rfl⟩
theorem d_X11_term_55 : DC mX11_term 55 (.istore 7) 2 57 := ⟨by decide +kernel, rfl⟩
theorem d_X11_term_57 : DC mX11_term 57 (.iload_n 3) 1 58 := ⟨by decide +kernel, rfl⟩
theorem d_X11_term_58 : DC mX11_term 58 (.tableswitch 89 0 4 #[34, 42, 48, 59, 74]) 34 92 := ⟨by decide +kernel, rfl⟩
theorem d_X11_term_92 : DC mX11_term 92 (.aload 4) 2 94 := ⟨by decide +kernel, rfl⟩
theorem d_X11_term_94 : DC mX11_term 94 (.getfield 249) 3 97 := ⟨by decide +kernel, rfl⟩
theorem d_X11_term_97 : DC mX11_term 97 (.iload_n 2) 1 98 := ⟨by decide +kernel, rfl⟩
theorem d_X11_term_98 : DC mX11_term 98 (.iaload) 1 99 := ⟨by decide +kernel, rfl⟩
theorem d_X11_term_99 : DC mX11_term 99 (.ireturn) 1 100 := ⟨by decide +kernel, rfl⟩
theorem d_X11_term_100 : DC mX11_term 100 (.lload 5) 2 102 := ⟨by decide +kernel, rfl⟩
theorem d_X11_term_102 : DC mX11_term 102 (.invokestatic 252) 3 105 := ⟨by decide +kernel, rfl⟩
theorem d_X11_term_105 : DC mX11_term 105 (.ireturn) 1 106 := ⟨by decide +kernel, rfl⟩
theorem d_X11_term_106 : DC mX11_term 106 (.iload 7) 2 108 := ⟨by decide +kernel, rfl⟩
theorem d_X11_term_108 : DC mX11_term 108 (.ifCond .ne 7) 3 111 := ⟨by decide +kernel, rfl⟩
theorem d_X11_term_111 : DC mX11_term 111 (.iconst 1) 1 112 := ⟨by decide +kernel, rfl⟩
theorem d_X11_term_112 : DC mX11_term 112 (.goto 4) 3 115 := ⟨by decide +kernel, rfl⟩
theorem d_X11_term_115 : DC mX11_term 115 (.iconst 0) 1 116 := ⟨by decide +kernel, rfl⟩
theorem d_X11_term_116 : DC mX11_term 116 (.ireturn) 1 117 := ⟨by decide +kernel, rfl⟩
theorem d_X11_term_117 : DC mX11_term 117 (.iload 7) 2 119 := ⟨by decide +kernel, rfl⟩
theorem d_X11_term_119 : DC mX11_term 119 (.ifCond .ne 7) 3 122 := ⟨by decide +kernel, rfl⟩
theorem d_X11_term_122 : DC mX11_term 122 (.iconst (-1)) 1 123 := ⟨by decide +kernel, rfl⟩
theorem d_X11_term_123 : DC mX11_term 123 (.goto 8) 3 126 := ⟨by decide +kernel, rfl⟩
theorem d_X11_term_126 : DC mX11_term 126 (.iload 7) 2 128 := ⟨by decide +kernel, rfl⟩
theorem d_X11_term_128 : DC mX11_term 128 (.invokestatic 255) 3 131 := ⟨by decide +kernel, rfl⟩
theorem d_X11_term_131 : DC mX11_term 131 (.ireturn) 1 132 := ⟨by decide +kernel, rfl⟩
theorem d_X11_term_132 : DC mX11_term 132 (.iload 7) 2 134 := ⟨by decide +kernel, rfl⟩
theorem d_X11_term_134 : DC mX11_term 134 (.ifCond .ne 7) 3 137 := ⟨by decide +kernel, rfl⟩
theorem d_X11_term_137 : DC mX11_term 137 (.iconst (-1)) 1 138 := ⟨by decide +kernel, rfl⟩
theorem d_X11_term_138 : DC mX11_term 138 (.goto 8) 3 141 := ⟨by decide +kernel, rfl⟩
theorem d_X11_term_141 : DC mX11_term 141 (.iload 7) 2 143 := ⟨by decide +kernel, rfl⟩
theorem d_X11_term_143 : DC mX11_term 143 (.invokestatic 258) 3 146 := ⟨by decide +kernel, rfl⟩
theorem d_X11_term_146 : DC mX11_term 146 (.ireturn) 1 147 := ⟨by decide +kernel, rfl⟩
theorem d_X11_term_147 : DC mX11_term 147 (.iload_n 3) 1 148 := ⟨by decide +kernel, rfl⟩
theorem d_X11_term_148 : DC mX11_term 148 (.bipush 10) 2 150 := ⟨by decide +kernel, rfl⟩
theorem d_X11_term_150 : DC mX11_term 150 (.if_icmp .lt 9) 3 153 := ⟨by decide +kernel, rfl⟩
theorem d_X11_term_153 : DC mX11_term 153 (.iload_n 3) 1 154 := ⟨by decide +kernel, rfl⟩
theorem d_X11_term_154 : DC mX11_term 154 (.bipush 21) 2 156 := ⟨by decide +kernel, rfl⟩
theorem d_X11_term_156 : DC mX11_term 156 (.if_icmp .le 8) 3 159 := ⟨by decide +kernel, rfl⟩
theorem d_X11_term_159 : DC mX11_term 159 (.ldc 240) 2 161 := ⟨by decide +kernel, rfl⟩
theorem d_X11_term_161 : DC mX11_term 161 (.goto 12) 3 164 := ⟨by decide +kernel, rfl⟩
theorem d_X11_term_164 : DC mX11_term 164 (.lload 5) 2 166 := ⟨by decide +kernel, rfl⟩
theorem d_X11_term_166 : DC mX11_term 166 (.iload_n 3) 1 167 := ⟨by decide +kernel, rfl⟩
theorem d_X11_term_167 : DC mX11_term 167 (.bipush 10) 2 169 := ⟨by decide +kernel, rfl⟩
theorem d_X11_term_169 : DC mX11_term 169 (.isub) 1 170 := ⟨by decide +kernel, rfl⟩
theorem d_X11_term_170 : DC mX11_term 170 (.invokestatic 261) 3 173 := ⟨by decide +kernel, rfl⟩
theorem d_X11_term_173 : DC mX11_term 173 (.ireturn) 1 174 := ⟨by decide +kernel, rfl⟩
theorem d_X11_degree_0 : DC mX11_degree 0 (.iload_n 1) 1 1 := ⟨by decide +kernel, rfl⟩
theorem d_X11_degree_1 : DC mX11_degree 1 (.invokestatic 143) 3 4 := ⟨by decide +kernel, rfl⟩
theorem d_X11_degree_4 : DC mX11_degree 4 (.ifCond .eq 10) 3 7 := ⟨by decide +kernel, rfl⟩
theorem d_X11_degree_7 : DC mX11_degree 7 (.iload_n 2) 1 8 := ⟨by decide +kernel, rfl⟩
theorem d_X11_degree_8 : DC mX11_degree 8 (.invokestatic 205) 3 11 := ⟨by decide +kernel, rfl⟩
theorem d_X11_degree_11 : DC mX11_degree 11 (.ifCond .ne 6) 3 14 := ⟨by decide +kernel, rfl⟩
theorem d_X11_degree_14 : DC mX11_degree 14 (.bipush (-2)) 2 16 := ⟨by decide +kernel, rfl⟩
theorem d_X11_degree_16 : DC mX11_degree 16 (.ireturn) 1 17 := ⟨by decide +kernel, rfl⟩
theorem d_X11_degree_17 : DC mX11_degree 17 (.aload_n 0) 1 18 := ⟨by decide +kernel, rfl⟩
theorem d_X11_degree_18 : DC mX11_degree 18 (.getfield 10) 3 21 := ⟨by decide +kernel, rfl⟩
theorem d_X11_degree_21 : DC mX11_degree 21 (.getfield 146) 3 24 := ⟨by decide +kernel, rfl⟩
theorem d_X11_degree_24 : DC mX11_degree 24 (.iload_n 1) 1 25 := ⟨by decide +kernel, rfl⟩
theorem d_X11_degree_25 : DC mX11_degree 25 (.aaload) 1 26 := ⟨by decide +kernel, rfl⟩
theorem d_X11_degree_26 : DC mX11_degree 26 (.astore_n 3) 1 27 := ⟨by decide +kernel, rfl⟩
theorem d_X11_degree_27 : DC mX11_degree 27 (.aload_n 3) 1 28 := ⟨by decide +kernel, rfl⟩
theorem d_X11_degree_28 : DC mX11_degree 28 (.getfield 150) 3 31 := ⟨by decide +kernel, rfl⟩
theorem d_X11_degree_31 : DC mX11_degree 31 (.ifCond .ne 5) 3 34 := ⟨by decide +kernel, rfl⟩
theorem d_X11_degree_34 : DC mX11_degree 34 (.iconst (-1)) 1 35 := ⟨by decide +kernel, rfl⟩
theorem d_X11_degree_35 : DC mX11_degree 35 (.ireturn) 1 36 := ⟨by decide +kernel, rfl⟩
theorem d_X11_degree_36 : DC mX11_degree 36 (.aload_n 3) 1 37 := ⟨by decide +kernel, rfl⟩
theorem d_X11_degree_37 : DC mX11_degree 37 (.getfield 241) 3 40 := ⟨by decide +kernel, rfl⟩
theorem d_X11_degree_40 : DC mX11_degree 40 (.iconst 0) 1 41 := ⟨by decide +kernel, rfl⟩
theorem d_X11_degree_41 : DC mX11_degree 41 (.laload) 1 42 := ⟨by decide +kernel, rfl⟩
theorem d_X11_degree_42 : DC mX11_degree 42 (.iload_n 2) 1 43 := ⟨by decide +kernel, rfl⟩
theorem d_X11_degree_43 : DC mX11_degree 43 (.invokestatic 265) 3 46 := ⟨by decide +kernel, rfl⟩
theorem d_X11_degree_46 : DC mX11_degree 46 (.istore 4) 2 48 := ⟨by decide +kernel, rfl⟩
theorem d_X11_degree_48 : DC mX11_degree 48 (.iconst 1) 1 49 := ⟨by decide +kernel, rfl⟩
theorem d_X11_degree_49 : DC mX11_degree 49 (.istore 5) 2 51 := ⟨by decide +kernel, rfl⟩
theorem d_X11_degree_51 : DC mX11_degree 51 (.iload 5) 2 53 := ⟨by decide +kernel, rfl⟩
theorem d_X11_degree_53 : DC mX11_degree 53 (.aload_n 3) 1 54 := ⟨by decide +kernel, rfl⟩
theorem d_X11_degree_54 : DC mX11_degree 54 (.getfield 150) 3 57 := ⟨by decide +kernel, rfl⟩
theorem d_X11_degree_57 : DC mX11_degree 57 (.if_icmp .ge 27) 3 60 := ⟨by decide +kernel, rfl⟩
theorem d_X11_degree_60 : DC mX11_degree 60 (.aload_n 3) 1 61 := ⟨by decide +kernel, rfl⟩
theorem d_X11_degree_61 : DC mX11_degree 61 (.getfield 241) 3 64 := ⟨by decide +kernel, rfl⟩
theorem d_X11_degree_64 : DC mX11_degree 64 (.iload 5) 2 66 := ⟨by decide +kernel, rfl⟩
theorem d_X11_degree_66 : DC mX11_degree 66 (.laload) 1 67 := ⟨by decide +kernel, rfl⟩
theorem d_X11_degree_67 : DC mX11_degree 67 (.iload_n 2) 1 68 := ⟨by decide +kernel, rfl⟩
theorem d_X11_degree_68 : DC mX11_degree 68 (.invokestatic 265) 3 71 := ⟨by decide +kernel, rfl⟩
theorem d_X11_degree_71 : DC mX11_degree 71 (.iload 4) 2 73 := ⟨by decide +kernel, rfl⟩
theorem d_X11_degree_73 : DC mX11_degree 73 (.if_icmp .eq 5) 3 76 := ⟨by decide +kernel, rfl⟩
theorem d_X11_degree_76 : DC mX11_degree 76 (.iconst (-1)) 1 77 := ⟨by decide +kernel, rfl⟩
theorem d_X11_degree_77 : DC mX11_degree 77 (.ireturn) 1 78 := ⟨by decide +kernel, rfl⟩
theorem d_X11_degree_78 : DC mX11_degree 78 (.iinc 5 1) 3 81 := ⟨by decide +kernel, rfl⟩
theorem d_X11_degree_81 : DC mX11_degree 81 (.goto (-30)) 3 84 := ⟨by decide +kernel, rfl⟩
theorem d_X11_degree_84 : DC mX11_degree 84 (.iload 4) 2 86 := ⟨by decide +kernel, rfl⟩
theorem d_X11_degree_86 : DC mX11_degree 86 (.ireturn) 1 87 := ⟨by decide +kernel, rfl⟩
theorem d_X11_steps_0 : DC mX11_steps 0 (.aload_n 0) 1 1 := ⟨by decide +kernel, rfl⟩
theorem d_X11_steps_1 : DC mX11_steps 1 (.iconst 0) 1 2 := ⟨by decide +kernel, rfl⟩
theorem d_X11_steps_2 : DC mX11_steps 2 (.putfield 90) 3 5 := ⟨by decide +kernel, rfl⟩
theorem d_X11_steps_5 : DC mX11_steps 5 (.iload_n 1) 1 6 := ⟨by decide +kernel, rfl⟩
theorem d_X11_steps_6 : DC mX11_steps 6 (.invokestatic 143) 3 9 := ⟨by decide +kernel, rfl⟩
theorem d_X11_steps_9 : DC mX11_steps 9 (.ifCond .ne 6) 3 12 := ⟨by decide +kernel, rfl⟩
theorem d_X11_steps_12 : DC mX11_steps 12 (.bipush (-2)) 2 14 := ⟨by decide +kernel, rfl⟩
theorem d_X11_steps_14 : DC mX11_steps 14 (.ireturn) 1 15 := ⟨by decide +kernel, rfl⟩
theorem d_X11_steps_15 : DC mX11_steps 15 (.aload_n 0) 1 16 := ⟨by decide +kernel, rfl⟩
theorem d_X11_steps_16 : DC mX11_steps 16 (.getfield 41) 3 19 := ⟨by decide +kernel, rfl⟩
theorem d_X11_steps_19 : DC mX11_steps 19 (.aload_n 0) 1 20 := ⟨by decide +kernel, rfl⟩
theorem d_X11_steps_20 : DC mX11_steps 20 (.getfield 10) 3 23 := ⟨by decide +kernel, rfl⟩
theorem d_X11_steps_23 : DC mX11_steps 23 (.getfield 146) 3 26 := ⟨by decide +kernel, rfl⟩
theorem d_X11_steps_26 : DC mX11_steps 26 (.iload_n 1) 1 27 := ⟨by decide +kernel, rfl⟩
theorem d_X11_steps_27 : DC mX11_steps 27 (.aaload) 1 28 := ⟨by decide +kernel, rfl⟩
theorem d_X11_steps_28 : DC mX11_steps 28 (.aload_n 0) 1 29 := ⟨by decide +kernel, rfl⟩
theorem d_X11_steps_29 : DC mX11_steps 29 (.getfield 83) 3 32 := ⟨by decide +kernel, rfl⟩
theorem d_X11_steps_32 : DC mX11_steps 32 (.invokevirtual 212) 3 35 := ⟨by decide +kernel, rfl⟩
theorem d_X11_steps_35 : DC mX11_steps 35 (.istore_n 2) 1 36 := ⟨by decide +kernel, rfl⟩
theorem d_X11_steps_36 : DC mX11_steps 36 (.iload_n 2) 1 37 := ⟨by decide +kernel, rfl⟩
theorem d_X11_steps_37 : DC mX11_steps 37 (.ifCond .ne 13) 3 40 := ⟨by decide +kernel, rfl⟩
theorem d_X11_steps_40 : DC mX11_steps 40 (.aload_n 0) 1 41 := ⟨by decide +kernel, rfl⟩
theorem d_X11_steps_41 : DC mX11_steps 41 (.getfield 41) 3 44 := ⟨by decide +kernel, rfl⟩
theorem d_X11_steps_44 : DC mX11_steps 44 (.getfield 268) 3 47 := ⟨by decide +kernel, rfl⟩
theorem d_X11_steps_47 : DC mX11_steps 47 (.goto 8) 3 50 := ⟨by decide +kernel, rfl⟩
theorem d_X11_steps_50 : DC mX11_steps 50 (.aload_n 0) 1 51 := ⟨by decide +kernel, rfl⟩
theorem d_X11_steps_51 : DC mX11_steps 51 (.iload_n 2) 1 52 := ⟨by decide +kernel, rfl⟩
theorem d_X11_steps_52 : DC mX11_steps 52 (.invokevirtual 271) 3 55 := ⟨by decide +kernel, rfl⟩
theorem d_X11_steps_55 : DC mX11_steps 55 (.ireturn) 1 56 := ⟨by decide +kernel, rfl⟩
theorem d_X11_left_0 : DC mX11_left 0 (.aload_n 0) 1 1 := ⟨by decide +kernel, rfl⟩
theorem d_X11_left_1 : DC mX11_left 1 (.iconst 0) 1 2 := ⟨by decide +kernel, rfl⟩
theorem d_X11_left_2 : DC mX11_left 2 (.putfield 90) 3 5 := ⟨by decide +kernel, rfl⟩
theorem d_X11_left_5 : DC mX11_left 5 (.iload_n 1) 1 6 := ⟨by decide +kernel, rfl⟩
theorem d_X11_left_6 : DC mX11_left 6 (.invokestatic 143) 3 9 := ⟨by decide +kernel, rfl⟩
theorem d_X11_left_9 : DC mX11_left 9 (.ifCond .ne 6) 3 12 := ⟨by decide +kernel, rfl⟩
theorem d_X11_left_12 : DC mX11_left 12 (.bipush (-2)) 2 14 := ⟨by decide +kernel, rfl⟩
theorem d_X11_left_14 : DC mX11_left 14 (.ireturn) 1 15 := ⟨by decide +kernel, rfl⟩
theorem d_X11_left_15 : DC mX11_left 15 (.aload_n 0) 1 16 := ⟨by decide +kernel, rfl⟩
theorem d_X11_left_16 : DC mX11_left 16 (.getfield 41) 3 19 := ⟨by decide +kernel, rfl⟩
theorem d_X11_left_19 : DC mX11_left 19 (.aload_n 0) 1 20 := ⟨by decide +kernel, rfl⟩
theorem d_X11_left_20 : DC mX11_left 20 (.getfield 10) 3 23 := ⟨by decide +kernel, rfl⟩
theorem d_X11_left_23 : DC mX11_left 23 (.getfield 146) 3 26 := ⟨by decide +kernel, rfl⟩
theorem d_X11_left_26 : DC mX11_left 26 (.iload_n 1) 1 27 := ⟨by decide +kernel, rfl⟩
theorem d_X11_left_27 : DC mX11_left 27 (.aaload) 1 28 := ⟨by decide +kernel, rfl⟩
theorem d_X11_left_28 : DC mX11_left 28 (.aload_n 0) 1 29 := ⟨by decide +kernel, rfl⟩
theorem d_X11_left_29 : DC mX11_left 29 (.getfield 83) 3 32 := ⟨by decide +kernel, rfl⟩
theorem d_X11_left_32 : DC mX11_left 32 (.invokevirtual 212) 3 35 := ⟨by decide +kernel, rfl⟩
theorem d_X11_left_35 : DC mX11_left 35 (.istore_n 2) 1 36 := ⟨by decide +kernel, rfl⟩
theorem d_X11_left_36 : DC mX11_left 36 (.iload_n 2) 1 37 := ⟨by decide +kernel, rfl⟩
theorem d_X11_left_37 : DC mX11_left 37 (.ifCond .ne 13) 3 40 := ⟨by decide +kernel, rfl⟩
theorem d_X11_left_40 : DC mX11_left 40 (.aload_n 0) 1 41 := ⟨by decide +kernel, rfl⟩
theorem d_X11_left_41 : DC mX11_left 41 (.getfield 83) 3 44 := ⟨by decide +kernel, rfl⟩
theorem d_X11_left_44 : DC mX11_left 44 (.getfield 150) 3 47 := ⟨by decide +kernel, rfl⟩
theorem d_X11_left_47 : DC mX11_left 47 (.goto 8) 3 50 := ⟨by decide +kernel, rfl⟩
theorem d_X11_left_50 : DC mX11_left 50 (.aload_n 0) 1 51 := ⟨by decide +kernel, rfl⟩
theorem d_X11_left_51 : DC mX11_left 51 (.iload_n 2) 1 52 := ⟨by decide +kernel, rfl⟩
theorem d_X11_left_52 : DC mX11_left 52 (.invokevirtual 271) 3 55 := ⟨by decide +kernel, rfl⟩
theorem d_X11_left_55 : DC mX11_left 55 (.ireturn) 1 56 := ⟨by decide +kernel, rfl⟩
theorem v_X11_feed_0 {l : Launch} {d N : Nat} {Λ : Lay} {P : Int → Mem → Prop} {σ : Mem} {x1 x2 x3 x4 x5 t t_tape : Int} (o_t : Ob N Λ t 20 14) (f_t_tape : (Λ t).2.2 4 = t_tape) (o_t_tape : Ob N Λ t_tape 18 6) (h0d : 1 ≤ d)
    (h : (((addI (σ t_tape 1) 20) ≤ 300 → (CV l mX9_take (d - 1) [(2, t_tape), (0, x1)] N Λ σ (fun σ1 => (CV l mX9_take (d - 1) [(2, t_tape), (0, x2)] N Λ σ1 (fun σ2 => (CV l mX9_take (d - 1) [(2, t_tape), (0, x3)] N Λ σ2 (fun σ3 => (CV l mX9_take (d - 1) [(2, t_tape), (0, x4)] N Λ σ3 (fun σ4 => (CV l mX9_take (d - 1) [(2, t_tape), (0, x5)] N Λ σ4 (fun σ5 => P (σ5 t_tape 1) σ5))))))))))) ∧ (¬ ((addI (σ t_tape 1) 20) ≤ 300) → P (-4) σ))) :
    WI l mX11_feed d P 0 [(2, t), (0, x1), (0, x2), (0, x3), (0, x4), (0, x5)] [] N Λ σ := by
  have hd_1 : 1 ≤ d := Nat.le_trans (by decide) h0d
  refine r_aload_n (x := t) d_X11_feed_0 rfl o_t.1 ?_
  refine r_getf (j := 4) (t := 2) (x := t_tape) d_X11_feed_1 kX11 (by decide) fl_X11_34 o_t.1 o_t.2.1 o_t.2.2.1 o_t.2.2.2 rfl f_t_tape ?_
  refine r_getf (j := 1) (t := 0) (x := (σ t_tape 1)) d_X11_feed_4 kX9 (by decide) fl_X11_94 o_t_tape.1 o_t_tape.2.1 o_t_tape.2.2.1 o_t_tape.2.2.2 rfl rfl ?_
  refine r_bipush (x := 20) d_X11_feed_7 ⟨by decide, by decide⟩ (by decide) ?_
  refine r_iadd d_X11_feed_9 ?_
  refine r_sipush (x := 300) d_X11_feed_10 ⟨by decide, by decide⟩ (by decide) ?_
  refine r_ic_le (tgt := 19) d_X11_feed_13 rfl (fun hc => ?_) (fun hc => ?_)
  · have h := h.1 hc
    refine r_aload_n (x := t) d_X11_feed_19 rfl o_t.1 ?_
    refine r_getf (j := 4) (t := 2) (x := t_tape) d_X11_feed_20 kX11 (by decide) fl_X11_34 o_t.1 o_t.2.1 o_t.2.2.1 o_t.2.2.2 rfl f_t_tape ?_
    refine r_iload_n (x := x1) d_X11_feed_23 rfl ?_
    refine x_callVV (Y2 := mX9_take) (c := t_tape) (As := [(0, x1)]) (S := []) d_X11_feed_24 ok_mX9_take ml_X11_97 rfl (Nat.le_of_ble_eq_true rfl) (Nat.le_of_ble_eq_true rfl) rfl hd_1 kX9 o_t_tape (CV.mono h (fun σ1 h => ?_))
    refine r_aload_n (x := t) d_X11_feed_27 rfl o_t.1 ?_
    refine r_getf (j := 4) (t := 2) (x := t_tape) d_X11_feed_28 kX11 (by decide) fl_X11_34 o_t.1 o_t.2.1 o_t.2.2.1 o_t.2.2.2 rfl f_t_tape ?_
    refine r_iload_n (x := x2) d_X11_feed_31 rfl ?_
    refine x_callVV (Y2 := mX9_take) (c := t_tape) (As := [(0, x2)]) (S := []) d_X11_feed_32 ok_mX9_take ml_X11_97 rfl (Nat.le_of_ble_eq_true rfl) (Nat.le_of_ble_eq_true rfl) rfl hd_1 kX9 o_t_tape (CV.mono h (fun σ2 h => ?_))
    refine r_aload_n (x := t) d_X11_feed_35 rfl o_t.1 ?_
    refine r_getf (j := 4) (t := 2) (x := t_tape) d_X11_feed_36 kX11 (by decide) fl_X11_34 o_t.1 o_t.2.1 o_t.2.2.1 o_t.2.2.2 rfl f_t_tape ?_
    refine r_iload_n (x := x3) d_X11_feed_39 rfl ?_
    refine x_callVV (Y2 := mX9_take) (c := t_tape) (As := [(0, x3)]) (S := []) d_X11_feed_40 ok_mX9_take ml_X11_97 rfl (Nat.le_of_ble_eq_true rfl) (Nat.le_of_ble_eq_true rfl) rfl hd_1 kX9 o_t_tape (CV.mono h (fun σ3 h => ?_))
    refine r_aload_n (x := t) d_X11_feed_43 rfl o_t.1 ?_
    refine r_getf (j := 4) (t := 2) (x := t_tape) d_X11_feed_44 kX11 (by decide) fl_X11_34 o_t.1 o_t.2.1 o_t.2.2.1 o_t.2.2.2 rfl f_t_tape ?_
    refine r_iload (x := x4) d_X11_feed_47 rfl ?_
    refine x_callVV (Y2 := mX9_take) (c := t_tape) (As := [(0, x4)]) (S := []) d_X11_feed_49 ok_mX9_take ml_X11_97 rfl (Nat.le_of_ble_eq_true rfl) (Nat.le_of_ble_eq_true rfl) rfl hd_1 kX9 o_t_tape (CV.mono h (fun σ4 h => ?_))
    refine r_aload_n (x := t) d_X11_feed_52 rfl o_t.1 ?_
    refine r_getf (j := 4) (t := 2) (x := t_tape) d_X11_feed_53 kX11 (by decide) fl_X11_34 o_t.1 o_t.2.1 o_t.2.2.1 o_t.2.2.2 rfl f_t_tape ?_
    refine r_iload (x := x5) d_X11_feed_56 rfl ?_
    refine x_callVV (Y2 := mX9_take) (c := t_tape) (As := [(0, x5)]) (S := []) d_X11_feed_58 ok_mX9_take ml_X11_97 rfl (Nat.le_of_ble_eq_true rfl) (Nat.le_of_ble_eq_true rfl) rfl hd_1 kX9 o_t_tape (CV.mono h (fun σ5 h => ?_))
    refine r_aload_n (x := t) d_X11_feed_61 rfl o_t.1 ?_
    refine r_getf (j := 4) (t := 2) (x := t_tape) d_X11_feed_62 kX11 (by decide) fl_X11_34 o_t.1 o_t.2.1 o_t.2.2.1 o_t.2.2.2 rfl f_t_tape ?_
    refine r_getf (j := 1) (t := 0) (x := (σ5 t_tape 1)) d_X11_feed_65 kX9 (by decide) fl_X11_94 o_t_tape.1 o_t_tape.2.1 o_t_tape.2.2.1 o_t_tape.2.2.2 rfl rfl ?_
    exact r_iret d_X11_feed_68 rfl rfl (Nat.le_refl 0) (Nat.le_refl 0) ⟨_, rfl, rfl, rfl, h⟩
  · have h := h.2 hc
    refine r_bipush (x := (-4)) d_X11_feed_16 ⟨by decide, by decide⟩ (by decide) ?_
    exact r_iret d_X11_feed_18 rfl rfl (Nat.le_refl 0) (Nat.le_refl 0) ⟨_, rfl, rfl, rfl, h⟩
theorem v_X11_isShelf_0 {l : Launch} {d N : Nat} {Λ : Lay} {P : Int → Mem → Prop} {σ : Mem} {x0 : Int}
    (h : ((x0 < 0 → P 0 σ) ∧ (¬ (x0 < 0) → ((6 ≤ x0 → P 0 σ) ∧ (¬ (6 ≤ x0) → P 1 σ))))) :
    WI l mX11_isShelf d P 0 [(0, x0)] [] N Λ σ := by
  refine r_iload_n (x := x0) d_X11_isShelf_0 rfl ?_
  refine r_if_lt (tgt := 14) d_X11_isShelf_1 rfl (fun hc => ?_) (fun hc => ?_)
  · have h := h.1 hc
    refine r_iconst (x := 0) d_X11_isShelf_14 ⟨by decide, by decide⟩ ?_
    exact r_iret d_X11_isShelf_15 rfl (by decide) (Nat.le_refl 0) (Nat.le_refl 0) ⟨_, rfl, rfl, rfl, h⟩
  · have h := h.2 hc
    refine r_iload_n (x := x0) d_X11_isShelf_4 rfl ?_
    refine r_bipush (x := 6) d_X11_isShelf_5 ⟨by decide, by decide⟩ (by decide) ?_
    refine r_ic_ge (tgt := 14) d_X11_isShelf_7 rfl (fun hc => ?_) (fun hc => ?_)
    · have h := h.1 hc
      refine r_iconst (x := 0) d_X11_isShelf_14 ⟨by decide, by decide⟩ ?_
      exact r_iret d_X11_isShelf_15 rfl (by decide) (Nat.le_refl 0) (Nat.le_refl 0) ⟨_, rfl, rfl, rfl, h⟩
    · have h := h.2 hc
      refine r_iconst (x := 1) d_X11_isShelf_10 ⟨by decide, by decide⟩ ?_
      refine r_goto (tgt := 15) d_X11_isShelf_11 rfl ?_
      exact r_iret d_X11_isShelf_15 rfl (by decide) (Nat.le_refl 0) (Nat.le_refl 0) ⟨_, rfl, rfl, rfl, h⟩
theorem v_X11_askedOfTape_0 {l : Launch} {d N : Nat} {Λ : Lay} {P : Int → Mem → Prop} {σ : Mem} {x1 x2 t t_tape : Int} (o_t : Ob N Λ t 20 14) (f_t_tape : (Λ t).2.2 4 = t_tape) (o_t_tape : Ob N Λ t_tape 18 6) (h0d : 1 ≤ d)
    (h : ((x1 < 0 → P (-2) σ) ∧ (¬ (x1 < 0) → ((6 ≤ x1 → P (-2) σ) ∧ (¬ (6 ≤ x1) → ((x2 < 0 → P (-3) σ) ∧ (¬ (x2 < 0) → ((x2 ≤ (σ t_tape 1) → P 0 σ) ∧ (¬ (x2 ≤ (σ t_tape 1)) → P (-3) σ))))))))) :
    WI l mX11_askedOfTape d P 0 [(2, t), (0, x1), (0, x2)] [] N Λ σ := by
  have hd_1 : 1 ≤ d := Nat.le_trans (by decide) h0d
  refine r_iload_n (x := x1) d_X11_askedOfTape_0 rfl ?_
  refine x_callSI (Y2 := mX11_isShelf) (As := [(0, x1)]) (S := []) d_X11_askedOfTape_1 ok_mX11_isShelf ml_X11_143 rfl (Nat.le_of_ble_eq_true rfl) (Nat.le_of_ble_eq_true rfl) rfl hd_1 (c_X11_isShelf (v_X11_isShelf_0 ?_))
  refine ⟨fun hc => ?_, fun hc => ?_⟩
  · have h := h.1 hc
    show WP l mX11_askedOfTape (rm d 0 0) noX _ 0 0 4 [(2, t), (0, x1), (0, x2)] [(0, 0)] N Λ σ
    refine r_if_ne (tgt := 10) d_X11_askedOfTape_4 rfl (fun hc => absurd hc (by decide)) (fun _ => ?_)
    refine r_bipush (x := (-2)) d_X11_askedOfTape_7 ⟨by decide, by decide⟩ (by decide) ?_
    exact r_iret d_X11_askedOfTape_9 rfl rfl (Nat.le_refl 0) (Nat.le_refl 0) ⟨_, rfl, rfl, rfl, h⟩
  · have h := h.2 hc
    refine ⟨fun hc => ?_, fun hc => ?_⟩
    · have h := h.1 hc
      show WP l mX11_askedOfTape (rm d 0 0) noX _ 0 0 4 [(2, t), (0, x1), (0, x2)] [(0, 0)] N Λ σ
      refine r_if_ne (tgt := 10) d_X11_askedOfTape_4 rfl (fun hc => absurd hc (by decide)) (fun _ => ?_)
      refine r_bipush (x := (-2)) d_X11_askedOfTape_7 ⟨by decide, by decide⟩ (by decide) ?_
      exact r_iret d_X11_askedOfTape_9 rfl rfl (Nat.le_refl 0) (Nat.le_refl 0) ⟨_, rfl, rfl, rfl, h⟩
    · have h := h.2 hc
      show WP l mX11_askedOfTape (rm d 0 0) noX _ 0 0 4 [(2, t), (0, x1), (0, x2)] [(0, 1)] N Λ σ
      refine r_if_ne (tgt := 10) d_X11_askedOfTape_4 rfl (fun _ => ?_) (fun hc => absurd hc (by decide))
      refine r_iload_n (x := x2) d_X11_askedOfTape_10 rfl ?_
      refine r_if_lt (tgt := 25) d_X11_askedOfTape_11 rfl (fun hc => ?_) (fun hc => ?_)
      · have h := h.1 hc
        refine r_bipush (x := (-3)) d_X11_askedOfTape_25 ⟨by decide, by decide⟩ (by decide) ?_
        refine r_goto (tgt := 31) d_X11_askedOfTape_27 rfl ?_
        exact r_iret d_X11_askedOfTape_31 rfl rfl (Nat.le_refl 0) (Nat.le_refl 0) ⟨_, rfl, rfl, rfl, h⟩
      · have h := h.2 hc
        refine r_iload_n (x := x2) d_X11_askedOfTape_14 rfl ?_
        refine r_aload_n (x := t) d_X11_askedOfTape_15 rfl o_t.1 ?_
        refine r_getf (j := 4) (t := 2) (x := t_tape) d_X11_askedOfTape_16 kX11 (by decide) fl_X11_34 o_t.1 o_t.2.1 o_t.2.2.1 o_t.2.2.2 rfl f_t_tape ?_
        refine r_getf (j := 1) (t := 0) (x := (σ t_tape 1)) d_X11_askedOfTape_19 kX9 (by decide) fl_X11_94 o_t_tape.1 o_t_tape.2.1 o_t_tape.2.2.1 o_t_tape.2.2.2 rfl rfl ?_
        refine r_ic_le (tgt := 30) d_X11_askedOfTape_22 rfl (fun hc => ?_) (fun hc => ?_)
        · have h := h.1 hc
          refine r_iconst (x := 0) d_X11_askedOfTape_30 ⟨by decide, by decide⟩ ?_
          exact r_iret d_X11_askedOfTape_31 rfl rfl (Nat.le_refl 0) (Nat.le_refl 0) ⟨_, rfl, rfl, rfl, h⟩
        · have h := h.2 hc
          refine r_bipush (x := (-3)) d_X11_askedOfTape_25 ⟨by decide, by decide⟩ (by decide) ?_
          refine r_goto (tgt := 31) d_X11_askedOfTape_27 rfl ?_
          exact r_iret d_X11_askedOfTape_31 rfl rfl (Nat.le_refl 0) (Nat.le_refl 0) ⟨_, rfl, rfl, rfl, h⟩
theorem v_X11_badText_0 {l : Launch} {d N : Nat} {Λ : Lay} {P : Int → Mem → Prop} {σ : Mem} {t t_tape : Int} (o_t : Ob N Λ t 20 14) (f_t_tape : (Λ t).2.2 4 = t_tape) (o_t_tape : Ob N Λ t_tape 18 6)
    (h : (∀ τ1, τ1 = st σ t_tape 1 0 → P (subI (-30) (τ1 t_tape 2)) τ1)) :
    WI l mX11_badText d P 0 [(2, t)] [] N Λ σ := by
  refine r_aload_n (x := t) d_X11_badText_0 rfl o_t.1 ?_
  refine r_getf (j := 4) (t := 2) (x := t_tape) d_X11_badText_1 kX11 (by decide) fl_X11_34 o_t.1 o_t.2.1 o_t.2.2.1 o_t.2.2.2 rfl f_t_tape ?_
  refine r_iconst (x := 0) d_X11_badText_4 ⟨by decide, by decide⟩ ?_
  refine r_putI (j := 1) d_X11_badText_5 kX9 (by decide) fl_X11_94 rfl o_t_tape.1 o_t_tape.2.1 o_t_tape.2.2.1 o_t_tape.2.2.2 rfl ?_
  refine r_nmM (fun τ1 eτ1 => ?_)
  have h := h τ1 eτ1
  refine r_bipush (x := (-30)) d_X11_badText_8 ⟨by decide, by decide⟩ (by decide) ?_
  refine r_aload_n (x := t) d_X11_badText_10 rfl o_t.1 ?_
  refine r_getf (j := 4) (t := 2) (x := t_tape) d_X11_badText_11 kX11 (by decide) fl_X11_34 o_t.1 o_t.2.1 o_t.2.2.1 o_t.2.2.2 rfl f_t_tape ?_
  refine r_getf (j := 2) (t := 0) (x := (τ1 t_tape 2)) d_X11_badText_14 kX9 (by decide) fl_X11_137 o_t_tape.1 o_t_tape.2.1 o_t_tape.2.2.1 o_t_tape.2.2.2 rfl rfl ?_
  refine r_isub d_X11_badText_17 ?_
  exact r_iret d_X11_badText_18 rfl rfl (Nat.le_refl 0) (Nat.le_refl 0) ⟨_, rfl, rfl, rfl, h⟩
theorem v_X11_refused_0 {l : Launch} {d N : Nat} {Λ : Lay} {P : Int → Mem → Prop} {σ : Mem} {x1 t : Int} (o_t : Ob N Λ t 20 14)
    (h : (∀ τ1, τ1 = st σ t 13 x1 → ((¬ x1 = 4 → P (-4) τ1) ∧ (x1 = 4 → P (-7) τ1)))) :
    WI l mX11_refused d P 0 [(2, t), (0, x1)] [] N Λ σ := by
  refine r_aload_n (x := t) d_X11_refused_0 rfl o_t.1 ?_
  refine r_iload_n (x := x1) d_X11_refused_1 rfl ?_
  refine r_putI (j := 13) d_X11_refused_2 kX11 (by decide) fl_X11_90 rfl o_t.1 o_t.2.1 o_t.2.2.1 o_t.2.2.2 rfl ?_
  refine r_nmM (fun τ1 eτ1 => ?_)
  have h := h τ1 eτ1
  refine r_iload_n (x := x1) d_X11_refused_5 rfl ?_
  refine r_iconst (x := 4) d_X11_refused_6 ⟨by decide, by decide⟩ ?_
  refine r_ic_ne (tgt := 15) d_X11_refused_7 rfl (fun hc => ?_) (fun hc => ?_)
  · have h := h.1 hc
    refine r_bipush (x := (-4)) d_X11_refused_15 ⟨by decide, by decide⟩ (by decide) ?_
    exact r_iret d_X11_refused_17 rfl rfl (Nat.le_refl 0) (Nat.le_refl 0) ⟨_, rfl, rfl, rfl, h⟩
  · have h := h.2 hc
    refine r_bipush (x := (-7)) d_X11_refused_10 ⟨by decide, by decide⟩ (by decide) ?_
    refine r_goto (tgt := 17) d_X11_refused_12 rfl ?_
    exact r_iret d_X11_refused_17 rfl rfl (Nat.le_refl 0) (Nat.le_refl 0) ⟨_, rfl, rfl, rfl, h⟩
theorem v_X11_keep_0 {l : Launch} {d N : Nat} {Λ : Lay} {P : Int → Mem → Prop} {σ : Mem} {x1 x2 t t_history t_history_kept t_now t_now_shelves t_work : Int} (o_t : Ob N Λ t 20 14) (f_t_history : (Λ t).2.2 1 = t_history) (f_t_now : (Λ t).2.2 0 = t_now) (o_t_history : Ob N Λ t_history 14 3) (f_t_history_kept : (Λ t_history).2.2 1 = t_history_kept) (o_t_now : Ob N Λ t_now 16 3) (f_t_now_shelves : (Λ t_now).2.2 0 = t_now_shelves) (f_t_work : (Λ t).2.2 11 = t_work) (o_t_work : Ob N Λ t_work 15 3) (h0d : 2 ≤ d)
    (h : ((x2 = 0 → (Ix N Λ t_history_kept 4 (σ t_history 2) ∧ (∀ b1, b1 = (Λ t_history_kept).2.2 (σ t_history 2) → (Ob N Λ b1 16 3 ∧ (CV l mX7_take (d - 1 - 1) [(2, b1), (2, t_now)] N Λ σ (fun σ2 => (∀ τ3, τ3 = st σ2 t_history 2 (remI (addI (σ2 t_history 2) 1) 10) → ((10 < (addI (τ3 t_history 0) 1) → (∀ τ4, τ4 = st τ3 t_history 0 10 → (Ix N Λ t_now_shelves 3 x1 ∧ (∀ b5, b5 = (Λ t_now_shelves).2.2 x1 → (Ob N Λ b5 15 3 ∧ (CV l mX5_take (d - 1) [(2, b5), (2, t_work)] N Λ τ4 (fun σ6 => P (σ6 t_work 2) σ6))))))) ∧ (¬ (10 < (addI (τ3 t_history 0) 1)) → (∀ τ7, τ7 = st τ3 t_history 0 (addI (τ3 t_history 0) 1) → (Ix N Λ t_now_shelves 3 x1 ∧ (∀ b8, b8 = (Λ t_now_shelves).2.2 x1 → (Ob N Λ b8 15 3 ∧ (CV l mX5_take (d - 1) [(2, b8), (2, t_work)] N Λ τ7 (fun σ9 => P (σ9 t_work 2) σ9))))))))))))))) ∧ (¬ (x2 = 0) → (∀ τ10, τ10 = st σ t 13 x2 → ((¬ x2 = 4 → P (-4) τ10) ∧ (x2 = 4 → P (-7) τ10)))))) :
    WI l mX11_keep d P 0 [(2, t), (0, x1), (0, x2)] [] N Λ σ := by
  have hd_1 : 1 ≤ d := Nat.le_trans (by decide) h0d
  have he_1 : 1 ≤ d - 1 := Nat.le_sub_of_add_le (Nat.le_trans (by decide) h0d)
  refine r_iload_n (x := x2) d_X11_keep_0 rfl ?_
  refine r_if_eq (tgt := 10) d_X11_keep_1 rfl (fun hc => ?_) (fun hc => ?_)
  · have h := h.1 hc
    refine r_aload_n (x := t) d_X11_keep_10 rfl o_t.1 ?_
    refine r_getf (j := 1) (t := 2) (x := t_history) d_X11_keep_11 kX11 (by decide) fl_X11_19 o_t.1 o_t.2.1 o_t.2.2.1 o_t.2.2.2 rfl f_t_history ?_
    refine r_aload_n (x := t) d_X11_keep_14 rfl o_t.1 ?_
    refine r_getf (j := 0) (t := 2) (x := t_now) d_X11_keep_15 kX11 (by decide) fl_X11_10 o_t.1 o_t.2.1 o_t.2.2.1 o_t.2.2.2 rfl f_t_now ?_
    refine x_callVV (Y2 := mX4_keep) (c := t_history) (As := [(2, t_now)]) (S := []) d_X11_keep_18 ok_mX4_keep ml_X11_230 rfl (Nat.le_of_ble_eq_true rfl) (Nat.le_of_ble_eq_true rfl) rfl hd_1 kX4 o_t_history (c_X4_keep (v_X4_keep_0 o_t_history f_t_history_kept o_t_now he_1 ?_))
    refine ⟨h.1, ?_⟩
    have h := h.2
    intro b1 eb1
    have h := h b1 eb1
    refine ⟨h.1, ?_⟩
    have h := h.2
    refine CV.mono h (fun σ2 h => ?_)
    intro τ3 eτ3
    have h := h τ3 eτ3
    refine ⟨fun hc => ?_, fun hc => ?_⟩
    · have h := h.1 hc
      intro τ4 eτ4
      have h := h τ4 eτ4
      show WP l mX11_keep (rm d 0 0) noX _ 0 0 21 [(2, t), (0, x1), (0, x2)] [] N Λ τ4
      refine r_aload_n (x := t) d_X11_keep_21 rfl o_t.1 ?_
      refine r_getf (j := 0) (t := 2) (x := t_now) d_X11_keep_22 kX11 (by decide) fl_X11_10 o_t.1 o_t.2.1 o_t.2.2.1 o_t.2.2.2 rfl f_t_now ?_
      refine r_getf (j := 0) (t := 2) (x := t_now_shelves) d_X11_keep_25 kX7 (by decide) fl_X11_146 o_t_now.1 o_t_now.2.1 o_t_now.2.2.1 o_t_now.2.2.2 rfl f_t_now_shelves ?_
      refine r_iload_n (x := x1) d_X11_keep_28 rfl ?_
      refine x_aald (t := 3) (by decide) d_X11_keep_29 h.1 (fun b5 eb5 => ?_)
      have h := h.2 b5 eb5
      have oob5 := h.1
      have h := h.2
      refine r_aload_n (x := t) d_X11_keep_30 rfl o_t.1 ?_
      refine r_getf (j := 11) (t := 2) (x := t_work) d_X11_keep_31 kX11 (by decide) fl_X11_83 o_t.1 o_t.2.1 o_t.2.2.1 o_t.2.2.2 rfl f_t_work ?_
      refine x_callVV (Y2 := mX5_take) (c := b5) (As := [(2, t_work)]) (S := []) d_X11_keep_34 ok_mX5_take ml_X11_157 rfl (Nat.le_of_ble_eq_true rfl) (Nat.le_of_ble_eq_true rfl) rfl hd_1 kX5 oob5 (CV.mono h (fun σ6 h => ?_))
      refine r_aload_n (x := t) d_X11_keep_37 rfl o_t.1 ?_
      refine r_getf (j := 11) (t := 2) (x := t_work) d_X11_keep_38 kX11 (by decide) fl_X11_83 o_t.1 o_t.2.1 o_t.2.2.1 o_t.2.2.2 rfl f_t_work ?_
      refine r_getf (j := 2) (t := 0) (x := (σ6 t_work 2)) d_X11_keep_41 kX5 (by decide) fl_X11_150 o_t_work.1 o_t_work.2.1 o_t_work.2.2.1 o_t_work.2.2.2 rfl rfl ?_
      exact r_iret d_X11_keep_44 rfl rfl (Nat.le_refl 0) (Nat.le_refl 0) ⟨_, rfl, rfl, rfl, h⟩
    · have h := h.2 hc
      intro τ7 eτ7
      have h := h τ7 eτ7
      show WP l mX11_keep (rm d 0 0) noX _ 0 0 21 [(2, t), (0, x1), (0, x2)] [] N Λ τ7
      refine r_aload_n (x := t) d_X11_keep_21 rfl o_t.1 ?_
      refine r_getf (j := 0) (t := 2) (x := t_now) d_X11_keep_22 kX11 (by decide) fl_X11_10 o_t.1 o_t.2.1 o_t.2.2.1 o_t.2.2.2 rfl f_t_now ?_
      refine r_getf (j := 0) (t := 2) (x := t_now_shelves) d_X11_keep_25 kX7 (by decide) fl_X11_146 o_t_now.1 o_t_now.2.1 o_t_now.2.2.1 o_t_now.2.2.2 rfl f_t_now_shelves ?_
      refine r_iload_n (x := x1) d_X11_keep_28 rfl ?_
      refine x_aald (t := 3) (by decide) d_X11_keep_29 h.1 (fun b8 eb8 => ?_)
      have h := h.2 b8 eb8
      have oob8 := h.1
      have h := h.2
      refine r_aload_n (x := t) d_X11_keep_30 rfl o_t.1 ?_
      refine r_getf (j := 11) (t := 2) (x := t_work) d_X11_keep_31 kX11 (by decide) fl_X11_83 o_t.1 o_t.2.1 o_t.2.2.1 o_t.2.2.2 rfl f_t_work ?_
      refine x_callVV (Y2 := mX5_take) (c := b8) (As := [(2, t_work)]) (S := []) d_X11_keep_34 ok_mX5_take ml_X11_157 rfl (Nat.le_of_ble_eq_true rfl) (Nat.le_of_ble_eq_true rfl) rfl hd_1 kX5 oob8 (CV.mono h (fun σ9 h => ?_))
      refine r_aload_n (x := t) d_X11_keep_37 rfl o_t.1 ?_
      refine r_getf (j := 11) (t := 2) (x := t_work) d_X11_keep_38 kX11 (by decide) fl_X11_83 o_t.1 o_t.2.1 o_t.2.2.1 o_t.2.2.2 rfl f_t_work ?_
      refine r_getf (j := 2) (t := 0) (x := (σ9 t_work 2)) d_X11_keep_41 kX5 (by decide) fl_X11_150 o_t_work.1 o_t_work.2.1 o_t_work.2.2.1 o_t_work.2.2.2 rfl rfl ?_
      exact r_iret d_X11_keep_44 rfl rfl (Nat.le_refl 0) (Nat.le_refl 0) ⟨_, rfl, rfl, rfl, h⟩
  · have h := h.2 hc
    refine r_aload_n (x := t) d_X11_keep_4 rfl o_t.1 ?_
    refine r_iload_n (x := x2) d_X11_keep_5 rfl ?_
    refine x_callVI (Y2 := mX11_refused) (c := t) (As := [(0, x2)]) (S := []) d_X11_keep_6 ok_mX11_refused ml_X11_271 rfl (Nat.le_of_ble_eq_true rfl) (Nat.le_of_ble_eq_true rfl) rfl hd_1 kX11 o_t (c_X11_refused (v_X11_refused_0 o_t ?_))
    intro τ10 eτ10
    have h := h τ10 eτ10
    refine ⟨fun hc => ?_, fun hc => ?_⟩
    · have h := h.1 hc
      show WP l mX11_keep (rm d 0 0) noX _ 0 0 9 [(2, t), (0, x1), (0, x2)] [(0, (-4))] N Λ τ10
      exact r_iret d_X11_keep_9 rfl rfl (Nat.le_refl 0) (Nat.le_refl 0) ⟨_, rfl, rfl, rfl, h⟩
    · have h := h.2 hc
      show WP l mX11_keep (rm d 0 0) noX _ 0 0 9 [(2, t), (0, x1), (0, x2)] [(0, (-7))] N Λ τ10
      exact r_iret d_X11_keep_9 rfl rfl (Nat.le_refl 0) (Nat.le_refl 0) ⟨_, rfl, rfl, rfl, h⟩
theorem v_X11_keepText_0 {l : Launch} {d N : Nat} {Λ : Lay} {P : Int → Mem → Prop} {σ : Mem} {x1 x2 t t_tape : Int} (o_t : Ob N Λ t 20 14) (f_t_tape : (Λ t).2.2 4 = t_tape) (o_t_tape : Ob N Λ t_tape 18 6) (h0d : 1 ≤ d)
    (h : ((¬ x2 = 0 → (CI l mX11_keep (d - 1) [(2, t), (0, x1), (0, x2)] N Λ σ (fun v2 σ1 => P v2 σ1))) ∧ (x2 = 0 → (∀ τ3, τ3 = st σ t_tape 1 0 → (CI l mX11_keep (d - 1) [(2, t), (0, x1), (0, x2)] N Λ τ3 (fun v5 σ4 => P v5 σ4)))))) :
    WI l mX11_keepText d P 0 [(2, t), (0, x1), (0, x2)] [] N Λ σ := by
  have hd_1 : 1 ≤ d := Nat.le_trans (by decide) h0d
  refine r_iload_n (x := x2) d_X11_keepText_0 rfl ?_
  refine r_if_ne (tgt := 12) d_X11_keepText_1 rfl (fun hc => ?_) (fun hc => ?_)
  · have h := h.1 hc
    refine r_aload_n (x := t) d_X11_keepText_12 rfl o_t.1 ?_
    refine r_iload_n (x := x1) d_X11_keepText_13 rfl ?_
    refine r_iload_n (x := x2) d_X11_keepText_14 rfl ?_
    refine x_callVI (Y2 := mX11_keep) (c := t) (As := [(0, x1), (0, x2)]) (S := []) d_X11_keepText_15 ok_mX11_keep ml_X11_154 rfl (Nat.le_of_ble_eq_true rfl) (Nat.le_of_ble_eq_true rfl) rfl hd_1 kX11 o_t (CI.mono h (fun v2 σ1 h => ?_))
    exact r_iret d_X11_keepText_18 rfl rfl (Nat.le_refl 0) (Nat.le_refl 0) ⟨_, rfl, rfl, rfl, h⟩
  · have h := h.2 hc
    refine r_aload_n (x := t) d_X11_keepText_4 rfl o_t.1 ?_
    refine r_getf (j := 4) (t := 2) (x := t_tape) d_X11_keepText_5 kX11 (by decide) fl_X11_34 o_t.1 o_t.2.1 o_t.2.2.1 o_t.2.2.2 rfl f_t_tape ?_
    refine r_iconst (x := 0) d_X11_keepText_8 ⟨by decide, by decide⟩ ?_
    refine r_putI (j := 1) d_X11_keepText_9 kX9 (by decide) fl_X11_94 rfl o_t_tape.1 o_t_tape.2.1 o_t_tape.2.2.1 o_t_tape.2.2.2 rfl ?_
    refine r_nmM (fun τ3 eτ3 => ?_)
    have h := h τ3 eτ3
    refine r_aload_n (x := t) d_X11_keepText_12 rfl o_t.1 ?_
    refine r_iload_n (x := x1) d_X11_keepText_13 rfl ?_
    refine r_iload_n (x := x2) d_X11_keepText_14 rfl ?_
    refine x_callVI (Y2 := mX11_keep) (c := t) (As := [(0, x1), (0, x2)]) (S := []) d_X11_keepText_15 ok_mX11_keep ml_X11_154 rfl (Nat.le_of_ble_eq_true rfl) (Nat.le_of_ble_eq_true rfl) rfl hd_1 kX11 o_t (CI.mono h (fun v5 σ4 h => ?_))
    exact r_iret d_X11_keepText_18 rfl rfl (Nat.le_refl 0) (Nat.le_refl 0) ⟨_, rfl, rfl, rfl, h⟩
theorem v_X11_told_0 {l : Launch} {d N : Nat} {Λ : Lay} {P : Int → Mem → Prop} {σ : Mem} {x1 x2 t t_tape t_work : Int} (o_t : Ob N Λ t 20 14) (f_t_tape : (Λ t).2.2 4 = t_tape) (o_t_tape : Ob N Λ t_tape 18 6) (f_t_work : (Λ t).2.2 11 = t_work) (h0d : 2 ≤ d)
    (h : (∀ τ1, τ1 = st σ t 13 0 → (CI l mX11_askedOfTape (d - 1) [(2, t), (0, x1), (0, x2)] N Λ τ1 (fun v3 σ2 => ((v3 = 0 → (CI l mX9_tellsPolynomial (d - 1) [(2, t_tape), (0, x2)] N Λ σ2 (fun v5 σ4 => ((¬ v5 = 0 → (CI l mX9_readPolynomial (d - 1) [(2, t_tape), (0, x2), (2, t_work)] N Λ σ4 (fun v7 σ6 => ((¬ v7 = 0 → (CI l mX11_keep (d - 1 - 1) [(2, t), (0, x1), (0, v7)] N Λ σ6 (fun v8 σ9 => P v8 σ9))) ∧ (v7 = 0 → (∀ τ10, τ10 = st σ6 t_tape 1 0 → (CI l mX11_keep (d - 1 - 1) [(2, t), (0, x1), (0, v7)] N Λ τ10 (fun v11 σ12 => P v11 σ12)))))))) ∧ (v5 = 0 → (∀ τ13, τ13 = st σ4 t_tape 1 0 → P (subI (-30) (τ13 t_tape 2)) τ13)))))) ∧ (¬ (v3 = 0) → P v3 σ2)))))) :
    WI l mX11_told d P 0 [(2, t), (0, x1), (0, x2), (3, 0)] [] N Λ σ := by
  have hd_1 : 1 ≤ d := Nat.le_trans (by decide) h0d
  have he_1 : 1 ≤ d - 1 := Nat.le_sub_of_add_le (Nat.le_trans (by decide) h0d)
  refine r_aload_n (x := t) d_X11_told_0 rfl o_t.1 ?_
  refine r_iconst (x := 0) d_X11_told_1 ⟨by decide, by decide⟩ ?_
  refine r_putI (j := 13) d_X11_told_2 kX11 (by decide) fl_X11_90 rfl o_t.1 o_t.2.1 o_t.2.2.1 o_t.2.2.2 rfl ?_
  refine r_nmM (fun τ1 eτ1 => ?_)
  have h := h τ1 eτ1
  refine r_aload_n (x := t) d_X11_told_5 rfl o_t.1 ?_
  refine r_iload_n (x := x1) d_X11_told_6 rfl ?_
  refine r_iload_n (x := x2) d_X11_told_7 rfl ?_
  refine x_callVI (Y2 := mX11_askedOfTape) (c := t) (As := [(0, x1), (0, x2)]) (S := []) d_X11_told_8 ok_mX11_askedOfTape ml_X11_101 rfl (Nat.le_of_ble_eq_true rfl) (Nat.le_of_ble_eq_true rfl) rfl hd_1 kX11 o_t (CI.mono h (fun v3 σ2 h => ?_))
  refine r_istore_n (L2 := [(2, t), (0, x1), (0, x2), (0, v3)]) d_X11_told_11 (by decide) rfl rfl ?_
  refine r_iload_n (x := v3) d_X11_told_12 rfl ?_
  refine r_if_eq (tgt := 18) d_X11_told_13 rfl (fun hc => ?_) (fun hc => ?_)
  · have h := h.1 hc
    refine r_aload_n (x := t) d_X11_told_18 rfl o_t.1 ?_
    refine r_getf (j := 4) (t := 2) (x := t_tape) d_X11_told_19 kX11 (by decide) fl_X11_34 o_t.1 o_t.2.1 o_t.2.2.1 o_t.2.2.2 rfl f_t_tape ?_
    refine r_iload_n (x := x2) d_X11_told_22 rfl ?_
    refine x_callVI (Y2 := mX9_tellsPolynomial) (c := t_tape) (As := [(0, x2)]) (S := []) d_X11_told_23 ok_mX9_tellsPolynomial ml_X11_105 rfl (Nat.le_of_ble_eq_true rfl) (Nat.le_of_ble_eq_true rfl) rfl hd_1 kX9 o_t_tape (CI.mono h (fun v5 σ4 h => ?_))
    refine r_if_ne (tgt := 34) d_X11_told_26 rfl (fun hc => ?_) (fun hc => ?_)
    · have h := h.1 hc
      refine r_aload_n (x := t) d_X11_told_34 rfl o_t.1 ?_
      refine r_iload_n (x := x1) d_X11_told_35 rfl ?_
      refine r_aload_n (x := t) d_X11_told_36 rfl o_t.1 ?_
      refine r_getf (j := 4) (t := 2) (x := t_tape) d_X11_told_37 kX11 (by decide) fl_X11_34 o_t.1 o_t.2.1 o_t.2.2.1 o_t.2.2.2 rfl f_t_tape ?_
      refine r_iload_n (x := x2) d_X11_told_40 rfl ?_
      refine r_aload_n (x := t) d_X11_told_41 rfl o_t.1 ?_
      refine r_getf (j := 11) (t := 2) (x := t_work) d_X11_told_42 kX11 (by decide) fl_X11_83 o_t.1 o_t.2.1 o_t.2.2.1 o_t.2.2.2 rfl f_t_work ?_
      refine x_callVI (Y2 := mX9_readPolynomial) (c := t_tape) (As := [(0, x2), (2, t_work)]) (S := [(0, x1), (2, t)]) d_X11_told_45 ok_mX9_readPolynomial ml_X11_113 rfl (Nat.le_of_ble_eq_true rfl) (Nat.le_of_ble_eq_true rfl) rfl hd_1 kX9 o_t_tape (CI.mono h (fun v7 σ6 h => ?_))
      refine x_callVI (Y2 := mX11_keepText) (c := t) (As := [(0, x1), (0, v7)]) (S := []) d_X11_told_48 ok_mX11_keepText ml_X11_117 rfl (Nat.le_of_ble_eq_true rfl) (Nat.le_of_ble_eq_true rfl) rfl hd_1 kX11 o_t (c_X11_keepText (v_X11_keepText_0 o_t f_t_tape o_t_tape he_1 ?_))
      refine ⟨fun hc => ?_, fun hc => ?_⟩
      · have h := h.1 hc
        refine CI.mono h (fun v8 σ9 h => ?_)
        show WP l mX11_told (rm d 0 0) noX _ 0 0 51 [(2, t), (0, x1), (0, x2), (0, v3)] [(0, v8)] N Λ σ9
        exact r_iret d_X11_told_51 rfl rfl (Nat.le_refl 0) (Nat.le_refl 0) ⟨_, rfl, rfl, rfl, h⟩
      · have h := h.2 hc
        intro τ10 eτ10
        have h := h τ10 eτ10
        refine CI.mono h (fun v11 σ12 h => ?_)
        show WP l mX11_told (rm d 0 0) noX _ 0 0 51 [(2, t), (0, x1), (0, x2), (0, v3)] [(0, v11)] N Λ σ12
        exact r_iret d_X11_told_51 rfl rfl (Nat.le_refl 0) (Nat.le_refl 0) ⟨_, rfl, rfl, rfl, h⟩
    · have h := h.2 hc
      refine r_aload_n (x := t) d_X11_told_29 rfl o_t.1 ?_
      refine x_callVI (Y2 := mX11_badText) (c := t) (As := []) (S := []) d_X11_told_30 ok_mX11_badText ml_X11_109 rfl (Nat.le_of_ble_eq_true rfl) (Nat.le_of_ble_eq_true rfl) rfl hd_1 kX11 o_t (c_X11_badText (v_X11_badText_0 o_t f_t_tape o_t_tape ?_))
      intro τ13 eτ13
      have h := h τ13 eτ13
      show WP l mX11_told (rm d 0 0) noX _ 0 0 33 [(2, t), (0, x1), (0, x2), (0, v3)] [(0, (subI (-30) (τ13 t_tape 2)))] N Λ τ13
      exact r_iret d_X11_told_33 rfl rfl (Nat.le_refl 0) (Nat.le_refl 0) ⟨_, rfl, rfl, rfl, h⟩
  · have h := h.2 hc
    refine r_iload_n (x := v3) d_X11_told_16 rfl ?_
    exact r_iret d_X11_told_17 rfl rfl (Nat.le_refl 0) (Nat.le_refl 0) ⟨_, rfl, rfl, rfl, h⟩
theorem v_X11_figure_0 {l : Launch} {d N : Nat} {Λ : Lay} {P : Int → Mem → Prop} {σ : Mem} {x1 x2 t t_figures t_tape : Int} (o_t : Ob N Λ t 20 14) (f_t_tape : (Λ t).2.2 4 = t_tape) (o_t_tape : Ob N Λ t_tape 18 6) (f_t_figures : (Λ t).2.2 6 = t_figures) (o_t_figures : Ob N Λ t_figures 12 9) (h0d : 1 ≤ d)
    (h : (∀ τ1, τ1 = st σ t 13 0 → (CI l mX11_askedOfTape (d - 1) [(2, t), (0, x1), (0, x2)] N Λ τ1 (fun v3 σ2 => ((v3 = 0 → (CI l mX9_tellsFigure (d - 1) [(2, t_tape), (0, x2)] N Λ σ2 (fun v5 σ4 => ((¬ v5 = 0 → (∀ τ6, τ6 = st σ4 t_figures 2 0 → WI l mX11_figure d P 47 [(2, t), (0, x1), (0, x2), (0, v3), (0, 0), (0, 0)] [] N Λ τ6)) ∧ (v5 = 0 → (∀ τ7, τ7 = st σ4 t_tape 1 0 → P (subI (-30) (τ7 t_tape 2)) τ7)))))) ∧ (¬ (v3 = 0) → P v3 σ2)))))) :
    WI l mX11_figure d P 0 [(2, t), (0, x1), (0, x2), (3, 0), (3, 0), (3, 0)] [] N Λ σ := by
  have hd_1 : 1 ≤ d := Nat.le_trans (by decide) h0d
  refine r_aload_n (x := t) d_X11_figure_0 rfl o_t.1 ?_
  refine r_iconst (x := 0) d_X11_figure_1 ⟨by decide, by decide⟩ ?_
  refine r_putI (j := 13) d_X11_figure_2 kX11 (by decide) fl_X11_90 rfl o_t.1 o_t.2.1 o_t.2.2.1 o_t.2.2.2 rfl ?_
  refine r_nmM (fun τ1 eτ1 => ?_)
  have h := h τ1 eτ1
  refine r_aload_n (x := t) d_X11_figure_5 rfl o_t.1 ?_
  refine r_iload_n (x := x1) d_X11_figure_6 rfl ?_
  refine r_iload_n (x := x2) d_X11_figure_7 rfl ?_
  refine x_callVI (Y2 := mX11_askedOfTape) (c := t) (As := [(0, x1), (0, x2)]) (S := []) d_X11_figure_8 ok_mX11_askedOfTape ml_X11_101 rfl (Nat.le_of_ble_eq_true rfl) (Nat.le_of_ble_eq_true rfl) rfl hd_1 kX11 o_t (CI.mono h (fun v3 σ2 h => ?_))
  refine r_istore_n (L2 := [(2, t), (0, x1), (0, x2), (0, v3), (3, 0), (3, 0)]) d_X11_figure_11 (by decide) rfl rfl ?_
  refine r_iload_n (x := v3) d_X11_figure_12 rfl ?_
  refine r_if_eq (tgt := 18) d_X11_figure_13 rfl (fun hc => ?_) (fun hc => ?_)
  · have h := h.1 hc
    refine r_aload_n (x := t) d_X11_figure_18 rfl o_t.1 ?_
    refine r_getf (j := 4) (t := 2) (x := t_tape) d_X11_figure_19 kX11 (by decide) fl_X11_34 o_t.1 o_t.2.1 o_t.2.2.1 o_t.2.2.2 rfl f_t_tape ?_
    refine r_iload_n (x := x2) d_X11_figure_22 rfl ?_
    refine x_callVI (Y2 := mX9_tellsFigure) (c := t_tape) (As := [(0, x2)]) (S := []) d_X11_figure_23 ok_mX9_tellsFigure ml_X11_120 rfl (Nat.le_of_ble_eq_true rfl) (Nat.le_of_ble_eq_true rfl) rfl hd_1 kX9 o_t_tape (CI.mono h (fun v5 σ4 h => ?_))
    refine r_if_ne (tgt := 34) d_X11_figure_26 rfl (fun hc => ?_) (fun hc => ?_)
    · have h := h.1 hc
      refine r_aload_n (x := t) d_X11_figure_34 rfl o_t.1 ?_
      refine r_getf (j := 6) (t := 2) (x := t_figures) d_X11_figure_35 kX11 (by decide) fl_X11_48 o_t.1 o_t.2.1 o_t.2.2.1 o_t.2.2.2 rfl f_t_figures ?_
      refine x_callVV (Y2 := mX2_begin) (c := t_figures) (As := []) (S := []) d_X11_figure_38 ok_mX2_begin ml_X11_123 rfl (Nat.le_of_ble_eq_true rfl) (Nat.le_of_ble_eq_true rfl) rfl hd_1 kX2 o_t_figures (c_X2_begin (v_X2_begin_0 o_t_figures ?_))
      intro τ6 eτ6
      have h := h τ6 eτ6
      show WP l mX11_figure (rm d 0 0) noX _ 0 0 41 [(2, t), (0, x1), (0, x2), (0, v3), (3, 0), (3, 0)] [] N Λ τ6
      refine r_iconst (x := 0) d_X11_figure_41 ⟨by decide, by decide⟩ ?_
      refine r_istore (L2 := [(2, t), (0, x1), (0, x2), (0, v3), (0, 0), (3, 0)]) d_X11_figure_42 (by decide) rfl rfl ?_
      refine r_iconst (x := 0) d_X11_figure_44 ⟨by decide, by decide⟩ ?_
      refine r_istore (L2 := [(2, t), (0, x1), (0, x2), (0, v3), (0, 0), (0, 0)]) d_X11_figure_45 (by decide) rfl rfl ?_
      exact h
    · have h := h.2 hc
      refine r_aload_n (x := t) d_X11_figure_29 rfl o_t.1 ?_
      refine x_callVI (Y2 := mX11_badText) (c := t) (As := []) (S := []) d_X11_figure_30 ok_mX11_badText ml_X11_109 rfl (Nat.le_of_ble_eq_true rfl) (Nat.le_of_ble_eq_true rfl) rfl hd_1 kX11 o_t (c_X11_badText (v_X11_badText_0 o_t f_t_tape o_t_tape ?_))
      intro τ7 eτ7
      have h := h τ7 eτ7
      show WP l mX11_figure (rm d 0 0) noX _ 0 0 33 [(2, t), (0, x1), (0, x2), (0, v3), (3, 0), (3, 0)] [(0, (subI (-30) (τ7 t_tape 2)))] N Λ τ7
      exact r_iret d_X11_figure_33 rfl rfl (Nat.le_refl 0) (Nat.le_refl 0) ⟨_, rfl, rfl, rfl, h⟩
  · have h := h.2 hc
    refine r_iload_n (x := v3) d_X11_figure_16 rfl ?_
    exact r_iret d_X11_figure_17 rfl rfl (Nat.le_refl 0) (Nat.le_refl 0) ⟨_, rfl, rfl, rfl, h⟩
theorem v_X11_figure_47 {l : Launch} {d N : Nat} {Λ : Lay} {P : Int → Mem → Prop} {σ : Mem} {x1 x2 x3 x4 x5 t t_figures t_figures_stack t_tape t_tape_bytes t_work : Int} (o_t : Ob N Λ t 20 14) (f_t_tape : (Λ t).2.2 4 = t_tape) (o_t_tape : Ob N Λ t_tape 18 6) (f_t_figures : (Λ t).2.2 6 = t_figures) (f_t_work : (Λ t).2.2 11 = t_work) (o_t_figures : Ob N Λ t_figures 12 9) (o_t_work : Ob N Λ t_work 15 3) (f_t_figures_stack : (Λ t_figures).2.2 1 = t_figures_stack) (f_t_tape_bytes : (Λ t_tape).2.2 0 = t_tape_bytes) (h0d : 2 ≤ d)
    (h : ((x2 ≤ x5 → ((¬ x4 = 0 → ((¬ x4 = 0 → (CI l mX11_keep (d - 1 - 1) [(2, t), (0, x1), (0, x4)] N Λ σ (fun v1 σ2 => P v1 σ2))) ∧ (x4 = 0 → (∀ τ3, τ3 = st σ t_tape 1 0 → (CI l mX11_keep (d - 1 - 1) [(2, t), (0, x1), (0, x4)] N Λ τ3 (fun v4 σ5 => P v4 σ5)))))) ∧ (x4 = 0 → (Ix N Λ t_figures_stack 0 0 ∧ (Ix N Λ t_figures_stack 0 1 ∧ (Ix N Λ t_figures_stack 0 2 ∧ (CI l mX2_makeBracket (d - 1 - 1) [(2, t_figures), (2, t_work), (0, (σ t_figures_stack 0)), (0, (σ t_figures_stack 1)), (0, (σ t_figures_stack 2))] N Λ σ (fun v6 σ7 => ((¬ v6 = 0 → (CI l mX11_keep (d - 1 - 1) [(2, t), (0, x1), (0, v6)] N Λ σ7 (fun v8 σ9 => P v8 σ9))) ∧ (v6 = 0 → (∀ τ10, τ10 = st σ7 t_tape 1 0 → (CI l mX11_keep (d - 1 - 1) [(2, t), (0, x1), (0, v6)] N Λ τ10 (fun v11 σ12 => P v11 σ12))))))))))))) ∧ (¬ (x2 ≤ x5) → ((¬ x4 = 0 → ((¬ x4 = 0 → ((¬ x4 = 0 → (CI l mX11_keep (d - 1 - 1) [(2, t), (0, x1), (0, x4)] N Λ σ (fun v13 σ14 => P v13 σ14))) ∧ (x4 = 0 → (∀ τ15, τ15 = st σ t_tape 1 0 → (CI l mX11_keep (d - 1 - 1) [(2, t), (0, x1), (0, x4)] N Λ τ15 (fun v16 σ17 => P v16 σ17)))))) ∧ (x4 = 0 → (Ix N Λ t_figures_stack 0 0 ∧ (Ix N Λ t_figures_stack 0 1 ∧ (Ix N Λ t_figures_stack 0 2 ∧ (CI l mX2_makeBracket (d - 1 - 1) [(2, t_figures), (2, t_work), (0, (σ t_figures_stack 0)), (0, (σ t_figures_stack 1)), (0, (σ t_figures_stack 2))] N Λ σ (fun v18 σ19 => ((¬ v18 = 0 → (CI l mX11_keep (d - 1 - 1) [(2, t), (0, x1), (0, v18)] N Λ σ19 (fun v20 σ21 => P v20 σ21))) ∧ (v18 = 0 → (∀ τ22, τ22 = st σ19 t_tape 1 0 → (CI l mX11_keep (d - 1 - 1) [(2, t), (0, x1), (0, v18)] N Λ τ22 (fun v23 σ24 => P v23 σ24))))))))))))) ∧ (x4 = 0 → (Ix N Λ t_tape_bytes 0 x5 ∧ (CI l mX2_take (d - 1) [(2, t_figures), (0, (σ t_tape_bytes x5))] N Λ σ (fun v26 σ25 => (∀ y27, y27 = addI x5 1 → WI l mX11_figure d P 47 [(2, t), (0, x1), (0, x2), (0, x3), (0, v26), (0, y27)] [] N Λ σ25))))))))) :
    WI l mX11_figure d P 47 [(2, t), (0, x1), (0, x2), (0, x3), (0, x4), (0, x5)] [] N Λ σ := by
  have hd_1 : 1 ≤ d := Nat.le_trans (by decide) h0d
  have he_1 : 1 ≤ d - 1 := Nat.le_sub_of_add_le (Nat.le_trans (by decide) h0d)
  refine r_iload (x := x5) d_X11_figure_47 rfl ?_
  refine r_iload_n (x := x2) d_X11_figure_49 rfl ?_
  refine r_ic_ge (tgt := 83) d_X11_figure_50 rfl (fun hc => ?_) (fun hc => ?_)
  · have h := h.1 hc
    refine r_aload_n (x := t) d_X11_figure_83 rfl o_t.1 ?_
    refine r_iload_n (x := x1) d_X11_figure_84 rfl ?_
    refine r_iload (x := x4) d_X11_figure_85 rfl ?_
    refine r_if_ne (tgt := 104) d_X11_figure_87 rfl (fun hc => ?_) (fun hc => ?_)
    · have h := h.1 hc
      refine r_iload (x := x4) d_X11_figure_104 rfl ?_
      refine x_callVI (Y2 := mX11_keepText) (c := t) (As := [(0, x1), (0, x4)]) (S := []) d_X11_figure_106 ok_mX11_keepText ml_X11_117 rfl (Nat.le_of_ble_eq_true rfl) (Nat.le_of_ble_eq_true rfl) rfl hd_1 kX11 o_t (c_X11_keepText (v_X11_keepText_0 o_t f_t_tape o_t_tape he_1 ?_))
      refine ⟨fun hc => ?_, fun hc => ?_⟩
      · have h := h.1 hc
        refine CI.mono h (fun v1 σ2 h => ?_)
        show WP l mX11_figure (rm d 0 0) noX _ 0 0 109 [(2, t), (0, x1), (0, x2), (0, x3), (0, x4), (0, x5)] [(0, v1)] N Λ σ2
        exact r_iret d_X11_figure_109 rfl rfl (Nat.le_refl 0) (Nat.le_refl 0) ⟨_, rfl, rfl, rfl, h⟩
      · have h := h.2 hc
        intro τ3 eτ3
        have h := h τ3 eτ3
        refine CI.mono h (fun v4 σ5 h => ?_)
        show WP l mX11_figure (rm d 0 0) noX _ 0 0 109 [(2, t), (0, x1), (0, x2), (0, x3), (0, x4), (0, x5)] [(0, v4)] N Λ σ5
        exact r_iret d_X11_figure_109 rfl rfl (Nat.le_refl 0) (Nat.le_refl 0) ⟨_, rfl, rfl, rfl, h⟩
    · have h := h.2 hc
      refine r_aload_n (x := t) d_X11_figure_90 rfl o_t.1 ?_
      refine r_getf (j := 6) (t := 2) (x := t_figures) d_X11_figure_91 kX11 (by decide) fl_X11_48 o_t.1 o_t.2.1 o_t.2.2.1 o_t.2.2.2 rfl f_t_figures ?_
      refine r_aload_n (x := t) d_X11_figure_94 rfl o_t.1 ?_
      refine r_getf (j := 11) (t := 2) (x := t_work) d_X11_figure_95 kX11 (by decide) fl_X11_83 o_t.1 o_t.2.1 o_t.2.2.1 o_t.2.2.2 rfl f_t_work ?_
      refine x_callVI (Y2 := mX2_makeFigure) (c := t_figures) (As := [(2, t_work)]) (S := [(0, x1), (2, t)]) d_X11_figure_98 ok_mX2_makeFigure ml_X11_133 rfl (Nat.le_of_ble_eq_true rfl) (Nat.le_of_ble_eq_true rfl) rfl hd_1 kX2 o_t_figures (c_X2_makeFigure (v_X2_makeFigure_0 o_t_figures o_t_work f_t_figures_stack he_1 ?_))
      refine ⟨h.1, ?_⟩
      have h := h.2
      refine ⟨h.1, ?_⟩
      have h := h.2
      refine ⟨h.1, ?_⟩
      have h := h.2
      refine CI.mono h (fun v6 σ7 h => ?_)
      show WP l mX11_figure (rm d 0 0) noX _ 0 0 101 [(2, t), (0, x1), (0, x2), (0, x3), (0, x4), (0, x5)] [(0, v6), (0, x1), (2, t)] N Λ σ7
      refine r_goto (tgt := 106) d_X11_figure_101 rfl ?_
      refine x_callVI (Y2 := mX11_keepText) (c := t) (As := [(0, x1), (0, v6)]) (S := []) d_X11_figure_106 ok_mX11_keepText ml_X11_117 rfl (Nat.le_of_ble_eq_true rfl) (Nat.le_of_ble_eq_true rfl) rfl hd_1 kX11 o_t (c_X11_keepText (v_X11_keepText_0 o_t f_t_tape o_t_tape he_1 ?_))
      refine ⟨fun hc => ?_, fun hc => ?_⟩
      · have h := h.1 hc
        refine CI.mono h (fun v8 σ9 h => ?_)
        show WP l mX11_figure (rm d 0 0) noX _ 0 0 109 [(2, t), (0, x1), (0, x2), (0, x3), (0, x4), (0, x5)] [(0, v8)] N Λ σ9
        exact r_iret d_X11_figure_109 rfl rfl (Nat.le_refl 0) (Nat.le_refl 0) ⟨_, rfl, rfl, rfl, h⟩
      · have h := h.2 hc
        intro τ10 eτ10
        have h := h τ10 eτ10
        refine CI.mono h (fun v11 σ12 h => ?_)
        show WP l mX11_figure (rm d 0 0) noX _ 0 0 109 [(2, t), (0, x1), (0, x2), (0, x3), (0, x4), (0, x5)] [(0, v11)] N Λ σ12
        exact r_iret d_X11_figure_109 rfl rfl (Nat.le_refl 0) (Nat.le_refl 0) ⟨_, rfl, rfl, rfl, h⟩
  · have h := h.2 hc
    refine r_iload (x := x4) d_X11_figure_53 rfl ?_
    refine r_if_ne (tgt := 83) d_X11_figure_55 rfl (fun hc => ?_) (fun hc => ?_)
    · have h := h.1 hc
      refine r_aload_n (x := t) d_X11_figure_83 rfl o_t.1 ?_
      refine r_iload_n (x := x1) d_X11_figure_84 rfl ?_
      refine r_iload (x := x4) d_X11_figure_85 rfl ?_
      refine r_if_ne (tgt := 104) d_X11_figure_87 rfl (fun hc => ?_) (fun hc => ?_)
      · have h := h.1 hc
        refine r_iload (x := x4) d_X11_figure_104 rfl ?_
        refine x_callVI (Y2 := mX11_keepText) (c := t) (As := [(0, x1), (0, x4)]) (S := []) d_X11_figure_106 ok_mX11_keepText ml_X11_117 rfl (Nat.le_of_ble_eq_true rfl) (Nat.le_of_ble_eq_true rfl) rfl hd_1 kX11 o_t (c_X11_keepText (v_X11_keepText_0 o_t f_t_tape o_t_tape he_1 ?_))
        refine ⟨fun hc => ?_, fun hc => ?_⟩
        · have h := h.1 hc
          refine CI.mono h (fun v13 σ14 h => ?_)
          show WP l mX11_figure (rm d 0 0) noX _ 0 0 109 [(2, t), (0, x1), (0, x2), (0, x3), (0, x4), (0, x5)] [(0, v13)] N Λ σ14
          exact r_iret d_X11_figure_109 rfl rfl (Nat.le_refl 0) (Nat.le_refl 0) ⟨_, rfl, rfl, rfl, h⟩
        · have h := h.2 hc
          intro τ15 eτ15
          have h := h τ15 eτ15
          refine CI.mono h (fun v16 σ17 h => ?_)
          show WP l mX11_figure (rm d 0 0) noX _ 0 0 109 [(2, t), (0, x1), (0, x2), (0, x3), (0, x4), (0, x5)] [(0, v16)] N Λ σ17
          exact r_iret d_X11_figure_109 rfl rfl (Nat.le_refl 0) (Nat.le_refl 0) ⟨_, rfl, rfl, rfl, h⟩
      · have h := h.2 hc
        refine r_aload_n (x := t) d_X11_figure_90 rfl o_t.1 ?_
        refine r_getf (j := 6) (t := 2) (x := t_figures) d_X11_figure_91 kX11 (by decide) fl_X11_48 o_t.1 o_t.2.1 o_t.2.2.1 o_t.2.2.2 rfl f_t_figures ?_
        refine r_aload_n (x := t) d_X11_figure_94 rfl o_t.1 ?_
        refine r_getf (j := 11) (t := 2) (x := t_work) d_X11_figure_95 kX11 (by decide) fl_X11_83 o_t.1 o_t.2.1 o_t.2.2.1 o_t.2.2.2 rfl f_t_work ?_
        refine x_callVI (Y2 := mX2_makeFigure) (c := t_figures) (As := [(2, t_work)]) (S := [(0, x1), (2, t)]) d_X11_figure_98 ok_mX2_makeFigure ml_X11_133 rfl (Nat.le_of_ble_eq_true rfl) (Nat.le_of_ble_eq_true rfl) rfl hd_1 kX2 o_t_figures (c_X2_makeFigure (v_X2_makeFigure_0 o_t_figures o_t_work f_t_figures_stack he_1 ?_))
        refine ⟨h.1, ?_⟩
        have h := h.2
        refine ⟨h.1, ?_⟩
        have h := h.2
        refine ⟨h.1, ?_⟩
        have h := h.2
        refine CI.mono h (fun v18 σ19 h => ?_)
        show WP l mX11_figure (rm d 0 0) noX _ 0 0 101 [(2, t), (0, x1), (0, x2), (0, x3), (0, x4), (0, x5)] [(0, v18), (0, x1), (2, t)] N Λ σ19
        refine r_goto (tgt := 106) d_X11_figure_101 rfl ?_
        refine x_callVI (Y2 := mX11_keepText) (c := t) (As := [(0, x1), (0, v18)]) (S := []) d_X11_figure_106 ok_mX11_keepText ml_X11_117 rfl (Nat.le_of_ble_eq_true rfl) (Nat.le_of_ble_eq_true rfl) rfl hd_1 kX11 o_t (c_X11_keepText (v_X11_keepText_0 o_t f_t_tape o_t_tape he_1 ?_))
        refine ⟨fun hc => ?_, fun hc => ?_⟩
        · have h := h.1 hc
          refine CI.mono h (fun v20 σ21 h => ?_)
          show WP l mX11_figure (rm d 0 0) noX _ 0 0 109 [(2, t), (0, x1), (0, x2), (0, x3), (0, x4), (0, x5)] [(0, v20)] N Λ σ21
          exact r_iret d_X11_figure_109 rfl rfl (Nat.le_refl 0) (Nat.le_refl 0) ⟨_, rfl, rfl, rfl, h⟩
        · have h := h.2 hc
          intro τ22 eτ22
          have h := h τ22 eτ22
          refine CI.mono h (fun v23 σ24 h => ?_)
          show WP l mX11_figure (rm d 0 0) noX _ 0 0 109 [(2, t), (0, x1), (0, x2), (0, x3), (0, x4), (0, x5)] [(0, v23)] N Λ σ24
          exact r_iret d_X11_figure_109 rfl rfl (Nat.le_refl 0) (Nat.le_refl 0) ⟨_, rfl, rfl, rfl, h⟩
    · have h := h.2 hc
      refine r_aload_n (x := t) d_X11_figure_58 rfl o_t.1 ?_
      refine r_getf (j := 6) (t := 2) (x := t_figures) d_X11_figure_59 kX11 (by decide) fl_X11_48 o_t.1 o_t.2.1 o_t.2.2.1 o_t.2.2.2 rfl f_t_figures ?_
      refine r_aload_n (x := t) d_X11_figure_62 rfl o_t.1 ?_
      refine r_getf (j := 4) (t := 2) (x := t_tape) d_X11_figure_63 kX11 (by decide) fl_X11_34 o_t.1 o_t.2.1 o_t.2.2.1 o_t.2.2.2 rfl f_t_tape ?_
      refine r_getf (j := 0) (t := 2) (x := t_tape_bytes) d_X11_figure_66 kX9 (by decide) fl_X11_126 o_t_tape.1 o_t_tape.2.1 o_t_tape.2.2.1 o_t_tape.2.2.2 rfl f_t_tape_bytes ?_
      refine r_iload (x := x5) d_X11_figure_69 rfl ?_
      refine x_iald d_X11_figure_71 h.1 ?_
      have h := h.2
      refine x_callVI (Y2 := mX2_take) (c := t_figures) (As := [(0, (σ t_tape_bytes x5))]) (S := []) d_X11_figure_72 ok_mX2_take ml_X11_130 rfl (Nat.le_of_ble_eq_true rfl) (Nat.le_of_ble_eq_true rfl) rfl hd_1 kX2 o_t_figures (CI.mono h (fun v26 σ25 h => ?_))
      refine r_istore (L2 := [(2, t), (0, x1), (0, x2), (0, x3), (0, v26), (0, x5)]) d_X11_figure_75 (by decide) rfl rfl ?_
      refine x_iinc (x := x5) (L := [(2, t), (0, x1), (0, x2), (0, x3), (0, v26), (0, x5)]) d_X11_figure_77 rfl (by decide) rfl (fun y27 ey27 => ?_)
      have h := h y27 ey27
      show WP _ _ _ _ _ _ _ _ [(2, t), (0, x1), (0, x2), (0, x3), (0, v26), (0, y27)] _ _ _ _
      refine r_goto (tgt := 47) d_X11_figure_80 rfl ?_
      exact h
theorem v_X11_fault_0 {l : Launch} {d N : Nat} {Λ : Lay} {P : Int → Mem → Prop} {σ : Mem} {x1 t t_tape : Int} (o_t : Ob N Λ t 20 14) (f_t_tape : (Λ t).2.2 4 = t_tape) (o_t_tape : Ob N Λ t_tape 18 6)
    (h : ((¬ x1 = 0 → ((¬ x1 = 1 → P (-1) σ) ∧ (x1 = 1 → P (σ t_tape 3) σ))) ∧ (x1 = 0 → P (σ t_tape 2) σ))) :
    WI l mX11_fault d P 0 [(2, t), (0, x1)] [] N Λ σ := by
  refine r_iload_n (x := x1) d_X11_fault_0 rfl ?_
  refine r_if_ne (tgt := 12) d_X11_fault_1 rfl (fun hc => ?_) (fun hc => ?_)
  · have h := h.1 hc
    refine r_iload_n (x := x1) d_X11_fault_12 rfl ?_
    refine r_iconst (x := 1) d_X11_fault_13 ⟨by decide, by decide⟩ ?_
    refine r_ic_ne (tgt := 27) d_X11_fault_14 rfl (fun hc => ?_) (fun hc => ?_)
    · have h := h.1 hc
      refine r_iconst (x := (-1)) d_X11_fault_27 ⟨by decide, by decide⟩ ?_
      exact r_iret d_X11_fault_28 rfl rfl (Nat.le_refl 0) (Nat.le_refl 0) ⟨_, rfl, rfl, rfl, h⟩
    · have h := h.2 hc
      refine r_aload_n (x := t) d_X11_fault_17 rfl o_t.1 ?_
      refine r_getf (j := 4) (t := 2) (x := t_tape) d_X11_fault_18 kX11 (by decide) fl_X11_34 o_t.1 o_t.2.1 o_t.2.2.1 o_t.2.2.2 rfl f_t_tape ?_
      refine r_getf (j := 3) (t := 0) (x := (σ t_tape 3)) d_X11_fault_21 kX9 (by decide) fl_X11_140 o_t_tape.1 o_t_tape.2.1 o_t_tape.2.2.1 o_t_tape.2.2.2 rfl rfl ?_
      refine r_goto (tgt := 28) d_X11_fault_24 rfl ?_
      exact r_iret d_X11_fault_28 rfl rfl (Nat.le_refl 0) (Nat.le_refl 0) ⟨_, rfl, rfl, rfl, h⟩
  · have h := h.2 hc
    refine r_aload_n (x := t) d_X11_fault_4 rfl o_t.1 ?_
    refine r_getf (j := 4) (t := 2) (x := t_tape) d_X11_fault_5 kX11 (by decide) fl_X11_34 o_t.1 o_t.2.1 o_t.2.2.1 o_t.2.2.2 rfl f_t_tape ?_
    refine r_getf (j := 2) (t := 0) (x := (σ t_tape 2)) d_X11_fault_8 kX9 (by decide) fl_X11_137 o_t_tape.1 o_t_tape.2.1 o_t_tape.2.2.1 o_t_tape.2.2.2 rfl rfl ?_
    exact r_iret d_X11_fault_11 rfl rfl (Nat.le_refl 0) (Nat.le_refl 0) ⟨_, rfl, rfl, rfl, h⟩
theorem v_X11_why_0 {l : Launch} {d N : Nat} {Λ : Lay} {P : Int → Mem → Prop} {σ : Mem} {t : Int} (o_t : Ob N Λ t 20 14)
    (h : P (σ t 13) σ) :
    WI l mX11_why d P 0 [(2, t)] [] N Λ σ := by
  refine r_aload_n (x := t) d_X11_why_0 rfl o_t.1 ?_
  refine r_getf (j := 13) (t := 0) (x := (σ t 13)) d_X11_why_1 kX11 (by decide) fl_X11_90 o_t.1 o_t.2.1 o_t.2.2.1 o_t.2.2.2 rfl rfl ?_
  exact r_iret d_X11_why_4 rfl rfl (Nat.le_refl 0) (Nat.le_refl 0) ⟨_, rfl, rfl, rfl, h⟩
theorem v_X11_clear_0 {l : Launch} {d N : Nat} {Λ : Lay} {P : Int → Mem → Prop} {σ : Mem} {x1 t t_now t_now_shelves t_work : Int} (o_t : Ob N Λ t 20 14) (f_t_now : (Λ t).2.2 0 = t_now) (o_t_now : Ob N Λ t_now 16 3) (f_t_now_shelves : (Λ t_now).2.2 0 = t_now_shelves) (f_t_work : (Λ t).2.2 11 = t_work) (o_t_work : Ob N Λ t_work 15 3) (h0d : 1 ≤ d)
    (h : ((x1 < 0 → P (-2) σ) ∧ (¬ (x1 < 0) → ((6 ≤ x1 → P (-2) σ) ∧ (¬ (6 ≤ x1) → (Ix N Λ t_now_shelves 3 x1 ∧ (∀ b1, b1 = (Λ t_now_shelves).2.2 x1 → (Ob N Λ b1 15 3 ∧ (∀ y2, y2 = (σ b1 2) → (∀ τ3, τ3 = st σ t_work 2 0 → (CI l mX11_keep (d - 1) [(2, t), (0, x1), (0, 0)] N Λ τ3 (fun v5 σ4 => P y2 σ4)))))))))))) :
    WI l mX11_clear d P 0 [(2, t), (0, x1), (3, 0)] [] N Λ σ := by
  have hd_1 : 1 ≤ d := Nat.le_trans (by decide) h0d
  refine r_iload_n (x := x1) d_X11_clear_0 rfl ?_
  refine x_callSI (Y2 := mX11_isShelf) (As := [(0, x1)]) (S := []) d_X11_clear_1 ok_mX11_isShelf ml_X11_143 rfl (Nat.le_of_ble_eq_true rfl) (Nat.le_of_ble_eq_true rfl) rfl hd_1 (c_X11_isShelf (v_X11_isShelf_0 ?_))
  refine ⟨fun hc => ?_, fun hc => ?_⟩
  · have h := h.1 hc
    show WP l mX11_clear (rm d 0 0) noX _ 0 0 4 [(2, t), (0, x1), (3, 0)] [(0, 0)] N Λ σ
    refine r_if_ne (tgt := 10) d_X11_clear_4 rfl (fun hc => absurd hc (by decide)) (fun _ => ?_)
    refine r_bipush (x := (-2)) d_X11_clear_7 ⟨by decide, by decide⟩ (by decide) ?_
    exact r_iret d_X11_clear_9 rfl rfl (Nat.le_refl 0) (Nat.le_refl 0) ⟨_, rfl, rfl, rfl, h⟩
  · have h := h.2 hc
    refine ⟨fun hc => ?_, fun hc => ?_⟩
    · have h := h.1 hc
      show WP l mX11_clear (rm d 0 0) noX _ 0 0 4 [(2, t), (0, x1), (3, 0)] [(0, 0)] N Λ σ
      refine r_if_ne (tgt := 10) d_X11_clear_4 rfl (fun hc => absurd hc (by decide)) (fun _ => ?_)
      refine r_bipush (x := (-2)) d_X11_clear_7 ⟨by decide, by decide⟩ (by decide) ?_
      exact r_iret d_X11_clear_9 rfl rfl (Nat.le_refl 0) (Nat.le_refl 0) ⟨_, rfl, rfl, rfl, h⟩
    · have h := h.2 hc
      show WP l mX11_clear (rm d 0 0) noX _ 0 0 4 [(2, t), (0, x1), (3, 0)] [(0, 1)] N Λ σ
      refine r_if_ne (tgt := 10) d_X11_clear_4 rfl (fun _ => ?_) (fun hc => absurd hc (by decide))
      refine r_aload_n (x := t) d_X11_clear_10 rfl o_t.1 ?_
      refine r_getf (j := 0) (t := 2) (x := t_now) d_X11_clear_11 kX11 (by decide) fl_X11_10 o_t.1 o_t.2.1 o_t.2.2.1 o_t.2.2.2 rfl f_t_now ?_
      refine r_getf (j := 0) (t := 2) (x := t_now_shelves) d_X11_clear_14 kX7 (by decide) fl_X11_146 o_t_now.1 o_t_now.2.1 o_t_now.2.2.1 o_t_now.2.2.2 rfl f_t_now_shelves ?_
      refine r_iload_n (x := x1) d_X11_clear_17 rfl ?_
      refine x_aald (t := 3) (by decide) d_X11_clear_18 h.1 (fun b1 eb1 => ?_)
      have h := h.2 b1 eb1
      have oob1 := h.1
      have h := h.2
      refine r_getf (j := 2) (t := 0) (x := (σ b1 2)) d_X11_clear_19 kX5 (by decide) fl_X11_150 oob1.1 oob1.2.1 oob1.2.2.1 oob1.2.2.2 rfl rfl ?_
      refine r_nm (fun y2 ey2 => ?_)
      have h := h y2 ey2
      refine r_istore_n (L2 := [(2, t), (0, x1), (0, y2)]) d_X11_clear_22 (by decide) rfl rfl ?_
      refine r_aload_n (x := t) d_X11_clear_23 rfl o_t.1 ?_
      refine r_getf (j := 11) (t := 2) (x := t_work) d_X11_clear_24 kX11 (by decide) fl_X11_83 o_t.1 o_t.2.1 o_t.2.2.1 o_t.2.2.2 rfl f_t_work ?_
      refine x_callVV (Y2 := mX5_empty) (c := t_work) (As := []) (S := []) d_X11_clear_27 ok_mX5_empty ml_X11_151 rfl (Nat.le_of_ble_eq_true rfl) (Nat.le_of_ble_eq_true rfl) rfl hd_1 kX5 o_t_work (c_X5_empty (v_X5_empty_0 o_t_work ?_))
      intro τ3 eτ3
      have h := h τ3 eτ3
      show WP l mX11_clear (rm d 0 0) noX _ 0 0 30 [(2, t), (0, x1), (0, y2)] [] N Λ τ3
      refine r_aload_n (x := t) d_X11_clear_30 rfl o_t.1 ?_
      refine r_iload_n (x := x1) d_X11_clear_31 rfl ?_
      refine r_iconst (x := 0) d_X11_clear_32 ⟨by decide, by decide⟩ ?_
      refine x_callVI (Y2 := mX11_keep) (c := t) (As := [(0, x1), (0, 0)]) (S := []) d_X11_clear_33 ok_mX11_keep ml_X11_154 rfl (Nat.le_of_ble_eq_true rfl) (Nat.le_of_ble_eq_true rfl) rfl hd_1 kX11 o_t (CI.mono h (fun v5 σ4 h => ?_))
      refine r_pop d_X11_clear_36 rfl ?_
      refine r_iload_n (x := y2) d_X11_clear_37 rfl ?_
      exact r_iret d_X11_clear_38 rfl rfl (Nat.le_refl 0) (Nat.le_refl 0) ⟨_, rfl, rfl, rfl, h⟩
theorem v_X11_copy_0 {l : Launch} {d N : Nat} {Λ : Lay} {P : Int → Mem → Prop} {σ : Mem} {x1 x2 t t_now t_now_shelves t_work : Int} (o_t : Ob N Λ t 20 14) (f_t_work : (Λ t).2.2 11 = t_work) (f_t_now : (Λ t).2.2 0 = t_now) (o_t_now : Ob N Λ t_now 16 3) (f_t_now_shelves : (Λ t_now).2.2 0 = t_now_shelves) (o_t_work : Ob N Λ t_work 15 3) (h0d : 1 ≤ d)
    (h : ((x1 < 0 → P (-2) σ) ∧ (¬ (x1 < 0) → ((6 ≤ x1 → P (-2) σ) ∧ (¬ (6 ≤ x1) → ((x2 < 0 → P (-2) σ) ∧ (¬ (x2 < 0) → ((6 ≤ x2 → P (-2) σ) ∧ (¬ (6 ≤ x2) → (Ix N Λ t_now_shelves 3 x2 ∧ (∀ b1, b1 = (Λ t_now_shelves).2.2 x2 → (Ob N Λ b1 15 3 ∧ (CV l mX5_take (d - 1) [(2, t_work), (2, b1)] N Λ σ (fun σ2 => (CI l mX11_keep (d - 1) [(2, t), (0, x1), (0, 0)] N Λ σ2 (fun v4 σ3 => P v4 σ3)))))))))))))))) :
    WI l mX11_copy d P 0 [(2, t), (0, x1), (0, x2)] [] N Λ σ := by
  have hd_1 : 1 ≤ d := Nat.le_trans (by decide) h0d
  refine r_iload_n (x := x1) d_X11_copy_0 rfl ?_
  refine x_callSI (Y2 := mX11_isShelf) (As := [(0, x1)]) (S := []) d_X11_copy_1 ok_mX11_isShelf ml_X11_143 rfl (Nat.le_of_ble_eq_true rfl) (Nat.le_of_ble_eq_true rfl) rfl hd_1 (c_X11_isShelf (v_X11_isShelf_0 ?_))
  refine ⟨fun hc => ?_, fun hc => ?_⟩
  · have h := h.1 hc
    show WP l mX11_copy (rm d 0 0) noX _ 0 0 4 [(2, t), (0, x1), (0, x2)] [(0, 0)] N Λ σ
    refine r_if_eq (tgt := 14) d_X11_copy_4 rfl (fun _ => ?_) (fun hc => absurd hc (by decide))
    refine r_bipush (x := (-2)) d_X11_copy_14 ⟨by decide, by decide⟩ (by decide) ?_
    exact r_iret d_X11_copy_16 rfl rfl (Nat.le_refl 0) (Nat.le_refl 0) ⟨_, rfl, rfl, rfl, h⟩
  · have h := h.2 hc
    refine ⟨fun hc => ?_, fun hc => ?_⟩
    · have h := h.1 hc
      show WP l mX11_copy (rm d 0 0) noX _ 0 0 4 [(2, t), (0, x1), (0, x2)] [(0, 0)] N Λ σ
      refine r_if_eq (tgt := 14) d_X11_copy_4 rfl (fun _ => ?_) (fun hc => absurd hc (by decide))
      refine r_bipush (x := (-2)) d_X11_copy_14 ⟨by decide, by decide⟩ (by decide) ?_
      exact r_iret d_X11_copy_16 rfl rfl (Nat.le_refl 0) (Nat.le_refl 0) ⟨_, rfl, rfl, rfl, h⟩
    · have h := h.2 hc
      show WP l mX11_copy (rm d 0 0) noX _ 0 0 4 [(2, t), (0, x1), (0, x2)] [(0, 1)] N Λ σ
      refine r_if_eq (tgt := 14) d_X11_copy_4 rfl (fun hc => absurd hc (by decide)) (fun _ => ?_)
      refine r_iload_n (x := x2) d_X11_copy_7 rfl ?_
      refine x_callSI (Y2 := mX11_isShelf) (As := [(0, x2)]) (S := []) d_X11_copy_8 ok_mX11_isShelf ml_X11_143 rfl (Nat.le_of_ble_eq_true rfl) (Nat.le_of_ble_eq_true rfl) rfl hd_1 (c_X11_isShelf (v_X11_isShelf_0 ?_))
      refine ⟨fun hc => ?_, fun hc => ?_⟩
      · have h := h.1 hc
        show WP l mX11_copy (rm d 0 0) noX _ 0 0 11 [(2, t), (0, x1), (0, x2)] [(0, 0)] N Λ σ
        refine r_if_ne (tgt := 17) d_X11_copy_11 rfl (fun hc => absurd hc (by decide)) (fun _ => ?_)
        refine r_bipush (x := (-2)) d_X11_copy_14 ⟨by decide, by decide⟩ (by decide) ?_
        exact r_iret d_X11_copy_16 rfl rfl (Nat.le_refl 0) (Nat.le_refl 0) ⟨_, rfl, rfl, rfl, h⟩
      · have h := h.2 hc
        refine ⟨fun hc => ?_, fun hc => ?_⟩
        · have h := h.1 hc
          show WP l mX11_copy (rm d 0 0) noX _ 0 0 11 [(2, t), (0, x1), (0, x2)] [(0, 0)] N Λ σ
          refine r_if_ne (tgt := 17) d_X11_copy_11 rfl (fun hc => absurd hc (by decide)) (fun _ => ?_)
          refine r_bipush (x := (-2)) d_X11_copy_14 ⟨by decide, by decide⟩ (by decide) ?_
          exact r_iret d_X11_copy_16 rfl rfl (Nat.le_refl 0) (Nat.le_refl 0) ⟨_, rfl, rfl, rfl, h⟩
        · have h := h.2 hc
          show WP l mX11_copy (rm d 0 0) noX _ 0 0 11 [(2, t), (0, x1), (0, x2)] [(0, 1)] N Λ σ
          refine r_if_ne (tgt := 17) d_X11_copy_11 rfl (fun _ => ?_) (fun hc => absurd hc (by decide))
          refine r_aload_n (x := t) d_X11_copy_17 rfl o_t.1 ?_
          refine r_getf (j := 11) (t := 2) (x := t_work) d_X11_copy_18 kX11 (by decide) fl_X11_83 o_t.1 o_t.2.1 o_t.2.2.1 o_t.2.2.2 rfl f_t_work ?_
          refine r_aload_n (x := t) d_X11_copy_21 rfl o_t.1 ?_
          refine r_getf (j := 0) (t := 2) (x := t_now) d_X11_copy_22 kX11 (by decide) fl_X11_10 o_t.1 o_t.2.1 o_t.2.2.1 o_t.2.2.2 rfl f_t_now ?_
          refine r_getf (j := 0) (t := 2) (x := t_now_shelves) d_X11_copy_25 kX7 (by decide) fl_X11_146 o_t_now.1 o_t_now.2.1 o_t_now.2.2.1 o_t_now.2.2.2 rfl f_t_now_shelves ?_
          refine r_iload_n (x := x2) d_X11_copy_28 rfl ?_
          refine x_aald (t := 3) (by decide) d_X11_copy_29 h.1 (fun b1 eb1 => ?_)
          have h := h.2 b1 eb1
          have oob1 := h.1
          have h := h.2
          refine x_callVV (Y2 := mX5_take) (c := t_work) (As := [(2, b1)]) (S := []) d_X11_copy_30 ok_mX5_take ml_X11_157 rfl (Nat.le_of_ble_eq_true rfl) (Nat.le_of_ble_eq_true rfl) rfl hd_1 kX5 o_t_work (CV.mono h (fun σ2 h => ?_))
          refine r_aload_n (x := t) d_X11_copy_33 rfl o_t.1 ?_
          refine r_iload_n (x := x1) d_X11_copy_34 rfl ?_
          refine r_iconst (x := 0) d_X11_copy_35 ⟨by decide, by decide⟩ ?_
          refine x_callVI (Y2 := mX11_keep) (c := t) (As := [(0, x1), (0, 0)]) (S := []) d_X11_copy_36 ok_mX11_keep ml_X11_154 rfl (Nat.le_of_ble_eq_true rfl) (Nat.le_of_ble_eq_true rfl) rfl hd_1 kX11 o_t (CI.mono h (fun v4 σ3 h => ?_))
          exact r_iret d_X11_copy_39 rfl rfl (Nat.le_refl 0) (Nat.le_refl 0) ⟨_, rfl, rfl, rfl, h⟩
theorem v_X11_isLetter_0 {l : Launch} {d N : Nat} {Λ : Lay} {P : Int → Mem → Prop} {σ : Mem} {x0 : Int}
    (h : ((x0 < 0 → P 0 σ) ∧ (¬ (x0 < 0) → ((10 ≤ x0 → P 0 σ) ∧ (¬ (10 ≤ x0) → P 1 σ))))) :
    WI l mX11_isLetter d P 0 [(0, x0)] [] N Λ σ := by
  refine r_iload_n (x := x0) d_X11_isLetter_0 rfl ?_
  refine r_if_lt (tgt := 14) d_X11_isLetter_1 rfl (fun hc => ?_) (fun hc => ?_)
  · have h := h.1 hc
    refine r_iconst (x := 0) d_X11_isLetter_14 ⟨by decide, by decide⟩ ?_
    exact r_iret d_X11_isLetter_15 rfl (by decide) (Nat.le_refl 0) (Nat.le_refl 0) ⟨_, rfl, rfl, rfl, h⟩
  · have h := h.2 hc
    refine r_iload_n (x := x0) d_X11_isLetter_4 rfl ?_
    refine r_bipush (x := 10) d_X11_isLetter_5 ⟨by decide, by decide⟩ (by decide) ?_
    refine r_ic_ge (tgt := 14) d_X11_isLetter_7 rfl (fun hc => ?_) (fun hc => ?_)
    · have h := h.1 hc
      refine r_iconst (x := 0) d_X11_isLetter_14 ⟨by decide, by decide⟩ ?_
      exact r_iret d_X11_isLetter_15 rfl (by decide) (Nat.le_refl 0) (Nat.le_refl 0) ⟨_, rfl, rfl, rfl, h⟩
    · have h := h.2 hc
      refine r_iconst (x := 1) d_X11_isLetter_10 ⟨by decide, by decide⟩ ?_
      refine r_goto (tgt := 15) d_X11_isLetter_11 rfl ?_
      exact r_iret d_X11_isLetter_15 rfl (by decide) (Nat.le_refl 0) (Nat.le_refl 0) ⟨_, rfl, rfl, rfl, h⟩
theorem v_X11_areLetters_0 {l : Launch} {d N : Nat} {Λ : Lay} {P : Int → Mem → Prop} {σ : Mem} {x0 x1 x2 : Int} (h0d : 1 ≤ d)
    (h : ((x0 < 0 → P 0 σ) ∧ (¬ (x0 < 0) → ((10 ≤ x0 → P 0 σ) ∧ (¬ (10 ≤ x0) → ((x1 < 0 → P 0 σ) ∧ (¬ (x1 < 0) → ((10 ≤ x1 → P 0 σ) ∧ (¬ (10 ≤ x1) → ((x2 < 0 → P 0 σ) ∧ (¬ (x2 < 0) → ((10 ≤ x2 → P 0 σ) ∧ (¬ (10 ≤ x2) → P 1 σ))))))))))))) :
    WI l mX11_areLetters d P 0 [(0, x0), (0, x1), (0, x2)] [] N Λ σ := by
  have hd_1 : 1 ≤ d := Nat.le_trans (by decide) h0d
  refine r_iload_n (x := x0) d_X11_areLetters_0 rfl ?_
  refine x_callSI (Y2 := mX11_isLetter) (As := [(0, x0)]) (S := []) d_X11_areLetters_1 ok_mX11_isLetter ml_X11_205 rfl (Nat.le_of_ble_eq_true rfl) (Nat.le_of_ble_eq_true rfl) rfl hd_1 (c_X11_isLetter (v_X11_isLetter_0 ?_))
  refine ⟨fun hc => ?_, fun hc => ?_⟩
  · have h := h.1 hc
    show WP l mX11_areLetters (rm d 0 0) noX _ 0 0 4 [(0, x0), (0, x1), (0, x2)] [(0, 0)] N Λ σ
    refine r_if_eq (tgt := 25) d_X11_areLetters_4 rfl (fun _ => ?_) (fun hc => absurd hc (by decide))
    refine r_iconst (x := 0) d_X11_areLetters_25 ⟨by decide, by decide⟩ ?_
    exact r_iret d_X11_areLetters_26 rfl (by decide) (Nat.le_refl 0) (Nat.le_refl 0) ⟨_, rfl, rfl, rfl, h⟩
  · have h := h.2 hc
    refine ⟨fun hc => ?_, fun hc => ?_⟩
    · have h := h.1 hc
      show WP l mX11_areLetters (rm d 0 0) noX _ 0 0 4 [(0, x0), (0, x1), (0, x2)] [(0, 0)] N Λ σ
      refine r_if_eq (tgt := 25) d_X11_areLetters_4 rfl (fun _ => ?_) (fun hc => absurd hc (by decide))
      refine r_iconst (x := 0) d_X11_areLetters_25 ⟨by decide, by decide⟩ ?_
      exact r_iret d_X11_areLetters_26 rfl (by decide) (Nat.le_refl 0) (Nat.le_refl 0) ⟨_, rfl, rfl, rfl, h⟩
    · have h := h.2 hc
      show WP l mX11_areLetters (rm d 0 0) noX _ 0 0 4 [(0, x0), (0, x1), (0, x2)] [(0, 1)] N Λ σ
      refine r_if_eq (tgt := 25) d_X11_areLetters_4 rfl (fun hc => absurd hc (by decide)) (fun _ => ?_)
      refine r_iload_n (x := x1) d_X11_areLetters_7 rfl ?_
      refine x_callSI (Y2 := mX11_isLetter) (As := [(0, x1)]) (S := []) d_X11_areLetters_8 ok_mX11_isLetter ml_X11_205 rfl (Nat.le_of_ble_eq_true rfl) (Nat.le_of_ble_eq_true rfl) rfl hd_1 (c_X11_isLetter (v_X11_isLetter_0 ?_))
      refine ⟨fun hc => ?_, fun hc => ?_⟩
      · have h := h.1 hc
        show WP l mX11_areLetters (rm d 0 0) noX _ 0 0 11 [(0, x0), (0, x1), (0, x2)] [(0, 0)] N Λ σ
        refine r_if_eq (tgt := 25) d_X11_areLetters_11 rfl (fun _ => ?_) (fun hc => absurd hc (by decide))
        refine r_iconst (x := 0) d_X11_areLetters_25 ⟨by decide, by decide⟩ ?_
        exact r_iret d_X11_areLetters_26 rfl (by decide) (Nat.le_refl 0) (Nat.le_refl 0) ⟨_, rfl, rfl, rfl, h⟩
      · have h := h.2 hc
        refine ⟨fun hc => ?_, fun hc => ?_⟩
        · have h := h.1 hc
          show WP l mX11_areLetters (rm d 0 0) noX _ 0 0 11 [(0, x0), (0, x1), (0, x2)] [(0, 0)] N Λ σ
          refine r_if_eq (tgt := 25) d_X11_areLetters_11 rfl (fun _ => ?_) (fun hc => absurd hc (by decide))
          refine r_iconst (x := 0) d_X11_areLetters_25 ⟨by decide, by decide⟩ ?_
          exact r_iret d_X11_areLetters_26 rfl (by decide) (Nat.le_refl 0) (Nat.le_refl 0) ⟨_, rfl, rfl, rfl, h⟩
        · have h := h.2 hc
          show WP l mX11_areLetters (rm d 0 0) noX _ 0 0 11 [(0, x0), (0, x1), (0, x2)] [(0, 1)] N Λ σ
          refine r_if_eq (tgt := 25) d_X11_areLetters_11 rfl (fun hc => absurd hc (by decide)) (fun _ => ?_)
          refine r_iload_n (x := x2) d_X11_areLetters_14 rfl ?_
          refine x_callSI (Y2 := mX11_isLetter) (As := [(0, x2)]) (S := []) d_X11_areLetters_15 ok_mX11_isLetter ml_X11_205 rfl (Nat.le_of_ble_eq_true rfl) (Nat.le_of_ble_eq_true rfl) rfl hd_1 (c_X11_isLetter (v_X11_isLetter_0 ?_))
          refine ⟨fun hc => ?_, fun hc => ?_⟩
          · have h := h.1 hc
            show WP l mX11_areLetters (rm d 0 0) noX _ 0 0 18 [(0, x0), (0, x1), (0, x2)] [(0, 0)] N Λ σ
            refine r_if_eq (tgt := 25) d_X11_areLetters_18 rfl (fun _ => ?_) (fun hc => absurd hc (by decide))
            refine r_iconst (x := 0) d_X11_areLetters_25 ⟨by decide, by decide⟩ ?_
            exact r_iret d_X11_areLetters_26 rfl (by decide) (Nat.le_refl 0) (Nat.le_refl 0) ⟨_, rfl, rfl, rfl, h⟩
          · have h := h.2 hc
            refine ⟨fun hc => ?_, fun hc => ?_⟩
            · have h := h.1 hc
              show WP l mX11_areLetters (rm d 0 0) noX _ 0 0 18 [(0, x0), (0, x1), (0, x2)] [(0, 0)] N Λ σ
              refine r_if_eq (tgt := 25) d_X11_areLetters_18 rfl (fun _ => ?_) (fun hc => absurd hc (by decide))
              refine r_iconst (x := 0) d_X11_areLetters_25 ⟨by decide, by decide⟩ ?_
              exact r_iret d_X11_areLetters_26 rfl (by decide) (Nat.le_refl 0) (Nat.le_refl 0) ⟨_, rfl, rfl, rfl, h⟩
            · have h := h.2 hc
              show WP l mX11_areLetters (rm d 0 0) noX _ 0 0 18 [(0, x0), (0, x1), (0, x2)] [(0, 1)] N Λ σ
              refine r_if_eq (tgt := 25) d_X11_areLetters_18 rfl (fun hc => absurd hc (by decide)) (fun _ => ?_)
              refine r_iconst (x := 1) d_X11_areLetters_21 ⟨by decide, by decide⟩ ?_
              refine r_goto (tgt := 26) d_X11_areLetters_22 rfl ?_
              exact r_iret d_X11_areLetters_26 rfl (by decide) (Nat.le_refl 0) (Nat.le_refl 0) ⟨_, rfl, rfl, rfl, h⟩
theorem v_X11_bracket_0 {l : Launch} {d N : Nat} {Λ : Lay} {P : Int → Mem → Prop} {σ : Mem} {x1 x2 x3 x4 t t_term t_work : Int} (o_t : Ob N Λ t 20 14) (f_t_term : (Λ t).2.2 10 = t_term) (o_t_term : Ob N Λ t_term 19 2) (f_t_work : (Λ t).2.2 11 = t_work) (o_t_work : Ob N Λ t_work 15 3) (h0d : 1 ≤ d)
    (h : ((x1 < 0 → P (-2) σ) ∧ (¬ (x1 < 0) → ((6 ≤ x1 → P (-2) σ) ∧ (¬ (6 ≤ x1) → (CI l mX11_areLetters (d - 1) [(0, x2), (0, x3), (0, x4)] N Λ σ (fun v2 σ1 => ((¬ v2 = 0 → (∀ τ3, τ3 = st σ1 t_term 0 0 → (∀ τ4, τ4 = st τ3 t_term 1 1 → (CV l mX10_attach (d - 1) [(2, t_term), (0, (orI (orI (shlI x2 8) (shlI x3 4)) x4))] N Λ τ4 (fun σ5 => (∀ τ6, τ6 = st σ5 t_work 2 0 → (CI l mX5_lay (d - 1) [(2, t_work), (1, (τ6 t_term 0)), (1, (τ6 t_term 1))] N Λ τ6 (fun v8 σ7 => (CI l mX11_keep (d - 1) [(2, t), (0, x1), (0, v8)] N Λ σ7 (fun v10 σ9 => P v10 σ9)))))))))) ∧ (v2 = 0 → P (-2) σ1))))))))) :
    WI l mX11_bracket d P 0 [(2, t), (0, x1), (0, x2), (0, x3), (0, x4)] [] N Λ σ := by
  have hd_1 : 1 ≤ d := Nat.le_trans (by decide) h0d
  refine r_iload_n (x := x1) d_X11_bracket_0 rfl ?_
  refine x_callSI (Y2 := mX11_isShelf) (As := [(0, x1)]) (S := []) d_X11_bracket_1 ok_mX11_isShelf ml_X11_143 rfl (Nat.le_of_ble_eq_true rfl) (Nat.le_of_ble_eq_true rfl) rfl hd_1 (c_X11_isShelf (v_X11_isShelf_0 ?_))
  refine ⟨fun hc => ?_, fun hc => ?_⟩
  · have h := h.1 hc
    show WP l mX11_bracket (rm d 0 0) noX _ 0 0 4 [(2, t), (0, x1), (0, x2), (0, x3), (0, x4)] [(0, 0)] N Λ σ
    refine r_if_eq (tgt := 17) d_X11_bracket_4 rfl (fun _ => ?_) (fun hc => absurd hc (by decide))
    refine r_bipush (x := (-2)) d_X11_bracket_17 ⟨by decide, by decide⟩ (by decide) ?_
    exact r_iret d_X11_bracket_19 rfl rfl (Nat.le_refl 0) (Nat.le_refl 0) ⟨_, rfl, rfl, rfl, h⟩
  · have h := h.2 hc
    refine ⟨fun hc => ?_, fun hc => ?_⟩
    · have h := h.1 hc
      show WP l mX11_bracket (rm d 0 0) noX _ 0 0 4 [(2, t), (0, x1), (0, x2), (0, x3), (0, x4)] [(0, 0)] N Λ σ
      refine r_if_eq (tgt := 17) d_X11_bracket_4 rfl (fun _ => ?_) (fun hc => absurd hc (by decide))
      refine r_bipush (x := (-2)) d_X11_bracket_17 ⟨by decide, by decide⟩ (by decide) ?_
      exact r_iret d_X11_bracket_19 rfl rfl (Nat.le_refl 0) (Nat.le_refl 0) ⟨_, rfl, rfl, rfl, h⟩
    · have h := h.2 hc
      show WP l mX11_bracket (rm d 0 0) noX _ 0 0 4 [(2, t), (0, x1), (0, x2), (0, x3), (0, x4)] [(0, 1)] N Λ σ
      refine r_if_eq (tgt := 17) d_X11_bracket_4 rfl (fun hc => absurd hc (by decide)) (fun _ => ?_)
      refine r_iload_n (x := x2) d_X11_bracket_7 rfl ?_
      refine r_iload_n (x := x3) d_X11_bracket_8 rfl ?_
      refine r_iload (x := x4) d_X11_bracket_9 rfl ?_
      refine x_callSI (Y2 := mX11_areLetters) (As := [(0, x2), (0, x3), (0, x4)]) (S := []) d_X11_bracket_11 ok_mX11_areLetters ml_X11_160 rfl (Nat.le_of_ble_eq_true rfl) (Nat.le_of_ble_eq_true rfl) rfl hd_1 (CI.mono h (fun v2 σ1 h => ?_))
      refine r_if_ne (tgt := 20) d_X11_bracket_14 rfl (fun hc => ?_) (fun hc => ?_)
      · have h := h.1 hc
        refine r_aload_n (x := t) d_X11_bracket_20 rfl o_t.1 ?_
        refine r_getf (j := 10) (t := 2) (x := t_term) d_X11_bracket_21 kX11 (by decide) fl_X11_76 o_t.1 o_t.2.1 o_t.2.2.1 o_t.2.2.2 rfl f_t_term ?_
        refine r_lconst d_X11_bracket_24 ?_
        skip
        refine x_callVV (Y2 := mX10_begin) (c := t_term) (As := [(1, 0)]) (S := []) d_X11_bracket_25 ok_mX10_begin ml_X11_164 rfl (Nat.le_of_ble_eq_true rfl) (Nat.le_of_ble_eq_true rfl) rfl hd_1 kX10 o_t_term (c_X10_begin (v_X10_begin_0 o_t_term ?_))
        intro τ3 eτ3
        have h := h τ3 eτ3
        intro τ4 eτ4
        have h := h τ4 eτ4
        show WP l mX11_bracket (rm d 0 0) noX _ 0 0 28 [(2, t), (0, x1), (0, x2), (0, x3), (0, x4)] [] N Λ τ4
        refine r_aload_n (x := t) d_X11_bracket_28 rfl o_t.1 ?_
        refine r_getf (j := 10) (t := 2) (x := t_term) d_X11_bracket_29 kX11 (by decide) fl_X11_76 o_t.1 o_t.2.1 o_t.2.2.1 o_t.2.2.2 rfl f_t_term ?_
        refine r_iload_n (x := x2) d_X11_bracket_32 rfl ?_
        refine r_iload_n (x := x3) d_X11_bracket_33 rfl ?_
        refine r_iload (x := x4) d_X11_bracket_34 rfl ?_
        refine x_callSI (Y2 := mX6_row) (As := [(0, x2), (0, x3), (0, x4)]) (S := [(2, t_term)]) d_X11_bracket_36 ok_mX6_row ml_X11_167 rfl (Nat.le_of_ble_eq_true rfl) (Nat.le_of_ble_eq_true rfl) rfl hd_1 (c_X6_row (v_X6_row_0 ?_))
        show WP l mX11_bracket (rm d 0 0) noX _ 0 0 39 [(2, t), (0, x1), (0, x2), (0, x3), (0, x4)] [(0, (orI (orI (shlI x2 8) (shlI x3 4)) x4)), (2, t_term)] N Λ τ4
        refine x_callVV (Y2 := mX10_attach) (c := t_term) (As := [(0, (orI (orI (shlI x2 8) (shlI x3 4)) x4))]) (S := []) d_X11_bracket_39 ok_mX10_attach ml_X11_173 rfl (Nat.le_of_ble_eq_true rfl) (Nat.le_of_ble_eq_true rfl) rfl hd_1 kX10 o_t_term (CV.mono h (fun σ5 h => ?_))
        refine r_aload_n (x := t) d_X11_bracket_42 rfl o_t.1 ?_
        refine r_getf (j := 11) (t := 2) (x := t_work) d_X11_bracket_43 kX11 (by decide) fl_X11_83 o_t.1 o_t.2.1 o_t.2.2.1 o_t.2.2.2 rfl f_t_work ?_
        refine x_callVV (Y2 := mX5_empty) (c := t_work) (As := []) (S := []) d_X11_bracket_46 ok_mX5_empty ml_X11_151 rfl (Nat.le_of_ble_eq_true rfl) (Nat.le_of_ble_eq_true rfl) rfl hd_1 kX5 o_t_work (c_X5_empty (v_X5_empty_0 o_t_work ?_))
        intro τ6 eτ6
        have h := h τ6 eτ6
        show WP l mX11_bracket (rm d 0 0) noX _ 0 0 49 [(2, t), (0, x1), (0, x2), (0, x3), (0, x4)] [] N Λ τ6
        refine r_aload_n (x := t) d_X11_bracket_49 rfl o_t.1 ?_
        refine r_iload_n (x := x1) d_X11_bracket_50 rfl ?_
        refine r_aload_n (x := t) d_X11_bracket_51 rfl o_t.1 ?_
        refine r_getf (j := 11) (t := 2) (x := t_work) d_X11_bracket_52 kX11 (by decide) fl_X11_83 o_t.1 o_t.2.1 o_t.2.2.1 o_t.2.2.2 rfl f_t_work ?_
        refine r_aload_n (x := t) d_X11_bracket_55 rfl o_t.1 ?_
        refine r_getf (j := 10) (t := 2) (x := t_term) d_X11_bracket_56 kX11 (by decide) fl_X11_76 o_t.1 o_t.2.1 o_t.2.2.1 o_t.2.2.2 rfl f_t_term ?_
        refine r_getf (j := 0) (t := 1) (x := (τ6 t_term 0)) d_X11_bracket_59 kX10 (by decide) fl_X11_176 o_t_term.1 o_t_term.2.1 o_t_term.2.2.1 o_t_term.2.2.2 rfl rfl ?_
        refine r_aload_n (x := t) d_X11_bracket_62 rfl o_t.1 ?_
        refine r_getf (j := 10) (t := 2) (x := t_term) d_X11_bracket_63 kX11 (by decide) fl_X11_76 o_t.1 o_t.2.1 o_t.2.2.1 o_t.2.2.2 rfl f_t_term ?_
        refine r_getf (j := 1) (t := 0) (x := (τ6 t_term 1)) d_X11_bracket_66 kX10 (by decide) fl_X11_180 o_t_term.1 o_t_term.2.1 o_t_term.2.2.1 o_t_term.2.2.2 rfl rfl ?_
        refine r_i2l d_X11_bracket_69 ?_
        refine x_callVI (Y2 := mX5_lay) (c := t_work) (As := [(1, (τ6 t_term 0)), (1, (τ6 t_term 1))]) (S := [(0, x1), (2, t)]) d_X11_bracket_70 ok_mX5_lay ml_X11_183 rfl (Nat.le_of_ble_eq_true rfl) (Nat.le_of_ble_eq_true rfl) rfl hd_1 kX5 o_t_work (CI.mono h (fun v8 σ7 h => ?_))
        refine x_callVI (Y2 := mX11_keep) (c := t) (As := [(0, x1), (0, v8)]) (S := []) d_X11_bracket_73 ok_mX11_keep ml_X11_154 rfl (Nat.le_of_ble_eq_true rfl) (Nat.le_of_ble_eq_true rfl) rfl hd_1 kX11 o_t (CI.mono h (fun v10 σ9 h => ?_))
        exact r_iret d_X11_bracket_76 rfl rfl (Nat.le_refl 0) (Nat.le_refl 0) ⟨_, rfl, rfl, rfl, h⟩
      · have h := h.2 hc
        refine r_bipush (x := (-2)) d_X11_bracket_17 ⟨by decide, by decide⟩ (by decide) ?_
        exact r_iret d_X11_bracket_19 rfl rfl (Nat.le_refl 0) (Nat.le_refl 0) ⟨_, rfl, rfl, rfl, h⟩
theorem v_X11_rowOfDigits_0 {l : Launch} {d N : Nat} {Λ : Lay} {P : Int → Mem → Prop} {σ : Mem} {x0 : Int} (h0d : 1 ≤ d)
    (h : P (orI (orI (shlI (divI x0 100) 8) (shlI (remI (divI x0 10) 10) 4)) (remI x0 10)) σ) :
    WI l mX11_rowOfDigits d P 0 [(0, x0)] [] N Λ σ := by
  have hd_1 : 1 ≤ d := Nat.le_trans (by decide) h0d
  refine r_iload_n (x := x0) d_X11_rowOfDigits_0 rfl ?_
  refine r_bipush (x := 100) d_X11_rowOfDigits_1 ⟨by decide, by decide⟩ (by decide) ?_
  refine r_idiv d_X11_rowOfDigits_3 (by decide) ?_
  refine r_iload_n (x := x0) d_X11_rowOfDigits_4 rfl ?_
  refine r_bipush (x := 10) d_X11_rowOfDigits_5 ⟨by decide, by decide⟩ (by decide) ?_
  refine r_idiv d_X11_rowOfDigits_7 (by decide) ?_
  refine r_bipush (x := 10) d_X11_rowOfDigits_8 ⟨by decide, by decide⟩ (by decide) ?_
  refine r_irem d_X11_rowOfDigits_10 (by decide) ?_
  refine r_iload_n (x := x0) d_X11_rowOfDigits_11 rfl ?_
  refine r_bipush (x := 10) d_X11_rowOfDigits_12 ⟨by decide, by decide⟩ (by decide) ?_
  refine r_irem d_X11_rowOfDigits_14 (by decide) ?_
  refine x_callSI (Y2 := mX6_row) (As := [(0, (divI x0 100)), (0, (remI (divI x0 10) 10)), (0, (remI x0 10))]) (S := []) d_X11_rowOfDigits_15 ok_mX6_row ml_X11_167 rfl (Nat.le_of_ble_eq_true rfl) (Nat.le_of_ble_eq_true rfl) rfl hd_1 (c_X6_row (v_X6_row_0 ?_))
  show WP l mX11_rowOfDigits (rm d 0 0) noX _ 0 0 18 [(0, x0)] [(0, (orI (orI (shlI (divI x0 100) 8) (shlI (remI (divI x0 10) 10) 4)) (remI x0 10)))] N Λ σ
  exact r_iret d_X11_rowOfDigits_18 rfl rfl (Nat.le_refl 0) (Nat.le_refl 0) ⟨_, rfl, rfl, rfl, h⟩
theorem v_X11_exchange_0 {l : Launch} {d N : Nat} {Λ : Lay} {P : Int → Mem → Prop} {σ : Mem} {x1 x2 x3 x4 t t_straightener t_work : Int} (o_t : Ob N Λ t 20 14) (f_t_work : (Λ t).2.2 11 = t_work) (o_t_work : Ob N Λ t_work 15 3) (f_t_straightener : (Λ t).2.2 5 = t_straightener) (o_t_straightener : Ob N Λ t_straightener 17 2) (h0d : 2 ≤ d)
    (h : ((x1 < 0 → P (-2) σ) ∧ (¬ (x1 < 0) → ((6 ≤ x1 → P (-2) σ) ∧ (¬ (6 ≤ x1) → ((x2 < 0 → P (-3) σ) ∧ (¬ (x2 < 0) → ((999 < x2 → P (-3) σ) ∧ (¬ (999 < x2) → ((x3 < 0 → P (-3) σ) ∧ (¬ (x3 < 0) → ((999 < x3 → P (-3) σ) ∧ (¬ (999 < x3) → ((x4 < 1 → P (-3) σ) ∧ (¬ (x4 < 1) → ((x4 ≤ 3 → (∀ τ1, τ1 = st σ t_work 2 0 → (CI l mX8_layExchange (d - 1) [(2, t_straightener), (2, t_work), (0, (orI (orI (shlI (divI x2 100) 8) (shlI (remI (divI x2 10) 10) 4)) (remI x2 10))), (0, (orI (orI (shlI (divI x3 100) 8) (shlI (remI (divI x3 10) 10) 4)) (remI x3 10))), (0, x4), (1, 0), (1, 1)] N Λ τ1 (fun v3 σ2 => (CI l mX11_keep (d - 1) [(2, t), (0, x1), (0, v3)] N Λ σ2 (fun v5 σ4 => P v5 σ4)))))) ∧ (¬ (x4 ≤ 3) → P (-3) σ))))))))))))))))) :
    WI l mX11_exchange d P 0 [(2, t), (0, x1), (0, x2), (0, x3), (0, x4)] [] N Λ σ := by
  have hd_1 : 1 ≤ d := Nat.le_trans (by decide) h0d
  have he_1 : 1 ≤ d - 1 := Nat.le_sub_of_add_le (Nat.le_trans (by decide) h0d)
  refine r_iload_n (x := x1) d_X11_exchange_0 rfl ?_
  refine x_callSI (Y2 := mX11_isShelf) (As := [(0, x1)]) (S := []) d_X11_exchange_1 ok_mX11_isShelf ml_X11_143 rfl (Nat.le_of_ble_eq_true rfl) (Nat.le_of_ble_eq_true rfl) rfl hd_1 (c_X11_isShelf (v_X11_isShelf_0 ?_))
  refine ⟨fun hc => ?_, fun hc => ?_⟩
  · have h := h.1 hc
    show WP l mX11_exchange (rm d 0 0) noX _ 0 0 4 [(2, t), (0, x1), (0, x2), (0, x3), (0, x4)] [(0, 0)] N Λ σ
    refine r_if_ne (tgt := 10) d_X11_exchange_4 rfl (fun hc => absurd hc (by decide)) (fun _ => ?_)
    refine r_bipush (x := (-2)) d_X11_exchange_7 ⟨by decide, by decide⟩ (by decide) ?_
    exact r_iret d_X11_exchange_9 rfl rfl (Nat.le_refl 0) (Nat.le_refl 0) ⟨_, rfl, rfl, rfl, h⟩
  · have h := h.2 hc
    refine ⟨fun hc => ?_, fun hc => ?_⟩
    · have h := h.1 hc
      show WP l mX11_exchange (rm d 0 0) noX _ 0 0 4 [(2, t), (0, x1), (0, x2), (0, x3), (0, x4)] [(0, 0)] N Λ σ
      refine r_if_ne (tgt := 10) d_X11_exchange_4 rfl (fun hc => absurd hc (by decide)) (fun _ => ?_)
      refine r_bipush (x := (-2)) d_X11_exchange_7 ⟨by decide, by decide⟩ (by decide) ?_
      exact r_iret d_X11_exchange_9 rfl rfl (Nat.le_refl 0) (Nat.le_refl 0) ⟨_, rfl, rfl, rfl, h⟩
    · have h := h.2 hc
      show WP l mX11_exchange (rm d 0 0) noX _ 0 0 4 [(2, t), (0, x1), (0, x2), (0, x3), (0, x4)] [(0, 1)] N Λ σ
      refine r_if_ne (tgt := 10) d_X11_exchange_4 rfl (fun _ => ?_) (fun hc => absurd hc (by decide))
      refine r_iload_n (x := x2) d_X11_exchange_10 rfl ?_
      refine r_if_lt (tgt := 44) d_X11_exchange_11 rfl (fun hc => ?_) (fun hc => ?_)
      · have h := h.1 hc
        refine r_bipush (x := (-3)) d_X11_exchange_44 ⟨by decide, by decide⟩ (by decide) ?_
        exact r_iret d_X11_exchange_46 rfl rfl (Nat.le_refl 0) (Nat.le_refl 0) ⟨_, rfl, rfl, rfl, h⟩
      · have h := h.2 hc
        refine r_iload_n (x := x2) d_X11_exchange_14 rfl ?_
        refine r_sipush (x := 999) d_X11_exchange_15 ⟨by decide, by decide⟩ (by decide) ?_
        refine r_ic_gt (tgt := 44) d_X11_exchange_18 rfl (fun hc => ?_) (fun hc => ?_)
        · have h := h.1 hc
          refine r_bipush (x := (-3)) d_X11_exchange_44 ⟨by decide, by decide⟩ (by decide) ?_
          exact r_iret d_X11_exchange_46 rfl rfl (Nat.le_refl 0) (Nat.le_refl 0) ⟨_, rfl, rfl, rfl, h⟩
        · have h := h.2 hc
          refine r_iload_n (x := x3) d_X11_exchange_21 rfl ?_
          refine r_if_lt (tgt := 44) d_X11_exchange_22 rfl (fun hc => ?_) (fun hc => ?_)
          · have h := h.1 hc
            refine r_bipush (x := (-3)) d_X11_exchange_44 ⟨by decide, by decide⟩ (by decide) ?_
            exact r_iret d_X11_exchange_46 rfl rfl (Nat.le_refl 0) (Nat.le_refl 0) ⟨_, rfl, rfl, rfl, h⟩
          · have h := h.2 hc
            refine r_iload_n (x := x3) d_X11_exchange_25 rfl ?_
            refine r_sipush (x := 999) d_X11_exchange_26 ⟨by decide, by decide⟩ (by decide) ?_
            refine r_ic_gt (tgt := 44) d_X11_exchange_29 rfl (fun hc => ?_) (fun hc => ?_)
            · have h := h.1 hc
              refine r_bipush (x := (-3)) d_X11_exchange_44 ⟨by decide, by decide⟩ (by decide) ?_
              exact r_iret d_X11_exchange_46 rfl rfl (Nat.le_refl 0) (Nat.le_refl 0) ⟨_, rfl, rfl, rfl, h⟩
            · have h := h.2 hc
              refine r_iload (x := x4) d_X11_exchange_32 rfl ?_
              refine r_iconst (x := 1) d_X11_exchange_34 ⟨by decide, by decide⟩ ?_
              refine r_ic_lt (tgt := 44) d_X11_exchange_35 rfl (fun hc => ?_) (fun hc => ?_)
              · have h := h.1 hc
                refine r_bipush (x := (-3)) d_X11_exchange_44 ⟨by decide, by decide⟩ (by decide) ?_
                exact r_iret d_X11_exchange_46 rfl rfl (Nat.le_refl 0) (Nat.le_refl 0) ⟨_, rfl, rfl, rfl, h⟩
              · have h := h.2 hc
                refine r_iload (x := x4) d_X11_exchange_38 rfl ?_
                refine r_iconst (x := 3) d_X11_exchange_40 ⟨by decide, by decide⟩ ?_
                refine r_ic_le (tgt := 47) d_X11_exchange_41 rfl (fun hc => ?_) (fun hc => ?_)
                · have h := h.1 hc
                  refine r_aload_n (x := t) d_X11_exchange_47 rfl o_t.1 ?_
                  refine r_getf (j := 11) (t := 2) (x := t_work) d_X11_exchange_48 kX11 (by decide) fl_X11_83 o_t.1 o_t.2.1 o_t.2.2.1 o_t.2.2.2 rfl f_t_work ?_
                  refine x_callVV (Y2 := mX5_empty) (c := t_work) (As := []) (S := []) d_X11_exchange_51 ok_mX5_empty ml_X11_151 rfl (Nat.le_of_ble_eq_true rfl) (Nat.le_of_ble_eq_true rfl) rfl hd_1 kX5 o_t_work (c_X5_empty (v_X5_empty_0 o_t_work ?_))
                  intro τ1 eτ1
                  have h := h τ1 eτ1
                  show WP l mX11_exchange (rm d 0 0) noX _ 0 0 54 [(2, t), (0, x1), (0, x2), (0, x3), (0, x4)] [] N Λ τ1
                  refine r_aload_n (x := t) d_X11_exchange_54 rfl o_t.1 ?_
                  refine r_iload_n (x := x1) d_X11_exchange_55 rfl ?_
                  refine r_aload_n (x := t) d_X11_exchange_56 rfl o_t.1 ?_
                  refine r_getf (j := 5) (t := 2) (x := t_straightener) d_X11_exchange_57 kX11 (by decide) fl_X11_41 o_t.1 o_t.2.1 o_t.2.2.1 o_t.2.2.2 rfl f_t_straightener ?_
                  refine r_aload_n (x := t) d_X11_exchange_60 rfl o_t.1 ?_
                  refine r_getf (j := 11) (t := 2) (x := t_work) d_X11_exchange_61 kX11 (by decide) fl_X11_83 o_t.1 o_t.2.1 o_t.2.2.1 o_t.2.2.2 rfl f_t_work ?_
                  refine r_iload_n (x := x2) d_X11_exchange_64 rfl ?_
                  refine x_callSI (Y2 := mX11_rowOfDigits) (As := [(0, x2)]) (S := [(2, t_work), (2, t_straightener), (0, x1), (2, t)]) d_X11_exchange_65 ok_mX11_rowOfDigits ml_X11_187 rfl (Nat.le_of_ble_eq_true rfl) (Nat.le_of_ble_eq_true rfl) rfl hd_1 (c_X11_rowOfDigits (v_X11_rowOfDigits_0 he_1 ?_))
                  show WP l mX11_exchange (rm d 0 0) noX _ 0 0 68 [(2, t), (0, x1), (0, x2), (0, x3), (0, x4)] [(0, (orI (orI (shlI (divI x2 100) 8) (shlI (remI (divI x2 10) 10) 4)) (remI x2 10))), (2, t_work), (2, t_straightener), (0, x1), (2, t)] N Λ τ1
                  refine r_iload_n (x := x3) d_X11_exchange_68 rfl ?_
                  refine x_callSI (Y2 := mX11_rowOfDigits) (As := [(0, x3)]) (S := [(0, (orI (orI (shlI (divI x2 100) 8) (shlI (remI (divI x2 10) 10) 4)) (remI x2 10))), (2, t_work), (2, t_straightener), (0, x1), (2, t)]) d_X11_exchange_69 ok_mX11_rowOfDigits ml_X11_187 rfl (Nat.le_of_ble_eq_true rfl) (Nat.le_of_ble_eq_true rfl) rfl hd_1 (c_X11_rowOfDigits (v_X11_rowOfDigits_0 he_1 ?_))
                  show WP l mX11_exchange (rm d 0 0) noX _ 0 0 72 [(2, t), (0, x1), (0, x2), (0, x3), (0, x4)] [(0, (orI (orI (shlI (divI x3 100) 8) (shlI (remI (divI x3 10) 10) 4)) (remI x3 10))), (0, (orI (orI (shlI (divI x2 100) 8) (shlI (remI (divI x2 10) 10) 4)) (remI x2 10))), (2, t_work), (2, t_straightener), (0, x1), (2, t)] N Λ τ1
                  refine r_iload (x := x4) d_X11_exchange_72 rfl ?_
                  refine r_lconst d_X11_exchange_74 ?_
                  skip
                  refine r_lconst d_X11_exchange_75 ?_
                  skip
                  refine x_callVI (Y2 := mX8_layExchange) (c := t_straightener) (As := [(2, t_work), (0, (orI (orI (shlI (divI x2 100) 8) (shlI (remI (divI x2 10) 10) 4)) (remI x2 10))), (0, (orI (orI (shlI (divI x3 100) 8) (shlI (remI (divI x3 10) 10) 4)) (remI x3 10))), (0, x4), (1, 0), (1, 1)]) (S := [(0, x1), (2, t)]) d_X11_exchange_76 ok_mX8_layExchange ml_X11_190 rfl (Nat.le_of_ble_eq_true rfl) (Nat.le_of_ble_eq_true rfl) rfl hd_1 kX8 o_t_straightener (CI.mono h (fun v3 σ2 h => ?_))
                  refine x_callVI (Y2 := mX11_keep) (c := t) (As := [(0, x1), (0, v3)]) (S := []) d_X11_exchange_79 ok_mX11_keep ml_X11_154 rfl (Nat.le_of_ble_eq_true rfl) (Nat.le_of_ble_eq_true rfl) rfl hd_1 kX11 o_t (CI.mono h (fun v5 σ4 h => ?_))
                  exact r_iret d_X11_exchange_82 rfl rfl (Nat.le_refl 0) (Nat.le_refl 0) ⟨_, rfl, rfl, rfl, h⟩
                · have h := h.2 hc
                  refine r_bipush (x := (-3)) d_X11_exchange_44 ⟨by decide, by decide⟩ (by decide) ?_
                  exact r_iret d_X11_exchange_46 rfl rfl (Nat.le_refl 0) (Nat.le_refl 0) ⟨_, rfl, rfl, rfl, h⟩
theorem v_X11_isNear_0 {l : Launch} {d N : Nat} {Λ : Lay} {P : Int → Mem → Prop} {σ : Mem} {x0 : Int}
    (h : ((x0 < (-99) → P 0 σ) ∧ (¬ (x0 < (-99)) → ((99 < x0 → P 0 σ) ∧ (¬ (99 < x0) → P 1 σ))))) :
    WI l mX11_isNear d P 0 [(0, x0)] [] N Λ σ := by
  refine r_iload_n (x := x0) d_X11_isNear_0 rfl ?_
  refine r_bipush (x := (-99)) d_X11_isNear_1 ⟨by decide, by decide⟩ (by decide) ?_
  refine r_ic_lt (tgt := 16) d_X11_isNear_3 rfl (fun hc => ?_) (fun hc => ?_)
  · have h := h.1 hc
    refine r_iconst (x := 0) d_X11_isNear_16 ⟨by decide, by decide⟩ ?_
    exact r_iret d_X11_isNear_17 rfl (by decide) (Nat.le_refl 0) (Nat.le_refl 0) ⟨_, rfl, rfl, rfl, h⟩
  · have h := h.2 hc
    refine r_iload_n (x := x0) d_X11_isNear_6 rfl ?_
    refine r_bipush (x := 99) d_X11_isNear_7 ⟨by decide, by decide⟩ (by decide) ?_
    refine r_ic_gt (tgt := 16) d_X11_isNear_9 rfl (fun hc => ?_) (fun hc => ?_)
    · have h := h.1 hc
      refine r_iconst (x := 0) d_X11_isNear_16 ⟨by decide, by decide⟩ ?_
      exact r_iret d_X11_isNear_17 rfl (by decide) (Nat.le_refl 0) (Nat.le_refl 0) ⟨_, rfl, rfl, rfl, h⟩
    · have h := h.2 hc
      refine r_iconst (x := 1) d_X11_isNear_12 ⟨by decide, by decide⟩ ?_
      refine r_goto (tgt := 17) d_X11_isNear_13 rfl ?_
      exact r_iret d_X11_isNear_17 rfl (by decide) (Nat.le_refl 0) (Nat.le_refl 0) ⟨_, rfl, rfl, rfl, h⟩
theorem v_X11_add_0 {l : Launch} {d N : Nat} {Λ : Lay} {P : Int → Mem → Prop} {σ : Mem} {x1 x2 x3 x4 x5 t t_now t_now_shelves t_work : Int} (o_t : Ob N Λ t 20 14) (f_t_work : (Λ t).2.2 11 = t_work) (o_t_work : Ob N Λ t_work 15 3) (f_t_now : (Λ t).2.2 0 = t_now) (o_t_now : Ob N Λ t_now 16 3) (f_t_now_shelves : (Λ t_now).2.2 0 = t_now_shelves) (h0d : 1 ≤ d)
    (h : (∀ τ1, τ1 = st σ t 13 0 → ((x1 < 0 → P (-2) τ1) ∧ (¬ (x1 < 0) → ((6 ≤ x1 → P (-2) τ1) ∧ (¬ (6 ≤ x1) → ((x2 < 0 → P (-2) τ1) ∧ (¬ (x2 < 0) → ((6 ≤ x2 → P (-2) τ1) ∧ (¬ (6 ≤ x2) → ((x4 < 0 → P (-2) τ1) ∧ (¬ (x4 < 0) → ((6 ≤ x4 → P (-2) τ1) ∧ (¬ (6 ≤ x4) → ((x3 < (-99) → P (-3) τ1) ∧ (¬ (x3 < (-99)) → ((99 < x3 → P (-3) τ1) ∧ (¬ (99 < x3) → ((x5 < (-99) → P (-3) τ1) ∧ (¬ (x5 < (-99)) → ((99 < x5 → P (-3) τ1) ∧ (¬ (99 < x5) → (∀ τ2, τ2 = st τ1 t_work 2 0 → (Ix N Λ t_now_shelves 3 x2 ∧ (∀ b3, b3 = (Λ t_now_shelves).2.2 x2 → (Ob N Λ b3 15 3 ∧ (CI l mX5_laySum (d - 1) [(2, t_work), (2, b3), (0, x3)] N Λ τ2 (fun v5 σ4 => ((¬ v5 = 0 → (CI l mX11_keep (d - 1) [(2, t), (0, x1), (0, v5)] N Λ σ4 (fun v7 σ6 => P v7 σ6))) ∧ (v5 = 0 → (Ix N Λ t_now_shelves 3 x4 ∧ (∀ b8, b8 = (Λ t_now_shelves).2.2 x4 → (Ob N Λ b8 15 3 ∧ (CI l mX5_laySum (d - 1) [(2, t_work), (2, b8), (0, x5)] N Λ σ4 (fun v10 σ9 => (CI l mX11_keep (d - 1) [(2, t), (0, x1), (0, v10)] N Λ σ9 (fun v12 σ11 => P v12 σ11))))))))))))))))))))))))))))))))))))) :
    WI l mX11_add d P 0 [(2, t), (0, x1), (0, x2), (0, x3), (0, x4), (0, x5), (3, 0)] [] N Λ σ := by
  have hd_1 : 1 ≤ d := Nat.le_trans (by decide) h0d
  refine r_aload_n (x := t) d_X11_add_0 rfl o_t.1 ?_
  refine r_iconst (x := 0) d_X11_add_1 ⟨by decide, by decide⟩ ?_
  refine r_putI (j := 13) d_X11_add_2 kX11 (by decide) fl_X11_90 rfl o_t.1 o_t.2.1 o_t.2.2.1 o_t.2.2.2 rfl ?_
  refine r_nmM (fun τ1 eτ1 => ?_)
  have h := h τ1 eτ1
  refine r_iload_n (x := x1) d_X11_add_5 rfl ?_
  refine x_callSI (Y2 := mX11_isShelf) (As := [(0, x1)]) (S := []) d_X11_add_6 ok_mX11_isShelf ml_X11_143 rfl (Nat.le_of_ble_eq_true rfl) (Nat.le_of_ble_eq_true rfl) rfl hd_1 (c_X11_isShelf (v_X11_isShelf_0 ?_))
  refine ⟨fun hc => ?_, fun hc => ?_⟩
  · have h := h.1 hc
    show WP l mX11_add (rm d 0 0) noX _ 0 0 9 [(2, t), (0, x1), (0, x2), (0, x3), (0, x4), (0, x5), (3, 0)] [(0, 0)] N Λ τ1
    refine r_if_eq (tgt := 27) d_X11_add_9 rfl (fun _ => ?_) (fun hc => absurd hc (by decide))
    refine r_bipush (x := (-2)) d_X11_add_27 ⟨by decide, by decide⟩ (by decide) ?_
    exact r_iret d_X11_add_29 rfl rfl (Nat.le_refl 0) (Nat.le_refl 0) ⟨_, rfl, rfl, rfl, h⟩
  · have h := h.2 hc
    refine ⟨fun hc => ?_, fun hc => ?_⟩
    · have h := h.1 hc
      show WP l mX11_add (rm d 0 0) noX _ 0 0 9 [(2, t), (0, x1), (0, x2), (0, x3), (0, x4), (0, x5), (3, 0)] [(0, 0)] N Λ τ1
      refine r_if_eq (tgt := 27) d_X11_add_9 rfl (fun _ => ?_) (fun hc => absurd hc (by decide))
      refine r_bipush (x := (-2)) d_X11_add_27 ⟨by decide, by decide⟩ (by decide) ?_
      exact r_iret d_X11_add_29 rfl rfl (Nat.le_refl 0) (Nat.le_refl 0) ⟨_, rfl, rfl, rfl, h⟩
    · have h := h.2 hc
      show WP l mX11_add (rm d 0 0) noX _ 0 0 9 [(2, t), (0, x1), (0, x2), (0, x3), (0, x4), (0, x5), (3, 0)] [(0, 1)] N Λ τ1
      refine r_if_eq (tgt := 27) d_X11_add_9 rfl (fun hc => absurd hc (by decide)) (fun _ => ?_)
      refine r_iload_n (x := x2) d_X11_add_12 rfl ?_
      refine x_callSI (Y2 := mX11_isShelf) (As := [(0, x2)]) (S := []) d_X11_add_13 ok_mX11_isShelf ml_X11_143 rfl (Nat.le_of_ble_eq_true rfl) (Nat.le_of_ble_eq_true rfl) rfl hd_1 (c_X11_isShelf (v_X11_isShelf_0 ?_))
      refine ⟨fun hc => ?_, fun hc => ?_⟩
      · have h := h.1 hc
        show WP l mX11_add (rm d 0 0) noX _ 0 0 16 [(2, t), (0, x1), (0, x2), (0, x3), (0, x4), (0, x5), (3, 0)] [(0, 0)] N Λ τ1
        refine r_if_eq (tgt := 27) d_X11_add_16 rfl (fun _ => ?_) (fun hc => absurd hc (by decide))
        refine r_bipush (x := (-2)) d_X11_add_27 ⟨by decide, by decide⟩ (by decide) ?_
        exact r_iret d_X11_add_29 rfl rfl (Nat.le_refl 0) (Nat.le_refl 0) ⟨_, rfl, rfl, rfl, h⟩
      · have h := h.2 hc
        refine ⟨fun hc => ?_, fun hc => ?_⟩
        · have h := h.1 hc
          show WP l mX11_add (rm d 0 0) noX _ 0 0 16 [(2, t), (0, x1), (0, x2), (0, x3), (0, x4), (0, x5), (3, 0)] [(0, 0)] N Λ τ1
          refine r_if_eq (tgt := 27) d_X11_add_16 rfl (fun _ => ?_) (fun hc => absurd hc (by decide))
          refine r_bipush (x := (-2)) d_X11_add_27 ⟨by decide, by decide⟩ (by decide) ?_
          exact r_iret d_X11_add_29 rfl rfl (Nat.le_refl 0) (Nat.le_refl 0) ⟨_, rfl, rfl, rfl, h⟩
        · have h := h.2 hc
          show WP l mX11_add (rm d 0 0) noX _ 0 0 16 [(2, t), (0, x1), (0, x2), (0, x3), (0, x4), (0, x5), (3, 0)] [(0, 1)] N Λ τ1
          refine r_if_eq (tgt := 27) d_X11_add_16 rfl (fun hc => absurd hc (by decide)) (fun _ => ?_)
          refine r_iload (x := x4) d_X11_add_19 rfl ?_
          refine x_callSI (Y2 := mX11_isShelf) (As := [(0, x4)]) (S := []) d_X11_add_21 ok_mX11_isShelf ml_X11_143 rfl (Nat.le_of_ble_eq_true rfl) (Nat.le_of_ble_eq_true rfl) rfl hd_1 (c_X11_isShelf (v_X11_isShelf_0 ?_))
          refine ⟨fun hc => ?_, fun hc => ?_⟩
          · have h := h.1 hc
            show WP l mX11_add (rm d 0 0) noX _ 0 0 24 [(2, t), (0, x1), (0, x2), (0, x3), (0, x4), (0, x5), (3, 0)] [(0, 0)] N Λ τ1
            refine r_if_ne (tgt := 30) d_X11_add_24 rfl (fun hc => absurd hc (by decide)) (fun _ => ?_)
            refine r_bipush (x := (-2)) d_X11_add_27 ⟨by decide, by decide⟩ (by decide) ?_
            exact r_iret d_X11_add_29 rfl rfl (Nat.le_refl 0) (Nat.le_refl 0) ⟨_, rfl, rfl, rfl, h⟩
          · have h := h.2 hc
            refine ⟨fun hc => ?_, fun hc => ?_⟩
            · have h := h.1 hc
              show WP l mX11_add (rm d 0 0) noX _ 0 0 24 [(2, t), (0, x1), (0, x2), (0, x3), (0, x4), (0, x5), (3, 0)] [(0, 0)] N Λ τ1
              refine r_if_ne (tgt := 30) d_X11_add_24 rfl (fun hc => absurd hc (by decide)) (fun _ => ?_)
              refine r_bipush (x := (-2)) d_X11_add_27 ⟨by decide, by decide⟩ (by decide) ?_
              exact r_iret d_X11_add_29 rfl rfl (Nat.le_refl 0) (Nat.le_refl 0) ⟨_, rfl, rfl, rfl, h⟩
            · have h := h.2 hc
              show WP l mX11_add (rm d 0 0) noX _ 0 0 24 [(2, t), (0, x1), (0, x2), (0, x3), (0, x4), (0, x5), (3, 0)] [(0, 1)] N Λ τ1
              refine r_if_ne (tgt := 30) d_X11_add_24 rfl (fun _ => ?_) (fun hc => absurd hc (by decide))
              refine r_iload_n (x := x3) d_X11_add_30 rfl ?_
              refine x_callSI (Y2 := mX11_isNear) (As := [(0, x3)]) (S := []) d_X11_add_31 ok_mX11_isNear ml_X11_194 rfl (Nat.le_of_ble_eq_true rfl) (Nat.le_of_ble_eq_true rfl) rfl hd_1 (c_X11_isNear (v_X11_isNear_0 ?_))
              refine ⟨fun hc => ?_, fun hc => ?_⟩
              · have h := h.1 hc
                show WP l mX11_add (rm d 0 0) noX _ 0 0 34 [(2, t), (0, x1), (0, x2), (0, x3), (0, x4), (0, x5), (3, 0)] [(0, 0)] N Λ τ1
                refine r_if_eq (tgt := 45) d_X11_add_34 rfl (fun _ => ?_) (fun hc => absurd hc (by decide))
                refine r_bipush (x := (-3)) d_X11_add_45 ⟨by decide, by decide⟩ (by decide) ?_
                exact r_iret d_X11_add_47 rfl rfl (Nat.le_refl 0) (Nat.le_refl 0) ⟨_, rfl, rfl, rfl, h⟩
              · have h := h.2 hc
                refine ⟨fun hc => ?_, fun hc => ?_⟩
                · have h := h.1 hc
                  show WP l mX11_add (rm d 0 0) noX _ 0 0 34 [(2, t), (0, x1), (0, x2), (0, x3), (0, x4), (0, x5), (3, 0)] [(0, 0)] N Λ τ1
                  refine r_if_eq (tgt := 45) d_X11_add_34 rfl (fun _ => ?_) (fun hc => absurd hc (by decide))
                  refine r_bipush (x := (-3)) d_X11_add_45 ⟨by decide, by decide⟩ (by decide) ?_
                  exact r_iret d_X11_add_47 rfl rfl (Nat.le_refl 0) (Nat.le_refl 0) ⟨_, rfl, rfl, rfl, h⟩
                · have h := h.2 hc
                  show WP l mX11_add (rm d 0 0) noX _ 0 0 34 [(2, t), (0, x1), (0, x2), (0, x3), (0, x4), (0, x5), (3, 0)] [(0, 1)] N Λ τ1
                  refine r_if_eq (tgt := 45) d_X11_add_34 rfl (fun hc => absurd hc (by decide)) (fun _ => ?_)
                  refine r_iload (x := x5) d_X11_add_37 rfl ?_
                  refine x_callSI (Y2 := mX11_isNear) (As := [(0, x5)]) (S := []) d_X11_add_39 ok_mX11_isNear ml_X11_194 rfl (Nat.le_of_ble_eq_true rfl) (Nat.le_of_ble_eq_true rfl) rfl hd_1 (c_X11_isNear (v_X11_isNear_0 ?_))
                  refine ⟨fun hc => ?_, fun hc => ?_⟩
                  · have h := h.1 hc
                    show WP l mX11_add (rm d 0 0) noX _ 0 0 42 [(2, t), (0, x1), (0, x2), (0, x3), (0, x4), (0, x5), (3, 0)] [(0, 0)] N Λ τ1
                    refine r_if_ne (tgt := 48) d_X11_add_42 rfl (fun hc => absurd hc (by decide)) (fun _ => ?_)
                    refine r_bipush (x := (-3)) d_X11_add_45 ⟨by decide, by decide⟩ (by decide) ?_
                    exact r_iret d_X11_add_47 rfl rfl (Nat.le_refl 0) (Nat.le_refl 0) ⟨_, rfl, rfl, rfl, h⟩
                  · have h := h.2 hc
                    refine ⟨fun hc => ?_, fun hc => ?_⟩
                    · have h := h.1 hc
                      show WP l mX11_add (rm d 0 0) noX _ 0 0 42 [(2, t), (0, x1), (0, x2), (0, x3), (0, x4), (0, x5), (3, 0)] [(0, 0)] N Λ τ1
                      refine r_if_ne (tgt := 48) d_X11_add_42 rfl (fun hc => absurd hc (by decide)) (fun _ => ?_)
                      refine r_bipush (x := (-3)) d_X11_add_45 ⟨by decide, by decide⟩ (by decide) ?_
                      exact r_iret d_X11_add_47 rfl rfl (Nat.le_refl 0) (Nat.le_refl 0) ⟨_, rfl, rfl, rfl, h⟩
                    · have h := h.2 hc
                      show WP l mX11_add (rm d 0 0) noX _ 0 0 42 [(2, t), (0, x1), (0, x2), (0, x3), (0, x4), (0, x5), (3, 0)] [(0, 1)] N Λ τ1
                      refine r_if_ne (tgt := 48) d_X11_add_42 rfl (fun _ => ?_) (fun hc => absurd hc (by decide))
                      refine r_aload_n (x := t) d_X11_add_48 rfl o_t.1 ?_
                      refine r_getf (j := 11) (t := 2) (x := t_work) d_X11_add_49 kX11 (by decide) fl_X11_83 o_t.1 o_t.2.1 o_t.2.2.1 o_t.2.2.2 rfl f_t_work ?_
                      refine x_callVV (Y2 := mX5_empty) (c := t_work) (As := []) (S := []) d_X11_add_52 ok_mX5_empty ml_X11_151 rfl (Nat.le_of_ble_eq_true rfl) (Nat.le_of_ble_eq_true rfl) rfl hd_1 kX5 o_t_work (c_X5_empty (v_X5_empty_0 o_t_work ?_))
                      intro τ2 eτ2
                      have h := h τ2 eτ2
                      show WP l mX11_add (rm d 0 0) noX _ 0 0 55 [(2, t), (0, x1), (0, x2), (0, x3), (0, x4), (0, x5), (3, 0)] [] N Λ τ2
                      refine r_aload_n (x := t) d_X11_add_55 rfl o_t.1 ?_
                      refine r_getf (j := 11) (t := 2) (x := t_work) d_X11_add_56 kX11 (by decide) fl_X11_83 o_t.1 o_t.2.1 o_t.2.2.1 o_t.2.2.2 rfl f_t_work ?_
                      refine r_aload_n (x := t) d_X11_add_59 rfl o_t.1 ?_
                      refine r_getf (j := 0) (t := 2) (x := t_now) d_X11_add_60 kX11 (by decide) fl_X11_10 o_t.1 o_t.2.1 o_t.2.2.1 o_t.2.2.2 rfl f_t_now ?_
                      refine r_getf (j := 0) (t := 2) (x := t_now_shelves) d_X11_add_63 kX7 (by decide) fl_X11_146 o_t_now.1 o_t_now.2.1 o_t_now.2.2.1 o_t_now.2.2.2 rfl f_t_now_shelves ?_
                      refine r_iload_n (x := x2) d_X11_add_66 rfl ?_
                      refine x_aald (t := 3) (by decide) d_X11_add_67 h.1 (fun b3 eb3 => ?_)
                      have h := h.2 b3 eb3
                      have oob3 := h.1
                      have h := h.2
                      refine r_iload_n (x := x3) d_X11_add_68 rfl ?_
                      refine x_callVI (Y2 := mX5_laySum) (c := t_work) (As := [(2, b3), (0, x3)]) (S := []) d_X11_add_69 ok_mX5_laySum ml_X11_197 rfl (Nat.le_of_ble_eq_true rfl) (Nat.le_of_ble_eq_true rfl) rfl hd_1 kX5 o_t_work (CI.mono h (fun v5 σ4 h => ?_))
                      refine r_istore (L2 := [(2, t), (0, x1), (0, x2), (0, x3), (0, x4), (0, x5), (0, v5)]) d_X11_add_72 (by decide) rfl rfl ?_
                      refine r_iload (x := v5) d_X11_add_74 rfl ?_
                      refine r_if_ne (tgt := 100) d_X11_add_76 rfl (fun hc => ?_) (fun hc => ?_)
                      · have h := h.1 hc
                        refine r_aload_n (x := t) d_X11_add_100 rfl o_t.1 ?_
                        refine r_iload_n (x := x1) d_X11_add_101 rfl ?_
                        refine r_iload (x := v5) d_X11_add_102 rfl ?_
                        refine x_callVI (Y2 := mX11_keep) (c := t) (As := [(0, x1), (0, v5)]) (S := []) d_X11_add_104 ok_mX11_keep ml_X11_154 rfl (Nat.le_of_ble_eq_true rfl) (Nat.le_of_ble_eq_true rfl) rfl hd_1 kX11 o_t (CI.mono h (fun v7 σ6 h => ?_))
                        exact r_iret d_X11_add_107 rfl rfl (Nat.le_refl 0) (Nat.le_refl 0) ⟨_, rfl, rfl, rfl, h⟩
                      · have h := h.2 hc
                        refine r_aload_n (x := t) d_X11_add_79 rfl o_t.1 ?_
                        refine r_getf (j := 11) (t := 2) (x := t_work) d_X11_add_80 kX11 (by decide) fl_X11_83 o_t.1 o_t.2.1 o_t.2.2.1 o_t.2.2.2 rfl f_t_work ?_
                        refine r_aload_n (x := t) d_X11_add_83 rfl o_t.1 ?_
                        refine r_getf (j := 0) (t := 2) (x := t_now) d_X11_add_84 kX11 (by decide) fl_X11_10 o_t.1 o_t.2.1 o_t.2.2.1 o_t.2.2.2 rfl f_t_now ?_
                        refine r_getf (j := 0) (t := 2) (x := t_now_shelves) d_X11_add_87 kX7 (by decide) fl_X11_146 o_t_now.1 o_t_now.2.1 o_t_now.2.2.1 o_t_now.2.2.2 rfl f_t_now_shelves ?_
                        refine r_iload (x := x4) d_X11_add_90 rfl ?_
                        refine x_aald (t := 3) (by decide) d_X11_add_92 h.1 (fun b8 eb8 => ?_)
                        have h := h.2 b8 eb8
                        have oob8 := h.1
                        have h := h.2
                        refine r_iload (x := x5) d_X11_add_93 rfl ?_
                        refine x_callVI (Y2 := mX5_laySum) (c := t_work) (As := [(2, b8), (0, x5)]) (S := []) d_X11_add_95 ok_mX5_laySum ml_X11_197 rfl (Nat.le_of_ble_eq_true rfl) (Nat.le_of_ble_eq_true rfl) rfl hd_1 kX5 o_t_work (CI.mono h (fun v10 σ9 h => ?_))
                        refine r_istore (L2 := [(2, t), (0, x1), (0, x2), (0, x3), (0, x4), (0, x5), (0, v10)]) d_X11_add_98 (by decide) rfl rfl ?_
                        refine r_aload_n (x := t) d_X11_add_100 rfl o_t.1 ?_
                        refine r_iload_n (x := x1) d_X11_add_101 rfl ?_
                        refine r_iload (x := v10) d_X11_add_102 rfl ?_
                        refine x_callVI (Y2 := mX11_keep) (c := t) (As := [(0, x1), (0, v10)]) (S := []) d_X11_add_104 ok_mX11_keep ml_X11_154 rfl (Nat.le_of_ble_eq_true rfl) (Nat.le_of_ble_eq_true rfl) rfl hd_1 kX11 o_t (CI.mono h (fun v12 σ11 h => ?_))
                        exact r_iret d_X11_add_107 rfl rfl (Nat.le_refl 0) (Nat.le_refl 0) ⟨_, rfl, rfl, rfl, h⟩
theorem v_X11_times_0 {l : Launch} {d N : Nat} {Λ : Lay} {P : Int → Mem → Prop} {σ : Mem} {x1 x2 x3 t t_now t_now_shelves t_work : Int} (o_t : Ob N Λ t 20 14) (f_t_work : (Λ t).2.2 11 = t_work) (o_t_work : Ob N Λ t_work 15 3) (f_t_now : (Λ t).2.2 0 = t_now) (o_t_now : Ob N Λ t_now 16 3) (f_t_now_shelves : (Λ t_now).2.2 0 = t_now_shelves) (h0d : 1 ≤ d)
    (h : (∀ τ1, τ1 = st σ t 13 0 → ((x1 < 0 → P (-2) τ1) ∧ (¬ (x1 < 0) → ((6 ≤ x1 → P (-2) τ1) ∧ (¬ (6 ≤ x1) → ((x2 < 0 → P (-2) τ1) ∧ (¬ (x2 < 0) → ((6 ≤ x2 → P (-2) τ1) ∧ (¬ (6 ≤ x2) → ((x3 < 0 → P (-2) τ1) ∧ (¬ (x3 < 0) → ((6 ≤ x3 → P (-2) τ1) ∧ (¬ (6 ≤ x3) → (∀ τ2, τ2 = st τ1 t_work 2 0 → (Ix N Λ t_now_shelves 3 x2 ∧ (∀ b3, b3 = (Λ t_now_shelves).2.2 x2 → (Ob N Λ b3 15 3 ∧ (Ix N Λ t_now_shelves 3 x3 ∧ (∀ b4, b4 = (Λ t_now_shelves).2.2 x3 → (Ob N Λ b4 15 3 ∧ (CI l mX5_layProduct (d - 1) [(2, t_work), (2, b3), (2, b4)] N Λ τ2 (fun v6 σ5 => (CI l mX11_keep (d - 1) [(2, t), (0, x1), (0, v6)] N Λ σ5 (fun v8 σ7 => P v8 σ7))))))))))))))))))))))))) :
    WI l mX11_times d P 0 [(2, t), (0, x1), (0, x2), (0, x3)] [] N Λ σ := by
  have hd_1 : 1 ≤ d := Nat.le_trans (by decide) h0d
  refine r_aload_n (x := t) d_X11_times_0 rfl o_t.1 ?_
  refine r_iconst (x := 0) d_X11_times_1 ⟨by decide, by decide⟩ ?_
  refine r_putI (j := 13) d_X11_times_2 kX11 (by decide) fl_X11_90 rfl o_t.1 o_t.2.1 o_t.2.2.1 o_t.2.2.2 rfl ?_
  refine r_nmM (fun τ1 eτ1 => ?_)
  have h := h τ1 eτ1
  refine r_iload_n (x := x1) d_X11_times_5 rfl ?_
  refine x_callSI (Y2 := mX11_isShelf) (As := [(0, x1)]) (S := []) d_X11_times_6 ok_mX11_isShelf ml_X11_143 rfl (Nat.le_of_ble_eq_true rfl) (Nat.le_of_ble_eq_true rfl) rfl hd_1 (c_X11_isShelf (v_X11_isShelf_0 ?_))
  refine ⟨fun hc => ?_, fun hc => ?_⟩
  · have h := h.1 hc
    show WP l mX11_times (rm d 0 0) noX _ 0 0 9 [(2, t), (0, x1), (0, x2), (0, x3)] [(0, 0)] N Λ τ1
    refine r_if_eq (tgt := 26) d_X11_times_9 rfl (fun _ => ?_) (fun hc => absurd hc (by decide))
    refine r_bipush (x := (-2)) d_X11_times_26 ⟨by decide, by decide⟩ (by decide) ?_
    exact r_iret d_X11_times_28 rfl rfl (Nat.le_refl 0) (Nat.le_refl 0) ⟨_, rfl, rfl, rfl, h⟩
  · have h := h.2 hc
    refine ⟨fun hc => ?_, fun hc => ?_⟩
    · have h := h.1 hc
      show WP l mX11_times (rm d 0 0) noX _ 0 0 9 [(2, t), (0, x1), (0, x2), (0, x3)] [(0, 0)] N Λ τ1
      refine r_if_eq (tgt := 26) d_X11_times_9 rfl (fun _ => ?_) (fun hc => absurd hc (by decide))
      refine r_bipush (x := (-2)) d_X11_times_26 ⟨by decide, by decide⟩ (by decide) ?_
      exact r_iret d_X11_times_28 rfl rfl (Nat.le_refl 0) (Nat.le_refl 0) ⟨_, rfl, rfl, rfl, h⟩
    · have h := h.2 hc
      show WP l mX11_times (rm d 0 0) noX _ 0 0 9 [(2, t), (0, x1), (0, x2), (0, x3)] [(0, 1)] N Λ τ1
      refine r_if_eq (tgt := 26) d_X11_times_9 rfl (fun hc => absurd hc (by decide)) (fun _ => ?_)
      refine r_iload_n (x := x2) d_X11_times_12 rfl ?_
      refine x_callSI (Y2 := mX11_isShelf) (As := [(0, x2)]) (S := []) d_X11_times_13 ok_mX11_isShelf ml_X11_143 rfl (Nat.le_of_ble_eq_true rfl) (Nat.le_of_ble_eq_true rfl) rfl hd_1 (c_X11_isShelf (v_X11_isShelf_0 ?_))
      refine ⟨fun hc => ?_, fun hc => ?_⟩
      · have h := h.1 hc
        show WP l mX11_times (rm d 0 0) noX _ 0 0 16 [(2, t), (0, x1), (0, x2), (0, x3)] [(0, 0)] N Λ τ1
        refine r_if_eq (tgt := 26) d_X11_times_16 rfl (fun _ => ?_) (fun hc => absurd hc (by decide))
        refine r_bipush (x := (-2)) d_X11_times_26 ⟨by decide, by decide⟩ (by decide) ?_
        exact r_iret d_X11_times_28 rfl rfl (Nat.le_refl 0) (Nat.le_refl 0) ⟨_, rfl, rfl, rfl, h⟩
      · have h := h.2 hc
        refine ⟨fun hc => ?_, fun hc => ?_⟩
        · have h := h.1 hc
          show WP l mX11_times (rm d 0 0) noX _ 0 0 16 [(2, t), (0, x1), (0, x2), (0, x3)] [(0, 0)] N Λ τ1
          refine r_if_eq (tgt := 26) d_X11_times_16 rfl (fun _ => ?_) (fun hc => absurd hc (by decide))
          refine r_bipush (x := (-2)) d_X11_times_26 ⟨by decide, by decide⟩ (by decide) ?_
          exact r_iret d_X11_times_28 rfl rfl (Nat.le_refl 0) (Nat.le_refl 0) ⟨_, rfl, rfl, rfl, h⟩
        · have h := h.2 hc
          show WP l mX11_times (rm d 0 0) noX _ 0 0 16 [(2, t), (0, x1), (0, x2), (0, x3)] [(0, 1)] N Λ τ1
          refine r_if_eq (tgt := 26) d_X11_times_16 rfl (fun hc => absurd hc (by decide)) (fun _ => ?_)
          refine r_iload_n (x := x3) d_X11_times_19 rfl ?_
          refine x_callSI (Y2 := mX11_isShelf) (As := [(0, x3)]) (S := []) d_X11_times_20 ok_mX11_isShelf ml_X11_143 rfl (Nat.le_of_ble_eq_true rfl) (Nat.le_of_ble_eq_true rfl) rfl hd_1 (c_X11_isShelf (v_X11_isShelf_0 ?_))
          refine ⟨fun hc => ?_, fun hc => ?_⟩
          · have h := h.1 hc
            show WP l mX11_times (rm d 0 0) noX _ 0 0 23 [(2, t), (0, x1), (0, x2), (0, x3)] [(0, 0)] N Λ τ1
            refine r_if_ne (tgt := 29) d_X11_times_23 rfl (fun hc => absurd hc (by decide)) (fun _ => ?_)
            refine r_bipush (x := (-2)) d_X11_times_26 ⟨by decide, by decide⟩ (by decide) ?_
            exact r_iret d_X11_times_28 rfl rfl (Nat.le_refl 0) (Nat.le_refl 0) ⟨_, rfl, rfl, rfl, h⟩
          · have h := h.2 hc
            refine ⟨fun hc => ?_, fun hc => ?_⟩
            · have h := h.1 hc
              show WP l mX11_times (rm d 0 0) noX _ 0 0 23 [(2, t), (0, x1), (0, x2), (0, x3)] [(0, 0)] N Λ τ1
              refine r_if_ne (tgt := 29) d_X11_times_23 rfl (fun hc => absurd hc (by decide)) (fun _ => ?_)
              refine r_bipush (x := (-2)) d_X11_times_26 ⟨by decide, by decide⟩ (by decide) ?_
              exact r_iret d_X11_times_28 rfl rfl (Nat.le_refl 0) (Nat.le_refl 0) ⟨_, rfl, rfl, rfl, h⟩
            · have h := h.2 hc
              show WP l mX11_times (rm d 0 0) noX _ 0 0 23 [(2, t), (0, x1), (0, x2), (0, x3)] [(0, 1)] N Λ τ1
              refine r_if_ne (tgt := 29) d_X11_times_23 rfl (fun _ => ?_) (fun hc => absurd hc (by decide))
              refine r_aload_n (x := t) d_X11_times_29 rfl o_t.1 ?_
              refine r_getf (j := 11) (t := 2) (x := t_work) d_X11_times_30 kX11 (by decide) fl_X11_83 o_t.1 o_t.2.1 o_t.2.2.1 o_t.2.2.2 rfl f_t_work ?_
              refine x_callVV (Y2 := mX5_empty) (c := t_work) (As := []) (S := []) d_X11_times_33 ok_mX5_empty ml_X11_151 rfl (Nat.le_of_ble_eq_true rfl) (Nat.le_of_ble_eq_true rfl) rfl hd_1 kX5 o_t_work (c_X5_empty (v_X5_empty_0 o_t_work ?_))
              intro τ2 eτ2
              have h := h τ2 eτ2
              show WP l mX11_times (rm d 0 0) noX _ 0 0 36 [(2, t), (0, x1), (0, x2), (0, x3)] [] N Λ τ2
              refine r_aload_n (x := t) d_X11_times_36 rfl o_t.1 ?_
              refine r_iload_n (x := x1) d_X11_times_37 rfl ?_
              refine r_aload_n (x := t) d_X11_times_38 rfl o_t.1 ?_
              refine r_getf (j := 11) (t := 2) (x := t_work) d_X11_times_39 kX11 (by decide) fl_X11_83 o_t.1 o_t.2.1 o_t.2.2.1 o_t.2.2.2 rfl f_t_work ?_
              refine r_aload_n (x := t) d_X11_times_42 rfl o_t.1 ?_
              refine r_getf (j := 0) (t := 2) (x := t_now) d_X11_times_43 kX11 (by decide) fl_X11_10 o_t.1 o_t.2.1 o_t.2.2.1 o_t.2.2.2 rfl f_t_now ?_
              refine r_getf (j := 0) (t := 2) (x := t_now_shelves) d_X11_times_46 kX7 (by decide) fl_X11_146 o_t_now.1 o_t_now.2.1 o_t_now.2.2.1 o_t_now.2.2.2 rfl f_t_now_shelves ?_
              refine r_iload_n (x := x2) d_X11_times_49 rfl ?_
              refine x_aald (t := 3) (by decide) d_X11_times_50 h.1 (fun b3 eb3 => ?_)
              have h := h.2 b3 eb3
              have oob3 := h.1
              have h := h.2
              refine r_aload_n (x := t) d_X11_times_51 rfl o_t.1 ?_
              refine r_getf (j := 0) (t := 2) (x := t_now) d_X11_times_52 kX11 (by decide) fl_X11_10 o_t.1 o_t.2.1 o_t.2.2.1 o_t.2.2.2 rfl f_t_now ?_
              refine r_getf (j := 0) (t := 2) (x := t_now_shelves) d_X11_times_55 kX7 (by decide) fl_X11_146 o_t_now.1 o_t_now.2.1 o_t_now.2.2.1 o_t_now.2.2.2 rfl f_t_now_shelves ?_
              refine r_iload_n (x := x3) d_X11_times_58 rfl ?_
              refine x_aald (t := 3) (by decide) d_X11_times_59 h.1 (fun b4 eb4 => ?_)
              have h := h.2 b4 eb4
              have oob4 := h.1
              have h := h.2
              refine x_callVI (Y2 := mX5_layProduct) (c := t_work) (As := [(2, b3), (2, b4)]) (S := [(0, x1), (2, t)]) d_X11_times_60 ok_mX5_layProduct ml_X11_201 rfl (Nat.le_of_ble_eq_true rfl) (Nat.le_of_ble_eq_true rfl) rfl hd_1 kX5 o_t_work (CI.mono h (fun v6 σ5 h => ?_))
              refine x_callVI (Y2 := mX11_keep) (c := t) (As := [(0, x1), (0, v6)]) (S := []) d_X11_times_63 ok_mX11_keep ml_X11_154 rfl (Nat.le_of_ble_eq_true rfl) (Nat.le_of_ble_eq_true rfl) rfl hd_1 kX11 o_t (CI.mono h (fun v8 σ7 h => ?_))
              exact r_iret d_X11_times_66 rfl rfl (Nat.le_refl 0) (Nat.le_refl 0) ⟨_, rfl, rfl, rfl, h⟩
theorem v_X11_rename_0 {l : Launch} {d N : Nat} {Λ : Lay} {P : Int → Mem → Prop} {σ : Mem} {x2 x3 x4 a1 t t_work : Int} (o_t : Ob N Λ t 20 14) (f_t_work : (Λ t).2.2 11 = t_work) (o_t_work : Ob N Λ t_work 15 3) (h0d : 1 ≤ d)
    (h : (∀ τ1, τ1 = st σ t_work 2 0 → WI l mX11_rename d P 13 [(2, t), (2, a1), (0, x2), (0, x3), (0, x4), (0, 0), (0, 0)] [] N Λ τ1)) :
    WI l mX11_rename d P 0 [(2, t), (2, a1), (0, x2), (0, x3), (0, x4), (3, 0), (3, 0)] [] N Λ σ := by
  have hd_1 : 1 ≤ d := Nat.le_trans (by decide) h0d
  refine r_aload_n (x := t) d_X11_rename_0 rfl o_t.1 ?_
  refine r_getf (j := 11) (t := 2) (x := t_work) d_X11_rename_1 kX11 (by decide) fl_X11_83 o_t.1 o_t.2.1 o_t.2.2.1 o_t.2.2.2 rfl f_t_work ?_
  refine x_callVV (Y2 := mX5_empty) (c := t_work) (As := []) (S := []) d_X11_rename_4 ok_mX5_empty ml_X11_151 rfl (Nat.le_of_ble_eq_true rfl) (Nat.le_of_ble_eq_true rfl) rfl hd_1 kX5 o_t_work (c_X5_empty (v_X5_empty_0 o_t_work ?_))
  intro τ1 eτ1
  have h := h τ1 eτ1
  show WP l mX11_rename (rm d 0 0) noX _ 0 0 7 [(2, t), (2, a1), (0, x2), (0, x3), (0, x4), (3, 0), (3, 0)] [] N Λ τ1
  refine r_iconst (x := 0) d_X11_rename_7 ⟨by decide, by decide⟩ ?_
  refine r_istore (L2 := [(2, t), (2, a1), (0, x2), (0, x3), (0, x4), (0, 0), (3, 0)]) d_X11_rename_8 (by decide) rfl rfl ?_
  refine r_iconst (x := 0) d_X11_rename_10 ⟨by decide, by decide⟩ ?_
  refine r_istore (L2 := [(2, t), (2, a1), (0, x2), (0, x3), (0, x4), (0, 0), (0, 0)]) d_X11_rename_11 (by decide) rfl rfl ?_
  exact h
theorem v_X11_rename_13 {l : Launch} {d N : Nat} {Λ : Lay} {P : Int → Mem → Prop} {σ : Mem} {x2 x3 x4 x5 x6 a1 a1_keys a1_numbers t t_term t_work : Int} (o_a1 : Ob N Λ a1 15 3) (o_t : Ob N Λ t 20 14) (f_t_term : (Λ t).2.2 10 = t_term) (f_a1_keys : (Λ a1).2.2 0 = a1_keys) (o_t_term : Ob N Λ t_term 19 2) (f_t_work : (Λ t).2.2 11 = t_work) (f_a1_numbers : (Λ a1).2.2 1 = a1_numbers) (o_t_work : Ob N Λ t_work 15 3) (h0d : 1 ≤ d)
    (h : (((σ a1 2) ≤ x6 → P x5 σ) ∧ (¬ ((σ a1 2) ≤ x6) → ((¬ x5 = 0 → P x5 σ) ∧ (x5 = 0 → (Ix N Λ a1_keys 1 x6 ∧ (CV l mX10_rename (d - 1) [(2, t_term), (1, (σ a1_keys x6)), (0, x2), (0, x3), (0, x4)] N Λ σ (fun σ1 => (Ix N Λ a1_numbers 0 x6 ∧ (CI l mX5_lay (d - 1) [(2, t_work), (1, (σ1 t_term 0)), (1, (mulL (σ1 a1_numbers x6) (σ1 t_term 1)))] N Λ σ1 (fun v3 σ2 => (∀ y4, y4 = addI x6 1 → WI l mX11_rename d P 13 [(2, t), (2, a1), (0, x2), (0, x3), (0, x4), (0, v3), (0, y4)] [] N Λ σ2)))))))))))) :
    WI l mX11_rename d P 13 [(2, t), (2, a1), (0, x2), (0, x3), (0, x4), (0, x5), (0, x6)] [] N Λ σ := by
  have hd_1 : 1 ≤ d := Nat.le_trans (by decide) h0d
  refine r_iload (x := x6) d_X11_rename_13 rfl ?_
  refine r_aload_n (x := a1) d_X11_rename_15 rfl o_a1.1 ?_
  refine r_getf (j := 2) (t := 0) (x := (σ a1 2)) d_X11_rename_16 kX5 (by decide) fl_X11_150 o_a1.1 o_a1.2.1 o_a1.2.2.1 o_a1.2.2.2 rfl rfl ?_
  refine r_ic_ge (tgt := 84) d_X11_rename_19 rfl (fun hc => ?_) (fun hc => ?_)
  · have h := h.1 hc
    refine r_iload (x := x5) d_X11_rename_84 rfl ?_
    exact r_iret d_X11_rename_86 rfl rfl (Nat.le_refl 0) (Nat.le_refl 0) ⟨_, rfl, rfl, rfl, h⟩
  · have h := h.2 hc
    refine r_iload (x := x5) d_X11_rename_22 rfl ?_
    refine r_if_ne (tgt := 84) d_X11_rename_24 rfl (fun hc => ?_) (fun hc => ?_)
    · have h := h.1 hc
      refine r_iload (x := x5) d_X11_rename_84 rfl ?_
      exact r_iret d_X11_rename_86 rfl rfl (Nat.le_refl 0) (Nat.le_refl 0) ⟨_, rfl, rfl, rfl, h⟩
    · have h := h.2 hc
      refine r_aload_n (x := t) d_X11_rename_27 rfl o_t.1 ?_
      refine r_getf (j := 10) (t := 2) (x := t_term) d_X11_rename_28 kX11 (by decide) fl_X11_76 o_t.1 o_t.2.1 o_t.2.2.1 o_t.2.2.2 rfl f_t_term ?_
      refine r_aload_n (x := a1) d_X11_rename_31 rfl o_a1.1 ?_
      refine r_getf (j := 0) (t := 2) (x := a1_keys) d_X11_rename_32 kX5 (by decide) fl_X11_241 o_a1.1 o_a1.2.1 o_a1.2.2.1 o_a1.2.2.2 rfl f_a1_keys ?_
      refine r_iload (x := x6) d_X11_rename_35 rfl ?_
      refine x_lald d_X11_rename_37 h.1 ?_
      have h := h.2
      refine r_iload_n (x := x2) d_X11_rename_38 rfl ?_
      refine r_iload_n (x := x3) d_X11_rename_39 rfl ?_
      refine r_iload (x := x4) d_X11_rename_40 rfl ?_
      refine x_callVV (Y2 := mX10_rename) (c := t_term) (As := [(1, (σ a1_keys x6)), (0, x2), (0, x3), (0, x4)]) (S := []) d_X11_rename_42 ok_mX10_rename ml_X11_336 rfl (Nat.le_of_ble_eq_true rfl) (Nat.le_of_ble_eq_true rfl) rfl hd_1 kX10 o_t_term (CV.mono h (fun σ1 h => ?_))
      refine r_aload_n (x := t) d_X11_rename_45 rfl o_t.1 ?_
      refine r_getf (j := 11) (t := 2) (x := t_work) d_X11_rename_46 kX11 (by decide) fl_X11_83 o_t.1 o_t.2.1 o_t.2.2.1 o_t.2.2.2 rfl f_t_work ?_
      refine r_aload_n (x := t) d_X11_rename_49 rfl o_t.1 ?_
      refine r_getf (j := 10) (t := 2) (x := t_term) d_X11_rename_50 kX11 (by decide) fl_X11_76 o_t.1 o_t.2.1 o_t.2.2.1 o_t.2.2.2 rfl f_t_term ?_
      refine r_getf (j := 0) (t := 1) (x := (σ1 t_term 0)) d_X11_rename_53 kX10 (by decide) fl_X11_176 o_t_term.1 o_t_term.2.1 o_t_term.2.2.1 o_t_term.2.2.2 rfl rfl ?_
      refine r_aload_n (x := a1) d_X11_rename_56 rfl o_a1.1 ?_
      refine r_getf (j := 1) (t := 2) (x := a1_numbers) d_X11_rename_57 kX5 (by decide) fl_X11_249 o_a1.1 o_a1.2.1 o_a1.2.2.1 o_a1.2.2.2 rfl f_a1_numbers ?_
      refine r_iload (x := x6) d_X11_rename_60 rfl ?_
      refine x_iald d_X11_rename_62 h.1 ?_
      have h := h.2
      refine r_i2l d_X11_rename_63 ?_
      refine r_aload_n (x := t) d_X11_rename_64 rfl o_t.1 ?_
      refine r_getf (j := 10) (t := 2) (x := t_term) d_X11_rename_65 kX11 (by decide) fl_X11_76 o_t.1 o_t.2.1 o_t.2.2.1 o_t.2.2.2 rfl f_t_term ?_
      refine r_getf (j := 1) (t := 0) (x := (σ1 t_term 1)) d_X11_rename_68 kX10 (by decide) fl_X11_180 o_t_term.1 o_t_term.2.1 o_t_term.2.2.1 o_t_term.2.2.2 rfl rfl ?_
      refine r_i2l d_X11_rename_71 ?_
      refine r_lmul d_X11_rename_72 ?_
      refine x_callVI (Y2 := mX5_lay) (c := t_work) (As := [(1, (σ1 t_term 0)), (1, (mulL (σ1 a1_numbers x6) (σ1 t_term 1)))]) (S := []) d_X11_rename_73 ok_mX5_lay ml_X11_183 rfl (Nat.le_of_ble_eq_true rfl) (Nat.le_of_ble_eq_true rfl) rfl hd_1 kX5 o_t_work (CI.mono h (fun v3 σ2 h => ?_))
      refine r_istore (L2 := [(2, t), (2, a1), (0, x2), (0, x3), (0, x4), (0, v3), (0, x6)]) d_X11_rename_76 (by decide) rfl rfl ?_
      refine x_iinc (x := x6) (L := [(2, t), (2, a1), (0, x2), (0, x3), (0, x4), (0, v3), (0, x6)]) d_X11_rename_78 rfl (by decide) rfl (fun y4 ey4 => ?_)
      have h := h y4 ey4
      show WP _ _ _ _ _ _ _ _ [(2, t), (2, a1), (0, x2), (0, x3), (0, x4), (0, v3), (0, y4)] _ _ _ _
      refine r_goto (tgt := 13) d_X11_rename_81 rfl ?_
      exact h
theorem v_X11_put_0 {l : Launch} {d N : Nat} {Λ : Lay} {P : Int → Mem → Prop} {σ : Mem} {x1 x2 x3 x4 t t_now t_now_shelves : Int} (o_t : Ob N Λ t 20 14) (f_t_now : (Λ t).2.2 0 = t_now) (o_t_now : Ob N Λ t_now 16 3) (f_t_now_shelves : (Λ t_now).2.2 0 = t_now_shelves) (h0d : 1 ≤ d)
    (h : (∀ τ1, τ1 = st σ t 13 0 → ((x1 < 0 → P (-2) τ1) ∧ (¬ (x1 < 0) → ((6 ≤ x1 → P (-2) τ1) ∧ (¬ (6 ≤ x1) → ((x2 < 0 → P (-2) τ1) ∧ (¬ (x2 < 0) → ((6 ≤ x2 → P (-2) τ1) ∧ (¬ (6 ≤ x2) → ((x3 < 0 → P (-2) τ1) ∧ (¬ (x3 < 0) → ((10 ≤ x3 → P (-2) τ1) ∧ (¬ (10 ≤ x3) → ((x4 < 0 → P (-2) τ1) ∧ (¬ (x4 < 0) → ((10 ≤ x4 → P (-2) τ1) ∧ (¬ (10 ≤ x4) → (Ix N Λ t_now_shelves 3 x2 ∧ (∀ b2, b2 = (Λ t_now_shelves).2.2 x2 → (Ob N Λ b2 15 3 ∧ (CI l mX11_rename (d - 1) [(2, t), (2, b2), (0, x3), (0, x4), (0, 0)] N Λ τ1 (fun v4 σ3 => (CI l mX11_keep (d - 1) [(2, t), (0, x1), (0, v4)] N Λ σ3 (fun v6 σ5 => P v6 σ5))))))))))))))))))))))))) :
    WI l mX11_put d P 0 [(2, t), (0, x1), (0, x2), (0, x3), (0, x4)] [] N Λ σ := by
  have hd_1 : 1 ≤ d := Nat.le_trans (by decide) h0d
  refine r_aload_n (x := t) d_X11_put_0 rfl o_t.1 ?_
  refine r_iconst (x := 0) d_X11_put_1 ⟨by decide, by decide⟩ ?_
  refine r_putI (j := 13) d_X11_put_2 kX11 (by decide) fl_X11_90 rfl o_t.1 o_t.2.1 o_t.2.2.1 o_t.2.2.2 rfl ?_
  refine r_nmM (fun τ1 eτ1 => ?_)
  have h := h τ1 eτ1
  refine r_iload_n (x := x1) d_X11_put_5 rfl ?_
  refine x_callSI (Y2 := mX11_isShelf) (As := [(0, x1)]) (S := []) d_X11_put_6 ok_mX11_isShelf ml_X11_143 rfl (Nat.le_of_ble_eq_true rfl) (Nat.le_of_ble_eq_true rfl) rfl hd_1 (c_X11_isShelf (v_X11_isShelf_0 ?_))
  refine ⟨fun hc => ?_, fun hc => ?_⟩
  · have h := h.1 hc
    show WP l mX11_put (rm d 0 0) noX _ 0 0 9 [(2, t), (0, x1), (0, x2), (0, x3), (0, x4)] [(0, 0)] N Λ τ1
    refine r_if_eq (tgt := 34) d_X11_put_9 rfl (fun _ => ?_) (fun hc => absurd hc (by decide))
    refine r_bipush (x := (-2)) d_X11_put_34 ⟨by decide, by decide⟩ (by decide) ?_
    exact r_iret d_X11_put_36 rfl rfl (Nat.le_refl 0) (Nat.le_refl 0) ⟨_, rfl, rfl, rfl, h⟩
  · have h := h.2 hc
    refine ⟨fun hc => ?_, fun hc => ?_⟩
    · have h := h.1 hc
      show WP l mX11_put (rm d 0 0) noX _ 0 0 9 [(2, t), (0, x1), (0, x2), (0, x3), (0, x4)] [(0, 0)] N Λ τ1
      refine r_if_eq (tgt := 34) d_X11_put_9 rfl (fun _ => ?_) (fun hc => absurd hc (by decide))
      refine r_bipush (x := (-2)) d_X11_put_34 ⟨by decide, by decide⟩ (by decide) ?_
      exact r_iret d_X11_put_36 rfl rfl (Nat.le_refl 0) (Nat.le_refl 0) ⟨_, rfl, rfl, rfl, h⟩
    · have h := h.2 hc
      show WP l mX11_put (rm d 0 0) noX _ 0 0 9 [(2, t), (0, x1), (0, x2), (0, x3), (0, x4)] [(0, 1)] N Λ τ1
      refine r_if_eq (tgt := 34) d_X11_put_9 rfl (fun hc => absurd hc (by decide)) (fun _ => ?_)
      refine r_iload_n (x := x2) d_X11_put_12 rfl ?_
      refine x_callSI (Y2 := mX11_isShelf) (As := [(0, x2)]) (S := []) d_X11_put_13 ok_mX11_isShelf ml_X11_143 rfl (Nat.le_of_ble_eq_true rfl) (Nat.le_of_ble_eq_true rfl) rfl hd_1 (c_X11_isShelf (v_X11_isShelf_0 ?_))
      refine ⟨fun hc => ?_, fun hc => ?_⟩
      · have h := h.1 hc
        show WP l mX11_put (rm d 0 0) noX _ 0 0 16 [(2, t), (0, x1), (0, x2), (0, x3), (0, x4)] [(0, 0)] N Λ τ1
        refine r_if_eq (tgt := 34) d_X11_put_16 rfl (fun _ => ?_) (fun hc => absurd hc (by decide))
        refine r_bipush (x := (-2)) d_X11_put_34 ⟨by decide, by decide⟩ (by decide) ?_
        exact r_iret d_X11_put_36 rfl rfl (Nat.le_refl 0) (Nat.le_refl 0) ⟨_, rfl, rfl, rfl, h⟩
      · have h := h.2 hc
        refine ⟨fun hc => ?_, fun hc => ?_⟩
        · have h := h.1 hc
          show WP l mX11_put (rm d 0 0) noX _ 0 0 16 [(2, t), (0, x1), (0, x2), (0, x3), (0, x4)] [(0, 0)] N Λ τ1
          refine r_if_eq (tgt := 34) d_X11_put_16 rfl (fun _ => ?_) (fun hc => absurd hc (by decide))
          refine r_bipush (x := (-2)) d_X11_put_34 ⟨by decide, by decide⟩ (by decide) ?_
          exact r_iret d_X11_put_36 rfl rfl (Nat.le_refl 0) (Nat.le_refl 0) ⟨_, rfl, rfl, rfl, h⟩
        · have h := h.2 hc
          show WP l mX11_put (rm d 0 0) noX _ 0 0 16 [(2, t), (0, x1), (0, x2), (0, x3), (0, x4)] [(0, 1)] N Λ τ1
          refine r_if_eq (tgt := 34) d_X11_put_16 rfl (fun hc => absurd hc (by decide)) (fun _ => ?_)
          refine r_iload_n (x := x3) d_X11_put_19 rfl ?_
          refine x_callSI (Y2 := mX11_isLetter) (As := [(0, x3)]) (S := []) d_X11_put_20 ok_mX11_isLetter ml_X11_205 rfl (Nat.le_of_ble_eq_true rfl) (Nat.le_of_ble_eq_true rfl) rfl hd_1 (c_X11_isLetter (v_X11_isLetter_0 ?_))
          refine ⟨fun hc => ?_, fun hc => ?_⟩
          · have h := h.1 hc
            show WP l mX11_put (rm d 0 0) noX _ 0 0 23 [(2, t), (0, x1), (0, x2), (0, x3), (0, x4)] [(0, 0)] N Λ τ1
            refine r_if_eq (tgt := 34) d_X11_put_23 rfl (fun _ => ?_) (fun hc => absurd hc (by decide))
            refine r_bipush (x := (-2)) d_X11_put_34 ⟨by decide, by decide⟩ (by decide) ?_
            exact r_iret d_X11_put_36 rfl rfl (Nat.le_refl 0) (Nat.le_refl 0) ⟨_, rfl, rfl, rfl, h⟩
          · have h := h.2 hc
            refine ⟨fun hc => ?_, fun hc => ?_⟩
            · have h := h.1 hc
              show WP l mX11_put (rm d 0 0) noX _ 0 0 23 [(2, t), (0, x1), (0, x2), (0, x3), (0, x4)] [(0, 0)] N Λ τ1
              refine r_if_eq (tgt := 34) d_X11_put_23 rfl (fun _ => ?_) (fun hc => absurd hc (by decide))
              refine r_bipush (x := (-2)) d_X11_put_34 ⟨by decide, by decide⟩ (by decide) ?_
              exact r_iret d_X11_put_36 rfl rfl (Nat.le_refl 0) (Nat.le_refl 0) ⟨_, rfl, rfl, rfl, h⟩
            · have h := h.2 hc
              show WP l mX11_put (rm d 0 0) noX _ 0 0 23 [(2, t), (0, x1), (0, x2), (0, x3), (0, x4)] [(0, 1)] N Λ τ1
              refine r_if_eq (tgt := 34) d_X11_put_23 rfl (fun hc => absurd hc (by decide)) (fun _ => ?_)
              refine r_iload (x := x4) d_X11_put_26 rfl ?_
              refine x_callSI (Y2 := mX11_isLetter) (As := [(0, x4)]) (S := []) d_X11_put_28 ok_mX11_isLetter ml_X11_205 rfl (Nat.le_of_ble_eq_true rfl) (Nat.le_of_ble_eq_true rfl) rfl hd_1 (c_X11_isLetter (v_X11_isLetter_0 ?_))
              refine ⟨fun hc => ?_, fun hc => ?_⟩
              · have h := h.1 hc
                show WP l mX11_put (rm d 0 0) noX _ 0 0 31 [(2, t), (0, x1), (0, x2), (0, x3), (0, x4)] [(0, 0)] N Λ τ1
                refine r_if_ne (tgt := 37) d_X11_put_31 rfl (fun hc => absurd hc (by decide)) (fun _ => ?_)
                refine r_bipush (x := (-2)) d_X11_put_34 ⟨by decide, by decide⟩ (by decide) ?_
                exact r_iret d_X11_put_36 rfl rfl (Nat.le_refl 0) (Nat.le_refl 0) ⟨_, rfl, rfl, rfl, h⟩
              · have h := h.2 hc
                refine ⟨fun hc => ?_, fun hc => ?_⟩
                · have h := h.1 hc
                  show WP l mX11_put (rm d 0 0) noX _ 0 0 31 [(2, t), (0, x1), (0, x2), (0, x3), (0, x4)] [(0, 0)] N Λ τ1
                  refine r_if_ne (tgt := 37) d_X11_put_31 rfl (fun hc => absurd hc (by decide)) (fun _ => ?_)
                  refine r_bipush (x := (-2)) d_X11_put_34 ⟨by decide, by decide⟩ (by decide) ?_
                  exact r_iret d_X11_put_36 rfl rfl (Nat.le_refl 0) (Nat.le_refl 0) ⟨_, rfl, rfl, rfl, h⟩
                · have h := h.2 hc
                  show WP l mX11_put (rm d 0 0) noX _ 0 0 31 [(2, t), (0, x1), (0, x2), (0, x3), (0, x4)] [(0, 1)] N Λ τ1
                  refine r_if_ne (tgt := 37) d_X11_put_31 rfl (fun _ => ?_) (fun hc => absurd hc (by decide))
                  refine r_aload_n (x := t) d_X11_put_37 rfl o_t.1 ?_
                  refine r_iload_n (x := x1) d_X11_put_38 rfl ?_
                  refine r_aload_n (x := t) d_X11_put_39 rfl o_t.1 ?_
                  refine r_aload_n (x := t) d_X11_put_40 rfl o_t.1 ?_
                  refine r_getf (j := 0) (t := 2) (x := t_now) d_X11_put_41 kX11 (by decide) fl_X11_10 o_t.1 o_t.2.1 o_t.2.2.1 o_t.2.2.2 rfl f_t_now ?_
                  refine r_getf (j := 0) (t := 2) (x := t_now_shelves) d_X11_put_44 kX7 (by decide) fl_X11_146 o_t_now.1 o_t_now.2.1 o_t_now.2.2.1 o_t_now.2.2.2 rfl f_t_now_shelves ?_
                  refine r_iload_n (x := x2) d_X11_put_47 rfl ?_
                  refine x_aald (t := 3) (by decide) d_X11_put_48 h.1 (fun b2 eb2 => ?_)
                  have h := h.2 b2 eb2
                  have oob2 := h.1
                  have h := h.2
                  refine r_iload_n (x := x3) d_X11_put_49 rfl ?_
                  refine r_iload (x := x4) d_X11_put_50 rfl ?_
                  refine r_iconst (x := 0) d_X11_put_52 ⟨by decide, by decide⟩ ?_
                  refine x_callVI (Y2 := mX11_rename) (c := t) (As := [(2, b2), (0, x3), (0, x4), (0, 0)]) (S := [(0, x1), (2, t)]) d_X11_put_53 ok_mX11_rename ml_X11_208 rfl (Nat.le_of_ble_eq_true rfl) (Nat.le_of_ble_eq_true rfl) rfl hd_1 kX11 o_t (CI.mono h (fun v4 σ3 h => ?_))
                  refine x_callVI (Y2 := mX11_keep) (c := t) (As := [(0, x1), (0, v4)]) (S := []) d_X11_put_56 ok_mX11_keep ml_X11_154 rfl (Nat.le_of_ble_eq_true rfl) (Nat.le_of_ble_eq_true rfl) rfl hd_1 kX11 o_t (CI.mono h (fun v6 σ5 h => ?_))
                  exact r_iret d_X11_put_59 rfl rfl (Nat.le_refl 0) (Nat.le_refl 0) ⟨_, rfl, rfl, rfl, h⟩
theorem v_X11_turn_0 {l : Launch} {d N : Nat} {Λ : Lay} {P : Int → Mem → Prop} {σ : Mem} {x1 x2 x3 x4 t t_now t_now_shelves : Int} (o_t : Ob N Λ t 20 14) (f_t_now : (Λ t).2.2 0 = t_now) (o_t_now : Ob N Λ t_now 16 3) (f_t_now_shelves : (Λ t_now).2.2 0 = t_now_shelves) (h0d : 1 ≤ d)
    (h : (∀ τ1, τ1 = st σ t 13 0 → ((x1 < 0 → P (-2) τ1) ∧ (¬ (x1 < 0) → ((6 ≤ x1 → P (-2) τ1) ∧ (¬ (6 ≤ x1) → ((x2 < 0 → P (-2) τ1) ∧ (¬ (x2 < 0) → ((6 ≤ x2 → P (-2) τ1) ∧ (¬ (6 ≤ x2) → ((x3 < 0 → P (-2) τ1) ∧ (¬ (x3 < 0) → ((10 ≤ x3 → P (-2) τ1) ∧ (¬ (10 ≤ x3) → ((x4 < 0 → P (-2) τ1) ∧ (¬ (x4 < 0) → ((10 ≤ x4 → P (-2) τ1) ∧ (¬ (10 ≤ x4) → (Ix N Λ t_now_shelves 3 x2 ∧ (∀ b2, b2 = (Λ t_now_shelves).2.2 x2 → (Ob N Λ b2 15 3 ∧ (CI l mX11_rename (d - 1) [(2, t), (2, b2), (0, x3), (0, x4), (0, 1)] N Λ τ1 (fun v4 σ3 => (CI l mX11_keep (d - 1) [(2, t), (0, x1), (0, v4)] N Λ σ3 (fun v6 σ5 => P v6 σ5))))))))))))))))))))))))) :
    WI l mX11_turn d P 0 [(2, t), (0, x1), (0, x2), (0, x3), (0, x4)] [] N Λ σ := by
  have hd_1 : 1 ≤ d := Nat.le_trans (by decide) h0d
  refine r_aload_n (x := t) d_X11_turn_0 rfl o_t.1 ?_
  refine r_iconst (x := 0) d_X11_turn_1 ⟨by decide, by decide⟩ ?_
  refine r_putI (j := 13) d_X11_turn_2 kX11 (by decide) fl_X11_90 rfl o_t.1 o_t.2.1 o_t.2.2.1 o_t.2.2.2 rfl ?_
  refine r_nmM (fun τ1 eτ1 => ?_)
  have h := h τ1 eτ1
  refine r_iload_n (x := x1) d_X11_turn_5 rfl ?_
  refine x_callSI (Y2 := mX11_isShelf) (As := [(0, x1)]) (S := []) d_X11_turn_6 ok_mX11_isShelf ml_X11_143 rfl (Nat.le_of_ble_eq_true rfl) (Nat.le_of_ble_eq_true rfl) rfl hd_1 (c_X11_isShelf (v_X11_isShelf_0 ?_))
  refine ⟨fun hc => ?_, fun hc => ?_⟩
  · have h := h.1 hc
    show WP l mX11_turn (rm d 0 0) noX _ 0 0 9 [(2, t), (0, x1), (0, x2), (0, x3), (0, x4)] [(0, 0)] N Λ τ1
    refine r_if_eq (tgt := 34) d_X11_turn_9 rfl (fun _ => ?_) (fun hc => absurd hc (by decide))
    refine r_bipush (x := (-2)) d_X11_turn_34 ⟨by decide, by decide⟩ (by decide) ?_
    exact r_iret d_X11_turn_36 rfl rfl (Nat.le_refl 0) (Nat.le_refl 0) ⟨_, rfl, rfl, rfl, h⟩
  · have h := h.2 hc
    refine ⟨fun hc => ?_, fun hc => ?_⟩
    · have h := h.1 hc
      show WP l mX11_turn (rm d 0 0) noX _ 0 0 9 [(2, t), (0, x1), (0, x2), (0, x3), (0, x4)] [(0, 0)] N Λ τ1
      refine r_if_eq (tgt := 34) d_X11_turn_9 rfl (fun _ => ?_) (fun hc => absurd hc (by decide))
      refine r_bipush (x := (-2)) d_X11_turn_34 ⟨by decide, by decide⟩ (by decide) ?_
      exact r_iret d_X11_turn_36 rfl rfl (Nat.le_refl 0) (Nat.le_refl 0) ⟨_, rfl, rfl, rfl, h⟩
    · have h := h.2 hc
      show WP l mX11_turn (rm d 0 0) noX _ 0 0 9 [(2, t), (0, x1), (0, x2), (0, x3), (0, x4)] [(0, 1)] N Λ τ1
      refine r_if_eq (tgt := 34) d_X11_turn_9 rfl (fun hc => absurd hc (by decide)) (fun _ => ?_)
      refine r_iload_n (x := x2) d_X11_turn_12 rfl ?_
      refine x_callSI (Y2 := mX11_isShelf) (As := [(0, x2)]) (S := []) d_X11_turn_13 ok_mX11_isShelf ml_X11_143 rfl (Nat.le_of_ble_eq_true rfl) (Nat.le_of_ble_eq_true rfl) rfl hd_1 (c_X11_isShelf (v_X11_isShelf_0 ?_))
      refine ⟨fun hc => ?_, fun hc => ?_⟩
      · have h := h.1 hc
        show WP l mX11_turn (rm d 0 0) noX _ 0 0 16 [(2, t), (0, x1), (0, x2), (0, x3), (0, x4)] [(0, 0)] N Λ τ1
        refine r_if_eq (tgt := 34) d_X11_turn_16 rfl (fun _ => ?_) (fun hc => absurd hc (by decide))
        refine r_bipush (x := (-2)) d_X11_turn_34 ⟨by decide, by decide⟩ (by decide) ?_
        exact r_iret d_X11_turn_36 rfl rfl (Nat.le_refl 0) (Nat.le_refl 0) ⟨_, rfl, rfl, rfl, h⟩
      · have h := h.2 hc
        refine ⟨fun hc => ?_, fun hc => ?_⟩
        · have h := h.1 hc
          show WP l mX11_turn (rm d 0 0) noX _ 0 0 16 [(2, t), (0, x1), (0, x2), (0, x3), (0, x4)] [(0, 0)] N Λ τ1
          refine r_if_eq (tgt := 34) d_X11_turn_16 rfl (fun _ => ?_) (fun hc => absurd hc (by decide))
          refine r_bipush (x := (-2)) d_X11_turn_34 ⟨by decide, by decide⟩ (by decide) ?_
          exact r_iret d_X11_turn_36 rfl rfl (Nat.le_refl 0) (Nat.le_refl 0) ⟨_, rfl, rfl, rfl, h⟩
        · have h := h.2 hc
          show WP l mX11_turn (rm d 0 0) noX _ 0 0 16 [(2, t), (0, x1), (0, x2), (0, x3), (0, x4)] [(0, 1)] N Λ τ1
          refine r_if_eq (tgt := 34) d_X11_turn_16 rfl (fun hc => absurd hc (by decide)) (fun _ => ?_)
          refine r_iload_n (x := x3) d_X11_turn_19 rfl ?_
          refine x_callSI (Y2 := mX11_isLetter) (As := [(0, x3)]) (S := []) d_X11_turn_20 ok_mX11_isLetter ml_X11_205 rfl (Nat.le_of_ble_eq_true rfl) (Nat.le_of_ble_eq_true rfl) rfl hd_1 (c_X11_isLetter (v_X11_isLetter_0 ?_))
          refine ⟨fun hc => ?_, fun hc => ?_⟩
          · have h := h.1 hc
            show WP l mX11_turn (rm d 0 0) noX _ 0 0 23 [(2, t), (0, x1), (0, x2), (0, x3), (0, x4)] [(0, 0)] N Λ τ1
            refine r_if_eq (tgt := 34) d_X11_turn_23 rfl (fun _ => ?_) (fun hc => absurd hc (by decide))
            refine r_bipush (x := (-2)) d_X11_turn_34 ⟨by decide, by decide⟩ (by decide) ?_
            exact r_iret d_X11_turn_36 rfl rfl (Nat.le_refl 0) (Nat.le_refl 0) ⟨_, rfl, rfl, rfl, h⟩
          · have h := h.2 hc
            refine ⟨fun hc => ?_, fun hc => ?_⟩
            · have h := h.1 hc
              show WP l mX11_turn (rm d 0 0) noX _ 0 0 23 [(2, t), (0, x1), (0, x2), (0, x3), (0, x4)] [(0, 0)] N Λ τ1
              refine r_if_eq (tgt := 34) d_X11_turn_23 rfl (fun _ => ?_) (fun hc => absurd hc (by decide))
              refine r_bipush (x := (-2)) d_X11_turn_34 ⟨by decide, by decide⟩ (by decide) ?_
              exact r_iret d_X11_turn_36 rfl rfl (Nat.le_refl 0) (Nat.le_refl 0) ⟨_, rfl, rfl, rfl, h⟩
            · have h := h.2 hc
              show WP l mX11_turn (rm d 0 0) noX _ 0 0 23 [(2, t), (0, x1), (0, x2), (0, x3), (0, x4)] [(0, 1)] N Λ τ1
              refine r_if_eq (tgt := 34) d_X11_turn_23 rfl (fun hc => absurd hc (by decide)) (fun _ => ?_)
              refine r_iload (x := x4) d_X11_turn_26 rfl ?_
              refine x_callSI (Y2 := mX11_isLetter) (As := [(0, x4)]) (S := []) d_X11_turn_28 ok_mX11_isLetter ml_X11_205 rfl (Nat.le_of_ble_eq_true rfl) (Nat.le_of_ble_eq_true rfl) rfl hd_1 (c_X11_isLetter (v_X11_isLetter_0 ?_))
              refine ⟨fun hc => ?_, fun hc => ?_⟩
              · have h := h.1 hc
                show WP l mX11_turn (rm d 0 0) noX _ 0 0 31 [(2, t), (0, x1), (0, x2), (0, x3), (0, x4)] [(0, 0)] N Λ τ1
                refine r_if_ne (tgt := 37) d_X11_turn_31 rfl (fun hc => absurd hc (by decide)) (fun _ => ?_)
                refine r_bipush (x := (-2)) d_X11_turn_34 ⟨by decide, by decide⟩ (by decide) ?_
                exact r_iret d_X11_turn_36 rfl rfl (Nat.le_refl 0) (Nat.le_refl 0) ⟨_, rfl, rfl, rfl, h⟩
              · have h := h.2 hc
                refine ⟨fun hc => ?_, fun hc => ?_⟩
                · have h := h.1 hc
                  show WP l mX11_turn (rm d 0 0) noX _ 0 0 31 [(2, t), (0, x1), (0, x2), (0, x3), (0, x4)] [(0, 0)] N Λ τ1
                  refine r_if_ne (tgt := 37) d_X11_turn_31 rfl (fun hc => absurd hc (by decide)) (fun _ => ?_)
                  refine r_bipush (x := (-2)) d_X11_turn_34 ⟨by decide, by decide⟩ (by decide) ?_
                  exact r_iret d_X11_turn_36 rfl rfl (Nat.le_refl 0) (Nat.le_refl 0) ⟨_, rfl, rfl, rfl, h⟩
                · have h := h.2 hc
                  show WP l mX11_turn (rm d 0 0) noX _ 0 0 31 [(2, t), (0, x1), (0, x2), (0, x3), (0, x4)] [(0, 1)] N Λ τ1
                  refine r_if_ne (tgt := 37) d_X11_turn_31 rfl (fun _ => ?_) (fun hc => absurd hc (by decide))
                  refine r_aload_n (x := t) d_X11_turn_37 rfl o_t.1 ?_
                  refine r_iload_n (x := x1) d_X11_turn_38 rfl ?_
                  refine r_aload_n (x := t) d_X11_turn_39 rfl o_t.1 ?_
                  refine r_aload_n (x := t) d_X11_turn_40 rfl o_t.1 ?_
                  refine r_getf (j := 0) (t := 2) (x := t_now) d_X11_turn_41 kX11 (by decide) fl_X11_10 o_t.1 o_t.2.1 o_t.2.2.1 o_t.2.2.2 rfl f_t_now ?_
                  refine r_getf (j := 0) (t := 2) (x := t_now_shelves) d_X11_turn_44 kX7 (by decide) fl_X11_146 o_t_now.1 o_t_now.2.1 o_t_now.2.2.1 o_t_now.2.2.2 rfl f_t_now_shelves ?_
                  refine r_iload_n (x := x2) d_X11_turn_47 rfl ?_
                  refine x_aald (t := 3) (by decide) d_X11_turn_48 h.1 (fun b2 eb2 => ?_)
                  have h := h.2 b2 eb2
                  have oob2 := h.1
                  have h := h.2
                  refine r_iload_n (x := x3) d_X11_turn_49 rfl ?_
                  refine r_iload (x := x4) d_X11_turn_50 rfl ?_
                  refine r_iconst (x := 1) d_X11_turn_52 ⟨by decide, by decide⟩ ?_
                  refine x_callVI (Y2 := mX11_rename) (c := t) (As := [(2, b2), (0, x3), (0, x4), (0, 1)]) (S := [(0, x1), (2, t)]) d_X11_turn_53 ok_mX11_rename ml_X11_208 rfl (Nat.le_of_ble_eq_true rfl) (Nat.le_of_ble_eq_true rfl) rfl hd_1 kX11 o_t (CI.mono h (fun v4 σ3 h => ?_))
                  refine x_callVI (Y2 := mX11_keep) (c := t) (As := [(0, x1), (0, v4)]) (S := []) d_X11_turn_56 ok_mX11_keep ml_X11_154 rfl (Nat.le_of_ble_eq_true rfl) (Nat.le_of_ble_eq_true rfl) rfl hd_1 kX11 o_t (CI.mono h (fun v6 σ5 h => ?_))
                  exact r_iret d_X11_turn_59 rfl rfl (Nat.le_refl 0) (Nat.le_refl 0) ⟨_, rfl, rfl, rfl, h⟩
theorem v_X11_straight_0 {l : Launch} {d N : Nat} {Λ : Lay} {P : Int → Mem → Prop} {σ : Mem} {x1 x2 t t_now t_now_shelves t_straightener t_work : Int} (o_t : Ob N Λ t 20 14) (f_t_straightener : (Λ t).2.2 5 = t_straightener) (f_t_now : (Λ t).2.2 0 = t_now) (o_t_now : Ob N Λ t_now 16 3) (f_t_now_shelves : (Λ t_now).2.2 0 = t_now_shelves) (f_t_work : (Λ t).2.2 11 = t_work) (o_t_straightener : Ob N Λ t_straightener 17 2) (h0d : 1 ≤ d)
    (h : (∀ τ1, τ1 = st σ t 13 0 → ((x1 < 0 → P (-2) τ1) ∧ (¬ (x1 < 0) → ((6 ≤ x1 → P (-2) τ1) ∧ (¬ (6 ≤ x1) → ((x2 < 0 → P (-2) τ1) ∧ (¬ (x2 < 0) → ((6 ≤ x2 → P (-2) τ1) ∧ (¬ (6 ≤ x2) → (Ix N Λ t_now_shelves 3 x2 ∧ (∀ b2, b2 = (Λ t_now_shelves).2.2 x2 → (Ob N Λ b2 15 3 ∧ (CI l mX8_straighten (d - 1) [(2, t_straightener), (2, b2), (2, t_work)] N Λ τ1 (fun v4 σ3 => (CI l mX11_keep (d - 1) [(2, t), (0, x1), (0, v4)] N Λ σ3 (fun v6 σ5 => P v6 σ5))))))))))))))))) :
    WI l mX11_straight d P 0 [(2, t), (0, x1), (0, x2)] [] N Λ σ := by
  have hd_1 : 1 ≤ d := Nat.le_trans (by decide) h0d
  refine r_aload_n (x := t) d_X11_straight_0 rfl o_t.1 ?_
  refine r_iconst (x := 0) d_X11_straight_1 ⟨by decide, by decide⟩ ?_
  refine r_putI (j := 13) d_X11_straight_2 kX11 (by decide) fl_X11_90 rfl o_t.1 o_t.2.1 o_t.2.2.1 o_t.2.2.2 rfl ?_
  refine r_nmM (fun τ1 eτ1 => ?_)
  have h := h τ1 eτ1
  refine r_iload_n (x := x1) d_X11_straight_5 rfl ?_
  refine x_callSI (Y2 := mX11_isShelf) (As := [(0, x1)]) (S := []) d_X11_straight_6 ok_mX11_isShelf ml_X11_143 rfl (Nat.le_of_ble_eq_true rfl) (Nat.le_of_ble_eq_true rfl) rfl hd_1 (c_X11_isShelf (v_X11_isShelf_0 ?_))
  refine ⟨fun hc => ?_, fun hc => ?_⟩
  · have h := h.1 hc
    show WP l mX11_straight (rm d 0 0) noX _ 0 0 9 [(2, t), (0, x1), (0, x2)] [(0, 0)] N Λ τ1
    refine r_if_eq (tgt := 19) d_X11_straight_9 rfl (fun _ => ?_) (fun hc => absurd hc (by decide))
    refine r_bipush (x := (-2)) d_X11_straight_19 ⟨by decide, by decide⟩ (by decide) ?_
    exact r_iret d_X11_straight_21 rfl rfl (Nat.le_refl 0) (Nat.le_refl 0) ⟨_, rfl, rfl, rfl, h⟩
  · have h := h.2 hc
    refine ⟨fun hc => ?_, fun hc => ?_⟩
    · have h := h.1 hc
      show WP l mX11_straight (rm d 0 0) noX _ 0 0 9 [(2, t), (0, x1), (0, x2)] [(0, 0)] N Λ τ1
      refine r_if_eq (tgt := 19) d_X11_straight_9 rfl (fun _ => ?_) (fun hc => absurd hc (by decide))
      refine r_bipush (x := (-2)) d_X11_straight_19 ⟨by decide, by decide⟩ (by decide) ?_
      exact r_iret d_X11_straight_21 rfl rfl (Nat.le_refl 0) (Nat.le_refl 0) ⟨_, rfl, rfl, rfl, h⟩
    · have h := h.2 hc
      show WP l mX11_straight (rm d 0 0) noX _ 0 0 9 [(2, t), (0, x1), (0, x2)] [(0, 1)] N Λ τ1
      refine r_if_eq (tgt := 19) d_X11_straight_9 rfl (fun hc => absurd hc (by decide)) (fun _ => ?_)
      refine r_iload_n (x := x2) d_X11_straight_12 rfl ?_
      refine x_callSI (Y2 := mX11_isShelf) (As := [(0, x2)]) (S := []) d_X11_straight_13 ok_mX11_isShelf ml_X11_143 rfl (Nat.le_of_ble_eq_true rfl) (Nat.le_of_ble_eq_true rfl) rfl hd_1 (c_X11_isShelf (v_X11_isShelf_0 ?_))
      refine ⟨fun hc => ?_, fun hc => ?_⟩
      · have h := h.1 hc
        show WP l mX11_straight (rm d 0 0) noX _ 0 0 16 [(2, t), (0, x1), (0, x2)] [(0, 0)] N Λ τ1
        refine r_if_ne (tgt := 22) d_X11_straight_16 rfl (fun hc => absurd hc (by decide)) (fun _ => ?_)
        refine r_bipush (x := (-2)) d_X11_straight_19 ⟨by decide, by decide⟩ (by decide) ?_
        exact r_iret d_X11_straight_21 rfl rfl (Nat.le_refl 0) (Nat.le_refl 0) ⟨_, rfl, rfl, rfl, h⟩
      · have h := h.2 hc
        refine ⟨fun hc => ?_, fun hc => ?_⟩
        · have h := h.1 hc
          show WP l mX11_straight (rm d 0 0) noX _ 0 0 16 [(2, t), (0, x1), (0, x2)] [(0, 0)] N Λ τ1
          refine r_if_ne (tgt := 22) d_X11_straight_16 rfl (fun hc => absurd hc (by decide)) (fun _ => ?_)
          refine r_bipush (x := (-2)) d_X11_straight_19 ⟨by decide, by decide⟩ (by decide) ?_
          exact r_iret d_X11_straight_21 rfl rfl (Nat.le_refl 0) (Nat.le_refl 0) ⟨_, rfl, rfl, rfl, h⟩
        · have h := h.2 hc
          show WP l mX11_straight (rm d 0 0) noX _ 0 0 16 [(2, t), (0, x1), (0, x2)] [(0, 1)] N Λ τ1
          refine r_if_ne (tgt := 22) d_X11_straight_16 rfl (fun _ => ?_) (fun hc => absurd hc (by decide))
          refine r_aload_n (x := t) d_X11_straight_22 rfl o_t.1 ?_
          refine r_iload_n (x := x1) d_X11_straight_23 rfl ?_
          refine r_aload_n (x := t) d_X11_straight_24 rfl o_t.1 ?_
          refine r_getf (j := 5) (t := 2) (x := t_straightener) d_X11_straight_25 kX11 (by decide) fl_X11_41 o_t.1 o_t.2.1 o_t.2.2.1 o_t.2.2.2 rfl f_t_straightener ?_
          refine r_aload_n (x := t) d_X11_straight_28 rfl o_t.1 ?_
          refine r_getf (j := 0) (t := 2) (x := t_now) d_X11_straight_29 kX11 (by decide) fl_X11_10 o_t.1 o_t.2.1 o_t.2.2.1 o_t.2.2.2 rfl f_t_now ?_
          refine r_getf (j := 0) (t := 2) (x := t_now_shelves) d_X11_straight_32 kX7 (by decide) fl_X11_146 o_t_now.1 o_t_now.2.1 o_t_now.2.2.1 o_t_now.2.2.2 rfl f_t_now_shelves ?_
          refine r_iload_n (x := x2) d_X11_straight_35 rfl ?_
          refine x_aald (t := 3) (by decide) d_X11_straight_36 h.1 (fun b2 eb2 => ?_)
          have h := h.2 b2 eb2
          have oob2 := h.1
          have h := h.2
          refine r_aload_n (x := t) d_X11_straight_37 rfl o_t.1 ?_
          refine r_getf (j := 11) (t := 2) (x := t_work) d_X11_straight_38 kX11 (by decide) fl_X11_83 o_t.1 o_t.2.1 o_t.2.2.1 o_t.2.2.2 rfl f_t_work ?_
          refine x_callVI (Y2 := mX8_straighten) (c := t_straightener) (As := [(2, b2), (2, t_work)]) (S := [(0, x1), (2, t)]) d_X11_straight_41 ok_mX8_straighten ml_X11_212 rfl (Nat.le_of_ble_eq_true rfl) (Nat.le_of_ble_eq_true rfl) rfl hd_1 kX8 o_t_straightener (CI.mono h (fun v4 σ3 h => ?_))
          refine x_callVI (Y2 := mX11_keep) (c := t) (As := [(0, x1), (0, v4)]) (S := []) d_X11_straight_44 ok_mX11_keep ml_X11_154 rfl (Nat.le_of_ble_eq_true rfl) (Nat.le_of_ble_eq_true rfl) rfl hd_1 kX11 o_t (CI.mono h (fun v6 σ5 h => ?_))
          exact r_iret d_X11_straight_47 rfl rfl (Nat.le_refl 0) (Nat.le_refl 0) ⟨_, rfl, rfl, rfl, h⟩
theorem v_X11_reduce_0 {l : Launch} {d N : Nat} {Λ : Lay} {P : Int → Mem → Prop} {σ : Mem} {x1 x2 t t_now t_now_shelves t_work : Int} (o_t : Ob N Λ t 20 14) (f_t_now : (Λ t).2.2 0 = t_now) (f_t_work : (Λ t).2.2 11 = t_work) (o_t_now : Ob N Λ t_now 16 3) (f_t_now_shelves : (Λ t_now).2.2 0 = t_now_shelves) (h0d : 1 ≤ d)
    (h : ((x1 < 0 → P (-2) σ) ∧ (¬ (x1 < 0) → ((6 ≤ x1 → P (-2) σ) ∧ (¬ (6 ≤ x1) → ((x2 < 0 → P (-2) σ) ∧ (¬ (x2 < 0) → ((6 ≤ x2 → P (-2) σ) ∧ (¬ (6 ≤ x2) → (Ix N Λ t_now_shelves 3 x2 ∧ (∀ b1, b1 = (Λ t_now_shelves).2.2 x2 → (Ob N Λ b1 15 3 ∧ (CV l mX7_reduceTo (d - 1) [(2, t_now), (2, t_work), (2, b1)] N Λ σ (fun σ2 => (CI l mX11_keep (d - 1) [(2, t), (0, x1), (0, 0)] N Λ σ2 (fun v4 σ3 => P v4 σ3)))))))))))))))) :
    WI l mX11_reduce d P 0 [(2, t), (0, x1), (0, x2)] [] N Λ σ := by
  have hd_1 : 1 ≤ d := Nat.le_trans (by decide) h0d
  refine r_iload_n (x := x1) d_X11_reduce_0 rfl ?_
  refine x_callSI (Y2 := mX11_isShelf) (As := [(0, x1)]) (S := []) d_X11_reduce_1 ok_mX11_isShelf ml_X11_143 rfl (Nat.le_of_ble_eq_true rfl) (Nat.le_of_ble_eq_true rfl) rfl hd_1 (c_X11_isShelf (v_X11_isShelf_0 ?_))
  refine ⟨fun hc => ?_, fun hc => ?_⟩
  · have h := h.1 hc
    show WP l mX11_reduce (rm d 0 0) noX _ 0 0 4 [(2, t), (0, x1), (0, x2)] [(0, 0)] N Λ σ
    refine r_if_eq (tgt := 14) d_X11_reduce_4 rfl (fun _ => ?_) (fun hc => absurd hc (by decide))
    refine r_bipush (x := (-2)) d_X11_reduce_14 ⟨by decide, by decide⟩ (by decide) ?_
    exact r_iret d_X11_reduce_16 rfl rfl (Nat.le_refl 0) (Nat.le_refl 0) ⟨_, rfl, rfl, rfl, h⟩
  · have h := h.2 hc
    refine ⟨fun hc => ?_, fun hc => ?_⟩
    · have h := h.1 hc
      show WP l mX11_reduce (rm d 0 0) noX _ 0 0 4 [(2, t), (0, x1), (0, x2)] [(0, 0)] N Λ σ
      refine r_if_eq (tgt := 14) d_X11_reduce_4 rfl (fun _ => ?_) (fun hc => absurd hc (by decide))
      refine r_bipush (x := (-2)) d_X11_reduce_14 ⟨by decide, by decide⟩ (by decide) ?_
      exact r_iret d_X11_reduce_16 rfl rfl (Nat.le_refl 0) (Nat.le_refl 0) ⟨_, rfl, rfl, rfl, h⟩
    · have h := h.2 hc
      show WP l mX11_reduce (rm d 0 0) noX _ 0 0 4 [(2, t), (0, x1), (0, x2)] [(0, 1)] N Λ σ
      refine r_if_eq (tgt := 14) d_X11_reduce_4 rfl (fun hc => absurd hc (by decide)) (fun _ => ?_)
      refine r_iload_n (x := x2) d_X11_reduce_7 rfl ?_
      refine x_callSI (Y2 := mX11_isShelf) (As := [(0, x2)]) (S := []) d_X11_reduce_8 ok_mX11_isShelf ml_X11_143 rfl (Nat.le_of_ble_eq_true rfl) (Nat.le_of_ble_eq_true rfl) rfl hd_1 (c_X11_isShelf (v_X11_isShelf_0 ?_))
      refine ⟨fun hc => ?_, fun hc => ?_⟩
      · have h := h.1 hc
        show WP l mX11_reduce (rm d 0 0) noX _ 0 0 11 [(2, t), (0, x1), (0, x2)] [(0, 0)] N Λ σ
        refine r_if_ne (tgt := 17) d_X11_reduce_11 rfl (fun hc => absurd hc (by decide)) (fun _ => ?_)
        refine r_bipush (x := (-2)) d_X11_reduce_14 ⟨by decide, by decide⟩ (by decide) ?_
        exact r_iret d_X11_reduce_16 rfl rfl (Nat.le_refl 0) (Nat.le_refl 0) ⟨_, rfl, rfl, rfl, h⟩
      · have h := h.2 hc
        refine ⟨fun hc => ?_, fun hc => ?_⟩
        · have h := h.1 hc
          show WP l mX11_reduce (rm d 0 0) noX _ 0 0 11 [(2, t), (0, x1), (0, x2)] [(0, 0)] N Λ σ
          refine r_if_ne (tgt := 17) d_X11_reduce_11 rfl (fun hc => absurd hc (by decide)) (fun _ => ?_)
          refine r_bipush (x := (-2)) d_X11_reduce_14 ⟨by decide, by decide⟩ (by decide) ?_
          exact r_iret d_X11_reduce_16 rfl rfl (Nat.le_refl 0) (Nat.le_refl 0) ⟨_, rfl, rfl, rfl, h⟩
        · have h := h.2 hc
          show WP l mX11_reduce (rm d 0 0) noX _ 0 0 11 [(2, t), (0, x1), (0, x2)] [(0, 1)] N Λ σ
          refine r_if_ne (tgt := 17) d_X11_reduce_11 rfl (fun _ => ?_) (fun hc => absurd hc (by decide))
          refine r_aload_n (x := t) d_X11_reduce_17 rfl o_t.1 ?_
          refine r_getf (j := 0) (t := 2) (x := t_now) d_X11_reduce_18 kX11 (by decide) fl_X11_10 o_t.1 o_t.2.1 o_t.2.2.1 o_t.2.2.2 rfl f_t_now ?_
          refine r_aload_n (x := t) d_X11_reduce_21 rfl o_t.1 ?_
          refine r_getf (j := 11) (t := 2) (x := t_work) d_X11_reduce_22 kX11 (by decide) fl_X11_83 o_t.1 o_t.2.1 o_t.2.2.1 o_t.2.2.2 rfl f_t_work ?_
          refine r_aload_n (x := t) d_X11_reduce_25 rfl o_t.1 ?_
          refine r_getf (j := 0) (t := 2) (x := t_now) d_X11_reduce_26 kX11 (by decide) fl_X11_10 o_t.1 o_t.2.1 o_t.2.2.1 o_t.2.2.2 rfl f_t_now ?_
          refine r_getf (j := 0) (t := 2) (x := t_now_shelves) d_X11_reduce_29 kX7 (by decide) fl_X11_146 o_t_now.1 o_t_now.2.1 o_t_now.2.2.1 o_t_now.2.2.2 rfl f_t_now_shelves ?_
          refine r_iload_n (x := x2) d_X11_reduce_32 rfl ?_
          refine x_aald (t := 3) (by decide) d_X11_reduce_33 h.1 (fun b1 eb1 => ?_)
          have h := h.2 b1 eb1
          have oob1 := h.1
          have h := h.2
          refine x_callVV (Y2 := mX7_reduceTo) (c := t_now) (As := [(2, t_work), (2, b1)]) (S := []) d_X11_reduce_34 ok_mX7_reduceTo ml_X11_215 rfl (Nat.le_of_ble_eq_true rfl) (Nat.le_of_ble_eq_true rfl) rfl hd_1 kX7 o_t_now (CV.mono h (fun σ2 h => ?_))
          refine r_aload_n (x := t) d_X11_reduce_37 rfl o_t.1 ?_
          refine r_iload_n (x := x1) d_X11_reduce_38 rfl ?_
          refine r_iconst (x := 0) d_X11_reduce_39 ⟨by decide, by decide⟩ ?_
          refine x_callVI (Y2 := mX11_keep) (c := t) (As := [(0, x1), (0, 0)]) (S := []) d_X11_reduce_40 ok_mX11_keep ml_X11_154 rfl (Nat.le_of_ble_eq_true rfl) (Nat.le_of_ble_eq_true rfl) rfl hd_1 kX11 o_t (CI.mono h (fun v4 σ3 h => ?_))
          exact r_iret d_X11_reduce_43 rfl rfl (Nat.le_refl 0) (Nat.le_refl 0) ⟨_, rfl, rfl, rfl, h⟩
theorem v_X11_fact_0 {l : Launch} {d N : Nat} {Λ : Lay} {P : Int → Mem → Prop} {σ : Mem} {x1 x2 x3 x4 t t_history t_history_kept t_now t_now_facts : Int} (o_t : Ob N Λ t 20 14) (f_t_now : (Λ t).2.2 0 = t_now) (o_t_now : Ob N Λ t_now 16 3) (f_t_now_facts : (Λ t_now).2.2 2 = t_now_facts) (f_t_history : (Λ t).2.2 1 = t_history) (o_t_history : Ob N Λ t_history 14 3) (f_t_history_kept : (Λ t_history).2.2 1 = t_history_kept) (h0d : 3 ≤ d)
    (h : (CI l mX11_areLetters (d - 1) [(0, x1), (0, x2), (0, x3)] N Λ σ (fun v2 σ1 => ((¬ v2 = 0 → (CI l mX6_ordered (d - 1) [(0, (orI (orI (shlI x1 8) (shlI x2 4)) x3))] N Λ σ1 (fun v4 σ3 => ((0 ≤ v4 → ((x4 < 0 → P (-3) σ3) ∧ (¬ (x4 < 0) → ((2 < x4 → P (-3) σ3) ∧ (¬ (2 < x4) → ((¬ v4 = 0 → (∀ y5, y5 = (andI (shrI v4 (mulI 4 (subI 2 0))) 15) → (∀ y6, y6 = (andI (shrI v4 (mulI 4 (subI 2 1))) 15) → (∀ y7, y7 = (andI (shrI v4 (mulI 4 (subI 2 2))) 15) → (Ix N Λ t_now_facts 0 (addI (addI (divI (mulI (mulI y7 (subI y7 1)) (subI y7 2)) 6) (divI (mulI y6 (subI y6 1)) 2)) y5) ∧ (∀ y8, y8 = (σ3 t_now_facts (addI (addI (divI (mulI (mulI y7 (subI y7 1)) (subI y7 2)) 6) (divI (mulI y6 (subI y6 1)) 2)) y5)) → (Ix N Λ t_history_kept 4 (σ3 t_history 2) ∧ (∀ b9, b9 = (Λ t_history_kept).2.2 (σ3 t_history 2) → (Ob N Λ b9 16 3 ∧ (CV l mX7_take (d - 1 - 1) [(2, b9), (2, t_now)] N Λ σ3 (fun σ10 => (∀ τ11, τ11 = st σ10 t_history 2 (remI (addI (σ10 t_history 2) 1) 10) → ((10 < (addI (τ11 t_history 0) 1) → (∀ τ12, τ12 = st τ11 t_history 0 10 → (∀ y13, y13 = (andI (shrI v4 (mulI 4 (subI 2 0))) 15) → (∀ y14, y14 = (andI (shrI v4 (mulI 4 (subI 2 1))) 15) → (∀ y15, y15 = (andI (shrI v4 (mulI 4 (subI 2 2))) 15) → (Ix N Λ t_now_facts 0 (addI (addI (divI (mulI (mulI y15 (subI y15 1)) (subI y15 2)) 6) (divI (mulI y14 (subI y14 1)) 2)) y13) ∧ (∀ τ16, τ16 = st τ12 t_now_facts (addI (addI (divI (mulI (mulI y15 (subI y15 1)) (subI y15 2)) 6) (divI (mulI y14 (subI y14 1)) 2)) y13) x4 → P y8 τ16))))))) ∧ (¬ (10 < (addI (τ11 t_history 0) 1)) → (∀ τ17, τ17 = st τ11 t_history 0 (addI (τ11 t_history 0) 1) → (∀ y18, y18 = (andI (shrI v4 (mulI 4 (subI 2 0))) 15) → (∀ y19, y19 = (andI (shrI v4 (mulI 4 (subI 2 1))) 15) → (∀ y20, y20 = (andI (shrI v4 (mulI 4 (subI 2 2))) 15) → (Ix N Λ t_now_facts 0 (addI (addI (divI (mulI (mulI y20 (subI y20 1)) (subI y20 2)) 6) (divI (mulI y19 (subI y19 1)) 2)) y18) ∧ (∀ τ21, τ21 = st τ17 t_now_facts (addI (addI (divI (mulI (mulI y20 (subI y20 1)) (subI y20 2)) 6) (divI (mulI y19 (subI y19 1)) 2)) y18) x4 → P y8 τ21)))))))))))))))))))) ∧ (v4 = 0 → P (-3) σ3))))))) ∧ (¬ (0 ≤ v4) → (∀ y22, y22 = (negI v4) → ((x4 < 0 → P (-3) σ3) ∧ (¬ (x4 < 0) → ((2 < x4 → P (-3) σ3) ∧ (¬ (2 < x4) → ((¬ y22 = 0 → (∀ y23, y23 = (andI (shrI y22 (mulI 4 (subI 2 0))) 15) → (∀ y24, y24 = (andI (shrI y22 (mulI 4 (subI 2 1))) 15) → (∀ y25, y25 = (andI (shrI y22 (mulI 4 (subI 2 2))) 15) → (Ix N Λ t_now_facts 0 (addI (addI (divI (mulI (mulI y25 (subI y25 1)) (subI y25 2)) 6) (divI (mulI y24 (subI y24 1)) 2)) y23) ∧ (∀ y26, y26 = (σ3 t_now_facts (addI (addI (divI (mulI (mulI y25 (subI y25 1)) (subI y25 2)) 6) (divI (mulI y24 (subI y24 1)) 2)) y23)) → (Ix N Λ t_history_kept 4 (σ3 t_history 2) ∧ (∀ b27, b27 = (Λ t_history_kept).2.2 (σ3 t_history 2) → (Ob N Λ b27 16 3 ∧ (CV l mX7_take (d - 1 - 1) [(2, b27), (2, t_now)] N Λ σ3 (fun σ28 => (∀ τ29, τ29 = st σ28 t_history 2 (remI (addI (σ28 t_history 2) 1) 10) → ((10 < (addI (τ29 t_history 0) 1) → (∀ τ30, τ30 = st τ29 t_history 0 10 → (∀ y31, y31 = (andI (shrI y22 (mulI 4 (subI 2 0))) 15) → (∀ y32, y32 = (andI (shrI y22 (mulI 4 (subI 2 1))) 15) → (∀ y33, y33 = (andI (shrI y22 (mulI 4 (subI 2 2))) 15) → (Ix N Λ t_now_facts 0 (addI (addI (divI (mulI (mulI y33 (subI y33 1)) (subI y33 2)) 6) (divI (mulI y32 (subI y32 1)) 2)) y31) ∧ (∀ τ34, τ34 = st τ30 t_now_facts (addI (addI (divI (mulI (mulI y33 (subI y33 1)) (subI y33 2)) 6) (divI (mulI y32 (subI y32 1)) 2)) y31) x4 → P y26 τ34))))))) ∧ (¬ (10 < (addI (τ29 t_history 0) 1)) → (∀ τ35, τ35 = st τ29 t_history 0 (addI (τ29 t_history 0) 1) → (∀ y36, y36 = (andI (shrI y22 (mulI 4 (subI 2 0))) 15) → (∀ y37, y37 = (andI (shrI y22 (mulI 4 (subI 2 1))) 15) → (∀ y38, y38 = (andI (shrI y22 (mulI 4 (subI 2 2))) 15) → (Ix N Λ t_now_facts 0 (addI (addI (divI (mulI (mulI y38 (subI y38 1)) (subI y38 2)) 6) (divI (mulI y37 (subI y37 1)) 2)) y36) ∧ (∀ τ39, τ39 = st τ35 t_now_facts (addI (addI (divI (mulI (mulI y38 (subI y38 1)) (subI y38 2)) 6) (divI (mulI y37 (subI y37 1)) 2)) y36) x4 → P y26 τ39)))))))))))))))))))) ∧ (y22 = 0 → P (-3) σ3)))))))))))) ∧ (v2 = 0 → P (-2) σ1))))) :
    WI l mX11_fact d P 0 [(2, t), (0, x1), (0, x2), (0, x3), (0, x4), (3, 0), (3, 0)] [] N Λ σ := by
  have hd_1 : 1 ≤ d := Nat.le_trans (by decide) h0d
  have he_1 : 1 ≤ d - 1 := Nat.le_sub_of_add_le (Nat.le_trans (by decide) h0d)
  have he_2 : 2 ≤ d - 1 := Nat.le_sub_of_add_le (Nat.le_trans (by decide) h0d)
  refine r_iload_n (x := x1) d_X11_fact_0 rfl ?_
  refine r_iload_n (x := x2) d_X11_fact_1 rfl ?_
  refine r_iload_n (x := x3) d_X11_fact_2 rfl ?_
  refine x_callSI (Y2 := mX11_areLetters) (As := [(0, x1), (0, x2), (0, x3)]) (S := []) d_X11_fact_3 ok_mX11_areLetters ml_X11_160 rfl (Nat.le_of_ble_eq_true rfl) (Nat.le_of_ble_eq_true rfl) rfl hd_1 (CI.mono h (fun v2 σ1 h => ?_))
  refine r_if_ne (tgt := 12) d_X11_fact_6 rfl (fun hc => ?_) (fun hc => ?_)
  · have h := h.1 hc
    refine r_iload_n (x := x1) d_X11_fact_12 rfl ?_
    refine r_iload_n (x := x2) d_X11_fact_13 rfl ?_
    refine r_iload_n (x := x3) d_X11_fact_14 rfl ?_
    refine x_callSI (Y2 := mX6_row) (As := [(0, x1), (0, x2), (0, x3)]) (S := []) d_X11_fact_15 ok_mX6_row ml_X11_167 rfl (Nat.le_of_ble_eq_true rfl) (Nat.le_of_ble_eq_true rfl) rfl hd_1 (c_X6_row (v_X6_row_0 ?_))
    show WP l mX11_fact (rm d 0 0) noX _ 0 0 18 [(2, t), (0, x1), (0, x2), (0, x3), (0, x4), (3, 0), (3, 0)] [(0, (orI (orI (shlI x1 8) (shlI x2 4)) x3))] N Λ σ1
    refine x_callSI (Y2 := mX6_ordered) (As := [(0, (orI (orI (shlI x1 8) (shlI x2 4)) x3))]) (S := []) d_X11_fact_18 ok_mX6_ordered ml_X11_219 rfl (Nat.le_of_ble_eq_true rfl) (Nat.le_of_ble_eq_true rfl) rfl hd_1 (CI.mono h (fun v4 σ3 h => ?_))
    refine x_callSI (Y2 := mJ9_abs_0f7a4) (As := [(0, v4)]) (S := []) d_X11_fact_21 ok_mJ9_abs_0f7a4 ml_X11_222 rfl (Nat.le_of_ble_eq_true rfl) (Nat.le_of_ble_eq_true rfl) rfl hd_1 (c_J9_abs_0f7a4 (v_J9_abs_0f7a4_0 ?_))
    refine ⟨fun hc => ?_, fun hc => ?_⟩
    · have h := h.1 hc
      show WP l mX11_fact (rm d 0 0) noX _ 0 0 24 [(2, t), (0, x1), (0, x2), (0, x3), (0, x4), (3, 0), (3, 0)] [(0, v4)] N Λ σ3
      refine r_istore (L2 := [(2, t), (0, x1), (0, x2), (0, x3), (0, x4), (0, v4), (3, 0)]) d_X11_fact_24 (by decide) rfl rfl ?_
      refine r_iload (x := x4) d_X11_fact_26 rfl ?_
      refine r_if_lt (tgt := 42) d_X11_fact_28 rfl (fun hc => ?_) (fun hc => ?_)
      · have h := h.1 hc
        refine r_bipush (x := (-3)) d_X11_fact_42 ⟨by decide, by decide⟩ (by decide) ?_
        exact r_iret d_X11_fact_44 rfl rfl (Nat.le_refl 0) (Nat.le_refl 0) ⟨_, rfl, rfl, rfl, h⟩
      · have h := h.2 hc
        refine r_iload (x := x4) d_X11_fact_31 rfl ?_
        refine r_iconst (x := 2) d_X11_fact_33 ⟨by decide, by decide⟩ ?_
        refine r_ic_gt (tgt := 42) d_X11_fact_34 rfl (fun hc => ?_) (fun hc => ?_)
        · have h := h.1 hc
          refine r_bipush (x := (-3)) d_X11_fact_42 ⟨by decide, by decide⟩ (by decide) ?_
          exact r_iret d_X11_fact_44 rfl rfl (Nat.le_refl 0) (Nat.le_refl 0) ⟨_, rfl, rfl, rfl, h⟩
        · have h := h.2 hc
          refine r_iload (x := v4) d_X11_fact_37 rfl ?_
          refine r_if_ne (tgt := 45) d_X11_fact_39 rfl (fun hc => ?_) (fun hc => ?_)
          · have h := h.1 hc
            refine r_aload_n (x := t) d_X11_fact_45 rfl o_t.1 ?_
            refine r_getf (j := 0) (t := 2) (x := t_now) d_X11_fact_46 kX11 (by decide) fl_X11_10 o_t.1 o_t.2.1 o_t.2.2.1 o_t.2.2.2 rfl f_t_now ?_
            refine r_iload (x := v4) d_X11_fact_49 rfl ?_
            refine x_callVI (Y2 := mX7_factOf) (c := t_now) (As := [(0, v4)]) (S := []) d_X11_fact_51 ok_mX7_factOf ml_X11_227 rfl (Nat.le_of_ble_eq_true rfl) (Nat.le_of_ble_eq_true rfl) rfl hd_1 kX7 o_t_now (c_X7_factOf (v_X7_factOf_0 o_t_now f_t_now_facts he_2 ?_))
            intro y5 ey5
            have h := h y5 ey5
            intro y6 ey6
            have h := h y6 ey6
            intro y7 ey7
            have h := h y7 ey7
            refine ⟨h.1, ?_⟩
            have h := h.2
            show WP l mX11_fact (rm d 0 0) noX _ 0 0 54 [(2, t), (0, x1), (0, x2), (0, x3), (0, x4), (0, v4), (3, 0)] [(0, (σ3 t_now_facts (addI (addI (divI (mulI (mulI y7 (subI y7 1)) (subI y7 2)) 6) (divI (mulI y6 (subI y6 1)) 2)) y5)))] N Λ σ3
            refine r_nm (fun y8 ey8 => ?_)
            have h := h y8 ey8
            refine r_istore (L2 := [(2, t), (0, x1), (0, x2), (0, x3), (0, x4), (0, v4), (0, y8)]) d_X11_fact_54 (by decide) rfl rfl ?_
            refine r_aload_n (x := t) d_X11_fact_56 rfl o_t.1 ?_
            refine r_getf (j := 1) (t := 2) (x := t_history) d_X11_fact_57 kX11 (by decide) fl_X11_19 o_t.1 o_t.2.1 o_t.2.2.1 o_t.2.2.2 rfl f_t_history ?_
            refine r_aload_n (x := t) d_X11_fact_60 rfl o_t.1 ?_
            refine r_getf (j := 0) (t := 2) (x := t_now) d_X11_fact_61 kX11 (by decide) fl_X11_10 o_t.1 o_t.2.1 o_t.2.2.1 o_t.2.2.2 rfl f_t_now ?_
            refine x_callVV (Y2 := mX4_keep) (c := t_history) (As := [(2, t_now)]) (S := []) d_X11_fact_64 ok_mX4_keep ml_X11_230 rfl (Nat.le_of_ble_eq_true rfl) (Nat.le_of_ble_eq_true rfl) rfl hd_1 kX4 o_t_history (c_X4_keep (v_X4_keep_0 o_t_history f_t_history_kept o_t_now he_1 ?_))
            refine ⟨h.1, ?_⟩
            have h := h.2
            intro b9 eb9
            have h := h b9 eb9
            refine ⟨h.1, ?_⟩
            have h := h.2
            refine CV.mono h (fun σ10 h => ?_)
            intro τ11 eτ11
            have h := h τ11 eτ11
            refine ⟨fun hc => ?_, fun hc => ?_⟩
            · have h := h.1 hc
              intro τ12 eτ12
              have h := h τ12 eτ12
              show WP l mX11_fact (rm d 0 0) noX _ 0 0 67 [(2, t), (0, x1), (0, x2), (0, x3), (0, x4), (0, v4), (0, y8)] [] N Λ τ12
              refine r_aload_n (x := t) d_X11_fact_67 rfl o_t.1 ?_
              refine r_getf (j := 0) (t := 2) (x := t_now) d_X11_fact_68 kX11 (by decide) fl_X11_10 o_t.1 o_t.2.1 o_t.2.2.1 o_t.2.2.2 rfl f_t_now ?_
              refine r_iload (x := v4) d_X11_fact_71 rfl ?_
              refine r_iload (x := x4) d_X11_fact_73 rfl ?_
              refine x_callVV (Y2 := mX7_tellFact) (c := t_now) (As := [(0, v4), (0, x4)]) (S := []) d_X11_fact_75 ok_mX7_tellFact ml_X11_233 rfl (Nat.le_of_ble_eq_true rfl) (Nat.le_of_ble_eq_true rfl) rfl hd_1 kX7 o_t_now (c_X7_tellFact (v_X7_tellFact_0 o_t_now f_t_now_facts he_2 ?_))
              intro y13 ey13
              have h := h y13 ey13
              intro y14 ey14
              have h := h y14 ey14
              intro y15 ey15
              have h := h y15 ey15
              refine ⟨h.1, ?_⟩
              have h := h.2
              intro τ16 eτ16
              have h := h τ16 eτ16
              show WP l mX11_fact (rm d 0 0) noX _ 0 0 78 [(2, t), (0, x1), (0, x2), (0, x3), (0, x4), (0, v4), (0, y8)] [] N Λ τ16
              refine r_iload (x := y8) d_X11_fact_78 rfl ?_
              exact r_iret d_X11_fact_80 rfl rfl (Nat.le_refl 0) (Nat.le_refl 0) ⟨_, rfl, rfl, rfl, h⟩
            · have h := h.2 hc
              intro τ17 eτ17
              have h := h τ17 eτ17
              show WP l mX11_fact (rm d 0 0) noX _ 0 0 67 [(2, t), (0, x1), (0, x2), (0, x3), (0, x4), (0, v4), (0, y8)] [] N Λ τ17
              refine r_aload_n (x := t) d_X11_fact_67 rfl o_t.1 ?_
              refine r_getf (j := 0) (t := 2) (x := t_now) d_X11_fact_68 kX11 (by decide) fl_X11_10 o_t.1 o_t.2.1 o_t.2.2.1 o_t.2.2.2 rfl f_t_now ?_
              refine r_iload (x := v4) d_X11_fact_71 rfl ?_
              refine r_iload (x := x4) d_X11_fact_73 rfl ?_
              refine x_callVV (Y2 := mX7_tellFact) (c := t_now) (As := [(0, v4), (0, x4)]) (S := []) d_X11_fact_75 ok_mX7_tellFact ml_X11_233 rfl (Nat.le_of_ble_eq_true rfl) (Nat.le_of_ble_eq_true rfl) rfl hd_1 kX7 o_t_now (c_X7_tellFact (v_X7_tellFact_0 o_t_now f_t_now_facts he_2 ?_))
              intro y18 ey18
              have h := h y18 ey18
              intro y19 ey19
              have h := h y19 ey19
              intro y20 ey20
              have h := h y20 ey20
              refine ⟨h.1, ?_⟩
              have h := h.2
              intro τ21 eτ21
              have h := h τ21 eτ21
              show WP l mX11_fact (rm d 0 0) noX _ 0 0 78 [(2, t), (0, x1), (0, x2), (0, x3), (0, x4), (0, v4), (0, y8)] [] N Λ τ21
              refine r_iload (x := y8) d_X11_fact_78 rfl ?_
              exact r_iret d_X11_fact_80 rfl rfl (Nat.le_refl 0) (Nat.le_refl 0) ⟨_, rfl, rfl, rfl, h⟩
          · have h := h.2 hc
            refine r_bipush (x := (-3)) d_X11_fact_42 ⟨by decide, by decide⟩ (by decide) ?_
            exact r_iret d_X11_fact_44 rfl rfl (Nat.le_refl 0) (Nat.le_refl 0) ⟨_, rfl, rfl, rfl, h⟩
    · have h := h.2 hc
      show WP l mX11_fact (rm d 0 0) noX _ 0 0 24 [(2, t), (0, x1), (0, x2), (0, x3), (0, x4), (3, 0), (3, 0)] [(0, (negI v4))] N Λ σ3
      refine r_nm (fun y22 ey22 => ?_)
      have h := h y22 ey22
      refine r_istore (L2 := [(2, t), (0, x1), (0, x2), (0, x3), (0, x4), (0, y22), (3, 0)]) d_X11_fact_24 (by decide) rfl rfl ?_
      refine r_iload (x := x4) d_X11_fact_26 rfl ?_
      refine r_if_lt (tgt := 42) d_X11_fact_28 rfl (fun hc => ?_) (fun hc => ?_)
      · have h := h.1 hc
        refine r_bipush (x := (-3)) d_X11_fact_42 ⟨by decide, by decide⟩ (by decide) ?_
        exact r_iret d_X11_fact_44 rfl rfl (Nat.le_refl 0) (Nat.le_refl 0) ⟨_, rfl, rfl, rfl, h⟩
      · have h := h.2 hc
        refine r_iload (x := x4) d_X11_fact_31 rfl ?_
        refine r_iconst (x := 2) d_X11_fact_33 ⟨by decide, by decide⟩ ?_
        refine r_ic_gt (tgt := 42) d_X11_fact_34 rfl (fun hc => ?_) (fun hc => ?_)
        · have h := h.1 hc
          refine r_bipush (x := (-3)) d_X11_fact_42 ⟨by decide, by decide⟩ (by decide) ?_
          exact r_iret d_X11_fact_44 rfl rfl (Nat.le_refl 0) (Nat.le_refl 0) ⟨_, rfl, rfl, rfl, h⟩
        · have h := h.2 hc
          refine r_iload (x := y22) d_X11_fact_37 rfl ?_
          refine r_if_ne (tgt := 45) d_X11_fact_39 rfl (fun hc => ?_) (fun hc => ?_)
          · have h := h.1 hc
            refine r_aload_n (x := t) d_X11_fact_45 rfl o_t.1 ?_
            refine r_getf (j := 0) (t := 2) (x := t_now) d_X11_fact_46 kX11 (by decide) fl_X11_10 o_t.1 o_t.2.1 o_t.2.2.1 o_t.2.2.2 rfl f_t_now ?_
            refine r_iload (x := y22) d_X11_fact_49 rfl ?_
            refine x_callVI (Y2 := mX7_factOf) (c := t_now) (As := [(0, y22)]) (S := []) d_X11_fact_51 ok_mX7_factOf ml_X11_227 rfl (Nat.le_of_ble_eq_true rfl) (Nat.le_of_ble_eq_true rfl) rfl hd_1 kX7 o_t_now (c_X7_factOf (v_X7_factOf_0 o_t_now f_t_now_facts he_2 ?_))
            intro y23 ey23
            have h := h y23 ey23
            intro y24 ey24
            have h := h y24 ey24
            intro y25 ey25
            have h := h y25 ey25
            refine ⟨h.1, ?_⟩
            have h := h.2
            show WP l mX11_fact (rm d 0 0) noX _ 0 0 54 [(2, t), (0, x1), (0, x2), (0, x3), (0, x4), (0, y22), (3, 0)] [(0, (σ3 t_now_facts (addI (addI (divI (mulI (mulI y25 (subI y25 1)) (subI y25 2)) 6) (divI (mulI y24 (subI y24 1)) 2)) y23)))] N Λ σ3
            refine r_nm (fun y26 ey26 => ?_)
            have h := h y26 ey26
            refine r_istore (L2 := [(2, t), (0, x1), (0, x2), (0, x3), (0, x4), (0, y22), (0, y26)]) d_X11_fact_54 (by decide) rfl rfl ?_
            refine r_aload_n (x := t) d_X11_fact_56 rfl o_t.1 ?_
            refine r_getf (j := 1) (t := 2) (x := t_history) d_X11_fact_57 kX11 (by decide) fl_X11_19 o_t.1 o_t.2.1 o_t.2.2.1 o_t.2.2.2 rfl f_t_history ?_
            refine r_aload_n (x := t) d_X11_fact_60 rfl o_t.1 ?_
            refine r_getf (j := 0) (t := 2) (x := t_now) d_X11_fact_61 kX11 (by decide) fl_X11_10 o_t.1 o_t.2.1 o_t.2.2.1 o_t.2.2.2 rfl f_t_now ?_
            refine x_callVV (Y2 := mX4_keep) (c := t_history) (As := [(2, t_now)]) (S := []) d_X11_fact_64 ok_mX4_keep ml_X11_230 rfl (Nat.le_of_ble_eq_true rfl) (Nat.le_of_ble_eq_true rfl) rfl hd_1 kX4 o_t_history (c_X4_keep (v_X4_keep_0 o_t_history f_t_history_kept o_t_now he_1 ?_))
            refine ⟨h.1, ?_⟩
            have h := h.2
            intro b27 eb27
            have h := h b27 eb27
            refine ⟨h.1, ?_⟩
            have h := h.2
            refine CV.mono h (fun σ28 h => ?_)
            intro τ29 eτ29
            have h := h τ29 eτ29
            refine ⟨fun hc => ?_, fun hc => ?_⟩
            · have h := h.1 hc
              intro τ30 eτ30
              have h := h τ30 eτ30
              show WP l mX11_fact (rm d 0 0) noX _ 0 0 67 [(2, t), (0, x1), (0, x2), (0, x3), (0, x4), (0, y22), (0, y26)] [] N Λ τ30
              refine r_aload_n (x := t) d_X11_fact_67 rfl o_t.1 ?_
              refine r_getf (j := 0) (t := 2) (x := t_now) d_X11_fact_68 kX11 (by decide) fl_X11_10 o_t.1 o_t.2.1 o_t.2.2.1 o_t.2.2.2 rfl f_t_now ?_
              refine r_iload (x := y22) d_X11_fact_71 rfl ?_
              refine r_iload (x := x4) d_X11_fact_73 rfl ?_
              refine x_callVV (Y2 := mX7_tellFact) (c := t_now) (As := [(0, y22), (0, x4)]) (S := []) d_X11_fact_75 ok_mX7_tellFact ml_X11_233 rfl (Nat.le_of_ble_eq_true rfl) (Nat.le_of_ble_eq_true rfl) rfl hd_1 kX7 o_t_now (c_X7_tellFact (v_X7_tellFact_0 o_t_now f_t_now_facts he_2 ?_))
              intro y31 ey31
              have h := h y31 ey31
              intro y32 ey32
              have h := h y32 ey32
              intro y33 ey33
              have h := h y33 ey33
              refine ⟨h.1, ?_⟩
              have h := h.2
              intro τ34 eτ34
              have h := h τ34 eτ34
              show WP l mX11_fact (rm d 0 0) noX _ 0 0 78 [(2, t), (0, x1), (0, x2), (0, x3), (0, x4), (0, y22), (0, y26)] [] N Λ τ34
              refine r_iload (x := y26) d_X11_fact_78 rfl ?_
              exact r_iret d_X11_fact_80 rfl rfl (Nat.le_refl 0) (Nat.le_refl 0) ⟨_, rfl, rfl, rfl, h⟩
            · have h := h.2 hc
              intro τ35 eτ35
              have h := h τ35 eτ35
              show WP l mX11_fact (rm d 0 0) noX _ 0 0 67 [(2, t), (0, x1), (0, x2), (0, x3), (0, x4), (0, y22), (0, y26)] [] N Λ τ35
              refine r_aload_n (x := t) d_X11_fact_67 rfl o_t.1 ?_
              refine r_getf (j := 0) (t := 2) (x := t_now) d_X11_fact_68 kX11 (by decide) fl_X11_10 o_t.1 o_t.2.1 o_t.2.2.1 o_t.2.2.2 rfl f_t_now ?_
              refine r_iload (x := y22) d_X11_fact_71 rfl ?_
              refine r_iload (x := x4) d_X11_fact_73 rfl ?_
              refine x_callVV (Y2 := mX7_tellFact) (c := t_now) (As := [(0, y22), (0, x4)]) (S := []) d_X11_fact_75 ok_mX7_tellFact ml_X11_233 rfl (Nat.le_of_ble_eq_true rfl) (Nat.le_of_ble_eq_true rfl) rfl hd_1 kX7 o_t_now (c_X7_tellFact (v_X7_tellFact_0 o_t_now f_t_now_facts he_2 ?_))
              intro y36 ey36
              have h := h y36 ey36
              intro y37 ey37
              have h := h y37 ey37
              intro y38 ey38
              have h := h y38 ey38
              refine ⟨h.1, ?_⟩
              have h := h.2
              intro τ39 eτ39
              have h := h τ39 eτ39
              show WP l mX11_fact (rm d 0 0) noX _ 0 0 78 [(2, t), (0, x1), (0, x2), (0, x3), (0, x4), (0, y22), (0, y26)] [] N Λ τ39
              refine r_iload (x := y26) d_X11_fact_78 rfl ?_
              exact r_iret d_X11_fact_80 rfl rfl (Nat.le_refl 0) (Nat.le_refl 0) ⟨_, rfl, rfl, rfl, h⟩
          · have h := h.2 hc
            refine r_bipush (x := (-3)) d_X11_fact_42 ⟨by decide, by decide⟩ (by decide) ?_
            exact r_iret d_X11_fact_44 rfl rfl (Nat.le_refl 0) (Nat.le_refl 0) ⟨_, rfl, rfl, rfl, h⟩
  · have h := h.2 hc
    refine r_bipush (x := (-2)) d_X11_fact_9 ⟨by decide, by decide⟩ (by decide) ?_
    exact r_iret d_X11_fact_11 rfl rfl (Nat.le_refl 0) (Nat.le_refl 0) ⟨_, rfl, rfl, rfl, h⟩
theorem v_X11_place_0 {l : Launch} {d N : Nat} {Λ : Lay} {P : Int → Mem → Prop} {σ : Mem} {x1 x2 x3 x4 t t_history t_history_kept t_now t_now_places : Int} (o_t : Ob N Λ t 20 14) (f_t_history : (Λ t).2.2 1 = t_history) (f_t_now : (Λ t).2.2 0 = t_now) (o_t_history : Ob N Λ t_history 14 3) (f_t_history_kept : (Λ t_history).2.2 1 = t_history_kept) (o_t_now : Ob N Λ t_now 16 3) (f_t_now_places : (Λ t_now).2.2 1 = t_now_places) (h0d : 2 ≤ d)
    (h : ((x1 < 0 → P (-2) σ) ∧ (¬ (x1 < 0) → ((10 ≤ x1 → P (-2) σ) ∧ (¬ (10 ≤ x1) → ((x2 < (-99) → P (-3) σ) ∧ (¬ (x2 < (-99)) → ((99 < x2 → P (-3) σ) ∧ (¬ (99 < x2) → ((x3 < (-99) → P (-3) σ) ∧ (¬ (x3 < (-99)) → ((99 < x3 → P (-3) σ) ∧ (¬ (99 < x3) → ((x4 < (-99) → P (-3) σ) ∧ (¬ (x4 < (-99)) → ((99 < x4 → P (-3) σ) ∧ (¬ (99 < x4) → (Ix N Λ t_history_kept 4 (σ t_history 2) ∧ (∀ b1, b1 = (Λ t_history_kept).2.2 (σ t_history 2) → (Ob N Λ b1 16 3 ∧ (CV l mX7_take (d - 1 - 1) [(2, b1), (2, t_now)] N Λ σ (fun σ2 => (∀ τ3, τ3 = st σ2 t_history 2 (remI (addI (σ2 t_history 2) 1) 10) → ((10 < (addI (τ3 t_history 0) 1) → (∀ τ4, τ4 = st τ3 t_history 0 10 → (Ix N Λ t_now_places 0 (mulI 3 x1) ∧ (∀ τ5, τ5 = st τ4 t_now_places (mulI 3 x1) x2 → (Ix N Λ t_now_places 0 (addI (mulI 3 x1) 1) ∧ (∀ τ6, τ6 = st τ5 t_now_places (addI (mulI 3 x1) 1) x3 → (Ix N Λ t_now_places 0 (addI (mulI 3 x1) 2) ∧ (∀ τ7, τ7 = st τ6 t_now_places (addI (mulI 3 x1) 2) x4 → P 0 τ7)))))))) ∧ (¬ (10 < (addI (τ3 t_history 0) 1)) → (∀ τ8, τ8 = st τ3 t_history 0 (addI (τ3 t_history 0) 1) → (Ix N Λ t_now_places 0 (mulI 3 x1) ∧ (∀ τ9, τ9 = st τ8 t_now_places (mulI 3 x1) x2 → (Ix N Λ t_now_places 0 (addI (mulI 3 x1) 1) ∧ (∀ τ10, τ10 = st τ9 t_now_places (addI (mulI 3 x1) 1) x3 → (Ix N Λ t_now_places 0 (addI (mulI 3 x1) 2) ∧ (∀ τ11, τ11 = st τ10 t_now_places (addI (mulI 3 x1) 2) x4 → P 0 τ11)))))))))))))))))))))))))))))))) :
    WI l mX11_place d P 0 [(2, t), (0, x1), (0, x2), (0, x3), (0, x4)] [] N Λ σ := by
  have hd_1 : 1 ≤ d := Nat.le_trans (by decide) h0d
  have he_1 : 1 ≤ d - 1 := Nat.le_sub_of_add_le (Nat.le_trans (by decide) h0d)
  refine r_iload_n (x := x1) d_X11_place_0 rfl ?_
  refine x_callSI (Y2 := mX11_isLetter) (As := [(0, x1)]) (S := []) d_X11_place_1 ok_mX11_isLetter ml_X11_205 rfl (Nat.le_of_ble_eq_true rfl) (Nat.le_of_ble_eq_true rfl) rfl hd_1 (c_X11_isLetter (v_X11_isLetter_0 ?_))
  refine ⟨fun hc => ?_, fun hc => ?_⟩
  · have h := h.1 hc
    show WP l mX11_place (rm d 0 0) noX _ 0 0 4 [(2, t), (0, x1), (0, x2), (0, x3), (0, x4)] [(0, 0)] N Λ σ
    refine r_if_ne (tgt := 10) d_X11_place_4 rfl (fun hc => absurd hc (by decide)) (fun _ => ?_)
    refine r_bipush (x := (-2)) d_X11_place_7 ⟨by decide, by decide⟩ (by decide) ?_
    exact r_iret d_X11_place_9 rfl rfl (Nat.le_refl 0) (Nat.le_refl 0) ⟨_, rfl, rfl, rfl, h⟩
  · have h := h.2 hc
    refine ⟨fun hc => ?_, fun hc => ?_⟩
    · have h := h.1 hc
      show WP l mX11_place (rm d 0 0) noX _ 0 0 4 [(2, t), (0, x1), (0, x2), (0, x3), (0, x4)] [(0, 0)] N Λ σ
      refine r_if_ne (tgt := 10) d_X11_place_4 rfl (fun hc => absurd hc (by decide)) (fun _ => ?_)
      refine r_bipush (x := (-2)) d_X11_place_7 ⟨by decide, by decide⟩ (by decide) ?_
      exact r_iret d_X11_place_9 rfl rfl (Nat.le_refl 0) (Nat.le_refl 0) ⟨_, rfl, rfl, rfl, h⟩
    · have h := h.2 hc
      show WP l mX11_place (rm d 0 0) noX _ 0 0 4 [(2, t), (0, x1), (0, x2), (0, x3), (0, x4)] [(0, 1)] N Λ σ
      refine r_if_ne (tgt := 10) d_X11_place_4 rfl (fun _ => ?_) (fun hc => absurd hc (by decide))
      refine r_iload_n (x := x2) d_X11_place_10 rfl ?_
      refine x_callSI (Y2 := mX11_isNear) (As := [(0, x2)]) (S := []) d_X11_place_11 ok_mX11_isNear ml_X11_194 rfl (Nat.le_of_ble_eq_true rfl) (Nat.le_of_ble_eq_true rfl) rfl hd_1 (c_X11_isNear (v_X11_isNear_0 ?_))
      refine ⟨fun hc => ?_, fun hc => ?_⟩
      · have h := h.1 hc
        show WP l mX11_place (rm d 0 0) noX _ 0 0 14 [(2, t), (0, x1), (0, x2), (0, x3), (0, x4)] [(0, 0)] N Λ σ
        refine r_if_eq (tgt := 32) d_X11_place_14 rfl (fun _ => ?_) (fun hc => absurd hc (by decide))
        refine r_bipush (x := (-3)) d_X11_place_32 ⟨by decide, by decide⟩ (by decide) ?_
        exact r_iret d_X11_place_34 rfl rfl (Nat.le_refl 0) (Nat.le_refl 0) ⟨_, rfl, rfl, rfl, h⟩
      · have h := h.2 hc
        refine ⟨fun hc => ?_, fun hc => ?_⟩
        · have h := h.1 hc
          show WP l mX11_place (rm d 0 0) noX _ 0 0 14 [(2, t), (0, x1), (0, x2), (0, x3), (0, x4)] [(0, 0)] N Λ σ
          refine r_if_eq (tgt := 32) d_X11_place_14 rfl (fun _ => ?_) (fun hc => absurd hc (by decide))
          refine r_bipush (x := (-3)) d_X11_place_32 ⟨by decide, by decide⟩ (by decide) ?_
          exact r_iret d_X11_place_34 rfl rfl (Nat.le_refl 0) (Nat.le_refl 0) ⟨_, rfl, rfl, rfl, h⟩
        · have h := h.2 hc
          show WP l mX11_place (rm d 0 0) noX _ 0 0 14 [(2, t), (0, x1), (0, x2), (0, x3), (0, x4)] [(0, 1)] N Λ σ
          refine r_if_eq (tgt := 32) d_X11_place_14 rfl (fun hc => absurd hc (by decide)) (fun _ => ?_)
          refine r_iload_n (x := x3) d_X11_place_17 rfl ?_
          refine x_callSI (Y2 := mX11_isNear) (As := [(0, x3)]) (S := []) d_X11_place_18 ok_mX11_isNear ml_X11_194 rfl (Nat.le_of_ble_eq_true rfl) (Nat.le_of_ble_eq_true rfl) rfl hd_1 (c_X11_isNear (v_X11_isNear_0 ?_))
          refine ⟨fun hc => ?_, fun hc => ?_⟩
          · have h := h.1 hc
            show WP l mX11_place (rm d 0 0) noX _ 0 0 21 [(2, t), (0, x1), (0, x2), (0, x3), (0, x4)] [(0, 0)] N Λ σ
            refine r_if_eq (tgt := 32) d_X11_place_21 rfl (fun _ => ?_) (fun hc => absurd hc (by decide))
            refine r_bipush (x := (-3)) d_X11_place_32 ⟨by decide, by decide⟩ (by decide) ?_
            exact r_iret d_X11_place_34 rfl rfl (Nat.le_refl 0) (Nat.le_refl 0) ⟨_, rfl, rfl, rfl, h⟩
          · have h := h.2 hc
            refine ⟨fun hc => ?_, fun hc => ?_⟩
            · have h := h.1 hc
              show WP l mX11_place (rm d 0 0) noX _ 0 0 21 [(2, t), (0, x1), (0, x2), (0, x3), (0, x4)] [(0, 0)] N Λ σ
              refine r_if_eq (tgt := 32) d_X11_place_21 rfl (fun _ => ?_) (fun hc => absurd hc (by decide))
              refine r_bipush (x := (-3)) d_X11_place_32 ⟨by decide, by decide⟩ (by decide) ?_
              exact r_iret d_X11_place_34 rfl rfl (Nat.le_refl 0) (Nat.le_refl 0) ⟨_, rfl, rfl, rfl, h⟩
            · have h := h.2 hc
              show WP l mX11_place (rm d 0 0) noX _ 0 0 21 [(2, t), (0, x1), (0, x2), (0, x3), (0, x4)] [(0, 1)] N Λ σ
              refine r_if_eq (tgt := 32) d_X11_place_21 rfl (fun hc => absurd hc (by decide)) (fun _ => ?_)
              refine r_iload (x := x4) d_X11_place_24 rfl ?_
              refine x_callSI (Y2 := mX11_isNear) (As := [(0, x4)]) (S := []) d_X11_place_26 ok_mX11_isNear ml_X11_194 rfl (Nat.le_of_ble_eq_true rfl) (Nat.le_of_ble_eq_true rfl) rfl hd_1 (c_X11_isNear (v_X11_isNear_0 ?_))
              refine ⟨fun hc => ?_, fun hc => ?_⟩
              · have h := h.1 hc
                show WP l mX11_place (rm d 0 0) noX _ 0 0 29 [(2, t), (0, x1), (0, x2), (0, x3), (0, x4)] [(0, 0)] N Λ σ
                refine r_if_ne (tgt := 35) d_X11_place_29 rfl (fun hc => absurd hc (by decide)) (fun _ => ?_)
                refine r_bipush (x := (-3)) d_X11_place_32 ⟨by decide, by decide⟩ (by decide) ?_
                exact r_iret d_X11_place_34 rfl rfl (Nat.le_refl 0) (Nat.le_refl 0) ⟨_, rfl, rfl, rfl, h⟩
              · have h := h.2 hc
                refine ⟨fun hc => ?_, fun hc => ?_⟩
                · have h := h.1 hc
                  show WP l mX11_place (rm d 0 0) noX _ 0 0 29 [(2, t), (0, x1), (0, x2), (0, x3), (0, x4)] [(0, 0)] N Λ σ
                  refine r_if_ne (tgt := 35) d_X11_place_29 rfl (fun hc => absurd hc (by decide)) (fun _ => ?_)
                  refine r_bipush (x := (-3)) d_X11_place_32 ⟨by decide, by decide⟩ (by decide) ?_
                  exact r_iret d_X11_place_34 rfl rfl (Nat.le_refl 0) (Nat.le_refl 0) ⟨_, rfl, rfl, rfl, h⟩
                · have h := h.2 hc
                  show WP l mX11_place (rm d 0 0) noX _ 0 0 29 [(2, t), (0, x1), (0, x2), (0, x3), (0, x4)] [(0, 1)] N Λ σ
                  refine r_if_ne (tgt := 35) d_X11_place_29 rfl (fun _ => ?_) (fun hc => absurd hc (by decide))
                  refine r_aload_n (x := t) d_X11_place_35 rfl o_t.1 ?_
                  refine r_getf (j := 1) (t := 2) (x := t_history) d_X11_place_36 kX11 (by decide) fl_X11_19 o_t.1 o_t.2.1 o_t.2.2.1 o_t.2.2.2 rfl f_t_history ?_
                  refine r_aload_n (x := t) d_X11_place_39 rfl o_t.1 ?_
                  refine r_getf (j := 0) (t := 2) (x := t_now) d_X11_place_40 kX11 (by decide) fl_X11_10 o_t.1 o_t.2.1 o_t.2.2.1 o_t.2.2.2 rfl f_t_now ?_
                  refine x_callVV (Y2 := mX4_keep) (c := t_history) (As := [(2, t_now)]) (S := []) d_X11_place_43 ok_mX4_keep ml_X11_230 rfl (Nat.le_of_ble_eq_true rfl) (Nat.le_of_ble_eq_true rfl) rfl hd_1 kX4 o_t_history (c_X4_keep (v_X4_keep_0 o_t_history f_t_history_kept o_t_now he_1 ?_))
                  refine ⟨h.1, ?_⟩
                  have h := h.2
                  intro b1 eb1
                  have h := h b1 eb1
                  refine ⟨h.1, ?_⟩
                  have h := h.2
                  refine CV.mono h (fun σ2 h => ?_)
                  intro τ3 eτ3
                  have h := h τ3 eτ3
                  refine ⟨fun hc => ?_, fun hc => ?_⟩
                  · have h := h.1 hc
                    intro τ4 eτ4
                    have h := h τ4 eτ4
                    show WP l mX11_place (rm d 0 0) noX _ 0 0 46 [(2, t), (0, x1), (0, x2), (0, x3), (0, x4)] [] N Λ τ4
                    refine r_aload_n (x := t) d_X11_place_46 rfl o_t.1 ?_
                    refine r_getf (j := 0) (t := 2) (x := t_now) d_X11_place_47 kX11 (by decide) fl_X11_10 o_t.1 o_t.2.1 o_t.2.2.1 o_t.2.2.2 rfl f_t_now ?_
                    refine r_getf (j := 1) (t := 2) (x := t_now_places) d_X11_place_50 kX7 (by decide) fl_X11_237 o_t_now.1 o_t_now.2.1 o_t_now.2.2.1 o_t_now.2.2.2 rfl f_t_now_places ?_
                    refine r_iconst (x := 3) d_X11_place_53 ⟨by decide, by decide⟩ ?_
                    refine r_iload_n (x := x1) d_X11_place_54 rfl ?_
                    refine r_imul d_X11_place_55 ?_
                    refine r_iload_n (x := x2) d_X11_place_56 rfl ?_
                    refine x_iast d_X11_place_57 h.1 ?_
                    have h := h.2
                    refine r_nmM (fun τ5 eτ5 => ?_)
                    have h := h τ5 eτ5
                    refine r_aload_n (x := t) d_X11_place_58 rfl o_t.1 ?_
                    refine r_getf (j := 0) (t := 2) (x := t_now) d_X11_place_59 kX11 (by decide) fl_X11_10 o_t.1 o_t.2.1 o_t.2.2.1 o_t.2.2.2 rfl f_t_now ?_
                    refine r_getf (j := 1) (t := 2) (x := t_now_places) d_X11_place_62 kX7 (by decide) fl_X11_237 o_t_now.1 o_t_now.2.1 o_t_now.2.2.1 o_t_now.2.2.2 rfl f_t_now_places ?_
                    refine r_iconst (x := 3) d_X11_place_65 ⟨by decide, by decide⟩ ?_
                    refine r_iload_n (x := x1) d_X11_place_66 rfl ?_
                    refine r_imul d_X11_place_67 ?_
                    refine r_iconst (x := 1) d_X11_place_68 ⟨by decide, by decide⟩ ?_
                    refine r_iadd d_X11_place_69 ?_
                    refine r_iload_n (x := x3) d_X11_place_70 rfl ?_
                    refine x_iast d_X11_place_71 h.1 ?_
                    have h := h.2
                    refine r_nmM (fun τ6 eτ6 => ?_)
                    have h := h τ6 eτ6
                    refine r_aload_n (x := t) d_X11_place_72 rfl o_t.1 ?_
                    refine r_getf (j := 0) (t := 2) (x := t_now) d_X11_place_73 kX11 (by decide) fl_X11_10 o_t.1 o_t.2.1 o_t.2.2.1 o_t.2.2.2 rfl f_t_now ?_
                    refine r_getf (j := 1) (t := 2) (x := t_now_places) d_X11_place_76 kX7 (by decide) fl_X11_237 o_t_now.1 o_t_now.2.1 o_t_now.2.2.1 o_t_now.2.2.2 rfl f_t_now_places ?_
                    refine r_iconst (x := 3) d_X11_place_79 ⟨by decide, by decide⟩ ?_
                    refine r_iload_n (x := x1) d_X11_place_80 rfl ?_
                    refine r_imul d_X11_place_81 ?_
                    refine r_iconst (x := 2) d_X11_place_82 ⟨by decide, by decide⟩ ?_
                    refine r_iadd d_X11_place_83 ?_
                    refine r_iload (x := x4) d_X11_place_84 rfl ?_
                    refine x_iast d_X11_place_86 h.1 ?_
                    have h := h.2
                    refine r_nmM (fun τ7 eτ7 => ?_)
                    have h := h τ7 eτ7
                    refine r_iconst (x := 0) d_X11_place_87 ⟨by decide, by decide⟩ ?_
                    exact r_iret d_X11_place_88 rfl rfl (Nat.le_refl 0) (Nat.le_refl 0) ⟨_, rfl, rfl, rfl, h⟩
                  · have h := h.2 hc
                    intro τ8 eτ8
                    have h := h τ8 eτ8
                    show WP l mX11_place (rm d 0 0) noX _ 0 0 46 [(2, t), (0, x1), (0, x2), (0, x3), (0, x4)] [] N Λ τ8
                    refine r_aload_n (x := t) d_X11_place_46 rfl o_t.1 ?_
                    refine r_getf (j := 0) (t := 2) (x := t_now) d_X11_place_47 kX11 (by decide) fl_X11_10 o_t.1 o_t.2.1 o_t.2.2.1 o_t.2.2.2 rfl f_t_now ?_
                    refine r_getf (j := 1) (t := 2) (x := t_now_places) d_X11_place_50 kX7 (by decide) fl_X11_237 o_t_now.1 o_t_now.2.1 o_t_now.2.2.1 o_t_now.2.2.2 rfl f_t_now_places ?_
                    refine r_iconst (x := 3) d_X11_place_53 ⟨by decide, by decide⟩ ?_
                    refine r_iload_n (x := x1) d_X11_place_54 rfl ?_
                    refine r_imul d_X11_place_55 ?_
                    refine r_iload_n (x := x2) d_X11_place_56 rfl ?_
                    refine x_iast d_X11_place_57 h.1 ?_
                    have h := h.2
                    refine r_nmM (fun τ9 eτ9 => ?_)
                    have h := h τ9 eτ9
                    refine r_aload_n (x := t) d_X11_place_58 rfl o_t.1 ?_
                    refine r_getf (j := 0) (t := 2) (x := t_now) d_X11_place_59 kX11 (by decide) fl_X11_10 o_t.1 o_t.2.1 o_t.2.2.1 o_t.2.2.2 rfl f_t_now ?_
                    refine r_getf (j := 1) (t := 2) (x := t_now_places) d_X11_place_62 kX7 (by decide) fl_X11_237 o_t_now.1 o_t_now.2.1 o_t_now.2.2.1 o_t_now.2.2.2 rfl f_t_now_places ?_
                    refine r_iconst (x := 3) d_X11_place_65 ⟨by decide, by decide⟩ ?_
                    refine r_iload_n (x := x1) d_X11_place_66 rfl ?_
                    refine r_imul d_X11_place_67 ?_
                    refine r_iconst (x := 1) d_X11_place_68 ⟨by decide, by decide⟩ ?_
                    refine r_iadd d_X11_place_69 ?_
                    refine r_iload_n (x := x3) d_X11_place_70 rfl ?_
                    refine x_iast d_X11_place_71 h.1 ?_
                    have h := h.2
                    refine r_nmM (fun τ10 eτ10 => ?_)
                    have h := h τ10 eτ10
                    refine r_aload_n (x := t) d_X11_place_72 rfl o_t.1 ?_
                    refine r_getf (j := 0) (t := 2) (x := t_now) d_X11_place_73 kX11 (by decide) fl_X11_10 o_t.1 o_t.2.1 o_t.2.2.1 o_t.2.2.2 rfl f_t_now ?_
                    refine r_getf (j := 1) (t := 2) (x := t_now_places) d_X11_place_76 kX7 (by decide) fl_X11_237 o_t_now.1 o_t_now.2.1 o_t_now.2.2.1 o_t_now.2.2.2 rfl f_t_now_places ?_
                    refine r_iconst (x := 3) d_X11_place_79 ⟨by decide, by decide⟩ ?_
                    refine r_iload_n (x := x1) d_X11_place_80 rfl ?_
                    refine r_imul d_X11_place_81 ?_
                    refine r_iconst (x := 2) d_X11_place_82 ⟨by decide, by decide⟩ ?_
                    refine r_iadd d_X11_place_83 ?_
                    refine r_iload (x := x4) d_X11_place_84 rfl ?_
                    refine x_iast d_X11_place_86 h.1 ?_
                    have h := h.2
                    refine r_nmM (fun τ11 eτ11 => ?_)
                    have h := h τ11 eτ11
                    refine r_iconst (x := 0) d_X11_place_87 ⟨by decide, by decide⟩ ?_
                    exact r_iret d_X11_place_88 rfl rfl (Nat.le_refl 0) (Nat.le_refl 0) ⟨_, rfl, rfl, rfl, h⟩
theorem v_X11_terms_0 {l : Launch} {d N : Nat} {Λ : Lay} {P : Int → Mem → Prop} {σ : Mem} {x1 t t_now t_now_shelves : Int} (o_t : Ob N Λ t 20 14) (f_t_now : (Λ t).2.2 0 = t_now) (o_t_now : Ob N Λ t_now 16 3) (f_t_now_shelves : (Λ t_now).2.2 0 = t_now_shelves) (h0d : 1 ≤ d)
    (h : ((x1 < 0 → P (-2) σ) ∧ (¬ (x1 < 0) → ((6 ≤ x1 → P (-2) σ) ∧ (¬ (6 ≤ x1) → (Ix N Λ t_now_shelves 3 x1 ∧ (∀ b1, b1 = (Λ t_now_shelves).2.2 x1 → (Ob N Λ b1 15 3 ∧ P (σ b1 2) σ)))))))) :
    WI l mX11_terms d P 0 [(2, t), (0, x1)] [] N Λ σ := by
  have hd_1 : 1 ≤ d := Nat.le_trans (by decide) h0d
  refine r_iload_n (x := x1) d_X11_terms_0 rfl ?_
  refine x_callSI (Y2 := mX11_isShelf) (As := [(0, x1)]) (S := []) d_X11_terms_1 ok_mX11_isShelf ml_X11_143 rfl (Nat.le_of_ble_eq_true rfl) (Nat.le_of_ble_eq_true rfl) rfl hd_1 (c_X11_isShelf (v_X11_isShelf_0 ?_))
  refine ⟨fun hc => ?_, fun hc => ?_⟩
  · have h := h.1 hc
    show WP l mX11_terms (rm d 0 0) noX _ 0 0 4 [(2, t), (0, x1)] [(0, 0)] N Λ σ
    refine r_if_eq (tgt := 22) d_X11_terms_4 rfl (fun _ => ?_) (fun hc => absurd hc (by decide))
    refine r_bipush (x := (-2)) d_X11_terms_22 ⟨by decide, by decide⟩ (by decide) ?_
    exact r_iret d_X11_terms_24 rfl rfl (Nat.le_refl 0) (Nat.le_refl 0) ⟨_, rfl, rfl, rfl, h⟩
  · have h := h.2 hc
    refine ⟨fun hc => ?_, fun hc => ?_⟩
    · have h := h.1 hc
      show WP l mX11_terms (rm d 0 0) noX _ 0 0 4 [(2, t), (0, x1)] [(0, 0)] N Λ σ
      refine r_if_eq (tgt := 22) d_X11_terms_4 rfl (fun _ => ?_) (fun hc => absurd hc (by decide))
      refine r_bipush (x := (-2)) d_X11_terms_22 ⟨by decide, by decide⟩ (by decide) ?_
      exact r_iret d_X11_terms_24 rfl rfl (Nat.le_refl 0) (Nat.le_refl 0) ⟨_, rfl, rfl, rfl, h⟩
    · have h := h.2 hc
      show WP l mX11_terms (rm d 0 0) noX _ 0 0 4 [(2, t), (0, x1)] [(0, 1)] N Λ σ
      refine r_if_eq (tgt := 22) d_X11_terms_4 rfl (fun hc => absurd hc (by decide)) (fun _ => ?_)
      refine r_aload_n (x := t) d_X11_terms_7 rfl o_t.1 ?_
      refine r_getf (j := 0) (t := 2) (x := t_now) d_X11_terms_8 kX11 (by decide) fl_X11_10 o_t.1 o_t.2.1 o_t.2.2.1 o_t.2.2.2 rfl f_t_now ?_
      refine r_getf (j := 0) (t := 2) (x := t_now_shelves) d_X11_terms_11 kX7 (by decide) fl_X11_146 o_t_now.1 o_t_now.2.1 o_t_now.2.2.1 o_t_now.2.2.2 rfl f_t_now_shelves ?_
      refine r_iload_n (x := x1) d_X11_terms_14 rfl ?_
      refine x_aald (t := 3) (by decide) d_X11_terms_15 h.1 (fun b1 eb1 => ?_)
      have h := h.2 b1 eb1
      have oob1 := h.1
      have h := h.2
      refine r_getf (j := 2) (t := 0) (x := (σ b1 2)) d_X11_terms_16 kX5 (by decide) fl_X11_150 oob1.1 oob1.2.1 oob1.2.2.1 oob1.2.2.2 rfl rfl ?_
      refine r_goto (tgt := 24) d_X11_terms_19 rfl ?_
      exact r_iret d_X11_terms_24 rfl rfl (Nat.le_refl 0) (Nat.le_refl 0) ⟨_, rfl, rfl, rfl, h⟩
theorem v_X11_term_0 {l : Launch} {d N : Nat} {Λ : Lay} {P : Int → Mem → Prop} {σ : Mem} {x1 x2 x3 t t_now t_now_shelves : Int} (o_t : Ob N Λ t 20 14) (f_t_now : (Λ t).2.2 0 = t_now) (o_t_now : Ob N Λ t_now 16 3) (f_t_now_shelves : (Λ t_now).2.2 0 = t_now_shelves) (h0d : 2 ≤ d)
    (h : ((x1 < 0 → P (-2147483648) σ) ∧ (¬ (x1 < 0) → ((6 ≤ x1 → P (-2147483648) σ) ∧ (¬ (6 ≤ x1) → ((x2 < 0 → P (-2147483648) σ) ∧ (¬ (x2 < 0) → (Ix N Λ t_now_shelves 3 x1 ∧ (∀ b1, b1 = (Λ t_now_shelves).2.2 x1 → (Ob N Λ b1 15 3 ∧ ((x2 < (σ b1 2) → (Ix N Λ t_now_shelves 3 x1 ∧ (∀ b2, b2 = (Λ t_now_shelves).2.2 x1 → (Ob N Λ b2 15 3 ∧ (∀ b3, b3 = (Λ b2).2.2 0 → (Ix N Λ b3 1 x2 ∧ (∀ y4, y4 = (σ b3 x2) → (CI l mX6_breakOf (d - 1) [(1, y4)] N Λ σ (fun v6 σ5 => ((x3 < 0 ∨ 4 < x3 → ((x3 < 10 → P (-2147483648) σ5) ∧ (¬ (x3 < 10) → ((x3 ≤ 21 → (∀ y7, y7 = (andI (l2iI (ushrL y4 (mulI 12 (subI 3 (divI (subI x3 10) 3))))) 4095) → ((¬ y7 = 0 → P (andI (shrI y7 (mulI 4 (subI 2 (remI (subI x3 10) 3)))) 15) σ5) ∧ (y7 = 0 → P (-1) σ5)))) ∧ (¬ (x3 ≤ 21) → P (-2147483648) σ5))))) ∧ (x3 = 0 → (∀ b8, b8 = (Λ b2).2.2 1 → (Ix N Λ b8 0 x2 ∧ P (σ5 b8 x2) σ5))) ∧ (x3 = 1 → (CI l mX6_bracketsIn (d - 1) [(1, y4)] N Λ σ5 (fun v10 σ9 => P v10 σ9))) ∧ (x3 = 2 → ((¬ v6 = 0 → P 0 σ5) ∧ (v6 = 0 → P 1 σ5))) ∧ (x3 = 3 → ((¬ v6 = 0 → P (divI v6 4) σ5) ∧ (v6 = 0 → P (-1) σ5))) ∧ (x3 = 4 → ((¬ v6 = 0 → P (remI v6 4) σ5) ∧ (v6 = 0 → P (-1) σ5))))))))))))) ∧ (¬ (x2 < (σ b1 2)) → P (-2147483648) σ)))))))))))) :
    WI l mX11_term d P 0 [(2, t), (0, x1), (0, x2), (0, x3), (3, 0), (3, 0), (3, 0), (3, 0)] [] N Λ σ := by
  have hd_1 : 1 ≤ d := Nat.le_trans (by decide) h0d
  have he_1 : 1 ≤ d - 1 := Nat.le_sub_of_add_le (Nat.le_trans (by decide) h0d)
  refine r_iload_n (x := x1) d_X11_term_0 rfl ?_
  refine x_callSI (Y2 := mX11_isShelf) (As := [(0, x1)]) (S := []) d_X11_term_1 ok_mX11_isShelf ml_X11_143 rfl (Nat.le_of_ble_eq_true rfl) (Nat.le_of_ble_eq_true rfl) rfl hd_1 (c_X11_isShelf (v_X11_isShelf_0 ?_))
  refine ⟨fun hc => ?_, fun hc => ?_⟩
  · have h := h.1 hc
    show WP l mX11_term (rm d 0 0) noX _ 0 0 4 [(2, t), (0, x1), (0, x2), (0, x3), (3, 0), (3, 0), (3, 0), (3, 0)] [(0, 0)] N Λ σ
    refine r_if_eq (tgt := 27) d_X11_term_4 rfl (fun _ => ?_) (fun hc => absurd hc (by decide))
    refine r_ldc (x := (-2147483648)) d_X11_term_27 ck_X11_240 (by decide) ?_
    exact r_iret d_X11_term_29 rfl rfl (Nat.le_refl 0) (Nat.le_refl 0) ⟨_, rfl, rfl, rfl, h⟩
  · have h := h.2 hc
    refine ⟨fun hc => ?_, fun hc => ?_⟩
    · have h := h.1 hc
      show WP l mX11_term (rm d 0 0) noX _ 0 0 4 [(2, t), (0, x1), (0, x2), (0, x3), (3, 0), (3, 0), (3, 0), (3, 0)] [(0, 0)] N Λ σ
      refine r_if_eq (tgt := 27) d_X11_term_4 rfl (fun _ => ?_) (fun hc => absurd hc (by decide))
      refine r_ldc (x := (-2147483648)) d_X11_term_27 ck_X11_240 (by decide) ?_
      exact r_iret d_X11_term_29 rfl rfl (Nat.le_refl 0) (Nat.le_refl 0) ⟨_, rfl, rfl, rfl, h⟩
    · have h := h.2 hc
      show WP l mX11_term (rm d 0 0) noX _ 0 0 4 [(2, t), (0, x1), (0, x2), (0, x3), (3, 0), (3, 0), (3, 0), (3, 0)] [(0, 1)] N Λ σ
      refine r_if_eq (tgt := 27) d_X11_term_4 rfl (fun hc => absurd hc (by decide)) (fun _ => ?_)
      refine r_iload_n (x := x2) d_X11_term_7 rfl ?_
      refine r_if_lt (tgt := 27) d_X11_term_8 rfl (fun hc => ?_) (fun hc => ?_)
      · have h := h.1 hc
        refine r_ldc (x := (-2147483648)) d_X11_term_27 ck_X11_240 (by decide) ?_
        exact r_iret d_X11_term_29 rfl rfl (Nat.le_refl 0) (Nat.le_refl 0) ⟨_, rfl, rfl, rfl, h⟩
      · have h := h.2 hc
        refine r_iload_n (x := x2) d_X11_term_11 rfl ?_
        refine r_aload_n (x := t) d_X11_term_12 rfl o_t.1 ?_
        refine r_getf (j := 0) (t := 2) (x := t_now) d_X11_term_13 kX11 (by decide) fl_X11_10 o_t.1 o_t.2.1 o_t.2.2.1 o_t.2.2.2 rfl f_t_now ?_
        refine r_getf (j := 0) (t := 2) (x := t_now_shelves) d_X11_term_16 kX7 (by decide) fl_X11_146 o_t_now.1 o_t_now.2.1 o_t_now.2.2.1 o_t_now.2.2.2 rfl f_t_now_shelves ?_
        refine r_iload_n (x := x1) d_X11_term_19 rfl ?_
        refine x_aald (t := 3) (by decide) d_X11_term_20 h.1 (fun b1 eb1 => ?_)
        have h := h.2 b1 eb1
        have oob1 := h.1
        have h := h.2
        refine r_getf (j := 2) (t := 0) (x := (σ b1 2)) d_X11_term_21 kX5 (by decide) fl_X11_150 oob1.1 oob1.2.1 oob1.2.2.1 oob1.2.2.2 rfl rfl ?_
        refine r_ic_lt (tgt := 30) d_X11_term_24 rfl (fun hc => ?_) (fun hc => ?_)
        · have h := h.1 hc
          refine r_aload_n (x := t) d_X11_term_30 rfl o_t.1 ?_
          refine r_getf (j := 0) (t := 2) (x := t_now) d_X11_term_31 kX11 (by decide) fl_X11_10 o_t.1 o_t.2.1 o_t.2.2.1 o_t.2.2.2 rfl f_t_now ?_
          refine r_getf (j := 0) (t := 2) (x := t_now_shelves) d_X11_term_34 kX7 (by decide) fl_X11_146 o_t_now.1 o_t_now.2.1 o_t_now.2.2.1 o_t_now.2.2.2 rfl f_t_now_shelves ?_
          refine r_iload_n (x := x1) d_X11_term_37 rfl ?_
          refine x_aald (t := 3) (by decide) d_X11_term_38 h.1 (fun b2 eb2 => ?_)
          have h := h.2 b2 eb2
          have oob2 := h.1
          have h := h.2
          refine r_astore (L2 := [(2, t), (0, x1), (0, x2), (0, x3), (2, b2), (3, 0), (3, 0), (3, 0)]) d_X11_term_39 (by decide) rfl rfl oob2.1 ?_
          refine r_aload (x := b2) d_X11_term_41 rfl oob2.1 ?_
          refine r_nmR (j := 0) d_X11_term_43 kX5 (by decide) fl_X11_241 oob2 rfl (fun b3 eb3 => ?_)
          have h := h b3 eb3
          refine r_iload_n (x := x2) d_X11_term_46 rfl ?_
          refine x_lald d_X11_term_47 h.1 ?_
          have h := h.2
          refine r_nm (fun y4 ey4 => ?_)
          have h := h y4 ey4
          refine r_lstore (L2 := [(2, t), (0, x1), (0, x2), (0, x3), (2, b2), (1, y4), (3, 0), (3, 0)]) d_X11_term_48 (by decide) rfl rfl ?_
          refine r_lload (x := y4) d_X11_term_50 rfl ?_
          refine x_callSI (Y2 := mX6_breakOf) (As := [(1, y4)]) (S := []) d_X11_term_52 ok_mX6_breakOf ml_X11_245 rfl (Nat.le_of_ble_eq_true rfl) (Nat.le_of_ble_eq_true rfl) rfl hd_1 (CI.mono h (fun v6 σ5 h => ?_))
          refine r_istore (L2 := [(2, t), (0, x1), (0, x2), (0, x3), (2, b2), (1, y4), (3, 0), (0, v6)]) d_X11_term_55 (by decide) rfl rfl ?_
          refine r_iload_n (x := x3) d_X11_term_57 rfl ?_
          by_cases hr : x3 < 0 ∨ 4 < x3
          · have h := h.1 hr
            refine r_tout (tgt := 147) d_X11_term_58 hr rfl ?_
            refine r_iload_n (x := x3) d_X11_term_147 rfl ?_
            refine r_bipush (x := 10) d_X11_term_148 ⟨by decide, by decide⟩ (by decide) ?_
            refine r_ic_lt (tgt := 159) d_X11_term_150 rfl (fun hc => ?_) (fun hc => ?_)
            · have h := h.1 hc
              refine r_ldc (x := (-2147483648)) d_X11_term_159 ck_X11_240 (by decide) ?_
              refine r_goto (tgt := 173) d_X11_term_161 rfl ?_
              exact r_iret d_X11_term_173 rfl rfl (Nat.le_refl 0) (Nat.le_refl 0) ⟨_, rfl, rfl, rfl, h⟩
            · have h := h.2 hc
              refine r_iload_n (x := x3) d_X11_term_153 rfl ?_
              refine r_bipush (x := 21) d_X11_term_154 ⟨by decide, by decide⟩ (by decide) ?_
              refine r_ic_le (tgt := 164) d_X11_term_156 rfl (fun hc => ?_) (fun hc => ?_)
              · have h := h.1 hc
                refine r_lload (x := y4) d_X11_term_164 rfl ?_
                refine r_iload_n (x := x3) d_X11_term_166 rfl ?_
                refine r_bipush (x := 10) d_X11_term_167 ⟨by decide, by decide⟩ (by decide) ?_
                refine r_isub d_X11_term_169 ?_
                refine x_callSI (Y2 := mX6_letterOfKey) (As := [(1, y4), (0, (subI x3 10))]) (S := []) d_X11_term_170 ok_mX6_letterOfKey ml_X11_261 rfl (Nat.le_of_ble_eq_true rfl) (Nat.le_of_ble_eq_true rfl) rfl hd_1 (c_X6_letterOfKey (v_X6_letterOfKey_0 he_1 ?_))
                intro y7 ey7
                have h := h y7 ey7
                refine ⟨fun hc => ?_, fun hc => ?_⟩
                · have h := h.1 hc
                  show WP l mX11_term (rm d 0 0) noX _ 0 0 173 [(2, t), (0, x1), (0, x2), (0, x3), (2, b2), (1, y4), (3, 0), (0, v6)] [(0, (andI (shrI y7 (mulI 4 (subI 2 (remI (subI x3 10) 3)))) 15))] N Λ σ5
                  exact r_iret d_X11_term_173 rfl rfl (Nat.le_refl 0) (Nat.le_refl 0) ⟨_, rfl, rfl, rfl, h⟩
                · have h := h.2 hc
                  show WP l mX11_term (rm d 0 0) noX _ 0 0 173 [(2, t), (0, x1), (0, x2), (0, x3), (2, b2), (1, y4), (3, 0), (0, v6)] [(0, (-1))] N Λ σ5
                  exact r_iret d_X11_term_173 rfl rfl (Nat.le_refl 0) (Nat.le_refl 0) ⟨_, rfl, rfl, rfl, h⟩
              · have h := h.2 hc
                refine r_ldc (x := (-2147483648)) d_X11_term_159 ck_X11_240 (by decide) ?_
                refine r_goto (tgt := 173) d_X11_term_161 rfl ?_
                exact r_iret d_X11_term_173 rfl rfl (Nat.le_refl 0) (Nat.le_refl 0) ⟨_, rfl, rfl, rfl, h⟩
          · have h := h.2
            by_cases hk0 : x3 = 0
            · have h := h.1 hk0
              refine r_tin (off := 34) (tgt := 92) d_X11_term_58 (by rw [hk0]; decide) (by rw [hk0]; decide) (by rw [hk0]; rfl) rfl ?_
              refine r_aload (x := b2) d_X11_term_92 rfl oob2.1 ?_
              refine r_nmR (j := 1) d_X11_term_94 kX5 (by decide) fl_X11_249 oob2 rfl (fun b8 eb8 => ?_)
              have h := h b8 eb8
              refine r_iload_n (x := x2) d_X11_term_97 rfl ?_
              refine x_iald d_X11_term_98 h.1 ?_
              have h := h.2
              exact r_iret d_X11_term_99 rfl rfl (Nat.le_refl 0) (Nat.le_refl 0) ⟨_, rfl, rfl, rfl, h⟩
            have h := h.2
            by_cases hk1 : x3 = 1
            · have h := h.1 hk1
              refine r_tin (off := 42) (tgt := 100) d_X11_term_58 (by rw [hk1]; decide) (by rw [hk1]; decide) (by rw [hk1]; rfl) rfl ?_
              refine r_lload (x := y4) d_X11_term_100 rfl ?_
              refine x_callSI (Y2 := mX6_bracketsIn) (As := [(1, y4)]) (S := []) d_X11_term_102 ok_mX6_bracketsIn ml_X11_252 rfl (Nat.le_of_ble_eq_true rfl) (Nat.le_of_ble_eq_true rfl) rfl hd_1 (CI.mono h (fun v10 σ9 h => ?_))
              exact r_iret d_X11_term_105 rfl rfl (Nat.le_refl 0) (Nat.le_refl 0) ⟨_, rfl, rfl, rfl, h⟩
            have h := h.2
            by_cases hk2 : x3 = 2
            · have h := h.1 hk2
              refine r_tin (off := 48) (tgt := 106) d_X11_term_58 (by rw [hk2]; decide) (by rw [hk2]; decide) (by rw [hk2]; rfl) rfl ?_
              refine r_iload (x := v6) d_X11_term_106 rfl ?_
              refine r_if_ne (tgt := 115) d_X11_term_108 rfl (fun hc => ?_) (fun hc => ?_)
              · have h := h.1 hc
                refine r_iconst (x := 0) d_X11_term_115 ⟨by decide, by decide⟩ ?_
                exact r_iret d_X11_term_116 rfl rfl (Nat.le_refl 0) (Nat.le_refl 0) ⟨_, rfl, rfl, rfl, h⟩
              · have h := h.2 hc
                refine r_iconst (x := 1) d_X11_term_111 ⟨by decide, by decide⟩ ?_
                refine r_goto (tgt := 116) d_X11_term_112 rfl ?_
                exact r_iret d_X11_term_116 rfl rfl (Nat.le_refl 0) (Nat.le_refl 0) ⟨_, rfl, rfl, rfl, h⟩
            have h := h.2
            by_cases hk3 : x3 = 3
            · have h := h.1 hk3
              refine r_tin (off := 59) (tgt := 117) d_X11_term_58 (by rw [hk3]; decide) (by rw [hk3]; decide) (by rw [hk3]; rfl) rfl ?_
              refine r_iload (x := v6) d_X11_term_117 rfl ?_
              refine r_if_ne (tgt := 126) d_X11_term_119 rfl (fun hc => ?_) (fun hc => ?_)
              · have h := h.1 hc
                refine r_iload (x := v6) d_X11_term_126 rfl ?_
                refine x_callSI (Y2 := mX6_bracketOfBreak) (As := [(0, v6)]) (S := []) d_X11_term_128 ok_mX6_bracketOfBreak ml_X11_255 rfl (Nat.le_of_ble_eq_true rfl) (Nat.le_of_ble_eq_true rfl) rfl hd_1 (c_X6_bracketOfBreak (v_X6_bracketOfBreak_0 ?_))
                show WP l mX11_term (rm d 0 0) noX _ 0 0 131 [(2, t), (0, x1), (0, x2), (0, x3), (2, b2), (1, y4), (3, 0), (0, v6)] [(0, (divI v6 4))] N Λ σ5
                exact r_iret d_X11_term_131 rfl rfl (Nat.le_refl 0) (Nat.le_refl 0) ⟨_, rfl, rfl, rfl, h⟩
              · have h := h.2 hc
                refine r_iconst (x := (-1)) d_X11_term_122 ⟨by decide, by decide⟩ ?_
                refine r_goto (tgt := 131) d_X11_term_123 rfl ?_
                exact r_iret d_X11_term_131 rfl rfl (Nat.le_refl 0) (Nat.le_refl 0) ⟨_, rfl, rfl, rfl, h⟩
            have h := h.2
            by_cases hk4 : x3 = 4
            · have h := h hk4
              refine r_tin (off := 74) (tgt := 132) d_X11_term_58 (by rw [hk4]; decide) (by rw [hk4]; decide) (by rw [hk4]; rfl) rfl ?_
              refine r_iload (x := v6) d_X11_term_132 rfl ?_
              refine r_if_ne (tgt := 141) d_X11_term_134 rfl (fun hc => ?_) (fun hc => ?_)
              · have h := h.1 hc
                refine r_iload (x := v6) d_X11_term_141 rfl ?_
                refine x_callSI (Y2 := mX6_placeOfBreak) (As := [(0, v6)]) (S := []) d_X11_term_143 ok_mX6_placeOfBreak ml_X11_258 rfl (Nat.le_of_ble_eq_true rfl) (Nat.le_of_ble_eq_true rfl) rfl hd_1 (c_X6_placeOfBreak (v_X6_placeOfBreak_0 ?_))
                show WP l mX11_term (rm d 0 0) noX _ 0 0 146 [(2, t), (0, x1), (0, x2), (0, x3), (2, b2), (1, y4), (3, 0), (0, v6)] [(0, (remI v6 4))] N Λ σ5
                exact r_iret d_X11_term_146 rfl rfl (Nat.le_refl 0) (Nat.le_refl 0) ⟨_, rfl, rfl, rfl, h⟩
              · have h := h.2 hc
                refine r_iconst (x := (-1)) d_X11_term_137 ⟨by decide, by decide⟩ ?_
                refine r_goto (tgt := 146) d_X11_term_138 rfl ?_
                exact r_iret d_X11_term_146 rfl rfl (Nat.le_refl 0) (Nat.le_refl 0) ⟨_, rfl, rfl, rfl, h⟩
            exact (tsw_4 hr hk0 hk1 hk2 hk3 hk4).elim
        · have h := h.2 hc
          refine r_ldc (x := (-2147483648)) d_X11_term_27 ck_X11_240 (by decide) ?_
          exact r_iret d_X11_term_29 rfl rfl (Nat.le_refl 0) (Nat.le_refl 0) ⟨_, rfl, rfl, rfl, h⟩
theorem v_X11_degree_0 {l : Launch} {d N : Nat} {Λ : Lay} {P : Int → Mem → Prop} {σ : Mem} {x1 x2 t t_now t_now_shelves : Int} (o_t : Ob N Λ t 20 14) (f_t_now : (Λ t).2.2 0 = t_now) (o_t_now : Ob N Λ t_now 16 3) (f_t_now_shelves : (Λ t_now).2.2 0 = t_now_shelves) (h0d : 1 ≤ d)
    (h : ((x1 < 0 → P (-2) σ) ∧ (¬ (x1 < 0) → ((6 ≤ x1 → P (-2) σ) ∧ (¬ (6 ≤ x1) → ((x2 < 0 → P (-2) σ) ∧ (¬ (x2 < 0) → ((10 ≤ x2 → P (-2) σ) ∧ (¬ (10 ≤ x2) → (Ix N Λ t_now_shelves 3 x1 ∧ (∀ b1, b1 = (Λ t_now_shelves).2.2 x1 → (Ob N Λ b1 15 3 ∧ ((¬ (σ b1 2) = 0 → (∀ b2, b2 = (Λ b1).2.2 0 → (Ix N Λ b2 1 0 ∧ (CI l mX6_timesOf (d - 1) [(1, (σ b2 0)), (0, x2)] N Λ σ (fun v4 σ3 => WI l mX11_degree d P 51 [(2, t), (0, x1), (0, x2), (2, b1), (0, v4), (0, 1)] [] N Λ σ3))))) ∧ ((σ b1 2) = 0 → P (-1) σ)))))))))))))) :
    WI l mX11_degree d P 0 [(2, t), (0, x1), (0, x2), (3, 0), (3, 0), (3, 0)] [] N Λ σ := by
  have hd_1 : 1 ≤ d := Nat.le_trans (by decide) h0d
  refine r_iload_n (x := x1) d_X11_degree_0 rfl ?_
  refine x_callSI (Y2 := mX11_isShelf) (As := [(0, x1)]) (S := []) d_X11_degree_1 ok_mX11_isShelf ml_X11_143 rfl (Nat.le_of_ble_eq_true rfl) (Nat.le_of_ble_eq_true rfl) rfl hd_1 (c_X11_isShelf (v_X11_isShelf_0 ?_))
  refine ⟨fun hc => ?_, fun hc => ?_⟩
  · have h := h.1 hc
    show WP l mX11_degree (rm d 0 0) noX _ 0 0 4 [(2, t), (0, x1), (0, x2), (3, 0), (3, 0), (3, 0)] [(0, 0)] N Λ σ
    refine r_if_eq (tgt := 14) d_X11_degree_4 rfl (fun _ => ?_) (fun hc => absurd hc (by decide))
    refine r_bipush (x := (-2)) d_X11_degree_14 ⟨by decide, by decide⟩ (by decide) ?_
    exact r_iret d_X11_degree_16 rfl rfl (Nat.le_refl 0) (Nat.le_refl 0) ⟨_, rfl, rfl, rfl, h⟩
  · have h := h.2 hc
    refine ⟨fun hc => ?_, fun hc => ?_⟩
    · have h := h.1 hc
      show WP l mX11_degree (rm d 0 0) noX _ 0 0 4 [(2, t), (0, x1), (0, x2), (3, 0), (3, 0), (3, 0)] [(0, 0)] N Λ σ
      refine r_if_eq (tgt := 14) d_X11_degree_4 rfl (fun _ => ?_) (fun hc => absurd hc (by decide))
      refine r_bipush (x := (-2)) d_X11_degree_14 ⟨by decide, by decide⟩ (by decide) ?_
      exact r_iret d_X11_degree_16 rfl rfl (Nat.le_refl 0) (Nat.le_refl 0) ⟨_, rfl, rfl, rfl, h⟩
    · have h := h.2 hc
      show WP l mX11_degree (rm d 0 0) noX _ 0 0 4 [(2, t), (0, x1), (0, x2), (3, 0), (3, 0), (3, 0)] [(0, 1)] N Λ σ
      refine r_if_eq (tgt := 14) d_X11_degree_4 rfl (fun hc => absurd hc (by decide)) (fun _ => ?_)
      refine r_iload_n (x := x2) d_X11_degree_7 rfl ?_
      refine x_callSI (Y2 := mX11_isLetter) (As := [(0, x2)]) (S := []) d_X11_degree_8 ok_mX11_isLetter ml_X11_205 rfl (Nat.le_of_ble_eq_true rfl) (Nat.le_of_ble_eq_true rfl) rfl hd_1 (c_X11_isLetter (v_X11_isLetter_0 ?_))
      refine ⟨fun hc => ?_, fun hc => ?_⟩
      · have h := h.1 hc
        show WP l mX11_degree (rm d 0 0) noX _ 0 0 11 [(2, t), (0, x1), (0, x2), (3, 0), (3, 0), (3, 0)] [(0, 0)] N Λ σ
        refine r_if_ne (tgt := 17) d_X11_degree_11 rfl (fun hc => absurd hc (by decide)) (fun _ => ?_)
        refine r_bipush (x := (-2)) d_X11_degree_14 ⟨by decide, by decide⟩ (by decide) ?_
        exact r_iret d_X11_degree_16 rfl rfl (Nat.le_refl 0) (Nat.le_refl 0) ⟨_, rfl, rfl, rfl, h⟩
      · have h := h.2 hc
        refine ⟨fun hc => ?_, fun hc => ?_⟩
        · have h := h.1 hc
          show WP l mX11_degree (rm d 0 0) noX _ 0 0 11 [(2, t), (0, x1), (0, x2), (3, 0), (3, 0), (3, 0)] [(0, 0)] N Λ σ
          refine r_if_ne (tgt := 17) d_X11_degree_11 rfl (fun hc => absurd hc (by decide)) (fun _ => ?_)
          refine r_bipush (x := (-2)) d_X11_degree_14 ⟨by decide, by decide⟩ (by decide) ?_
          exact r_iret d_X11_degree_16 rfl rfl (Nat.le_refl 0) (Nat.le_refl 0) ⟨_, rfl, rfl, rfl, h⟩
        · have h := h.2 hc
          show WP l mX11_degree (rm d 0 0) noX _ 0 0 11 [(2, t), (0, x1), (0, x2), (3, 0), (3, 0), (3, 0)] [(0, 1)] N Λ σ
          refine r_if_ne (tgt := 17) d_X11_degree_11 rfl (fun _ => ?_) (fun hc => absurd hc (by decide))
          refine r_aload_n (x := t) d_X11_degree_17 rfl o_t.1 ?_
          refine r_getf (j := 0) (t := 2) (x := t_now) d_X11_degree_18 kX11 (by decide) fl_X11_10 o_t.1 o_t.2.1 o_t.2.2.1 o_t.2.2.2 rfl f_t_now ?_
          refine r_getf (j := 0) (t := 2) (x := t_now_shelves) d_X11_degree_21 kX7 (by decide) fl_X11_146 o_t_now.1 o_t_now.2.1 o_t_now.2.2.1 o_t_now.2.2.2 rfl f_t_now_shelves ?_
          refine r_iload_n (x := x1) d_X11_degree_24 rfl ?_
          refine x_aald (t := 3) (by decide) d_X11_degree_25 h.1 (fun b1 eb1 => ?_)
          have h := h.2 b1 eb1
          have oob1 := h.1
          have h := h.2
          refine r_astore_n (L2 := [(2, t), (0, x1), (0, x2), (2, b1), (3, 0), (3, 0)]) d_X11_degree_26 (by decide) rfl rfl oob1.1 ?_
          refine r_aload_n (x := b1) d_X11_degree_27 rfl oob1.1 ?_
          refine r_getf (j := 2) (t := 0) (x := (σ b1 2)) d_X11_degree_28 kX5 (by decide) fl_X11_150 oob1.1 oob1.2.1 oob1.2.2.1 oob1.2.2.2 rfl rfl ?_
          refine r_if_ne (tgt := 36) d_X11_degree_31 rfl (fun hc => ?_) (fun hc => ?_)
          · have h := h.1 hc
            refine r_aload_n (x := b1) d_X11_degree_36 rfl oob1.1 ?_
            refine r_nmR (j := 0) d_X11_degree_37 kX5 (by decide) fl_X11_241 oob1 rfl (fun b2 eb2 => ?_)
            have h := h b2 eb2
            refine r_iconst (x := 0) d_X11_degree_40 ⟨by decide, by decide⟩ ?_
            refine x_lald d_X11_degree_41 h.1 ?_
            have h := h.2
            refine r_iload_n (x := x2) d_X11_degree_42 rfl ?_
            refine x_callSI (Y2 := mX6_timesOf) (As := [(1, (σ b2 0)), (0, x2)]) (S := []) d_X11_degree_43 ok_mX6_timesOf ml_X11_265 rfl (Nat.le_of_ble_eq_true rfl) (Nat.le_of_ble_eq_true rfl) rfl hd_1 (CI.mono h (fun v4 σ3 h => ?_))
            refine r_istore (L2 := [(2, t), (0, x1), (0, x2), (2, b1), (0, v4), (3, 0)]) d_X11_degree_46 (by decide) rfl rfl ?_
            refine r_iconst (x := 1) d_X11_degree_48 ⟨by decide, by decide⟩ ?_
            refine r_istore (L2 := [(2, t), (0, x1), (0, x2), (2, b1), (0, v4), (0, 1)]) d_X11_degree_49 (by decide) rfl rfl ?_
            exact h
          · have h := h.2 hc
            refine r_iconst (x := (-1)) d_X11_degree_34 ⟨by decide, by decide⟩ ?_
            exact r_iret d_X11_degree_35 rfl rfl (Nat.le_refl 0) (Nat.le_refl 0) ⟨_, rfl, rfl, rfl, h⟩
theorem v_X11_degree_51 {l : Launch} {d N : Nat} {Λ : Lay} {P : Int → Mem → Prop} {σ : Mem} {x1 x2 x4 x5 b1 b1_keys t : Int} (o_b1 : Ob N Λ b1 15 3) (f_b1_keys : (Λ b1).2.2 0 = b1_keys) (h0d : 1 ≤ d)
    (h : (((σ b1 2) ≤ x5 → P x4 σ) ∧ (¬ ((σ b1 2) ≤ x5) → (Ix N Λ b1_keys 1 x5 ∧ (CI l mX6_timesOf (d - 1) [(1, (σ b1_keys x5)), (0, x2)] N Λ σ (fun v2 σ1 => ((v2 = x4 → (∀ y3, y3 = addI x5 1 → WI l mX11_degree d P 51 [(2, t), (0, x1), (0, x2), (2, b1), (0, x4), (0, y3)] [] N Λ σ1)) ∧ (¬ (v2 = x4) → P (-1) σ1)))))))) :
    WI l mX11_degree d P 51 [(2, t), (0, x1), (0, x2), (2, b1), (0, x4), (0, x5)] [] N Λ σ := by
  have hd_1 : 1 ≤ d := Nat.le_trans (by decide) h0d
  refine r_iload (x := x5) d_X11_degree_51 rfl ?_
  refine r_aload_n (x := b1) d_X11_degree_53 rfl o_b1.1 ?_
  refine r_getf (j := 2) (t := 0) (x := (σ b1 2)) d_X11_degree_54 kX5 (by decide) fl_X11_150 o_b1.1 o_b1.2.1 o_b1.2.2.1 o_b1.2.2.2 rfl rfl ?_
  refine r_ic_ge (tgt := 84) d_X11_degree_57 rfl (fun hc => ?_) (fun hc => ?_)
  · have h := h.1 hc
    refine r_iload (x := x4) d_X11_degree_84 rfl ?_
    exact r_iret d_X11_degree_86 rfl rfl (Nat.le_refl 0) (Nat.le_refl 0) ⟨_, rfl, rfl, rfl, h⟩
  · have h := h.2 hc
    refine r_aload_n (x := b1) d_X11_degree_60 rfl o_b1.1 ?_
    refine r_getf (j := 0) (t := 2) (x := b1_keys) d_X11_degree_61 kX5 (by decide) fl_X11_241 o_b1.1 o_b1.2.1 o_b1.2.2.1 o_b1.2.2.2 rfl f_b1_keys ?_
    refine r_iload (x := x5) d_X11_degree_64 rfl ?_
    refine x_lald d_X11_degree_66 h.1 ?_
    have h := h.2
    refine r_iload_n (x := x2) d_X11_degree_67 rfl ?_
    refine x_callSI (Y2 := mX6_timesOf) (As := [(1, (σ b1_keys x5)), (0, x2)]) (S := []) d_X11_degree_68 ok_mX6_timesOf ml_X11_265 rfl (Nat.le_of_ble_eq_true rfl) (Nat.le_of_ble_eq_true rfl) rfl hd_1 (CI.mono h (fun v2 σ1 h => ?_))
    refine r_iload (x := x4) d_X11_degree_71 rfl ?_
    refine r_ic_eq (tgt := 78) d_X11_degree_73 rfl (fun hc => ?_) (fun hc => ?_)
    · have h := h.1 hc
      refine x_iinc (x := x5) (L := [(2, t), (0, x1), (0, x2), (2, b1), (0, x4), (0, x5)]) d_X11_degree_78 rfl (by decide) rfl (fun y3 ey3 => ?_)
      have h := h y3 ey3
      show WP _ _ _ _ _ _ _ _ [(2, t), (0, x1), (0, x2), (2, b1), (0, x4), (0, y3)] _ _ _ _
      refine r_goto (tgt := 51) d_X11_degree_81 rfl ?_
      exact h
    · have h := h.2 hc
      refine r_iconst (x := (-1)) d_X11_degree_76 ⟨by decide, by decide⟩ ?_
      exact r_iret d_X11_degree_77 rfl rfl (Nat.le_refl 0) (Nat.le_refl 0) ⟨_, rfl, rfl, rfl, h⟩
theorem v_X11_steps_0 {l : Launch} {d N : Nat} {Λ : Lay} {P : Int → Mem → Prop} {σ : Mem} {x1 t t_now t_now_shelves t_straightener t_work : Int} (o_t : Ob N Λ t 20 14) (f_t_straightener : (Λ t).2.2 5 = t_straightener) (f_t_now : (Λ t).2.2 0 = t_now) (o_t_now : Ob N Λ t_now 16 3) (f_t_now_shelves : (Λ t_now).2.2 0 = t_now_shelves) (f_t_work : (Λ t).2.2 11 = t_work) (o_t_straightener : Ob N Λ t_straightener 17 2) (h0d : 1 ≤ d)
    (h : (∀ τ1, τ1 = st σ t 13 0 → ((x1 < 0 → P (-2) τ1) ∧ (¬ (x1 < 0) → ((6 ≤ x1 → P (-2) τ1) ∧ (¬ (6 ≤ x1) → (Ix N Λ t_now_shelves 3 x1 ∧ (∀ b2, b2 = (Λ t_now_shelves).2.2 x1 → (Ob N Λ b2 15 3 ∧ (CI l mX8_straighten (d - 1) [(2, t_straightener), (2, b2), (2, t_work)] N Λ τ1 (fun v4 σ3 => ((¬ v4 = 0 → (∀ τ5, τ5 = st σ3 t 13 v4 → ((¬ v4 = 4 → P (-4) τ5) ∧ (v4 = 4 → P (-7) τ5)))) ∧ (v4 = 0 → P (σ3 t_straightener 0) σ3))))))))))))) :
    WI l mX11_steps d P 0 [(2, t), (0, x1), (3, 0)] [] N Λ σ := by
  have hd_1 : 1 ≤ d := Nat.le_trans (by decide) h0d
  refine r_aload_n (x := t) d_X11_steps_0 rfl o_t.1 ?_
  refine r_iconst (x := 0) d_X11_steps_1 ⟨by decide, by decide⟩ ?_
  refine r_putI (j := 13) d_X11_steps_2 kX11 (by decide) fl_X11_90 rfl o_t.1 o_t.2.1 o_t.2.2.1 o_t.2.2.2 rfl ?_
  refine r_nmM (fun τ1 eτ1 => ?_)
  have h := h τ1 eτ1
  refine r_iload_n (x := x1) d_X11_steps_5 rfl ?_
  refine x_callSI (Y2 := mX11_isShelf) (As := [(0, x1)]) (S := []) d_X11_steps_6 ok_mX11_isShelf ml_X11_143 rfl (Nat.le_of_ble_eq_true rfl) (Nat.le_of_ble_eq_true rfl) rfl hd_1 (c_X11_isShelf (v_X11_isShelf_0 ?_))
  refine ⟨fun hc => ?_, fun hc => ?_⟩
  · have h := h.1 hc
    show WP l mX11_steps (rm d 0 0) noX _ 0 0 9 [(2, t), (0, x1), (3, 0)] [(0, 0)] N Λ τ1
    refine r_if_ne (tgt := 15) d_X11_steps_9 rfl (fun hc => absurd hc (by decide)) (fun _ => ?_)
    refine r_bipush (x := (-2)) d_X11_steps_12 ⟨by decide, by decide⟩ (by decide) ?_
    exact r_iret d_X11_steps_14 rfl rfl (Nat.le_refl 0) (Nat.le_refl 0) ⟨_, rfl, rfl, rfl, h⟩
  · have h := h.2 hc
    refine ⟨fun hc => ?_, fun hc => ?_⟩
    · have h := h.1 hc
      show WP l mX11_steps (rm d 0 0) noX _ 0 0 9 [(2, t), (0, x1), (3, 0)] [(0, 0)] N Λ τ1
      refine r_if_ne (tgt := 15) d_X11_steps_9 rfl (fun hc => absurd hc (by decide)) (fun _ => ?_)
      refine r_bipush (x := (-2)) d_X11_steps_12 ⟨by decide, by decide⟩ (by decide) ?_
      exact r_iret d_X11_steps_14 rfl rfl (Nat.le_refl 0) (Nat.le_refl 0) ⟨_, rfl, rfl, rfl, h⟩
    · have h := h.2 hc
      show WP l mX11_steps (rm d 0 0) noX _ 0 0 9 [(2, t), (0, x1), (3, 0)] [(0, 1)] N Λ τ1
      refine r_if_ne (tgt := 15) d_X11_steps_9 rfl (fun _ => ?_) (fun hc => absurd hc (by decide))
      refine r_aload_n (x := t) d_X11_steps_15 rfl o_t.1 ?_
      refine r_getf (j := 5) (t := 2) (x := t_straightener) d_X11_steps_16 kX11 (by decide) fl_X11_41 o_t.1 o_t.2.1 o_t.2.2.1 o_t.2.2.2 rfl f_t_straightener ?_
      refine r_aload_n (x := t) d_X11_steps_19 rfl o_t.1 ?_
      refine r_getf (j := 0) (t := 2) (x := t_now) d_X11_steps_20 kX11 (by decide) fl_X11_10 o_t.1 o_t.2.1 o_t.2.2.1 o_t.2.2.2 rfl f_t_now ?_
      refine r_getf (j := 0) (t := 2) (x := t_now_shelves) d_X11_steps_23 kX7 (by decide) fl_X11_146 o_t_now.1 o_t_now.2.1 o_t_now.2.2.1 o_t_now.2.2.2 rfl f_t_now_shelves ?_
      refine r_iload_n (x := x1) d_X11_steps_26 rfl ?_
      refine x_aald (t := 3) (by decide) d_X11_steps_27 h.1 (fun b2 eb2 => ?_)
      have h := h.2 b2 eb2
      have oob2 := h.1
      have h := h.2
      refine r_aload_n (x := t) d_X11_steps_28 rfl o_t.1 ?_
      refine r_getf (j := 11) (t := 2) (x := t_work) d_X11_steps_29 kX11 (by decide) fl_X11_83 o_t.1 o_t.2.1 o_t.2.2.1 o_t.2.2.2 rfl f_t_work ?_
      refine x_callVI (Y2 := mX8_straighten) (c := t_straightener) (As := [(2, b2), (2, t_work)]) (S := []) d_X11_steps_32 ok_mX8_straighten ml_X11_212 rfl (Nat.le_of_ble_eq_true rfl) (Nat.le_of_ble_eq_true rfl) rfl hd_1 kX8 o_t_straightener (CI.mono h (fun v4 σ3 h => ?_))
      refine r_istore_n (L2 := [(2, t), (0, x1), (0, v4)]) d_X11_steps_35 (by decide) rfl rfl ?_
      refine r_iload_n (x := v4) d_X11_steps_36 rfl ?_
      refine r_if_ne (tgt := 50) d_X11_steps_37 rfl (fun hc => ?_) (fun hc => ?_)
      · have h := h.1 hc
        refine r_aload_n (x := t) d_X11_steps_50 rfl o_t.1 ?_
        refine r_iload_n (x := v4) d_X11_steps_51 rfl ?_
        refine x_callVI (Y2 := mX11_refused) (c := t) (As := [(0, v4)]) (S := []) d_X11_steps_52 ok_mX11_refused ml_X11_271 rfl (Nat.le_of_ble_eq_true rfl) (Nat.le_of_ble_eq_true rfl) rfl hd_1 kX11 o_t (c_X11_refused (v_X11_refused_0 o_t ?_))
        intro τ5 eτ5
        have h := h τ5 eτ5
        refine ⟨fun hc => ?_, fun hc => ?_⟩
        · have h := h.1 hc
          show WP l mX11_steps (rm d 0 0) noX _ 0 0 55 [(2, t), (0, x1), (0, v4)] [(0, (-4))] N Λ τ5
          exact r_iret d_X11_steps_55 rfl rfl (Nat.le_refl 0) (Nat.le_refl 0) ⟨_, rfl, rfl, rfl, h⟩
        · have h := h.2 hc
          show WP l mX11_steps (rm d 0 0) noX _ 0 0 55 [(2, t), (0, x1), (0, v4)] [(0, (-7))] N Λ τ5
          exact r_iret d_X11_steps_55 rfl rfl (Nat.le_refl 0) (Nat.le_refl 0) ⟨_, rfl, rfl, rfl, h⟩
      · have h := h.2 hc
        refine r_aload_n (x := t) d_X11_steps_40 rfl o_t.1 ?_
        refine r_getf (j := 5) (t := 2) (x := t_straightener) d_X11_steps_41 kX11 (by decide) fl_X11_41 o_t.1 o_t.2.1 o_t.2.2.1 o_t.2.2.2 rfl f_t_straightener ?_
        refine r_getf (j := 0) (t := 0) (x := (σ3 t_straightener 0)) d_X11_steps_44 kX8 (by decide) fl_X11_268 o_t_straightener.1 o_t_straightener.2.1 o_t_straightener.2.2.1 o_t_straightener.2.2.2 rfl rfl ?_
        refine r_goto (tgt := 55) d_X11_steps_47 rfl ?_
        exact r_iret d_X11_steps_55 rfl rfl (Nat.le_refl 0) (Nat.le_refl 0) ⟨_, rfl, rfl, rfl, h⟩
theorem v_X11_left_0 {l : Launch} {d N : Nat} {Λ : Lay} {P : Int → Mem → Prop} {σ : Mem} {x1 t t_now t_now_shelves t_straightener t_work : Int} (o_t : Ob N Λ t 20 14) (f_t_straightener : (Λ t).2.2 5 = t_straightener) (f_t_now : (Λ t).2.2 0 = t_now) (o_t_now : Ob N Λ t_now 16 3) (f_t_now_shelves : (Λ t_now).2.2 0 = t_now_shelves) (f_t_work : (Λ t).2.2 11 = t_work) (o_t_straightener : Ob N Λ t_straightener 17 2) (o_t_work : Ob N Λ t_work 15 3) (h0d : 1 ≤ d)
    (h : (∀ τ1, τ1 = st σ t 13 0 → ((x1 < 0 → P (-2) τ1) ∧ (¬ (x1 < 0) → ((6 ≤ x1 → P (-2) τ1) ∧ (¬ (6 ≤ x1) → (Ix N Λ t_now_shelves 3 x1 ∧ (∀ b2, b2 = (Λ t_now_shelves).2.2 x1 → (Ob N Λ b2 15 3 ∧ (CI l mX8_straighten (d - 1) [(2, t_straightener), (2, b2), (2, t_work)] N Λ τ1 (fun v4 σ3 => ((¬ v4 = 0 → (∀ τ5, τ5 = st σ3 t 13 v4 → ((¬ v4 = 4 → P (-4) τ5) ∧ (v4 = 4 → P (-7) τ5)))) ∧ (v4 = 0 → P (σ3 t_work 2) σ3))))))))))))) :
    WI l mX11_left d P 0 [(2, t), (0, x1), (3, 0)] [] N Λ σ := by
  have hd_1 : 1 ≤ d := Nat.le_trans (by decide) h0d
  refine r_aload_n (x := t) d_X11_left_0 rfl o_t.1 ?_
  refine r_iconst (x := 0) d_X11_left_1 ⟨by decide, by decide⟩ ?_
  refine r_putI (j := 13) d_X11_left_2 kX11 (by decide) fl_X11_90 rfl o_t.1 o_t.2.1 o_t.2.2.1 o_t.2.2.2 rfl ?_
  refine r_nmM (fun τ1 eτ1 => ?_)
  have h := h τ1 eτ1
  refine r_iload_n (x := x1) d_X11_left_5 rfl ?_
  refine x_callSI (Y2 := mX11_isShelf) (As := [(0, x1)]) (S := []) d_X11_left_6 ok_mX11_isShelf ml_X11_143 rfl (Nat.le_of_ble_eq_true rfl) (Nat.le_of_ble_eq_true rfl) rfl hd_1 (c_X11_isShelf (v_X11_isShelf_0 ?_))
  refine ⟨fun hc => ?_, fun hc => ?_⟩
  · have h := h.1 hc
    show WP l mX11_left (rm d 0 0) noX _ 0 0 9 [(2, t), (0, x1), (3, 0)] [(0, 0)] N Λ τ1
    refine r_if_ne (tgt := 15) d_X11_left_9 rfl (fun hc => absurd hc (by decide)) (fun _ => ?_)
    refine r_bipush (x := (-2)) d_X11_left_12 ⟨by decide, by decide⟩ (by decide) ?_
    exact r_iret d_X11_left_14 rfl rfl (Nat.le_refl 0) (Nat.le_refl 0) ⟨_, rfl, rfl, rfl, h⟩
  · have h := h.2 hc
    refine ⟨fun hc => ?_, fun hc => ?_⟩
    · have h := h.1 hc
      show WP l mX11_left (rm d 0 0) noX _ 0 0 9 [(2, t), (0, x1), (3, 0)] [(0, 0)] N Λ τ1
      refine r_if_ne (tgt := 15) d_X11_left_9 rfl (fun hc => absurd hc (by decide)) (fun _ => ?_)
      refine r_bipush (x := (-2)) d_X11_left_12 ⟨by decide, by decide⟩ (by decide) ?_
      exact r_iret d_X11_left_14 rfl rfl (Nat.le_refl 0) (Nat.le_refl 0) ⟨_, rfl, rfl, rfl, h⟩
    · have h := h.2 hc
      show WP l mX11_left (rm d 0 0) noX _ 0 0 9 [(2, t), (0, x1), (3, 0)] [(0, 1)] N Λ τ1
      refine r_if_ne (tgt := 15) d_X11_left_9 rfl (fun _ => ?_) (fun hc => absurd hc (by decide))
      refine r_aload_n (x := t) d_X11_left_15 rfl o_t.1 ?_
      refine r_getf (j := 5) (t := 2) (x := t_straightener) d_X11_left_16 kX11 (by decide) fl_X11_41 o_t.1 o_t.2.1 o_t.2.2.1 o_t.2.2.2 rfl f_t_straightener ?_
      refine r_aload_n (x := t) d_X11_left_19 rfl o_t.1 ?_
      refine r_getf (j := 0) (t := 2) (x := t_now) d_X11_left_20 kX11 (by decide) fl_X11_10 o_t.1 o_t.2.1 o_t.2.2.1 o_t.2.2.2 rfl f_t_now ?_
      refine r_getf (j := 0) (t := 2) (x := t_now_shelves) d_X11_left_23 kX7 (by decide) fl_X11_146 o_t_now.1 o_t_now.2.1 o_t_now.2.2.1 o_t_now.2.2.2 rfl f_t_now_shelves ?_
      refine r_iload_n (x := x1) d_X11_left_26 rfl ?_
      refine x_aald (t := 3) (by decide) d_X11_left_27 h.1 (fun b2 eb2 => ?_)
      have h := h.2 b2 eb2
      have oob2 := h.1
      have h := h.2
      refine r_aload_n (x := t) d_X11_left_28 rfl o_t.1 ?_
      refine r_getf (j := 11) (t := 2) (x := t_work) d_X11_left_29 kX11 (by decide) fl_X11_83 o_t.1 o_t.2.1 o_t.2.2.1 o_t.2.2.2 rfl f_t_work ?_
      refine x_callVI (Y2 := mX8_straighten) (c := t_straightener) (As := [(2, b2), (2, t_work)]) (S := []) d_X11_left_32 ok_mX8_straighten ml_X11_212 rfl (Nat.le_of_ble_eq_true rfl) (Nat.le_of_ble_eq_true rfl) rfl hd_1 kX8 o_t_straightener (CI.mono h (fun v4 σ3 h => ?_))
      refine r_istore_n (L2 := [(2, t), (0, x1), (0, v4)]) d_X11_left_35 (by decide) rfl rfl ?_
      refine r_iload_n (x := v4) d_X11_left_36 rfl ?_
      refine r_if_ne (tgt := 50) d_X11_left_37 rfl (fun hc => ?_) (fun hc => ?_)
      · have h := h.1 hc
        refine r_aload_n (x := t) d_X11_left_50 rfl o_t.1 ?_
        refine r_iload_n (x := v4) d_X11_left_51 rfl ?_
        refine x_callVI (Y2 := mX11_refused) (c := t) (As := [(0, v4)]) (S := []) d_X11_left_52 ok_mX11_refused ml_X11_271 rfl (Nat.le_of_ble_eq_true rfl) (Nat.le_of_ble_eq_true rfl) rfl hd_1 kX11 o_t (c_X11_refused (v_X11_refused_0 o_t ?_))
        intro τ5 eτ5
        have h := h τ5 eτ5
        refine ⟨fun hc => ?_, fun hc => ?_⟩
        · have h := h.1 hc
          show WP l mX11_left (rm d 0 0) noX _ 0 0 55 [(2, t), (0, x1), (0, v4)] [(0, (-4))] N Λ τ5
          exact r_iret d_X11_left_55 rfl rfl (Nat.le_refl 0) (Nat.le_refl 0) ⟨_, rfl, rfl, rfl, h⟩
        · have h := h.2 hc
          show WP l mX11_left (rm d 0 0) noX _ 0 0 55 [(2, t), (0, x1), (0, v4)] [(0, (-7))] N Λ τ5
          exact r_iret d_X11_left_55 rfl rfl (Nat.le_refl 0) (Nat.le_refl 0) ⟨_, rfl, rfl, rfl, h⟩
      · have h := h.2 hc
        refine r_aload_n (x := t) d_X11_left_40 rfl o_t.1 ?_
        refine r_getf (j := 11) (t := 2) (x := t_work) d_X11_left_41 kX11 (by decide) fl_X11_83 o_t.1 o_t.2.1 o_t.2.2.1 o_t.2.2.2 rfl f_t_work ?_
        refine r_getf (j := 2) (t := 0) (x := (σ3 t_work 2)) d_X11_left_44 kX5 (by decide) fl_X11_150 o_t_work.1 o_t_work.2.1 o_t_work.2.2.1 o_t_work.2.2.2 rfl rfl ?_
        refine r_goto (tgt := 55) d_X11_left_47 rfl ?_
        exact r_iret d_X11_left_55 rfl rfl (Nat.le_refl 0) (Nat.le_refl 0) ⟨_, rfl, rfl, rfl, h⟩
