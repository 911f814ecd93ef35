theorem dX8_hiddenOnes_29 : decode cX8_hiddenOnes 29 = .ok (.iinc 2 1, 3) := by decide +kernel
theorem dX8_hiddenOnes_32 : decode cX8_hiddenOnes 32 = .ok (.goto (-28), 3) := by decide +kernel
theorem dX8_hiddenOnes_35 : decode cX8_hiddenOnes 35 = .ok (.iload_n 1, 1) := by decide +kernel
theorem dX8_hiddenOnes_36 : decode cX8_hiddenOnes 36 = .ok (.ireturn, 1) := by decide +kernel
set_option maxRecDepth 20000 in
theorem ggX8_since_X8_changed : GoodIn wsX8_since wsX8_changed := goodIn_r _ [8, 9, 14, 15, 16, 17, 18, 19, 20, 21, 22, 23, 24, 25, 26, 27, 28, 29, 30, 31, 32, 33, 34, 35, 36, 37, 38, 39, 40, 41, 42, 43, 44, 45] (by decide +kernel) (by decide +kernel)
set_option maxRecDepth 20000 in
theorem gX8_since_X8_changed : GoodIn wsX8_since (wsV RX8 89 RX8 yX8_changed wsX8_changed) := goodIn_app (goodIn_of _ (by decide +kernel)) ggX8_since_X8_changed
set_option maxRecDepth 20000 in
theorem ggX8_since_X8_hiddenOnes : GoodIn wsX8_since wsX8_hiddenOnes := goodIn_r _ [13, 1, 2, 14, 15, 16, 17, 18, 19, 20, 21, 22, 23, 24, 25, 26, 27, 28, 29, 30, 31, 32, 33, 34, 35, 36, 37, 38, 39, 40, 41, 42, 43, 44, 45] (by decide +kernel) (by decide +kernel)
set_option maxRecDepth 20000 in
theorem gX8_since_X8_hiddenOnes : GoodIn wsX8_since (wsV RX8 116 RX8 yX8_hiddenOnes wsX8_hiddenOnes) := goodIn_app (goodIn_of _ (by decide +kernel)) ggX8_since_X8_hiddenOnes
theorem dX8_since_0 : decode cX8_since 0 = .ok (.aload_n 0, 1) := by decide +kernel
theorem dX8_since_1 : decode cX8_since 1 = .ok (.invokevirtual 89, 3) := by decide +kernel
theorem dX8_since_4 : decode cX8_since 4 = .ok (.iconst 0, 1) := by decide +kernel
theorem dX8_since_5 : decode cX8_since 5 = .ok (.istore_n 2, 1) := by decide +kernel
theorem dX8_since_6 : decode cX8_since 6 = .ok (.iload_n 2, 1) := by decide +kernel
theorem dX8_since_7 : decode cX8_since 7 = .ok (.aload_n 0, 1) := by decide +kernel
theorem dX8_since_8 : decode cX8_since 8 = .ok (.getfield 92, 3) := by decide +kernel
theorem dX8_since_11 : decode cX8_since 11 = .ok (.if_icmp .ge 30, 3) := by decide +kernel
theorem dX8_since_14 : decode cX8_since 14 = .ok (.aload_n 0, 1) := by decide +kernel
theorem dX8_since_15 : decode cX8_since 15 = .ok (.getfield 26, 3) := by decide +kernel
theorem dX8_since_18 : decode cX8_since 18 = .ok (.iload_n 2, 1) := by decide +kernel
theorem dX8_since_19 : decode cX8_since 19 = .ok (.aload_n 0, 1) := by decide +kernel
theorem dX8_since_20 : decode cX8_since 20 = .ok (.getfield 23, 3) := by decide +kernel
theorem dX8_since_23 : decode cX8_since 23 = .ok (.iload_n 2, 1) := by decide +kernel
theorem dX8_since_24 : decode cX8_since 24 = .ok (.iaload, 1) := by decide +kernel
theorem dX8_since_25 : decode cX8_since 25 = .ok (.iload_n 1, 1) := by decide +kernel
theorem dX8_since_26 : decode cX8_since 26 = .ok (.if_icmp .lt 7, 3) := by decide +kernel
theorem dX8_since_29 : decode cX8_since 29 = .ok (.iconst 1, 1) := by decide +kernel
theorem dX8_since_30 : decode cX8_since 30 = .ok (.goto 4, 3) := by decide +kernel
theorem dX8_since_33 : decode cX8_since 33 = .ok (.iconst 0, 1) := by decide +kernel
theorem dX8_since_34 : decode cX8_since 34 = .ok (.bastore, 1) := by decide +kernel
theorem dX8_since_35 : decode cX8_since 35 = .ok (.iinc 2 1, 3) := by decide +kernel
theorem dX8_since_38 : decode cX8_since 38 = .ok (.goto (-32), 3) := by decide +kernel
theorem dX8_since_41 : decode cX8_since 41 = .ok (.aload_n 0, 1) := by decide +kernel
theorem dX8_since_42 : decode cX8_since 42 = .ok (.invokevirtual 116, 3) := by decide +kernel
theorem dX8_since_45 : decode cX8_since 45 = .ok (.ireturn, 1) := by decide +kernel
theorem dX8_draw_0 : decode cX8_draw 0 = .ok (.aload_n 0, 1) := by decide +kernel
theorem dX8_draw_1 : decode cX8_draw 1 = .ok (.ldc 119, 2) := by decide +kernel
theorem dX8_draw_3 : decode cX8_draw 3 = .ok (.aload_n 0, 1) := by decide +kernel
theorem dX8_draw_4 : decode cX8_draw 4 = .ok (.getfield 120, 3) := by decide +kernel
theorem dX8_draw_7 : decode cX8_draw 7 = .ok (.imul, 1) := by decide +kernel
theorem dX8_draw_8 : decode cX8_draw 8 = .ok (.ldc 123, 2) := by decide +kernel
theorem dX8_draw_10 : decode cX8_draw 10 = .ok (.iadd, 1) := by decide +kernel
theorem dX8_draw_11 : decode cX8_draw 11 = .ok (.putfield 120, 3) := by decide +kernel
theorem dX8_draw_14 : decode cX8_draw 14 = .ok (.aload_n 0, 1) := by decide +kernel
theorem dX8_draw_15 : decode cX8_draw 15 = .ok (.getfield 120, 3) := by decide +kernel
theorem dX8_draw_18 : decode cX8_draw 18 = .ok (.bipush 8, 2) := by decide +kernel
theorem dX8_draw_20 : decode cX8_draw 20 = .ok (.iushr, 1) := by decide +kernel
theorem dX8_draw_21 : decode cX8_draw 21 = .ok (.ireturn, 1) := by decide +kernel
set_option maxRecDepth 20000 in
theorem ggX8_split_X8_changed : GoodIn wsX8_split wsX8_changed := goodIn_r _ [8, 9, 20, 21, 22, 23, 24, 25, 26, 27, 28, 29, 30, 31, 32, 33, 34, 35, 36, 37, 38, 39, 40, 41, 42, 43, 44, 45, 46, 47, 48, 49, 50, 51] (by decide +kernel) (by decide +kernel)
set_option maxRecDepth 20000 in
theorem gX8_split_X8_changed : GoodIn wsX8_split (wsV RX8 89 RX8 yX8_changed wsX8_changed) := goodIn_app (goodIn_of _ (by decide +kernel)) ggX8_split_X8_changed
set_option maxRecDepth 20000 in
theorem ggX8_split_X8_draw : GoodIn wsX8_split wsX8_draw := goodIn_r _ [13, 14, 1, 15, 20, 21, 22, 23, 24, 25, 26, 27, 28, 29, 30, 31, 32, 33, 34, 35, 36, 37, 38, 39, 40, 41, 42, 43, 44, 45, 46, 47, 48, 49, 50, 51] (by decide +kernel) (by decide +kernel)
set_option maxRecDepth 20000 in
theorem gX8_split_X8_draw : GoodIn wsX8_split (wsV RX8 124 RX8 yX8_draw wsX8_draw) := goodIn_app (goodIn_of _ (by decide +kernel)) ggX8_split_X8_draw
set_option maxRecDepth 20000 in
theorem ggX8_split_X8_hiddenOnes : GoodIn wsX8_split wsX8_hiddenOnes := goodIn_r _ [19, 2, 3, 20, 21, 22, 23, 24, 25, 26, 27, 28, 29, 30, 31, 32, 33, 34, 35, 36, 37, 38, 39, 40, 41, 42, 43, 44, 45, 46, 47, 48, 49, 50, 51] (by decide +kernel) (by decide +kernel)
set_option maxRecDepth 20000 in
theorem gX8_split_X8_hiddenOnes : GoodIn wsX8_split (wsV RX8 116 RX8 yX8_hiddenOnes wsX8_hiddenOnes) := goodIn_app (goodIn_of _ (by decide +kernel)) ggX8_split_X8_hiddenOnes
theorem dX8_split_0 : decode cX8_split 0 = .ok (.iload_n 2, 1) := by decide +kernel
theorem dX8_split_1 : decode cX8_split 1 = .ok (.iconst 1, 1) := by decide +kernel
theorem dX8_split_2 : decode cX8_split 2 = .ok (.if_icmp .lt 18, 3) := by decide +kernel
theorem dX8_split_5 : decode cX8_split 5 = .ok (.iload_n 2, 1) := by decide +kernel
theorem dX8_split_6 : decode cX8_split 6 = .ok (.bipush 20, 2) := by decide +kernel
theorem dX8_split_8 : decode cX8_split 8 = .ok (.if_icmp .gt 12, 3) := by decide +kernel
theorem dX8_split_11 : decode cX8_split 11 = .ok (.iload_n 3, 1) := by decide +kernel
theorem dX8_split_12 : decode cX8_split 12 = .ok (.ifCond .lt 8, 3) := by decide +kernel
theorem dX8_split_15 : decode cX8_split 15 = .ok (.iload_n 3, 1) := by decide +kernel
theorem dX8_split_16 : decode cX8_split 16 = .ok (.iload_n 2, 1) := by decide +kernel
theorem dX8_split_17 : decode cX8_split 17 = .ok (.if_icmp .lt 6, 3) := by decide +kernel
theorem dX8_split_20 : decode cX8_split 20 = .ok (.bipush (-2), 2) := by decide +kernel
theorem dX8_split_22 : decode cX8_split 22 = .ok (.ireturn, 1) := by decide +kernel
theorem dX8_split_23 : decode cX8_split 23 = .ok (.aload_n 0, 1) := by decide +kernel
theorem dX8_split_24 : decode cX8_split 24 = .ok (.invokevirtual 89, 3) := by decide +kernel
theorem dX8_split_27 : decode cX8_split 27 = .ok (.aload_n 0, 1) := by decide +kernel
theorem dX8_split_28 : decode cX8_split 28 = .ok (.iload_n 1, 1) := by decide +kernel
theorem dX8_split_29 : decode cX8_split 29 = .ok (.putfield 120, 3) := by decide +kernel
theorem dX8_split_32 : decode cX8_split 32 = .ok (.iconst 0, 1) := by decide +kernel
theorem dX8_split_33 : decode cX8_split 33 = .ok (.istore 4, 2) := by decide +kernel
theorem dX8_split_35 : decode cX8_split 35 = .ok (.iload 4, 2) := by decide +kernel
theorem dX8_split_37 : decode cX8_split 37 = .ok (.aload_n 0, 1) := by decide +kernel
theorem dX8_split_38 : decode cX8_split 38 = .ok (.getfield 92, 3) := by decide +kernel
theorem dX8_split_41 : decode cX8_split 41 = .ok (.if_icmp .ge 31, 3) := by decide +kernel
theorem dX8_split_44 : decode cX8_split 44 = .ok (.aload_n 0, 1) := by decide +kernel
theorem dX8_split_45 : decode cX8_split 45 = .ok (.getfield 26, 3) := by decide +kernel
theorem dX8_split_48 : decode cX8_split 48 = .ok (.iload 4, 2) := by decide +kernel
theorem dX8_split_50 : decode cX8_split 50 = .ok (.aload_n 0, 1) := by decide +kernel
theorem dX8_split_51 : decode cX8_split 51 = .ok (.invokevirtual 124, 3) := by decide +kernel
theorem dX8_split_54 : decode cX8_split 54 = .ok (.iload_n 2, 1) := by decide +kernel
theorem dX8_split_55 : decode cX8_split 55 = .ok (.irem, 1) := by decide +kernel
theorem dX8_split_56 : decode cX8_split 56 = .ok (.iload_n 3, 1) := by decide +kernel
theorem dX8_split_57 : decode cX8_split 57 = .ok (.if_icmp .ne 7, 3) := by decide +kernel
theorem dX8_split_60 : decode cX8_split 60 = .ok (.iconst 1, 1) := by decide +kernel
theorem dX8_split_61 : decode cX8_split 61 = .ok (.goto 4, 3) := by decide +kernel
theorem dX8_split_64 : decode cX8_split 64 = .ok (.iconst 0, 1) := by decide +kernel
theorem dX8_split_65 : decode cX8_split 65 = .ok (.bastore, 1) := by decide +kernel
theorem dX8_split_66 : decode cX8_split 66 = .ok (.iinc 4 1, 3) := by decide +kernel
theorem dX8_split_69 : decode cX8_split 69 = .ok (.goto (-34), 3) := by decide +kernel
theorem dX8_split_72 : decode cX8_split 72 = .ok (.aload_n 0, 1) := by decide +kernel
theorem dX8_split_73 : decode cX8_split 73 = .ok (.invokevirtual 116, 3) := by decide +kernel
theorem dX8_split_76 : decode cX8_split 76 = .ok (.ireturn, 1) := by decide +kernel
theorem dX8_leads_0 : decode cX8_leads 0 = .ok (.aload_n 0, 1) := by decide +kernel
theorem dX8_leads_1 : decode cX8_leads 1 = .ok (.getfield 13, 3) := by decide +kernel
theorem dX8_leads_4 : decode cX8_leads 4 = .ok (.bipush 12, 2) := by decide +kernel
theorem dX8_leads_6 : decode cX8_leads 6 = .ok (.iload_n 1, 1) := by decide +kernel
theorem dX8_leads_7 : decode cX8_leads 7 = .ok (.imul, 1) := by decide +kernel
theorem dX8_leads_8 : decode cX8_leads 8 = .ok (.iload_n 2, 1) := by decide +kernel
theorem dX8_leads_9 : decode cX8_leads 9 = .ok (.iadd, 1) := by decide +kernel
theorem dX8_leads_10 : decode cX8_leads 10 = .ok (.iaload, 1) := by decide +kernel
theorem dX8_leads_11 : decode cX8_leads 11 = .ok (.istore_n 3, 1) := by decide +kernel
theorem dX8_leads_12 : decode cX8_leads 12 = .ok (.iload_n 3, 1) := by decide +kernel
theorem dX8_leads_13 : decode cX8_leads 13 = .ok (.ifCond .le 18, 3) := by decide +kernel
theorem dX8_leads_16 : decode cX8_leads 16 = .ok (.aload_n 0, 1) := by decide +kernel
theorem dX8_leads_17 : decode cX8_leads 17 = .ok (.getfield 26, 3) := by decide +kernel
theorem dX8_leads_20 : decode cX8_leads 20 = .ok (.iload_n 3, 1) := by decide +kernel
theorem dX8_leads_21 : decode cX8_leads 21 = .ok (.iconst 1, 1) := by decide +kernel
theorem dX8_leads_22 : decode cX8_leads 22 = .ok (.isub, 1) := by decide +kernel
theorem dX8_leads_23 : decode cX8_leads 23 = .ok (.baload, 1) := by decide +kernel
theorem dX8_leads_24 : decode cX8_leads 24 = .ok (.ifCond .ne 7, 3) := by decide +kernel
theorem dX8_leads_27 : decode cX8_leads 27 = .ok (.iconst 1, 1) := by decide +kernel
theorem dX8_leads_28 : decode cX8_leads 28 = .ok (.goto 4, 3) := by decide +kernel
theorem dX8_leads_31 : decode cX8_leads 31 = .ok (.iconst 0, 1) := by decide +kernel
theorem dX8_leads_32 : decode cX8_leads 32 = .ok (.ireturn, 1) := by decide +kernel
set_option maxRecDepth 20000 in
theorem ggX8_isCandidate_X8_leads : GoodIn wsX8_isCandidate wsX8_leads := goodIn_r _ [5, 6, 7, 8, 9, 10, 11, 12, 13, 14, 15, 16, 17, 18, 19, 20, 21, 22, 23, 24, 25, 26, 27, 28, 29, 30, 31, 32, 33, 34, 35, 36, 37, 38, 39] (by decide +kernel) (by decide +kernel)
set_option maxRecDepth 20000 in
theorem gX8_isCandidate_X8_leads : GoodIn wsX8_isCandidate (wsV RX8 127 RX8 yX8_leads wsX8_leads) := goodIn_app (goodIn_of _ (by decide +kernel)) ggX8_isCandidate_X8_leads
theorem dX8_isCandidate_0 : decode cX8_isCandidate 0 = .ok (.aload_n 0, 1) := by decide +kernel
theorem dX8_isCandidate_1 : decode cX8_isCandidate 1 = .ok (.iload_n 1, 1) := by decide +kernel
theorem dX8_isCandidate_2 : decode cX8_isCandidate 2 = .ok (.iload_n 2, 1) := by decide +kernel
theorem dX8_isCandidate_3 : decode cX8_isCandidate 3 = .ok (.invokevirtual 127, 3) := by decide +kernel
theorem dX8_isCandidate_6 : decode cX8_isCandidate 6 = .ok (.ifCond .ne 7, 3) := by decide +kernel
theorem dX8_isCandidate_9 : decode cX8_isCandidate 9 = .ok (.iconst 1, 1) := by decide +kernel
theorem dX8_isCandidate_10 : decode cX8_isCandidate 10 = .ok (.goto 4, 3) := by decide +kernel
theorem dX8_isCandidate_13 : decode cX8_isCandidate 13 = .ok (.iconst 0, 1) := by decide +kernel
theorem dX8_isCandidate_14 : decode cX8_isCandidate 14 = .ok (.ireturn, 1) := by decide +kernel
theorem dX8_isFound_0 : decode cX8_isFound 0 = .ok (.aload_n 0, 1) := by decide +kernel
theorem dX8_isFound_1 : decode cX8_isFound 1 = .ok (.getfield 13, 3) := by decide +kernel
theorem dX8_isFound_4 : decode cX8_isFound 4 = .ok (.bipush 12, 2) := by decide +kernel
theorem dX8_isFound_6 : decode cX8_isFound 6 = .ok (.iload_n 1, 1) := by decide +kernel
theorem dX8_isFound_7 : decode cX8_isFound 7 = .ok (.imul, 1) := by decide +kernel
theorem dX8_isFound_8 : decode cX8_isFound 8 = .ok (.iload_n 2, 1) := by decide +kernel
theorem dX8_isFound_9 : decode cX8_isFound 9 = .ok (.iadd, 1) := by decide +kernel
theorem dX8_isFound_10 : decode cX8_isFound 10 = .ok (.iaload, 1) := by decide +kernel
theorem dX8_isFound_11 : decode cX8_isFound 11 = .ok (.istore_n 3, 1) := by decide +kernel
theorem dX8_isFound_12 : decode cX8_isFound 12 = .ok (.iload_n 3, 1) := by decide +kernel
theorem dX8_isFound_13 : decode cX8_isFound 13 = .ok (.ifCond .le 18, 3) := by decide +kernel
theorem dX8_isFound_16 : decode cX8_isFound 16 = .ok (.aload_n 0, 1) := by decide +kernel
theorem dX8_isFound_17 : decode cX8_isFound 17 = .ok (.getfield 26, 3) := by decide +kernel
theorem dX8_isFound_20 : decode cX8_isFound 20 = .ok (.iload_n 3, 1) := by decide +kernel
theorem dX8_isFound_21 : decode cX8_isFound 21 = .ok (.iconst 1, 1) := by decide +kernel
theorem dX8_isFound_22 : decode cX8_isFound 22 = .ok (.isub, 1) := by decide +kernel
theorem dX8_isFound_23 : decode cX8_isFound 23 = .ok (.baload, 1) := by decide +kernel
theorem dX8_isFound_24 : decode cX8_isFound 24 = .ok (.ifCond .eq 7, 3) := by decide +kernel
theorem dX8_isFound_27 : decode cX8_isFound 27 = .ok (.iconst 1, 1) := by decide +kernel
theorem dX8_isFound_28 : decode cX8_isFound 28 = .ok (.goto 4, 3) := by decide +kernel
theorem dX8_isFound_31 : decode cX8_isFound 31 = .ok (.iconst 0, 1) := by decide +kernel
theorem dX8_isFound_32 : decode cX8_isFound 32 = .ok (.ireturn, 1) := by decide +kernel
set_option maxRecDepth 20000 in
theorem ggX8_count_X8_pairs : GoodIn wsX8_count wsX8_pairs := goodIn_r _ [7, 1, 8, 9, 10, 6, 11, 12, 107, 108, 109, 110, 111, 112, 113, 114, 115, 116, 117, 118, 119, 120, 121, 122, 123, 124, 125, 126, 127, 128, 129, 130, 131, 132, 133, 134, 135, 136, 137, 138] (by decide +kernel) (by decide +kernel)
set_option maxRecDepth 20000 in
theorem gX8_count_X8_pairs : GoodIn wsX8_count (wsV RX8 101 RX8 yX8_pairs wsX8_pairs) := goodIn_app (goodIn_of _ (by decide +kernel)) ggX8_count_X8_pairs
set_option maxRecDepth 20000 in
theorem ggX8_count_X8_hiddenOnes : GoodIn wsX8_count wsX8_hiddenOnes := goodIn_r _ [16, 2, 17, 107, 108, 109, 110, 111, 112, 113, 114, 115, 116, 117, 118, 119, 120, 121, 122, 123, 124, 125, 126, 127, 128, 129, 130, 131, 132, 133, 134, 135, 136, 137, 138] (by decide +kernel) (by decide +kernel)
set_option maxRecDepth 20000 in
theorem gX8_count_X8_hiddenOnes : GoodIn wsX8_count (wsV RX8 116 RX8 yX8_hiddenOnes wsX8_hiddenOnes) := goodIn_app (goodIn_of _ (by decide +kernel)) ggX8_count_X8_hiddenOnes
set_option maxRecDepth 20000 in
theorem ggX8_count_X8_rank : GoodIn wsX8_count wsX8_rank := goodIn_r _ [21, 1, 22, 23, 24, 25, 26, 8, 9, 10, 6, 11, 12, 27, 28, 29, 30, 31, 32, 33, 34, 35, 17, 36, 37, 38, 39, 40, 41, 42, 43, 44, 45, 46, 47, 48, 49, 50, 51, 52, 53, 54, 55, 56, 57, 58, 59, 60, 61, 62, 63, 64, 65, 66, 67, 68, 69, 70, 71, 72, 73, 74, 75, 76, 77, 78, 79, 80, 81, 82, 83, 84, 85, 86, 87, 88, 89, 90, 91, 92, 93, 94, 95, 96, 97, 98, 99, 100, 101, 102, 103, 104, 105, 106, 107, 108, 109, 110, 111, 112, 113, 114, 115, 116, 117, 118, 119, 120, 121, 122, 123, 124, 125, 126, 127, 128, 129, 130, 131, 132, 133, 134, 135, 136, 137, 138] (by decide +kernel) (by decide +kernel)
set_option maxRecDepth 20000 in
theorem gX8_count_X8_rank : GoodIn wsX8_count (wsV RX8 130 RX8 yX8_rank wsX8_rank) := goodIn_app (goodIn_of _ (by decide +kernel)) ggX8_count_X8_rank
theorem dX8_count_0 : decode cX8_count 0 = .ok (.iload_n 1, 1) := by decide +kernel
theorem dX8_count_1 : decode cX8_count 1 = .ok (.tableswitch 60 0 4 #[35, 40, 45, 50, 55], 35) := by decide +kernel
theorem dX8_count_36 : decode cX8_count 36 = .ok (.aload_n 0, 1) := by decide +kernel
theorem dX8_count_37 : decode cX8_count 37 = .ok (.getfield 7, 3) := by decide +kernel
theorem dX8_count_40 : decode cX8_count 40 = .ok (.ireturn, 1) := by decide +kernel
theorem dX8_count_41 : decode cX8_count 41 = .ok (.aload_n 0, 1) := by decide +kernel
theorem dX8_count_42 : decode cX8_count 42 = .ok (.invokevirtual 101, 3) := by decide +kernel
theorem dX8_count_45 : decode cX8_count 45 = .ok (.ireturn, 1) := by decide +kernel
theorem dX8_count_46 : decode cX8_count 46 = .ok (.aload_n 0, 1) := by decide +kernel
theorem dX8_count_47 : decode cX8_count 47 = .ok (.getfield 92, 3) := by decide +kernel
theorem dX8_count_50 : decode cX8_count 50 = .ok (.ireturn, 1) := by decide +kernel
theorem dX8_count_51 : decode cX8_count 51 = .ok (.aload_n 0, 1) := by decide +kernel
theorem dX8_count_52 : decode cX8_count 52 = .ok (.invokevirtual 116, 3) := by decide +kernel
theorem dX8_count_55 : decode cX8_count 55 = .ok (.ireturn, 1) := by decide +kernel
theorem dX8_count_56 : decode cX8_count 56 = .ok (.aload_n 0, 1) := by decide +kernel
theorem dX8_count_57 : decode cX8_count 57 = .ok (.invokevirtual 130, 3) := by decide +kernel
theorem dX8_count_60 : decode cX8_count 60 = .ok (.ireturn, 1) := by decide +kernel
theorem dX8_count_61 : decode cX8_count 61 = .ok (.bipush (-2), 2) := by decide +kernel
theorem dX8_count_63 : decode cX8_count 63 = .ok (.ireturn, 1) := by decide +kernel
set_option maxRecDepth 20000 in
theorem ggX8_paths_X8_changed : GoodIn wsX8_paths wsX8_changed := goodIn_r _ [8, 9, 10, 11, 12, 13, 14, 15, 16, 17, 18, 19, 20, 21, 22, 23, 24, 25, 26, 27, 28, 29, 30, 31, 32, 33, 34, 35, 36, 37, 38, 39, 40, 41] (by decide +kernel) (by decide +kernel)
set_option maxRecDepth 20000 in
theorem gX8_paths_X8_changed : GoodIn wsX8_paths (wsV RX8 89 RX8 yX8_changed wsX8_changed) := goodIn_app (goodIn_of _ (by decide +kernel)) ggX8_paths_X8_changed
theorem dX8_paths_0 : decode cX8_paths 0 = .ok (.iload_n 1, 1) := by decide +kernel
theorem dX8_paths_1 : decode cX8_paths 1 = .ok (.ifCond .lt 29, 3) := by decide +kernel
theorem dX8_paths_4 : decode cX8_paths 4 = .ok (.iload_n 1, 1) := by decide +kernel
theorem dX8_paths_5 : decode cX8_paths 5 = .ok (.bipush 9, 2) := by decide +kernel
theorem dX8_paths_7 : decode cX8_paths 7 = .ok (.if_icmp .gt 23, 3) := by decide +kernel
theorem dX8_paths_10 : decode cX8_paths 10 = .ok (.iload_n 2, 1) := by decide +kernel
theorem dX8_paths_11 : decode cX8_paths 11 = .ok (.ifCond .lt 19, 3) := by decide +kernel
theorem dX8_paths_14 : decode cX8_paths 14 = .ok (.iload_n 2, 1) := by decide +kernel
theorem dX8_paths_15 : decode cX8_paths 15 = .ok (.bipush 9, 2) := by decide +kernel
theorem dX8_paths_17 : decode cX8_paths 17 = .ok (.if_icmp .gt 13, 3) := by decide +kernel
theorem dX8_paths_20 : decode cX8_paths 20 = .ok (.iload_n 3, 1) := by decide +kernel
theorem dX8_paths_21 : decode cX8_paths 21 = .ok (.iconst 1, 1) := by decide +kernel
theorem dX8_paths_22 : decode cX8_paths 22 = .ok (.if_icmp .lt 8, 3) := by decide +kernel
theorem dX8_paths_25 : decode cX8_paths 25 = .ok (.iload_n 3, 1) := by decide +kernel
theorem dX8_paths_26 : decode cX8_paths 26 = .ok (.iconst 2, 1) := by decide +kernel
theorem dX8_paths_27 : decode cX8_paths 27 = .ok (.if_icmp .le 6, 3) := by decide +kernel
theorem dX8_paths_30 : decode cX8_paths 30 = .ok (.bipush (-2), 2) := by decide +kernel
theorem dX8_paths_32 : decode cX8_paths 32 = .ok (.ireturn, 1) := by decide +kernel
theorem dX8_paths_33 : decode cX8_paths 33 = .ok (.aload_n 0, 1) := by decide +kernel
theorem dX8_paths_34 : decode cX8_paths 34 = .ok (.invokevirtual 89, 3) := by decide +kernel
theorem dX8_paths_37 : decode cX8_paths 37 = .ok (.aload_n 0, 1) := by decide +kernel
theorem dX8_paths_38 : decode cX8_paths 38 = .ok (.iload_n 1, 1) := by decide +kernel
theorem dX8_paths_39 : decode cX8_paths 39 = .ok (.putfield 36, 3) := by decide +kernel
theorem dX8_paths_42 : decode cX8_paths 42 = .ok (.aload_n 0, 1) := by decide +kernel
theorem dX8_paths_43 : decode cX8_paths 43 = .ok (.iload_n 2, 1) := by decide +kernel
theorem dX8_paths_44 : decode cX8_paths 44 = .ok (.putfield 39, 3) := by decide +kernel
theorem dX8_paths_47 : decode cX8_paths 47 = .ok (.aload_n 0, 1) := by decide +kernel
theorem dX8_paths_48 : decode cX8_paths 48 = .ok (.iload_n 3, 1) := by decide +kernel
theorem dX8_paths_49 : decode cX8_paths 49 = .ok (.putfield 42, 3) := by decide +kernel
theorem dX8_paths_52 : decode cX8_paths 52 = .ok (.iconst 1, 1) := by decide +kernel
theorem dX8_paths_53 : decode cX8_paths 53 = .ok (.ireturn, 1) := by decide +kernel
theorem dX8_isMeasure_0 : decode cX8_isMeasure 0 = .ok (.iload_n 0, 1) := by decide +kernel
theorem dX8_isMeasure_1 : decode cX8_isMeasure 1 = .ok (.ifCond .lt 13, 3) := by decide +kernel
theorem dX8_isMeasure_4 : decode cX8_isMeasure 4 = .ok (.iload_n 0, 1) := by decide +kernel
theorem dX8_isMeasure_5 : decode cX8_isMeasure 5 = .ok (.bipush 10, 2) := by decide +kernel
theorem dX8_isMeasure_7 : decode cX8_isMeasure 7 = .ok (.if_icmp .gt 7, 3) := by decide +kernel
theorem dX8_isMeasure_10 : decode cX8_isMeasure 10 = .ok (.iconst 1, 1) := by decide +kernel
theorem dX8_isMeasure_11 : decode cX8_isMeasure 11 = .ok (.goto 4, 3) := by decide +kernel
theorem dX8_isMeasure_14 : decode cX8_isMeasure 14 = .ok (.iconst 0, 1) := by decide +kernel
theorem dX8_isMeasure_15 : decode cX8_isMeasure 15 = .ok (.ireturn, 1) := by decide +kernel
set_option maxRecDepth 20000 in
theorem ggX8_weigh_X8_isMeasure : GoodIn wsX8_weigh wsX8_isMeasure := goodIn_r _ [5] (by decide +kernel) (by decide +kernel)
set_option maxRecDepth 20000 in
theorem gX8_weigh_X8_isMeasure : GoodIn wsX8_weigh (va_wsS RX8 133 yX8_isMeasure wsX8_isMeasure) := goodIn_app (goodIn_of _ (by decide +kernel)) ggX8_weigh_X8_isMeasure
theorem dX8_weigh_0 : decode cX8_weigh 0 = .ok (.iload_n 1, 1) := by decide +kernel
theorem dX8_weigh_1 : decode cX8_weigh 1 = .ok (.invokestatic 133, 3) := by decide +kernel
theorem dX8_weigh_4 : decode cX8_weigh 4 = .ok (.ifCond .eq 15, 3) := by decide +kernel
theorem dX8_weigh_7 : decode cX8_weigh 7 = .ok (.iload_n 2, 1) := by decide +kernel
theorem dX8_weigh_8 : decode cX8_weigh 8 = .ok (.bipush (-99), 2) := by decide +kernel
theorem dX8_weigh_10 : decode cX8_weigh 10 = .ok (.if_icmp .lt 9, 3) := by decide +kernel
theorem dX8_weigh_13 : decode cX8_weigh 13 = .ok (.iload_n 2, 1) := by decide +kernel
theorem dX8_weigh_14 : decode cX8_weigh 14 = .ok (.bipush 99, 2) := by decide +kernel
theorem dX8_weigh_16 : decode cX8_weigh 16 = .ok (.if_icmp .le 6, 3) := by decide +kernel
theorem dX8_weigh_19 : decode cX8_weigh 19 = .ok (.bipush (-2), 2) := by decide +kernel
theorem dX8_weigh_21 : decode cX8_weigh 21 = .ok (.ireturn, 1) := by decide +kernel
theorem dX8_weigh_22 : decode cX8_weigh 22 = .ok (.aload_n 0, 1) := by decide +kernel
theorem dX8_weigh_23 : decode cX8_weigh 23 = .ok (.getfield 33, 3) := by decide +kernel
theorem dX8_weigh_26 : decode cX8_weigh 26 = .ok (.iload_n 1, 1) := by decide +kernel
theorem dX8_weigh_27 : decode cX8_weigh 27 = .ok (.iaload, 1) := by decide +kernel
theorem dX8_weigh_28 : decode cX8_weigh 28 = .ok (.bipush 100, 2) := by decide +kernel
theorem dX8_weigh_30 : decode cX8_weigh 30 = .ok (.iadd, 1) := by decide +kernel
theorem dX8_weigh_31 : decode cX8_weigh 31 = .ok (.istore_n 3, 1) := by decide +kernel
theorem dX8_weigh_32 : decode cX8_weigh 32 = .ok (.aload_n 0, 1) := by decide +kernel
theorem dX8_weigh_33 : decode cX8_weigh 33 = .ok (.getfield 33, 3) := by decide +kernel
theorem dX8_weigh_36 : decode cX8_weigh 36 = .ok (.iload_n 1, 1) := by decide +kernel
theorem dX8_weigh_37 : decode cX8_weigh 37 = .ok (.iload_n 2, 1) := by decide +kernel
theorem dX8_weigh_38 : decode cX8_weigh 38 = .ok (.iastore, 1) := by decide +kernel
theorem dX8_weigh_39 : decode cX8_weigh 39 = .ok (.iload_n 3, 1) := by decide +kernel
theorem dX8_weigh_40 : decode cX8_weigh 40 = .ok (.ireturn, 1) := by decide +kernel
set_option maxRecDepth 20000 in
theorem ggX8_weight_X8_isMeasure : GoodIn wsX8_weight wsX8_isMeasure := goodIn_r _ [5] (by decide +kernel) (by decide +kernel)
set_option maxRecDepth 20000 in
theorem gX8_weight_X8_isMeasure : GoodIn wsX8_weight (va_wsS RX8 133 yX8_isMeasure wsX8_isMeasure) := goodIn_app (goodIn_of _ (by decide +kernel)) ggX8_weight_X8_isMeasure
theorem dX8_weight_0 : decode cX8_weight 0 = .ok (.iload_n 1, 1) := by decide +kernel
theorem dX8_weight_1 : decode cX8_weight 1 = .ok (.invokestatic 133, 3) := by decide +kernel
theorem dX8_weight_4 : decode cX8_weight 4 = .ok (.ifCond .eq 15, 3) := by decide +kernel
theorem dX8_weight_7 : decode cX8_weight 7 = .ok (.aload_n 0, 1) := by decide +kernel
theorem dX8_weight_8 : decode cX8_weight 8 = .ok (.getfield 33, 3) := by decide +kernel
theorem dX8_weight_11 : decode cX8_weight 11 = .ok (.iload_n 1, 1) := by decide +kernel
theorem dX8_weight_12 : decode cX8_weight 12 = .ok (.iaload, 1) := by decide +kernel
theorem dX8_weight_13 : decode cX8_weight 13 = .ok (.bipush 100, 2) := by decide +kernel
theorem dX8_weight_15 : decode cX8_weight 15 = .ok (.iadd, 1) := by decide +kernel
theorem dX8_weight_16 : decode cX8_weight 16 = .ok (.goto 5, 3) := by decide +kernel
theorem dX8_weight_19 : decode cX8_weight 19 = .ok (.bipush (-2), 2) := by decide +kernel
theorem dX8_weight_21 : decode cX8_weight 21 = .ok (.ireturn, 1) := by decide +kernel
theorem dX8_common_0 : decode cX8_common 0 = .ok (.lload_n 0, 1) := by decide +kernel
theorem dX8_common_1 : decode cX8_common 1 = .ok (.lconst 0, 1) := by decide +kernel
theorem dX8_common_2 : decode cX8_common 2 = .ok (.lcmp, 1) := by decide +kernel
theorem dX8_common_3 : decode cX8_common 3 = .ok (.ifCond .ge 8, 3) := by decide +kernel
theorem dX8_common_6 : decode cX8_common 6 = .ok (.lload_n 0, 1) := by decide +kernel
theorem dX8_common_7 : decode cX8_common 7 = .ok (.lneg, 1) := by decide +kernel
theorem dX8_common_8 : decode cX8_common 8 = .ok (.goto 4, 3) := by decide +kernel
theorem dX8_common_11 : decode cX8_common 11 = .ok (.lload_n 0, 1) := by decide +kernel
theorem dX8_common_12 : decode cX8_common 12 = .ok (.lstore 4, 2) := by decide +kernel
theorem dX8_common_14 : decode cX8_common 14 = .ok (.lload_n 2, 1) := by decide +kernel
theorem dX8_common_15 : decode cX8_common 15 = .ok (.lstore 6, 2) := by decide +kernel
theorem dX8_common_17 : decode cX8_common 17 = .ok (.lload 6, 2) := by decide +kernel
theorem dX8_common_19 : decode cX8_common 19 = .ok (.lconst 0, 1) := by decide +kernel
theorem dX8_common_20 : decode cX8_common 20 = .ok (.lcmp, 1) := by decide +kernel
theorem dX8_common_21 : decode cX8_common 21 = .ok (.ifCond .eq 21, 3) := by decide +kernel
theorem dX8_common_24 : decode cX8_common 24 = .ok (.lload 4, 2) := by decide +kernel
theorem dX8_common_26 : decode cX8_common 26 = .ok (.lload 6, 2) := by decide +kernel
theorem dX8_common_28 : decode cX8_common 28 = .ok (.lrem, 1) := by decide +kernel
theorem dX8_common_29 : decode cX8_common 29 = .ok (.lstore 8, 2) := by decide +kernel
theorem dX8_common_31 : decode cX8_common 31 = .ok (.lload 6, 2) := by decide +kernel
theorem dX8_common_33 : decode cX8_common 33 = .ok (.lstore 4, 2) := by decide +kernel
theorem dX8_common_35 : decode cX8_common 35 = .ok (.lload 8, 2) := by decide +kernel
theorem dX8_common_37 : decode cX8_common 37 = .ok (.lstore 6, 2) := by decide +kernel
theorem dX8_common_39 : decode cX8_common 39 = .ok (.goto (-22), 3) := by decide +kernel
theorem dX8_common_42 : decode cX8_common 42 = .ok (.lload 4, 2) := by decide +kernel
theorem dX8_common_44 : decode cX8_common 44 = .ok (.lreturn, 1) := by decide +kernel
set_option maxRecDepth 20000 in
theorem ggX8_make_X8_common : GoodIn wsX8_make wsX8_common := goodIn_r _ [6] (by decide +kernel) (by decide +kernel)
set_option maxRecDepth 20000 in
theorem gX8_make_X8_common : GoodIn wsX8_make (va_wsS RX8 142 yX8_common wsX8_common) := goodIn_app (goodIn_of _ (by decide +kernel)) ggX8_make_X8_common
theorem dX8_make_0 : decode cX8_make 0 = .ok (.lload_n 3, 1) := by decide +kernel
theorem dX8_make_1 : decode cX8_make 1 = .ok (.lconst 0, 1) := by decide +kernel
theorem dX8_make_2 : decode cX8_make 2 = .ok (.lcmp, 1) := by decide +kernel
theorem dX8_make_3 : decode cX8_make 3 = .ok (.ifCond .ne 14, 3) := by decide +kernel
theorem dX8_make_6 : decode cX8_make 6 = .ok (.aload_n 0, 1) := by decide +kernel
theorem dX8_make_7 : decode cX8_make 7 = .ok (.lconst 0, 1) := by decide +kernel
theorem dX8_make_8 : decode cX8_make 8 = .ok (.putfield 136, 3) := by decide +kernel
theorem dX8_make_11 : decode cX8_make 11 = .ok (.aload_n 0, 1) := by decide +kernel
theorem dX8_make_12 : decode cX8_make 12 = .ok (.lconst 1, 1) := by decide +kernel
theorem dX8_make_13 : decode cX8_make 13 = .ok (.putfield 139, 3) := by decide +kernel
theorem dX8_make_16 : decode cX8_make 16 = .ok (.return_, 1) := by decide +kernel
theorem dX8_make_17 : decode cX8_make 17 = .ok (.lload_n 1, 1) := by decide +kernel
theorem dX8_make_18 : decode cX8_make 18 = .ok (.lload_n 3, 1) := by decide +kernel
theorem dX8_make_19 : decode cX8_make 19 = .ok (.invokestatic 142, 3) := by decide +kernel
theorem dX8_make_22 : decode cX8_make 22 = .ok (.lstore 5, 2) := by decide +kernel
theorem dX8_make_24 : decode cX8_make 24 = .ok (.aload_n 0, 1) := by decide +kernel
theorem dX8_make_25 : decode cX8_make 25 = .ok (.lload_n 1, 1) := by decide +kernel
theorem dX8_make_26 : decode cX8_make 26 = .ok (.lload 5, 2) := by decide +kernel
theorem dX8_make_28 : decode cX8_make 28 = .ok (.ldiv, 1) := by decide +kernel
theorem dX8_make_29 : decode cX8_make 29 = .ok (.putfield 136, 3) := by decide +kernel
theorem dX8_make_32 : decode cX8_make 32 = .ok (.aload_n 0, 1) := by decide +kernel
theorem dX8_make_33 : decode cX8_make 33 = .ok (.lload_n 3, 1) := by decide +kernel
theorem dX8_make_34 : decode cX8_make 34 = .ok (.lload 5, 2) := by decide +kernel
theorem dX8_make_36 : decode cX8_make 36 = .ok (.ldiv, 1) := by decide +kernel
theorem dX8_make_37 : decode cX8_make 37 = .ok (.putfield 139, 3) := by decide +kernel
theorem dX8_make_40 : decode cX8_make 40 = .ok (.return_, 1) := by decide +kernel
set_option maxRecDepth 20000 in
theorem ggX8_plus_X8_common : GoodIn wsX8_plus wsX8_common := goodIn_r _ [6] (by decide +kernel) (by decide +kernel)
set_option maxRecDepth 20000 in
theorem gX8_plus_X8_common : GoodIn wsX8_plus (va_wsS RX8 142 yX8_common wsX8_common) := goodIn_app (goodIn_of _ (by decide +kernel)) ggX8_plus_X8_common
set_option maxRecDepth 20000 in
theorem ggX8_plus_X8_make : GoodIn wsX8_plus wsX8_make := goodIn_r _ [10, 2, 1, 3, 4, 5, 6, 11, 12, 13, 14, 15, 16, 17, 18, 19, 20, 21, 22, 23, 24, 25, 26, 27, 28, 29, 30, 31, 32, 33, 34, 35, 36, 37, 38, 39, 40, 41, 42] (by decide +kernel) (by decide +kernel)
set_option maxRecDepth 20000 in
theorem gX8_plus_X8_make : GoodIn wsX8_plus (wsV RX8 146 RX8 yX8_make wsX8_make) := goodIn_app (goodIn_of _ (by decide +kernel)) ggX8_plus_X8_make
theorem dX8_plus_0 : decode cX8_plus 0 = .ok (.lload_n 3, 1) := by decide +kernel
theorem dX8_plus_1 : decode cX8_plus 1 = .ok (.aload_n 0, 1) := by decide +kernel
theorem dX8_plus_2 : decode cX8_plus 2 = .ok (.getfield 139, 3) := by decide +kernel
theorem dX8_plus_5 : decode cX8_plus 5 = .ok (.invokestatic 142, 3) := by decide +kernel
theorem dX8_plus_8 : decode cX8_plus 8 = .ok (.lstore 5, 2) := by decide +kernel
theorem dX8_plus_10 : decode cX8_plus 10 = .ok (.aload_n 0, 1) := by decide +kernel
theorem dX8_plus_11 : decode cX8_plus 11 = .ok (.aload_n 0, 1) := by decide +kernel
theorem dX8_plus_12 : decode cX8_plus 12 = .ok (.getfield 136, 3) := by decide +kernel
theorem dX8_plus_15 : decode cX8_plus 15 = .ok (.lload_n 3, 1) := by decide +kernel
theorem dX8_plus_16 : decode cX8_plus 16 = .ok (.lload 5, 2) := by decide +kernel
theorem dX8_plus_18 : decode cX8_plus 18 = .ok (.ldiv, 1) := by decide +kernel
theorem dX8_plus_19 : decode cX8_plus 19 = .ok (.lmul, 1) := by decide +kernel
theorem dX8_plus_20 : decode cX8_plus 20 = .ok (.lload_n 1, 1) := by decide +kernel
theorem dX8_plus_21 : decode cX8_plus 21 = .ok (.aload_n 0, 1) := by decide +kernel
theorem dX8_plus_22 : decode cX8_plus 22 = .ok (.getfield 139, 3) := by decide +kernel
theorem dX8_plus_25 : decode cX8_plus 25 = .ok (.lload 5, 2) := by decide +kernel
theorem dX8_plus_27 : decode cX8_plus 27 = .ok (.ldiv, 1) := by decide +kernel
theorem dX8_plus_28 : decode cX8_plus 28 = .ok (.lmul, 1) := by decide +kernel
theorem dX8_plus_29 : decode cX8_plus 29 = .ok (.ladd, 1) := by decide +kernel
theorem dX8_plus_30 : decode cX8_plus 30 = .ok (.aload_n 0, 1) := by decide +kernel
theorem dX8_plus_31 : decode cX8_plus 31 = .ok (.getfield 139, 3) := by decide +kernel
theorem dX8_plus_34 : decode cX8_plus 34 = .ok (.lload 5, 2) := by decide +kernel
theorem dX8_plus_36 : decode cX8_plus 36 = .ok (.ldiv, 1) := by decide +kernel
theorem dX8_plus_37 : decode cX8_plus 37 = .ok (.lload_n 3, 1) := by decide +kernel
theorem dX8_plus_38 : decode cX8_plus 38 = .ok (.lmul, 1) := by decide +kernel
theorem dX8_plus_39 : decode cX8_plus 39 = .ok (.invokevirtual 146, 3) := by decide +kernel
theorem dX8_plus_42 : decode cX8_plus 42 = .ok (.return_, 1) := by decide +kernel
theorem dX8_show_0 : decode cX8_show 0 = .ok (.aload_n 0, 1) := by decide +kernel
theorem dX8_show_1 : decode cX8_show 1 = .ok (.aload_n 0, 1) := by decide +kernel
theorem dX8_show_2 : decode cX8_show 2 = .ok (.getfield 136, 3) := by decide +kernel
theorem dX8_show_5 : decode cX8_show 5 = .ok (.putfield 95, 3) := by decide +kernel
theorem dX8_show_8 : decode cX8_show 8 = .ok (.aload_n 0, 1) := by decide +kernel
theorem dX8_show_9 : decode cX8_show 9 = .ok (.aload_n 0, 1) := by decide +kernel
theorem dX8_show_10 : decode cX8_show 10 = .ok (.getfield 139, 3) := by decide +kernel
theorem dX8_show_13 : decode cX8_show 13 = .ok (.putfield 55, 3) := by decide +kernel
theorem dX8_show_16 : decode cX8_show 16 = .ok (.return_, 1) := by decide +kernel
theorem dX8_top_0 : decode cX8_top 0 = .ok (.aload_n 0, 1) := by decide +kernel
theorem dX8_top_1 : decode cX8_top 1 = .ok (.getfield 95, 3) := by decide +kernel
theorem dX8_top_4 : decode cX8_top 4 = .ok (.lreturn, 1) := by decide +kernel
theorem dX8_bottom_0 : decode cX8_bottom 0 = .ok (.aload_n 0, 1) := by decide +kernel
theorem dX8_bottom_1 : decode cX8_bottom 1 = .ok (.getfield 55, 3) := by decide +kernel
theorem dX8_bottom_4 : decode cX8_bottom 4 = .ok (.lreturn, 1) := by decide +kernel
set_option maxRecDepth 20000 in
theorem ggX8_outs_X8_leads : GoodIn wsX8_outs wsX8_leads := goodIn_r _ [6, 7, 8, 9, 10, 11, 12, 13, 14, 15, 16, 17, 18, 19, 20, 21, 22, 23, 24, 25, 26, 27, 28, 29, 30, 31, 32, 33, 34, 35, 36, 37, 38, 39, 40] (by decide +kernel) (by decide +kernel)
set_option maxRecDepth 20000 in
theorem gX8_outs_X8_leads : GoodIn wsX8_outs (wsV RX8 127 RX8 yX8_leads wsX8_leads) := goodIn_app (goodIn_of _ (by decide +kernel)) ggX8_outs_X8_leads
theorem dX8_outs_0 : decode cX8_outs 0 = .ok (.iconst 0, 1) := by decide +kernel
theorem dX8_outs_1 : decode cX8_outs 1 = .ok (.istore_n 2, 1) := by decide +kernel
theorem dX8_outs_2 : decode cX8_outs 2 = .ok (.iconst 0, 1) := by decide +kernel
theorem dX8_outs_3 : decode cX8_outs 3 = .ok (.istore_n 3, 1) := by decide +kernel
theorem dX8_outs_4 : decode cX8_outs 4 = .ok (.iload_n 3, 1) := by decide +kernel
theorem dX8_outs_5 : decode cX8_outs 5 = .ok (.aload_n 0, 1) := by decide +kernel
theorem dX8_outs_6 : decode cX8_outs 6 = .ok (.getfield 7, 3) := by decide +kernel
theorem dX8_outs_9 : decode cX8_outs 9 = .ok (.if_icmp .ge 26, 3) := by decide +kernel
theorem dX8_outs_12 : decode cX8_outs 12 = .ok (.iload_n 2, 1) := by decide +kernel
theorem dX8_outs_13 : decode cX8_outs 13 = .ok (.aload_n 0, 1) := by decide +kernel
theorem dX8_outs_14 : decode cX8_outs 14 = .ok (.iload_n 1, 1) := by decide +kernel
theorem dX8_outs_15 : decode cX8_outs 15 = .ok (.iload_n 3, 1) := by decide +kernel
theorem dX8_outs_16 : decode cX8_outs 16 = .ok (.invokevirtual 127, 3) := by decide +kernel
theorem dX8_outs_19 : decode cX8_outs 19 = .ok (.ifCond .eq 7, 3) := by decide +kernel
theorem dX8_outs_22 : decode cX8_outs 22 = .ok (.iconst 1, 1) := by decide +kernel
theorem dX8_outs_23 : decode cX8_outs 23 = .ok (.goto 4, 3) := by decide +kernel
theorem dX8_outs_26 : decode cX8_outs 26 = .ok (.iconst 0, 1) := by decide +kernel
theorem dX8_outs_27 : decode cX8_outs 27 = .ok (.iadd, 1) := by decide +kernel
theorem dX8_outs_28 : decode cX8_outs 28 = .ok (.istore_n 2, 1) := by decide +kernel
theorem dX8_outs_29 : decode cX8_outs 29 = .ok (.iinc 3 1, 3) := by decide +kernel
theorem dX8_outs_32 : decode cX8_outs 32 = .ok (.goto (-28), 3) := by decide +kernel
theorem dX8_outs_35 : decode cX8_outs 35 = .ok (.iload_n 2, 1) := by decide +kernel
theorem dX8_outs_36 : decode cX8_outs 36 = .ok (.ireturn, 1) := by decide +kernel
set_option maxRecDepth 20000 in
theorem ggX8_ins_X8_leads : GoodIn wsX8_ins wsX8_leads := goodIn_r _ [6, 7, 8, 9, 10, 11, 12, 13, 14, 15, 16, 17, 18, 19, 20, 21, 22, 23, 24, 25, 26, 27, 28, 29, 30, 31, 32, 33, 34, 35, 36, 37, 38, 39, 40] (by decide +kernel) (by decide +kernel)
set_option maxRecDepth 20000 in
theorem gX8_ins_X8_leads : GoodIn wsX8_ins (wsV RX8 127 RX8 yX8_leads wsX8_leads) := goodIn_app (goodIn_of _ (by decide +kernel)) ggX8_ins_X8_leads
theorem dX8_ins_0 : decode cX8_ins 0 = .ok (.iconst 0, 1) := by decide +kernel
theorem dX8_ins_1 : decode cX8_ins 1 = .ok (.istore_n 2, 1) := by decide +kernel
theorem dX8_ins_2 : decode cX8_ins 2 = .ok (.iconst 0, 1) := by decide +kernel
theorem dX8_ins_3 : decode cX8_ins 3 = .ok (.istore_n 3, 1) := by decide +kernel
theorem dX8_ins_4 : decode cX8_ins 4 = .ok (.iload_n 3, 1) := by decide +kernel
theorem dX8_ins_5 : decode cX8_ins 5 = .ok (.aload_n 0, 1) := by decide +kernel
theorem dX8_ins_6 : decode cX8_ins 6 = .ok (.getfield 7, 3) := by decide +kernel
theorem dX8_ins_9 : decode cX8_ins 9 = .ok (.if_icmp .ge 26, 3) := by decide +kernel
theorem dX8_ins_12 : decode cX8_ins 12 = .ok (.iload_n 2, 1) := by decide +kernel
theorem dX8_ins_13 : decode cX8_ins 13 = .ok (.aload_n 0, 1) := by decide +kernel
theorem dX8_ins_14 : decode cX8_ins 14 = .ok (.iload_n 3, 1) := by decide +kernel
theorem dX8_ins_15 : decode cX8_ins 15 = .ok (.iload_n 1, 1) := by decide +kernel
theorem dX8_ins_16 : decode cX8_ins 16 = .ok (.invokevirtual 127, 3) := by decide +kernel
theorem dX8_ins_19 : decode cX8_ins 19 = .ok (.ifCond .eq 7, 3) := by decide +kernel
theorem dX8_ins_22 : decode cX8_ins 22 = .ok (.iconst 1, 1) := by decide +kernel
theorem dX8_ins_23 : decode cX8_ins 23 = .ok (.goto 4, 3) := by decide +kernel
theorem dX8_ins_26 : decode cX8_ins 26 = .ok (.iconst 0, 1) := by decide +kernel
theorem dX8_ins_27 : decode cX8_ins 27 = .ok (.iadd, 1) := by decide +kernel
theorem dX8_ins_28 : decode cX8_ins 28 = .ok (.istore_n 2, 1) := by decide +kernel
theorem dX8_ins_29 : decode cX8_ins 29 = .ok (.iinc 3 1, 3) := by decide +kernel
theorem dX8_ins_32 : decode cX8_ins 32 = .ok (.goto (-28), 3) := by decide +kernel
theorem dX8_ins_35 : decode cX8_ins 35 = .ok (.iload_n 2, 1) := by decide +kernel
theorem dX8_ins_36 : decode cX8_ins 36 = .ok (.ireturn, 1) := by decide +kernel
set_option maxRecDepth 20000 in
theorem ggX8_isInB_X8_leads : GoodIn wsX8_isInB wsX8_leads := goodIn_r _ [7, 8, 9, 10, 11, 12, 13, 14, 15, 16, 17, 18, 19, 20, 21, 22, 23, 24, 25, 26, 27, 28, 29, 30, 31, 32, 33, 34, 35, 36, 37, 38, 39, 40, 41] (by decide +kernel) (by decide +kernel)
set_option maxRecDepth 20000 in
theorem gX8_isInB_X8_leads : GoodIn wsX8_isInB (wsV RX8 127 RX8 yX8_leads wsX8_leads) := goodIn_app (goodIn_of _ (by decide +kernel)) ggX8_isInB_X8_leads
theorem dX8_isInB_0 : decode cX8_isInB 0 = .ok (.aload_n 0, 1) := by decide +kernel
theorem dX8_isInB_1 : decode cX8_isInB 1 = .ok (.getfield 98, 3) := by decide +kernel
theorem dX8_isInB_4 : decode cX8_isInB 4 = .ok (.iconst 2, 1) := by decide +kernel
theorem dX8_isInB_5 : decode cX8_isInB 5 = .ok (.if_icmp .ge 10, 3) := by decide +kernel
theorem dX8_isInB_8 : decode cX8_isInB 8 = .ok (.aload_n 0, 1) := by decide +kernel
theorem dX8_isInB_9 : decode cX8_isInB 9 = .ok (.iload_n 1, 1) := by decide +kernel
theorem dX8_isInB_10 : decode cX8_isInB 10 = .ok (.iload_n 2, 1) := by decide +kernel
theorem dX8_isInB_11 : decode cX8_isInB 11 = .ok (.invokevirtual 127, 3) := by decide +kernel
theorem dX8_isInB_14 : decode cX8_isInB 14 = .ok (.ireturn, 1) := by decide +kernel
theorem dX8_isInB_15 : decode cX8_isInB 15 = .ok (.iload_n 1, 1) := by decide +kernel
theorem dX8_isInB_16 : decode cX8_isInB 16 = .ok (.iload_n 2, 1) := by decide +kernel
theorem dX8_isInB_17 : decode cX8_isInB 17 = .ok (.if_icmp .eq 13, 3) := by decide +kernel
theorem dX8_isInB_20 : decode cX8_isInB 20 = .ok (.iload_n 1, 1) := by decide +kernel
theorem dX8_isInB_21 : decode cX8_isInB 21 = .ok (.aload_n 0, 1) := by decide +kernel
theorem dX8_isInB_22 : decode cX8_isInB 22 = .ok (.getfield 7, 3) := by decide +kernel
theorem dX8_isInB_25 : decode cX8_isInB 25 = .ok (.iconst 2, 1) := by decide +kernel
theorem dX8_isInB_26 : decode cX8_isInB 26 = .ok (.idiv, 1) := by decide +kernel
theorem dX8_isInB_27 : decode cX8_isInB 27 = .ok (.if_icmp .ge 5, 3) := by decide +kernel
theorem dX8_isInB_30 : decode cX8_isInB 30 = .ok (.iconst 0, 1) := by decide +kernel
theorem dX8_isInB_31 : decode cX8_isInB 31 = .ok (.ireturn, 1) := by decide +kernel
theorem dX8_isInB_32 : decode cX8_isInB 32 = .ok (.iconst 0, 1) := by decide +kernel
theorem dX8_isInB_33 : decode cX8_isInB 33 = .ok (.istore_n 3, 1) := by decide +kernel
theorem dX8_isInB_34 : decode cX8_isInB 34 = .ok (.iconst 0, 1) := by decide +kernel
theorem dX8_isInB_35 : decode cX8_isInB 35 = .ok (.istore 4, 2) := by decide +kernel
theorem dX8_isInB_37 : decode cX8_isInB 37 = .ok (.iload 4, 2) := by decide +kernel
theorem dX8_isInB_39 : decode cX8_isInB 39 = .ok (.aload_n 0, 1) := by decide +kernel
theorem dX8_isInB_40 : decode cX8_isInB 40 = .ok (.getfield 7, 3) := by decide +kernel
theorem dX8_isInB_43 : decode cX8_isInB 43 = .ok (.iconst 2, 1) := by decide +kernel
theorem dX8_isInB_44 : decode cX8_isInB 44 = .ok (.idiv, 1) := by decide +kernel
theorem dX8_isInB_45 : decode cX8_isInB 45 = .ok (.if_icmp .ge 39, 3) := by decide +kernel
theorem dX8_isInB_48 : decode cX8_isInB 48 = .ok (.iload_n 3, 1) := by decide +kernel
theorem dX8_isInB_49 : decode cX8_isInB 49 = .ok (.ifCond .ne 23, 3) := by decide +kernel
theorem dX8_isInB_52 : decode cX8_isInB 52 = .ok (.aload_n 0, 1) := by decide +kernel
theorem dX8_isInB_53 : decode cX8_isInB 53 = .ok (.iload 4, 2) := by decide +kernel
theorem dX8_isInB_55 : decode cX8_isInB 55 = .ok (.iload_n 2, 1) := by decide +kernel
theorem dX8_isInB_56 : decode cX8_isInB 56 = .ok (.invokevirtual 127, 3) := by decide +kernel
theorem dX8_isInB_59 : decode cX8_isInB 59 = .ok (.ifCond .eq 17, 3) := by decide +kernel
theorem dX8_isInB_62 : decode cX8_isInB 62 = .ok (.aload_n 0, 1) := by decide +kernel
theorem dX8_isInB_63 : decode cX8_isInB 63 = .ok (.iload 4, 2) := by decide +kernel
theorem dX8_isInB_65 : decode cX8_isInB 65 = .ok (.iload_n 1, 1) := by decide +kernel
theorem dX8_isInB_66 : decode cX8_isInB 66 = .ok (.invokevirtual 127, 3) := by decide +kernel
theorem dX8_isInB_69 : decode cX8_isInB 69 = .ok (.ifCond .eq 7, 3) := by decide +kernel
theorem dX8_isInB_72 : decode cX8_isInB 72 = .ok (.iconst 1, 1) := by decide +kernel
theorem dX8_isInB_73 : decode cX8_isInB 73 = .ok (.goto 4, 3) := by decide +kernel
theorem dX8_isInB_76 : decode cX8_isInB 76 = .ok (.iconst 0, 1) := by decide +kernel
theorem dX8_isInB_77 : decode cX8_isInB 77 = .ok (.istore_n 3, 1) := by decide +kernel
theorem dX8_isInB_78 : decode cX8_isInB 78 = .ok (.iinc 4 1, 3) := by decide +kernel
theorem dX8_isInB_81 : decode cX8_isInB 81 = .ok (.goto (-44), 3) := by decide +kernel
theorem dX8_isInB_84 : decode cX8_isInB 84 = .ok (.iload_n 3, 1) := by decide +kernel
theorem dX8_isInB_85 : decode cX8_isInB 85 = .ok (.ireturn, 1) := by decide +kernel
set_option maxRecDepth 20000 in
theorem ggX8_walks_X8_leads : GoodIn wsX8_walks wsX8_leads := goodIn_r _ [8, 9, 10, 11, 12, 13, 14, 15, 16, 17, 18, 19, 20, 21, 22, 23, 24, 25, 26, 27, 28, 29, 30, 31, 32, 33, 34, 35, 36, 37, 38, 39, 40, 41, 42] (by decide +kernel) (by decide +kernel)
set_option maxRecDepth 20000 in
theorem gX8_walks_X8_leads : GoodIn wsX8_walks (wsV RX8 127 RX8 yX8_leads wsX8_leads) := goodIn_app (goodIn_of _ (by decide +kernel)) ggX8_walks_X8_leads
theorem dX8_walks_0 : decode cX8_walks 0 = .ok (.iconst 0, 1) := by decide +kernel
theorem dX8_walks_1 : decode cX8_walks 1 = .ok (.istore_n 3, 1) := by decide +kernel
theorem dX8_walks_2 : decode cX8_walks 2 = .ok (.iconst 0, 1) := by decide +kernel
theorem dX8_walks_3 : decode cX8_walks 3 = .ok (.istore 4, 2) := by decide +kernel
theorem dX8_walks_5 : decode cX8_walks 5 = .ok (.iconst 0, 1) := by decide +kernel
theorem dX8_walks_6 : decode cX8_walks 6 = .ok (.istore 5, 2) := by decide +kernel
theorem dX8_walks_8 : decode cX8_walks 8 = .ok (.iload 5, 2) := by decide +kernel
theorem dX8_walks_10 : decode cX8_walks 10 = .ok (.aload_n 0, 1) := by decide +kernel
theorem dX8_walks_11 : decode cX8_walks 11 = .ok (.getfield 7, 3) := by decide +kernel
theorem dX8_walks_14 : decode cX8_walks 14 = .ok (.if_icmp .ge 86, 3) := by decide +kernel
theorem dX8_walks_17 : decode cX8_walks 17 = .ok (.aload_n 0, 1) := by decide +kernel
theorem dX8_walks_18 : decode cX8_walks 18 = .ok (.iload_n 1, 1) := by decide +kernel
theorem dX8_walks_19 : decode cX8_walks 19 = .ok (.iload 5, 2) := by decide +kernel
theorem dX8_walks_21 : decode cX8_walks 21 = .ok (.invokevirtual 127, 3) := by decide +kernel
theorem dX8_walks_24 : decode cX8_walks 24 = .ok (.ifCond .eq 70, 3) := by decide +kernel
theorem dX8_walks_27 : decode cX8_walks 27 = .ok (.iload_n 3, 1) := by decide +kernel
theorem dX8_walks_28 : decode cX8_walks 28 = .ok (.aload_n 0, 1) := by decide +kernel
theorem dX8_walks_29 : decode cX8_walks 29 = .ok (.iload 5, 2) := by decide +kernel
theorem dX8_walks_31 : decode cX8_walks 31 = .ok (.iload_n 2, 1) := by decide +kernel
theorem dX8_walks_32 : decode cX8_walks 32 = .ok (.invokevirtual 127, 3) := by decide +kernel
theorem dX8_walks_35 : decode cX8_walks 35 = .ok (.ifCond .eq 7, 3) := by decide +kernel
theorem dX8_walks_38 : decode cX8_walks 38 = .ok (.iconst 1, 1) := by decide +kernel
theorem dX8_walks_39 : decode cX8_walks 39 = .ok (.goto 4, 3) := by decide +kernel
theorem dX8_walks_42 : decode cX8_walks 42 = .ok (.iconst 0, 1) := by decide +kernel
theorem dX8_walks_43 : decode cX8_walks 43 = .ok (.iadd, 1) := by decide +kernel
theorem dX8_walks_44 : decode cX8_walks 44 = .ok (.istore_n 3, 1) := by decide +kernel
theorem dX8_walks_45 : decode cX8_walks 45 = .ok (.iconst 0, 1) := by decide +kernel
theorem dX8_walks_46 : decode cX8_walks 46 = .ok (.istore 6, 2) := by decide +kernel
theorem dX8_walks_48 : decode cX8_walks 48 = .ok (.iload 6, 2) := by decide +kernel
theorem dX8_walks_50 : decode cX8_walks 50 = .ok (.aload_n 0, 1) := by decide +kernel
theorem dX8_walks_51 : decode cX8_walks 51 = .ok (.getfield 7, 3) := by decide +kernel
theorem dX8_walks_54 : decode cX8_walks 54 = .ok (.if_icmp .ge 40, 3) := by decide +kernel
theorem dX8_walks_57 : decode cX8_walks 57 = .ok (.iload 4, 2) := by decide +kernel
theorem dX8_walks_59 : decode cX8_walks 59 = .ok (.aload_n 0, 1) := by decide +kernel
theorem dX8_walks_60 : decode cX8_walks 60 = .ok (.iload 5, 2) := by decide +kernel
theorem dX8_walks_62 : decode cX8_walks 62 = .ok (.iload 6, 2) := by decide +kernel
theorem dX8_walks_64 : decode cX8_walks 64 = .ok (.invokevirtual 127, 3) := by decide +kernel
theorem dX8_walks_67 : decode cX8_walks 67 = .ok (.ifCond .eq 17, 3) := by decide +kernel
theorem dX8_walks_70 : decode cX8_walks 70 = .ok (.aload_n 0, 1) := by decide +kernel
theorem dX8_walks_71 : decode cX8_walks 71 = .ok (.iload 6, 2) := by decide +kernel
theorem dX8_walks_73 : decode cX8_walks 73 = .ok (.iload_n 2, 1) := by decide +kernel
theorem dX8_walks_74 : decode cX8_walks 74 = .ok (.invokevirtual 127, 3) := by decide +kernel
theorem dX8_walks_77 : decode cX8_walks 77 = .ok (.ifCond .eq 7, 3) := by decide +kernel
theorem dX8_walks_80 : decode cX8_walks 80 = .ok (.iconst 1, 1) := by decide +kernel
theorem dX8_walks_81 : decode cX8_walks 81 = .ok (.goto 4, 3) := by decide +kernel
theorem dX8_walks_84 : decode cX8_walks 84 = .ok (.iconst 0, 1) := by decide +kernel
theorem dX8_walks_85 : decode cX8_walks 85 = .ok (.iadd, 1) := by decide +kernel
theorem dX8_walks_86 : decode cX8_walks 86 = .ok (.istore 4, 2) := by decide +kernel
theorem dX8_walks_88 : decode cX8_walks 88 = .ok (.iinc 6 1, 3) := by decide +kernel
theorem dX8_walks_91 : decode cX8_walks 91 = .ok (.goto (-43), 3) := by decide +kernel
theorem dX8_walks_94 : decode cX8_walks 94 = .ok (.iinc 5 1, 3) := by decide +kernel
theorem dX8_walks_97 : decode cX8_walks 97 = .ok (.goto (-89), 3) := by decide +kernel
theorem dX8_walks_100 : decode cX8_walks 100 = .ok (.aload_n 0, 1) := by decide +kernel
theorem dX8_walks_101 : decode cX8_walks 101 = .ok (.getfield 36, 3) := by decide +kernel
theorem dX8_walks_104 : decode cX8_walks 104 = .ok (.iload_n 3, 1) := by decide +kernel
theorem dX8_walks_105 : decode cX8_walks 105 = .ok (.imul, 1) := by decide +kernel
theorem dX8_walks_106 : decode cX8_walks 106 = .ok (.aload_n 0, 1) := by decide +kernel
theorem dX8_walks_107 : decode cX8_walks 107 = .ok (.getfield 39, 3) := by decide +kernel
theorem dX8_walks_110 : decode cX8_walks 110 = .ok (.iload 4, 2) := by decide +kernel
theorem dX8_walks_112 : decode cX8_walks 112 = .ok (.imul, 1) := by decide +kernel
theorem dX8_walks_113 : decode cX8_walks 113 = .ok (.iadd, 1) := by decide +kernel
theorem dX8_walks_114 : decode cX8_walks 114 = .ok (.ireturn, 1) := by decide +kernel
set_option maxRecDepth 20000 in
theorem ggX8_steps_X8_leads : GoodIn wsX8_steps wsX8_leads := goodIn_r _ [8, 9, 10, 11, 12, 13, 14, 15, 16, 17, 18, 19, 20, 21, 22, 23, 24, 25, 26, 27, 28, 29, 30, 31, 32, 33, 34, 35, 36, 37, 38, 39, 40, 41, 42] (by decide +kernel) (by decide +kernel)
set_option maxRecDepth 20000 in
theorem gX8_steps_X8_leads : GoodIn wsX8_steps (wsV RX8 127 RX8 yX8_leads wsX8_leads) := goodIn_app (goodIn_of _ (by decide +kernel)) ggX8_steps_X8_leads
theorem dX8_steps_0 : decode cX8_steps 0 = .ok (.iconst 0, 1) := by decide +kernel
theorem dX8_steps_1 : decode cX8_steps 1 = .ok (.istore_n 3, 1) := by decide +kernel
theorem dX8_steps_2 : decode cX8_steps 2 = .ok (.iload_n 3, 1) := by decide +kernel
theorem dX8_steps_3 : decode cX8_steps 3 = .ok (.aload_n 0, 1) := by decide +kernel
theorem dX8_steps_4 : decode cX8_steps 4 = .ok (.getfield 7, 3) := by decide +kernel
theorem dX8_steps_7 : decode cX8_steps 7 = .ok (.if_icmp .ge 25, 3) := by decide +kernel
theorem dX8_steps_10 : decode cX8_steps 10 = .ok (.aload_n 0, 1) := by decide +kernel
theorem dX8_steps_11 : decode cX8_steps 11 = .ok (.getfield 59, 3) := by decide +kernel
theorem dX8_steps_14 : decode cX8_steps 14 = .ok (.iload_n 3, 1) := by decide +kernel
theorem dX8_steps_15 : decode cX8_steps 15 = .ok (.iload_n 3, 1) := by decide +kernel
theorem dX8_steps_16 : decode cX8_steps 16 = .ok (.iload_n 1, 1) := by decide +kernel
theorem dX8_steps_17 : decode cX8_steps 17 = .ok (.if_icmp .ne 7, 3) := by decide +kernel
theorem dX8_steps_20 : decode cX8_steps 20 = .ok (.iconst 1, 1) := by decide +kernel
theorem dX8_steps_21 : decode cX8_steps 21 = .ok (.goto 4, 3) := by decide +kernel
theorem dX8_steps_24 : decode cX8_steps 24 = .ok (.iconst 0, 1) := by decide +kernel
theorem dX8_steps_25 : decode cX8_steps 25 = .ok (.bastore, 1) := by decide +kernel
theorem dX8_steps_26 : decode cX8_steps 26 = .ok (.iinc 3 1, 3) := by decide +kernel
theorem dX8_steps_29 : decode cX8_steps 29 = .ok (.goto (-27), 3) := by decide +kernel
theorem dX8_steps_32 : decode cX8_steps 32 = .ok (.iconst 1, 1) := by decide +kernel
theorem dX8_steps_33 : decode cX8_steps 33 = .ok (.istore_n 3, 1) := by decide +kernel
theorem dX8_steps_34 : decode cX8_steps 34 = .ok (.iload_n 3, 1) := by decide +kernel
theorem dX8_steps_35 : decode cX8_steps 35 = .ok (.aload_n 0, 1) := by decide +kernel
theorem dX8_steps_36 : decode cX8_steps 36 = .ok (.getfield 7, 3) := by decide +kernel
theorem dX8_steps_39 : decode cX8_steps 39 = .ok (.if_icmp .ge 131, 3) := by decide +kernel
theorem dX8_steps_42 : decode cX8_steps 42 = .ok (.iconst 0, 1) := by decide +kernel
theorem dX8_steps_43 : decode cX8_steps 43 = .ok (.istore 4, 2) := by decide +kernel
theorem dX8_steps_45 : decode cX8_steps 45 = .ok (.iload 4, 2) := by decide +kernel
theorem dX8_steps_47 : decode cX8_steps 47 = .ok (.aload_n 0, 1) := by decide +kernel
theorem dX8_steps_48 : decode cX8_steps 48 = .ok (.getfield 7, 3) := by decide +kernel
theorem dX8_steps_51 : decode cX8_steps 51 = .ok (.if_icmp .ge 23, 3) := by decide +kernel
theorem dX8_steps_54 : decode cX8_steps 54 = .ok (.aload_n 0, 1) := by decide +kernel
theorem dX8_steps_55 : decode cX8_steps 55 = .ok (.getfield 62, 3) := by decide +kernel
theorem dX8_steps_58 : decode cX8_steps 58 = .ok (.iload 4, 2) := by decide +kernel
theorem dX8_steps_60 : decode cX8_steps 60 = .ok (.aload_n 0, 1) := by decide +kernel
theorem dX8_steps_61 : decode cX8_steps 61 = .ok (.getfield 59, 3) := by decide +kernel
theorem dX8_steps_64 : decode cX8_steps 64 = .ok (.iload 4, 2) := by decide +kernel
theorem dX8_steps_66 : decode cX8_steps 66 = .ok (.baload, 1) := by decide +kernel
theorem dX8_steps_67 : decode cX8_steps 67 = .ok (.bastore, 1) := by decide +kernel
theorem dX8_steps_68 : decode cX8_steps 68 = .ok (.iinc 4 1, 3) := by decide +kernel
theorem dX8_steps_71 : decode cX8_steps 71 = .ok (.goto (-26), 3) := by decide +kernel
theorem dX8_steps_74 : decode cX8_steps 74 = .ok (.iconst 0, 1) := by decide +kernel
theorem dX8_steps_75 : decode cX8_steps 75 = .ok (.istore 4, 2) := by decide +kernel
theorem dX8_steps_77 : decode cX8_steps 77 = .ok (.iload 4, 2) := by decide +kernel
theorem dX8_steps_79 : decode cX8_steps 79 = .ok (.aload_n 0, 1) := by decide +kernel
theorem dX8_steps_80 : decode cX8_steps 80 = .ok (.getfield 7, 3) := by decide +kernel
theorem dX8_steps_83 : decode cX8_steps 83 = .ok (.if_icmp .ge 70, 3) := by decide +kernel
theorem dX8_steps_86 : decode cX8_steps 86 = .ok (.iconst 0, 1) := by decide +kernel
theorem dX8_steps_87 : decode cX8_steps 87 = .ok (.istore 5, 2) := by decide +kernel
theorem dX8_steps_89 : decode cX8_steps 89 = .ok (.iload 5, 2) := by decide +kernel
theorem dX8_steps_91 : decode cX8_steps 91 = .ok (.aload_n 0, 1) := by decide +kernel
theorem dX8_steps_92 : decode cX8_steps 92 = .ok (.getfield 7, 3) := by decide +kernel
theorem dX8_steps_95 : decode cX8_steps 95 = .ok (.if_icmp .ge 52, 3) := by decide +kernel
theorem dX8_steps_98 : decode cX8_steps 98 = .ok (.aload_n 0, 1) := by decide +kernel
theorem dX8_steps_99 : decode cX8_steps 99 = .ok (.getfield 62, 3) := by decide +kernel
theorem dX8_steps_102 : decode cX8_steps 102 = .ok (.iload 4, 2) := by decide +kernel
theorem dX8_steps_104 : decode cX8_steps 104 = .ok (.baload, 1) := by decide +kernel
theorem dX8_steps_105 : decode cX8_steps 105 = .ok (.ifCond .eq 42, 3) := by decide +kernel
theorem dX8_steps_108 : decode cX8_steps 108 = .ok (.aload_n 0, 1) := by decide +kernel
theorem dX8_steps_109 : decode cX8_steps 109 = .ok (.getfield 59, 3) := by decide +kernel
theorem dX8_steps_112 : decode cX8_steps 112 = .ok (.iload 5, 2) := by decide +kernel
theorem dX8_steps_114 : decode cX8_steps 114 = .ok (.aload_n 0, 1) := by decide +kernel
theorem dX8_steps_115 : decode cX8_steps 115 = .ok (.getfield 59, 3) := by decide +kernel
theorem dX8_steps_118 : decode cX8_steps 118 = .ok (.iload 5, 2) := by decide +kernel
theorem dX8_steps_120 : decode cX8_steps 120 = .ok (.baload, 1) := by decide +kernel
theorem dX8_steps_121 : decode cX8_steps 121 = .ok (.ifCond .ne 14, 3) := by decide +kernel
theorem dX8_steps_124 : decode cX8_steps 124 = .ok (.aload_n 0, 1) := by decide +kernel
theorem dX8_steps_125 : decode cX8_steps 125 = .ok (.iload 4, 2) := by decide +kernel
theorem dX8_steps_127 : decode cX8_steps 127 = .ok (.iload 5, 2) := by decide +kernel
theorem dX8_steps_129 : decode cX8_steps 129 = .ok (.invokevirtual 127, 3) := by decide +kernel
theorem dX8_steps_132 : decode cX8_steps 132 = .ok (.ifCond .eq 7, 3) := by decide +kernel
theorem dX8_steps_135 : decode cX8_steps 135 = .ok (.iconst 1, 1) := by decide +kernel
theorem dX8_steps_136 : decode cX8_steps 136 = .ok (.goto 4, 3) := by decide +kernel
theorem dX8_steps_139 : decode cX8_steps 139 = .ok (.iconst 0, 1) := by decide +kernel
theorem dX8_steps_140 : decode cX8_steps 140 = .ok (.bastore, 1) := by decide +kernel
theorem dX8_steps_141 : decode cX8_steps 141 = .ok (.iinc 5 1, 3) := by decide +kernel
theorem dX8_steps_144 : decode cX8_steps 144 = .ok (.goto (-55), 3) := by decide +kernel
theorem dX8_steps_147 : decode cX8_steps 147 = .ok (.iinc 4 1, 3) := by decide +kernel
theorem dX8_steps_150 : decode cX8_steps 150 = .ok (.goto (-73), 3) := by decide +kernel
theorem dX8_steps_153 : decode cX8_steps 153 = .ok (.aload_n 0, 1) := by decide +kernel
theorem dX8_steps_154 : decode cX8_steps 154 = .ok (.getfield 59, 3) := by decide +kernel
theorem dX8_steps_157 : decode cX8_steps 157 = .ok (.iload_n 2, 1) := by decide +kernel
theorem dX8_steps_158 : decode cX8_steps 158 = .ok (.baload, 1) := by decide +kernel
theorem dX8_steps_159 : decode cX8_steps 159 = .ok (.ifCond .eq 5, 3) := by decide +kernel
theorem dX8_steps_162 : decode cX8_steps 162 = .ok (.iload_n 3, 1) := by decide +kernel
theorem dX8_steps_163 : decode cX8_steps 163 = .ok (.ireturn, 1) := by decide +kernel
theorem dX8_steps_164 : decode cX8_steps 164 = .ok (.iinc 3 1, 3) := by decide +kernel
theorem dX8_steps_167 : decode cX8_steps 167 = .ok (.goto (-133), 3) := by decide +kernel
theorem dX8_steps_170 : decode cX8_steps 170 = .ok (.iconst 0, 1) := by decide +kernel
theorem dX8_steps_171 : decode cX8_steps 171 = .ok (.ireturn, 1) := by decide +kernel
set_option maxRecDepth 20000 in
theorem ggX8_wander_X8_leads : GoodIn wsX8_wander wsX8_leads := goodIn_r _ [7, 8, 9, 27, 28, 29, 30, 31, 32, 33, 34, 35, 36, 37, 38, 39, 40, 41, 42, 43, 44, 45, 46, 47, 48, 49, 50, 51, 52, 53, 54, 55, 56, 57, 58] (by decide +kernel) (by decide +kernel)
set_option maxRecDepth 20000 in
theorem gX8_wander_X8_leads : GoodIn wsX8_wander (wsV RX8 127 RX8 yX8_leads wsX8_leads) := goodIn_app (goodIn_of _ (by decide +kernel)) ggX8_wander_X8_leads
set_option maxRecDepth 20000 in
theorem ggX8_wander_X8_outs : GoodIn wsX8_wander wsX8_outs := goodIn_r _ [13, 2, 3, 4, 5, 6, 7, 8, 9, 27, 28, 29, 30, 31, 32, 33, 34, 35, 36, 37, 38, 39, 40, 41, 42, 43, 44, 45, 46, 47, 48, 49, 50, 51, 52, 53, 54, 55, 56, 57, 58] (by decide +kernel) (by decide +kernel)
set_option maxRecDepth 20000 in
theorem gX8_wander_X8_outs : GoodIn wsX8_wander (wsV RX8 150 RX8 yX8_outs wsX8_outs) := goodIn_app (goodIn_of _ (by decide +kernel)) ggX8_wander_X8_outs
set_option maxRecDepth 20000 in
theorem ggX8_wander_X8_make : GoodIn wsX8_wander wsX8_make := goodIn_r _ [17, 18, 19, 20, 21, 6, 22, 27, 28, 29, 30, 31, 32, 33, 34, 35, 36, 37, 38, 39, 40, 41, 42, 43, 44, 45, 46, 47, 48, 49, 50, 51, 52, 53, 54, 55, 56, 57, 58] (by decide +kernel) (by decide +kernel)
set_option maxRecDepth 20000 in
theorem gX8_wander_X8_make : GoodIn wsX8_wander (wsV RX8 146 RX8 yX8_make wsX8_make) := goodIn_app (goodIn_of _ (by decide +kernel)) ggX8_wander_X8_make
set_option maxRecDepth 20000 in
theorem ggX8_wander_X8_plus : GoodIn wsX8_wander wsX8_plus := goodIn_r _ [26, 19, 18, 20, 21, 6, 22, 14, 15, 16, 17, 27, 28, 29, 30, 31, 32, 33, 34, 35, 36, 37, 38, 39, 40, 41, 42, 43, 44, 45, 46, 47, 48, 49, 50, 51, 52, 53, 54, 55, 56, 57, 58] (by decide +kernel) (by decide +kernel)
set_option maxRecDepth 20000 in
theorem gX8_wander_X8_plus : GoodIn wsX8_wander (wsV RX8 154 RX8 yX8_plus wsX8_plus) := goodIn_app (goodIn_of _ (by decide +kernel)) ggX8_wander_X8_plus
theorem dX8_wander_0 : decode cX8_wander 0 = .ok (.aload_n 0, 1) := by decide +kernel
theorem dX8_wander_1 : decode cX8_wander 1 = .ok (.getfield 42, 3) := by decide +kernel
theorem dX8_wander_4 : decode cX8_wander 4 = .ok (.iconst 1, 1) := by decide +kernel
theorem dX8_wander_5 : decode cX8_wander 5 = .ok (.if_icmp .ne 28, 3) := by decide +kernel
theorem dX8_wander_8 : decode cX8_wander 8 = .ok (.aload_n 0, 1) := by decide +kernel
theorem dX8_wander_9 : decode cX8_wander 9 = .ok (.aload_n 0, 1) := by decide +kernel
theorem dX8_wander_10 : decode cX8_wander 10 = .ok (.iload_n 1, 1) := by decide +kernel
theorem dX8_wander_11 : decode cX8_wander 11 = .ok (.iload_n 2, 1) := by decide +kernel
theorem dX8_wander_12 : decode cX8_wander 12 = .ok (.invokevirtual 127, 3) := by decide +kernel
theorem dX8_wander_15 : decode cX8_wander 15 = .ok (.ifCond .eq 7, 3) := by decide +kernel
theorem dX8_wander_18 : decode cX8_wander 18 = .ok (.lconst 1, 1) := by decide +kernel
theorem dX8_wander_19 : decode cX8_wander 19 = .ok (.goto 4, 3) := by decide +kernel
theorem dX8_wander_22 : decode cX8_wander 22 = .ok (.lconst 0, 1) := by decide +kernel
theorem dX8_wander_23 : decode cX8_wander 23 = .ok (.aload_n 0, 1) := by decide +kernel
theorem dX8_wander_24 : decode cX8_wander 24 = .ok (.iload_n 1, 1) := by decide +kernel
theorem dX8_wander_25 : decode cX8_wander 25 = .ok (.invokevirtual 150, 3) := by decide +kernel
theorem dX8_wander_28 : decode cX8_wander 28 = .ok (.i2l, 1) := by decide +kernel
theorem dX8_wander_29 : decode cX8_wander 29 = .ok (.invokevirtual 146, 3) := by decide +kernel
theorem dX8_wander_32 : decode cX8_wander 32 = .ok (.return_, 1) := by decide +kernel
theorem dX8_wander_33 : decode cX8_wander 33 = .ok (.aload_n 0, 1) := by decide +kernel
theorem dX8_wander_34 : decode cX8_wander 34 = .ok (.lconst 0, 1) := by decide +kernel
theorem dX8_wander_35 : decode cX8_wander 35 = .ok (.lconst 1, 1) := by decide +kernel
theorem dX8_wander_36 : decode cX8_wander 36 = .ok (.invokevirtual 146, 3) := by decide +kernel
theorem dX8_wander_39 : decode cX8_wander 39 = .ok (.iconst 0, 1) := by decide +kernel
theorem dX8_wander_40 : decode cX8_wander 40 = .ok (.istore_n 3, 1) := by decide +kernel
theorem dX8_wander_41 : decode cX8_wander 41 = .ok (.iload_n 3, 1) := by decide +kernel
theorem dX8_wander_42 : decode cX8_wander 42 = .ok (.aload_n 0, 1) := by decide +kernel
theorem dX8_wander_43 : decode cX8_wander 43 = .ok (.getfield 7, 3) := by decide +kernel
theorem dX8_wander_46 : decode cX8_wander 46 = .ok (.if_icmp .ge 45, 3) := by decide +kernel
theorem dX8_wander_49 : decode cX8_wander 49 = .ok (.aload_n 0, 1) := by decide +kernel
theorem dX8_wander_50 : decode cX8_wander 50 = .ok (.iload_n 1, 1) := by decide +kernel
theorem dX8_wander_51 : decode cX8_wander 51 = .ok (.iload_n 3, 1) := by decide +kernel
theorem dX8_wander_52 : decode cX8_wander 52 = .ok (.invokevirtual 127, 3) := by decide +kernel
theorem dX8_wander_55 : decode cX8_wander 55 = .ok (.ifCond .eq 30, 3) := by decide +kernel
theorem dX8_wander_58 : decode cX8_wander 58 = .ok (.aload_n 0, 1) := by decide +kernel
theorem dX8_wander_59 : decode cX8_wander 59 = .ok (.iload_n 3, 1) := by decide +kernel
theorem dX8_wander_60 : decode cX8_wander 60 = .ok (.iload_n 2, 1) := by decide +kernel
theorem dX8_wander_61 : decode cX8_wander 61 = .ok (.invokevirtual 127, 3) := by decide +kernel
theorem dX8_wander_64 : decode cX8_wander 64 = .ok (.ifCond .eq 21, 3) := by decide +kernel
theorem dX8_wander_67 : decode cX8_wander 67 = .ok (.aload_n 0, 1) := by decide +kernel
theorem dX8_wander_68 : decode cX8_wander 68 = .ok (.lconst 1, 1) := by decide +kernel
theorem dX8_wander_69 : decode cX8_wander 69 = .ok (.aload_n 0, 1) := by decide +kernel
theorem dX8_wander_70 : decode cX8_wander 70 = .ok (.iload_n 1, 1) := by decide +kernel
theorem dX8_wander_71 : decode cX8_wander 71 = .ok (.invokevirtual 150, 3) := by decide +kernel
theorem dX8_wander_74 : decode cX8_wander 74 = .ok (.i2l, 1) := by decide +kernel
theorem dX8_wander_75 : decode cX8_wander 75 = .ok (.aload_n 0, 1) := by decide +kernel
theorem dX8_wander_76 : decode cX8_wander 76 = .ok (.iload_n 3, 1) := by decide +kernel
theorem dX8_wander_77 : decode cX8_wander 77 = .ok (.invokevirtual 150, 3) := by decide +kernel
theorem dX8_wander_80 : decode cX8_wander 80 = .ok (.i2l, 1) := by decide +kernel
theorem dX8_wander_81 : decode cX8_wander 81 = .ok (.lmul, 1) := by decide +kernel
theorem dX8_wander_82 : decode cX8_wander 82 = .ok (.invokevirtual 154, 3) := by decide +kernel
theorem dX8_wander_85 : decode cX8_wander 85 = .ok (.iinc 3 1, 3) := by decide +kernel
theorem dX8_wander_88 : decode cX8_wander 88 = .ok (.goto (-47), 3) := by decide +kernel
theorem dX8_wander_91 : decode cX8_wander 91 = .ok (.return_, 1) := by decide +kernel
set_option maxRecDepth 20000 in
theorem ggX8_grouped_X8_leads : GoodIn wsX8_grouped wsX8_leads := goodIn_r _ [7, 8, 9, 19, 20, 21, 22, 23, 24, 25, 26, 27, 28, 29, 30, 31, 32, 33, 34, 35, 36, 37, 38, 39, 40, 41, 42, 43, 44, 45, 46, 47, 48, 49, 50] (by decide +kernel) (by decide +kernel)
set_option maxRecDepth 20000 in
theorem gX8_grouped_X8_leads : GoodIn wsX8_grouped (wsV RX8 127 RX8 yX8_leads wsX8_leads) := goodIn_app (goodIn_of _ (by decide +kernel)) ggX8_grouped_X8_leads
set_option maxRecDepth 20000 in
theorem ggX8_grouped_X8_make : GoodIn wsX8_grouped wsX8_make := goodIn_r _ [13, 14, 15, 16, 17, 6, 18, 19, 20, 21, 22, 23, 24, 25, 26, 27, 28, 29, 30, 31, 32, 33, 34, 35, 36, 37, 38, 39, 40, 41, 42, 43, 44, 45, 46, 47, 48, 49, 50] (by decide +kernel) (by decide +kernel)
set_option maxRecDepth 20000 in
theorem gX8_grouped_X8_make : GoodIn wsX8_grouped (wsV RX8 146 RX8 yX8_make wsX8_make) := goodIn_app (goodIn_of _ (by decide +kernel)) ggX8_grouped_X8_make
theorem dX8_grouped_0 : decode cX8_grouped 0 = .ok (.aload_n 0, 1) := by decide +kernel
theorem dX8_grouped_1 : decode cX8_grouped 1 = .ok (.getfield 30, 3) := by decide +kernel
theorem dX8_grouped_4 : decode cX8_grouped 4 = .ok (.iload_n 1, 1) := by decide +kernel
theorem dX8_grouped_5 : decode cX8_grouped 5 = .ok (.iaload, 1) := by decide +kernel
theorem dX8_grouped_6 : decode cX8_grouped 6 = .ok (.istore_n 3, 1) := by decide +kernel
theorem dX8_grouped_7 : decode cX8_grouped 7 = .ok (.aload_n 0, 1) := by decide +kernel
theorem dX8_grouped_8 : decode cX8_grouped 8 = .ok (.getfield 30, 3) := by decide +kernel
theorem dX8_grouped_11 : decode cX8_grouped 11 = .ok (.iload_n 2, 1) := by decide +kernel
theorem dX8_grouped_12 : decode cX8_grouped 12 = .ok (.iaload, 1) := by decide +kernel
theorem dX8_grouped_13 : decode cX8_grouped 13 = .ok (.istore 4, 2) := by decide +kernel
theorem dX8_grouped_15 : decode cX8_grouped 15 = .ok (.lconst 0, 1) := by decide +kernel
theorem dX8_grouped_16 : decode cX8_grouped 16 = .ok (.lstore 5, 2) := by decide +kernel
theorem dX8_grouped_18 : decode cX8_grouped 18 = .ok (.lconst 0, 1) := by decide +kernel
theorem dX8_grouped_19 : decode cX8_grouped 19 = .ok (.lstore 7, 2) := by decide +kernel
theorem dX8_grouped_21 : decode cX8_grouped 21 = .ok (.lconst 0, 1) := by decide +kernel
theorem dX8_grouped_22 : decode cX8_grouped 22 = .ok (.lstore 9, 2) := by decide +kernel
theorem dX8_grouped_24 : decode cX8_grouped 24 = .ok (.iconst 0, 1) := by decide +kernel
theorem dX8_grouped_25 : decode cX8_grouped 25 = .ok (.istore 11, 2) := by decide +kernel
theorem dX8_grouped_27 : decode cX8_grouped 27 = .ok (.iload 11, 2) := by decide +kernel
theorem dX8_grouped_29 : decode cX8_grouped 29 = .ok (.aload_n 0, 1) := by decide +kernel
theorem dX8_grouped_30 : decode cX8_grouped 30 = .ok (.getfield 7, 3) := by decide +kernel
theorem dX8_grouped_33 : decode cX8_grouped 33 = .ok (.if_icmp .ge 114, 3) := by decide +kernel
theorem dX8_grouped_36 : decode cX8_grouped 36 = .ok (.lload 7, 2) := by decide +kernel
theorem dX8_grouped_38 : decode cX8_grouped 38 = .ok (.aload_n 0, 1) := by decide +kernel
theorem dX8_grouped_39 : decode cX8_grouped 39 = .ok (.getfield 30, 3) := by decide +kernel
theorem dX8_grouped_42 : decode cX8_grouped 42 = .ok (.iload 11, 2) := by decide +kernel
theorem dX8_grouped_44 : decode cX8_grouped 44 = .ok (.iaload, 1) := by decide +kernel
theorem dX8_grouped_45 : decode cX8_grouped 45 = .ok (.iload_n 3, 1) := by decide +kernel
theorem dX8_grouped_46 : decode cX8_grouped 46 = .ok (.if_icmp .ne 7, 3) := by decide +kernel
theorem dX8_grouped_49 : decode cX8_grouped 49 = .ok (.lconst 1, 1) := by decide +kernel
theorem dX8_grouped_50 : decode cX8_grouped 50 = .ok (.goto 4, 3) := by decide +kernel
theorem dX8_grouped_53 : decode cX8_grouped 53 = .ok (.lconst 0, 1) := by decide +kernel
theorem dX8_grouped_54 : decode cX8_grouped 54 = .ok (.ladd, 1) := by decide +kernel
theorem dX8_grouped_55 : decode cX8_grouped 55 = .ok (.lstore 7, 2) := by decide +kernel
theorem dX8_grouped_57 : decode cX8_grouped 57 = .ok (.lload 9, 2) := by decide +kernel
theorem dX8_grouped_59 : decode cX8_grouped 59 = .ok (.aload_n 0, 1) := by decide +kernel
theorem dX8_grouped_60 : decode cX8_grouped 60 = .ok (.getfield 30, 3) := by decide +kernel
theorem dX8_grouped_63 : decode cX8_grouped 63 = .ok (.iload 11, 2) := by decide +kernel
theorem dX8_grouped_65 : decode cX8_grouped 65 = .ok (.iaload, 1) := by decide +kernel
theorem dX8_grouped_66 : decode cX8_grouped 66 = .ok (.iload 4, 2) := by decide +kernel
theorem dX8_grouped_68 : decode cX8_grouped 68 = .ok (.if_icmp .ne 7, 3) := by decide +kernel
theorem dX8_grouped_71 : decode cX8_grouped 71 = .ok (.lconst 1, 1) := by decide +kernel
theorem dX8_grouped_72 : decode cX8_grouped 72 = .ok (.goto 4, 3) := by decide +kernel
theorem dX8_grouped_75 : decode cX8_grouped 75 = .ok (.lconst 0, 1) := by decide +kernel
theorem dX8_grouped_76 : decode cX8_grouped 76 = .ok (.ladd, 1) := by decide +kernel
theorem dX8_grouped_77 : decode cX8_grouped 77 = .ok (.lstore 9, 2) := by decide +kernel
theorem dX8_grouped_79 : decode cX8_grouped 79 = .ok (.iconst 0, 1) := by decide +kernel
theorem dX8_grouped_80 : decode cX8_grouped 80 = .ok (.istore 12, 2) := by decide +kernel
theorem dX8_grouped_82 : decode cX8_grouped 82 = .ok (.iload 12, 2) := by decide +kernel
theorem dX8_grouped_84 : decode cX8_grouped 84 = .ok (.aload_n 0, 1) := by decide +kernel
theorem dX8_grouped_85 : decode cX8_grouped 85 = .ok (.getfield 7, 3) := by decide +kernel
theorem dX8_grouped_88 : decode cX8_grouped 88 = .ok (.if_icmp .ge 53, 3) := by decide +kernel
theorem dX8_grouped_91 : decode cX8_grouped 91 = .ok (.lload 5, 2) := by decide +kernel
theorem dX8_grouped_93 : decode cX8_grouped 93 = .ok (.aload_n 0, 1) := by decide +kernel
theorem dX8_grouped_94 : decode cX8_grouped 94 = .ok (.iload 11, 2) := by decide +kernel
theorem dX8_grouped_96 : decode cX8_grouped 96 = .ok (.iload 12, 2) := by decide +kernel
theorem dX8_grouped_98 : decode cX8_grouped 98 = .ok (.invokevirtual 127, 3) := by decide +kernel
theorem dX8_grouped_101 : decode cX8_grouped 101 = .ok (.ifCond .eq 30, 3) := by decide +kernel
theorem dX8_grouped_104 : decode cX8_grouped 104 = .ok (.aload_n 0, 1) := by decide +kernel
theorem dX8_grouped_105 : decode cX8_grouped 105 = .ok (.getfield 30, 3) := by decide +kernel
theorem dX8_grouped_108 : decode cX8_grouped 108 = .ok (.iload 11, 2) := by decide +kernel
theorem dX8_grouped_110 : decode cX8_grouped 110 = .ok (.iaload, 1) := by decide +kernel
theorem dX8_grouped_111 : decode cX8_grouped 111 = .ok (.iload_n 3, 1) := by decide +kernel
theorem dX8_grouped_112 : decode cX8_grouped 112 = .ok (.if_icmp .ne 19, 3) := by decide +kernel
theorem dX8_grouped_115 : decode cX8_grouped 115 = .ok (.aload_n 0, 1) := by decide +kernel
theorem dX8_grouped_116 : decode cX8_grouped 116 = .ok (.getfield 30, 3) := by decide +kernel
theorem dX8_grouped_119 : decode cX8_grouped 119 = .ok (.iload 12, 2) := by decide +kernel
theorem dX8_grouped_121 : decode cX8_grouped 121 = .ok (.iaload, 1) := by decide +kernel
theorem dX8_grouped_122 : decode cX8_grouped 122 = .ok (.iload 4, 2) := by decide +kernel
theorem dX8_grouped_124 : decode cX8_grouped 124 = .ok (.if_icmp .ne 7, 3) := by decide +kernel
theorem dX8_grouped_127 : decode cX8_grouped 127 = .ok (.lconst 1, 1) := by decide +kernel
theorem dX8_grouped_128 : decode cX8_grouped 128 = .ok (.goto 4, 3) := by decide +kernel
theorem dX8_grouped_131 : decode cX8_grouped 131 = .ok (.lconst 0, 1) := by decide +kernel
theorem dX8_grouped_132 : decode cX8_grouped 132 = .ok (.ladd, 1) := by decide +kernel
theorem dX8_grouped_133 : decode cX8_grouped 133 = .ok (.lstore 5, 2) := by decide +kernel
theorem dX8_grouped_135 : decode cX8_grouped 135 = .ok (.iinc 12 1, 3) := by decide +kernel
theorem dX8_grouped_138 : decode cX8_grouped 138 = .ok (.goto (-56), 3) := by decide +kernel
theorem dX8_grouped_141 : decode cX8_grouped 141 = .ok (.iinc 11 1, 3) := by decide +kernel
theorem dX8_grouped_144 : decode cX8_grouped 144 = .ok (.goto (-117), 3) := by decide +kernel
theorem dX8_grouped_147 : decode cX8_grouped 147 = .ok (.aload_n 0, 1) := by decide +kernel
theorem dX8_grouped_148 : decode cX8_grouped 148 = .ok (.lload 5, 2) := by decide +kernel
theorem dX8_grouped_150 : decode cX8_grouped 150 = .ok (.lload 7, 2) := by decide +kernel
theorem dX8_grouped_152 : decode cX8_grouped 152 = .ok (.lload 9, 2) := by decide +kernel
theorem dX8_grouped_154 : decode cX8_grouped 154 = .ok (.lmul, 1) := by decide +kernel
theorem dX8_grouped_155 : decode cX8_grouped 155 = .ok (.invokevirtual 146, 3) := by decide +kernel
theorem dX8_grouped_158 : decode cX8_grouped 158 = .ok (.return_, 1) := by decide +kernel
set_option maxRecDepth 20000 in
theorem ggX8_known_X8_isNode : GoodIn wsX8_known wsX8_isNode := goodIn_r _ [10, 11, 73, 74, 75, 76, 77, 78, 79, 80, 81, 82, 83, 84, 85, 86, 87, 88, 89, 90, 91, 92, 93, 94, 95, 96, 97, 98, 99, 100, 101, 102, 103, 104] (by decide +kernel) (by decide +kernel)
set_option maxRecDepth 20000 in
theorem gX8_known_X8_isNode : GoodIn wsX8_known (wsV RX8 109 RX8 yX8_isNode wsX8_isNode) := goodIn_app (goodIn_of _ (by decide +kernel)) ggX8_known_X8_isNode
set_option maxRecDepth 20000 in
theorem ggX8_known_X8_isPair : GoodIn wsX8_known wsX8_isPair := goodIn_r _ [15, 16, 11, 73, 74, 75, 76, 77, 78, 79, 80, 81, 82, 83, 84, 85, 86, 87, 88, 89, 90, 91, 92, 93, 94, 95, 96, 97, 98, 99, 100, 101, 102, 103, 104] (by decide +kernel) (by decide +kernel)
set_option maxRecDepth 20000 in
theorem gX8_known_X8_isPair : GoodIn wsX8_known (wsV RX8 105 RX8 yX8_isPair wsX8_isPair) := goodIn_app (goodIn_of _ (by decide +kernel)) ggX8_known_X8_isPair
set_option maxRecDepth 20000 in
theorem ggX8_known_X8_measure : GoodIn wsX8_known wsX8_measure := goodIn_r _ [20, 11, 21, 22, 23, 24, 9, 25, 26, 27, 28, 29, 30, 31, 16, 32, 33, 34, 35, 3, 5, 36, 37, 38, 39, 40, 41, 42, 43, 44, 45, 46, 47, 48, 49, 50, 51, 52, 53, 54, 55, 56, 57, 58, 59, 60, 61, 62, 63, 64, 65, 66, 67, 68, 69, 70, 71, 72, 73, 74, 75, 76, 77, 78, 79, 80, 81, 82, 83, 84, 85, 86, 87, 88, 89, 90, 91, 92, 93, 94, 95, 96, 97, 98, 99, 100, 101, 102, 103, 104] (by decide +kernel) (by decide +kernel)
set_option maxRecDepth 20000 in
theorem gX8_known_X8_measure : GoodIn wsX8_known (wsV RX8 157 RX8 yX8_measure wsX8_measure) := goodIn_app (goodIn_of _ (by decide +kernel)) ggX8_known_X8_measure
theorem dX8_known_0 : decode cX8_known 0 = .ok (.iconst 0, 1) := by decide +kernel
theorem dX8_known_1 : decode cX8_known 1 = .ok (.istore 4, 2) := by decide +kernel
theorem dX8_known_3 : decode cX8_known 3 = .ok (.iload 4, 2) := by decide +kernel
theorem dX8_known_5 : decode cX8_known 5 = .ok (.sipush 144, 3) := by decide +kernel
theorem dX8_known_8 : decode cX8_known 8 = .ok (.if_icmp .ge 108, 3) := by decide +kernel
theorem dX8_known_11 : decode cX8_known 11 = .ok (.aload_n 0, 1) := by decide +kernel
theorem dX8_known_12 : decode cX8_known 12 = .ok (.getfield 52, 3) := by decide +kernel
theorem dX8_known_15 : decode cX8_known 15 = .ok (.iload_n 3, 1) := by decide +kernel
theorem dX8_known_16 : decode cX8_known 16 = .ok (.baload, 1) := by decide +kernel
theorem dX8_known_17 : decode cX8_known 17 = .ok (.ifCond .ne 99, 3) := by decide +kernel
theorem dX8_known_20 : decode cX8_known 20 = .ok (.aload_n 0, 1) := by decide +kernel
theorem dX8_known_21 : decode cX8_known 21 = .ok (.iload 4, 2) := by decide +kernel
theorem dX8_known_23 : decode cX8_known 23 = .ok (.bipush 12, 2) := by decide +kernel
theorem dX8_known_25 : decode cX8_known 25 = .ok (.idiv, 1) := by decide +kernel
theorem dX8_known_26 : decode cX8_known 26 = .ok (.invokevirtual 109, 3) := by decide +kernel
theorem dX8_known_29 : decode cX8_known 29 = .ok (.ifCond .eq 81, 3) := by decide +kernel
theorem dX8_known_32 : decode cX8_known 32 = .ok (.aload_n 0, 1) := by decide +kernel
theorem dX8_known_33 : decode cX8_known 33 = .ok (.iload 4, 2) := by decide +kernel
theorem dX8_known_35 : decode cX8_known 35 = .ok (.bipush 12, 2) := by decide +kernel
theorem dX8_known_37 : decode cX8_known 37 = .ok (.irem, 1) := by decide +kernel
theorem dX8_known_38 : decode cX8_known 38 = .ok (.invokevirtual 109, 3) := by decide +kernel
theorem dX8_known_41 : decode cX8_known 41 = .ok (.ifCond .eq 69, 3) := by decide +kernel
theorem dX8_known_44 : decode cX8_known 44 = .ok (.aload_n 0, 1) := by decide +kernel
theorem dX8_known_45 : decode cX8_known 45 = .ok (.iload 4, 2) := by decide +kernel
theorem dX8_known_47 : decode cX8_known 47 = .ok (.bipush 12, 2) := by decide +kernel
theorem dX8_known_49 : decode cX8_known 49 = .ok (.idiv, 1) := by decide +kernel
theorem dX8_known_50 : decode cX8_known 50 = .ok (.iload 4, 2) := by decide +kernel
theorem dX8_known_52 : decode cX8_known 52 = .ok (.bipush 12, 2) := by decide +kernel
theorem dX8_known_54 : decode cX8_known 54 = .ok (.irem, 1) := by decide +kernel
theorem dX8_known_55 : decode cX8_known 55 = .ok (.invokevirtual 105, 3) := by decide +kernel
theorem dX8_known_58 : decode cX8_known 58 = .ok (.ifCond .eq 52, 3) := by decide +kernel
theorem dX8_known_61 : decode cX8_known 61 = .ok (.aload_n 0, 1) := by decide +kernel
theorem dX8_known_62 : decode cX8_known 62 = .ok (.iload 4, 2) := by decide +kernel
theorem dX8_known_64 : decode cX8_known 64 = .ok (.bipush 12, 2) := by decide +kernel
theorem dX8_known_66 : decode cX8_known 66 = .ok (.idiv, 1) := by decide +kernel
theorem dX8_known_67 : decode cX8_known 67 = .ok (.iload 4, 2) := by decide +kernel
theorem dX8_known_69 : decode cX8_known 69 = .ok (.bipush 12, 2) := by decide +kernel
theorem dX8_known_71 : decode cX8_known 71 = .ok (.irem, 1) := by decide +kernel
theorem dX8_known_72 : decode cX8_known 72 = .ok (.iload_n 3, 1) := by decide +kernel
theorem dX8_known_73 : decode cX8_known 73 = .ok (.invokevirtual 157, 3) := by decide +kernel
theorem dX8_known_76 : decode cX8_known 76 = .ok (.aload_n 0, 1) := by decide +kernel
theorem dX8_known_77 : decode cX8_known 77 = .ok (.getfield 45, 3) := by decide +kernel
theorem dX8_known_80 : decode cX8_known 80 = .ok (.sipush 144, 3) := by decide +kernel
theorem dX8_known_83 : decode cX8_known 83 = .ok (.iload_n 3, 1) := by decide +kernel
theorem dX8_known_84 : decode cX8_known 84 = .ok (.imul, 1) := by decide +kernel
theorem dX8_known_85 : decode cX8_known 85 = .ok (.iload 4, 2) := by decide +kernel
theorem dX8_known_87 : decode cX8_known 87 = .ok (.iadd, 1) := by decide +kernel
theorem dX8_known_88 : decode cX8_known 88 = .ok (.aload_n 0, 1) := by decide +kernel
theorem dX8_known_89 : decode cX8_known 89 = .ok (.getfield 136, 3) := by decide +kernel
theorem dX8_known_92 : decode cX8_known 92 = .ok (.lastore, 1) := by decide +kernel
theorem dX8_known_93 : decode cX8_known 93 = .ok (.aload_n 0, 1) := by decide +kernel
theorem dX8_known_94 : decode cX8_known 94 = .ok (.getfield 49, 3) := by decide +kernel
theorem dX8_known_97 : decode cX8_known 97 = .ok (.sipush 144, 3) := by decide +kernel
theorem dX8_known_100 : decode cX8_known 100 = .ok (.iload_n 3, 1) := by decide +kernel
theorem dX8_known_101 : decode cX8_known 101 = .ok (.imul, 1) := by decide +kernel
theorem dX8_known_102 : decode cX8_known 102 = .ok (.iload 4, 2) := by decide +kernel
theorem dX8_known_104 : decode cX8_known 104 = .ok (.iadd, 1) := by decide +kernel
theorem dX8_known_105 : decode cX8_known 105 = .ok (.aload_n 0, 1) := by decide +kernel
theorem dX8_known_106 : decode cX8_known 106 = .ok (.getfield 139, 3) := by decide +kernel
theorem dX8_known_109 : decode cX8_known 109 = .ok (.lastore, 1) := by decide +kernel
theorem dX8_known_110 : decode cX8_known 110 = .ok (.iinc 4 1, 3) := by decide +kernel
theorem dX8_known_113 : decode cX8_known 113 = .ok (.goto (-110), 3) := by decide +kernel
theorem dX8_known_116 : decode cX8_known 116 = .ok (.aload_n 0, 1) := by decide +kernel
theorem dX8_known_117 : decode cX8_known 117 = .ok (.getfield 52, 3) := by decide +kernel
theorem dX8_known_120 : decode cX8_known 120 = .ok (.iload_n 3, 1) := by decide +kernel
theorem dX8_known_121 : decode cX8_known 121 = .ok (.iconst 1, 1) := by decide +kernel
theorem dX8_known_122 : decode cX8_known 122 = .ok (.bastore, 1) := by decide +kernel
theorem dX8_known_123 : decode cX8_known 123 = .ok (.aload_n 0, 1) := by decide +kernel
theorem dX8_known_124 : decode cX8_known 124 = .ok (.aload_n 0, 1) := by decide +kernel
theorem dX8_known_125 : decode cX8_known 125 = .ok (.getfield 45, 3) := by decide +kernel
theorem dX8_known_128 : decode cX8_known 128 = .ok (.sipush 144, 3) := by decide +kernel
theorem dX8_known_131 : decode cX8_known 131 = .ok (.iload_n 3, 1) := by decide +kernel
theorem dX8_known_132 : decode cX8_known 132 = .ok (.imul, 1) := by decide +kernel
theorem dX8_known_133 : decode cX8_known 133 = .ok (.bipush 12, 2) := by decide +kernel
theorem dX8_known_135 : decode cX8_known 135 = .ok (.iload_n 1, 1) := by decide +kernel
theorem dX8_known_136 : decode cX8_known 136 = .ok (.imul, 1) := by decide +kernel
theorem dX8_known_137 : decode cX8_known 137 = .ok (.iadd, 1) := by decide +kernel
theorem dX8_known_138 : decode cX8_known 138 = .ok (.iload_n 2, 1) := by decide +kernel
theorem dX8_known_139 : decode cX8_known 139 = .ok (.iadd, 1) := by decide +kernel
theorem dX8_known_140 : decode cX8_known 140 = .ok (.laload, 1) := by decide +kernel
theorem dX8_known_141 : decode cX8_known 141 = .ok (.putfield 136, 3) := by decide +kernel
theorem dX8_known_144 : decode cX8_known 144 = .ok (.aload_n 0, 1) := by decide +kernel
theorem dX8_known_145 : decode cX8_known 145 = .ok (.aload_n 0, 1) := by decide +kernel
theorem dX8_known_146 : decode cX8_known 146 = .ok (.getfield 49, 3) := by decide +kernel
theorem dX8_known_149 : decode cX8_known 149 = .ok (.sipush 144, 3) := by decide +kernel
theorem dX8_known_152 : decode cX8_known 152 = .ok (.iload_n 3, 1) := by decide +kernel
theorem dX8_known_153 : decode cX8_known 153 = .ok (.imul, 1) := by decide +kernel
theorem dX8_known_154 : decode cX8_known 154 = .ok (.bipush 12, 2) := by decide +kernel
theorem dX8_known_156 : decode cX8_known 156 = .ok (.iload_n 1, 1) := by decide +kernel
theorem dX8_known_157 : decode cX8_known 157 = .ok (.imul, 1) := by decide +kernel
theorem dX8_known_158 : decode cX8_known 158 = .ok (.iadd, 1) := by decide +kernel
theorem dX8_known_159 : decode cX8_known 159 = .ok (.iload_n 2, 1) := by decide +kernel
theorem dX8_known_160 : decode cX8_known 160 = .ok (.iadd, 1) := by decide +kernel
theorem dX8_known_161 : decode cX8_known 161 = .ok (.laload, 1) := by decide +kernel
theorem dX8_known_162 : decode cX8_known 162 = .ok (.putfield 139, 3) := by decide +kernel
theorem dX8_known_165 : decode cX8_known 165 = .ok (.return_, 1) := by decide +kernel
set_option maxRecDepth 20000 in
theorem ggX8_measure_X8_leads : GoodIn wsX8_measure wsX8_leads := goodIn_r _ [7, 8, 9, 58, 59, 60, 61, 62, 63, 64, 65, 66, 67, 68, 69, 70, 71, 72, 73, 74, 75, 76, 77, 78, 79, 80, 81, 82, 83, 84, 85, 86, 87, 88, 89] (by decide +kernel) (by decide +kernel)
set_option maxRecDepth 20000 in
theorem gX8_measure_X8_leads : GoodIn wsX8_measure (wsV RX8 127 RX8 yX8_leads wsX8_leads) := goodIn_app (goodIn_of _ (by decide +kernel)) ggX8_measure_X8_leads
set_option maxRecDepth 20000 in
theorem ggX8_measure_X8_isInB : GoodIn wsX8_measure wsX8_isInB := goodIn_r _ [13, 14, 1, 3, 4, 5, 6, 7, 8, 9, 58, 59, 60, 61, 62, 63, 64, 65, 66, 67, 68, 69, 70, 71, 72, 73, 74, 75, 76, 77, 78, 79, 80, 81, 82, 83, 84, 85, 86, 87, 88, 89] (by decide +kernel) (by decide +kernel)
set_option maxRecDepth 20000 in
theorem gX8_measure_X8_isInB : GoodIn wsX8_measure (wsV RX8 161 RX8 yX8_isInB wsX8_isInB) := goodIn_app (goodIn_of _ (by decide +kernel)) ggX8_measure_X8_isInB
set_option maxRecDepth 20000 in
theorem ggX8_measure_X8_make : GoodIn wsX8_measure wsX8_make := goodIn_r _ [18, 19, 20, 21, 22, 6, 23, 58, 59, 60, 61, 62, 63, 64, 65, 66, 67, 68, 69, 70, 71, 72, 73, 74, 75, 76, 77, 78, 79, 80, 81, 82, 83, 84, 85, 86, 87, 88, 89] (by decide +kernel) (by decide +kernel)
set_option maxRecDepth 20000 in
theorem gX8_measure_X8_make : GoodIn wsX8_measure (wsV RX8 146 RX8 yX8_make wsX8_make) := goodIn_app (goodIn_of _ (by decide +kernel)) ggX8_measure_X8_make
set_option maxRecDepth 20000 in
theorem ggX8_measure_X8_outs : GoodIn wsX8_measure wsX8_outs := goodIn_r _ [27, 1, 3, 4, 5, 6, 7, 8, 9, 58, 59, 60, 61, 62, 63, 64, 65, 66, 67, 68, 69, 70, 71, 72, 73, 74, 75, 76, 77, 78, 79, 80, 81, 82, 83, 84, 85, 86, 87, 88, 89] (by decide +kernel) (by decide +kernel)
set_option maxRecDepth 20000 in
theorem gX8_measure_X8_outs : GoodIn wsX8_measure (wsV RX8 150 RX8 yX8_outs wsX8_outs) := goodIn_app (goodIn_of _ (by decide +kernel)) ggX8_measure_X8_outs
set_option maxRecDepth 20000 in
theorem ggX8_measure_X8_plus : GoodIn wsX8_measure wsX8_plus := goodIn_r _ [31, 20, 19, 21, 22, 6, 23, 15, 16, 17, 18, 58, 59, 60, 61, 62, 63, 64, 65, 66, 67, 68, 69, 70, 71, 72, 73, 74, 75, 76, 77, 78, 79, 80, 81, 82, 83, 84, 85, 86, 87, 88, 89] (by decide +kernel) (by decide +kernel)
set_option maxRecDepth 20000 in
theorem gX8_measure_X8_plus : GoodIn wsX8_measure (wsV RX8 154 RX8 yX8_plus wsX8_plus) := goodIn_app (goodIn_of _ (by decide +kernel)) ggX8_measure_X8_plus
set_option maxRecDepth 20000 in
theorem ggX8_measure_X8_ins : GoodIn wsX8_measure wsX8_ins := goodIn_r _ [35, 1, 3, 4, 5, 6, 7, 8, 9, 58, 59, 60, 61, 62, 63, 64, 65, 66, 67, 68, 69, 70, 71, 72, 73, 74, 75, 76, 77, 78, 79, 80, 81, 82, 83, 84, 85, 86, 87, 88, 89] (by decide +kernel) (by decide +kernel)
set_option maxRecDepth 20000 in
theorem gX8_measure_X8_ins : GoodIn wsX8_measure (wsV RX8 166 RX8 yX8_ins wsX8_ins) := goodIn_app (goodIn_of _ (by decide +kernel)) ggX8_measure_X8_ins
set_option maxRecDepth 20000 in
theorem ggX8_measure_X8_walks : GoodIn wsX8_measure wsX8_walks := goodIn_r _ [39, 1, 40, 41, 3, 4, 5, 6, 7, 8, 9, 58, 59, 60, 61, 62, 63, 64, 65, 66, 67, 68, 69, 70, 71, 72, 73, 74, 75, 76, 77, 78, 79, 80, 81, 82, 83, 84, 85, 86, 87, 88, 89] (by decide +kernel) (by decide +kernel)
set_option maxRecDepth 20000 in
theorem gX8_measure_X8_walks : GoodIn wsX8_measure (wsV RX8 169 RX8 yX8_walks wsX8_walks) := goodIn_app (goodIn_of _ (by decide +kernel)) ggX8_measure_X8_walks
set_option maxRecDepth 20000 in
theorem ggX8_measure_X8_steps : GoodIn wsX8_measure wsX8_steps := goodIn_r _ [45, 1, 46, 47, 3, 4, 5, 6, 7, 8, 9, 58, 59, 60, 61, 62, 63, 64, 65, 66, 67, 68, 69, 70, 71, 72, 73, 74, 75, 76, 77, 78, 79, 80, 81, 82, 83, 84, 85, 86, 87, 88, 89] (by decide +kernel) (by decide +kernel)
set_option maxRecDepth 20000 in
theorem gX8_measure_X8_steps : GoodIn wsX8_measure (wsV RX8 173 RX8 yX8_steps wsX8_steps) := goodIn_app (goodIn_of _ (by decide +kernel)) ggX8_measure_X8_steps
set_option maxRecDepth 20000 in
theorem ggX8_measure_X8_wander : GoodIn wsX8_measure wsX8_wander := goodIn_r _ [51, 52, 1, 3, 4, 5, 6, 7, 8, 9, 24, 25, 26, 27, 15, 16, 17, 18, 19, 20, 21, 22, 23, 28, 29, 30, 31, 58, 59, 60, 61, 62, 63, 64, 65, 66, 67, 68, 69, 70, 71, 72, 73, 74, 75, 76, 77, 78, 79, 80, 81, 82, 83, 84, 85, 86, 87, 88, 89] (by decide +kernel) (by decide +kernel)
set_option maxRecDepth 20000 in
theorem gX8_measure_X8_wander : GoodIn wsX8_measure (wsV RX8 175 RX8 yX8_wander wsX8_wander) := goodIn_app (goodIn_of _ (by decide +kernel)) ggX8_measure_X8_wander
set_option maxRecDepth 20000 in
theorem ggX8_measure_X8_grouped : GoodIn wsX8_measure wsX8_grouped := goodIn_r _ [56, 57, 1, 3, 4, 5, 6, 7, 8, 9, 15, 16, 17, 18, 19, 20, 21, 22, 23, 58, 59, 60, 61, 62, 63, 64, 65, 66, 67, 68, 69, 70, 71, 72, 73, 74, 75, 76, 77, 78, 79, 80, 81, 82, 83, 84, 85, 86, 87, 88, 89] (by decide +kernel) (by decide +kernel)
set_option maxRecDepth 20000 in
theorem gX8_measure_X8_grouped : GoodIn wsX8_measure (wsV RX8 179 RX8 yX8_grouped wsX8_grouped) := goodIn_app (goodIn_of _ (by decide +kernel)) ggX8_measure_X8_grouped
theorem dX8_measure_0 : decode cX8_measure 0 = .ok (.lconst 0, 1) := by decide +kernel
theorem dX8_measure_1 : decode cX8_measure 1 = .ok (.lstore 4, 2) := by decide +kernel
theorem dX8_measure_3 : decode cX8_measure 3 = .ok (.lconst 0, 1) := by decide +kernel
theorem dX8_measure_4 : decode cX8_measure 4 = .ok (.lstore 6, 2) := by decide +kernel
theorem dX8_measure_6 : decode cX8_measure 6 = .ok (.lconst 0, 1) := by decide +kernel
theorem dX8_measure_7 : decode cX8_measure 7 = .ok (.lstore 8, 2) := by decide +kernel
theorem dX8_measure_9 : decode cX8_measure 9 = .ok (.iconst 0, 1) := by decide +kernel
theorem dX8_measure_10 : decode cX8_measure 10 = .ok (.istore 10, 2) := by decide +kernel
theorem dX8_measure_12 : decode cX8_measure 12 = .ok (.iload 10, 2) := by decide +kernel
theorem dX8_measure_14 : decode cX8_measure 14 = .ok (.aload_n 0, 1) := by decide +kernel
theorem dX8_measure_15 : decode cX8_measure 15 = .ok (.getfield 7, 3) := by decide +kernel
theorem dX8_measure_18 : decode cX8_measure 18 = .ok (.if_icmp .ge 77, 3) := by decide +kernel
theorem dX8_measure_21 : decode cX8_measure 21 = .ok (.aload_n 0, 1) := by decide +kernel
theorem dX8_measure_22 : decode cX8_measure 22 = .ok (.iload_n 1, 1) := by decide +kernel
theorem dX8_measure_23 : decode cX8_measure 23 = .ok (.iload 10, 2) := by decide +kernel
theorem dX8_measure_25 : decode cX8_measure 25 = .ok (.invokevirtual 127, 3) := by decide +kernel
theorem dX8_measure_28 : decode cX8_measure 28 = .ok (.istore 11, 2) := by decide +kernel
theorem dX8_measure_30 : decode cX8_measure 30 = .ok (.aload_n 0, 1) := by decide +kernel
theorem dX8_measure_31 : decode cX8_measure 31 = .ok (.iload 10, 2) := by decide +kernel
theorem dX8_measure_33 : decode cX8_measure 33 = .ok (.iload_n 2, 1) := by decide +kernel
theorem dX8_measure_34 : decode cX8_measure 34 = .ok (.invokevirtual 161, 3) := by decide +kernel
theorem dX8_measure_37 : decode cX8_measure 37 = .ok (.istore 12, 2) := by decide +kernel
theorem dX8_measure_39 : decode cX8_measure 39 = .ok (.lload 4, 2) := by decide +kernel
theorem dX8_measure_41 : decode cX8_measure 41 = .ok (.iload 11, 2) := by decide +kernel
theorem dX8_measure_43 : decode cX8_measure 43 = .ok (.ifCond .eq 12, 3) := by decide +kernel
theorem dX8_measure_46 : decode cX8_measure 46 = .ok (.iload 12, 2) := by decide +kernel
theorem dX8_measure_48 : decode cX8_measure 48 = .ok (.ifCond .eq 7, 3) := by decide +kernel
theorem dX8_measure_51 : decode cX8_measure 51 = .ok (.lconst 1, 1) := by decide +kernel
theorem dX8_measure_52 : decode cX8_measure 52 = .ok (.goto 4, 3) := by decide +kernel
theorem dX8_measure_55 : decode cX8_measure 55 = .ok (.lconst 0, 1) := by decide +kernel
theorem dX8_measure_56 : decode cX8_measure 56 = .ok (.ladd, 1) := by decide +kernel
theorem dX8_measure_57 : decode cX8_measure 57 = .ok (.lstore 4, 2) := by decide +kernel
theorem dX8_measure_59 : decode cX8_measure 59 = .ok (.lload 6, 2) := by decide +kernel
