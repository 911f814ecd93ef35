theorem dX7_weight_22 : decode cX7_weight 22 = .ok (.ireturn, 1) := by decide +kernel
set_option maxRecDepth 20000 in
theorem ggX7_score_X6_pairFor : GoodIn wsX7_score wsX6_pairFor := goodIn_r _ [9, 10, 11, 12, 13, 7, 14, 15, 118, 119, 120, 121, 122, 123, 124, 125, 126, 127, 128, 129, 130] (by decide +kernel) (by decide +kernel)
set_option maxRecDepth 20000 in
theorem gX7_score_X6_pairFor_n74 : GoodIn wsX7_score (wsX6_pairFor) := ggX7_score_X6_pairFor
set_option maxRecDepth 20000 in
theorem ggX7_score_X7_isMeasure : GoodIn wsX7_score wsX7_isMeasure := goodIn_r _ [19, 20, 21, 18, 22] (by decide +kernel) (by decide +kernel)
set_option maxRecDepth 20000 in
theorem gX7_score_X7_isMeasure : GoodIn wsX7_score (va_wsS RX7 126 yX7_isMeasure wsX7_isMeasure) := goodIn_app (goodIn_of _ (by decide +kernel)) ggX7_score_X7_isMeasure
set_option maxRecDepth 20000 in
theorem ggX7_score_X5_mixOf : GoodIn wsX7_score wsX5_mixOf := goodIn_r _ [26, 27, 28, 29, 30, 31, 32, 33, 34, 35, 36, 37, 7, 38, 39, 40, 41, 42, 43, 44, 45, 15, 46, 47, 48, 49, 50, 51, 52, 53, 54, 55, 56, 57, 58, 59, 60, 61, 62, 63, 64, 65, 66, 67, 68, 69, 70, 71, 72, 73, 74, 75, 76, 77, 78, 79, 80, 81, 82, 83, 84, 85, 86, 87, 88, 89, 90, 91, 92, 93, 94, 95, 96, 97, 98, 131, 132, 133, 134, 135, 136, 118, 119, 120, 121, 122, 123, 124, 125, 126, 127, 128, 129, 130] (by decide +kernel) (by decide +kernel)
set_option maxRecDepth 20000 in
theorem gX7_score_X5_mixOf_n132 : GoodIn wsX7_score (wsX5_mixOf) := ggX7_score_X5_mixOf
set_option maxRecDepth 20000 in
theorem ggX7_score_X4_partsOf : GoodIn wsX7_score wsX4_partsOf := goodIn_r _ [32, 33, 34, 35, 36, 37, 7, 38, 39, 40, 41, 42, 43, 44, 45, 15, 46, 47, 48, 49, 50, 51, 30, 52, 53, 54, 55, 56, 57, 58, 59, 60, 61, 62, 63, 64, 65, 66, 67, 68, 69, 70, 71, 72, 73, 74, 75, 76, 77, 78, 79, 80, 81, 82, 83, 84, 85, 86, 87, 88, 89, 90, 91, 92, 93, 94, 95, 96, 97, 98, 133, 134, 135, 136, 118, 119, 120, 121, 122, 123, 124, 125, 126, 127, 128, 129, 130] (by decide +kernel) (by decide +kernel)
set_option maxRecDepth 20000 in
theorem gX7_score_X4_partsOf_n136 : GoodIn wsX7_score (wsX4_partsOf) := ggX7_score_X4_partsOf
set_option maxRecDepth 20000 in
theorem ggX7_score_X0_show : GoodIn wsX7_score wsX0_show := goodIn_r _ [102, 103, 104, 55, 105, 106, 107, 108, 109, 100, 110, 137, 138] (by decide +kernel) (by decide +kernel)
set_option maxRecDepth 20000 in
theorem gX7_score_X0_show_n142 : GoodIn wsX7_score (wsX0_show) := ggX7_score_X0_show
theorem dX7_score_0 : decode cX7_score 0 = .ok (.aload_n 0, 1) := by decide +kernel
theorem dX7_score_1 : decode cX7_score 1 = .ok (.getfield 12, 3) := by decide +kernel
theorem dX7_score_4 : decode cX7_score 4 = .ok (.iload_n 1, 1) := by decide +kernel
theorem dX7_score_5 : decode cX7_score 5 = .ok (.iload_n 2, 1) := by decide +kernel
theorem dX7_score_6 : decode cX7_score 6 = .ok (.invokevirtual 74, 3) := by decide +kernel
theorem dX7_score_9 : decode cX7_score 9 = .ok (.istore 4, 2) := by decide +kernel
theorem dX7_score_11 : decode cX7_score 11 = .ok (.iload 4, 2) := by decide +kernel
theorem dX7_score_13 : decode cX7_score 13 = .ok (.iconst (-1), 1) := by decide +kernel
theorem dX7_score_14 : decode cX7_score 14 = .ok (.if_icmp .ne 5, 3) := by decide +kernel
theorem dX7_score_17 : decode cX7_score 17 = .ok (.iconst (-1), 1) := by decide +kernel
theorem dX7_score_18 : decode cX7_score 18 = .ok (.ireturn, 1) := by decide +kernel
theorem dX7_score_19 : decode cX7_score 19 = .ok (.iload_n 3, 1) := by decide +kernel
theorem dX7_score_20 : decode cX7_score 20 = .ok (.invokestatic 126, 3) := by decide +kernel
theorem dX7_score_23 : decode cX7_score 23 = .ok (.ifCond .ne 12, 3) := by decide +kernel
theorem dX7_score_26 : decode cX7_score 26 = .ok (.iload_n 3, 1) := by decide +kernel
theorem dX7_score_27 : decode cX7_score 27 = .ok (.bipush 11, 2) := by decide +kernel
theorem dX7_score_29 : decode cX7_score 29 = .ok (.if_icmp .eq 6, 3) := by decide +kernel
theorem dX7_score_32 : decode cX7_score 32 = .ok (.bipush (-2), 2) := by decide +kernel
theorem dX7_score_34 : decode cX7_score 34 = .ok (.ireturn, 1) := by decide +kernel
theorem dX7_score_35 : decode cX7_score 35 = .ok (.iload_n 3, 1) := by decide +kernel
theorem dX7_score_36 : decode cX7_score 36 = .ok (.bipush 11, 2) := by decide +kernel
theorem dX7_score_38 : decode cX7_score 38 = .ok (.if_icmp .ne 15, 3) := by decide +kernel
theorem dX7_score_41 : decode cX7_score 41 = .ok (.aload_n 0, 1) := by decide +kernel
theorem dX7_score_42 : decode cX7_score 42 = .ok (.getfield 30, 3) := by decide +kernel
theorem dX7_score_45 : decode cX7_score 45 = .ok (.iload 4, 2) := by decide +kernel
theorem dX7_score_47 : decode cX7_score 47 = .ok (.invokevirtual 132, 3) := by decide +kernel
theorem dX7_score_50 : decode cX7_score 50 = .ok (.goto 13, 3) := by decide +kernel
theorem dX7_score_53 : decode cX7_score 53 = .ok (.aload_n 0, 1) := by decide +kernel
theorem dX7_score_54 : decode cX7_score 54 = .ok (.getfield 21, 3) := by decide +kernel
theorem dX7_score_57 : decode cX7_score 57 = .ok (.iload_n 3, 1) := by decide +kernel
theorem dX7_score_58 : decode cX7_score 58 = .ok (.iload 4, 2) := by decide +kernel
theorem dX7_score_60 : decode cX7_score 60 = .ok (.invokevirtual 136, 3) := by decide +kernel
theorem dX7_score_63 : decode cX7_score 63 = .ok (.lstore 5, 2) := by decide +kernel
theorem dX7_score_65 : decode cX7_score 65 = .ok (.aload_n 0, 1) := by decide +kernel
theorem dX7_score_66 : decode cX7_score 66 = .ok (.getfield 58, 3) := by decide +kernel
theorem dX7_score_69 : decode cX7_score 69 = .ok (.lload 5, 2) := by decide +kernel
theorem dX7_score_71 : decode cX7_score 71 = .ok (.ldc2_w 140, 3) := by decide +kernel
theorem dX7_score_74 : decode cX7_score 74 = .ok (.invokevirtual 142, 3) := by decide +kernel
theorem dX7_score_77 : decode cX7_score 77 = .ok (.iconst 1, 1) := by decide +kernel
theorem dX7_score_78 : decode cX7_score 78 = .ok (.ireturn, 1) := by decide +kernel
theorem dX7_top_0 : decode cX7_top 0 = .ok (.aload_n 0, 1) := by decide +kernel
theorem dX7_top_1 : decode cX7_top 1 = .ok (.getfield 58, 3) := by decide +kernel
theorem dX7_top_4 : decode cX7_top 4 = .ok (.getfield 146, 3) := by decide +kernel
theorem dX7_top_7 : decode cX7_top 7 = .ok (.lreturn, 1) := by decide +kernel
theorem dX7_bottom_0 : decode cX7_bottom 0 = .ok (.aload_n 0, 1) := by decide +kernel
theorem dX7_bottom_1 : decode cX7_bottom 1 = .ok (.getfield 58, 3) := by decide +kernel
theorem dX7_bottom_4 : decode cX7_bottom 4 = .ok (.getfield 150, 3) := by decide +kernel
theorem dX7_bottom_7 : decode cX7_bottom 7 = .ok (.lreturn, 1) := by decide +kernel
set_option maxRecDepth 20000 in
theorem ggX7_ranked_X6_candidateTotal : GoodIn wsX7_ranked wsX6_candidateTotal := goodIn_r _ [6, 7, 8, 9, 10, 11, 4, 12, 13, 14, 131, 132, 133, 134, 135, 136, 137, 138, 139, 140, 141, 142, 143] (by decide +kernel) (by decide +kernel)
set_option maxRecDepth 20000 in
theorem gX7_ranked_X6_candidateTotal_n119 : GoodIn wsX7_ranked (wsX6_candidateTotal) := ggX7_ranked_X6_candidateTotal
set_option maxRecDepth 20000 in
theorem ggX7_ranked_X7_rankAll : GoodIn wsX7_ranked wsX7_rankAll := goodIn_r _ [19, 2, 20, 21, 22, 23, 24, 25, 26, 27, 28, 29, 30, 31, 32, 33, 34, 35, 36, 37, 38, 39, 40, 41, 42, 43, 44, 45, 46, 47, 48, 49, 50, 51, 52, 53, 54, 4, 55, 56, 57, 58, 59, 60, 61, 62, 63, 64, 65, 66, 67, 68, 69, 70, 71, 72, 73, 74, 75, 76, 77, 78, 79, 80, 81, 82, 83, 84, 85, 86, 87, 88, 89, 90, 91, 92, 93, 94, 95, 96, 97, 98, 99, 100, 101, 102, 103, 104, 105, 106, 107, 108, 109, 110, 111, 112, 113, 114, 115, 116, 117, 118, 119, 120, 124, 125, 126, 127, 128, 129, 130, 144, 145, 146, 147, 148, 149, 150, 151, 152, 131, 132, 133, 134, 135, 136, 137, 138, 139, 140, 141, 142, 143, 153, 154, 155, 156, 157, 158] (by decide +kernel) (by decide +kernel)
set_option maxRecDepth 20000 in
theorem gX7_ranked_X7_rankAll : GoodIn wsX7_ranked (wsV RX7 153 RX7 yX7_rankAll wsX7_rankAll) := goodIn_app (goodIn_of _ (by decide +kernel)) ggX7_ranked_X7_rankAll
set_option maxRecDepth 20000 in
theorem ggX7_ranked_X1_pairAtPlace : GoodIn wsX7_ranked wsX1_pairAtPlace := goodIn_r _ [123, 35, 120, 144, 145, 146, 147, 148, 149, 150, 151, 152] (by decide +kernel) (by decide +kernel)
set_option maxRecDepth 20000 in
theorem gX7_ranked_X1_pairAtPlace_n156 : GoodIn wsX7_ranked (wsX1_pairAtPlace) := ggX7_ranked_X1_pairAtPlace
theorem dX7_ranked_0 : decode cX7_ranked 0 = .ok (.iload_n 1, 1) := by decide +kernel
theorem dX7_ranked_1 : decode cX7_ranked 1 = .ok (.ifCond .lt 14, 3) := by decide +kernel
theorem dX7_ranked_4 : decode cX7_ranked 4 = .ok (.iload_n 1, 1) := by decide +kernel
theorem dX7_ranked_5 : decode cX7_ranked 5 = .ok (.aload_n 0, 1) := by decide +kernel
theorem dX7_ranked_6 : decode cX7_ranked 6 = .ok (.getfield 12, 3) := by decide +kernel
theorem dX7_ranked_9 : decode cX7_ranked 9 = .ok (.invokevirtual 119, 3) := by decide +kernel
theorem dX7_ranked_12 : decode cX7_ranked 12 = .ok (.if_icmp .lt 6, 3) := by decide +kernel
theorem dX7_ranked_15 : decode cX7_ranked 15 = .ok (.bipush (-2), 2) := by decide +kernel
theorem dX7_ranked_17 : decode cX7_ranked 17 = .ok (.ireturn, 1) := by decide +kernel
theorem dX7_ranked_18 : decode cX7_ranked 18 = .ok (.aload_n 0, 1) := by decide +kernel
theorem dX7_ranked_19 : decode cX7_ranked 19 = .ok (.invokevirtual 153, 3) := by decide +kernel
theorem dX7_ranked_22 : decode cX7_ranked 22 = .ok (.aload_n 0, 1) := by decide +kernel
theorem dX7_ranked_23 : decode cX7_ranked 23 = .ok (.getfield 37, 3) := by decide +kernel
theorem dX7_ranked_26 : decode cX7_ranked 26 = .ok (.iload_n 1, 1) := by decide +kernel
theorem dX7_ranked_27 : decode cX7_ranked 27 = .ok (.invokevirtual 156, 3) := by decide +kernel
theorem dX7_ranked_30 : decode cX7_ranked 30 = .ok (.istore_n 2, 1) := by decide +kernel
theorem dX7_ranked_31 : decode cX7_ranked 31 = .ok (.bipush 16, 2) := by decide +kernel
theorem dX7_ranked_33 : decode cX7_ranked 33 = .ok (.aload_n 0, 1) := by decide +kernel
theorem dX7_ranked_34 : decode cX7_ranked 34 = .ok (.getfield 12, 3) := by decide +kernel
theorem dX7_ranked_37 : decode cX7_ranked 37 = .ok (.getfield 160, 3) := by decide +kernel
theorem dX7_ranked_40 : decode cX7_ranked 40 = .ok (.iload_n 2, 1) := by decide +kernel
theorem dX7_ranked_41 : decode cX7_ranked 41 = .ok (.iaload, 1) := by decide +kernel
theorem dX7_ranked_42 : decode cX7_ranked 42 = .ok (.imul, 1) := by decide +kernel
theorem dX7_ranked_43 : decode cX7_ranked 43 = .ok (.aload_n 0, 1) := by decide +kernel
theorem dX7_ranked_44 : decode cX7_ranked 44 = .ok (.getfield 12, 3) := by decide +kernel
theorem dX7_ranked_47 : decode cX7_ranked 47 = .ok (.getfield 163, 3) := by decide +kernel
theorem dX7_ranked_50 : decode cX7_ranked 50 = .ok (.iload_n 2, 1) := by decide +kernel
theorem dX7_ranked_51 : decode cX7_ranked 51 = .ok (.iaload, 1) := by decide +kernel
theorem dX7_ranked_52 : decode cX7_ranked 52 = .ok (.iadd, 1) := by decide +kernel
theorem dX7_ranked_53 : decode cX7_ranked 53 = .ok (.ireturn, 1) := by decide +kernel
set_option maxRecDepth 20000 in
theorem ggX7_place_X6_pairFor : GoodIn wsX7_place wsX6_pairFor := goodIn_r _ [6, 7, 8, 9, 10, 4, 11, 12, 132, 133, 134, 135, 136, 137, 138, 139, 140, 141, 142, 143, 144] (by decide +kernel) (by decide +kernel)
set_option maxRecDepth 20000 in
theorem gX7_place_X6_pairFor_n74 : GoodIn wsX7_place (wsX6_pairFor) := ggX7_place_X6_pairFor
set_option maxRecDepth 20000 in
theorem ggX7_place_X7_rankAll : GoodIn wsX7_place wsX7_rankAll := goodIn_r _ [17, 2, 18, 19, 20, 21, 22, 23, 24, 25, 26, 27, 28, 29, 30, 31, 32, 33, 34, 35, 36, 37, 38, 39, 40, 41, 42, 43, 44, 45, 46, 47, 48, 49, 50, 51, 52, 4, 53, 54, 55, 56, 57, 58, 59, 60, 12, 61, 62, 63, 64, 65, 66, 67, 68, 69, 70, 71, 72, 73, 74, 75, 76, 77, 78, 79, 80, 81, 82, 83, 84, 85, 86, 87, 88, 89, 90, 91, 92, 93, 94, 95, 96, 97, 98, 99, 100, 101, 102, 103, 104, 105, 106, 107, 108, 109, 110, 111, 112, 113, 114, 115, 116, 117, 125, 126, 127, 128, 129, 130, 131, 145, 146, 147, 148, 149, 150, 151, 152, 153, 132, 133, 134, 135, 136, 137, 138, 139, 140, 141, 142, 143, 144, 154, 155, 156, 157, 158, 159] (by decide +kernel) (by decide +kernel)
set_option maxRecDepth 20000 in
theorem gX7_place_X7_rankAll : GoodIn wsX7_place (wsV RX7 153 RX7 yX7_rankAll wsX7_rankAll) := goodIn_app (goodIn_of _ (by decide +kernel)) ggX7_place_X7_rankAll
set_option maxRecDepth 20000 in
theorem ggX7_place_X1_placeOfPair : GoodIn wsX7_place wsX1_placeOfPair := goodIn_r _ [120, 23, 121, 122, 123, 20, 124, 33, 117, 145, 146, 147, 148, 149, 150, 151, 152, 153] (by decide +kernel) (by decide +kernel)
set_option maxRecDepth 20000 in
theorem gX7_place_X1_placeOfPair_n166 : GoodIn wsX7_place (wsX1_placeOfPair) := ggX7_place_X1_placeOfPair
theorem dX7_place_0 : decode cX7_place 0 = .ok (.aload_n 0, 1) := by decide +kernel
theorem dX7_place_1 : decode cX7_place 1 = .ok (.getfield 12, 3) := by decide +kernel
theorem dX7_place_4 : decode cX7_place 4 = .ok (.iload_n 1, 1) := by decide +kernel
theorem dX7_place_5 : decode cX7_place 5 = .ok (.iload_n 2, 1) := by decide +kernel
theorem dX7_place_6 : decode cX7_place 6 = .ok (.invokevirtual 74, 3) := by decide +kernel
theorem dX7_place_9 : decode cX7_place 9 = .ok (.istore_n 3, 1) := by decide +kernel
theorem dX7_place_10 : decode cX7_place 10 = .ok (.iload_n 3, 1) := by decide +kernel
theorem dX7_place_11 : decode cX7_place 11 = .ok (.iconst (-1), 1) := by decide +kernel
theorem dX7_place_12 : decode cX7_place 12 = .ok (.if_icmp .ne 5, 3) := by decide +kernel
theorem dX7_place_15 : decode cX7_place 15 = .ok (.iconst (-1), 1) := by decide +kernel
theorem dX7_place_16 : decode cX7_place 16 = .ok (.ireturn, 1) := by decide +kernel
theorem dX7_place_17 : decode cX7_place 17 = .ok (.aload_n 0, 1) := by decide +kernel
theorem dX7_place_18 : decode cX7_place 18 = .ok (.getfield 12, 3) := by decide +kernel
theorem dX7_place_21 : decode cX7_place 21 = .ok (.getfield 78, 3) := by decide +kernel
theorem dX7_place_24 : decode cX7_place 24 = .ok (.iload_n 3, 1) := by decide +kernel
theorem dX7_place_25 : decode cX7_place 25 = .ok (.iaload, 1) := by decide +kernel
theorem dX7_place_26 : decode cX7_place 26 = .ok (.iconst 1, 1) := by decide +kernel
theorem dX7_place_27 : decode cX7_place 27 = .ok (.if_icmp .ne 6, 3) := by decide +kernel
theorem dX7_place_30 : decode cX7_place 30 = .ok (.bipush (-3), 2) := by decide +kernel
theorem dX7_place_32 : decode cX7_place 32 = .ok (.ireturn, 1) := by decide +kernel
theorem dX7_place_33 : decode cX7_place 33 = .ok (.aload_n 0, 1) := by decide +kernel
theorem dX7_place_34 : decode cX7_place 34 = .ok (.invokevirtual 153, 3) := by decide +kernel
theorem dX7_place_37 : decode cX7_place 37 = .ok (.aload_n 0, 1) := by decide +kernel
theorem dX7_place_38 : decode cX7_place 38 = .ok (.getfield 37, 3) := by decide +kernel
theorem dX7_place_41 : decode cX7_place 41 = .ok (.iload_n 3, 1) := by decide +kernel
theorem dX7_place_42 : decode cX7_place 42 = .ok (.invokevirtual 166, 3) := by decide +kernel
theorem dX7_place_45 : decode cX7_place 45 = .ok (.ireturn, 1) := by decide +kernel
set_option maxRecDepth 20000 in
theorem ggX7_among_X6_candidateTotal : GoodIn wsX7_among wsX6_candidateTotal := goodIn_r _ [6, 7, 8, 9, 10, 11, 4, 12, 13, 14, 135, 136, 137, 138, 139, 140, 141, 142, 143, 144, 145, 146, 147] (by decide +kernel) (by decide +kernel)
set_option maxRecDepth 20000 in
theorem gX7_among_X6_candidateTotal_n119 : GoodIn wsX7_among (wsX6_candidateTotal) := ggX7_among_X6_candidateTotal
set_option maxRecDepth 20000 in
theorem ggX7_among_X7_rankAll : GoodIn wsX7_among wsX7_rankAll := goodIn_r _ [19, 2, 20, 21, 22, 23, 24, 25, 26, 27, 28, 29, 30, 31, 32, 33, 34, 35, 36, 37, 38, 39, 40, 41, 42, 43, 44, 45, 46, 47, 48, 49, 50, 51, 52, 53, 54, 4, 55, 56, 57, 58, 59, 60, 61, 62, 63, 64, 65, 66, 67, 68, 69, 70, 71, 72, 73, 74, 75, 76, 77, 78, 79, 80, 81, 82, 83, 84, 85, 86, 87, 88, 89, 90, 91, 92, 93, 94, 95, 96, 97, 98, 99, 100, 101, 102, 103, 104, 105, 106, 107, 108, 109, 110, 111, 112, 113, 114, 115, 116, 117, 118, 119, 120, 128, 129, 130, 131, 132, 133, 134, 148, 149, 150, 151, 152, 153, 154, 155, 156, 135, 136, 137, 138, 139, 140, 141, 142, 143, 144, 145, 146, 147, 157, 158, 159, 160, 161, 162] (by decide +kernel) (by decide +kernel)
set_option maxRecDepth 20000 in
theorem gX7_among_X7_rankAll : GoodIn wsX7_among (wsV RX7 153 RX7 yX7_rankAll wsX7_rankAll) := goodIn_app (goodIn_of _ (by decide +kernel)) ggX7_among_X7_rankAll
set_option maxRecDepth 20000 in
theorem ggX7_among_X1_foundInFirst : GoodIn wsX7_among wsX1_foundInFirst := goodIn_r _ [123, 28, 124, 125, 126, 22, 127, 35, 120, 148, 149, 150, 151, 152, 153, 154, 155, 156, 135, 136, 137, 138, 139, 140, 141, 142, 143, 144, 145, 146, 147] (by decide +kernel) (by decide +kernel)
set_option maxRecDepth 20000 in
theorem gX7_among_X1_foundInFirst_n169 : GoodIn wsX7_among (wsX1_foundInFirst) := ggX7_among_X1_foundInFirst
theorem dX7_among_0 : decode cX7_among 0 = .ok (.iload_n 1, 1) := by decide +kernel
theorem dX7_among_1 : decode cX7_among 1 = .ok (.ifCond .lt 14, 3) := by decide +kernel
theorem dX7_among_4 : decode cX7_among 4 = .ok (.iload_n 1, 1) := by decide +kernel
theorem dX7_among_5 : decode cX7_among 5 = .ok (.aload_n 0, 1) := by decide +kernel
theorem dX7_among_6 : decode cX7_among 6 = .ok (.getfield 12, 3) := by decide +kernel
theorem dX7_among_9 : decode cX7_among 9 = .ok (.invokevirtual 119, 3) := by decide +kernel
theorem dX7_among_12 : decode cX7_among 12 = .ok (.if_icmp .le 6, 3) := by decide +kernel
theorem dX7_among_15 : decode cX7_among 15 = .ok (.bipush (-2), 2) := by decide +kernel
theorem dX7_among_17 : decode cX7_among 17 = .ok (.ireturn, 1) := by decide +kernel
theorem dX7_among_18 : decode cX7_among 18 = .ok (.aload_n 0, 1) := by decide +kernel
theorem dX7_among_19 : decode cX7_among 19 = .ok (.invokevirtual 153, 3) := by decide +kernel
theorem dX7_among_22 : decode cX7_among 22 = .ok (.aload_n 0, 1) := by decide +kernel
theorem dX7_among_23 : decode cX7_among 23 = .ok (.getfield 37, 3) := by decide +kernel
theorem dX7_among_26 : decode cX7_among 26 = .ok (.iload_n 1, 1) := by decide +kernel
theorem dX7_among_27 : decode cX7_among 27 = .ok (.invokevirtual 169, 3) := by decide +kernel
theorem dX7_among_30 : decode cX7_among 30 = .ok (.ireturn, 1) := by decide +kernel
set_option maxRecDepth 20000 in
theorem ggX7_share_X1_gather : GoodIn wsX7_share wsX1_gather := goodIn_r _ [7, 8, 9, 10, 11, 12, 13, 14, 5, 15, 16, 17, 18, 132, 133, 134, 135, 136, 137, 138, 139, 140, 141, 142, 143, 144, 145, 146, 147, 148, 149, 150, 151, 152, 153] (by decide +kernel) (by decide +kernel)
set_option maxRecDepth 20000 in
theorem gX7_share_X1_gather_n172 : GoodIn wsX7_share (wsX1_gather) := ggX7_share_X1_gather
set_option maxRecDepth 20000 in
theorem ggX7_share_X1_canBeJudged : GoodIn wsX7_share wsX1_canBeJudged := goodIn_r _ [21, 9, 10, 132, 133, 134, 135, 136, 137, 138, 139, 140] (by decide +kernel) (by decide +kernel)
set_option maxRecDepth 20000 in
theorem gX7_share_X1_canBeJudged_n175 : GoodIn wsX7_share (wsX1_canBeJudged) := ggX7_share_X1_canBeJudged
set_option maxRecDepth 20000 in
theorem ggX7_share_X1_mixBy : GoodIn wsX7_share wsX1_mixBy := goodIn_r _ [24, 8, 25, 18, 26, 27, 28, 29, 30, 31, 32, 33, 34, 35, 36, 37, 38, 39, 40, 41, 42, 43, 44, 45, 46, 47, 48, 49, 50, 51, 52, 53, 54, 55, 56, 57, 58, 59, 60, 61, 62, 63, 64, 65, 66, 67, 68, 69, 70, 71, 72, 73, 74, 75, 76, 77, 78, 79, 80, 81, 82, 83, 84, 85, 86, 87, 88, 89, 90, 91, 92, 93, 94, 95, 96, 97, 98, 99, 100, 101, 102, 103, 132, 133, 134, 135, 136, 137, 138, 139, 140, 154, 155, 156, 157, 158, 159, 141, 142, 143, 144, 145, 146, 147, 148, 149, 150, 151, 152, 153] (by decide +kernel) (by decide +kernel)
set_option maxRecDepth 20000 in
theorem gX7_share_X1_mixBy_n179 : GoodIn wsX7_share (wsX1_mixBy) := ggX7_share_X1_mixBy
set_option maxRecDepth 20000 in
theorem ggX7_share_X1_halvesWon : GoodIn wsX7_share wsX1_halvesWon := goodIn_r _ [106, 9, 25, 16, 10, 17, 107, 108, 5, 109, 132, 133, 134, 135, 136, 137, 138, 139, 140] (by decide +kernel) (by decide +kernel)
set_option maxRecDepth 20000 in
theorem gX7_share_X1_halvesWon_n183 : GoodIn wsX7_share (wsX1_halvesWon) := ggX7_share_X1_halvesWon
set_option maxRecDepth 20000 in
theorem ggX7_share_X1_halvesInAll : GoodIn wsX7_share wsX1_halvesInAll := goodIn_r _ [112, 9, 10, 132, 133, 134, 135, 136, 137, 138, 139, 140] (by decide +kernel) (by decide +kernel)
set_option maxRecDepth 20000 in
theorem gX7_share_X1_halvesInAll_n186 : GoodIn wsX7_share (wsX1_halvesInAll) := ggX7_share_X1_halvesInAll
set_option maxRecDepth 20000 in
theorem ggX7_share_X0_show : GoodIn wsX7_share wsX0_show := goodIn_r _ [116, 117, 118, 60, 119, 120, 121, 122, 123, 114, 124, 160, 161] (by decide +kernel) (by decide +kernel)
set_option maxRecDepth 20000 in
theorem gX7_share_X0_show_n142 : GoodIn wsX7_share (wsX0_show) := ggX7_share_X0_show
theorem dX7_share_0 : decode cX7_share 0 = .ok (.aload_n 0, 1) := by decide +kernel
theorem dX7_share_1 : decode cX7_share 1 = .ok (.getfield 37, 3) := by decide +kernel
theorem dX7_share_4 : decode cX7_share 4 = .ok (.invokevirtual 172, 3) := by decide +kernel
theorem dX7_share_7 : decode cX7_share 7 = .ok (.aload_n 0, 1) := by decide +kernel
theorem dX7_share_8 : decode cX7_share 8 = .ok (.getfield 37, 3) := by decide +kernel
theorem dX7_share_11 : decode cX7_share 11 = .ok (.invokevirtual 175, 3) := by decide +kernel
theorem dX7_share_14 : decode cX7_share 14 = .ok (.ifCond .ne 6, 3) := by decide +kernel
theorem dX7_share_17 : decode cX7_share 17 = .ok (.bipush (-3), 2) := by decide +kernel
theorem dX7_share_19 : decode cX7_share 19 = .ok (.ireturn, 1) := by decide +kernel
theorem dX7_share_20 : decode cX7_share 20 = .ok (.aload_n 0, 1) := by decide +kernel
theorem dX7_share_21 : decode cX7_share 21 = .ok (.getfield 37, 3) := by decide +kernel
theorem dX7_share_24 : decode cX7_share 24 = .ok (.aload_n 0, 1) := by decide +kernel
theorem dX7_share_25 : decode cX7_share 25 = .ok (.getfield 30, 3) := by decide +kernel
theorem dX7_share_28 : decode cX7_share 28 = .ok (.invokevirtual 179, 3) := by decide +kernel
theorem dX7_share_31 : decode cX7_share 31 = .ok (.aload_n 0, 1) := by decide +kernel
theorem dX7_share_32 : decode cX7_share 32 = .ok (.getfield 58, 3) := by decide +kernel
theorem dX7_share_35 : decode cX7_share 35 = .ok (.aload_n 0, 1) := by decide +kernel
theorem dX7_share_36 : decode cX7_share 36 = .ok (.getfield 37, 3) := by decide +kernel
theorem dX7_share_39 : decode cX7_share 39 = .ok (.invokevirtual 183, 3) := by decide +kernel
theorem dX7_share_42 : decode cX7_share 42 = .ok (.i2l, 1) := by decide +kernel
theorem dX7_share_43 : decode cX7_share 43 = .ok (.aload_n 0, 1) := by decide +kernel
theorem dX7_share_44 : decode cX7_share 44 = .ok (.getfield 37, 3) := by decide +kernel
theorem dX7_share_47 : decode cX7_share 47 = .ok (.invokevirtual 186, 3) := by decide +kernel
theorem dX7_share_50 : decode cX7_share 50 = .ok (.i2l, 1) := by decide +kernel
theorem dX7_share_51 : decode cX7_share 51 = .ok (.invokevirtual 142, 3) := by decide +kernel
theorem dX7_share_54 : decode cX7_share 54 = .ok (.iconst 1, 1) := by decide +kernel
theorem dX7_share_55 : decode cX7_share 55 = .ok (.ireturn, 1) := by decide +kernel
set_option maxRecDepth 20000 in
theorem ggX7_sample_X1_gather : GoodIn wsX7_sample wsX1_gather := goodIn_r _ [9, 10, 11, 12, 13, 14, 15, 16, 7, 17, 18, 19, 20, 141, 142, 143, 144, 145, 146, 147, 148, 149, 150, 151, 152, 153, 154, 155, 156, 157, 158, 159, 160, 161, 162] (by decide +kernel) (by decide +kernel)
set_option maxRecDepth 20000 in
theorem gX7_sample_X1_gather_n172 : GoodIn wsX7_sample (wsX1_gather) := ggX7_sample_X1_gather
set_option maxRecDepth 20000 in
theorem ggX7_sample_X1_canBeJudged : GoodIn wsX7_sample wsX1_canBeJudged := goodIn_r _ [23, 11, 12, 141, 142, 143, 144, 145, 146, 147, 148, 149] (by decide +kernel) (by decide +kernel)
set_option maxRecDepth 20000 in
theorem gX7_sample_X1_canBeJudged_n175 : GoodIn wsX7_sample (wsX1_canBeJudged) := ggX7_sample_X1_canBeJudged
set_option maxRecDepth 20000 in
theorem ggX7_sample_X1_mixBy : GoodIn wsX7_sample wsX1_mixBy := goodIn_r _ [26, 10, 27, 20, 28, 29, 30, 31, 32, 33, 34, 35, 36, 37, 38, 39, 40, 41, 42, 43, 44, 45, 46, 47, 48, 49, 50, 51, 52, 53, 54, 55, 56, 57, 58, 59, 60, 61, 62, 63, 64, 65, 66, 67, 68, 69, 70, 71, 72, 73, 74, 75, 76, 77, 78, 79, 80, 81, 82, 83, 84, 85, 86, 87, 88, 89, 90, 91, 92, 93, 94, 95, 96, 97, 98, 99, 100, 101, 102, 103, 104, 105, 141, 142, 143, 144, 145, 146, 147, 148, 149, 163, 164, 165, 166, 167, 168, 150, 151, 152, 153, 154, 155, 156, 157, 158, 159, 160, 161, 162] (by decide +kernel) (by decide +kernel)
set_option maxRecDepth 20000 in
theorem gX7_sample_X1_mixBy_n179 : GoodIn wsX7_sample (wsX1_mixBy) := ggX7_sample_X1_mixBy
set_option maxRecDepth 20000 in
theorem ggX7_sample_X2_startFrom : GoodIn wsX7_sample wsX2_startFrom := goodIn_r _ [109, 110, 169] (by decide +kernel) (by decide +kernel)
set_option maxRecDepth 20000 in
theorem gX7_sample_X2_startFrom_n109 : GoodIn wsX7_sample (wsX2_startFrom) := ggX7_sample_X2_startFrom
set_option maxRecDepth 20000 in
theorem ggX7_sample_X1_halvesWonByDraws : GoodIn wsX7_sample wsX1_halvesWonByDraws := goodIn_r _ [113, 11, 12, 19, 27, 18, 114, 107, 115, 116, 117, 110, 118, 119, 120, 7, 121, 141, 142, 143, 144, 145, 146, 147, 148, 149, 169] (by decide +kernel) (by decide +kernel)
set_option maxRecDepth 20000 in
theorem gX7_sample_X1_halvesWonByDraws_n189 : GoodIn wsX7_sample (wsX1_halvesWonByDraws) := ggX7_sample_X1_halvesWonByDraws
set_option maxRecDepth 20000 in
theorem ggX7_sample_X0_show : GoodIn wsX7_sample wsX0_show := goodIn_r _ [125, 126, 127, 62, 128, 129, 130, 131, 132, 123, 133, 170, 171] (by decide +kernel) (by decide +kernel)
set_option maxRecDepth 20000 in
theorem gX7_sample_X0_show_n142 : GoodIn wsX7_sample (wsX0_show) := ggX7_sample_X0_show
theorem dX7_sample_0 : decode cX7_sample 0 = .ok (.aload_n 0, 1) := by decide +kernel
theorem dX7_sample_1 : decode cX7_sample 1 = .ok (.getfield 37, 3) := by decide +kernel
theorem dX7_sample_4 : decode cX7_sample 4 = .ok (.invokevirtual 172, 3) := by decide +kernel
theorem dX7_sample_7 : decode cX7_sample 7 = .ok (.aload_n 0, 1) := by decide +kernel
theorem dX7_sample_8 : decode cX7_sample 8 = .ok (.getfield 37, 3) := by decide +kernel
theorem dX7_sample_11 : decode cX7_sample 11 = .ok (.invokevirtual 175, 3) := by decide +kernel
theorem dX7_sample_14 : decode cX7_sample 14 = .ok (.ifCond .ne 6, 3) := by decide +kernel
theorem dX7_sample_17 : decode cX7_sample 17 = .ok (.bipush (-3), 2) := by decide +kernel
theorem dX7_sample_19 : decode cX7_sample 19 = .ok (.ireturn, 1) := by decide +kernel
theorem dX7_sample_20 : decode cX7_sample 20 = .ok (.aload_n 0, 1) := by decide +kernel
theorem dX7_sample_21 : decode cX7_sample 21 = .ok (.getfield 37, 3) := by decide +kernel
theorem dX7_sample_24 : decode cX7_sample 24 = .ok (.aload_n 0, 1) := by decide +kernel
theorem dX7_sample_25 : decode cX7_sample 25 = .ok (.getfield 30, 3) := by decide +kernel
theorem dX7_sample_28 : decode cX7_sample 28 = .ok (.invokevirtual 179, 3) := by decide +kernel
theorem dX7_sample_31 : decode cX7_sample 31 = .ok (.aload_n 0, 1) := by decide +kernel
theorem dX7_sample_32 : decode cX7_sample 32 = .ok (.getfield 51, 3) := by decide +kernel
theorem dX7_sample_35 : decode cX7_sample 35 = .ok (.iload_n 1, 1) := by decide +kernel
theorem dX7_sample_36 : decode cX7_sample 36 = .ok (.invokevirtual 109, 3) := by decide +kernel
theorem dX7_sample_39 : decode cX7_sample 39 = .ok (.aload_n 0, 1) := by decide +kernel
theorem dX7_sample_40 : decode cX7_sample 40 = .ok (.getfield 58, 3) := by decide +kernel
theorem dX7_sample_43 : decode cX7_sample 43 = .ok (.aload_n 0, 1) := by decide +kernel
theorem dX7_sample_44 : decode cX7_sample 44 = .ok (.getfield 37, 3) := by decide +kernel
theorem dX7_sample_47 : decode cX7_sample 47 = .ok (.aload_n 0, 1) := by decide +kernel
theorem dX7_sample_48 : decode cX7_sample 48 = .ok (.getfield 51, 3) := by decide +kernel
theorem dX7_sample_51 : decode cX7_sample 51 = .ok (.invokevirtual 189, 3) := by decide +kernel
theorem dX7_sample_54 : decode cX7_sample 54 = .ok (.i2l, 1) := by decide +kernel
theorem dX7_sample_55 : decode cX7_sample 55 = .ok (.ldc2_w 193, 3) := by decide +kernel
theorem dX7_sample_58 : decode cX7_sample 58 = .ok (.aload_n 0, 1) := by decide +kernel
theorem dX7_sample_59 : decode cX7_sample 59 = .ok (.getfield 37, 3) := by decide +kernel
theorem dX7_sample_62 : decode cX7_sample 62 = .ok (.getfield 195, 3) := by decide +kernel
theorem dX7_sample_65 : decode cX7_sample 65 = .ok (.i2l, 1) := by decide +kernel
theorem dX7_sample_66 : decode cX7_sample 66 = .ok (.lmul, 1) := by decide +kernel
theorem dX7_sample_67 : decode cX7_sample 67 = .ok (.invokevirtual 142, 3) := by decide +kernel
theorem dX7_sample_70 : decode cX7_sample 70 = .ok (.iconst 1, 1) := by decide +kernel
theorem dX7_sample_71 : decode cX7_sample 71 = .ok (.ireturn, 1) := by decide +kernel
set_option maxRecDepth 20000 in
theorem ggX7_learn_X3_canLearn : GoodIn wsX7_learn wsX3_canLearn := goodIn_r _ [8, 9, 10, 11, 12, 13, 14, 15, 16, 17, 18] (by decide +kernel) (by decide +kernel)
set_option maxRecDepth 20000 in
theorem gX7_learn_X3_canLearn_n198 : GoodIn wsX7_learn (wsX3_canLearn) := ggX7_learn_X3_canLearn
set_option maxRecDepth 20000 in
theorem ggX7_learn_X7_isWithin : GoodIn wsX7_learn wsX7_isWithin := goodIn_r _ [18] (by decide +kernel) (by decide +kernel)
set_option maxRecDepth 20000 in
theorem gX7_learn_X7_isWithin : GoodIn wsX7_learn (va_wsS RX7 66 yX7_isWithin wsX7_isWithin) := goodIn_app (goodIn_of _ (by decide +kernel)) ggX7_learn_X7_isWithin
set_option maxRecDepth 20000 in
theorem ggX7_learn_X1_gather : GoodIn wsX7_learn wsX1_gather := goodIn_r _ [23, 24, 25, 26, 27, 28, 29, 30, 21, 31, 32, 33, 34, 173, 174, 175, 176, 177, 178, 179, 180, 181, 182, 183, 184, 185, 186, 187, 188, 189, 190, 191, 192, 193, 194] (by decide +kernel) (by decide +kernel)
set_option maxRecDepth 20000 in
theorem gX7_learn_X1_gather_n172 : GoodIn wsX7_learn (wsX1_gather) := ggX7_learn_X1_gather
set_option maxRecDepth 20000 in
theorem ggX7_learn_X1_canBeJudged : GoodIn wsX7_learn wsX1_canBeJudged := goodIn_r _ [37, 25, 26, 173, 174, 175, 176, 177, 178, 179, 180, 181] (by decide +kernel) (by decide +kernel)
set_option maxRecDepth 20000 in
theorem gX7_learn_X1_canBeJudged_n175 : GoodIn wsX7_learn (wsX1_canBeJudged) := ggX7_learn_X1_canBeJudged
set_option maxRecDepth 20000 in
theorem ggX7_learn_X3_choose : GoodIn wsX7_learn wsX3_choose := goodIn_r _ [40, 41, 42, 195, 196, 197, 198, 199] (by decide +kernel) (by decide +kernel)
set_option maxRecDepth 20000 in
theorem gX7_learn_X3_choose_n201 : GoodIn wsX7_learn (wsX3_choose) := ggX7_learn_X3_choose
set_option maxRecDepth 20000 in
theorem ggX7_learn_X3_measureAll : GoodIn wsX7_learn wsX3_measureAll := goodIn_r _ [45, 41, 46, 42, 47, 48, 49, 50, 51, 52, 53, 54, 55, 56, 57, 58, 59, 60, 61, 62, 63, 64, 65, 66, 67, 68, 69, 70, 71, 72, 73, 74, 75, 76, 77, 78, 79, 80, 10, 11, 12, 13, 14, 15, 81, 82, 83, 84, 85, 86, 87, 88, 89, 90, 91, 92, 93, 94, 95, 96, 97, 98, 99, 100, 101, 102, 103, 104, 105, 106, 107, 108, 109, 110, 111, 112, 195, 196, 197, 198, 199, 173, 174, 175, 176, 177, 178, 179, 180, 181, 200, 201, 202, 203, 182, 183, 184, 185, 186, 187, 188, 189, 190, 191, 192, 193, 194] (by decide +kernel) (by decide +kernel)
set_option maxRecDepth 20000 in
theorem gX7_learn_X3_measureAll_n204 : GoodIn wsX7_learn (wsX3_measureAll) := ggX7_learn_X3_measureAll
set_option maxRecDepth 20000 in
theorem ggX7_learn_X3_findBest : GoodIn wsX7_learn wsX3_findBest := goodIn_r _ [115, 116, 117, 41, 118, 119, 120, 121, 122, 123, 124, 7, 125, 126, 127, 128, 129, 130, 78, 75, 79, 131, 132, 133, 134, 46, 135, 21, 136, 137, 25, 138, 32, 26, 33, 139, 140, 141, 195, 196, 197, 198, 199, 173, 174, 175, 176, 177, 178, 179, 180, 181] (by decide +kernel) (by decide +kernel)
set_option maxRecDepth 20000 in
theorem gX7_learn_X3_findBest_n208 : GoodIn wsX7_learn (wsX3_findBest) := ggX7_learn_X3_findBest
set_option maxRecDepth 20000 in
theorem ggX7_learn_X3_handOver : GoodIn wsX7_learn wsX3_handOver := goodIn_r _ [144, 41, 42, 117, 145, 146, 147, 148, 195, 196, 197, 198, 199] (by decide +kernel) (by decide +kernel)
set_option maxRecDepth 20000 in
theorem gX7_learn_X3_handOver_n212 : GoodIn wsX7_learn (wsX3_handOver) := ggX7_learn_X3_handOver
set_option maxRecDepth 20000 in
theorem ggX7_learn_X1_halvesInAll : GoodIn wsX7_learn wsX1_halvesInAll := goodIn_r _ [151, 25, 26, 173, 174, 175, 176, 177, 178, 179, 180, 181] (by decide +kernel) (by decide +kernel)
set_option maxRecDepth 20000 in
theorem gX7_learn_X1_halvesInAll_n186 : GoodIn wsX7_learn (wsX1_halvesInAll) := ggX7_learn_X1_halvesInAll
set_option maxRecDepth 20000 in
theorem ggX7_learn_X0_show : GoodIn wsX7_learn wsX0_show := goodIn_r _ [155, 156, 157, 75, 158, 159, 160, 161, 162, 153, 163, 204, 205] (by decide +kernel) (by decide +kernel)
set_option maxRecDepth 20000 in
theorem gX7_learn_X0_show_n142 : GoodIn wsX7_learn (wsX0_show) := ggX7_learn_X0_show
theorem dX7_learn_0 : decode cX7_learn 0 = .ok (.iload_n 1, 1) := by decide +kernel
theorem dX7_learn_1 : decode cX7_learn 1 = .ok (.invokestatic 198, 3) := by decide +kernel
theorem dX7_learn_4 : decode cX7_learn 4 = .ok (.ifCond .eq 12, 3) := by decide +kernel
theorem dX7_learn_7 : decode cX7_learn 7 = .ok (.iload_n 2, 1) := by decide +kernel
theorem dX7_learn_8 : decode cX7_learn 8 = .ok (.iconst 1, 1) := by decide +kernel
theorem dX7_learn_9 : decode cX7_learn 9 = .ok (.iconst 3, 1) := by decide +kernel
theorem dX7_learn_10 : decode cX7_learn 10 = .ok (.invokestatic 66, 3) := by decide +kernel
theorem dX7_learn_13 : decode cX7_learn 13 = .ok (.ifCond .ne 6, 3) := by decide +kernel
theorem dX7_learn_16 : decode cX7_learn 16 = .ok (.bipush (-2), 2) := by decide +kernel
theorem dX7_learn_18 : decode cX7_learn 18 = .ok (.ireturn, 1) := by decide +kernel
theorem dX7_learn_19 : decode cX7_learn 19 = .ok (.aload_n 0, 1) := by decide +kernel
theorem dX7_learn_20 : decode cX7_learn 20 = .ok (.getfield 37, 3) := by decide +kernel
theorem dX7_learn_23 : decode cX7_learn 23 = .ok (.invokevirtual 172, 3) := by decide +kernel
theorem dX7_learn_26 : decode cX7_learn 26 = .ok (.aload_n 0, 1) := by decide +kernel
theorem dX7_learn_27 : decode cX7_learn 27 = .ok (.getfield 37, 3) := by decide +kernel
theorem dX7_learn_30 : decode cX7_learn 30 = .ok (.invokevirtual 175, 3) := by decide +kernel
theorem dX7_learn_33 : decode cX7_learn 33 = .ok (.ifCond .ne 6, 3) := by decide +kernel
theorem dX7_learn_36 : decode cX7_learn 36 = .ok (.bipush (-3), 2) := by decide +kernel
theorem dX7_learn_38 : decode cX7_learn 38 = .ok (.ireturn, 1) := by decide +kernel
theorem dX7_learn_39 : decode cX7_learn 39 = .ok (.aload_n 0, 1) := by decide +kernel
theorem dX7_learn_40 : decode cX7_learn 40 = .ok (.getfield 44, 3) := by decide +kernel
theorem dX7_learn_43 : decode cX7_learn 43 = .ok (.iload_n 1, 1) := by decide +kernel
theorem dX7_learn_44 : decode cX7_learn 44 = .ok (.invokevirtual 201, 3) := by decide +kernel
theorem dX7_learn_47 : decode cX7_learn 47 = .ok (.aload_n 0, 1) := by decide +kernel
theorem dX7_learn_48 : decode cX7_learn 48 = .ok (.getfield 44, 3) := by decide +kernel
theorem dX7_learn_51 : decode cX7_learn 51 = .ok (.aload_n 0, 1) := by decide +kernel
theorem dX7_learn_52 : decode cX7_learn 52 = .ok (.getfield 21, 3) := by decide +kernel
theorem dX7_learn_55 : decode cX7_learn 55 = .ok (.aload_n 0, 1) := by decide +kernel
theorem dX7_learn_56 : decode cX7_learn 56 = .ok (.getfield 37, 3) := by decide +kernel
theorem dX7_learn_59 : decode cX7_learn 59 = .ok (.invokevirtual 204, 3) := by decide +kernel
theorem dX7_learn_62 : decode cX7_learn 62 = .ok (.aload_n 0, 1) := by decide +kernel
theorem dX7_learn_63 : decode cX7_learn 63 = .ok (.getfield 44, 3) := by decide +kernel
theorem dX7_learn_66 : decode cX7_learn 66 = .ok (.iload_n 2, 1) := by decide +kernel
theorem dX7_learn_67 : decode cX7_learn 67 = .ok (.aload_n 0, 1) := by decide +kernel
theorem dX7_learn_68 : decode cX7_learn 68 = .ok (.getfield 37, 3) := by decide +kernel
theorem dX7_learn_71 : decode cX7_learn 71 = .ok (.invokevirtual 208, 3) := by decide +kernel
theorem dX7_learn_74 : decode cX7_learn 74 = .ok (.istore_n 3, 1) := by decide +kernel
theorem dX7_learn_75 : decode cX7_learn 75 = .ok (.aload_n 0, 1) := by decide +kernel
theorem dX7_learn_76 : decode cX7_learn 76 = .ok (.getfield 44, 3) := by decide +kernel
theorem dX7_learn_79 : decode cX7_learn 79 = .ok (.aload_n 0, 1) := by decide +kernel
theorem dX7_learn_80 : decode cX7_learn 80 = .ok (.getfield 30, 3) := by decide +kernel
theorem dX7_learn_83 : decode cX7_learn 83 = .ok (.getfield 129, 3) := by decide +kernel
theorem dX7_learn_86 : decode cX7_learn 86 = .ok (.invokevirtual 212, 3) := by decide +kernel
theorem dX7_learn_89 : decode cX7_learn 89 = .ok (.aload_n 0, 1) := by decide +kernel
theorem dX7_learn_90 : decode cX7_learn 90 = .ok (.getfield 58, 3) := by decide +kernel
theorem dX7_learn_93 : decode cX7_learn 93 = .ok (.iload_n 3, 1) := by decide +kernel
theorem dX7_learn_94 : decode cX7_learn 94 = .ok (.i2l, 1) := by decide +kernel
theorem dX7_learn_95 : decode cX7_learn 95 = .ok (.aload_n 0, 1) := by decide +kernel
theorem dX7_learn_96 : decode cX7_learn 96 = .ok (.getfield 37, 3) := by decide +kernel
theorem dX7_learn_99 : decode cX7_learn 99 = .ok (.invokevirtual 186, 3) := by decide +kernel
theorem dX7_learn_102 : decode cX7_learn 102 = .ok (.i2l, 1) := by decide +kernel
theorem dX7_learn_103 : decode cX7_learn 103 = .ok (.invokevirtual 142, 3) := by decide +kernel
theorem dX7_learn_106 : decode cX7_learn 106 = .ok (.iconst 1, 1) := by decide +kernel
theorem dX7_learn_107 : decode cX7_learn 107 = .ok (.ireturn, 1) := by decide +kernel
set_option maxRecDepth 20000 in
theorem ggX7_startAnew_X6_lay : GoodIn wsX7_startAnew wsX6_lay := goodIn_r _ [8, 9, 10, 11, 12, 13, 14, 15, 16, 17, 18, 19, 20, 21, 22, 23, 24, 6, 25, 26, 27, 28, 29, 30, 31, 65, 66, 67, 68, 69, 70, 71, 72, 73, 74, 75, 76, 77] (by decide +kernel) (by decide +kernel)
set_option maxRecDepth 20000 in
theorem gX7_startAnew_X6_lay_n216 : GoodIn wsX7_startAnew (wsX6_lay) := ggX7_startAnew_X6_lay
set_option maxRecDepth 20000 in
theorem ggX7_startAnew_X4_setPaths : GoodIn wsX7_startAnew wsX4_setPaths := goodIn_r _ [35, 36, 37, 38, 78, 79, 80, 81] (by decide +kernel) (by decide +kernel)
set_option maxRecDepth 20000 in
theorem gX7_startAnew_X4_setPaths_n122 : GoodIn wsX7_startAnew (wsX4_setPaths) := ggX7_startAnew_X4_setPaths
set_option maxRecDepth 20000 in
theorem ggX7_startAnew_X5_reset : GoodIn wsX7_startAnew wsX5_reset := goodIn_r _ [42, 43, 44, 19, 20, 21, 82, 83] (by decide +kernel) (by decide +kernel)
set_option maxRecDepth 20000 in
theorem gX7_startAnew_X5_reset_n219 : GoodIn wsX7_startAnew (wsX5_reset) := ggX7_startAnew_X5_reset
set_option maxRecDepth 20000 in
theorem ggX7_startAnew_X0_show : GoodIn wsX7_startAnew wsX0_show := goodIn_r _ [48, 49, 50, 51, 52, 53, 54, 55, 56, 46, 57, 84, 85] (by decide +kernel) (by decide +kernel)
set_option maxRecDepth 20000 in
theorem gX7_startAnew_X0_show_n142 : GoodIn wsX7_startAnew (wsX0_show) := ggX7_startAnew_X0_show
theorem dX7_startAnew_0 : decode cX7_startAnew 0 = .ok (.aload_n 0, 1) := by decide +kernel
theorem dX7_startAnew_1 : decode cX7_startAnew 1 = .ok (.getfield 12, 3) := by decide +kernel
theorem dX7_startAnew_4 : decode cX7_startAnew 4 = .ok (.iload_n 1, 1) := by decide +kernel
theorem dX7_startAnew_5 : decode cX7_startAnew 5 = .ok (.iload_n 2, 1) := by decide +kernel
theorem dX7_startAnew_6 : decode cX7_startAnew 6 = .ok (.invokevirtual 216, 3) := by decide +kernel
theorem dX7_startAnew_9 : decode cX7_startAnew 9 = .ok (.aload_n 0, 1) := by decide +kernel
theorem dX7_startAnew_10 : decode cX7_startAnew 10 = .ok (.getfield 21, 3) := by decide +kernel
theorem dX7_startAnew_13 : decode cX7_startAnew 13 = .ok (.iconst 1, 1) := by decide +kernel
theorem dX7_startAnew_14 : decode cX7_startAnew 14 = .ok (.iconst 1, 1) := by decide +kernel
theorem dX7_startAnew_15 : decode cX7_startAnew 15 = .ok (.iconst 2, 1) := by decide +kernel
theorem dX7_startAnew_16 : decode cX7_startAnew 16 = .ok (.invokevirtual 122, 3) := by decide +kernel
theorem dX7_startAnew_19 : decode cX7_startAnew 19 = .ok (.aload_n 0, 1) := by decide +kernel
theorem dX7_startAnew_20 : decode cX7_startAnew 20 = .ok (.getfield 30, 3) := by decide +kernel
theorem dX7_startAnew_23 : decode cX7_startAnew 23 = .ok (.invokevirtual 219, 3) := by decide +kernel
theorem dX7_startAnew_26 : decode cX7_startAnew 26 = .ok (.aload_n 0, 1) := by decide +kernel
theorem dX7_startAnew_27 : decode cX7_startAnew 27 = .ok (.getfield 58, 3) := by decide +kernel
theorem dX7_startAnew_30 : decode cX7_startAnew 30 = .ok (.lconst 0, 1) := by decide +kernel
theorem dX7_startAnew_31 : decode cX7_startAnew 31 = .ok (.lconst 1, 1) := by decide +kernel
theorem dX7_startAnew_32 : decode cX7_startAnew 32 = .ok (.invokevirtual 142, 3) := by decide +kernel
theorem dX7_startAnew_35 : decode cX7_startAnew 35 = .ok (.return_, 1) := by decide +kernel
set_option maxRecDepth 20000 in
theorem ggX7_rankAll_X1_gather : GoodIn wsX7_rankAll wsX1_gather := goodIn_r _ [6, 7, 8, 9, 10, 11, 12, 13, 4, 14, 15, 16, 17, 111, 112, 113, 114, 115, 116, 117, 118, 119, 120, 121, 122, 123, 124, 125, 126, 127, 128, 129, 130, 131, 132] (by decide +kernel) (by decide +kernel)
set_option maxRecDepth 20000 in
theorem gX7_rankAll_X1_gather_n172 : GoodIn wsX7_rankAll (wsX1_gather) := ggX7_rankAll_X1_gather
set_option maxRecDepth 20000 in
theorem ggX7_rankAll_X1_mixBy : GoodIn wsX7_rankAll wsX1_mixBy := goodIn_r _ [20, 7, 21, 17, 22, 23, 24, 25, 26, 27, 28, 29, 30, 31, 32, 33, 34, 35, 36, 37, 38, 39, 40, 41, 42, 43, 44, 45, 46, 47, 48, 49, 50, 51, 52, 53, 54, 55, 56, 57, 58, 59, 60, 61, 62, 63, 64, 65, 66, 67, 68, 69, 70, 71, 72, 73, 74, 75, 76, 77, 78, 79, 80, 81, 82, 83, 84, 85, 86, 87, 88, 89, 90, 91, 92, 93, 94, 95, 96, 97, 98, 99, 111, 112, 113, 114, 115, 116, 117, 118, 119, 133, 134, 135, 136, 137, 138, 120, 121, 122, 123, 124, 125, 126, 127, 128, 129, 130, 131, 132] (by decide +kernel) (by decide +kernel)
set_option maxRecDepth 20000 in
theorem gX7_rankAll_X1_mixBy_n179 : GoodIn wsX7_rankAll (wsX1_mixBy) := ggX7_rankAll_X1_mixBy
set_option maxRecDepth 20000 in
theorem ggX7_rankAll_X1_putInOrder : GoodIn wsX7_rankAll wsX1_putInOrder := goodIn_r _ [102, 7, 21, 103, 111, 112, 113, 114, 115, 116, 117, 118, 119] (by decide +kernel) (by decide +kernel)
set_option maxRecDepth 20000 in
theorem gX7_rankAll_X1_putInOrder_n222 : GoodIn wsX7_rankAll (wsX1_putInOrder) := ggX7_rankAll_X1_putInOrder
theorem dX7_rankAll_0 : decode cX7_rankAll 0 = .ok (.aload_n 0, 1) := by decide +kernel
theorem dX7_rankAll_1 : decode cX7_rankAll 1 = .ok (.getfield 37, 3) := by decide +kernel
theorem dX7_rankAll_4 : decode cX7_rankAll 4 = .ok (.invokevirtual 172, 3) := by decide +kernel
theorem dX7_rankAll_7 : decode cX7_rankAll 7 = .ok (.aload_n 0, 1) := by decide +kernel
theorem dX7_rankAll_8 : decode cX7_rankAll 8 = .ok (.getfield 37, 3) := by decide +kernel
theorem dX7_rankAll_11 : decode cX7_rankAll 11 = .ok (.aload_n 0, 1) := by decide +kernel
theorem dX7_rankAll_12 : decode cX7_rankAll 12 = .ok (.getfield 30, 3) := by decide +kernel
theorem dX7_rankAll_15 : decode cX7_rankAll 15 = .ok (.invokevirtual 179, 3) := by decide +kernel
theorem dX7_rankAll_18 : decode cX7_rankAll 18 = .ok (.aload_n 0, 1) := by decide +kernel
theorem dX7_rankAll_19 : decode cX7_rankAll 19 = .ok (.getfield 37, 3) := by decide +kernel
theorem dX7_rankAll_22 : decode cX7_rankAll 22 = .ok (.invokevirtual 222, 3) := by decide +kernel
theorem dX7_rankAll_25 : decode cX7_rankAll 25 = .ok (.return_, 1) := by decide +kernel
theorem dX7_isWithin_0 : decode cX7_isWithin 0 = .ok (.iload_n 0, 1) := by decide +kernel
theorem dX7_isWithin_1 : decode cX7_isWithin 1 = .ok (.iload_n 1, 1) := by decide +kernel
theorem dX7_isWithin_2 : decode cX7_isWithin 2 = .ok (.if_icmp .lt 12, 3) := by decide +kernel
theorem dX7_isWithin_5 : decode cX7_isWithin 5 = .ok (.iload_n 0, 1) := by decide +kernel
theorem dX7_isWithin_6 : decode cX7_isWithin 6 = .ok (.iload_n 2, 1) := by decide +kernel
theorem dX7_isWithin_7 : decode cX7_isWithin 7 = .ok (.if_icmp .gt 7, 3) := by decide +kernel
theorem dX7_isWithin_10 : decode cX7_isWithin 10 = .ok (.iconst 1, 1) := by decide +kernel
theorem dX7_isWithin_11 : decode cX7_isWithin 11 = .ok (.goto 4, 3) := by decide +kernel
theorem dX7_isWithin_14 : decode cX7_isWithin 14 = .ok (.iconst 0, 1) := by decide +kernel
theorem dX7_isWithin_15 : decode cX7_isWithin 15 = .ok (.ireturn, 1) := by decide +kernel
set_option maxRecDepth 20000 in
theorem ggX7_isMeasure_X7_isWithin : GoodIn wsX7_isMeasure wsX7_isWithin := goodIn_r _ [4] (by decide +kernel) (by decide +kernel)
set_option maxRecDepth 20000 in
theorem gX7_isMeasure_X7_isWithin : GoodIn wsX7_isMeasure (va_wsS RX7 66 yX7_isWithin wsX7_isWithin) := goodIn_app (goodIn_of _ (by decide +kernel)) ggX7_isMeasure_X7_isWithin
theorem dX7_isMeasure_0 : decode cX7_isMeasure 0 = .ok (.iload_n 0, 1) := by decide +kernel
theorem dX7_isMeasure_1 : decode cX7_isMeasure 1 = .ok (.iconst 0, 1) := by decide +kernel
theorem dX7_isMeasure_2 : decode cX7_isMeasure 2 = .ok (.bipush 10, 2) := by decide +kernel
theorem dX7_isMeasure_4 : decode cX7_isMeasure 4 = .ok (.invokestatic 66, 3) := by decide +kernel
theorem dX7_isMeasure_7 : decode cX7_isMeasure 7 = .ok (.ireturn, 1) := by decide +kernel
set_option maxRecDepth 20000 in
theorem ggX8_init_X8_fresh : GoodIn wsX8_init wsX8_fresh := goodIn_r _ [35, 6, 36, 12, 13, 14, 15, 16, 37, 21, 38, 39, 40, 34, 41, 20, 42, 43, 44, 45, 46, 47, 48, 49, 50, 51, 52, 53, 54, 55, 56, 57, 58, 59, 60, 61, 62, 63, 64, 65, 66, 67, 68, 69, 70, 71, 72, 73] (by decide +kernel) (by decide +kernel)
set_option maxRecDepth 20000 in
theorem gX8_init_X8_fresh : GoodIn wsX8_init (wsV RX8 86 RX8 yX8_fresh wsX8_fresh) := goodIn_app (goodIn_of _ (by decide +kernel)) ggX8_init_X8_fresh
theorem dX8_init_0 : decode cX8_init 0 = .ok (.aload_n 0, 1) := by decide +kernel
theorem dX8_init_1 : decode cX8_init 1 = .ok (.invokespecial 1, 3) := by decide +kernel
theorem dX8_init_4 : decode cX8_init 4 = .ok (.aload_n 0, 1) := by decide +kernel
theorem dX8_init_5 : decode cX8_init 5 = .ok (.iconst 2, 1) := by decide +kernel
theorem dX8_init_6 : decode cX8_init 6 = .ok (.putfield 7, 3) := by decide +kernel
theorem dX8_init_9 : decode cX8_init 9 = .ok (.aload_n 0, 1) := by decide +kernel
theorem dX8_init_10 : decode cX8_init 10 = .ok (.sipush 144, 3) := by decide +kernel
theorem dX8_init_13 : decode cX8_init 13 = .ok (.newarray .int, 2) := by decide +kernel
theorem dX8_init_15 : decode cX8_init 15 = .ok (.putfield 13, 3) := by decide +kernel
theorem dX8_init_18 : decode cX8_init 18 = .ok (.aload_n 0, 1) := by decide +kernel
theorem dX8_init_19 : decode cX8_init 19 = .ok (.sipush 132, 3) := by decide +kernel
theorem dX8_init_22 : decode cX8_init 22 = .ok (.newarray .int, 2) := by decide +kernel
theorem dX8_init_24 : decode cX8_init 24 = .ok (.putfield 17, 3) := by decide +kernel
theorem dX8_init_27 : decode cX8_init 27 = .ok (.aload_n 0, 1) := by decide +kernel
theorem dX8_init_28 : decode cX8_init 28 = .ok (.sipush 132, 3) := by decide +kernel
theorem dX8_init_31 : decode cX8_init 31 = .ok (.newarray .int, 2) := by decide +kernel
theorem dX8_init_33 : decode cX8_init 33 = .ok (.putfield 20, 3) := by decide +kernel
theorem dX8_init_36 : decode cX8_init 36 = .ok (.aload_n 0, 1) := by decide +kernel
theorem dX8_init_37 : decode cX8_init 37 = .ok (.sipush 132, 3) := by decide +kernel
theorem dX8_init_40 : decode cX8_init 40 = .ok (.newarray .int, 2) := by decide +kernel
theorem dX8_init_42 : decode cX8_init 42 = .ok (.putfield 23, 3) := by decide +kernel
theorem dX8_init_45 : decode cX8_init 45 = .ok (.aload_n 0, 1) := by decide +kernel
theorem dX8_init_46 : decode cX8_init 46 = .ok (.sipush 132, 3) := by decide +kernel
theorem dX8_init_49 : decode cX8_init 49 = .ok (.newarray .boolean, 2) := by decide +kernel
theorem dX8_init_51 : decode cX8_init 51 = .ok (.putfield 26, 3) := by decide +kernel
theorem dX8_init_54 : decode cX8_init 54 = .ok (.aload_n 0, 1) := by decide +kernel
theorem dX8_init_55 : decode cX8_init 55 = .ok (.bipush 12, 2) := by decide +kernel
theorem dX8_init_57 : decode cX8_init 57 = .ok (.newarray .int, 2) := by decide +kernel
theorem dX8_init_59 : decode cX8_init 59 = .ok (.putfield 30, 3) := by decide +kernel
theorem dX8_init_62 : decode cX8_init 62 = .ok (.aload_n 0, 1) := by decide +kernel
theorem dX8_init_63 : decode cX8_init 63 = .ok (.bipush 11, 2) := by decide +kernel
theorem dX8_init_65 : decode cX8_init 65 = .ok (.newarray .int, 2) := by decide +kernel
theorem dX8_init_67 : decode cX8_init 67 = .ok (.putfield 33, 3) := by decide +kernel
theorem dX8_init_70 : decode cX8_init 70 = .ok (.aload_n 0, 1) := by decide +kernel
theorem dX8_init_71 : decode cX8_init 71 = .ok (.iconst 1, 1) := by decide +kernel
theorem dX8_init_72 : decode cX8_init 72 = .ok (.putfield 36, 3) := by decide +kernel
theorem dX8_init_75 : decode cX8_init 75 = .ok (.aload_n 0, 1) := by decide +kernel
theorem dX8_init_76 : decode cX8_init 76 = .ok (.iconst 1, 1) := by decide +kernel
theorem dX8_init_77 : decode cX8_init 77 = .ok (.putfield 39, 3) := by decide +kernel
theorem dX8_init_80 : decode cX8_init 80 = .ok (.aload_n 0, 1) := by decide +kernel
theorem dX8_init_81 : decode cX8_init 81 = .ok (.iconst 2, 1) := by decide +kernel
theorem dX8_init_82 : decode cX8_init 82 = .ok (.putfield 42, 3) := by decide +kernel
theorem dX8_init_85 : decode cX8_init 85 = .ok (.aload_n 0, 1) := by decide +kernel
theorem dX8_init_86 : decode cX8_init 86 = .ok (.sipush 1584, 3) := by decide +kernel
theorem dX8_init_89 : decode cX8_init 89 = .ok (.newarray .long, 2) := by decide +kernel
theorem dX8_init_91 : decode cX8_init 91 = .ok (.putfield 45, 3) := by decide +kernel
theorem dX8_init_94 : decode cX8_init 94 = .ok (.aload_n 0, 1) := by decide +kernel
theorem dX8_init_95 : decode cX8_init 95 = .ok (.sipush 1584, 3) := by decide +kernel
theorem dX8_init_98 : decode cX8_init 98 = .ok (.newarray .long, 2) := by decide +kernel
theorem dX8_init_100 : decode cX8_init 100 = .ok (.putfield 49, 3) := by decide +kernel
theorem dX8_init_103 : decode cX8_init 103 = .ok (.aload_n 0, 1) := by decide +kernel
theorem dX8_init_104 : decode cX8_init 104 = .ok (.bipush 11, 2) := by decide +kernel
theorem dX8_init_106 : decode cX8_init 106 = .ok (.newarray .boolean, 2) := by decide +kernel
theorem dX8_init_108 : decode cX8_init 108 = .ok (.putfield 52, 3) := by decide +kernel
theorem dX8_init_111 : decode cX8_init 111 = .ok (.aload_n 0, 1) := by decide +kernel
theorem dX8_init_112 : decode cX8_init 112 = .ok (.lconst 1, 1) := by decide +kernel
theorem dX8_init_113 : decode cX8_init 113 = .ok (.putfield 55, 3) := by decide +kernel
theorem dX8_init_116 : decode cX8_init 116 = .ok (.aload_n 0, 1) := by decide +kernel
theorem dX8_init_117 : decode cX8_init 117 = .ok (.bipush 12, 2) := by decide +kernel
theorem dX8_init_119 : decode cX8_init 119 = .ok (.newarray .boolean, 2) := by decide +kernel
theorem dX8_init_121 : decode cX8_init 121 = .ok (.putfield 59, 3) := by decide +kernel
theorem dX8_init_124 : decode cX8_init 124 = .ok (.aload_n 0, 1) := by decide +kernel
theorem dX8_init_125 : decode cX8_init 125 = .ok (.bipush 12, 2) := by decide +kernel
theorem dX8_init_127 : decode cX8_init 127 = .ok (.newarray .boolean, 2) := by decide +kernel
theorem dX8_init_129 : decode cX8_init 129 = .ok (.putfield 62, 3) := by decide +kernel
theorem dX8_init_132 : decode cX8_init 132 = .ok (.aload_n 0, 1) := by decide +kernel
theorem dX8_init_133 : decode cX8_init 133 = .ok (.sipush 132, 3) := by decide +kernel
theorem dX8_init_136 : decode cX8_init 136 = .ok (.newarray .int, 2) := by decide +kernel
theorem dX8_init_138 : decode cX8_init 138 = .ok (.putfield 65, 3) := by decide +kernel
theorem dX8_init_141 : decode cX8_init 141 = .ok (.aload_n 0, 1) := by decide +kernel
theorem dX8_init_142 : decode cX8_init 142 = .ok (.sipush 144, 3) := by decide +kernel
theorem dX8_init_145 : decode cX8_init 145 = .ok (.newarray .long, 2) := by decide +kernel
theorem dX8_init_147 : decode cX8_init 147 = .ok (.putfield 68, 3) := by decide +kernel
theorem dX8_init_150 : decode cX8_init 150 = .ok (.aload_n 0, 1) := by decide +kernel
theorem dX8_init_151 : decode cX8_init 151 = .ok (.sipush 144, 3) := by decide +kernel
theorem dX8_init_154 : decode cX8_init 154 = .ok (.newarray .long, 2) := by decide +kernel
theorem dX8_init_156 : decode cX8_init 156 = .ok (.putfield 71, 3) := by decide +kernel
theorem dX8_init_159 : decode cX8_init 159 = .ok (.aload_n 0, 1) := by decide +kernel
theorem dX8_init_160 : decode cX8_init 160 = .ok (.sipush 132, 3) := by decide +kernel
theorem dX8_init_163 : decode cX8_init 163 = .ok (.newarray .int, 2) := by decide +kernel
theorem dX8_init_165 : decode cX8_init 165 = .ok (.putfield 74, 3) := by decide +kernel
theorem dX8_init_168 : decode cX8_init 168 = .ok (.aload_n 0, 1) := by decide +kernel
theorem dX8_init_169 : decode cX8_init 169 = .ok (.sipush 132, 3) := by decide +kernel
theorem dX8_init_172 : decode cX8_init 172 = .ok (.newarray .int, 2) := by decide +kernel
theorem dX8_init_174 : decode cX8_init 174 = .ok (.putfield 77, 3) := by decide +kernel
theorem dX8_init_177 : decode cX8_init 177 = .ok (.aload_n 0, 1) := by decide +kernel
theorem dX8_init_178 : decode cX8_init 178 = .ok (.iconst 3, 1) := by decide +kernel
theorem dX8_init_179 : decode cX8_init 179 = .ok (.newarray .int, 2) := by decide +kernel
theorem dX8_init_181 : decode cX8_init 181 = .ok (.putfield 80, 3) := by decide +kernel
theorem dX8_init_184 : decode cX8_init 184 = .ok (.aload_n 0, 1) := by decide +kernel
theorem dX8_init_185 : decode cX8_init 185 = .ok (.iconst 3, 1) := by decide +kernel
theorem dX8_init_186 : decode cX8_init 186 = .ok (.newarray .int, 2) := by decide +kernel
theorem dX8_init_188 : decode cX8_init 188 = .ok (.putfield 83, 3) := by decide +kernel
theorem dX8_init_191 : decode cX8_init 191 = .ok (.aload_n 0, 1) := by decide +kernel
theorem dX8_init_192 : decode cX8_init 192 = .ok (.invokevirtual 86, 3) := by decide +kernel
theorem dX8_init_195 : decode cX8_init 195 = .ok (.return_, 1) := by decide +kernel
theorem dX8_changed_0 : decode cX8_changed 0 = .ok (.iconst 0, 1) := by decide +kernel
theorem dX8_changed_1 : decode cX8_changed 1 = .ok (.istore_n 1, 1) := by decide +kernel
theorem dX8_changed_2 : decode cX8_changed 2 = .ok (.iload_n 1, 1) := by decide +kernel
theorem dX8_changed_3 : decode cX8_changed 3 = .ok (.bipush 11, 2) := by decide +kernel
theorem dX8_changed_5 : decode cX8_changed 5 = .ok (.if_icmp .ge 16, 3) := by decide +kernel
theorem dX8_changed_8 : decode cX8_changed 8 = .ok (.aload_n 0, 1) := by decide +kernel
theorem dX8_changed_9 : decode cX8_changed 9 = .ok (.getfield 52, 3) := by decide +kernel
theorem dX8_changed_12 : decode cX8_changed 12 = .ok (.iload_n 1, 1) := by decide +kernel
theorem dX8_changed_13 : decode cX8_changed 13 = .ok (.iconst 0, 1) := by decide +kernel
theorem dX8_changed_14 : decode cX8_changed 14 = .ok (.bastore, 1) := by decide +kernel
theorem dX8_changed_15 : decode cX8_changed 15 = .ok (.iinc 1 1, 3) := by decide +kernel
theorem dX8_changed_18 : decode cX8_changed 18 = .ok (.goto (-16), 3) := by decide +kernel
theorem dX8_changed_21 : decode cX8_changed 21 = .ok (.return_, 1) := by decide +kernel
set_option maxRecDepth 20000 in
theorem ggX8_fresh_X8_changed : GoodIn wsX8_fresh wsX8_changed := goodIn_r _ [14, 15, 16, 17, 18, 19, 20, 21, 22, 23, 24, 25, 26, 27, 28, 29, 30, 31, 32, 33, 34, 35, 36, 37, 38, 39, 40, 41, 42, 43, 44, 45, 46, 47] (by decide +kernel) (by decide +kernel)
set_option maxRecDepth 20000 in
theorem gX8_fresh_X8_changed : GoodIn wsX8_fresh (wsV RX8 89 RX8 yX8_changed wsX8_changed) := goodIn_app (goodIn_of _ (by decide +kernel)) ggX8_fresh_X8_changed
theorem dX8_fresh_0 : decode cX8_fresh 0 = .ok (.aload_n 0, 1) := by decide +kernel
theorem dX8_fresh_1 : decode cX8_fresh 1 = .ok (.invokevirtual 89, 3) := by decide +kernel
theorem dX8_fresh_4 : decode cX8_fresh 4 = .ok (.iconst 0, 1) := by decide +kernel
theorem dX8_fresh_5 : decode cX8_fresh 5 = .ok (.istore_n 1, 1) := by decide +kernel
theorem dX8_fresh_6 : decode cX8_fresh 6 = .ok (.iload_n 1, 1) := by decide +kernel
theorem dX8_fresh_7 : decode cX8_fresh 7 = .ok (.sipush 144, 3) := by decide +kernel
theorem dX8_fresh_10 : decode cX8_fresh 10 = .ok (.if_icmp .ge 16, 3) := by decide +kernel
theorem dX8_fresh_13 : decode cX8_fresh 13 = .ok (.aload_n 0, 1) := by decide +kernel
theorem dX8_fresh_14 : decode cX8_fresh 14 = .ok (.getfield 13, 3) := by decide +kernel
theorem dX8_fresh_17 : decode cX8_fresh 17 = .ok (.iload_n 1, 1) := by decide +kernel
theorem dX8_fresh_18 : decode cX8_fresh 18 = .ok (.iconst 0, 1) := by decide +kernel
theorem dX8_fresh_19 : decode cX8_fresh 19 = .ok (.iastore, 1) := by decide +kernel
theorem dX8_fresh_20 : decode cX8_fresh 20 = .ok (.iinc 1 1, 3) := by decide +kernel
theorem dX8_fresh_23 : decode cX8_fresh 23 = .ok (.goto (-17), 3) := by decide +kernel
theorem dX8_fresh_26 : decode cX8_fresh 26 = .ok (.aload_n 0, 1) := by decide +kernel
theorem dX8_fresh_27 : decode cX8_fresh 27 = .ok (.iconst 0, 1) := by decide +kernel
theorem dX8_fresh_28 : decode cX8_fresh 28 = .ok (.putfield 92, 3) := by decide +kernel
theorem dX8_fresh_31 : decode cX8_fresh 31 = .ok (.iconst 0, 1) := by decide +kernel
theorem dX8_fresh_32 : decode cX8_fresh 32 = .ok (.istore_n 1, 1) := by decide +kernel
theorem dX8_fresh_33 : decode cX8_fresh 33 = .ok (.iload_n 1, 1) := by decide +kernel
theorem dX8_fresh_34 : decode cX8_fresh 34 = .ok (.bipush 12, 2) := by decide +kernel
theorem dX8_fresh_36 : decode cX8_fresh 36 = .ok (.if_icmp .ge 16, 3) := by decide +kernel
theorem dX8_fresh_39 : decode cX8_fresh 39 = .ok (.aload_n 0, 1) := by decide +kernel
theorem dX8_fresh_40 : decode cX8_fresh 40 = .ok (.getfield 30, 3) := by decide +kernel
theorem dX8_fresh_43 : decode cX8_fresh 43 = .ok (.iload_n 1, 1) := by decide +kernel
theorem dX8_fresh_44 : decode cX8_fresh 44 = .ok (.iconst 0, 1) := by decide +kernel
theorem dX8_fresh_45 : decode cX8_fresh 45 = .ok (.iastore, 1) := by decide +kernel
theorem dX8_fresh_46 : decode cX8_fresh 46 = .ok (.iinc 1 1, 3) := by decide +kernel
theorem dX8_fresh_49 : decode cX8_fresh 49 = .ok (.goto (-16), 3) := by decide +kernel
theorem dX8_fresh_52 : decode cX8_fresh 52 = .ok (.iconst 0, 1) := by decide +kernel
theorem dX8_fresh_53 : decode cX8_fresh 53 = .ok (.istore_n 1, 1) := by decide +kernel
theorem dX8_fresh_54 : decode cX8_fresh 54 = .ok (.iload_n 1, 1) := by decide +kernel
theorem dX8_fresh_55 : decode cX8_fresh 55 = .ok (.bipush 11, 2) := by decide +kernel
theorem dX8_fresh_57 : decode cX8_fresh 57 = .ok (.if_icmp .ge 16, 3) := by decide +kernel
theorem dX8_fresh_60 : decode cX8_fresh 60 = .ok (.aload_n 0, 1) := by decide +kernel
theorem dX8_fresh_61 : decode cX8_fresh 61 = .ok (.getfield 33, 3) := by decide +kernel
theorem dX8_fresh_64 : decode cX8_fresh 64 = .ok (.iload_n 1, 1) := by decide +kernel
theorem dX8_fresh_65 : decode cX8_fresh 65 = .ok (.iconst 0, 1) := by decide +kernel
theorem dX8_fresh_66 : decode cX8_fresh 66 = .ok (.iastore, 1) := by decide +kernel
theorem dX8_fresh_67 : decode cX8_fresh 67 = .ok (.iinc 1 1, 3) := by decide +kernel
theorem dX8_fresh_70 : decode cX8_fresh 70 = .ok (.goto (-16), 3) := by decide +kernel
theorem dX8_fresh_73 : decode cX8_fresh 73 = .ok (.aload_n 0, 1) := by decide +kernel
theorem dX8_fresh_74 : decode cX8_fresh 74 = .ok (.getfield 33, 3) := by decide +kernel
theorem dX8_fresh_77 : decode cX8_fresh 77 = .ok (.iconst 0, 1) := by decide +kernel
theorem dX8_fresh_78 : decode cX8_fresh 78 = .ok (.iconst 1, 1) := by decide +kernel
theorem dX8_fresh_79 : decode cX8_fresh 79 = .ok (.iastore, 1) := by decide +kernel
theorem dX8_fresh_80 : decode cX8_fresh 80 = .ok (.aload_n 0, 1) := by decide +kernel
theorem dX8_fresh_81 : decode cX8_fresh 81 = .ok (.iconst 1, 1) := by decide +kernel
theorem dX8_fresh_82 : decode cX8_fresh 82 = .ok (.putfield 36, 3) := by decide +kernel
theorem dX8_fresh_85 : decode cX8_fresh 85 = .ok (.aload_n 0, 1) := by decide +kernel
theorem dX8_fresh_86 : decode cX8_fresh 86 = .ok (.iconst 1, 1) := by decide +kernel
theorem dX8_fresh_87 : decode cX8_fresh 87 = .ok (.putfield 39, 3) := by decide +kernel
theorem dX8_fresh_90 : decode cX8_fresh 90 = .ok (.aload_n 0, 1) := by decide +kernel
theorem dX8_fresh_91 : decode cX8_fresh 91 = .ok (.iconst 2, 1) := by decide +kernel
theorem dX8_fresh_92 : decode cX8_fresh 92 = .ok (.putfield 42, 3) := by decide +kernel
theorem dX8_fresh_95 : decode cX8_fresh 95 = .ok (.aload_n 0, 1) := by decide +kernel
theorem dX8_fresh_96 : decode cX8_fresh 96 = .ok (.lconst 0, 1) := by decide +kernel
theorem dX8_fresh_97 : decode cX8_fresh 97 = .ok (.putfield 95, 3) := by decide +kernel
theorem dX8_fresh_100 : decode cX8_fresh 100 = .ok (.aload_n 0, 1) := by decide +kernel
theorem dX8_fresh_101 : decode cX8_fresh 101 = .ok (.lconst 1, 1) := by decide +kernel
theorem dX8_fresh_102 : decode cX8_fresh 102 = .ok (.putfield 55, 3) := by decide +kernel
theorem dX8_fresh_105 : decode cX8_fresh 105 = .ok (.return_, 1) := by decide +kernel
set_option maxRecDepth 20000 in
theorem ggX8_graph_X8_fresh : GoodIn wsX8_graph wsX8_fresh := goodIn_r _ [7, 8, 9, 10, 11, 12, 13, 14, 15, 16, 17, 18, 19, 6, 20, 21, 30, 31, 32, 33, 34, 35, 36, 37, 38, 39, 40, 41, 42, 43, 44, 45, 46, 47, 48, 49, 50, 51, 52, 53, 54, 55, 56, 57, 58, 59, 60, 61] (by decide +kernel) (by decide +kernel)
set_option maxRecDepth 20000 in
theorem gX8_graph_X8_fresh : GoodIn wsX8_graph (wsV RX8 86 RX8 yX8_fresh wsX8_fresh) := goodIn_app (goodIn_of _ (by decide +kernel)) ggX8_graph_X8_fresh
set_option maxRecDepth 20000 in
theorem ggX8_graph_X8_pairs : GoodIn wsX8_graph wsX8_pairs := goodIn_r _ [25, 1, 26, 27, 28, 6, 29, 2, 30, 31, 32, 33, 34, 35, 36, 37, 38, 39, 40, 41, 42, 43, 44, 45, 46, 47, 48, 49, 50, 51, 52, 53, 54, 55, 56, 57, 58, 59, 60, 61] (by decide +kernel) (by decide +kernel)
set_option maxRecDepth 20000 in
theorem gX8_graph_X8_pairs : GoodIn wsX8_graph (wsV RX8 101 RX8 yX8_pairs wsX8_pairs) := goodIn_app (goodIn_of _ (by decide +kernel)) ggX8_graph_X8_pairs
theorem dX8_graph_0 : decode cX8_graph 0 = .ok (.iload_n 1, 1) := by decide +kernel
theorem dX8_graph_1 : decode cX8_graph 1 = .ok (.iconst 2, 1) := by decide +kernel
theorem dX8_graph_2 : decode cX8_graph 2 = .ok (.if_icmp .lt 18, 3) := by decide +kernel
theorem dX8_graph_5 : decode cX8_graph 5 = .ok (.iload_n 1, 1) := by decide +kernel
theorem dX8_graph_6 : decode cX8_graph 6 = .ok (.bipush 12, 2) := by decide +kernel
theorem dX8_graph_8 : decode cX8_graph 8 = .ok (.if_icmp .gt 12, 3) := by decide +kernel
theorem dX8_graph_11 : decode cX8_graph 11 = .ok (.iload_n 2, 1) := by decide +kernel
theorem dX8_graph_12 : decode cX8_graph 12 = .ok (.ifCond .lt 8, 3) := by decide +kernel
theorem dX8_graph_15 : decode cX8_graph 15 = .ok (.iload_n 2, 1) := by decide +kernel
theorem dX8_graph_16 : decode cX8_graph 16 = .ok (.iconst 2, 1) := by decide +kernel
theorem dX8_graph_17 : decode cX8_graph 17 = .ok (.if_icmp .le 6, 3) := by decide +kernel
theorem dX8_graph_20 : decode cX8_graph 20 = .ok (.bipush (-2), 2) := by decide +kernel
theorem dX8_graph_22 : decode cX8_graph 22 = .ok (.ireturn, 1) := by decide +kernel
theorem dX8_graph_23 : decode cX8_graph 23 = .ok (.aload_n 0, 1) := by decide +kernel
theorem dX8_graph_24 : decode cX8_graph 24 = .ok (.iload_n 1, 1) := by decide +kernel
theorem dX8_graph_25 : decode cX8_graph 25 = .ok (.putfield 7, 3) := by decide +kernel
theorem dX8_graph_28 : decode cX8_graph 28 = .ok (.aload_n 0, 1) := by decide +kernel
theorem dX8_graph_29 : decode cX8_graph 29 = .ok (.iload_n 2, 1) := by decide +kernel
theorem dX8_graph_30 : decode cX8_graph 30 = .ok (.putfield 98, 3) := by decide +kernel
theorem dX8_graph_33 : decode cX8_graph 33 = .ok (.aload_n 0, 1) := by decide +kernel
theorem dX8_graph_34 : decode cX8_graph 34 = .ok (.invokevirtual 86, 3) := by decide +kernel
theorem dX8_graph_37 : decode cX8_graph 37 = .ok (.aload_n 0, 1) := by decide +kernel
theorem dX8_graph_38 : decode cX8_graph 38 = .ok (.invokevirtual 101, 3) := by decide +kernel
theorem dX8_graph_41 : decode cX8_graph 41 = .ok (.ireturn, 1) := by decide +kernel
theorem dX8_isPair_0 : decode cX8_isPair 0 = .ok (.aload_n 0, 1) := by decide +kernel
theorem dX8_isPair_1 : decode cX8_isPair 1 = .ok (.getfield 98, 3) := by decide +kernel
theorem dX8_isPair_4 : decode cX8_isPair 4 = .ok (.ifCond .ne 14, 3) := by decide +kernel
theorem dX8_isPair_7 : decode cX8_isPair 7 = .ok (.iload_n 1, 1) := by decide +kernel
theorem dX8_isPair_8 : decode cX8_isPair 8 = .ok (.iload_n 2, 1) := by decide +kernel
theorem dX8_isPair_9 : decode cX8_isPair 9 = .ok (.if_icmp .ge 7, 3) := by decide +kernel
theorem dX8_isPair_12 : decode cX8_isPair 12 = .ok (.iconst 1, 1) := by decide +kernel
theorem dX8_isPair_13 : decode cX8_isPair 13 = .ok (.goto 4, 3) := by decide +kernel
theorem dX8_isPair_16 : decode cX8_isPair 16 = .ok (.iconst 0, 1) := by decide +kernel
theorem dX8_isPair_17 : decode cX8_isPair 17 = .ok (.ireturn, 1) := by decide +kernel
theorem dX8_isPair_18 : decode cX8_isPair 18 = .ok (.aload_n 0, 1) := by decide +kernel
theorem dX8_isPair_19 : decode cX8_isPair 19 = .ok (.getfield 98, 3) := by decide +kernel
theorem dX8_isPair_22 : decode cX8_isPair 22 = .ok (.iconst 1, 1) := by decide +kernel
theorem dX8_isPair_23 : decode cX8_isPair 23 = .ok (.if_icmp .ne 16, 3) := by decide +kernel
theorem dX8_isPair_26 : decode cX8_isPair 26 = .ok (.iload_n 1, 1) := by decide +kernel
theorem dX8_isPair_27 : decode cX8_isPair 27 = .ok (.iload_n 2, 1) := by decide +kernel
theorem dX8_isPair_28 : decode cX8_isPair 28 = .ok (.if_icmp .eq 7, 3) := by decide +kernel
theorem dX8_isPair_31 : decode cX8_isPair 31 = .ok (.iconst 1, 1) := by decide +kernel
theorem dX8_isPair_32 : decode cX8_isPair 32 = .ok (.goto 32, 3) := by decide +kernel
theorem dX8_isPair_35 : decode cX8_isPair 35 = .ok (.iconst 0, 1) := by decide +kernel
theorem dX8_isPair_36 : decode cX8_isPair 36 = .ok (.goto 28, 3) := by decide +kernel
theorem dX8_isPair_39 : decode cX8_isPair 39 = .ok (.iload_n 1, 1) := by decide +kernel
theorem dX8_isPair_40 : decode cX8_isPair 40 = .ok (.aload_n 0, 1) := by decide +kernel
theorem dX8_isPair_41 : decode cX8_isPair 41 = .ok (.getfield 7, 3) := by decide +kernel
theorem dX8_isPair_44 : decode cX8_isPair 44 = .ok (.iconst 2, 1) := by decide +kernel
theorem dX8_isPair_45 : decode cX8_isPair 45 = .ok (.idiv, 1) := by decide +kernel
theorem dX8_isPair_46 : decode cX8_isPair 46 = .ok (.if_icmp .ge 17, 3) := by decide +kernel
theorem dX8_isPair_49 : decode cX8_isPair 49 = .ok (.iload_n 2, 1) := by decide +kernel
theorem dX8_isPair_50 : decode cX8_isPair 50 = .ok (.aload_n 0, 1) := by decide +kernel
theorem dX8_isPair_51 : decode cX8_isPair 51 = .ok (.getfield 7, 3) := by decide +kernel
theorem dX8_isPair_54 : decode cX8_isPair 54 = .ok (.iconst 2, 1) := by decide +kernel
theorem dX8_isPair_55 : decode cX8_isPair 55 = .ok (.idiv, 1) := by decide +kernel
theorem dX8_isPair_56 : decode cX8_isPair 56 = .ok (.if_icmp .lt 7, 3) := by decide +kernel
theorem dX8_isPair_59 : decode cX8_isPair 59 = .ok (.iconst 1, 1) := by decide +kernel
theorem dX8_isPair_60 : decode cX8_isPair 60 = .ok (.goto 4, 3) := by decide +kernel
theorem dX8_isPair_63 : decode cX8_isPair 63 = .ok (.iconst 0, 1) := by decide +kernel
theorem dX8_isPair_64 : decode cX8_isPair 64 = .ok (.ireturn, 1) := by decide +kernel
set_option maxRecDepth 20000 in
theorem ggX8_pairs_X8_isPair : GoodIn wsX8_pairs wsX8_isPair := goodIn_r _ [6, 7, 1, 8, 9, 10, 11, 12, 13, 14, 15, 16, 17, 18, 19, 20, 21, 22, 23, 24, 25, 26, 27, 28, 29, 30, 31, 32, 33, 34, 35, 36, 37, 38, 39] (by decide +kernel) (by decide +kernel)
set_option maxRecDepth 20000 in
theorem gX8_pairs_X8_isPair : GoodIn wsX8_pairs (wsV RX8 105 RX8 yX8_isPair wsX8_isPair) := goodIn_app (goodIn_of _ (by decide +kernel)) ggX8_pairs_X8_isPair
theorem dX8_pairs_0 : decode cX8_pairs 0 = .ok (.iconst 0, 1) := by decide +kernel
theorem dX8_pairs_1 : decode cX8_pairs 1 = .ok (.istore_n 1, 1) := by decide +kernel
theorem dX8_pairs_2 : decode cX8_pairs 2 = .ok (.iconst 0, 1) := by decide +kernel
theorem dX8_pairs_3 : decode cX8_pairs 3 = .ok (.istore_n 2, 1) := by decide +kernel
theorem dX8_pairs_4 : decode cX8_pairs 4 = .ok (.iload_n 2, 1) := by decide +kernel
theorem dX8_pairs_5 : decode cX8_pairs 5 = .ok (.aload_n 0, 1) := by decide +kernel
theorem dX8_pairs_6 : decode cX8_pairs 6 = .ok (.getfield 7, 3) := by decide +kernel
theorem dX8_pairs_9 : decode cX8_pairs 9 = .ok (.if_icmp .ge 42, 3) := by decide +kernel
theorem dX8_pairs_12 : decode cX8_pairs 12 = .ok (.iconst 0, 1) := by decide +kernel
theorem dX8_pairs_13 : decode cX8_pairs 13 = .ok (.istore_n 3, 1) := by decide +kernel
theorem dX8_pairs_14 : decode cX8_pairs 14 = .ok (.iload_n 3, 1) := by decide +kernel
theorem dX8_pairs_15 : decode cX8_pairs 15 = .ok (.aload_n 0, 1) := by decide +kernel
theorem dX8_pairs_16 : decode cX8_pairs 16 = .ok (.getfield 7, 3) := by decide +kernel
theorem dX8_pairs_19 : decode cX8_pairs 19 = .ok (.if_icmp .ge 26, 3) := by decide +kernel
theorem dX8_pairs_22 : decode cX8_pairs 22 = .ok (.iload_n 1, 1) := by decide +kernel
theorem dX8_pairs_23 : decode cX8_pairs 23 = .ok (.aload_n 0, 1) := by decide +kernel
theorem dX8_pairs_24 : decode cX8_pairs 24 = .ok (.iload_n 2, 1) := by decide +kernel
theorem dX8_pairs_25 : decode cX8_pairs 25 = .ok (.iload_n 3, 1) := by decide +kernel
theorem dX8_pairs_26 : decode cX8_pairs 26 = .ok (.invokevirtual 105, 3) := by decide +kernel
theorem dX8_pairs_29 : decode cX8_pairs 29 = .ok (.ifCond .eq 7, 3) := by decide +kernel
theorem dX8_pairs_32 : decode cX8_pairs 32 = .ok (.iconst 1, 1) := by decide +kernel
theorem dX8_pairs_33 : decode cX8_pairs 33 = .ok (.goto 4, 3) := by decide +kernel
theorem dX8_pairs_36 : decode cX8_pairs 36 = .ok (.iconst 0, 1) := by decide +kernel
theorem dX8_pairs_37 : decode cX8_pairs 37 = .ok (.iadd, 1) := by decide +kernel
theorem dX8_pairs_38 : decode cX8_pairs 38 = .ok (.istore_n 1, 1) := by decide +kernel
theorem dX8_pairs_39 : decode cX8_pairs 39 = .ok (.iinc 3 1, 3) := by decide +kernel
theorem dX8_pairs_42 : decode cX8_pairs 42 = .ok (.goto (-28), 3) := by decide +kernel
theorem dX8_pairs_45 : decode cX8_pairs 45 = .ok (.iinc 2 1, 3) := by decide +kernel
theorem dX8_pairs_48 : decode cX8_pairs 48 = .ok (.goto (-44), 3) := by decide +kernel
theorem dX8_pairs_51 : decode cX8_pairs 51 = .ok (.iload_n 1, 1) := by decide +kernel
theorem dX8_pairs_52 : decode cX8_pairs 52 = .ok (.ireturn, 1) := by decide +kernel
theorem dX8_isNode_0 : decode cX8_isNode 0 = .ok (.iload_n 1, 1) := by decide +kernel
theorem dX8_isNode_1 : decode cX8_isNode 1 = .ok (.ifCond .lt 15, 3) := by decide +kernel
theorem dX8_isNode_4 : decode cX8_isNode 4 = .ok (.iload_n 1, 1) := by decide +kernel
theorem dX8_isNode_5 : decode cX8_isNode 5 = .ok (.aload_n 0, 1) := by decide +kernel
theorem dX8_isNode_6 : decode cX8_isNode 6 = .ok (.getfield 7, 3) := by decide +kernel
theorem dX8_isNode_9 : decode cX8_isNode 9 = .ok (.if_icmp .ge 7, 3) := by decide +kernel
theorem dX8_isNode_12 : decode cX8_isNode 12 = .ok (.iconst 1, 1) := by decide +kernel
theorem dX8_isNode_13 : decode cX8_isNode 13 = .ok (.goto 4, 3) := by decide +kernel
theorem dX8_isNode_16 : decode cX8_isNode 16 = .ok (.iconst 0, 1) := by decide +kernel
theorem dX8_isNode_17 : decode cX8_isNode 17 = .ok (.ireturn, 1) := by decide +kernel
set_option maxRecDepth 20000 in
theorem ggX8_isTold_X8_isNode : GoodIn wsX8_isTold wsX8_isNode := goodIn_r _ [6, 7, 12, 13, 14, 15, 16, 17, 18, 19, 20, 21, 22, 23, 24, 25, 26, 27, 28, 29, 30, 31, 32, 33, 34, 35, 36, 37, 38, 39, 40, 41, 42, 43] (by decide +kernel) (by decide +kernel)
set_option maxRecDepth 20000 in
theorem gX8_isTold_X8_isNode : GoodIn wsX8_isTold (wsV RX8 109 RX8 yX8_isNode wsX8_isNode) := goodIn_app (goodIn_of _ (by decide +kernel)) ggX8_isTold_X8_isNode
set_option maxRecDepth 20000 in
theorem ggX8_isTold_X8_isPair : GoodIn wsX8_isTold wsX8_isPair := goodIn_r _ [11, 1, 7, 12, 13, 14, 15, 16, 17, 18, 19, 20, 21, 22, 23, 24, 25, 26, 27, 28, 29, 30, 31, 32, 33, 34, 35, 36, 37, 38, 39, 40, 41, 42, 43] (by decide +kernel) (by decide +kernel)
set_option maxRecDepth 20000 in
theorem gX8_isTold_X8_isPair : GoodIn wsX8_isTold (wsV RX8 105 RX8 yX8_isPair wsX8_isPair) := goodIn_app (goodIn_of _ (by decide +kernel)) ggX8_isTold_X8_isPair
theorem dX8_isTold_0 : decode cX8_isTold 0 = .ok (.aload_n 0, 1) := by decide +kernel
theorem dX8_isTold_1 : decode cX8_isTold 1 = .ok (.iload_n 1, 1) := by decide +kernel
theorem dX8_isTold_2 : decode cX8_isTold 2 = .ok (.invokevirtual 109, 3) := by decide +kernel
theorem dX8_isTold_5 : decode cX8_isTold 5 = .ok (.ifCond .eq 41, 3) := by decide +kernel
theorem dX8_isTold_8 : decode cX8_isTold 8 = .ok (.aload_n 0, 1) := by decide +kernel
theorem dX8_isTold_9 : decode cX8_isTold 9 = .ok (.iload_n 2, 1) := by decide +kernel
theorem dX8_isTold_10 : decode cX8_isTold 10 = .ok (.invokevirtual 109, 3) := by decide +kernel
theorem dX8_isTold_13 : decode cX8_isTold 13 = .ok (.ifCond .eq 33, 3) := by decide +kernel
theorem dX8_isTold_16 : decode cX8_isTold 16 = .ok (.aload_n 0, 1) := by decide +kernel
theorem dX8_isTold_17 : decode cX8_isTold 17 = .ok (.iload_n 1, 1) := by decide +kernel
theorem dX8_isTold_18 : decode cX8_isTold 18 = .ok (.iload_n 2, 1) := by decide +kernel
theorem dX8_isTold_19 : decode cX8_isTold 19 = .ok (.invokevirtual 105, 3) := by decide +kernel
theorem dX8_isTold_22 : decode cX8_isTold 22 = .ok (.ifCond .ne 20, 3) := by decide +kernel
theorem dX8_isTold_25 : decode cX8_isTold 25 = .ok (.aload_n 0, 1) := by decide +kernel
theorem dX8_isTold_26 : decode cX8_isTold 26 = .ok (.getfield 98, 3) := by decide +kernel
theorem dX8_isTold_29 : decode cX8_isTold 29 = .ok (.iconst 1, 1) := by decide +kernel
theorem dX8_isTold_30 : decode cX8_isTold 30 = .ok (.if_icmp .eq 16, 3) := by decide +kernel
theorem dX8_isTold_33 : decode cX8_isTold 33 = .ok (.aload_n 0, 1) := by decide +kernel
theorem dX8_isTold_34 : decode cX8_isTold 34 = .ok (.iload_n 2, 1) := by decide +kernel
theorem dX8_isTold_35 : decode cX8_isTold 35 = .ok (.iload_n 1, 1) := by decide +kernel
theorem dX8_isTold_36 : decode cX8_isTold 36 = .ok (.invokevirtual 105, 3) := by decide +kernel
theorem dX8_isTold_39 : decode cX8_isTold 39 = .ok (.ifCond .eq 7, 3) := by decide +kernel
theorem dX8_isTold_42 : decode cX8_isTold 42 = .ok (.iconst 1, 1) := by decide +kernel
theorem dX8_isTold_43 : decode cX8_isTold 43 = .ok (.goto 4, 3) := by decide +kernel
theorem dX8_isTold_46 : decode cX8_isTold 46 = .ok (.iconst 0, 1) := by decide +kernel
theorem dX8_isTold_47 : decode cX8_isTold 47 = .ok (.ireturn, 1) := by decide +kernel
set_option maxRecDepth 20000 in
theorem ggX8_isTurned_X8_isPair : GoodIn wsX8_isTurned wsX8_isPair := goodIn_r _ [5, 6, 7, 8, 9, 10, 11, 12, 13, 14, 15, 16, 17, 18, 19, 20, 21, 22, 23, 24, 25, 26, 27, 28, 29, 30, 31, 32, 33, 34, 35, 36, 37, 38, 39] (by decide +kernel) (by decide +kernel)
set_option maxRecDepth 20000 in
theorem gX8_isTurned_X8_isPair : GoodIn wsX8_isTurned (wsV RX8 105 RX8 yX8_isPair wsX8_isPair) := goodIn_app (goodIn_of _ (by decide +kernel)) ggX8_isTurned_X8_isPair
theorem dX8_isTurned_0 : decode cX8_isTurned 0 = .ok (.aload_n 0, 1) := by decide +kernel
theorem dX8_isTurned_1 : decode cX8_isTurned 1 = .ok (.iload_n 1, 1) := by decide +kernel
theorem dX8_isTurned_2 : decode cX8_isTurned 2 = .ok (.iload_n 2, 1) := by decide +kernel
theorem dX8_isTurned_3 : decode cX8_isTurned 3 = .ok (.invokevirtual 105, 3) := by decide +kernel
theorem dX8_isTurned_6 : decode cX8_isTurned 6 = .ok (.ifCond .ne 7, 3) := by decide +kernel
theorem dX8_isTurned_9 : decode cX8_isTurned 9 = .ok (.iconst 1, 1) := by decide +kernel
theorem dX8_isTurned_10 : decode cX8_isTurned 10 = .ok (.goto 4, 3) := by decide +kernel
theorem dX8_isTurned_13 : decode cX8_isTurned 13 = .ok (.iconst 0, 1) := by decide +kernel
theorem dX8_isTurned_14 : decode cX8_isTurned 14 = .ok (.ireturn, 1) := by decide +kernel
set_option maxRecDepth 20000 in
theorem ggX8_arc_X8_isTold : GoodIn wsX8_arc wsX8_isTold := goodIn_r _ [12, 7, 13, 14, 15, 11, 16, 17, 18, 19, 20, 21, 27, 28, 29, 30, 31, 32, 33, 34, 35, 36, 37, 38, 39, 40, 41, 42, 43, 44, 45, 46, 47, 48, 49, 50, 51, 52, 53, 54, 55, 56, 57, 58] (by decide +kernel) (by decide +kernel)
set_option maxRecDepth 20000 in
theorem gX8_arc_X8_isTold : GoodIn wsX8_arc (wsV RX8 113 RX8 yX8_isTold wsX8_isTold) := goodIn_app (goodIn_of _ (by decide +kernel)) ggX8_arc_X8_isTold
set_option maxRecDepth 20000 in
theorem ggX8_arc_X8_changed : GoodIn wsX8_arc wsX8_changed := goodIn_r _ [25, 26, 27, 28, 29, 30, 31, 32, 33, 34, 35, 36, 37, 38, 39, 40, 41, 42, 43, 44, 45, 46, 47, 48, 49, 50, 51, 52, 53, 54, 55, 56, 57, 58] (by decide +kernel) (by decide +kernel)
set_option maxRecDepth 20000 in
theorem gX8_arc_X8_changed : GoodIn wsX8_arc (wsV RX8 89 RX8 yX8_changed wsX8_changed) := goodIn_app (goodIn_of _ (by decide +kernel)) ggX8_arc_X8_changed
theorem dX8_arc_0 : decode cX8_arc 0 = .ok (.aload_n 0, 1) := by decide +kernel
theorem dX8_arc_1 : decode cX8_arc 1 = .ok (.iload_n 1, 1) := by decide +kernel
theorem dX8_arc_2 : decode cX8_arc 2 = .ok (.iload_n 2, 1) := by decide +kernel
theorem dX8_arc_3 : decode cX8_arc 3 = .ok (.invokevirtual 113, 3) := by decide +kernel
theorem dX8_arc_6 : decode cX8_arc 6 = .ok (.ifCond .ne 5, 3) := by decide +kernel
theorem dX8_arc_9 : decode cX8_arc 9 = .ok (.iconst (-1), 1) := by decide +kernel
theorem dX8_arc_10 : decode cX8_arc 10 = .ok (.ireturn, 1) := by decide +kernel
theorem dX8_arc_11 : decode cX8_arc 11 = .ok (.iload_n 3, 1) := by decide +kernel
theorem dX8_arc_12 : decode cX8_arc 12 = .ok (.ifCond .lt 10, 3) := by decide +kernel
theorem dX8_arc_15 : decode cX8_arc 15 = .ok (.iload_n 3, 1) := by decide +kernel
theorem dX8_arc_16 : decode cX8_arc 16 = .ok (.sipush 9999, 3) := by decide +kernel
theorem dX8_arc_19 : decode cX8_arc 19 = .ok (.if_icmp .le 6, 3) := by decide +kernel
theorem dX8_arc_22 : decode cX8_arc 22 = .ok (.bipush (-2), 2) := by decide +kernel
theorem dX8_arc_24 : decode cX8_arc 24 = .ok (.ireturn, 1) := by decide +kernel
theorem dX8_arc_25 : decode cX8_arc 25 = .ok (.aload_n 0, 1) := by decide +kernel
theorem dX8_arc_26 : decode cX8_arc 26 = .ok (.getfield 13, 3) := by decide +kernel
theorem dX8_arc_29 : decode cX8_arc 29 = .ok (.bipush 12, 2) := by decide +kernel
theorem dX8_arc_31 : decode cX8_arc 31 = .ok (.iload_n 1, 1) := by decide +kernel
theorem dX8_arc_32 : decode cX8_arc 32 = .ok (.imul, 1) := by decide +kernel
theorem dX8_arc_33 : decode cX8_arc 33 = .ok (.iload_n 2, 1) := by decide +kernel
theorem dX8_arc_34 : decode cX8_arc 34 = .ok (.iadd, 1) := by decide +kernel
theorem dX8_arc_35 : decode cX8_arc 35 = .ok (.iaload, 1) := by decide +kernel
theorem dX8_arc_36 : decode cX8_arc 36 = .ok (.ifCond .le 6, 3) := by decide +kernel
theorem dX8_arc_39 : decode cX8_arc 39 = .ok (.bipush (-3), 2) := by decide +kernel
theorem dX8_arc_41 : decode cX8_arc 41 = .ok (.ireturn, 1) := by decide +kernel
theorem dX8_arc_42 : decode cX8_arc 42 = .ok (.aload_n 0, 1) := by decide +kernel
theorem dX8_arc_43 : decode cX8_arc 43 = .ok (.invokevirtual 89, 3) := by decide +kernel
theorem dX8_arc_46 : decode cX8_arc 46 = .ok (.aload_n 0, 1) := by decide +kernel
theorem dX8_arc_47 : decode cX8_arc 47 = .ok (.getfield 17, 3) := by decide +kernel
theorem dX8_arc_50 : decode cX8_arc 50 = .ok (.aload_n 0, 1) := by decide +kernel
theorem dX8_arc_51 : decode cX8_arc 51 = .ok (.getfield 92, 3) := by decide +kernel
theorem dX8_arc_54 : decode cX8_arc 54 = .ok (.iload_n 1, 1) := by decide +kernel
theorem dX8_arc_55 : decode cX8_arc 55 = .ok (.iastore, 1) := by decide +kernel
theorem dX8_arc_56 : decode cX8_arc 56 = .ok (.aload_n 0, 1) := by decide +kernel
theorem dX8_arc_57 : decode cX8_arc 57 = .ok (.getfield 20, 3) := by decide +kernel
theorem dX8_arc_60 : decode cX8_arc 60 = .ok (.aload_n 0, 1) := by decide +kernel
theorem dX8_arc_61 : decode cX8_arc 61 = .ok (.getfield 92, 3) := by decide +kernel
theorem dX8_arc_64 : decode cX8_arc 64 = .ok (.iload_n 2, 1) := by decide +kernel
theorem dX8_arc_65 : decode cX8_arc 65 = .ok (.iastore, 1) := by decide +kernel
theorem dX8_arc_66 : decode cX8_arc 66 = .ok (.aload_n 0, 1) := by decide +kernel
theorem dX8_arc_67 : decode cX8_arc 67 = .ok (.getfield 23, 3) := by decide +kernel
theorem dX8_arc_70 : decode cX8_arc 70 = .ok (.aload_n 0, 1) := by decide +kernel
theorem dX8_arc_71 : decode cX8_arc 71 = .ok (.getfield 92, 3) := by decide +kernel
theorem dX8_arc_74 : decode cX8_arc 74 = .ok (.iload_n 3, 1) := by decide +kernel
theorem dX8_arc_75 : decode cX8_arc 75 = .ok (.iastore, 1) := by decide +kernel
theorem dX8_arc_76 : decode cX8_arc 76 = .ok (.aload_n 0, 1) := by decide +kernel
theorem dX8_arc_77 : decode cX8_arc 77 = .ok (.getfield 26, 3) := by decide +kernel
theorem dX8_arc_80 : decode cX8_arc 80 = .ok (.aload_n 0, 1) := by decide +kernel
theorem dX8_arc_81 : decode cX8_arc 81 = .ok (.getfield 92, 3) := by decide +kernel
theorem dX8_arc_84 : decode cX8_arc 84 = .ok (.iconst 0, 1) := by decide +kernel
theorem dX8_arc_85 : decode cX8_arc 85 = .ok (.bastore, 1) := by decide +kernel
theorem dX8_arc_86 : decode cX8_arc 86 = .ok (.aload_n 0, 1) := by decide +kernel
theorem dX8_arc_87 : decode cX8_arc 87 = .ok (.dup, 1) := by decide +kernel
theorem dX8_arc_88 : decode cX8_arc 88 = .ok (.getfield 92, 3) := by decide +kernel
theorem dX8_arc_91 : decode cX8_arc 91 = .ok (.iconst 1, 1) := by decide +kernel
theorem dX8_arc_92 : decode cX8_arc 92 = .ok (.iadd, 1) := by decide +kernel
theorem dX8_arc_93 : decode cX8_arc 93 = .ok (.putfield 92, 3) := by decide +kernel
theorem dX8_arc_96 : decode cX8_arc 96 = .ok (.aload_n 0, 1) := by decide +kernel
theorem dX8_arc_97 : decode cX8_arc 97 = .ok (.getfield 13, 3) := by decide +kernel
theorem dX8_arc_100 : decode cX8_arc 100 = .ok (.bipush 12, 2) := by decide +kernel
theorem dX8_arc_102 : decode cX8_arc 102 = .ok (.iload_n 1, 1) := by decide +kernel
theorem dX8_arc_103 : decode cX8_arc 103 = .ok (.imul, 1) := by decide +kernel
theorem dX8_arc_104 : decode cX8_arc 104 = .ok (.iload_n 2, 1) := by decide +kernel
theorem dX8_arc_105 : decode cX8_arc 105 = .ok (.iadd, 1) := by decide +kernel
theorem dX8_arc_106 : decode cX8_arc 106 = .ok (.aload_n 0, 1) := by decide +kernel
theorem dX8_arc_107 : decode cX8_arc 107 = .ok (.getfield 92, 3) := by decide +kernel
theorem dX8_arc_110 : decode cX8_arc 110 = .ok (.iastore, 1) := by decide +kernel
theorem dX8_arc_111 : decode cX8_arc 111 = .ok (.aload_n 0, 1) := by decide +kernel
theorem dX8_arc_112 : decode cX8_arc 112 = .ok (.getfield 98, 3) := by decide +kernel
theorem dX8_arc_115 : decode cX8_arc 115 = .ok (.iconst 1, 1) := by decide +kernel
theorem dX8_arc_116 : decode cX8_arc 116 = .ok (.if_icmp .eq 18, 3) := by decide +kernel
theorem dX8_arc_119 : decode cX8_arc 119 = .ok (.aload_n 0, 1) := by decide +kernel
theorem dX8_arc_120 : decode cX8_arc 120 = .ok (.getfield 13, 3) := by decide +kernel
theorem dX8_arc_123 : decode cX8_arc 123 = .ok (.bipush 12, 2) := by decide +kernel
theorem dX8_arc_125 : decode cX8_arc 125 = .ok (.iload_n 2, 1) := by decide +kernel
theorem dX8_arc_126 : decode cX8_arc 126 = .ok (.imul, 1) := by decide +kernel
theorem dX8_arc_127 : decode cX8_arc 127 = .ok (.iload_n 1, 1) := by decide +kernel
theorem dX8_arc_128 : decode cX8_arc 128 = .ok (.iadd, 1) := by decide +kernel
theorem dX8_arc_129 : decode cX8_arc 129 = .ok (.aload_n 0, 1) := by decide +kernel
theorem dX8_arc_130 : decode cX8_arc 130 = .ok (.getfield 92, 3) := by decide +kernel
theorem dX8_arc_133 : decode cX8_arc 133 = .ok (.iastore, 1) := by decide +kernel
theorem dX8_arc_134 : decode cX8_arc 134 = .ok (.aload_n 0, 1) := by decide +kernel
theorem dX8_arc_135 : decode cX8_arc 135 = .ok (.getfield 92, 3) := by decide +kernel
theorem dX8_arc_138 : decode cX8_arc 138 = .ok (.ireturn, 1) := by decide +kernel
set_option maxRecDepth 20000 in
theorem ggX8_group_X8_isNode : GoodIn wsX8_group wsX8_isNode := goodIn_r _ [6, 7, 13, 14, 15, 16, 17, 18, 19, 20, 21, 22, 23, 24, 25, 26, 27, 28, 29, 30, 31, 32, 33, 34, 35, 36, 37, 38, 39, 40, 41, 42, 43, 44] (by decide +kernel) (by decide +kernel)
set_option maxRecDepth 20000 in
theorem gX8_group_X8_isNode : GoodIn wsX8_group (wsV RX8 109 RX8 yX8_isNode wsX8_isNode) := goodIn_app (goodIn_of _ (by decide +kernel)) ggX8_group_X8_isNode
set_option maxRecDepth 20000 in
theorem ggX8_group_X8_changed : GoodIn wsX8_group wsX8_changed := goodIn_r _ [11, 12, 13, 14, 15, 16, 17, 18, 19, 20, 21, 22, 23, 24, 25, 26, 27, 28, 29, 30, 31, 32, 33, 34, 35, 36, 37, 38, 39, 40, 41, 42, 43, 44] (by decide +kernel) (by decide +kernel)
set_option maxRecDepth 20000 in
theorem gX8_group_X8_changed : GoodIn wsX8_group (wsV RX8 89 RX8 yX8_changed wsX8_changed) := goodIn_app (goodIn_of _ (by decide +kernel)) ggX8_group_X8_changed
theorem dX8_group_0 : decode cX8_group 0 = .ok (.aload_n 0, 1) := by decide +kernel
theorem dX8_group_1 : decode cX8_group 1 = .ok (.iload_n 1, 1) := by decide +kernel
theorem dX8_group_2 : decode cX8_group 2 = .ok (.invokevirtual 109, 3) := by decide +kernel
theorem dX8_group_5 : decode cX8_group 5 = .ok (.ifCond .ne 5, 3) := by decide +kernel
theorem dX8_group_8 : decode cX8_group 8 = .ok (.iconst (-1), 1) := by decide +kernel
theorem dX8_group_9 : decode cX8_group 9 = .ok (.ireturn, 1) := by decide +kernel
theorem dX8_group_10 : decode cX8_group 10 = .ok (.iload_n 2, 1) := by decide +kernel
theorem dX8_group_11 : decode cX8_group 11 = .ok (.ifCond .lt 8, 3) := by decide +kernel
theorem dX8_group_14 : decode cX8_group 14 = .ok (.iload_n 2, 1) := by decide +kernel
theorem dX8_group_15 : decode cX8_group 15 = .ok (.iconst 3, 1) := by decide +kernel
theorem dX8_group_16 : decode cX8_group 16 = .ok (.if_icmp .le 6, 3) := by decide +kernel
theorem dX8_group_19 : decode cX8_group 19 = .ok (.bipush (-2), 2) := by decide +kernel
theorem dX8_group_21 : decode cX8_group 21 = .ok (.ireturn, 1) := by decide +kernel
theorem dX8_group_22 : decode cX8_group 22 = .ok (.aload_n 0, 1) := by decide +kernel
theorem dX8_group_23 : decode cX8_group 23 = .ok (.invokevirtual 89, 3) := by decide +kernel
theorem dX8_group_26 : decode cX8_group 26 = .ok (.aload_n 0, 1) := by decide +kernel
theorem dX8_group_27 : decode cX8_group 27 = .ok (.getfield 30, 3) := by decide +kernel
theorem dX8_group_30 : decode cX8_group 30 = .ok (.iload_n 1, 1) := by decide +kernel
theorem dX8_group_31 : decode cX8_group 31 = .ok (.iaload, 1) := by decide +kernel
theorem dX8_group_32 : decode cX8_group 32 = .ok (.istore_n 3, 1) := by decide +kernel
theorem dX8_group_33 : decode cX8_group 33 = .ok (.aload_n 0, 1) := by decide +kernel
theorem dX8_group_34 : decode cX8_group 34 = .ok (.getfield 30, 3) := by decide +kernel
theorem dX8_group_37 : decode cX8_group 37 = .ok (.iload_n 1, 1) := by decide +kernel
theorem dX8_group_38 : decode cX8_group 38 = .ok (.iload_n 2, 1) := by decide +kernel
theorem dX8_group_39 : decode cX8_group 39 = .ok (.iastore, 1) := by decide +kernel
theorem dX8_group_40 : decode cX8_group 40 = .ok (.iload_n 3, 1) := by decide +kernel
theorem dX8_group_41 : decode cX8_group 41 = .ok (.ireturn, 1) := by decide +kernel
set_option maxRecDepth 20000 in
theorem ggX8_hide_X8_isTold : GoodIn wsX8_hide wsX8_isTold := goodIn_r _ [7, 8, 9, 10, 11, 6, 12, 13, 14, 15, 16, 17, 23, 24, 25, 26, 27, 28, 29, 30, 31, 32, 33, 34, 35, 36, 37, 38, 39, 40, 41, 42, 43, 44, 45, 46, 47, 48, 49, 50, 51, 52, 53, 54] (by decide +kernel) (by decide +kernel)
set_option maxRecDepth 20000 in
theorem gX8_hide_X8_isTold : GoodIn wsX8_hide (wsV RX8 113 RX8 yX8_isTold wsX8_isTold) := goodIn_app (goodIn_of _ (by decide +kernel)) ggX8_hide_X8_isTold
set_option maxRecDepth 20000 in
theorem ggX8_hide_X8_changed : GoodIn wsX8_hide wsX8_changed := goodIn_r _ [21, 22, 23, 24, 25, 26, 27, 28, 29, 30, 31, 32, 33, 34, 35, 36, 37, 38, 39, 40, 41, 42, 43, 44, 45, 46, 47, 48, 49, 50, 51, 52, 53, 54] (by decide +kernel) (by decide +kernel)
set_option maxRecDepth 20000 in
theorem gX8_hide_X8_changed : GoodIn wsX8_hide (wsV RX8 89 RX8 yX8_changed wsX8_changed) := goodIn_app (goodIn_of _ (by decide +kernel)) ggX8_hide_X8_changed
theorem dX8_hide_0 : decode cX8_hide 0 = .ok (.aload_n 0, 1) := by decide +kernel
theorem dX8_hide_1 : decode cX8_hide 1 = .ok (.iload_n 1, 1) := by decide +kernel
theorem dX8_hide_2 : decode cX8_hide 2 = .ok (.iload_n 2, 1) := by decide +kernel
theorem dX8_hide_3 : decode cX8_hide 3 = .ok (.invokevirtual 113, 3) := by decide +kernel
theorem dX8_hide_6 : decode cX8_hide 6 = .ok (.ifCond .eq 17, 3) := by decide +kernel
theorem dX8_hide_9 : decode cX8_hide 9 = .ok (.aload_n 0, 1) := by decide +kernel
theorem dX8_hide_10 : decode cX8_hide 10 = .ok (.getfield 13, 3) := by decide +kernel
theorem dX8_hide_13 : decode cX8_hide 13 = .ok (.bipush 12, 2) := by decide +kernel
theorem dX8_hide_15 : decode cX8_hide 15 = .ok (.iload_n 1, 1) := by decide +kernel
theorem dX8_hide_16 : decode cX8_hide 16 = .ok (.imul, 1) := by decide +kernel
theorem dX8_hide_17 : decode cX8_hide 17 = .ok (.iload_n 2, 1) := by decide +kernel
theorem dX8_hide_18 : decode cX8_hide 18 = .ok (.iadd, 1) := by decide +kernel
theorem dX8_hide_19 : decode cX8_hide 19 = .ok (.iaload, 1) := by decide +kernel
theorem dX8_hide_20 : decode cX8_hide 20 = .ok (.ifCond .ne 5, 3) := by decide +kernel
theorem dX8_hide_23 : decode cX8_hide 23 = .ok (.iconst (-1), 1) := by decide +kernel
theorem dX8_hide_24 : decode cX8_hide 24 = .ok (.ireturn, 1) := by decide +kernel
theorem dX8_hide_25 : decode cX8_hide 25 = .ok (.aload_n 0, 1) := by decide +kernel
theorem dX8_hide_26 : decode cX8_hide 26 = .ok (.getfield 13, 3) := by decide +kernel
theorem dX8_hide_29 : decode cX8_hide 29 = .ok (.bipush 12, 2) := by decide +kernel
theorem dX8_hide_31 : decode cX8_hide 31 = .ok (.iload_n 1, 1) := by decide +kernel
theorem dX8_hide_32 : decode cX8_hide 32 = .ok (.imul, 1) := by decide +kernel
theorem dX8_hide_33 : decode cX8_hide 33 = .ok (.iload_n 2, 1) := by decide +kernel
theorem dX8_hide_34 : decode cX8_hide 34 = .ok (.iadd, 1) := by decide +kernel
theorem dX8_hide_35 : decode cX8_hide 35 = .ok (.iaload, 1) := by decide +kernel
theorem dX8_hide_36 : decode cX8_hide 36 = .ok (.iconst 1, 1) := by decide +kernel
theorem dX8_hide_37 : decode cX8_hide 37 = .ok (.isub, 1) := by decide +kernel
theorem dX8_hide_38 : decode cX8_hide 38 = .ok (.istore 4, 2) := by decide +kernel
theorem dX8_hide_40 : decode cX8_hide 40 = .ok (.aload_n 0, 1) := by decide +kernel
theorem dX8_hide_41 : decode cX8_hide 41 = .ok (.invokevirtual 89, 3) := by decide +kernel
theorem dX8_hide_44 : decode cX8_hide 44 = .ok (.aload_n 0, 1) := by decide +kernel
theorem dX8_hide_45 : decode cX8_hide 45 = .ok (.getfield 26, 3) := by decide +kernel
theorem dX8_hide_48 : decode cX8_hide 48 = .ok (.iload 4, 2) := by decide +kernel
theorem dX8_hide_50 : decode cX8_hide 50 = .ok (.baload, 1) := by decide +kernel
theorem dX8_hide_51 : decode cX8_hide 51 = .ok (.ifCond .eq 7, 3) := by decide +kernel
theorem dX8_hide_54 : decode cX8_hide 54 = .ok (.iconst 1, 1) := by decide +kernel
theorem dX8_hide_55 : decode cX8_hide 55 = .ok (.goto 4, 3) := by decide +kernel
theorem dX8_hide_58 : decode cX8_hide 58 = .ok (.iconst 0, 1) := by decide +kernel
theorem dX8_hide_59 : decode cX8_hide 59 = .ok (.istore 5, 2) := by decide +kernel
theorem dX8_hide_61 : decode cX8_hide 61 = .ok (.aload_n 0, 1) := by decide +kernel
theorem dX8_hide_62 : decode cX8_hide 62 = .ok (.getfield 26, 3) := by decide +kernel
theorem dX8_hide_65 : decode cX8_hide 65 = .ok (.iload 4, 2) := by decide +kernel
theorem dX8_hide_67 : decode cX8_hide 67 = .ok (.iload_n 3, 1) := by decide +kernel
theorem dX8_hide_68 : decode cX8_hide 68 = .ok (.bastore, 1) := by decide +kernel
theorem dX8_hide_69 : decode cX8_hide 69 = .ok (.iload 5, 2) := by decide +kernel
theorem dX8_hide_71 : decode cX8_hide 71 = .ok (.ireturn, 1) := by decide +kernel
theorem dX8_hiddenOnes_0 : decode cX8_hiddenOnes 0 = .ok (.iconst 0, 1) := by decide +kernel
theorem dX8_hiddenOnes_1 : decode cX8_hiddenOnes 1 = .ok (.istore_n 1, 1) := by decide +kernel
theorem dX8_hiddenOnes_2 : decode cX8_hiddenOnes 2 = .ok (.iconst 0, 1) := by decide +kernel
theorem dX8_hiddenOnes_3 : decode cX8_hiddenOnes 3 = .ok (.istore_n 2, 1) := by decide +kernel
theorem dX8_hiddenOnes_4 : decode cX8_hiddenOnes 4 = .ok (.iload_n 2, 1) := by decide +kernel
theorem dX8_hiddenOnes_5 : decode cX8_hiddenOnes 5 = .ok (.aload_n 0, 1) := by decide +kernel
theorem dX8_hiddenOnes_6 : decode cX8_hiddenOnes 6 = .ok (.getfield 92, 3) := by decide +kernel
theorem dX8_hiddenOnes_9 : decode cX8_hiddenOnes 9 = .ok (.if_icmp .ge 26, 3) := by decide +kernel
theorem dX8_hiddenOnes_12 : decode cX8_hiddenOnes 12 = .ok (.iload_n 1, 1) := by decide +kernel
theorem dX8_hiddenOnes_13 : decode cX8_hiddenOnes 13 = .ok (.aload_n 0, 1) := by decide +kernel
theorem dX8_hiddenOnes_14 : decode cX8_hiddenOnes 14 = .ok (.getfield 26, 3) := by decide +kernel
theorem dX8_hiddenOnes_17 : decode cX8_hiddenOnes 17 = .ok (.iload_n 2, 1) := by decide +kernel
theorem dX8_hiddenOnes_18 : decode cX8_hiddenOnes 18 = .ok (.baload, 1) := by decide +kernel
theorem dX8_hiddenOnes_19 : decode cX8_hiddenOnes 19 = .ok (.ifCond .eq 7, 3) := by decide +kernel
theorem dX8_hiddenOnes_22 : decode cX8_hiddenOnes 22 = .ok (.iconst 1, 1) := by decide +kernel
theorem dX8_hiddenOnes_23 : decode cX8_hiddenOnes 23 = .ok (.goto 4, 3) := by decide +kernel
theorem dX8_hiddenOnes_26 : decode cX8_hiddenOnes 26 = .ok (.iconst 0, 1) := by decide +kernel
theorem dX8_hiddenOnes_27 : decode cX8_hiddenOnes 27 = .ok (.iadd, 1) := by decide +kernel
theorem dX8_hiddenOnes_28 : decode cX8_hiddenOnes 28 = .ok (.istore_n 1, 1) := by decide +kernel
