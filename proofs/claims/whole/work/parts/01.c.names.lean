theorem dX1_putInOrder_7 : decode cX1_putInOrder 7 = .ok (.if_icmp .ge 65, 3) := by decide +kernel
theorem dX1_putInOrder_10 : decode cX1_putInOrder 10 = .ok (.iload_n 1, 1) := by decide +kernel
theorem dX1_putInOrder_11 : decode cX1_putInOrder 11 = .ok (.istore_n 2, 1) := by decide +kernel
theorem dX1_putInOrder_12 : decode cX1_putInOrder 12 = .ok (.iload_n 2, 1) := by decide +kernel
theorem dX1_putInOrder_13 : decode cX1_putInOrder 13 = .ok (.ifCond .le 46, 3) := by decide +kernel
theorem dX1_putInOrder_16 : decode cX1_putInOrder 16 = .ok (.aload_n 0, 1) := by decide +kernel
theorem dX1_putInOrder_17 : decode cX1_putInOrder 17 = .ok (.getfield 15, 3) := by decide +kernel
theorem dX1_putInOrder_20 : decode cX1_putInOrder 20 = .ok (.aload_n 0, 1) := by decide +kernel
theorem dX1_putInOrder_21 : decode cX1_putInOrder 21 = .ok (.getfield 25, 3) := by decide +kernel
theorem dX1_putInOrder_24 : decode cX1_putInOrder 24 = .ok (.iload_n 2, 1) := by decide +kernel
theorem dX1_putInOrder_25 : decode cX1_putInOrder 25 = .ok (.iconst 1, 1) := by decide +kernel
theorem dX1_putInOrder_26 : decode cX1_putInOrder 26 = .ok (.isub, 1) := by decide +kernel
theorem dX1_putInOrder_27 : decode cX1_putInOrder 27 = .ok (.iaload, 1) := by decide +kernel
theorem dX1_putInOrder_28 : decode cX1_putInOrder 28 = .ok (.laload, 1) := by decide +kernel
theorem dX1_putInOrder_29 : decode cX1_putInOrder 29 = .ok (.aload_n 0, 1) := by decide +kernel
theorem dX1_putInOrder_30 : decode cX1_putInOrder 30 = .ok (.getfield 15, 3) := by decide +kernel
theorem dX1_putInOrder_33 : decode cX1_putInOrder 33 = .ok (.iload_n 1, 1) := by decide +kernel
theorem dX1_putInOrder_34 : decode cX1_putInOrder 34 = .ok (.laload, 1) := by decide +kernel
theorem dX1_putInOrder_35 : decode cX1_putInOrder 35 = .ok (.lcmp, 1) := by decide +kernel
theorem dX1_putInOrder_36 : decode cX1_putInOrder 36 = .ok (.ifCond .ge 23, 3) := by decide +kernel
theorem dX1_putInOrder_39 : decode cX1_putInOrder 39 = .ok (.aload_n 0, 1) := by decide +kernel
theorem dX1_putInOrder_40 : decode cX1_putInOrder 40 = .ok (.getfield 25, 3) := by decide +kernel
theorem dX1_putInOrder_43 : decode cX1_putInOrder 43 = .ok (.iload_n 2, 1) := by decide +kernel
theorem dX1_putInOrder_44 : decode cX1_putInOrder 44 = .ok (.aload_n 0, 1) := by decide +kernel
theorem dX1_putInOrder_45 : decode cX1_putInOrder 45 = .ok (.getfield 25, 3) := by decide +kernel
theorem dX1_putInOrder_48 : decode cX1_putInOrder 48 = .ok (.iload_n 2, 1) := by decide +kernel
theorem dX1_putInOrder_49 : decode cX1_putInOrder 49 = .ok (.iconst 1, 1) := by decide +kernel
theorem dX1_putInOrder_50 : decode cX1_putInOrder 50 = .ok (.isub, 1) := by decide +kernel
theorem dX1_putInOrder_51 : decode cX1_putInOrder 51 = .ok (.iaload, 1) := by decide +kernel
theorem dX1_putInOrder_52 : decode cX1_putInOrder 52 = .ok (.iastore, 1) := by decide +kernel
theorem dX1_putInOrder_53 : decode cX1_putInOrder 53 = .ok (.iinc 2 (-1), 3) := by decide +kernel
theorem dX1_putInOrder_56 : decode cX1_putInOrder 56 = .ok (.goto (-44), 3) := by decide +kernel
theorem dX1_putInOrder_59 : decode cX1_putInOrder 59 = .ok (.aload_n 0, 1) := by decide +kernel
theorem dX1_putInOrder_60 : decode cX1_putInOrder 60 = .ok (.getfield 25, 3) := by decide +kernel
theorem dX1_putInOrder_63 : decode cX1_putInOrder 63 = .ok (.iload_n 2, 1) := by decide +kernel
theorem dX1_putInOrder_64 : decode cX1_putInOrder 64 = .ok (.iload_n 1, 1) := by decide +kernel
theorem dX1_putInOrder_65 : decode cX1_putInOrder 65 = .ok (.iastore, 1) := by decide +kernel
theorem dX1_putInOrder_66 : decode cX1_putInOrder 66 = .ok (.iinc 1 1, 3) := by decide +kernel
theorem dX1_putInOrder_69 : decode cX1_putInOrder 69 = .ok (.goto (-67), 3) := by decide +kernel
theorem dX1_putInOrder_72 : decode cX1_putInOrder 72 = .ok (.return_, 1) := by decide +kernel
theorem dX1_pairAtPlace_0 : decode cX1_pairAtPlace 0 = .ok (.aload_n 0, 1) := by decide +kernel
theorem dX1_pairAtPlace_1 : decode cX1_pairAtPlace 1 = .ok (.getfield 9, 3) := by decide +kernel
theorem dX1_pairAtPlace_4 : decode cX1_pairAtPlace 4 = .ok (.aload_n 0, 1) := by decide +kernel
theorem dX1_pairAtPlace_5 : decode cX1_pairAtPlace 5 = .ok (.getfield 25, 3) := by decide +kernel
theorem dX1_pairAtPlace_8 : decode cX1_pairAtPlace 8 = .ok (.iload_n 1, 1) := by decide +kernel
theorem dX1_pairAtPlace_9 : decode cX1_pairAtPlace 9 = .ok (.iaload, 1) := by decide +kernel
theorem dX1_pairAtPlace_10 : decode cX1_pairAtPlace 10 = .ok (.iaload, 1) := by decide +kernel
theorem dX1_pairAtPlace_11 : decode cX1_pairAtPlace 11 = .ok (.ireturn, 1) := by decide +kernel
set_option maxRecDepth 20000 in
theorem ggX1_placeOfPair_X1_pairAtPlace : GoodIn wsX1_placeOfPair wsX1_pairAtPlace := goodIn_r _ [6, 7, 8, 9, 10, 11, 12, 13, 14, 15, 16, 17] (by decide +kernel) (by decide +kernel)
set_option maxRecDepth 20000 in
theorem gX1_placeOfPair_X1_pairAtPlace : GoodIn wsX1_placeOfPair (wsV RX1 60 RX1 yX1_pairAtPlace wsX1_pairAtPlace) := goodIn_app (goodIn_of _ (by decide +kernel)) ggX1_placeOfPair_X1_pairAtPlace
theorem dX1_placeOfPair_0 : decode cX1_placeOfPair 0 = .ok (.iconst 0, 1) := by decide +kernel
theorem dX1_placeOfPair_1 : decode cX1_placeOfPair 1 = .ok (.istore_n 2, 1) := by decide +kernel
theorem dX1_placeOfPair_2 : decode cX1_placeOfPair 2 = .ok (.iload_n 2, 1) := by decide +kernel
theorem dX1_placeOfPair_3 : decode cX1_placeOfPair 3 = .ok (.aload_n 0, 1) := by decide +kernel
theorem dX1_placeOfPair_4 : decode cX1_placeOfPair 4 = .ok (.getfield 32, 3) := by decide +kernel
theorem dX1_placeOfPair_7 : decode cX1_placeOfPair 7 = .ok (.if_icmp .ge 20, 3) := by decide +kernel
theorem dX1_placeOfPair_10 : decode cX1_placeOfPair 10 = .ok (.aload_n 0, 1) := by decide +kernel
theorem dX1_placeOfPair_11 : decode cX1_placeOfPair 11 = .ok (.iload_n 2, 1) := by decide +kernel
theorem dX1_placeOfPair_12 : decode cX1_placeOfPair 12 = .ok (.invokevirtual 60, 3) := by decide +kernel
theorem dX1_placeOfPair_15 : decode cX1_placeOfPair 15 = .ok (.iload_n 1, 1) := by decide +kernel
theorem dX1_placeOfPair_16 : decode cX1_placeOfPair 16 = .ok (.if_icmp .ne 5, 3) := by decide +kernel
theorem dX1_placeOfPair_19 : decode cX1_placeOfPair 19 = .ok (.iload_n 2, 1) := by decide +kernel
theorem dX1_placeOfPair_20 : decode cX1_placeOfPair 20 = .ok (.ireturn, 1) := by decide +kernel
theorem dX1_placeOfPair_21 : decode cX1_placeOfPair 21 = .ok (.iinc 2 1, 3) := by decide +kernel
theorem dX1_placeOfPair_24 : decode cX1_placeOfPair 24 = .ok (.goto (-22), 3) := by decide +kernel
theorem dX1_placeOfPair_27 : decode cX1_placeOfPair 27 = .ok (.bipush (-3), 2) := by decide +kernel
theorem dX1_placeOfPair_29 : decode cX1_placeOfPair 29 = .ok (.ireturn, 1) := by decide +kernel
set_option maxRecDepth 20000 in
theorem ggX1_foundInFirst_X1_pairAtPlace : GoodIn wsX1_foundInFirst wsX1_pairAtPlace := goodIn_r _ [6, 7, 8, 9, 10, 11, 12, 13, 14, 15, 16, 17] (by decide +kernel) (by decide +kernel)
set_option maxRecDepth 20000 in
theorem gX1_foundInFirst_X1_pairAtPlace : GoodIn wsX1_foundInFirst (wsV RX1 60 RX1 yX1_pairAtPlace wsX1_pairAtPlace) := goodIn_app (goodIn_of _ (by decide +kernel)) ggX1_foundInFirst_X1_pairAtPlace
theorem dX1_foundInFirst_0 : decode cX1_foundInFirst 0 = .ok (.iconst 0, 1) := by decide +kernel
theorem dX1_foundInFirst_1 : decode cX1_foundInFirst 1 = .ok (.istore_n 2, 1) := by decide +kernel
theorem dX1_foundInFirst_2 : decode cX1_foundInFirst 2 = .ok (.iconst 0, 1) := by decide +kernel
theorem dX1_foundInFirst_3 : decode cX1_foundInFirst 3 = .ok (.istore_n 3, 1) := by decide +kernel
theorem dX1_foundInFirst_4 : decode cX1_foundInFirst 4 = .ok (.iload_n 3, 1) := by decide +kernel
theorem dX1_foundInFirst_5 : decode cX1_foundInFirst 5 = .ok (.iload_n 1, 1) := by decide +kernel
theorem dX1_foundInFirst_6 : decode cX1_foundInFirst 6 = .ok (.if_icmp .ge 29, 3) := by decide +kernel
theorem dX1_foundInFirst_9 : decode cX1_foundInFirst 9 = .ok (.aload_n 0, 1) := by decide +kernel
theorem dX1_foundInFirst_10 : decode cX1_foundInFirst 10 = .ok (.getfield 28, 3) := by decide +kernel
theorem dX1_foundInFirst_13 : decode cX1_foundInFirst 13 = .ok (.getfield 47, 3) := by decide +kernel
theorem dX1_foundInFirst_16 : decode cX1_foundInFirst 16 = .ok (.aload_n 0, 1) := by decide +kernel
theorem dX1_foundInFirst_17 : decode cX1_foundInFirst 17 = .ok (.iload_n 3, 1) := by decide +kernel
theorem dX1_foundInFirst_18 : decode cX1_foundInFirst 18 = .ok (.invokevirtual 60, 3) := by decide +kernel
theorem dX1_foundInFirst_21 : decode cX1_foundInFirst 21 = .ok (.iaload, 1) := by decide +kernel
theorem dX1_foundInFirst_22 : decode cX1_foundInFirst 22 = .ok (.iconst 2, 1) := by decide +kernel
theorem dX1_foundInFirst_23 : decode cX1_foundInFirst 23 = .ok (.if_icmp .ne 6, 3) := by decide +kernel
theorem dX1_foundInFirst_26 : decode cX1_foundInFirst 26 = .ok (.iinc 2 1, 3) := by decide +kernel
theorem dX1_foundInFirst_29 : decode cX1_foundInFirst 29 = .ok (.iinc 3 1, 3) := by decide +kernel
theorem dX1_foundInFirst_32 : decode cX1_foundInFirst 32 = .ok (.goto (-28), 3) := by decide +kernel
theorem dX1_foundInFirst_35 : decode cX1_foundInFirst 35 = .ok (.iload_n 2, 1) := by decide +kernel
theorem dX1_foundInFirst_36 : decode cX1_foundInFirst 36 = .ok (.ireturn, 1) := by decide +kernel
theorem dX1_canBeJudged_0 : decode cX1_canBeJudged 0 = .ok (.aload_n 0, 1) := by decide +kernel
theorem dX1_canBeJudged_1 : decode cX1_canBeJudged 1 = .ok (.getfield 36, 3) := by decide +kernel
theorem dX1_canBeJudged_4 : decode cX1_canBeJudged 4 = .ok (.ifCond .le 14, 3) := by decide +kernel
theorem dX1_canBeJudged_7 : decode cX1_canBeJudged 7 = .ok (.aload_n 0, 1) := by decide +kernel
theorem dX1_canBeJudged_8 : decode cX1_canBeJudged 8 = .ok (.getfield 39, 3) := by decide +kernel
theorem dX1_canBeJudged_11 : decode cX1_canBeJudged 11 = .ok (.ifCond .le 7, 3) := by decide +kernel
theorem dX1_canBeJudged_14 : decode cX1_canBeJudged 14 = .ok (.iconst 1, 1) := by decide +kernel
theorem dX1_canBeJudged_15 : decode cX1_canBeJudged 15 = .ok (.goto 4, 3) := by decide +kernel
theorem dX1_canBeJudged_18 : decode cX1_canBeJudged 18 = .ok (.iconst 0, 1) := by decide +kernel
theorem dX1_canBeJudged_19 : decode cX1_canBeJudged 19 = .ok (.ireturn, 1) := by decide +kernel
theorem dX1_halvesInAll_0 : decode cX1_halvesInAll 0 = .ok (.iconst 2, 1) := by decide +kernel
theorem dX1_halvesInAll_1 : decode cX1_halvesInAll 1 = .ok (.aload_n 0, 1) := by decide +kernel
theorem dX1_halvesInAll_2 : decode cX1_halvesInAll 2 = .ok (.getfield 36, 3) := by decide +kernel
theorem dX1_halvesInAll_5 : decode cX1_halvesInAll 5 = .ok (.imul, 1) := by decide +kernel
theorem dX1_halvesInAll_6 : decode cX1_halvesInAll 6 = .ok (.aload_n 0, 1) := by decide +kernel
theorem dX1_halvesInAll_7 : decode cX1_halvesInAll 7 = .ok (.getfield 39, 3) := by decide +kernel
theorem dX1_halvesInAll_10 : decode cX1_halvesInAll 10 = .ok (.imul, 1) := by decide +kernel
theorem dX1_halvesInAll_11 : decode cX1_halvesInAll 11 = .ok (.ireturn, 1) := by decide +kernel
set_option maxRecDepth 20000 in
theorem ggX1_halvesWon_X1_halvesOf : GoodIn wsX1_halvesWon wsX1_halvesOf := goodIn_r _ [9] (by decide +kernel) (by decide +kernel)
set_option maxRecDepth 20000 in
theorem gX1_halvesWon_X1_halvesOf : GoodIn wsX1_halvesWon (va_wsS RX1 64 yX1_halvesOf wsX1_halvesOf) := goodIn_app (goodIn_of _ (by decide +kernel)) ggX1_halvesWon_X1_halvesOf
theorem dX1_halvesWon_0 : decode cX1_halvesWon 0 = .ok (.iconst 0, 1) := by decide +kernel
theorem dX1_halvesWon_1 : decode cX1_halvesWon 1 = .ok (.istore_n 1, 1) := by decide +kernel
theorem dX1_halvesWon_2 : decode cX1_halvesWon 2 = .ok (.iconst 0, 1) := by decide +kernel
theorem dX1_halvesWon_3 : decode cX1_halvesWon 3 = .ok (.istore_n 2, 1) := by decide +kernel
theorem dX1_halvesWon_4 : decode cX1_halvesWon 4 = .ok (.iload_n 2, 1) := by decide +kernel
theorem dX1_halvesWon_5 : decode cX1_halvesWon 5 = .ok (.aload_n 0, 1) := by decide +kernel
theorem dX1_halvesWon_6 : decode cX1_halvesWon 6 = .ok (.getfield 36, 3) := by decide +kernel
theorem dX1_halvesWon_9 : decode cX1_halvesWon 9 = .ok (.if_icmp .ge 58, 3) := by decide +kernel
theorem dX1_halvesWon_12 : decode cX1_halvesWon 12 = .ok (.aload_n 0, 1) := by decide +kernel
theorem dX1_halvesWon_13 : decode cX1_halvesWon 13 = .ok (.getfield 15, 3) := by decide +kernel
theorem dX1_halvesWon_16 : decode cX1_halvesWon 16 = .ok (.aload_n 0, 1) := by decide +kernel
theorem dX1_halvesWon_17 : decode cX1_halvesWon 17 = .ok (.getfield 19, 3) := by decide +kernel
theorem dX1_halvesWon_20 : decode cX1_halvesWon 20 = .ok (.iload_n 2, 1) := by decide +kernel
theorem dX1_halvesWon_21 : decode cX1_halvesWon 21 = .ok (.iaload, 1) := by decide +kernel
theorem dX1_halvesWon_22 : decode cX1_halvesWon 22 = .ok (.laload, 1) := by decide +kernel
theorem dX1_halvesWon_23 : decode cX1_halvesWon 23 = .ok (.lstore_n 3, 1) := by decide +kernel
theorem dX1_halvesWon_24 : decode cX1_halvesWon 24 = .ok (.iconst 0, 1) := by decide +kernel
theorem dX1_halvesWon_25 : decode cX1_halvesWon 25 = .ok (.istore 5, 2) := by decide +kernel
theorem dX1_halvesWon_27 : decode cX1_halvesWon 27 = .ok (.iload 5, 2) := by decide +kernel
theorem dX1_halvesWon_29 : decode cX1_halvesWon 29 = .ok (.aload_n 0, 1) := by decide +kernel
theorem dX1_halvesWon_30 : decode cX1_halvesWon 30 = .ok (.getfield 39, 3) := by decide +kernel
theorem dX1_halvesWon_33 : decode cX1_halvesWon 33 = .ok (.if_icmp .ge 28, 3) := by decide +kernel
theorem dX1_halvesWon_36 : decode cX1_halvesWon 36 = .ok (.iload_n 1, 1) := by decide +kernel
theorem dX1_halvesWon_37 : decode cX1_halvesWon 37 = .ok (.lload_n 3, 1) := by decide +kernel
theorem dX1_halvesWon_38 : decode cX1_halvesWon 38 = .ok (.aload_n 0, 1) := by decide +kernel
theorem dX1_halvesWon_39 : decode cX1_halvesWon 39 = .ok (.getfield 15, 3) := by decide +kernel
theorem dX1_halvesWon_42 : decode cX1_halvesWon 42 = .ok (.aload_n 0, 1) := by decide +kernel
theorem dX1_halvesWon_43 : decode cX1_halvesWon 43 = .ok (.getfield 22, 3) := by decide +kernel
theorem dX1_halvesWon_46 : decode cX1_halvesWon 46 = .ok (.iload 5, 2) := by decide +kernel
theorem dX1_halvesWon_48 : decode cX1_halvesWon 48 = .ok (.iaload, 1) := by decide +kernel
theorem dX1_halvesWon_49 : decode cX1_halvesWon 49 = .ok (.laload, 1) := by decide +kernel
theorem dX1_halvesWon_50 : decode cX1_halvesWon 50 = .ok (.invokestatic 64, 3) := by decide +kernel
theorem dX1_halvesWon_53 : decode cX1_halvesWon 53 = .ok (.iadd, 1) := by decide +kernel
theorem dX1_halvesWon_54 : decode cX1_halvesWon 54 = .ok (.istore_n 1, 1) := by decide +kernel
theorem dX1_halvesWon_55 : decode cX1_halvesWon 55 = .ok (.iinc 5 1, 3) := by decide +kernel
theorem dX1_halvesWon_58 : decode cX1_halvesWon 58 = .ok (.goto (-31), 3) := by decide +kernel
theorem dX1_halvesWon_61 : decode cX1_halvesWon 61 = .ok (.iinc 2 1, 3) := by decide +kernel
theorem dX1_halvesWon_64 : decode cX1_halvesWon 64 = .ok (.goto (-60), 3) := by decide +kernel
theorem dX1_halvesWon_67 : decode cX1_halvesWon 67 = .ok (.iload_n 1, 1) := by decide +kernel
theorem dX1_halvesWon_68 : decode cX1_halvesWon 68 = .ok (.ireturn, 1) := by decide +kernel
set_option maxRecDepth 20000 in
theorem ggX1_halvesWonByDraws_X2_next : GoodIn wsX1_halvesWonByDraws wsX2_next := goodIn_r _ [9, 10, 11, 12, 26] (by decide +kernel) (by decide +kernel)
set_option maxRecDepth 20000 in
theorem gX1_halvesWonByDraws_X2_next_n68 : GoodIn wsX1_halvesWonByDraws (wsX2_next) := ggX1_halvesWonByDraws_X2_next
set_option maxRecDepth 20000 in
theorem ggX1_halvesWonByDraws_X1_halvesOf : GoodIn wsX1_halvesWonByDraws wsX1_halvesOf := goodIn_r _ [16] (by decide +kernel) (by decide +kernel)
set_option maxRecDepth 20000 in
theorem gX1_halvesWonByDraws_X1_halvesOf : GoodIn wsX1_halvesWonByDraws (va_wsS RX1 64 yX1_halvesOf wsX1_halvesOf) := goodIn_app (goodIn_of _ (by decide +kernel)) ggX1_halvesWonByDraws_X1_halvesOf
theorem dX1_halvesWonByDraws_0 : decode cX1_halvesWonByDraws 0 = .ok (.iconst 0, 1) := by decide +kernel
theorem dX1_halvesWonByDraws_1 : decode cX1_halvesWonByDraws 1 = .ok (.istore_n 2, 1) := by decide +kernel
theorem dX1_halvesWonByDraws_2 : decode cX1_halvesWonByDraws 2 = .ok (.iconst 0, 1) := by decide +kernel
theorem dX1_halvesWonByDraws_3 : decode cX1_halvesWonByDraws 3 = .ok (.istore_n 3, 1) := by decide +kernel
theorem dX1_halvesWonByDraws_4 : decode cX1_halvesWonByDraws 4 = .ok (.iload_n 3, 1) := by decide +kernel
theorem dX1_halvesWonByDraws_5 : decode cX1_halvesWonByDraws 5 = .ok (.aload_n 0, 1) := by decide +kernel
theorem dX1_halvesWonByDraws_6 : decode cX1_halvesWonByDraws 6 = .ok (.getfield 36, 3) := by decide +kernel
theorem dX1_halvesWonByDraws_9 : decode cX1_halvesWonByDraws 9 = .ok (.if_icmp .ge 56, 3) := by decide +kernel
theorem dX1_halvesWonByDraws_12 : decode cX1_halvesWonByDraws 12 = .ok (.aload_n 0, 1) := by decide +kernel
theorem dX1_halvesWonByDraws_13 : decode cX1_halvesWonByDraws 13 = .ok (.getfield 39, 3) := by decide +kernel
theorem dX1_halvesWonByDraws_16 : decode cX1_halvesWonByDraws 16 = .ok (.ifCond .le 49, 3) := by decide +kernel
theorem dX1_halvesWonByDraws_19 : decode cX1_halvesWonByDraws 19 = .ok (.aload_n 0, 1) := by decide +kernel
theorem dX1_halvesWonByDraws_20 : decode cX1_halvesWonByDraws 20 = .ok (.getfield 22, 3) := by decide +kernel
theorem dX1_halvesWonByDraws_23 : decode cX1_halvesWonByDraws 23 = .ok (.aload_n 1, 1) := by decide +kernel
theorem dX1_halvesWonByDraws_24 : decode cX1_halvesWonByDraws 24 = .ok (.invokevirtual 68, 3) := by decide +kernel
theorem dX1_halvesWonByDraws_27 : decode cX1_halvesWonByDraws 27 = .ok (.aload_n 0, 1) := by decide +kernel
theorem dX1_halvesWonByDraws_28 : decode cX1_halvesWonByDraws 28 = .ok (.getfield 39, 3) := by decide +kernel
theorem dX1_halvesWonByDraws_31 : decode cX1_halvesWonByDraws 31 = .ok (.irem, 1) := by decide +kernel
theorem dX1_halvesWonByDraws_32 : decode cX1_halvesWonByDraws 32 = .ok (.iaload, 1) := by decide +kernel
theorem dX1_halvesWonByDraws_33 : decode cX1_halvesWonByDraws 33 = .ok (.istore 4, 2) := by decide +kernel
theorem dX1_halvesWonByDraws_35 : decode cX1_halvesWonByDraws 35 = .ok (.iload_n 2, 1) := by decide +kernel
theorem dX1_halvesWonByDraws_36 : decode cX1_halvesWonByDraws 36 = .ok (.aload_n 0, 1) := by decide +kernel
theorem dX1_halvesWonByDraws_37 : decode cX1_halvesWonByDraws 37 = .ok (.getfield 15, 3) := by decide +kernel
theorem dX1_halvesWonByDraws_40 : decode cX1_halvesWonByDraws 40 = .ok (.aload_n 0, 1) := by decide +kernel
theorem dX1_halvesWonByDraws_41 : decode cX1_halvesWonByDraws 41 = .ok (.getfield 19, 3) := by decide +kernel
theorem dX1_halvesWonByDraws_44 : decode cX1_halvesWonByDraws 44 = .ok (.iload_n 3, 1) := by decide +kernel
theorem dX1_halvesWonByDraws_45 : decode cX1_halvesWonByDraws 45 = .ok (.iaload, 1) := by decide +kernel
theorem dX1_halvesWonByDraws_46 : decode cX1_halvesWonByDraws 46 = .ok (.laload, 1) := by decide +kernel
theorem dX1_halvesWonByDraws_47 : decode cX1_halvesWonByDraws 47 = .ok (.aload_n 0, 1) := by decide +kernel
theorem dX1_halvesWonByDraws_48 : decode cX1_halvesWonByDraws 48 = .ok (.getfield 15, 3) := by decide +kernel
theorem dX1_halvesWonByDraws_51 : decode cX1_halvesWonByDraws 51 = .ok (.iload 4, 2) := by decide +kernel
theorem dX1_halvesWonByDraws_53 : decode cX1_halvesWonByDraws 53 = .ok (.laload, 1) := by decide +kernel
theorem dX1_halvesWonByDraws_54 : decode cX1_halvesWonByDraws 54 = .ok (.invokestatic 64, 3) := by decide +kernel
theorem dX1_halvesWonByDraws_57 : decode cX1_halvesWonByDraws 57 = .ok (.iadd, 1) := by decide +kernel
theorem dX1_halvesWonByDraws_58 : decode cX1_halvesWonByDraws 58 = .ok (.istore_n 2, 1) := by decide +kernel
theorem dX1_halvesWonByDraws_59 : decode cX1_halvesWonByDraws 59 = .ok (.iinc 3 1, 3) := by decide +kernel
theorem dX1_halvesWonByDraws_62 : decode cX1_halvesWonByDraws 62 = .ok (.goto (-58), 3) := by decide +kernel
theorem dX1_halvesWonByDraws_65 : decode cX1_halvesWonByDraws 65 = .ok (.iload_n 2, 1) := by decide +kernel
theorem dX1_halvesWonByDraws_66 : decode cX1_halvesWonByDraws 66 = .ok (.ireturn, 1) := by decide +kernel
theorem dX1_halvesOf_0 : decode cX1_halvesOf 0 = .ok (.lload_n 0, 1) := by decide +kernel
theorem dX1_halvesOf_1 : decode cX1_halvesOf 1 = .ok (.lload_n 2, 1) := by decide +kernel
theorem dX1_halvesOf_2 : decode cX1_halvesOf 2 = .ok (.lcmp, 1) := by decide +kernel
theorem dX1_halvesOf_3 : decode cX1_halvesOf 3 = .ok (.ifCond .le 5, 3) := by decide +kernel
theorem dX1_halvesOf_6 : decode cX1_halvesOf 6 = .ok (.iconst 2, 1) := by decide +kernel
theorem dX1_halvesOf_7 : decode cX1_halvesOf 7 = .ok (.ireturn, 1) := by decide +kernel
theorem dX1_halvesOf_8 : decode cX1_halvesOf 8 = .ok (.lload_n 0, 1) := by decide +kernel
theorem dX1_halvesOf_9 : decode cX1_halvesOf 9 = .ok (.lload_n 2, 1) := by decide +kernel
theorem dX1_halvesOf_10 : decode cX1_halvesOf 10 = .ok (.lcmp, 1) := by decide +kernel
theorem dX1_halvesOf_11 : decode cX1_halvesOf 11 = .ok (.ifCond .ne 7, 3) := by decide +kernel
theorem dX1_halvesOf_14 : decode cX1_halvesOf 14 = .ok (.iconst 1, 1) := by decide +kernel
theorem dX1_halvesOf_15 : decode cX1_halvesOf 15 = .ok (.goto 4, 3) := by decide +kernel
theorem dX1_halvesOf_18 : decode cX1_halvesOf 18 = .ok (.iconst 0, 1) := by decide +kernel
theorem dX1_halvesOf_19 : decode cX1_halvesOf 19 = .ok (.ireturn, 1) := by decide +kernel
theorem dX2_init_0 : decode cX2_init 0 = .ok (.aload_n 0, 1) := by decide +kernel
theorem dX2_init_1 : decode cX2_init 1 = .ok (.invokespecial 1, 3) := by decide +kernel
theorem dX2_init_4 : decode cX2_init 4 = .ok (.return_, 1) := by decide +kernel
theorem dX2_startFrom_0 : decode cX2_startFrom 0 = .ok (.aload_n 0, 1) := by decide +kernel
theorem dX2_startFrom_1 : decode cX2_startFrom 1 = .ok (.iload_n 1, 1) := by decide +kernel
theorem dX2_startFrom_2 : decode cX2_startFrom 2 = .ok (.putfield 7, 3) := by decide +kernel
theorem dX2_startFrom_5 : decode cX2_startFrom 5 = .ok (.return_, 1) := by decide +kernel
theorem dX2_next_0 : decode cX2_next 0 = .ok (.aload_n 0, 1) := by decide +kernel
theorem dX2_next_1 : decode cX2_next 1 = .ok (.ldc 13, 2) := by decide +kernel
theorem dX2_next_3 : decode cX2_next 3 = .ok (.aload_n 0, 1) := by decide +kernel
theorem dX2_next_4 : decode cX2_next 4 = .ok (.getfield 7, 3) := by decide +kernel
theorem dX2_next_7 : decode cX2_next 7 = .ok (.imul, 1) := by decide +kernel
theorem dX2_next_8 : decode cX2_next 8 = .ok (.ldc 14, 2) := by decide +kernel
theorem dX2_next_10 : decode cX2_next 10 = .ok (.iadd, 1) := by decide +kernel
theorem dX2_next_11 : decode cX2_next 11 = .ok (.putfield 7, 3) := by decide +kernel
theorem dX2_next_14 : decode cX2_next 14 = .ok (.aload_n 0, 1) := by decide +kernel
theorem dX2_next_15 : decode cX2_next 15 = .ok (.getfield 7, 3) := by decide +kernel
theorem dX2_next_18 : decode cX2_next 18 = .ok (.bipush 8, 2) := by decide +kernel
theorem dX2_next_20 : decode cX2_next 20 = .ok (.iushr, 1) := by decide +kernel
theorem dX2_next_21 : decode cX2_next 21 = .ok (.ireturn, 1) := by decide +kernel
theorem dX3_init_0 : decode cX3_init 0 = .ok (.aload_n 0, 1) := by decide +kernel
theorem dX3_init_1 : decode cX3_init 1 = .ok (.invokespecial 3, 3) := by decide +kernel
theorem dX3_init_4 : decode cX3_init 4 = .ok (.aload_n 0, 1) := by decide +kernel
theorem dX3_init_5 : decode cX3_init 5 = .ok (.iconst 3, 1) := by decide +kernel
theorem dX3_init_6 : decode cX3_init 6 = .ok (.newarray .int, 2) := by decide +kernel
theorem dX3_init_8 : decode cX3_init 8 = .ok (.putfield 9, 3) := by decide +kernel
theorem dX3_init_11 : decode cX3_init 11 = .ok (.aload_n 0, 1) := by decide +kernel
theorem dX3_init_12 : decode cX3_init 12 = .ok (.iconst 3, 1) := by decide +kernel
theorem dX3_init_13 : decode cX3_init 13 = .ok (.newarray .int, 2) := by decide +kernel
theorem dX3_init_15 : decode cX3_init 15 = .ok (.putfield 15, 3) := by decide +kernel
theorem dX3_init_18 : decode cX3_init 18 = .ok (.aload_n 0, 1) := by decide +kernel
theorem dX3_init_19 : decode cX3_init 19 = .ok (.iconst 3, 1) := by decide +kernel
theorem dX3_init_20 : decode cX3_init 20 = .ok (.newarray .int, 2) := by decide +kernel
theorem dX3_init_22 : decode cX3_init 22 = .ok (.putfield 18, 3) := by decide +kernel
theorem dX3_init_25 : decode cX3_init 25 = .ok (.aload_n 0, 1) := by decide +kernel
theorem dX3_init_26 : decode cX3_init 26 = .ok (.iconst 3, 1) := by decide +kernel
theorem dX3_init_27 : decode cX3_init 27 = .ok (.sipush 132, 3) := by decide +kernel
theorem dX3_init_30 : decode cX3_init 30 = .ok (.multianewarray 21 2, 4) := by decide +kernel
theorem dX3_init_34 : decode cX3_init 34 = .ok (.putfield 23, 3) := by decide +kernel
theorem dX3_init_37 : decode cX3_init 37 = .ok (.return_, 1) := by decide +kernel
set_option maxRecDepth 20000 in
theorem ggX3_canLearn_J6_bitCount_0f7a4 : GoodIn wsX3_canLearn wsJ6_bitCount_0f7a4 := goodIn_r _ [4, 5, 6, 7] (by decide +kernel) (by decide +kernel)
set_option maxRecDepth 20000 in
theorem gX3_canLearn_J6_bitCount_0f7a4 : GoodIn wsX3_canLearn (va_wsS RX3 26 yJ6_bitCount_0f7a4 wsJ6_bitCount_0f7a4) := goodIn_app (goodIn_of _ (by decide +kernel)) ggX3_canLearn_J6_bitCount_0f7a4
set_option maxRecDepth 20000 in
theorem ggX3_canLearn_X7_isWithin : GoodIn wsX3_canLearn wsX7_isWithin := goodIn_r _ [10] (by decide +kernel) (by decide +kernel)
set_option maxRecDepth 20000 in
theorem gX3_canLearn_X7_isWithin_n32 : GoodIn wsX3_canLearn (wsX7_isWithin) := ggX3_canLearn_X7_isWithin
theorem dX3_canLearn_0 : decode cX3_canLearn 0 = .ok (.iload_n 0, 1) := by decide +kernel
theorem dX3_canLearn_1 : decode cX3_canLearn 1 = .ok (.bipush 11, 2) := by decide +kernel
theorem dX3_canLearn_3 : decode cX3_canLearn 3 = .ok (.iushr, 1) := by decide +kernel
theorem dX3_canLearn_4 : decode cX3_canLearn 4 = .ok (.ifCond .ne 7, 3) := by decide +kernel
theorem dX3_canLearn_7 : decode cX3_canLearn 7 = .ok (.iconst 1, 1) := by decide +kernel
theorem dX3_canLearn_8 : decode cX3_canLearn 8 = .ok (.goto 4, 3) := by decide +kernel
theorem dX3_canLearn_11 : decode cX3_canLearn 11 = .ok (.iconst 0, 1) := by decide +kernel
theorem dX3_canLearn_12 : decode cX3_canLearn 12 = .ok (.istore_n 1, 1) := by decide +kernel
theorem dX3_canLearn_13 : decode cX3_canLearn 13 = .ok (.iload_n 1, 1) := by decide +kernel
theorem dX3_canLearn_14 : decode cX3_canLearn 14 = .ok (.ifCond .eq 19, 3) := by decide +kernel
theorem dX3_canLearn_17 : decode cX3_canLearn 17 = .ok (.iload_n 0, 1) := by decide +kernel
theorem dX3_canLearn_18 : decode cX3_canLearn 18 = .ok (.invokestatic 26, 3) := by decide +kernel
theorem dX3_canLearn_21 : decode cX3_canLearn 21 = .ok (.iconst 1, 1) := by decide +kernel
theorem dX3_canLearn_22 : decode cX3_canLearn 22 = .ok (.iconst 3, 1) := by decide +kernel
theorem dX3_canLearn_23 : decode cX3_canLearn 23 = .ok (.invokestatic 32, 3) := by decide +kernel
theorem dX3_canLearn_26 : decode cX3_canLearn 26 = .ok (.ifCond .eq 7, 3) := by decide +kernel
theorem dX3_canLearn_29 : decode cX3_canLearn 29 = .ok (.iconst 1, 1) := by decide +kernel
theorem dX3_canLearn_30 : decode cX3_canLearn 30 = .ok (.goto 4, 3) := by decide +kernel
theorem dX3_canLearn_33 : decode cX3_canLearn 33 = .ok (.iconst 0, 1) := by decide +kernel
theorem dX3_canLearn_34 : decode cX3_canLearn 34 = .ok (.ireturn, 1) := by decide +kernel
theorem dX3_choose_0 : decode cX3_choose 0 = .ok (.aload_n 0, 1) := by decide +kernel
theorem dX3_choose_1 : decode cX3_choose 1 = .ok (.iconst 0, 1) := by decide +kernel
theorem dX3_choose_2 : decode cX3_choose 2 = .ok (.putfield 36, 3) := by decide +kernel
theorem dX3_choose_5 : decode cX3_choose 5 = .ok (.iconst 0, 1) := by decide +kernel
theorem dX3_choose_6 : decode cX3_choose 6 = .ok (.istore_n 2, 1) := by decide +kernel
theorem dX3_choose_7 : decode cX3_choose 7 = .ok (.iload_n 2, 1) := by decide +kernel
theorem dX3_choose_8 : decode cX3_choose 8 = .ok (.bipush 11, 2) := by decide +kernel
theorem dX3_choose_10 : decode cX3_choose 10 = .ok (.if_icmp .ge 46, 3) := by decide +kernel
theorem dX3_choose_13 : decode cX3_choose 13 = .ok (.aload_n 0, 1) := by decide +kernel
theorem dX3_choose_14 : decode cX3_choose 14 = .ok (.getfield 36, 3) := by decide +kernel
theorem dX3_choose_17 : decode cX3_choose 17 = .ok (.iconst 3, 1) := by decide +kernel
theorem dX3_choose_18 : decode cX3_choose 18 = .ok (.if_icmp .ge 38, 3) := by decide +kernel
theorem dX3_choose_21 : decode cX3_choose 21 = .ok (.iload_n 1, 1) := by decide +kernel
theorem dX3_choose_22 : decode cX3_choose 22 = .ok (.iload_n 2, 1) := by decide +kernel
theorem dX3_choose_23 : decode cX3_choose 23 = .ok (.ishr, 1) := by decide +kernel
theorem dX3_choose_24 : decode cX3_choose 24 = .ok (.iconst 1, 1) := by decide +kernel
theorem dX3_choose_25 : decode cX3_choose 25 = .ok (.iand, 1) := by decide +kernel
theorem dX3_choose_26 : decode cX3_choose 26 = .ok (.iconst 1, 1) := by decide +kernel
theorem dX3_choose_27 : decode cX3_choose 27 = .ok (.if_icmp .ne 23, 3) := by decide +kernel
theorem dX3_choose_30 : decode cX3_choose 30 = .ok (.aload_n 0, 1) := by decide +kernel
theorem dX3_choose_31 : decode cX3_choose 31 = .ok (.getfield 9, 3) := by decide +kernel
theorem dX3_choose_34 : decode cX3_choose 34 = .ok (.aload_n 0, 1) := by decide +kernel
theorem dX3_choose_35 : decode cX3_choose 35 = .ok (.getfield 36, 3) := by decide +kernel
theorem dX3_choose_38 : decode cX3_choose 38 = .ok (.iload_n 2, 1) := by decide +kernel
theorem dX3_choose_39 : decode cX3_choose 39 = .ok (.iastore, 1) := by decide +kernel
theorem dX3_choose_40 : decode cX3_choose 40 = .ok (.aload_n 0, 1) := by decide +kernel
theorem dX3_choose_41 : decode cX3_choose 41 = .ok (.dup, 1) := by decide +kernel
theorem dX3_choose_42 : decode cX3_choose 42 = .ok (.getfield 36, 3) := by decide +kernel
theorem dX3_choose_45 : decode cX3_choose 45 = .ok (.iconst 1, 1) := by decide +kernel
theorem dX3_choose_46 : decode cX3_choose 46 = .ok (.iadd, 1) := by decide +kernel
theorem dX3_choose_47 : decode cX3_choose 47 = .ok (.putfield 36, 3) := by decide +kernel
theorem dX3_choose_50 : decode cX3_choose 50 = .ok (.iinc 2 1, 3) := by decide +kernel
theorem dX3_choose_53 : decode cX3_choose 53 = .ok (.goto (-46), 3) := by decide +kernel
theorem dX3_choose_56 : decode cX3_choose 56 = .ok (.return_, 1) := by decide +kernel
set_option maxRecDepth 20000 in
theorem ggX3_measureAll_X4_partsOf : GoodIn wsX3_measureAll wsX4_partsOf := goodIn_r _ [7, 8, 9, 10, 11, 12, 13, 14, 15, 16, 17, 18, 19, 20, 21, 22, 23, 24, 25, 26, 27, 28, 5, 29, 30, 31, 32, 33, 34, 35, 36, 37, 38, 39, 40, 41, 42, 43, 44, 45, 46, 47, 48, 49, 50, 51, 52, 53, 54, 55, 56, 57, 58, 59, 60, 61, 62, 63, 64, 65, 66, 67, 68, 69, 70, 71, 72, 73, 74, 75, 90, 91, 92, 93, 94, 95, 96, 97, 98, 99, 100, 101, 102, 103, 104, 105, 106] (by decide +kernel) (by decide +kernel)
set_option maxRecDepth 20000 in
theorem gX3_measureAll_X4_partsOf_n48 : GoodIn wsX3_measureAll (wsX4_partsOf) := ggX3_measureAll_X4_partsOf
theorem dX3_measureAll_0 : decode cX3_measureAll 0 = .ok (.iconst 0, 1) := by decide +kernel
theorem dX3_measureAll_1 : decode cX3_measureAll 1 = .ok (.istore_n 3, 1) := by decide +kernel
theorem dX3_measureAll_2 : decode cX3_measureAll 2 = .ok (.iload_n 3, 1) := by decide +kernel
theorem dX3_measureAll_3 : decode cX3_measureAll 3 = .ok (.aload_n 0, 1) := by decide +kernel
theorem dX3_measureAll_4 : decode cX3_measureAll 4 = .ok (.getfield 36, 3) := by decide +kernel
theorem dX3_measureAll_7 : decode cX3_measureAll 7 = .ok (.if_icmp .ge 53, 3) := by decide +kernel
theorem dX3_measureAll_10 : decode cX3_measureAll 10 = .ok (.iconst 0, 1) := by decide +kernel
theorem dX3_measureAll_11 : decode cX3_measureAll 11 = .ok (.istore 4, 2) := by decide +kernel
theorem dX3_measureAll_13 : decode cX3_measureAll 13 = .ok (.iload 4, 2) := by decide +kernel
theorem dX3_measureAll_15 : decode cX3_measureAll 15 = .ok (.aload_n 2, 1) := by decide +kernel
theorem dX3_measureAll_16 : decode cX3_measureAll 16 = .ok (.getfield 40, 3) := by decide +kernel
theorem dX3_measureAll_19 : decode cX3_measureAll 19 = .ok (.if_icmp .ge 35, 3) := by decide +kernel
theorem dX3_measureAll_22 : decode cX3_measureAll 22 = .ok (.aload_n 0, 1) := by decide +kernel
theorem dX3_measureAll_23 : decode cX3_measureAll 23 = .ok (.getfield 23, 3) := by decide +kernel
theorem dX3_measureAll_26 : decode cX3_measureAll 26 = .ok (.iload_n 3, 1) := by decide +kernel
theorem dX3_measureAll_27 : decode cX3_measureAll 27 = .ok (.aaload, 1) := by decide +kernel
theorem dX3_measureAll_28 : decode cX3_measureAll 28 = .ok (.iload 4, 2) := by decide +kernel
theorem dX3_measureAll_30 : decode cX3_measureAll 30 = .ok (.aload_n 1, 1) := by decide +kernel
theorem dX3_measureAll_31 : decode cX3_measureAll 31 = .ok (.aload_n 0, 1) := by decide +kernel
theorem dX3_measureAll_32 : decode cX3_measureAll 32 = .ok (.getfield 9, 3) := by decide +kernel
theorem dX3_measureAll_35 : decode cX3_measureAll 35 = .ok (.iload_n 3, 1) := by decide +kernel
theorem dX3_measureAll_36 : decode cX3_measureAll 36 = .ok (.iaload, 1) := by decide +kernel
theorem dX3_measureAll_37 : decode cX3_measureAll 37 = .ok (.aload_n 2, 1) := by decide +kernel
theorem dX3_measureAll_38 : decode cX3_measureAll 38 = .ok (.getfield 45, 3) := by decide +kernel
theorem dX3_measureAll_41 : decode cX3_measureAll 41 = .ok (.iload 4, 2) := by decide +kernel
theorem dX3_measureAll_43 : decode cX3_measureAll 43 = .ok (.iaload, 1) := by decide +kernel
theorem dX3_measureAll_44 : decode cX3_measureAll 44 = .ok (.invokevirtual 48, 3) := by decide +kernel
theorem dX3_measureAll_47 : decode cX3_measureAll 47 = .ok (.lastore, 1) := by decide +kernel
theorem dX3_measureAll_48 : decode cX3_measureAll 48 = .ok (.iinc 4 1, 3) := by decide +kernel
theorem dX3_measureAll_51 : decode cX3_measureAll 51 = .ok (.goto (-38), 3) := by decide +kernel
theorem dX3_measureAll_54 : decode cX3_measureAll 54 = .ok (.iinc 3 1, 3) := by decide +kernel
theorem dX3_measureAll_57 : decode cX3_measureAll 57 = .ok (.goto (-55), 3) := by decide +kernel
theorem dX3_measureAll_60 : decode cX3_measureAll 60 = .ok (.return_, 1) := by decide +kernel
set_option maxRecDepth 20000 in
theorem ggX3_findBest_X3_trialTotal : GoodIn wsX3_findBest wsX3_trialTotal := goodIn_r _ [12, 3, 38, 39, 40, 41, 42] (by decide +kernel) (by decide +kernel)
set_option maxRecDepth 20000 in
theorem gX3_findBest_X3_trialTotal : GoodIn wsX3_findBest (wsV RX3 54 RX3 yX3_trialTotal wsX3_trialTotal) := goodIn_app (goodIn_of _ (by decide +kernel)) ggX3_findBest_X3_trialTotal
set_option maxRecDepth 20000 in
theorem ggX3_findBest_X3_setTried : GoodIn wsX3_findBest wsX3_setTried := goodIn_r _ [16, 17, 18, 19, 20, 3, 1, 38, 39, 40, 41, 42] (by decide +kernel) (by decide +kernel)
set_option maxRecDepth 20000 in
theorem gX3_findBest_X3_setTried : GoodIn wsX3_findBest (wsV RX3 57 RX3 yX3_setTried wsX3_setTried) := goodIn_app (goodIn_of _ (by decide +kernel)) ggX3_findBest_X3_setTried
set_option maxRecDepth 20000 in
theorem ggX3_findBest_X3_mixTried : GoodIn wsX3_findBest wsX3_mixTried := goodIn_r _ [24, 3, 1, 25, 43, 44, 45, 46, 47, 48, 49, 50, 51, 38, 39, 40, 41, 42] (by decide +kernel) (by decide +kernel)
set_option maxRecDepth 20000 in
theorem gX3_findBest_X3_mixTried : GoodIn wsX3_findBest (wsV RX3 61 RX3 yX3_mixTried wsX3_mixTried) := goodIn_app (goodIn_of _ (by decide +kernel)) ggX3_findBest_X3_mixTried
set_option maxRecDepth 20000 in
theorem ggX3_findBest_X1_halvesWon : GoodIn wsX3_findBest wsX1_halvesWon := goodIn_r _ [29, 30, 31, 32, 33, 34, 35, 36, 27, 37, 43, 44, 45, 46, 47, 48, 49, 50, 51] (by decide +kernel) (by decide +kernel)
set_option maxRecDepth 20000 in
theorem gX3_findBest_X1_halvesWon_n65 : GoodIn wsX3_findBest (wsX1_halvesWon) := ggX3_findBest_X1_halvesWon
theorem dX3_findBest_0 : decode cX3_findBest 0 = .ok (.iconst (-1), 1) := by decide +kernel
theorem dX3_findBest_1 : decode cX3_findBest 1 = .ok (.istore_n 3, 1) := by decide +kernel
theorem dX3_findBest_2 : decode cX3_findBest 2 = .ok (.aload_n 0, 1) := by decide +kernel
theorem dX3_findBest_3 : decode cX3_findBest 3 = .ok (.iload_n 1, 1) := by decide +kernel
theorem dX3_findBest_4 : decode cX3_findBest 4 = .ok (.invokevirtual 54, 3) := by decide +kernel
theorem dX3_findBest_7 : decode cX3_findBest 7 = .ok (.istore 4, 2) := by decide +kernel
theorem dX3_findBest_9 : decode cX3_findBest 9 = .ok (.iconst 0, 1) := by decide +kernel
theorem dX3_findBest_10 : decode cX3_findBest 10 = .ok (.istore 5, 2) := by decide +kernel
theorem dX3_findBest_12 : decode cX3_findBest 12 = .ok (.iload 5, 2) := by decide +kernel
theorem dX3_findBest_14 : decode cX3_findBest 14 = .ok (.iload 4, 2) := by decide +kernel
theorem dX3_findBest_16 : decode cX3_findBest 16 = .ok (.if_icmp .ge 53, 3) := by decide +kernel
theorem dX3_findBest_19 : decode cX3_findBest 19 = .ok (.aload_n 0, 1) := by decide +kernel
theorem dX3_findBest_20 : decode cX3_findBest 20 = .ok (.iload 5, 2) := by decide +kernel
theorem dX3_findBest_22 : decode cX3_findBest 22 = .ok (.iload_n 1, 1) := by decide +kernel
theorem dX3_findBest_23 : decode cX3_findBest 23 = .ok (.invokevirtual 57, 3) := by decide +kernel
theorem dX3_findBest_26 : decode cX3_findBest 26 = .ok (.aload_n 0, 1) := by decide +kernel
theorem dX3_findBest_27 : decode cX3_findBest 27 = .ok (.aload_n 2, 1) := by decide +kernel
theorem dX3_findBest_28 : decode cX3_findBest 28 = .ok (.invokevirtual 61, 3) := by decide +kernel
theorem dX3_findBest_31 : decode cX3_findBest 31 = .ok (.aload_n 2, 1) := by decide +kernel
theorem dX3_findBest_32 : decode cX3_findBest 32 = .ok (.invokevirtual 65, 3) := by decide +kernel
theorem dX3_findBest_35 : decode cX3_findBest 35 = .ok (.istore 6, 2) := by decide +kernel
theorem dX3_findBest_37 : decode cX3_findBest 37 = .ok (.iload 6, 2) := by decide +kernel
theorem dX3_findBest_39 : decode cX3_findBest 39 = .ok (.iload_n 3, 1) := by decide +kernel
theorem dX3_findBest_40 : decode cX3_findBest 40 = .ok (.if_icmp .le 23, 3) := by decide +kernel
theorem dX3_findBest_43 : decode cX3_findBest 43 = .ok (.iload 6, 2) := by decide +kernel
theorem dX3_findBest_45 : decode cX3_findBest 45 = .ok (.istore_n 3, 1) := by decide +kernel
theorem dX3_findBest_46 : decode cX3_findBest 46 = .ok (.aload_n 0, 1) := by decide +kernel
theorem dX3_findBest_47 : decode cX3_findBest 47 = .ok (.getfield 15, 3) := by decide +kernel
theorem dX3_findBest_50 : decode cX3_findBest 50 = .ok (.iconst 0, 1) := by decide +kernel
theorem dX3_findBest_51 : decode cX3_findBest 51 = .ok (.aload_n 0, 1) := by decide +kernel
theorem dX3_findBest_52 : decode cX3_findBest 52 = .ok (.getfield 18, 3) := by decide +kernel
theorem dX3_findBest_55 : decode cX3_findBest 55 = .ok (.iconst 0, 1) := by decide +kernel
theorem dX3_findBest_56 : decode cX3_findBest 56 = .ok (.aload_n 0, 1) := by decide +kernel
theorem dX3_findBest_57 : decode cX3_findBest 57 = .ok (.getfield 36, 3) := by decide +kernel
theorem dX3_findBest_60 : decode cX3_findBest 60 = .ok (.invokestatic 69, 3) := by decide +kernel
theorem dX3_findBest_63 : decode cX3_findBest 63 = .ok (.iinc 5 1, 3) := by decide +kernel
theorem dX3_findBest_66 : decode cX3_findBest 66 = .ok (.goto (-54), 3) := by decide +kernel
theorem dX3_findBest_69 : decode cX3_findBest 69 = .ok (.iload_n 3, 1) := by decide +kernel
theorem dX3_findBest_70 : decode cX3_findBest 70 = .ok (.ireturn, 1) := by decide +kernel
theorem dX3_trialTotal_0 : decode cX3_trialTotal 0 = .ok (.iconst 1, 1) := by decide +kernel
theorem dX3_trialTotal_1 : decode cX3_trialTotal 1 = .ok (.istore_n 2, 1) := by decide +kernel
theorem dX3_trialTotal_2 : decode cX3_trialTotal 2 = .ok (.iconst 0, 1) := by decide +kernel
theorem dX3_trialTotal_3 : decode cX3_trialTotal 3 = .ok (.istore_n 3, 1) := by decide +kernel
theorem dX3_trialTotal_4 : decode cX3_trialTotal 4 = .ok (.iload_n 3, 1) := by decide +kernel
theorem dX3_trialTotal_5 : decode cX3_trialTotal 5 = .ok (.aload_n 0, 1) := by decide +kernel
theorem dX3_trialTotal_6 : decode cX3_trialTotal 6 = .ok (.getfield 36, 3) := by decide +kernel
theorem dX3_trialTotal_9 : decode cX3_trialTotal 9 = .ok (.if_icmp .ge 15, 3) := by decide +kernel
theorem dX3_trialTotal_12 : decode cX3_trialTotal 12 = .ok (.iload_n 2, 1) := by decide +kernel
theorem dX3_trialTotal_13 : decode cX3_trialTotal 13 = .ok (.iload_n 1, 1) := by decide +kernel
theorem dX3_trialTotal_14 : decode cX3_trialTotal 14 = .ok (.iconst 1, 1) := by decide +kernel
theorem dX3_trialTotal_15 : decode cX3_trialTotal 15 = .ok (.iadd, 1) := by decide +kernel
theorem dX3_trialTotal_16 : decode cX3_trialTotal 16 = .ok (.imul, 1) := by decide +kernel
theorem dX3_trialTotal_17 : decode cX3_trialTotal 17 = .ok (.istore_n 2, 1) := by decide +kernel
theorem dX3_trialTotal_18 : decode cX3_trialTotal 18 = .ok (.iinc 3 1, 3) := by decide +kernel
theorem dX3_trialTotal_21 : decode cX3_trialTotal 21 = .ok (.goto (-17), 3) := by decide +kernel
theorem dX3_trialTotal_24 : decode cX3_trialTotal 24 = .ok (.iload_n 2, 1) := by decide +kernel
theorem dX3_trialTotal_25 : decode cX3_trialTotal 25 = .ok (.ireturn, 1) := by decide +kernel
theorem dX3_setTried_0 : decode cX3_setTried 0 = .ok (.iload_n 2, 1) := by decide +kernel
theorem dX3_setTried_1 : decode cX3_setTried 1 = .ok (.iconst 1, 1) := by decide +kernel
theorem dX3_setTried_2 : decode cX3_setTried 2 = .ok (.invokestatic 75, 3) := by decide +kernel
theorem dX3_setTried_5 : decode cX3_setTried 5 = .ok (.iconst 1, 1) := by decide +kernel
theorem dX3_setTried_6 : decode cX3_setTried 6 = .ok (.iadd, 1) := by decide +kernel
theorem dX3_setTried_7 : decode cX3_setTried 7 = .ok (.istore_n 3, 1) := by decide +kernel
theorem dX3_setTried_8 : decode cX3_setTried 8 = .ok (.iload_n 1, 1) := by decide +kernel
theorem dX3_setTried_9 : decode cX3_setTried 9 = .ok (.istore 4, 2) := by decide +kernel
theorem dX3_setTried_11 : decode cX3_setTried 11 = .ok (.aload_n 0, 1) := by decide +kernel
theorem dX3_setTried_12 : decode cX3_setTried 12 = .ok (.getfield 36, 3) := by decide +kernel
theorem dX3_setTried_15 : decode cX3_setTried 15 = .ok (.iconst 1, 1) := by decide +kernel
theorem dX3_setTried_16 : decode cX3_setTried 16 = .ok (.isub, 1) := by decide +kernel
theorem dX3_setTried_17 : decode cX3_setTried 17 = .ok (.istore 5, 2) := by decide +kernel
theorem dX3_setTried_19 : decode cX3_setTried 19 = .ok (.iload 5, 2) := by decide +kernel
theorem dX3_setTried_21 : decode cX3_setTried 21 = .ok (.ifCond .lt 26, 3) := by decide +kernel
theorem dX3_setTried_24 : decode cX3_setTried 24 = .ok (.aload_n 0, 1) := by decide +kernel
theorem dX3_setTried_25 : decode cX3_setTried 25 = .ok (.getfield 15, 3) := by decide +kernel
theorem dX3_setTried_28 : decode cX3_setTried 28 = .ok (.iload 5, 2) := by decide +kernel
theorem dX3_setTried_30 : decode cX3_setTried 30 = .ok (.iload 4, 2) := by decide +kernel
theorem dX3_setTried_32 : decode cX3_setTried 32 = .ok (.iload_n 3, 1) := by decide +kernel
theorem dX3_setTried_33 : decode cX3_setTried 33 = .ok (.irem, 1) := by decide +kernel
theorem dX3_setTried_34 : decode cX3_setTried 34 = .ok (.iastore, 1) := by decide +kernel
theorem dX3_setTried_35 : decode cX3_setTried 35 = .ok (.iload 4, 2) := by decide +kernel
theorem dX3_setTried_37 : decode cX3_setTried 37 = .ok (.iload_n 3, 1) := by decide +kernel
theorem dX3_setTried_38 : decode cX3_setTried 38 = .ok (.idiv, 1) := by decide +kernel
theorem dX3_setTried_39 : decode cX3_setTried 39 = .ok (.istore 4, 2) := by decide +kernel
theorem dX3_setTried_41 : decode cX3_setTried 41 = .ok (.iinc 5 (-1), 3) := by decide +kernel
theorem dX3_setTried_44 : decode cX3_setTried 44 = .ok (.goto (-25), 3) := by decide +kernel
theorem dX3_setTried_47 : decode cX3_setTried 47 = .ok (.return_, 1) := by decide +kernel
theorem dX3_mixTried_0 : decode cX3_mixTried 0 = .ok (.iconst 0, 1) := by decide +kernel
theorem dX3_mixTried_1 : decode cX3_mixTried 1 = .ok (.istore_n 2, 1) := by decide +kernel
theorem dX3_mixTried_2 : decode cX3_mixTried 2 = .ok (.iload_n 2, 1) := by decide +kernel
theorem dX3_mixTried_3 : decode cX3_mixTried 3 = .ok (.aload_n 1, 1) := by decide +kernel
theorem dX3_mixTried_4 : decode cX3_mixTried 4 = .ok (.getfield 40, 3) := by decide +kernel
theorem dX3_mixTried_7 : decode cX3_mixTried 7 = .ok (.if_icmp .ge 57, 3) := by decide +kernel
theorem dX3_mixTried_10 : decode cX3_mixTried 10 = .ok (.lconst 0, 1) := by decide +kernel
theorem dX3_mixTried_11 : decode cX3_mixTried 11 = .ok (.lstore_n 3, 1) := by decide +kernel
theorem dX3_mixTried_12 : decode cX3_mixTried 12 = .ok (.iconst 0, 1) := by decide +kernel
theorem dX3_mixTried_13 : decode cX3_mixTried 13 = .ok (.istore 5, 2) := by decide +kernel
theorem dX3_mixTried_15 : decode cX3_mixTried 15 = .ok (.iload 5, 2) := by decide +kernel
theorem dX3_mixTried_17 : decode cX3_mixTried 17 = .ok (.aload_n 0, 1) := by decide +kernel
theorem dX3_mixTried_18 : decode cX3_mixTried 18 = .ok (.getfield 36, 3) := by decide +kernel
theorem dX3_mixTried_21 : decode cX3_mixTried 21 = .ok (.if_icmp .ge 30, 3) := by decide +kernel
theorem dX3_mixTried_24 : decode cX3_mixTried 24 = .ok (.lload_n 3, 1) := by decide +kernel
theorem dX3_mixTried_25 : decode cX3_mixTried 25 = .ok (.aload_n 0, 1) := by decide +kernel
theorem dX3_mixTried_26 : decode cX3_mixTried 26 = .ok (.getfield 15, 3) := by decide +kernel
theorem dX3_mixTried_29 : decode cX3_mixTried 29 = .ok (.iload 5, 2) := by decide +kernel
theorem dX3_mixTried_31 : decode cX3_mixTried 31 = .ok (.iaload, 1) := by decide +kernel
theorem dX3_mixTried_32 : decode cX3_mixTried 32 = .ok (.i2l, 1) := by decide +kernel
theorem dX3_mixTried_33 : decode cX3_mixTried 33 = .ok (.aload_n 0, 1) := by decide +kernel
theorem dX3_mixTried_34 : decode cX3_mixTried 34 = .ok (.getfield 23, 3) := by decide +kernel
theorem dX3_mixTried_37 : decode cX3_mixTried 37 = .ok (.iload 5, 2) := by decide +kernel
theorem dX3_mixTried_39 : decode cX3_mixTried 39 = .ok (.aaload, 1) := by decide +kernel
theorem dX3_mixTried_40 : decode cX3_mixTried 40 = .ok (.iload_n 2, 1) := by decide +kernel
theorem dX3_mixTried_41 : decode cX3_mixTried 41 = .ok (.laload, 1) := by decide +kernel
theorem dX3_mixTried_42 : decode cX3_mixTried 42 = .ok (.lmul, 1) := by decide +kernel
theorem dX3_mixTried_43 : decode cX3_mixTried 43 = .ok (.ladd, 1) := by decide +kernel
theorem dX3_mixTried_44 : decode cX3_mixTried 44 = .ok (.lstore_n 3, 1) := by decide +kernel
theorem dX3_mixTried_45 : decode cX3_mixTried 45 = .ok (.iinc 5 1, 3) := by decide +kernel
theorem dX3_mixTried_48 : decode cX3_mixTried 48 = .ok (.goto (-33), 3) := by decide +kernel
theorem dX3_mixTried_51 : decode cX3_mixTried 51 = .ok (.aload_n 1, 1) := by decide +kernel
theorem dX3_mixTried_52 : decode cX3_mixTried 52 = .ok (.getfield 81, 3) := by decide +kernel
theorem dX3_mixTried_55 : decode cX3_mixTried 55 = .ok (.iload_n 2, 1) := by decide +kernel
theorem dX3_mixTried_56 : decode cX3_mixTried 56 = .ok (.lload_n 3, 1) := by decide +kernel
theorem dX3_mixTried_57 : decode cX3_mixTried 57 = .ok (.lastore, 1) := by decide +kernel
theorem dX3_mixTried_58 : decode cX3_mixTried 58 = .ok (.iinc 2 1, 3) := by decide +kernel
theorem dX3_mixTried_61 : decode cX3_mixTried 61 = .ok (.goto (-59), 3) := by decide +kernel
theorem dX3_mixTried_64 : decode cX3_mixTried 64 = .ok (.return_, 1) := by decide +kernel
set_option maxRecDepth 20000 in
theorem ggX3_handOver_J7_fill_53178 : GoodIn wsX3_handOver wsJ7_fill_53178 := goodIn_r _ [7] (by decide +kernel) (by decide +kernel)
set_option maxRecDepth 20000 in
theorem gX3_handOver_J7_fill_53178 : GoodIn wsX3_handOver (va_wsS RX3 85 yJ7_fill_53178 wsJ7_fill_53178) := goodIn_app (goodIn_of _ (by decide +kernel)) ggX3_handOver_J7_fill_53178
theorem dX3_handOver_0 : decode cX3_handOver 0 = .ok (.aload_n 1, 1) := by decide +kernel
theorem dX3_handOver_1 : decode cX3_handOver 1 = .ok (.iconst 0, 1) := by decide +kernel
theorem dX3_handOver_2 : decode cX3_handOver 2 = .ok (.invokestatic 85, 3) := by decide +kernel
theorem dX3_handOver_5 : decode cX3_handOver 5 = .ok (.iconst 0, 1) := by decide +kernel
theorem dX3_handOver_6 : decode cX3_handOver 6 = .ok (.istore_n 2, 1) := by decide +kernel
theorem dX3_handOver_7 : decode cX3_handOver 7 = .ok (.iload_n 2, 1) := by decide +kernel
theorem dX3_handOver_8 : decode cX3_handOver 8 = .ok (.aload_n 0, 1) := by decide +kernel
theorem dX3_handOver_9 : decode cX3_handOver 9 = .ok (.getfield 36, 3) := by decide +kernel
theorem dX3_handOver_12 : decode cX3_handOver 12 = .ok (.if_icmp .ge 23, 3) := by decide +kernel
theorem dX3_handOver_15 : decode cX3_handOver 15 = .ok (.aload_n 1, 1) := by decide +kernel
theorem dX3_handOver_16 : decode cX3_handOver 16 = .ok (.aload_n 0, 1) := by decide +kernel
theorem dX3_handOver_17 : decode cX3_handOver 17 = .ok (.getfield 9, 3) := by decide +kernel
theorem dX3_handOver_20 : decode cX3_handOver 20 = .ok (.iload_n 2, 1) := by decide +kernel
theorem dX3_handOver_21 : decode cX3_handOver 21 = .ok (.iaload, 1) := by decide +kernel
theorem dX3_handOver_22 : decode cX3_handOver 22 = .ok (.aload_n 0, 1) := by decide +kernel
theorem dX3_handOver_23 : decode cX3_handOver 23 = .ok (.getfield 18, 3) := by decide +kernel
theorem dX3_handOver_26 : decode cX3_handOver 26 = .ok (.iload_n 2, 1) := by decide +kernel
theorem dX3_handOver_27 : decode cX3_handOver 27 = .ok (.iaload, 1) := by decide +kernel
theorem dX3_handOver_28 : decode cX3_handOver 28 = .ok (.iastore, 1) := by decide +kernel
theorem dX3_handOver_29 : decode cX3_handOver 29 = .ok (.iinc 2 1, 3) := by decide +kernel
theorem dX3_handOver_32 : decode cX3_handOver 32 = .ok (.goto (-25), 3) := by decide +kernel
theorem dX3_handOver_35 : decode cX3_handOver 35 = .ok (.return_, 1) := by decide +kernel
theorem dX4_init_0 : decode cX4_init 0 = .ok (.aload_n 0, 1) := by decide +kernel
theorem dX4_init_1 : decode cX4_init 1 = .ok (.invokespecial 3, 3) := by decide +kernel
theorem dX4_init_4 : decode cX4_init 4 = .ok (.aload_n 0, 1) := by decide +kernel
theorem dX4_init_5 : decode cX4_init 5 = .ok (.aload_n 1, 1) := by decide +kernel
theorem dX4_init_6 : decode cX4_init 6 = .ok (.putfield 9, 3) := by decide +kernel
theorem dX4_init_9 : decode cX4_init 9 = .ok (.return_, 1) := by decide +kernel
theorem dX4_setPaths_0 : decode cX4_setPaths 0 = .ok (.aload_n 0, 1) := by decide +kernel
theorem dX4_setPaths_1 : decode cX4_setPaths 1 = .ok (.iload_n 1, 1) := by decide +kernel
theorem dX4_setPaths_2 : decode cX4_setPaths 2 = .ok (.putfield 15, 3) := by decide +kernel
theorem dX4_setPaths_5 : decode cX4_setPaths 5 = .ok (.aload_n 0, 1) := by decide +kernel
theorem dX4_setPaths_6 : decode cX4_setPaths 6 = .ok (.iload_n 2, 1) := by decide +kernel
theorem dX4_setPaths_7 : decode cX4_setPaths 7 = .ok (.putfield 19, 3) := by decide +kernel
theorem dX4_setPaths_10 : decode cX4_setPaths 10 = .ok (.aload_n 0, 1) := by decide +kernel
theorem dX4_setPaths_11 : decode cX4_setPaths 11 = .ok (.iload_n 3, 1) := by decide +kernel
theorem dX4_setPaths_12 : decode cX4_setPaths 12 = .ok (.putfield 22, 3) := by decide +kernel
theorem dX4_setPaths_15 : decode cX4_setPaths 15 = .ok (.return_, 1) := by decide +kernel
set_option maxRecDepth 20000 in
theorem ggX4_partsOf_X6_comparedWith : GoodIn wsX4_partsOf wsX6_comparedWith := goodIn_r _ [8, 9, 10, 11, 12, 13, 6, 14, 15, 16, 17, 18, 19, 74, 75, 76, 77, 78, 79, 80, 81, 82, 83, 84, 85, 86] (by decide +kernel) (by decide +kernel)
set_option maxRecDepth 20000 in
theorem gX4_partsOf_X6_comparedWith_n37 : GoodIn wsX4_partsOf (wsX6_comparedWith) := ggX4_partsOf_X6_comparedWith
set_option maxRecDepth 20000 in
theorem ggX4_partsOf_X4_overlap : GoodIn wsX4_partsOf wsX4_overlap := goodIn_r _ [23, 24, 25, 26, 27, 28, 29, 30, 31, 32, 33, 34, 35, 36, 37, 38, 39, 22, 40, 2] (by decide +kernel) (by decide +kernel)
set_option maxRecDepth 20000 in
theorem gX4_partsOf_X4_overlap : GoodIn wsX4_partsOf (va_wsS RX4 41 yX4_overlap wsX4_overlap) := goodIn_app (goodIn_of _ (by decide +kernel)) ggX4_partsOf_X4_overlap
set_option maxRecDepth 20000 in
theorem ggX4_partsOf_X4_rareCommon : GoodIn wsX4_partsOf wsX4_rareCommon := goodIn_r _ [44, 1, 18, 6, 19, 31, 32, 33, 34, 35, 36, 37, 38, 39, 22, 40, 2, 70, 71, 72, 73, 74, 75, 76, 77, 78, 79, 80, 81, 82, 83, 84, 85, 86] (by decide +kernel) (by decide +kernel)
set_option maxRecDepth 20000 in
theorem gX4_partsOf_X4_rareCommon : GoodIn wsX4_partsOf (wsV RX4 45 RX4 yX4_rareCommon wsX4_rareCommon) := goodIn_app (goodIn_of _ (by decide +kernel)) ggX4_partsOf_X4_rareCommon
set_option maxRecDepth 20000 in
theorem ggX4_partsOf_J6_bitCount_0f7a4 : GoodIn wsX4_partsOf wsJ6_bitCount_0f7a4 := goodIn_r _ [34, 35, 36, 37] (by decide +kernel) (by decide +kernel)
set_option maxRecDepth 20000 in
theorem gX4_partsOf_J6_bitCount_0f7a4 : GoodIn wsX4_partsOf (va_wsS RX4 51 yJ6_bitCount_0f7a4 wsJ6_bitCount_0f7a4) := goodIn_app (goodIn_of _ (by decide +kernel)) ggX4_partsOf_J6_bitCount_0f7a4
set_option maxRecDepth 20000 in
theorem ggX4_partsOf_X4_waysOfTwo : GoodIn wsX4_partsOf wsX4_waysOfTwo := goodIn_r _ [48, 1, 31, 32, 33, 34, 35, 36, 37, 70, 71, 72, 73, 74, 75, 76, 77, 78, 79, 80, 81, 82, 83, 84, 85, 86] (by decide +kernel) (by decide +kernel)
set_option maxRecDepth 20000 in
theorem gX4_partsOf_X4_waysOfTwo : GoodIn wsX4_partsOf (wsV RX4 59 RX4 yX4_waysOfTwo wsX4_waysOfTwo) := goodIn_app (goodIn_of _ (by decide +kernel)) ggX4_partsOf_X4_waysOfTwo
set_option maxRecDepth 20000 in
theorem ggX4_partsOf_X4_waysOfThree : GoodIn wsX4_partsOf wsX4_waysOfThree := goodIn_r _ [52, 1, 18, 6, 19, 45, 46, 47, 22, 48, 31, 32, 33, 34, 35, 36, 37, 70, 71, 72, 73, 74, 75, 76, 77, 78, 79, 80, 81, 82, 83, 84, 85, 86] (by decide +kernel) (by decide +kernel)
set_option maxRecDepth 20000 in
theorem gX4_partsOf_X4_waysOfThree : GoodIn wsX4_partsOf (wsV RX4 63 RX4 yX4_waysOfThree wsX4_waysOfThree) := goodIn_app (goodIn_of _ (by decide +kernel)) ggX4_partsOf_X4_waysOfThree
set_option maxRecDepth 20000 in
theorem ggX4_partsOf_X4_leastArcs : GoodIn wsX4_partsOf wsX4_leastArcs := goodIn_r _ [56, 1, 18, 6, 19, 12, 13, 14, 15, 16, 17, 70, 71, 72, 73, 74, 75, 76, 77, 78, 79, 80, 81, 82, 83, 84, 85, 86] (by decide +kernel) (by decide +kernel)
set_option maxRecDepth 20000 in
theorem gX4_partsOf_X4_leastArcs : GoodIn wsX4_partsOf (wsV RX4 66 RX4 yX4_leastArcs wsX4_leastArcs) := goodIn_app (goodIn_of _ (by decide +kernel)) ggX4_partsOf_X4_leastArcs
set_option maxRecDepth 20000 in
theorem ggX4_partsOf_X4_fraction : GoodIn wsX4_partsOf wsX4_fraction := goodIn_r _ [40, 2] (by decide +kernel) (by decide +kernel)
set_option maxRecDepth 20000 in
theorem gX4_partsOf_X4_fraction : GoodIn wsX4_partsOf (va_wsS RX4 69 yX4_fraction wsX4_fraction) := goodIn_app (goodIn_of _ (by decide +kernel)) ggX4_partsOf_X4_fraction
set_option maxRecDepth 20000 in
theorem ggX4_partsOf_X4_wander : GoodIn wsX4_partsOf wsX4_wander := goodIn_r _ [60, 1, 61, 31, 32, 33, 34, 35, 36, 37, 18, 6, 19, 38, 39, 22, 40, 2, 70, 71, 72, 73, 74, 75, 76, 77, 78, 79, 80, 81, 82, 83, 84, 85, 86] (by decide +kernel) (by decide +kernel)
set_option maxRecDepth 20000 in
theorem gX4_partsOf_X4_wander : GoodIn wsX4_partsOf (wsV RX4 73 RX4 yX4_wander wsX4_wander) := goodIn_app (goodIn_of _ (by decide +kernel)) ggX4_partsOf_X4_wander
set_option maxRecDepth 20000 in
theorem ggX4_partsOf_X4_betweenGroups : GoodIn wsX4_partsOf wsX4_betweenGroups := goodIn_r _ [65, 1, 66, 6, 67, 68, 15, 69, 18, 19, 31, 32, 33, 34, 35, 36, 37, 38, 39, 22, 40, 2, 70, 71, 72, 73, 74, 75, 76, 77, 78, 79, 80, 81, 82, 83, 84, 85, 86] (by decide +kernel) (by decide +kernel)
set_option maxRecDepth 20000 in
theorem gX4_partsOf_X4_betweenGroups : GoodIn wsX4_partsOf (wsV RX4 79 RX4 yX4_betweenGroups wsX4_betweenGroups) := goodIn_app (goodIn_of _ (by decide +kernel)) ggX4_partsOf_X4_betweenGroups
theorem dX4_partsOf_0 : decode cX4_partsOf 0 = .ok (.aload_n 0, 1) := by decide +kernel
theorem dX4_partsOf_1 : decode cX4_partsOf 1 = .ok (.getfield 9, 3) := by decide +kernel
theorem dX4_partsOf_4 : decode cX4_partsOf 4 = .ok (.getfield 25, 3) := by decide +kernel
theorem dX4_partsOf_7 : decode cX4_partsOf 7 = .ok (.iload_n 2, 1) := by decide +kernel
theorem dX4_partsOf_8 : decode cX4_partsOf 8 = .ok (.iaload, 1) := by decide +kernel
theorem dX4_partsOf_9 : decode cX4_partsOf 9 = .ok (.istore_n 3, 1) := by decide +kernel
theorem dX4_partsOf_10 : decode cX4_partsOf 10 = .ok (.aload_n 0, 1) := by decide +kernel
theorem dX4_partsOf_11 : decode cX4_partsOf 11 = .ok (.getfield 9, 3) := by decide +kernel
theorem dX4_partsOf_14 : decode cX4_partsOf 14 = .ok (.getfield 31, 3) := by decide +kernel
theorem dX4_partsOf_17 : decode cX4_partsOf 17 = .ok (.iload_n 2, 1) := by decide +kernel
theorem dX4_partsOf_18 : decode cX4_partsOf 18 = .ok (.iaload, 1) := by decide +kernel
theorem dX4_partsOf_19 : decode cX4_partsOf 19 = .ok (.istore 4, 2) := by decide +kernel
theorem dX4_partsOf_21 : decode cX4_partsOf 21 = .ok (.iload_n 1, 1) := by decide +kernel
theorem dX4_partsOf_22 : decode cX4_partsOf 22 = .ok (.tableswitch 213 0 10 #[58, 58, 58, 58, 58, 81, 105, 138, 169, 181, 189], 58) := by decide +kernel
theorem dX4_partsOf_80 : decode cX4_partsOf 80 = .ok (.iload_n 1, 1) := by decide +kernel
theorem dX4_partsOf_81 : decode cX4_partsOf 81 = .ok (.aload_n 0, 1) := by decide +kernel
theorem dX4_partsOf_82 : decode cX4_partsOf 82 = .ok (.getfield 9, 3) := by decide +kernel
theorem dX4_partsOf_85 : decode cX4_partsOf 85 = .ok (.getfield 34, 3) := by decide +kernel
theorem dX4_partsOf_88 : decode cX4_partsOf 88 = .ok (.iload_n 3, 1) := by decide +kernel
theorem dX4_partsOf_89 : decode cX4_partsOf 89 = .ok (.iaload, 1) := by decide +kernel
theorem dX4_partsOf_90 : decode cX4_partsOf 90 = .ok (.aload_n 0, 1) := by decide +kernel
theorem dX4_partsOf_91 : decode cX4_partsOf 91 = .ok (.getfield 9, 3) := by decide +kernel
theorem dX4_partsOf_94 : decode cX4_partsOf 94 = .ok (.iload 4, 2) := by decide +kernel
theorem dX4_partsOf_96 : decode cX4_partsOf 96 = .ok (.invokevirtual 37, 3) := by decide +kernel
theorem dX4_partsOf_99 : decode cX4_partsOf 99 = .ok (.invokestatic 41, 3) := by decide +kernel
theorem dX4_partsOf_102 : decode cX4_partsOf 102 = .ok (.lreturn, 1) := by decide +kernel
theorem dX4_partsOf_103 : decode cX4_partsOf 103 = .ok (.aload_n 0, 1) := by decide +kernel
theorem dX4_partsOf_104 : decode cX4_partsOf 104 = .ok (.aload_n 0, 1) := by decide +kernel
theorem dX4_partsOf_105 : decode cX4_partsOf 105 = .ok (.getfield 9, 3) := by decide +kernel
theorem dX4_partsOf_108 : decode cX4_partsOf 108 = .ok (.getfield 34, 3) := by decide +kernel
theorem dX4_partsOf_111 : decode cX4_partsOf 111 = .ok (.iload_n 3, 1) := by decide +kernel
theorem dX4_partsOf_112 : decode cX4_partsOf 112 = .ok (.iaload, 1) := by decide +kernel
theorem dX4_partsOf_113 : decode cX4_partsOf 113 = .ok (.aload_n 0, 1) := by decide +kernel
theorem dX4_partsOf_114 : decode cX4_partsOf 114 = .ok (.getfield 9, 3) := by decide +kernel
theorem dX4_partsOf_117 : decode cX4_partsOf 117 = .ok (.iload 4, 2) := by decide +kernel
theorem dX4_partsOf_119 : decode cX4_partsOf 119 = .ok (.invokevirtual 37, 3) := by decide +kernel
theorem dX4_partsOf_122 : decode cX4_partsOf 122 = .ok (.iand, 1) := by decide +kernel
theorem dX4_partsOf_123 : decode cX4_partsOf 123 = .ok (.invokevirtual 45, 3) := by decide +kernel
theorem dX4_partsOf_126 : decode cX4_partsOf 126 = .ok (.lreturn, 1) := by decide +kernel
theorem dX4_partsOf_127 : decode cX4_partsOf 127 = .ok (.ldc2_w 49, 3) := by decide +kernel
theorem dX4_partsOf_130 : decode cX4_partsOf 130 = .ok (.aload_n 0, 1) := by decide +kernel
theorem dX4_partsOf_131 : decode cX4_partsOf 131 = .ok (.getfield 9, 3) := by decide +kernel
theorem dX4_partsOf_134 : decode cX4_partsOf 134 = .ok (.getfield 34, 3) := by decide +kernel
theorem dX4_partsOf_137 : decode cX4_partsOf 137 = .ok (.iload_n 3, 1) := by decide +kernel
theorem dX4_partsOf_138 : decode cX4_partsOf 138 = .ok (.iaload, 1) := by decide +kernel
theorem dX4_partsOf_139 : decode cX4_partsOf 139 = .ok (.invokestatic 51, 3) := by decide +kernel
theorem dX4_partsOf_142 : decode cX4_partsOf 142 = .ok (.i2l, 1) := by decide +kernel
theorem dX4_partsOf_143 : decode cX4_partsOf 143 = .ok (.lmul, 1) := by decide +kernel
theorem dX4_partsOf_144 : decode cX4_partsOf 144 = .ok (.aload_n 0, 1) := by decide +kernel
theorem dX4_partsOf_145 : decode cX4_partsOf 145 = .ok (.getfield 9, 3) := by decide +kernel
theorem dX4_partsOf_148 : decode cX4_partsOf 148 = .ok (.getfield 56, 3) := by decide +kernel
theorem dX4_partsOf_151 : decode cX4_partsOf 151 = .ok (.iload 4, 2) := by decide +kernel
theorem dX4_partsOf_153 : decode cX4_partsOf 153 = .ok (.iaload, 1) := by decide +kernel
theorem dX4_partsOf_154 : decode cX4_partsOf 154 = .ok (.invokestatic 51, 3) := by decide +kernel
theorem dX4_partsOf_157 : decode cX4_partsOf 157 = .ok (.i2l, 1) := by decide +kernel
theorem dX4_partsOf_158 : decode cX4_partsOf 158 = .ok (.lmul, 1) := by decide +kernel
theorem dX4_partsOf_159 : decode cX4_partsOf 159 = .ok (.lreturn, 1) := by decide +kernel
theorem dX4_partsOf_160 : decode cX4_partsOf 160 = .ok (.ldc2_w 49, 3) := by decide +kernel
theorem dX4_partsOf_163 : decode cX4_partsOf 163 = .ok (.aload_n 0, 1) := by decide +kernel
theorem dX4_partsOf_164 : decode cX4_partsOf 164 = .ok (.getfield 15, 3) := by decide +kernel
theorem dX4_partsOf_167 : decode cX4_partsOf 167 = .ok (.aload_n 0, 1) := by decide +kernel
theorem dX4_partsOf_168 : decode cX4_partsOf 168 = .ok (.iload_n 3, 1) := by decide +kernel
theorem dX4_partsOf_169 : decode cX4_partsOf 169 = .ok (.iload 4, 2) := by decide +kernel
theorem dX4_partsOf_171 : decode cX4_partsOf 171 = .ok (.invokevirtual 59, 3) := by decide +kernel
theorem dX4_partsOf_174 : decode cX4_partsOf 174 = .ok (.imul, 1) := by decide +kernel
theorem dX4_partsOf_175 : decode cX4_partsOf 175 = .ok (.aload_n 0, 1) := by decide +kernel
theorem dX4_partsOf_176 : decode cX4_partsOf 176 = .ok (.getfield 19, 3) := by decide +kernel
theorem dX4_partsOf_179 : decode cX4_partsOf 179 = .ok (.aload_n 0, 1) := by decide +kernel
theorem dX4_partsOf_180 : decode cX4_partsOf 180 = .ok (.iload_n 3, 1) := by decide +kernel
theorem dX4_partsOf_181 : decode cX4_partsOf 181 = .ok (.iload 4, 2) := by decide +kernel
theorem dX4_partsOf_183 : decode cX4_partsOf 183 = .ok (.invokevirtual 63, 3) := by decide +kernel
theorem dX4_partsOf_186 : decode cX4_partsOf 186 = .ok (.imul, 1) := by decide +kernel
theorem dX4_partsOf_187 : decode cX4_partsOf 187 = .ok (.iadd, 1) := by decide +kernel
theorem dX4_partsOf_188 : decode cX4_partsOf 188 = .ok (.i2l, 1) := by decide +kernel
theorem dX4_partsOf_189 : decode cX4_partsOf 189 = .ok (.lmul, 1) := by decide +kernel
theorem dX4_partsOf_190 : decode cX4_partsOf 190 = .ok (.lreturn, 1) := by decide +kernel
theorem dX4_partsOf_191 : decode cX4_partsOf 191 = .ok (.iconst 1, 1) := by decide +kernel
theorem dX4_partsOf_192 : decode cX4_partsOf 192 = .ok (.aload_n 0, 1) := by decide +kernel
theorem dX4_partsOf_193 : decode cX4_partsOf 193 = .ok (.iload_n 3, 1) := by decide +kernel
theorem dX4_partsOf_194 : decode cX4_partsOf 194 = .ok (.iload 4, 2) := by decide +kernel
theorem dX4_partsOf_196 : decode cX4_partsOf 196 = .ok (.invokevirtual 66, 3) := by decide +kernel
theorem dX4_partsOf_199 : decode cX4_partsOf 199 = .ok (.invokestatic 69, 3) := by decide +kernel
theorem dX4_partsOf_202 : decode cX4_partsOf 202 = .ok (.lreturn, 1) := by decide +kernel
theorem dX4_partsOf_203 : decode cX4_partsOf 203 = .ok (.aload_n 0, 1) := by decide +kernel
theorem dX4_partsOf_204 : decode cX4_partsOf 204 = .ok (.iload_n 3, 1) := by decide +kernel
theorem dX4_partsOf_205 : decode cX4_partsOf 205 = .ok (.iload 4, 2) := by decide +kernel
theorem dX4_partsOf_207 : decode cX4_partsOf 207 = .ok (.invokevirtual 73, 3) := by decide +kernel
theorem dX4_partsOf_210 : decode cX4_partsOf 210 = .ok (.lreturn, 1) := by decide +kernel
theorem dX4_partsOf_211 : decode cX4_partsOf 211 = .ok (.aload_n 0, 1) := by decide +kernel
theorem dX4_partsOf_212 : decode cX4_partsOf 212 = .ok (.aload_n 0, 1) := by decide +kernel
theorem dX4_partsOf_213 : decode cX4_partsOf 213 = .ok (.getfield 9, 3) := by decide +kernel
theorem dX4_partsOf_216 : decode cX4_partsOf 216 = .ok (.getfield 76, 3) := by decide +kernel
theorem dX4_partsOf_219 : decode cX4_partsOf 219 = .ok (.iload_n 3, 1) := by decide +kernel
theorem dX4_partsOf_220 : decode cX4_partsOf 220 = .ok (.iaload, 1) := by decide +kernel
theorem dX4_partsOf_221 : decode cX4_partsOf 221 = .ok (.aload_n 0, 1) := by decide +kernel
theorem dX4_partsOf_222 : decode cX4_partsOf 222 = .ok (.getfield 9, 3) := by decide +kernel
theorem dX4_partsOf_225 : decode cX4_partsOf 225 = .ok (.getfield 76, 3) := by decide +kernel
theorem dX4_partsOf_228 : decode cX4_partsOf 228 = .ok (.iload 4, 2) := by decide +kernel
theorem dX4_partsOf_230 : decode cX4_partsOf 230 = .ok (.iaload, 1) := by decide +kernel
theorem dX4_partsOf_231 : decode cX4_partsOf 231 = .ok (.invokevirtual 79, 3) := by decide +kernel
theorem dX4_partsOf_234 : decode cX4_partsOf 234 = .ok (.lreturn, 1) := by decide +kernel
theorem dX4_partsOf_235 : decode cX4_partsOf 235 = .ok (.lconst 0, 1) := by decide +kernel
theorem dX4_partsOf_236 : decode cX4_partsOf 236 = .ok (.lreturn, 1) := by decide +kernel
theorem dX4_fraction_0 : decode cX4_fraction 0 = .ok (.iload_n 1, 1) := by decide +kernel
theorem dX4_fraction_1 : decode cX4_fraction 1 = .ok (.ifCond .gt 5, 3) := by decide +kernel
theorem dX4_fraction_4 : decode cX4_fraction 4 = .ok (.lconst 0, 1) := by decide +kernel
theorem dX4_fraction_5 : decode cX4_fraction 5 = .ok (.lreturn, 1) := by decide +kernel
theorem dX4_fraction_6 : decode cX4_fraction 6 = .ok (.iload_n 0, 1) := by decide +kernel
theorem dX4_fraction_7 : decode cX4_fraction 7 = .ok (.i2l, 1) := by decide +kernel
theorem dX4_fraction_8 : decode cX4_fraction 8 = .ok (.ldc2_w 49, 3) := by decide +kernel
theorem dX4_fraction_11 : decode cX4_fraction 11 = .ok (.iload_n 1, 1) := by decide +kernel
theorem dX4_fraction_12 : decode cX4_fraction 12 = .ok (.i2l, 1) := by decide +kernel
theorem dX4_fraction_13 : decode cX4_fraction 13 = .ok (.ldiv, 1) := by decide +kernel
theorem dX4_fraction_14 : decode cX4_fraction 14 = .ok (.lmul, 1) := by decide +kernel
theorem dX4_fraction_15 : decode cX4_fraction 15 = .ok (.lreturn, 1) := by decide +kernel
set_option maxRecDepth 20000 in
theorem ggX4_overlap_J6_bitCount_0f7a4 : GoodIn wsX4_overlap wsJ6_bitCount_0f7a4 := goodIn_r _ [11, 12, 13, 14] (by decide +kernel) (by decide +kernel)
set_option maxRecDepth 20000 in
theorem gX4_overlap_J6_bitCount_0f7a4 : GoodIn wsX4_overlap (va_wsS RX4 51 yJ6_bitCount_0f7a4 wsJ6_bitCount_0f7a4) := goodIn_app (goodIn_of _ (by decide +kernel)) ggX4_overlap_J6_bitCount_0f7a4
set_option maxRecDepth 20000 in
theorem ggX4_overlap_X4_fraction : GoodIn wsX4_overlap wsX4_fraction := goodIn_r _ [18, 19] (by decide +kernel) (by decide +kernel)
set_option maxRecDepth 20000 in
theorem gX4_overlap_X4_fraction : GoodIn wsX4_overlap (va_wsS RX4 69 yX4_fraction wsX4_fraction) := goodIn_app (goodIn_of _ (by decide +kernel)) ggX4_overlap_X4_fraction
theorem dX4_overlap_0 : decode cX4_overlap 0 = .ok (.iload_n 1, 1) := by decide +kernel
theorem dX4_overlap_1 : decode cX4_overlap 1 = .ok (.iload_n 2, 1) := by decide +kernel
theorem dX4_overlap_2 : decode cX4_overlap 2 = .ok (.iand, 1) := by decide +kernel
theorem dX4_overlap_3 : decode cX4_overlap 3 = .ok (.invokestatic 51, 3) := by decide +kernel
theorem dX4_overlap_6 : decode cX4_overlap 6 = .ok (.istore_n 3, 1) := by decide +kernel
theorem dX4_overlap_7 : decode cX4_overlap 7 = .ok (.iload_n 1, 1) := by decide +kernel
theorem dX4_overlap_8 : decode cX4_overlap 8 = .ok (.invokestatic 51, 3) := by decide +kernel
theorem dX4_overlap_11 : decode cX4_overlap 11 = .ok (.istore 4, 2) := by decide +kernel
theorem dX4_overlap_13 : decode cX4_overlap 13 = .ok (.iload_n 2, 1) := by decide +kernel
theorem dX4_overlap_14 : decode cX4_overlap 14 = .ok (.invokestatic 51, 3) := by decide +kernel
theorem dX4_overlap_17 : decode cX4_overlap 17 = .ok (.istore 5, 2) := by decide +kernel
theorem dX4_overlap_19 : decode cX4_overlap 19 = .ok (.iload_n 0, 1) := by decide +kernel
theorem dX4_overlap_20 : decode cX4_overlap 20 = .ok (.tableswitch 79 1 4 #[32, 43, 55, 67], 32) := by decide +kernel
theorem dX4_overlap_52 : decode cX4_overlap 52 = .ok (.iload_n 3, 1) := by decide +kernel
theorem dX4_overlap_53 : decode cX4_overlap 53 = .ok (.iload_n 1, 1) := by decide +kernel
theorem dX4_overlap_54 : decode cX4_overlap 54 = .ok (.iload_n 2, 1) := by decide +kernel
theorem dX4_overlap_55 : decode cX4_overlap 55 = .ok (.ior, 1) := by decide +kernel
theorem dX4_overlap_56 : decode cX4_overlap 56 = .ok (.invokestatic 51, 3) := by decide +kernel
theorem dX4_overlap_59 : decode cX4_overlap 59 = .ok (.invokestatic 69, 3) := by decide +kernel
theorem dX4_overlap_62 : decode cX4_overlap 62 = .ok (.lreturn, 1) := by decide +kernel
theorem dX4_overlap_63 : decode cX4_overlap 63 = .ok (.iconst 2, 1) := by decide +kernel
theorem dX4_overlap_64 : decode cX4_overlap 64 = .ok (.iload_n 3, 1) := by decide +kernel
theorem dX4_overlap_65 : decode cX4_overlap 65 = .ok (.imul, 1) := by decide +kernel
theorem dX4_overlap_66 : decode cX4_overlap 66 = .ok (.iload 4, 2) := by decide +kernel
theorem dX4_overlap_68 : decode cX4_overlap 68 = .ok (.iload 5, 2) := by decide +kernel
theorem dX4_overlap_70 : decode cX4_overlap 70 = .ok (.iadd, 1) := by decide +kernel
theorem dX4_overlap_71 : decode cX4_overlap 71 = .ok (.invokestatic 69, 3) := by decide +kernel
theorem dX4_overlap_74 : decode cX4_overlap 74 = .ok (.lreturn, 1) := by decide +kernel
theorem dX4_overlap_75 : decode cX4_overlap 75 = .ok (.iload_n 3, 1) := by decide +kernel
theorem dX4_overlap_76 : decode cX4_overlap 76 = .ok (.iload 4, 2) := by decide +kernel
theorem dX4_overlap_78 : decode cX4_overlap 78 = .ok (.iload 5, 2) := by decide +kernel
theorem dX4_overlap_80 : decode cX4_overlap 80 = .ok (.invokestatic 82, 3) := by decide +kernel
theorem dX4_overlap_83 : decode cX4_overlap 83 = .ok (.invokestatic 69, 3) := by decide +kernel
theorem dX4_overlap_86 : decode cX4_overlap 86 = .ok (.lreturn, 1) := by decide +kernel
theorem dX4_overlap_87 : decode cX4_overlap 87 = .ok (.iload_n 3, 1) := by decide +kernel
theorem dX4_overlap_88 : decode cX4_overlap 88 = .ok (.iload 4, 2) := by decide +kernel
theorem dX4_overlap_90 : decode cX4_overlap 90 = .ok (.iload 5, 2) := by decide +kernel
theorem dX4_overlap_92 : decode cX4_overlap 92 = .ok (.invokestatic 87, 3) := by decide +kernel
theorem dX4_overlap_95 : decode cX4_overlap 95 = .ok (.invokestatic 69, 3) := by decide +kernel
theorem dX4_overlap_98 : decode cX4_overlap 98 = .ok (.lreturn, 1) := by decide +kernel
theorem dX4_overlap_99 : decode cX4_overlap 99 = .ok (.iload_n 3, 1) := by decide +kernel
theorem dX4_overlap_100 : decode cX4_overlap 100 = .ok (.iconst 1, 1) := by decide +kernel
theorem dX4_overlap_101 : decode cX4_overlap 101 = .ok (.invokestatic 69, 3) := by decide +kernel
theorem dX4_overlap_104 : decode cX4_overlap 104 = .ok (.lreturn, 1) := by decide +kernel
set_option maxRecDepth 20000 in
theorem ggX4_rareCommon_X6_has : GoodIn wsX4_rareCommon wsX6_has := goodIn_r _ [4] (by decide +kernel) (by decide +kernel)
set_option maxRecDepth 20000 in
theorem gX4_rareCommon_X6_has_n93 : GoodIn wsX4_rareCommon (wsX6_has) := ggX4_rareCommon_X6_has
set_option maxRecDepth 20000 in
theorem ggX4_rareCommon_J6_bitCount_0f7a4 : GoodIn wsX4_rareCommon wsJ6_bitCount_0f7a4 := goodIn_r _ [8, 9, 10, 11] (by decide +kernel) (by decide +kernel)
set_option maxRecDepth 20000 in
theorem gX4_rareCommon_J6_bitCount_0f7a4 : GoodIn wsX4_rareCommon (va_wsS RX4 51 yJ6_bitCount_0f7a4 wsJ6_bitCount_0f7a4) := goodIn_app (goodIn_of _ (by decide +kernel)) ggX4_rareCommon_J6_bitCount_0f7a4
set_option maxRecDepth 20000 in
theorem ggX4_rareCommon_X4_fraction : GoodIn wsX4_rareCommon wsX4_fraction := goodIn_r _ [15, 16] (by decide +kernel) (by decide +kernel)
set_option maxRecDepth 20000 in
theorem gX4_rareCommon_X4_fraction : GoodIn wsX4_rareCommon (va_wsS RX4 69 yX4_fraction wsX4_fraction) := goodIn_app (goodIn_of _ (by decide +kernel)) ggX4_rareCommon_X4_fraction
theorem dX4_rareCommon_0 : decode cX4_rareCommon 0 = .ok (.lconst 0, 1) := by decide +kernel
theorem dX4_rareCommon_1 : decode cX4_rareCommon 1 = .ok (.lstore_n 2, 1) := by decide +kernel
theorem dX4_rareCommon_2 : decode cX4_rareCommon 2 = .ok (.iconst 0, 1) := by decide +kernel
theorem dX4_rareCommon_3 : decode cX4_rareCommon 3 = .ok (.istore 4, 2) := by decide +kernel
theorem dX4_rareCommon_5 : decode cX4_rareCommon 5 = .ok (.iload 4, 2) := by decide +kernel
theorem dX4_rareCommon_7 : decode cX4_rareCommon 7 = .ok (.aload_n 0, 1) := by decide +kernel
theorem dX4_rareCommon_8 : decode cX4_rareCommon 8 = .ok (.getfield 9, 3) := by decide +kernel
theorem dX4_rareCommon_11 : decode cX4_rareCommon 11 = .ok (.getfield 90, 3) := by decide +kernel
theorem dX4_rareCommon_14 : decode cX4_rareCommon 14 = .ok (.if_icmp .ge 38, 3) := by decide +kernel
theorem dX4_rareCommon_17 : decode cX4_rareCommon 17 = .ok (.iload_n 1, 1) := by decide +kernel
theorem dX4_rareCommon_18 : decode cX4_rareCommon 18 = .ok (.iload 4, 2) := by decide +kernel
theorem dX4_rareCommon_20 : decode cX4_rareCommon 20 = .ok (.invokestatic 93, 3) := by decide +kernel
theorem dX4_rareCommon_23 : decode cX4_rareCommon 23 = .ok (.ifCond .eq 23, 3) := by decide +kernel
theorem dX4_rareCommon_26 : decode cX4_rareCommon 26 = .ok (.lload_n 2, 1) := by decide +kernel
theorem dX4_rareCommon_27 : decode cX4_rareCommon 27 = .ok (.iconst 1, 1) := by decide +kernel
theorem dX4_rareCommon_28 : decode cX4_rareCommon 28 = .ok (.aload_n 0, 1) := by decide +kernel
theorem dX4_rareCommon_29 : decode cX4_rareCommon 29 = .ok (.getfield 9, 3) := by decide +kernel
theorem dX4_rareCommon_32 : decode cX4_rareCommon 32 = .ok (.getfield 34, 3) := by decide +kernel
theorem dX4_rareCommon_35 : decode cX4_rareCommon 35 = .ok (.iload 4, 2) := by decide +kernel
theorem dX4_rareCommon_37 : decode cX4_rareCommon 37 = .ok (.iaload, 1) := by decide +kernel
theorem dX4_rareCommon_38 : decode cX4_rareCommon 38 = .ok (.invokestatic 51, 3) := by decide +kernel
theorem dX4_rareCommon_41 : decode cX4_rareCommon 41 = .ok (.invokestatic 69, 3) := by decide +kernel
theorem dX4_rareCommon_44 : decode cX4_rareCommon 44 = .ok (.ladd, 1) := by decide +kernel
theorem dX4_rareCommon_45 : decode cX4_rareCommon 45 = .ok (.lstore_n 2, 1) := by decide +kernel
theorem dX4_rareCommon_46 : decode cX4_rareCommon 46 = .ok (.iinc 4 1, 3) := by decide +kernel
theorem dX4_rareCommon_49 : decode cX4_rareCommon 49 = .ok (.goto (-44), 3) := by decide +kernel
theorem dX4_rareCommon_52 : decode cX4_rareCommon 52 = .ok (.lload_n 2, 1) := by decide +kernel
theorem dX4_rareCommon_53 : decode cX4_rareCommon 53 = .ok (.lreturn, 1) := by decide +kernel
set_option maxRecDepth 20000 in
theorem ggX4_waysOfTwo_J6_bitCount_0f7a4 : GoodIn wsX4_waysOfTwo wsJ6_bitCount_0f7a4 := goodIn_r _ [5, 6, 7, 8] (by decide +kernel) (by decide +kernel)
set_option maxRecDepth 20000 in
theorem gX4_waysOfTwo_J6_bitCount_0f7a4 : GoodIn wsX4_waysOfTwo (va_wsS RX4 51 yJ6_bitCount_0f7a4 wsJ6_bitCount_0f7a4) := goodIn_app (goodIn_of _ (by decide +kernel)) ggX4_waysOfTwo_J6_bitCount_0f7a4
theorem dX4_waysOfTwo_0 : decode cX4_waysOfTwo 0 = .ok (.aload_n 0, 1) := by decide +kernel
theorem dX4_waysOfTwo_1 : decode cX4_waysOfTwo 1 = .ok (.getfield 9, 3) := by decide +kernel
theorem dX4_waysOfTwo_4 : decode cX4_waysOfTwo 4 = .ok (.getfield 34, 3) := by decide +kernel
theorem dX4_waysOfTwo_7 : decode cX4_waysOfTwo 7 = .ok (.iload_n 1, 1) := by decide +kernel
theorem dX4_waysOfTwo_8 : decode cX4_waysOfTwo 8 = .ok (.iaload, 1) := by decide +kernel
theorem dX4_waysOfTwo_9 : decode cX4_waysOfTwo 9 = .ok (.aload_n 0, 1) := by decide +kernel
theorem dX4_waysOfTwo_10 : decode cX4_waysOfTwo 10 = .ok (.getfield 9, 3) := by decide +kernel
theorem dX4_waysOfTwo_13 : decode cX4_waysOfTwo 13 = .ok (.getfield 56, 3) := by decide +kernel
theorem dX4_waysOfTwo_16 : decode cX4_waysOfTwo 16 = .ok (.iload_n 2, 1) := by decide +kernel
theorem dX4_waysOfTwo_17 : decode cX4_waysOfTwo 17 = .ok (.iaload, 1) := by decide +kernel
theorem dX4_waysOfTwo_18 : decode cX4_waysOfTwo 18 = .ok (.iand, 1) := by decide +kernel
theorem dX4_waysOfTwo_19 : decode cX4_waysOfTwo 19 = .ok (.invokestatic 51, 3) := by decide +kernel
theorem dX4_waysOfTwo_22 : decode cX4_waysOfTwo 22 = .ok (.ireturn, 1) := by decide +kernel
set_option maxRecDepth 20000 in
theorem ggX4_waysOfThree_X6_has : GoodIn wsX4_waysOfThree wsX6_has := goodIn_r _ [4] (by decide +kernel) (by decide +kernel)
set_option maxRecDepth 20000 in
theorem gX4_waysOfThree_X6_has_n93 : GoodIn wsX4_waysOfThree (wsX6_has) := ggX4_waysOfThree_X6_has
set_option maxRecDepth 20000 in
theorem ggX4_waysOfThree_X4_waysOfTwo : GoodIn wsX4_waysOfThree wsX4_waysOfTwo := goodIn_r _ [9, 1, 10, 11, 12, 13, 14, 15, 16, 17, 18, 19, 20, 21, 22, 23, 24, 25, 26, 27, 28, 29, 30, 31, 32, 33] (by decide +kernel) (by decide +kernel)
set_option maxRecDepth 20000 in
theorem gX4_waysOfThree_X4_waysOfTwo : GoodIn wsX4_waysOfThree (wsV RX4 59 RX4 yX4_waysOfTwo wsX4_waysOfTwo) := goodIn_app (goodIn_of _ (by decide +kernel)) ggX4_waysOfThree_X4_waysOfTwo
theorem dX4_waysOfThree_0 : decode cX4_waysOfThree 0 = .ok (.iconst 0, 1) := by decide +kernel
theorem dX4_waysOfThree_1 : decode cX4_waysOfThree 1 = .ok (.istore_n 3, 1) := by decide +kernel
theorem dX4_waysOfThree_2 : decode cX4_waysOfThree 2 = .ok (.iconst 0, 1) := by decide +kernel
theorem dX4_waysOfThree_3 : decode cX4_waysOfThree 3 = .ok (.istore 4, 2) := by decide +kernel
theorem dX4_waysOfThree_5 : decode cX4_waysOfThree 5 = .ok (.iload 4, 2) := by decide +kernel
theorem dX4_waysOfThree_7 : decode cX4_waysOfThree 7 = .ok (.aload_n 0, 1) := by decide +kernel
theorem dX4_waysOfThree_8 : decode cX4_waysOfThree 8 = .ok (.getfield 9, 3) := by decide +kernel
theorem dX4_waysOfThree_11 : decode cX4_waysOfThree 11 = .ok (.getfield 90, 3) := by decide +kernel
theorem dX4_waysOfThree_14 : decode cX4_waysOfThree 14 = .ok (.if_icmp .ge 36, 3) := by decide +kernel
theorem dX4_waysOfThree_17 : decode cX4_waysOfThree 17 = .ok (.aload_n 0, 1) := by decide +kernel
theorem dX4_waysOfThree_18 : decode cX4_waysOfThree 18 = .ok (.getfield 9, 3) := by decide +kernel
theorem dX4_waysOfThree_21 : decode cX4_waysOfThree 21 = .ok (.getfield 34, 3) := by decide +kernel
theorem dX4_waysOfThree_24 : decode cX4_waysOfThree 24 = .ok (.iload_n 1, 1) := by decide +kernel
theorem dX4_waysOfThree_25 : decode cX4_waysOfThree 25 = .ok (.iaload, 1) := by decide +kernel
theorem dX4_waysOfThree_26 : decode cX4_waysOfThree 26 = .ok (.iload 4, 2) := by decide +kernel
theorem dX4_waysOfThree_28 : decode cX4_waysOfThree 28 = .ok (.invokestatic 93, 3) := by decide +kernel
theorem dX4_waysOfThree_31 : decode cX4_waysOfThree 31 = .ok (.ifCond .eq 13, 3) := by decide +kernel
theorem dX4_waysOfThree_34 : decode cX4_waysOfThree 34 = .ok (.iload_n 3, 1) := by decide +kernel
theorem dX4_waysOfThree_35 : decode cX4_waysOfThree 35 = .ok (.aload_n 0, 1) := by decide +kernel
theorem dX4_waysOfThree_36 : decode cX4_waysOfThree 36 = .ok (.iload 4, 2) := by decide +kernel
theorem dX4_waysOfThree_38 : decode cX4_waysOfThree 38 = .ok (.iload_n 2, 1) := by decide +kernel
theorem dX4_waysOfThree_39 : decode cX4_waysOfThree 39 = .ok (.invokevirtual 59, 3) := by decide +kernel
theorem dX4_waysOfThree_42 : decode cX4_waysOfThree 42 = .ok (.iadd, 1) := by decide +kernel
theorem dX4_waysOfThree_43 : decode cX4_waysOfThree 43 = .ok (.istore_n 3, 1) := by decide +kernel
theorem dX4_waysOfThree_44 : decode cX4_waysOfThree 44 = .ok (.iinc 4 1, 3) := by decide +kernel
theorem dX4_waysOfThree_47 : decode cX4_waysOfThree 47 = .ok (.goto (-42), 3) := by decide +kernel
theorem dX4_waysOfThree_50 : decode cX4_waysOfThree 50 = .ok (.iload_n 3, 1) := by decide +kernel
theorem dX4_waysOfThree_51 : decode cX4_waysOfThree 51 = .ok (.ireturn, 1) := by decide +kernel
set_option maxRecDepth 20000 in
theorem ggX4_leastArcs_X6_has : GoodIn wsX4_leastArcs wsX6_has := goodIn_r _ [4] (by decide +kernel) (by decide +kernel)
set_option maxRecDepth 20000 in
theorem gX4_leastArcs_X6_has_n93 : GoodIn wsX4_leastArcs (wsX6_has) := ggX4_leastArcs_X6_has
set_option maxRecDepth 20000 in
theorem ggX4_leastArcs_X6_leadsFrom : GoodIn wsX4_leastArcs wsX6_leadsFrom := goodIn_r _ [7, 8, 9, 10, 2, 3, 4, 15, 16, 17, 18, 19, 20, 21, 22, 23, 24, 25, 26, 27] (by decide +kernel) (by decide +kernel)
set_option maxRecDepth 20000 in
theorem gX4_leastArcs_X6_leadsFrom_n97 : GoodIn wsX4_leastArcs (wsX6_leadsFrom) := ggX4_leastArcs_X6_leadsFrom
theorem dX4_leastArcs_0 : decode cX4_leastArcs 0 = .ok (.aload_n 0, 1) := by decide +kernel
theorem dX4_leastArcs_1 : decode cX4_leastArcs 1 = .ok (.getfield 9, 3) := by decide +kernel
theorem dX4_leastArcs_4 : decode cX4_leastArcs 4 = .ok (.getfield 34, 3) := by decide +kernel
theorem dX4_leastArcs_7 : decode cX4_leastArcs 7 = .ok (.iload_n 1, 1) := by decide +kernel
theorem dX4_leastArcs_8 : decode cX4_leastArcs 8 = .ok (.iaload, 1) := by decide +kernel
theorem dX4_leastArcs_9 : decode cX4_leastArcs 9 = .ok (.istore_n 3, 1) := by decide +kernel
theorem dX4_leastArcs_10 : decode cX4_leastArcs 10 = .ok (.iconst 1, 1) := by decide +kernel
theorem dX4_leastArcs_11 : decode cX4_leastArcs 11 = .ok (.istore 4, 2) := by decide +kernel
theorem dX4_leastArcs_13 : decode cX4_leastArcs 13 = .ok (.iload 4, 2) := by decide +kernel
theorem dX4_leastArcs_15 : decode cX4_leastArcs 15 = .ok (.aload_n 0, 1) := by decide +kernel
theorem dX4_leastArcs_16 : decode cX4_leastArcs 16 = .ok (.getfield 9, 3) := by decide +kernel
theorem dX4_leastArcs_19 : decode cX4_leastArcs 19 = .ok (.getfield 90, 3) := by decide +kernel
theorem dX4_leastArcs_22 : decode cX4_leastArcs 22 = .ok (.if_icmp .ge 31, 3) := by decide +kernel
theorem dX4_leastArcs_25 : decode cX4_leastArcs 25 = .ok (.iload_n 3, 1) := by decide +kernel
theorem dX4_leastArcs_26 : decode cX4_leastArcs 26 = .ok (.iload_n 2, 1) := by decide +kernel
theorem dX4_leastArcs_27 : decode cX4_leastArcs 27 = .ok (.invokestatic 93, 3) := by decide +kernel
theorem dX4_leastArcs_30 : decode cX4_leastArcs 30 = .ok (.ifCond .eq 6, 3) := by decide +kernel
theorem dX4_leastArcs_33 : decode cX4_leastArcs 33 = .ok (.iload 4, 2) := by decide +kernel
theorem dX4_leastArcs_35 : decode cX4_leastArcs 35 = .ok (.ireturn, 1) := by decide +kernel
theorem dX4_leastArcs_36 : decode cX4_leastArcs 36 = .ok (.iload_n 3, 1) := by decide +kernel
theorem dX4_leastArcs_37 : decode cX4_leastArcs 37 = .ok (.aload_n 0, 1) := by decide +kernel
theorem dX4_leastArcs_38 : decode cX4_leastArcs 38 = .ok (.getfield 9, 3) := by decide +kernel
theorem dX4_leastArcs_41 : decode cX4_leastArcs 41 = .ok (.iload_n 3, 1) := by decide +kernel
theorem dX4_leastArcs_42 : decode cX4_leastArcs 42 = .ok (.invokevirtual 97, 3) := by decide +kernel
theorem dX4_leastArcs_45 : decode cX4_leastArcs 45 = .ok (.ior, 1) := by decide +kernel
theorem dX4_leastArcs_46 : decode cX4_leastArcs 46 = .ok (.istore_n 3, 1) := by decide +kernel
theorem dX4_leastArcs_47 : decode cX4_leastArcs 47 = .ok (.iinc 4 1, 3) := by decide +kernel
theorem dX4_leastArcs_50 : decode cX4_leastArcs 50 = .ok (.goto (-37), 3) := by decide +kernel
theorem dX4_leastArcs_53 : decode cX4_leastArcs 53 = .ok (.iconst 0, 1) := by decide +kernel
theorem dX4_leastArcs_54 : decode cX4_leastArcs 54 = .ok (.ireturn, 1) := by decide +kernel
set_option maxRecDepth 20000 in
theorem ggX4_wander_J6_bitCount_0f7a4 : GoodIn wsX4_wander wsJ6_bitCount_0f7a4 := goodIn_r _ [6, 7, 8, 9] (by decide +kernel) (by decide +kernel)
set_option maxRecDepth 20000 in
theorem gX4_wander_J6_bitCount_0f7a4 : GoodIn wsX4_wander (va_wsS RX4 51 yJ6_bitCount_0f7a4 wsJ6_bitCount_0f7a4) := goodIn_app (goodIn_of _ (by decide +kernel)) ggX4_wander_J6_bitCount_0f7a4
set_option maxRecDepth 20000 in
theorem ggX4_wander_X6_has : GoodIn wsX4_wander wsX6_has := goodIn_r _ [12] (by decide +kernel) (by decide +kernel)
set_option maxRecDepth 20000 in
theorem gX4_wander_X6_has_n93 : GoodIn wsX4_wander (wsX6_has) := ggX4_wander_X6_has
set_option maxRecDepth 20000 in
theorem ggX4_wander_X4_fraction : GoodIn wsX4_wander wsX4_fraction := goodIn_r _ [16, 17] (by decide +kernel) (by decide +kernel)
set_option maxRecDepth 20000 in
theorem gX4_wander_X4_fraction : GoodIn wsX4_wander (va_wsS RX4 69 yX4_fraction wsX4_fraction) := goodIn_app (goodIn_of _ (by decide +kernel)) ggX4_wander_X4_fraction
theorem dX4_wander_0 : decode cX4_wander 0 = .ok (.aload_n 0, 1) := by decide +kernel
theorem dX4_wander_1 : decode cX4_wander 1 = .ok (.getfield 9, 3) := by decide +kernel
theorem dX4_wander_4 : decode cX4_wander 4 = .ok (.getfield 34, 3) := by decide +kernel
theorem dX4_wander_7 : decode cX4_wander 7 = .ok (.iload_n 1, 1) := by decide +kernel
theorem dX4_wander_8 : decode cX4_wander 8 = .ok (.iaload, 1) := by decide +kernel
theorem dX4_wander_9 : decode cX4_wander 9 = .ok (.invokestatic 51, 3) := by decide +kernel
theorem dX4_wander_12 : decode cX4_wander 12 = .ok (.istore_n 3, 1) := by decide +kernel
theorem dX4_wander_13 : decode cX4_wander 13 = .ok (.aload_n 0, 1) := by decide +kernel
theorem dX4_wander_14 : decode cX4_wander 14 = .ok (.getfield 22, 3) := by decide +kernel
theorem dX4_wander_17 : decode cX4_wander 17 = .ok (.iconst 1, 1) := by decide +kernel
theorem dX4_wander_18 : decode cX4_wander 18 = .ok (.if_icmp .ne 29, 3) := by decide +kernel
theorem dX4_wander_21 : decode cX4_wander 21 = .ok (.aload_n 0, 1) := by decide +kernel
theorem dX4_wander_22 : decode cX4_wander 22 = .ok (.getfield 9, 3) := by decide +kernel
theorem dX4_wander_25 : decode cX4_wander 25 = .ok (.getfield 34, 3) := by decide +kernel
theorem dX4_wander_28 : decode cX4_wander 28 = .ok (.iload_n 1, 1) := by decide +kernel
theorem dX4_wander_29 : decode cX4_wander 29 = .ok (.iaload, 1) := by decide +kernel
theorem dX4_wander_30 : decode cX4_wander 30 = .ok (.iload_n 2, 1) := by decide +kernel
theorem dX4_wander_31 : decode cX4_wander 31 = .ok (.invokestatic 93, 3) := by decide +kernel
theorem dX4_wander_34 : decode cX4_wander 34 = .ok (.ifCond .eq 11, 3) := by decide +kernel
theorem dX4_wander_37 : decode cX4_wander 37 = .ok (.iconst 1, 1) := by decide +kernel
theorem dX4_wander_38 : decode cX4_wander 38 = .ok (.iload_n 3, 1) := by decide +kernel
theorem dX4_wander_39 : decode cX4_wander 39 = .ok (.invokestatic 69, 3) := by decide +kernel
theorem dX4_wander_42 : decode cX4_wander 42 = .ok (.goto 4, 3) := by decide +kernel
theorem dX4_wander_45 : decode cX4_wander 45 = .ok (.lconst 0, 1) := by decide +kernel
theorem dX4_wander_46 : decode cX4_wander 46 = .ok (.lreturn, 1) := by decide +kernel
theorem dX4_wander_47 : decode cX4_wander 47 = .ok (.aload_n 0, 1) := by decide +kernel
theorem dX4_wander_48 : decode cX4_wander 48 = .ok (.getfield 9, 3) := by decide +kernel
theorem dX4_wander_51 : decode cX4_wander 51 = .ok (.getfield 34, 3) := by decide +kernel
theorem dX4_wander_54 : decode cX4_wander 54 = .ok (.iload_n 1, 1) := by decide +kernel
theorem dX4_wander_55 : decode cX4_wander 55 = .ok (.iaload, 1) := by decide +kernel
theorem dX4_wander_56 : decode cX4_wander 56 = .ok (.aload_n 0, 1) := by decide +kernel
theorem dX4_wander_57 : decode cX4_wander 57 = .ok (.getfield 9, 3) := by decide +kernel
theorem dX4_wander_60 : decode cX4_wander 60 = .ok (.getfield 56, 3) := by decide +kernel
theorem dX4_wander_63 : decode cX4_wander 63 = .ok (.iload_n 2, 1) := by decide +kernel
theorem dX4_wander_64 : decode cX4_wander 64 = .ok (.iaload, 1) := by decide +kernel
theorem dX4_wander_65 : decode cX4_wander 65 = .ok (.iand, 1) := by decide +kernel
theorem dX4_wander_66 : decode cX4_wander 66 = .ok (.istore 4, 2) := by decide +kernel
theorem dX4_wander_68 : decode cX4_wander 68 = .ok (.lconst 0, 1) := by decide +kernel
theorem dX4_wander_69 : decode cX4_wander 69 = .ok (.lstore 5, 2) := by decide +kernel
theorem dX4_wander_71 : decode cX4_wander 71 = .ok (.iconst 0, 1) := by decide +kernel
theorem dX4_wander_72 : decode cX4_wander 72 = .ok (.istore 7, 2) := by decide +kernel
theorem dX4_wander_74 : decode cX4_wander 74 = .ok (.iload 7, 2) := by decide +kernel
theorem dX4_wander_76 : decode cX4_wander 76 = .ok (.aload_n 0, 1) := by decide +kernel
theorem dX4_wander_77 : decode cX4_wander 77 = .ok (.getfield 9, 3) := by decide +kernel
theorem dX4_wander_80 : decode cX4_wander 80 = .ok (.getfield 90, 3) := by decide +kernel
theorem dX4_wander_83 : decode cX4_wander 83 = .ok (.if_icmp .ge 43, 3) := by decide +kernel
theorem dX4_wander_86 : decode cX4_wander 86 = .ok (.iload 4, 2) := by decide +kernel
theorem dX4_wander_88 : decode cX4_wander 88 = .ok (.iload 7, 2) := by decide +kernel
theorem dX4_wander_90 : decode cX4_wander 90 = .ok (.invokestatic 93, 3) := by decide +kernel
theorem dX4_wander_93 : decode cX4_wander 93 = .ok (.ifCond .eq 27, 3) := by decide +kernel
theorem dX4_wander_96 : decode cX4_wander 96 = .ok (.lload 5, 2) := by decide +kernel
theorem dX4_wander_98 : decode cX4_wander 98 = .ok (.iconst 1, 1) := by decide +kernel
theorem dX4_wander_99 : decode cX4_wander 99 = .ok (.iload_n 3, 1) := by decide +kernel
theorem dX4_wander_100 : decode cX4_wander 100 = .ok (.aload_n 0, 1) := by decide +kernel
theorem dX4_wander_101 : decode cX4_wander 101 = .ok (.getfield 9, 3) := by decide +kernel
theorem dX4_wander_104 : decode cX4_wander 104 = .ok (.getfield 34, 3) := by decide +kernel
theorem dX4_wander_107 : decode cX4_wander 107 = .ok (.iload 7, 2) := by decide +kernel
theorem dX4_wander_109 : decode cX4_wander 109 = .ok (.iaload, 1) := by decide +kernel
theorem dX4_wander_110 : decode cX4_wander 110 = .ok (.invokestatic 51, 3) := by decide +kernel
theorem dX4_wander_113 : decode cX4_wander 113 = .ok (.imul, 1) := by decide +kernel
theorem dX4_wander_114 : decode cX4_wander 114 = .ok (.invokestatic 69, 3) := by decide +kernel
theorem dX4_wander_117 : decode cX4_wander 117 = .ok (.ladd, 1) := by decide +kernel
theorem dX4_wander_118 : decode cX4_wander 118 = .ok (.lstore 5, 2) := by decide +kernel
theorem dX4_wander_120 : decode cX4_wander 120 = .ok (.iinc 7 1, 3) := by decide +kernel
theorem dX4_wander_123 : decode cX4_wander 123 = .ok (.goto (-49), 3) := by decide +kernel
theorem dX4_wander_126 : decode cX4_wander 126 = .ok (.lload 5, 2) := by decide +kernel
theorem dX4_wander_128 : decode cX4_wander 128 = .ok (.lreturn, 1) := by decide +kernel
set_option maxRecDepth 20000 in
theorem ggX4_betweenGroups_X6_membersOf : GoodIn wsX4_betweenGroups wsX6_membersOf := goodIn_r _ [5, 6, 7, 26, 27, 28, 29, 30, 31, 32, 33, 34, 35, 36, 37, 38] (by decide +kernel) (by decide +kernel)
set_option maxRecDepth 20000 in
theorem gX4_betweenGroups_X6_membersOf_n100 : GoodIn wsX4_betweenGroups (wsX6_membersOf) := ggX4_betweenGroups_X6_membersOf
set_option maxRecDepth 20000 in
theorem ggX4_betweenGroups_X6_has : GoodIn wsX4_betweenGroups wsX6_has := goodIn_r _ [9] (by decide +kernel) (by decide +kernel)
set_option maxRecDepth 20000 in
theorem gX4_betweenGroups_X6_has_n93 : GoodIn wsX4_betweenGroups (wsX6_has) := ggX4_betweenGroups_X6_has
set_option maxRecDepth 20000 in
theorem ggX4_betweenGroups_J6_bitCount_0f7a4 : GoodIn wsX4_betweenGroups wsJ6_bitCount_0f7a4 := goodIn_r _ [13, 14, 15, 16] (by decide +kernel) (by decide +kernel)
set_option maxRecDepth 20000 in
theorem gX4_betweenGroups_J6_bitCount_0f7a4 : GoodIn wsX4_betweenGroups (va_wsS RX4 51 yJ6_bitCount_0f7a4 wsJ6_bitCount_0f7a4) := goodIn_app (goodIn_of _ (by decide +kernel)) ggX4_betweenGroups_J6_bitCount_0f7a4
set_option maxRecDepth 20000 in
theorem ggX4_betweenGroups_X4_fraction : GoodIn wsX4_betweenGroups wsX4_fraction := goodIn_r _ [20, 21] (by decide +kernel) (by decide +kernel)
set_option maxRecDepth 20000 in
theorem gX4_betweenGroups_X4_fraction : GoodIn wsX4_betweenGroups (va_wsS RX4 69 yX4_fraction wsX4_fraction) := goodIn_app (goodIn_of _ (by decide +kernel)) ggX4_betweenGroups_X4_fraction
theorem dX4_betweenGroups_0 : decode cX4_betweenGroups 0 = .ok (.aload_n 0, 1) := by decide +kernel
theorem dX4_betweenGroups_1 : decode cX4_betweenGroups 1 = .ok (.getfield 9, 3) := by decide +kernel
theorem dX4_betweenGroups_4 : decode cX4_betweenGroups 4 = .ok (.iload_n 1, 1) := by decide +kernel
theorem dX4_betweenGroups_5 : decode cX4_betweenGroups 5 = .ok (.invokevirtual 100, 3) := by decide +kernel
theorem dX4_betweenGroups_8 : decode cX4_betweenGroups 8 = .ok (.istore_n 3, 1) := by decide +kernel
theorem dX4_betweenGroups_9 : decode cX4_betweenGroups 9 = .ok (.aload_n 0, 1) := by decide +kernel
theorem dX4_betweenGroups_10 : decode cX4_betweenGroups 10 = .ok (.getfield 9, 3) := by decide +kernel
theorem dX4_betweenGroups_13 : decode cX4_betweenGroups 13 = .ok (.iload_n 2, 1) := by decide +kernel
theorem dX4_betweenGroups_14 : decode cX4_betweenGroups 14 = .ok (.invokevirtual 100, 3) := by decide +kernel
theorem dX4_betweenGroups_17 : decode cX4_betweenGroups 17 = .ok (.istore 4, 2) := by decide +kernel
theorem dX4_betweenGroups_19 : decode cX4_betweenGroups 19 = .ok (.iconst 0, 1) := by decide +kernel
theorem dX4_betweenGroups_20 : decode cX4_betweenGroups 20 = .ok (.istore 5, 2) := by decide +kernel
theorem dX4_betweenGroups_22 : decode cX4_betweenGroups 22 = .ok (.iconst 0, 1) := by decide +kernel
theorem dX4_betweenGroups_23 : decode cX4_betweenGroups 23 = .ok (.istore 6, 2) := by decide +kernel
theorem dX4_betweenGroups_25 : decode cX4_betweenGroups 25 = .ok (.iload 6, 2) := by decide +kernel
theorem dX4_betweenGroups_27 : decode cX4_betweenGroups 27 = .ok (.aload_n 0, 1) := by decide +kernel
theorem dX4_betweenGroups_28 : decode cX4_betweenGroups 28 = .ok (.getfield 9, 3) := by decide +kernel
theorem dX4_betweenGroups_31 : decode cX4_betweenGroups 31 = .ok (.getfield 90, 3) := by decide +kernel
theorem dX4_betweenGroups_34 : decode cX4_betweenGroups 34 = .ok (.if_icmp .ge 39, 3) := by decide +kernel
theorem dX4_betweenGroups_37 : decode cX4_betweenGroups 37 = .ok (.iload_n 3, 1) := by decide +kernel
theorem dX4_betweenGroups_38 : decode cX4_betweenGroups 38 = .ok (.iload 6, 2) := by decide +kernel
theorem dX4_betweenGroups_40 : decode cX4_betweenGroups 40 = .ok (.invokestatic 93, 3) := by decide +kernel
theorem dX4_betweenGroups_43 : decode cX4_betweenGroups 43 = .ok (.ifCond .eq 24, 3) := by decide +kernel
theorem dX4_betweenGroups_46 : decode cX4_betweenGroups 46 = .ok (.iload 5, 2) := by decide +kernel
theorem dX4_betweenGroups_48 : decode cX4_betweenGroups 48 = .ok (.aload_n 0, 1) := by decide +kernel
theorem dX4_betweenGroups_49 : decode cX4_betweenGroups 49 = .ok (.getfield 9, 3) := by decide +kernel
theorem dX4_betweenGroups_52 : decode cX4_betweenGroups 52 = .ok (.getfield 34, 3) := by decide +kernel
theorem dX4_betweenGroups_55 : decode cX4_betweenGroups 55 = .ok (.iload 6, 2) := by decide +kernel
