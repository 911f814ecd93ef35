theorem dX4_betweenGroups_57 : decode cX4_betweenGroups 57 = .ok (.iaload, 1) := by decide +kernel
theorem dX4_betweenGroups_58 : decode cX4_betweenGroups 58 = .ok (.iload 4, 2) := by decide +kernel
theorem dX4_betweenGroups_60 : decode cX4_betweenGroups 60 = .ok (.iand, 1) := by decide +kernel
theorem dX4_betweenGroups_61 : decode cX4_betweenGroups 61 = .ok (.invokestatic 51, 3) := by decide +kernel
theorem dX4_betweenGroups_64 : decode cX4_betweenGroups 64 = .ok (.iadd, 1) := by decide +kernel
theorem dX4_betweenGroups_65 : decode cX4_betweenGroups 65 = .ok (.istore 5, 2) := by decide +kernel
theorem dX4_betweenGroups_67 : decode cX4_betweenGroups 67 = .ok (.iinc 6 1, 3) := by decide +kernel
theorem dX4_betweenGroups_70 : decode cX4_betweenGroups 70 = .ok (.goto (-45), 3) := by decide +kernel
theorem dX4_betweenGroups_73 : decode cX4_betweenGroups 73 = .ok (.iload 5, 2) := by decide +kernel
theorem dX4_betweenGroups_75 : decode cX4_betweenGroups 75 = .ok (.iload_n 3, 1) := by decide +kernel
theorem dX4_betweenGroups_76 : decode cX4_betweenGroups 76 = .ok (.invokestatic 51, 3) := by decide +kernel
theorem dX4_betweenGroups_79 : decode cX4_betweenGroups 79 = .ok (.iload 4, 2) := by decide +kernel
theorem dX4_betweenGroups_81 : decode cX4_betweenGroups 81 = .ok (.invokestatic 51, 3) := by decide +kernel
theorem dX4_betweenGroups_84 : decode cX4_betweenGroups 84 = .ok (.imul, 1) := by decide +kernel
theorem dX4_betweenGroups_85 : decode cX4_betweenGroups 85 = .ok (.invokestatic 69, 3) := by decide +kernel
theorem dX4_betweenGroups_88 : decode cX4_betweenGroups 88 = .ok (.lreturn, 1) := by decide +kernel
theorem dX5_init_0 : decode cX5_init 0 = .ok (.aload_n 0, 1) := by decide +kernel
theorem dX5_init_1 : decode cX5_init 1 = .ok (.invokespecial 3, 3) := by decide +kernel
theorem dX5_init_4 : decode cX5_init 4 = .ok (.aload_n 0, 1) := by decide +kernel
theorem dX5_init_5 : decode cX5_init 5 = .ok (.bipush 11, 2) := by decide +kernel
theorem dX5_init_7 : decode cX5_init 7 = .ok (.newarray .int, 2) := by decide +kernel
theorem dX5_init_9 : decode cX5_init 9 = .ok (.putfield 9, 3) := by decide +kernel
theorem dX5_init_12 : decode cX5_init 12 = .ok (.aload_n 0, 1) := by decide +kernel
theorem dX5_init_13 : decode cX5_init 13 = .ok (.aload_n 1, 1) := by decide +kernel
theorem dX5_init_14 : decode cX5_init 14 = .ok (.putfield 15, 3) := by decide +kernel
theorem dX5_init_17 : decode cX5_init 17 = .ok (.return_, 1) := by decide +kernel
set_option maxRecDepth 20000 in
theorem ggX5_reset_J7_fill_53178 : GoodIn wsX5_reset wsJ7_fill_53178 := goodIn_r _ [5] (by decide +kernel) (by decide +kernel)
set_option maxRecDepth 20000 in
theorem gX5_reset_J7_fill_53178 : GoodIn wsX5_reset (va_wsS RX5 19 yJ7_fill_53178 wsJ7_fill_53178) := goodIn_app (goodIn_of _ (by decide +kernel)) ggX5_reset_J7_fill_53178
theorem dX5_reset_0 : decode cX5_reset 0 = .ok (.aload_n 0, 1) := by decide +kernel
theorem dX5_reset_1 : decode cX5_reset 1 = .ok (.getfield 9, 3) := by decide +kernel
theorem dX5_reset_4 : decode cX5_reset 4 = .ok (.iconst 0, 1) := by decide +kernel
theorem dX5_reset_5 : decode cX5_reset 5 = .ok (.invokestatic 19, 3) := by decide +kernel
theorem dX5_reset_8 : decode cX5_reset 8 = .ok (.aload_n 0, 1) := by decide +kernel
theorem dX5_reset_9 : decode cX5_reset 9 = .ok (.getfield 9, 3) := by decide +kernel
theorem dX5_reset_12 : decode cX5_reset 12 = .ok (.iconst 0, 1) := by decide +kernel
theorem dX5_reset_13 : decode cX5_reset 13 = .ok (.iconst 1, 1) := by decide +kernel
theorem dX5_reset_14 : decode cX5_reset 14 = .ok (.iastore, 1) := by decide +kernel
theorem dX5_reset_15 : decode cX5_reset 15 = .ok (.return_, 1) := by decide +kernel
set_option maxRecDepth 20000 in
theorem ggX5_mixOf_X4_partsOf : GoodIn wsX5_mixOf wsX4_partsOf := goodIn_r _ [6, 7, 8, 9, 10, 11, 12, 13, 14, 15, 16, 17, 18, 19, 20, 21, 22, 23, 24, 25, 26, 27, 4, 28, 29, 30, 31, 32, 33, 34, 35, 36, 37, 38, 39, 40, 41, 42, 43, 44, 45, 46, 47, 48, 49, 50, 51, 52, 53, 54, 55, 56, 57, 58, 59, 60, 61, 62, 63, 64, 65, 66, 67, 68, 69, 70, 71, 72, 73, 74, 77, 78, 79, 80, 81, 82, 83, 84, 85, 86, 87, 88, 89, 90, 91, 92, 93] (by decide +kernel) (by decide +kernel)
set_option maxRecDepth 20000 in
theorem gX5_mixOf_X4_partsOf_n25 : GoodIn wsX5_mixOf (wsX4_partsOf) := ggX5_mixOf_X4_partsOf
theorem dX5_mixOf_0 : decode cX5_mixOf 0 = .ok (.lconst 0, 1) := by decide +kernel
theorem dX5_mixOf_1 : decode cX5_mixOf 1 = .ok (.lstore_n 2, 1) := by decide +kernel
theorem dX5_mixOf_2 : decode cX5_mixOf 2 = .ok (.iconst 0, 1) := by decide +kernel
theorem dX5_mixOf_3 : decode cX5_mixOf 3 = .ok (.istore 4, 2) := by decide +kernel
theorem dX5_mixOf_5 : decode cX5_mixOf 5 = .ok (.iload 4, 2) := by decide +kernel
theorem dX5_mixOf_7 : decode cX5_mixOf 7 = .ok (.bipush 11, 2) := by decide +kernel
theorem dX5_mixOf_9 : decode cX5_mixOf 9 = .ok (.if_icmp .ge 41, 3) := by decide +kernel
theorem dX5_mixOf_12 : decode cX5_mixOf 12 = .ok (.aload_n 0, 1) := by decide +kernel
theorem dX5_mixOf_13 : decode cX5_mixOf 13 = .ok (.getfield 9, 3) := by decide +kernel
theorem dX5_mixOf_16 : decode cX5_mixOf 16 = .ok (.iload 4, 2) := by decide +kernel
theorem dX5_mixOf_18 : decode cX5_mixOf 18 = .ok (.iaload, 1) := by decide +kernel
theorem dX5_mixOf_19 : decode cX5_mixOf 19 = .ok (.ifCond .eq 25, 3) := by decide +kernel
theorem dX5_mixOf_22 : decode cX5_mixOf 22 = .ok (.lload_n 2, 1) := by decide +kernel
theorem dX5_mixOf_23 : decode cX5_mixOf 23 = .ok (.aload_n 0, 1) := by decide +kernel
theorem dX5_mixOf_24 : decode cX5_mixOf 24 = .ok (.getfield 9, 3) := by decide +kernel
theorem dX5_mixOf_27 : decode cX5_mixOf 27 = .ok (.iload 4, 2) := by decide +kernel
theorem dX5_mixOf_29 : decode cX5_mixOf 29 = .ok (.iaload, 1) := by decide +kernel
theorem dX5_mixOf_30 : decode cX5_mixOf 30 = .ok (.i2l, 1) := by decide +kernel
theorem dX5_mixOf_31 : decode cX5_mixOf 31 = .ok (.aload_n 0, 1) := by decide +kernel
theorem dX5_mixOf_32 : decode cX5_mixOf 32 = .ok (.getfield 15, 3) := by decide +kernel
theorem dX5_mixOf_35 : decode cX5_mixOf 35 = .ok (.iload 4, 2) := by decide +kernel
theorem dX5_mixOf_37 : decode cX5_mixOf 37 = .ok (.iload_n 1, 1) := by decide +kernel
theorem dX5_mixOf_38 : decode cX5_mixOf 38 = .ok (.invokevirtual 25, 3) := by decide +kernel
theorem dX5_mixOf_41 : decode cX5_mixOf 41 = .ok (.lmul, 1) := by decide +kernel
theorem dX5_mixOf_42 : decode cX5_mixOf 42 = .ok (.ladd, 1) := by decide +kernel
theorem dX5_mixOf_43 : decode cX5_mixOf 43 = .ok (.lstore_n 2, 1) := by decide +kernel
theorem dX5_mixOf_44 : decode cX5_mixOf 44 = .ok (.iinc 4 1, 3) := by decide +kernel
theorem dX5_mixOf_47 : decode cX5_mixOf 47 = .ok (.goto (-42), 3) := by decide +kernel
theorem dX5_mixOf_50 : decode cX5_mixOf 50 = .ok (.lload_n 2, 1) := by decide +kernel
theorem dX5_mixOf_51 : decode cX5_mixOf 51 = .ok (.lreturn, 1) := by decide +kernel
theorem dX6_init_0 : decode cX6_init 0 = .ok (.aload_n 0, 1) := by decide +kernel
theorem dX6_init_1 : decode cX6_init 1 = .ok (.invokespecial 3, 3) := by decide +kernel
theorem dX6_init_4 : decode cX6_init 4 = .ok (.aload_n 0, 1) := by decide +kernel
theorem dX6_init_5 : decode cX6_init 5 = .ok (.sipush 132, 3) := by decide +kernel
theorem dX6_init_8 : decode cX6_init 8 = .ok (.newarray .int, 2) := by decide +kernel
theorem dX6_init_10 : decode cX6_init 10 = .ok (.putfield 9, 3) := by decide +kernel
theorem dX6_init_13 : decode cX6_init 13 = .ok (.aload_n 0, 1) := by decide +kernel
theorem dX6_init_14 : decode cX6_init 14 = .ok (.sipush 132, 3) := by decide +kernel
theorem dX6_init_17 : decode cX6_init 17 = .ok (.newarray .int, 2) := by decide +kernel
theorem dX6_init_19 : decode cX6_init 19 = .ok (.putfield 15, 3) := by decide +kernel
theorem dX6_init_22 : decode cX6_init 22 = .ok (.aload_n 0, 1) := by decide +kernel
theorem dX6_init_23 : decode cX6_init 23 = .ok (.sipush 132, 3) := by decide +kernel
theorem dX6_init_26 : decode cX6_init 26 = .ok (.newarray .int, 2) := by decide +kernel
theorem dX6_init_28 : decode cX6_init 28 = .ok (.putfield 18, 3) := by decide +kernel
theorem dX6_init_31 : decode cX6_init 31 = .ok (.aload_n 0, 1) := by decide +kernel
theorem dX6_init_32 : decode cX6_init 32 = .ok (.sipush 132, 3) := by decide +kernel
theorem dX6_init_35 : decode cX6_init 35 = .ok (.newarray .int, 2) := by decide +kernel
theorem dX6_init_37 : decode cX6_init 37 = .ok (.putfield 21, 3) := by decide +kernel
theorem dX6_init_40 : decode cX6_init 40 = .ok (.aload_n 0, 1) := by decide +kernel
theorem dX6_init_41 : decode cX6_init 41 = .ok (.sipush 132, 3) := by decide +kernel
theorem dX6_init_44 : decode cX6_init 44 = .ok (.newarray .int, 2) := by decide +kernel
theorem dX6_init_46 : decode cX6_init 46 = .ok (.putfield 24, 3) := by decide +kernel
theorem dX6_init_49 : decode cX6_init 49 = .ok (.aload_n 0, 1) := by decide +kernel
theorem dX6_init_50 : decode cX6_init 50 = .ok (.sipush 144, 3) := by decide +kernel
theorem dX6_init_53 : decode cX6_init 53 = .ok (.newarray .int, 2) := by decide +kernel
theorem dX6_init_55 : decode cX6_init 55 = .ok (.putfield 27, 3) := by decide +kernel
theorem dX6_init_58 : decode cX6_init 58 = .ok (.aload_n 0, 1) := by decide +kernel
theorem dX6_init_59 : decode cX6_init 59 = .ok (.bipush 12, 2) := by decide +kernel
theorem dX6_init_61 : decode cX6_init 61 = .ok (.newarray .int, 2) := by decide +kernel
theorem dX6_init_63 : decode cX6_init 63 = .ok (.putfield 30, 3) := by decide +kernel
theorem dX6_init_66 : decode cX6_init 66 = .ok (.aload_n 0, 1) := by decide +kernel
theorem dX6_init_67 : decode cX6_init 67 = .ok (.bipush 12, 2) := by decide +kernel
theorem dX6_init_69 : decode cX6_init 69 = .ok (.newarray .int, 2) := by decide +kernel
theorem dX6_init_71 : decode cX6_init 71 = .ok (.putfield 33, 3) := by decide +kernel
theorem dX6_init_74 : decode cX6_init 74 = .ok (.aload_n 0, 1) := by decide +kernel
theorem dX6_init_75 : decode cX6_init 75 = .ok (.bipush 12, 2) := by decide +kernel
theorem dX6_init_77 : decode cX6_init 77 = .ok (.newarray .int, 2) := by decide +kernel
theorem dX6_init_79 : decode cX6_init 79 = .ok (.putfield 36, 3) := by decide +kernel
theorem dX6_init_82 : decode cX6_init 82 = .ok (.return_, 1) := by decide +kernel
set_option maxRecDepth 20000 in
theorem ggX6_lay_J7_fill_53178 : GoodIn wsX6_lay wsJ7_fill_53178 := goodIn_r _ [13] (by decide +kernel) (by decide +kernel)
set_option maxRecDepth 20000 in
theorem gX6_lay_J7_fill_53178 : GoodIn wsX6_lay (va_wsS RX6 52 yJ7_fill_53178 wsJ7_fill_53178) := goodIn_app (goodIn_of _ (by decide +kernel)) ggX6_lay_J7_fill_53178
set_option maxRecDepth 20000 in
theorem ggX6_lay_X6_makesPair : GoodIn wsX6_lay wsX6_makesPair := goodIn_r _ [18, 2, 1, 25, 26, 27, 28, 29, 30, 31, 32, 33, 34, 35, 36, 37] (by decide +kernel) (by decide +kernel)
set_option maxRecDepth 20000 in
theorem gX6_lay_X6_makesPair : GoodIn wsX6_lay (wsV RX6 58 RX6 yX6_makesPair wsX6_makesPair) := goodIn_app (goodIn_of _ (by decide +kernel)) ggX6_lay_X6_makesPair
set_option maxRecDepth 20000 in
theorem ggX6_lay_X6_addPair : GoodIn wsX6_lay wsX6_addPair := goodIn_r _ [22, 23, 3, 24, 6, 2, 25, 26, 27, 28, 29, 30, 31, 32, 33, 34, 35, 36, 37] (by decide +kernel) (by decide +kernel)
set_option maxRecDepth 20000 in
theorem gX6_lay_X6_addPair : GoodIn wsX6_lay (wsV RX6 62 RX6 yX6_addPair wsX6_addPair) := goodIn_app (goodIn_of _ (by decide +kernel)) ggX6_lay_X6_addPair
theorem dX6_lay_0 : decode cX6_lay 0 = .ok (.aload_n 0, 1) := by decide +kernel
theorem dX6_lay_1 : decode cX6_lay 1 = .ok (.iload_n 1, 1) := by decide +kernel
theorem dX6_lay_2 : decode cX6_lay 2 = .ok (.putfield 39, 3) := by decide +kernel
theorem dX6_lay_5 : decode cX6_lay 5 = .ok (.aload_n 0, 1) := by decide +kernel
theorem dX6_lay_6 : decode cX6_lay 6 = .ok (.iload_n 2, 1) := by decide +kernel
theorem dX6_lay_7 : decode cX6_lay 7 = .ok (.putfield 43, 3) := by decide +kernel
theorem dX6_lay_10 : decode cX6_lay 10 = .ok (.aload_n 0, 1) := by decide +kernel
theorem dX6_lay_11 : decode cX6_lay 11 = .ok (.iconst 0, 1) := by decide +kernel
theorem dX6_lay_12 : decode cX6_lay 12 = .ok (.putfield 46, 3) := by decide +kernel
theorem dX6_lay_15 : decode cX6_lay 15 = .ok (.aload_n 0, 1) := by decide +kernel
theorem dX6_lay_16 : decode cX6_lay 16 = .ok (.iconst 0, 1) := by decide +kernel
theorem dX6_lay_17 : decode cX6_lay 17 = .ok (.putfield 49, 3) := by decide +kernel
theorem dX6_lay_20 : decode cX6_lay 20 = .ok (.aload_n 0, 1) := by decide +kernel
theorem dX6_lay_21 : decode cX6_lay 21 = .ok (.getfield 18, 3) := by decide +kernel
theorem dX6_lay_24 : decode cX6_lay 24 = .ok (.iconst 0, 1) := by decide +kernel
theorem dX6_lay_25 : decode cX6_lay 25 = .ok (.invokestatic 52, 3) := by decide +kernel
theorem dX6_lay_28 : decode cX6_lay 28 = .ok (.aload_n 0, 1) := by decide +kernel
theorem dX6_lay_29 : decode cX6_lay 29 = .ok (.getfield 27, 3) := by decide +kernel
theorem dX6_lay_32 : decode cX6_lay 32 = .ok (.iconst (-1), 1) := by decide +kernel
theorem dX6_lay_33 : decode cX6_lay 33 = .ok (.invokestatic 52, 3) := by decide +kernel
theorem dX6_lay_36 : decode cX6_lay 36 = .ok (.aload_n 0, 1) := by decide +kernel
theorem dX6_lay_37 : decode cX6_lay 37 = .ok (.getfield 30, 3) := by decide +kernel
theorem dX6_lay_40 : decode cX6_lay 40 = .ok (.iconst 0, 1) := by decide +kernel
theorem dX6_lay_41 : decode cX6_lay 41 = .ok (.invokestatic 52, 3) := by decide +kernel
theorem dX6_lay_44 : decode cX6_lay 44 = .ok (.aload_n 0, 1) := by decide +kernel
theorem dX6_lay_45 : decode cX6_lay 45 = .ok (.getfield 33, 3) := by decide +kernel
theorem dX6_lay_48 : decode cX6_lay 48 = .ok (.iconst 0, 1) := by decide +kernel
theorem dX6_lay_49 : decode cX6_lay 49 = .ok (.invokestatic 52, 3) := by decide +kernel
theorem dX6_lay_52 : decode cX6_lay 52 = .ok (.aload_n 0, 1) := by decide +kernel
theorem dX6_lay_53 : decode cX6_lay 53 = .ok (.getfield 36, 3) := by decide +kernel
theorem dX6_lay_56 : decode cX6_lay 56 = .ok (.iconst 0, 1) := by decide +kernel
theorem dX6_lay_57 : decode cX6_lay 57 = .ok (.invokestatic 52, 3) := by decide +kernel
theorem dX6_lay_60 : decode cX6_lay 60 = .ok (.iconst 0, 1) := by decide +kernel
theorem dX6_lay_61 : decode cX6_lay 61 = .ok (.istore_n 3, 1) := by decide +kernel
theorem dX6_lay_62 : decode cX6_lay 62 = .ok (.iload_n 3, 1) := by decide +kernel
theorem dX6_lay_63 : decode cX6_lay 63 = .ok (.iload_n 1, 1) := by decide +kernel
theorem dX6_lay_64 : decode cX6_lay 64 = .ok (.if_icmp .ge 41, 3) := by decide +kernel
theorem dX6_lay_67 : decode cX6_lay 67 = .ok (.iconst 0, 1) := by decide +kernel
theorem dX6_lay_68 : decode cX6_lay 68 = .ok (.istore 4, 2) := by decide +kernel
theorem dX6_lay_70 : decode cX6_lay 70 = .ok (.iload 4, 2) := by decide +kernel
theorem dX6_lay_72 : decode cX6_lay 72 = .ok (.iload_n 1, 1) := by decide +kernel
theorem dX6_lay_73 : decode cX6_lay 73 = .ok (.if_icmp .ge 26, 3) := by decide +kernel
theorem dX6_lay_76 : decode cX6_lay 76 = .ok (.aload_n 0, 1) := by decide +kernel
theorem dX6_lay_77 : decode cX6_lay 77 = .ok (.iload_n 3, 1) := by decide +kernel
theorem dX6_lay_78 : decode cX6_lay 78 = .ok (.iload 4, 2) := by decide +kernel
theorem dX6_lay_80 : decode cX6_lay 80 = .ok (.invokevirtual 58, 3) := by decide +kernel
theorem dX6_lay_83 : decode cX6_lay 83 = .ok (.ifCond .eq 10, 3) := by decide +kernel
theorem dX6_lay_86 : decode cX6_lay 86 = .ok (.aload_n 0, 1) := by decide +kernel
theorem dX6_lay_87 : decode cX6_lay 87 = .ok (.iload_n 3, 1) := by decide +kernel
theorem dX6_lay_88 : decode cX6_lay 88 = .ok (.iload 4, 2) := by decide +kernel
theorem dX6_lay_90 : decode cX6_lay 90 = .ok (.invokevirtual 62, 3) := by decide +kernel
theorem dX6_lay_93 : decode cX6_lay 93 = .ok (.iinc 4 1, 3) := by decide +kernel
theorem dX6_lay_96 : decode cX6_lay 96 = .ok (.goto (-26), 3) := by decide +kernel
theorem dX6_lay_99 : decode cX6_lay 99 = .ok (.iinc 3 1, 3) := by decide +kernel
theorem dX6_lay_102 : decode cX6_lay 102 = .ok (.goto (-40), 3) := by decide +kernel
theorem dX6_lay_105 : decode cX6_lay 105 = .ok (.return_, 1) := by decide +kernel
theorem dX6_makesPair_0 : decode cX6_makesPair 0 = .ok (.aload_n 0, 1) := by decide +kernel
theorem dX6_makesPair_1 : decode cX6_makesPair 1 = .ok (.getfield 43, 3) := by decide +kernel
theorem dX6_makesPair_4 : decode cX6_makesPair 4 = .ok (.iconst 1, 1) := by decide +kernel
theorem dX6_makesPair_5 : decode cX6_makesPair 5 = .ok (.if_icmp .ne 14, 3) := by decide +kernel
theorem dX6_makesPair_8 : decode cX6_makesPair 8 = .ok (.iload_n 1, 1) := by decide +kernel
theorem dX6_makesPair_9 : decode cX6_makesPair 9 = .ok (.iload_n 2, 1) := by decide +kernel
theorem dX6_makesPair_10 : decode cX6_makesPair 10 = .ok (.if_icmp .eq 7, 3) := by decide +kernel
theorem dX6_makesPair_13 : decode cX6_makesPair 13 = .ok (.iconst 1, 1) := by decide +kernel
theorem dX6_makesPair_14 : decode cX6_makesPair 14 = .ok (.goto 4, 3) := by decide +kernel
theorem dX6_makesPair_17 : decode cX6_makesPair 17 = .ok (.iconst 0, 1) := by decide +kernel
theorem dX6_makesPair_18 : decode cX6_makesPair 18 = .ok (.ireturn, 1) := by decide +kernel
theorem dX6_makesPair_19 : decode cX6_makesPair 19 = .ok (.aload_n 0, 1) := by decide +kernel
theorem dX6_makesPair_20 : decode cX6_makesPair 20 = .ok (.getfield 43, 3) := by decide +kernel
theorem dX6_makesPair_23 : decode cX6_makesPair 23 = .ok (.iconst 2, 1) := by decide +kernel
theorem dX6_makesPair_24 : decode cX6_makesPair 24 = .ok (.if_icmp .ne 29, 3) := by decide +kernel
theorem dX6_makesPair_27 : decode cX6_makesPair 27 = .ok (.iload_n 1, 1) := by decide +kernel
theorem dX6_makesPair_28 : decode cX6_makesPair 28 = .ok (.aload_n 0, 1) := by decide +kernel
theorem dX6_makesPair_29 : decode cX6_makesPair 29 = .ok (.getfield 39, 3) := by decide +kernel
theorem dX6_makesPair_32 : decode cX6_makesPair 32 = .ok (.iconst 2, 1) := by decide +kernel
theorem dX6_makesPair_33 : decode cX6_makesPair 33 = .ok (.idiv, 1) := by decide +kernel
theorem dX6_makesPair_34 : decode cX6_makesPair 34 = .ok (.if_icmp .ge 17, 3) := by decide +kernel
theorem dX6_makesPair_37 : decode cX6_makesPair 37 = .ok (.iload_n 2, 1) := by decide +kernel
theorem dX6_makesPair_38 : decode cX6_makesPair 38 = .ok (.aload_n 0, 1) := by decide +kernel
theorem dX6_makesPair_39 : decode cX6_makesPair 39 = .ok (.getfield 39, 3) := by decide +kernel
theorem dX6_makesPair_42 : decode cX6_makesPair 42 = .ok (.iconst 2, 1) := by decide +kernel
theorem dX6_makesPair_43 : decode cX6_makesPair 43 = .ok (.idiv, 1) := by decide +kernel
theorem dX6_makesPair_44 : decode cX6_makesPair 44 = .ok (.if_icmp .lt 7, 3) := by decide +kernel
theorem dX6_makesPair_47 : decode cX6_makesPair 47 = .ok (.iconst 1, 1) := by decide +kernel
theorem dX6_makesPair_48 : decode cX6_makesPair 48 = .ok (.goto 4, 3) := by decide +kernel
theorem dX6_makesPair_51 : decode cX6_makesPair 51 = .ok (.iconst 0, 1) := by decide +kernel
theorem dX6_makesPair_52 : decode cX6_makesPair 52 = .ok (.ireturn, 1) := by decide +kernel
theorem dX6_makesPair_53 : decode cX6_makesPair 53 = .ok (.iload_n 1, 1) := by decide +kernel
theorem dX6_makesPair_54 : decode cX6_makesPair 54 = .ok (.iload_n 2, 1) := by decide +kernel
theorem dX6_makesPair_55 : decode cX6_makesPair 55 = .ok (.if_icmp .ge 7, 3) := by decide +kernel
theorem dX6_makesPair_58 : decode cX6_makesPair 58 = .ok (.iconst 1, 1) := by decide +kernel
theorem dX6_makesPair_59 : decode cX6_makesPair 59 = .ok (.goto 4, 3) := by decide +kernel
theorem dX6_makesPair_62 : decode cX6_makesPair 62 = .ok (.iconst 0, 1) := by decide +kernel
theorem dX6_makesPair_63 : decode cX6_makesPair 63 = .ok (.ireturn, 1) := by decide +kernel
theorem dX6_addPair_0 : decode cX6_addPair 0 = .ok (.aload_n 0, 1) := by decide +kernel
theorem dX6_addPair_1 : decode cX6_addPair 1 = .ok (.getfield 9, 3) := by decide +kernel
theorem dX6_addPair_4 : decode cX6_addPair 4 = .ok (.aload_n 0, 1) := by decide +kernel
theorem dX6_addPair_5 : decode cX6_addPair 5 = .ok (.getfield 46, 3) := by decide +kernel
theorem dX6_addPair_8 : decode cX6_addPair 8 = .ok (.iload_n 1, 1) := by decide +kernel
theorem dX6_addPair_9 : decode cX6_addPair 9 = .ok (.iastore, 1) := by decide +kernel
theorem dX6_addPair_10 : decode cX6_addPair 10 = .ok (.aload_n 0, 1) := by decide +kernel
theorem dX6_addPair_11 : decode cX6_addPair 11 = .ok (.getfield 15, 3) := by decide +kernel
theorem dX6_addPair_14 : decode cX6_addPair 14 = .ok (.aload_n 0, 1) := by decide +kernel
theorem dX6_addPair_15 : decode cX6_addPair 15 = .ok (.getfield 46, 3) := by decide +kernel
theorem dX6_addPair_18 : decode cX6_addPair 18 = .ok (.iload_n 2, 1) := by decide +kernel
theorem dX6_addPair_19 : decode cX6_addPair 19 = .ok (.iastore, 1) := by decide +kernel
theorem dX6_addPair_20 : decode cX6_addPair 20 = .ok (.aload_n 0, 1) := by decide +kernel
theorem dX6_addPair_21 : decode cX6_addPair 21 = .ok (.getfield 27, 3) := by decide +kernel
theorem dX6_addPair_24 : decode cX6_addPair 24 = .ok (.bipush 12, 2) := by decide +kernel
theorem dX6_addPair_26 : decode cX6_addPair 26 = .ok (.iload_n 1, 1) := by decide +kernel
theorem dX6_addPair_27 : decode cX6_addPair 27 = .ok (.imul, 1) := by decide +kernel
theorem dX6_addPair_28 : decode cX6_addPair 28 = .ok (.iload_n 2, 1) := by decide +kernel
theorem dX6_addPair_29 : decode cX6_addPair 29 = .ok (.iadd, 1) := by decide +kernel
theorem dX6_addPair_30 : decode cX6_addPair 30 = .ok (.aload_n 0, 1) := by decide +kernel
theorem dX6_addPair_31 : decode cX6_addPair 31 = .ok (.getfield 46, 3) := by decide +kernel
theorem dX6_addPair_34 : decode cX6_addPair 34 = .ok (.iastore, 1) := by decide +kernel
theorem dX6_addPair_35 : decode cX6_addPair 35 = .ok (.aload_n 0, 1) := by decide +kernel
theorem dX6_addPair_36 : decode cX6_addPair 36 = .ok (.getfield 43, 3) := by decide +kernel
theorem dX6_addPair_39 : decode cX6_addPair 39 = .ok (.iconst 1, 1) := by decide +kernel
theorem dX6_addPair_40 : decode cX6_addPair 40 = .ok (.if_icmp .eq 18, 3) := by decide +kernel
theorem dX6_addPair_43 : decode cX6_addPair 43 = .ok (.aload_n 0, 1) := by decide +kernel
theorem dX6_addPair_44 : decode cX6_addPair 44 = .ok (.getfield 27, 3) := by decide +kernel
theorem dX6_addPair_47 : decode cX6_addPair 47 = .ok (.bipush 12, 2) := by decide +kernel
theorem dX6_addPair_49 : decode cX6_addPair 49 = .ok (.iload_n 2, 1) := by decide +kernel
theorem dX6_addPair_50 : decode cX6_addPair 50 = .ok (.imul, 1) := by decide +kernel
theorem dX6_addPair_51 : decode cX6_addPair 51 = .ok (.iload_n 1, 1) := by decide +kernel
theorem dX6_addPair_52 : decode cX6_addPair 52 = .ok (.iadd, 1) := by decide +kernel
theorem dX6_addPair_53 : decode cX6_addPair 53 = .ok (.aload_n 0, 1) := by decide +kernel
theorem dX6_addPair_54 : decode cX6_addPair 54 = .ok (.getfield 46, 3) := by decide +kernel
theorem dX6_addPair_57 : decode cX6_addPair 57 = .ok (.iastore, 1) := by decide +kernel
theorem dX6_addPair_58 : decode cX6_addPair 58 = .ok (.aload_n 0, 1) := by decide +kernel
theorem dX6_addPair_59 : decode cX6_addPair 59 = .ok (.dup, 1) := by decide +kernel
theorem dX6_addPair_60 : decode cX6_addPair 60 = .ok (.getfield 46, 3) := by decide +kernel
theorem dX6_addPair_63 : decode cX6_addPair 63 = .ok (.iconst 1, 1) := by decide +kernel
theorem dX6_addPair_64 : decode cX6_addPair 64 = .ok (.iadd, 1) := by decide +kernel
theorem dX6_addPair_65 : decode cX6_addPair 65 = .ok (.putfield 46, 3) := by decide +kernel
theorem dX6_addPair_68 : decode cX6_addPair 68 = .ok (.return_, 1) := by decide +kernel
theorem dX6_isNode_0 : decode cX6_isNode 0 = .ok (.iload_n 1, 1) := by decide +kernel
theorem dX6_isNode_1 : decode cX6_isNode 1 = .ok (.ifCond .lt 15, 3) := by decide +kernel
theorem dX6_isNode_4 : decode cX6_isNode 4 = .ok (.iload_n 1, 1) := by decide +kernel
theorem dX6_isNode_5 : decode cX6_isNode 5 = .ok (.aload_n 0, 1) := by decide +kernel
theorem dX6_isNode_6 : decode cX6_isNode 6 = .ok (.getfield 39, 3) := by decide +kernel
theorem dX6_isNode_9 : decode cX6_isNode 9 = .ok (.if_icmp .ge 7, 3) := by decide +kernel
theorem dX6_isNode_12 : decode cX6_isNode 12 = .ok (.iconst 1, 1) := by decide +kernel
theorem dX6_isNode_13 : decode cX6_isNode 13 = .ok (.goto 4, 3) := by decide +kernel
theorem dX6_isNode_16 : decode cX6_isNode 16 = .ok (.iconst 0, 1) := by decide +kernel
theorem dX6_isNode_17 : decode cX6_isNode 17 = .ok (.ireturn, 1) := by decide +kernel
set_option maxRecDepth 20000 in
theorem ggX6_pairFor_X6_isNode : GoodIn wsX6_pairFor wsX6_isNode := goodIn_r _ [6, 7, 8, 9, 10, 11, 12, 13, 14, 15, 16, 17, 18, 19, 20] (by decide +kernel) (by decide +kernel)
set_option maxRecDepth 20000 in
theorem gX6_pairFor_X6_isNode : GoodIn wsX6_pairFor (wsV RX6 66 RX6 yX6_isNode wsX6_isNode) := goodIn_app (goodIn_of _ (by decide +kernel)) ggX6_pairFor_X6_isNode
theorem dX6_pairFor_0 : decode cX6_pairFor 0 = .ok (.aload_n 0, 1) := by decide +kernel
theorem dX6_pairFor_1 : decode cX6_pairFor 1 = .ok (.iload_n 1, 1) := by decide +kernel
theorem dX6_pairFor_2 : decode cX6_pairFor 2 = .ok (.invokevirtual 66, 3) := by decide +kernel
theorem dX6_pairFor_5 : decode cX6_pairFor 5 = .ok (.ifCond .eq 11, 3) := by decide +kernel
theorem dX6_pairFor_8 : decode cX6_pairFor 8 = .ok (.aload_n 0, 1) := by decide +kernel
theorem dX6_pairFor_9 : decode cX6_pairFor 9 = .ok (.iload_n 2, 1) := by decide +kernel
theorem dX6_pairFor_10 : decode cX6_pairFor 10 = .ok (.invokevirtual 66, 3) := by decide +kernel
theorem dX6_pairFor_13 : decode cX6_pairFor 13 = .ok (.ifCond .ne 5, 3) := by decide +kernel
theorem dX6_pairFor_16 : decode cX6_pairFor 16 = .ok (.iconst (-1), 1) := by decide +kernel
theorem dX6_pairFor_17 : decode cX6_pairFor 17 = .ok (.ireturn, 1) := by decide +kernel
theorem dX6_pairFor_18 : decode cX6_pairFor 18 = .ok (.aload_n 0, 1) := by decide +kernel
theorem dX6_pairFor_19 : decode cX6_pairFor 19 = .ok (.getfield 27, 3) := by decide +kernel
theorem dX6_pairFor_22 : decode cX6_pairFor 22 = .ok (.bipush 12, 2) := by decide +kernel
theorem dX6_pairFor_24 : decode cX6_pairFor 24 = .ok (.iload_n 1, 1) := by decide +kernel
theorem dX6_pairFor_25 : decode cX6_pairFor 25 = .ok (.imul, 1) := by decide +kernel
theorem dX6_pairFor_26 : decode cX6_pairFor 26 = .ok (.iload_n 2, 1) := by decide +kernel
theorem dX6_pairFor_27 : decode cX6_pairFor 27 = .ok (.iadd, 1) := by decide +kernel
theorem dX6_pairFor_28 : decode cX6_pairFor 28 = .ok (.iaload, 1) := by decide +kernel
theorem dX6_pairFor_29 : decode cX6_pairFor 29 = .ok (.ireturn, 1) := by decide +kernel
set_option maxRecDepth 20000 in
theorem ggX6_addArc_X6_setHidden : GoodIn wsX6_addArc wsX6_setHidden := goodIn_r _ [8, 9, 10, 11, 12, 13, 14, 15, 7, 16, 17, 18, 19, 20, 21, 22, 23, 24, 25, 26, 27, 28, 29, 30, 31] (by decide +kernel) (by decide +kernel)
set_option maxRecDepth 20000 in
theorem gX6_addArc_X6_setHidden : GoodIn wsX6_addArc (wsV RX6 70 RX6 yX6_setHidden wsX6_setHidden) := goodIn_app (goodIn_of _ (by decide +kernel)) ggX6_addArc_X6_setHidden
theorem dX6_addArc_0 : decode cX6_addArc 0 = .ok (.aload_n 0, 1) := by decide +kernel
theorem dX6_addArc_1 : decode cX6_addArc 1 = .ok (.getfield 24, 3) := by decide +kernel
theorem dX6_addArc_4 : decode cX6_addArc 4 = .ok (.aload_n 0, 1) := by decide +kernel
theorem dX6_addArc_5 : decode cX6_addArc 5 = .ok (.getfield 49, 3) := by decide +kernel
theorem dX6_addArc_8 : decode cX6_addArc 8 = .ok (.iload_n 1, 1) := by decide +kernel
theorem dX6_addArc_9 : decode cX6_addArc 9 = .ok (.iastore, 1) := by decide +kernel
theorem dX6_addArc_10 : decode cX6_addArc 10 = .ok (.aload_n 0, 1) := by decide +kernel
theorem dX6_addArc_11 : decode cX6_addArc 11 = .ok (.dup, 1) := by decide +kernel
theorem dX6_addArc_12 : decode cX6_addArc 12 = .ok (.getfield 49, 3) := by decide +kernel
theorem dX6_addArc_15 : decode cX6_addArc 15 = .ok (.iconst 1, 1) := by decide +kernel
theorem dX6_addArc_16 : decode cX6_addArc 16 = .ok (.iadd, 1) := by decide +kernel
theorem dX6_addArc_17 : decode cX6_addArc 17 = .ok (.putfield 49, 3) := by decide +kernel
theorem dX6_addArc_20 : decode cX6_addArc 20 = .ok (.aload_n 0, 1) := by decide +kernel
theorem dX6_addArc_21 : decode cX6_addArc 21 = .ok (.getfield 21, 3) := by decide +kernel
theorem dX6_addArc_24 : decode cX6_addArc 24 = .ok (.iload_n 1, 1) := by decide +kernel
theorem dX6_addArc_25 : decode cX6_addArc 25 = .ok (.iload_n 2, 1) := by decide +kernel
theorem dX6_addArc_26 : decode cX6_addArc 26 = .ok (.iastore, 1) := by decide +kernel
theorem dX6_addArc_27 : decode cX6_addArc 27 = .ok (.aload_n 0, 1) := by decide +kernel
theorem dX6_addArc_28 : decode cX6_addArc 28 = .ok (.iload_n 1, 1) := by decide +kernel
theorem dX6_addArc_29 : decode cX6_addArc 29 = .ok (.iconst 0, 1) := by decide +kernel
theorem dX6_addArc_30 : decode cX6_addArc 30 = .ok (.invokevirtual 70, 3) := by decide +kernel
theorem dX6_addArc_33 : decode cX6_addArc 33 = .ok (.return_, 1) := by decide +kernel
set_option maxRecDepth 20000 in
theorem ggX6_setHidden_X6_setLeads : GoodIn wsX6_setHidden wsX6_setLeads := goodIn_r _ [9, 10, 11, 12, 13, 14, 15, 16, 17, 18, 19, 20, 21, 22, 23, 24] (by decide +kernel) (by decide +kernel)
set_option maxRecDepth 20000 in
theorem gX6_setHidden_X6_setLeads : GoodIn wsX6_setHidden (wsV RX6 74 RX6 yX6_setLeads wsX6_setLeads) := goodIn_app (goodIn_of _ (by decide +kernel)) ggX6_setHidden_X6_setLeads
theorem dX6_setHidden_0 : decode cX6_setHidden 0 = .ok (.aload_n 0, 1) := by decide +kernel
theorem dX6_setHidden_1 : decode cX6_setHidden 1 = .ok (.getfield 9, 3) := by decide +kernel
theorem dX6_setHidden_4 : decode cX6_setHidden 4 = .ok (.iload_n 1, 1) := by decide +kernel
theorem dX6_setHidden_5 : decode cX6_setHidden 5 = .ok (.iaload, 1) := by decide +kernel
theorem dX6_setHidden_6 : decode cX6_setHidden 6 = .ok (.istore_n 3, 1) := by decide +kernel
theorem dX6_setHidden_7 : decode cX6_setHidden 7 = .ok (.aload_n 0, 1) := by decide +kernel
theorem dX6_setHidden_8 : decode cX6_setHidden 8 = .ok (.getfield 15, 3) := by decide +kernel
theorem dX6_setHidden_11 : decode cX6_setHidden 11 = .ok (.iload_n 1, 1) := by decide +kernel
theorem dX6_setHidden_12 : decode cX6_setHidden 12 = .ok (.iaload, 1) := by decide +kernel
theorem dX6_setHidden_13 : decode cX6_setHidden 13 = .ok (.istore 4, 2) := by decide +kernel
theorem dX6_setHidden_15 : decode cX6_setHidden 15 = .ok (.aload_n 0, 1) := by decide +kernel
theorem dX6_setHidden_16 : decode cX6_setHidden 16 = .ok (.getfield 18, 3) := by decide +kernel
theorem dX6_setHidden_19 : decode cX6_setHidden 19 = .ok (.iload_n 1, 1) := by decide +kernel
theorem dX6_setHidden_20 : decode cX6_setHidden 20 = .ok (.iload_n 2, 1) := by decide +kernel
theorem dX6_setHidden_21 : decode cX6_setHidden 21 = .ok (.ifCond .eq 7, 3) := by decide +kernel
theorem dX6_setHidden_24 : decode cX6_setHidden 24 = .ok (.iconst 2, 1) := by decide +kernel
theorem dX6_setHidden_25 : decode cX6_setHidden 25 = .ok (.goto 4, 3) := by decide +kernel
theorem dX6_setHidden_28 : decode cX6_setHidden 28 = .ok (.iconst 1, 1) := by decide +kernel
theorem dX6_setHidden_29 : decode cX6_setHidden 29 = .ok (.iastore, 1) := by decide +kernel
theorem dX6_setHidden_30 : decode cX6_setHidden 30 = .ok (.aload_n 0, 1) := by decide +kernel
theorem dX6_setHidden_31 : decode cX6_setHidden 31 = .ok (.iload_n 3, 1) := by decide +kernel
theorem dX6_setHidden_32 : decode cX6_setHidden 32 = .ok (.iload 4, 2) := by decide +kernel
theorem dX6_setHidden_34 : decode cX6_setHidden 34 = .ok (.iload_n 2, 1) := by decide +kernel
theorem dX6_setHidden_35 : decode cX6_setHidden 35 = .ok (.ifCond .ne 7, 3) := by decide +kernel
theorem dX6_setHidden_38 : decode cX6_setHidden 38 = .ok (.iconst 1, 1) := by decide +kernel
theorem dX6_setHidden_39 : decode cX6_setHidden 39 = .ok (.goto 4, 3) := by decide +kernel
theorem dX6_setHidden_42 : decode cX6_setHidden 42 = .ok (.iconst 0, 1) := by decide +kernel
theorem dX6_setHidden_43 : decode cX6_setHidden 43 = .ok (.invokevirtual 74, 3) := by decide +kernel
theorem dX6_setHidden_46 : decode cX6_setHidden 46 = .ok (.aload_n 0, 1) := by decide +kernel
theorem dX6_setHidden_47 : decode cX6_setHidden 47 = .ok (.getfield 43, 3) := by decide +kernel
theorem dX6_setHidden_50 : decode cX6_setHidden 50 = .ok (.iconst 1, 1) := by decide +kernel
theorem dX6_setHidden_51 : decode cX6_setHidden 51 = .ok (.if_icmp .eq 19, 3) := by decide +kernel
theorem dX6_setHidden_54 : decode cX6_setHidden 54 = .ok (.aload_n 0, 1) := by decide +kernel
theorem dX6_setHidden_55 : decode cX6_setHidden 55 = .ok (.iload 4, 2) := by decide +kernel
theorem dX6_setHidden_57 : decode cX6_setHidden 57 = .ok (.iload_n 3, 1) := by decide +kernel
theorem dX6_setHidden_58 : decode cX6_setHidden 58 = .ok (.iload_n 2, 1) := by decide +kernel
theorem dX6_setHidden_59 : decode cX6_setHidden 59 = .ok (.ifCond .ne 7, 3) := by decide +kernel
theorem dX6_setHidden_62 : decode cX6_setHidden 62 = .ok (.iconst 1, 1) := by decide +kernel
theorem dX6_setHidden_63 : decode cX6_setHidden 63 = .ok (.goto 4, 3) := by decide +kernel
theorem dX6_setHidden_66 : decode cX6_setHidden 66 = .ok (.iconst 0, 1) := by decide +kernel
theorem dX6_setHidden_67 : decode cX6_setHidden 67 = .ok (.invokevirtual 74, 3) := by decide +kernel
theorem dX6_setHidden_70 : decode cX6_setHidden 70 = .ok (.return_, 1) := by decide +kernel
theorem dX6_setLeads_0 : decode cX6_setLeads 0 = .ok (.aload_n 0, 1) := by decide +kernel
theorem dX6_setLeads_1 : decode cX6_setLeads 1 = .ok (.getfield 33, 3) := by decide +kernel
theorem dX6_setLeads_4 : decode cX6_setLeads 4 = .ok (.iload_n 1, 1) := by decide +kernel
theorem dX6_setLeads_5 : decode cX6_setLeads 5 = .ok (.iload_n 3, 1) := by decide +kernel
theorem dX6_setLeads_6 : decode cX6_setLeads 6 = .ok (.ifCond .eq 16, 3) := by decide +kernel
theorem dX6_setLeads_9 : decode cX6_setLeads 9 = .ok (.aload_n 0, 1) := by decide +kernel
theorem dX6_setLeads_10 : decode cX6_setLeads 10 = .ok (.getfield 33, 3) := by decide +kernel
theorem dX6_setLeads_13 : decode cX6_setLeads 13 = .ok (.iload_n 1, 1) := by decide +kernel
theorem dX6_setLeads_14 : decode cX6_setLeads 14 = .ok (.iaload, 1) := by decide +kernel
theorem dX6_setLeads_15 : decode cX6_setLeads 15 = .ok (.iconst 1, 1) := by decide +kernel
theorem dX6_setLeads_16 : decode cX6_setLeads 16 = .ok (.iload_n 2, 1) := by decide +kernel
theorem dX6_setLeads_17 : decode cX6_setLeads 17 = .ok (.ishl, 1) := by decide +kernel
theorem dX6_setLeads_18 : decode cX6_setLeads 18 = .ok (.ior, 1) := by decide +kernel
theorem dX6_setLeads_19 : decode cX6_setLeads 19 = .ok (.goto 15, 3) := by decide +kernel
theorem dX6_setLeads_22 : decode cX6_setLeads 22 = .ok (.aload_n 0, 1) := by decide +kernel
theorem dX6_setLeads_23 : decode cX6_setLeads 23 = .ok (.getfield 33, 3) := by decide +kernel
theorem dX6_setLeads_26 : decode cX6_setLeads 26 = .ok (.iload_n 1, 1) := by decide +kernel
theorem dX6_setLeads_27 : decode cX6_setLeads 27 = .ok (.iaload, 1) := by decide +kernel
theorem dX6_setLeads_28 : decode cX6_setLeads 28 = .ok (.iconst 1, 1) := by decide +kernel
theorem dX6_setLeads_29 : decode cX6_setLeads 29 = .ok (.iload_n 2, 1) := by decide +kernel
theorem dX6_setLeads_30 : decode cX6_setLeads 30 = .ok (.ishl, 1) := by decide +kernel
theorem dX6_setLeads_31 : decode cX6_setLeads 31 = .ok (.iconst (-1), 1) := by decide +kernel
theorem dX6_setLeads_32 : decode cX6_setLeads 32 = .ok (.ixor, 1) := by decide +kernel
theorem dX6_setLeads_33 : decode cX6_setLeads 33 = .ok (.iand, 1) := by decide +kernel
theorem dX6_setLeads_34 : decode cX6_setLeads 34 = .ok (.iastore, 1) := by decide +kernel
theorem dX6_setLeads_35 : decode cX6_setLeads 35 = .ok (.aload_n 0, 1) := by decide +kernel
theorem dX6_setLeads_36 : decode cX6_setLeads 36 = .ok (.getfield 36, 3) := by decide +kernel
theorem dX6_setLeads_39 : decode cX6_setLeads 39 = .ok (.iload_n 2, 1) := by decide +kernel
theorem dX6_setLeads_40 : decode cX6_setLeads 40 = .ok (.iload_n 3, 1) := by decide +kernel
theorem dX6_setLeads_41 : decode cX6_setLeads 41 = .ok (.ifCond .eq 16, 3) := by decide +kernel
theorem dX6_setLeads_44 : decode cX6_setLeads 44 = .ok (.aload_n 0, 1) := by decide +kernel
theorem dX6_setLeads_45 : decode cX6_setLeads 45 = .ok (.getfield 36, 3) := by decide +kernel
theorem dX6_setLeads_48 : decode cX6_setLeads 48 = .ok (.iload_n 2, 1) := by decide +kernel
theorem dX6_setLeads_49 : decode cX6_setLeads 49 = .ok (.iaload, 1) := by decide +kernel
theorem dX6_setLeads_50 : decode cX6_setLeads 50 = .ok (.iconst 1, 1) := by decide +kernel
theorem dX6_setLeads_51 : decode cX6_setLeads 51 = .ok (.iload_n 1, 1) := by decide +kernel
theorem dX6_setLeads_52 : decode cX6_setLeads 52 = .ok (.ishl, 1) := by decide +kernel
theorem dX6_setLeads_53 : decode cX6_setLeads 53 = .ok (.ior, 1) := by decide +kernel
theorem dX6_setLeads_54 : decode cX6_setLeads 54 = .ok (.goto 15, 3) := by decide +kernel
theorem dX6_setLeads_57 : decode cX6_setLeads 57 = .ok (.aload_n 0, 1) := by decide +kernel
theorem dX6_setLeads_58 : decode cX6_setLeads 58 = .ok (.getfield 36, 3) := by decide +kernel
theorem dX6_setLeads_61 : decode cX6_setLeads 61 = .ok (.iload_n 2, 1) := by decide +kernel
theorem dX6_setLeads_62 : decode cX6_setLeads 62 = .ok (.iaload, 1) := by decide +kernel
theorem dX6_setLeads_63 : decode cX6_setLeads 63 = .ok (.iconst 1, 1) := by decide +kernel
theorem dX6_setLeads_64 : decode cX6_setLeads 64 = .ok (.iload_n 1, 1) := by decide +kernel
theorem dX6_setLeads_65 : decode cX6_setLeads 65 = .ok (.ishl, 1) := by decide +kernel
theorem dX6_setLeads_66 : decode cX6_setLeads 66 = .ok (.iconst (-1), 1) := by decide +kernel
theorem dX6_setLeads_67 : decode cX6_setLeads 67 = .ok (.ixor, 1) := by decide +kernel
theorem dX6_setLeads_68 : decode cX6_setLeads 68 = .ok (.iand, 1) := by decide +kernel
theorem dX6_setLeads_69 : decode cX6_setLeads 69 = .ok (.iastore, 1) := by decide +kernel
theorem dX6_setLeads_70 : decode cX6_setLeads 70 = .ok (.return_, 1) := by decide +kernel
theorem dX6_hiddenArcs_0 : decode cX6_hiddenArcs 0 = .ok (.iconst 0, 1) := by decide +kernel
theorem dX6_hiddenArcs_1 : decode cX6_hiddenArcs 1 = .ok (.istore_n 1, 1) := by decide +kernel
theorem dX6_hiddenArcs_2 : decode cX6_hiddenArcs 2 = .ok (.iconst 0, 1) := by decide +kernel
theorem dX6_hiddenArcs_3 : decode cX6_hiddenArcs 3 = .ok (.istore_n 2, 1) := by decide +kernel
theorem dX6_hiddenArcs_4 : decode cX6_hiddenArcs 4 = .ok (.iload_n 2, 1) := by decide +kernel
theorem dX6_hiddenArcs_5 : decode cX6_hiddenArcs 5 = .ok (.aload_n 0, 1) := by decide +kernel
theorem dX6_hiddenArcs_6 : decode cX6_hiddenArcs 6 = .ok (.getfield 49, 3) := by decide +kernel
theorem dX6_hiddenArcs_9 : decode cX6_hiddenArcs 9 = .ok (.if_icmp .ge 27, 3) := by decide +kernel
theorem dX6_hiddenArcs_12 : decode cX6_hiddenArcs 12 = .ok (.aload_n 0, 1) := by decide +kernel
theorem dX6_hiddenArcs_13 : decode cX6_hiddenArcs 13 = .ok (.getfield 18, 3) := by decide +kernel
theorem dX6_hiddenArcs_16 : decode cX6_hiddenArcs 16 = .ok (.aload_n 0, 1) := by decide +kernel
theorem dX6_hiddenArcs_17 : decode cX6_hiddenArcs 17 = .ok (.getfield 24, 3) := by decide +kernel
theorem dX6_hiddenArcs_20 : decode cX6_hiddenArcs 20 = .ok (.iload_n 2, 1) := by decide +kernel
theorem dX6_hiddenArcs_21 : decode cX6_hiddenArcs 21 = .ok (.iaload, 1) := by decide +kernel
theorem dX6_hiddenArcs_22 : decode cX6_hiddenArcs 22 = .ok (.iaload, 1) := by decide +kernel
theorem dX6_hiddenArcs_23 : decode cX6_hiddenArcs 23 = .ok (.iconst 2, 1) := by decide +kernel
theorem dX6_hiddenArcs_24 : decode cX6_hiddenArcs 24 = .ok (.if_icmp .ne 6, 3) := by decide +kernel
theorem dX6_hiddenArcs_27 : decode cX6_hiddenArcs 27 = .ok (.iinc 1 1, 3) := by decide +kernel
theorem dX6_hiddenArcs_30 : decode cX6_hiddenArcs 30 = .ok (.iinc 2 1, 3) := by decide +kernel
theorem dX6_hiddenArcs_33 : decode cX6_hiddenArcs 33 = .ok (.goto (-29), 3) := by decide +kernel
theorem dX6_hiddenArcs_36 : decode cX6_hiddenArcs 36 = .ok (.iload_n 1, 1) := by decide +kernel
theorem dX6_hiddenArcs_37 : decode cX6_hiddenArcs 37 = .ok (.ireturn, 1) := by decide +kernel
set_option maxRecDepth 20000 in
theorem ggX6_candidateTotal_X6_hiddenArcs : GoodIn wsX6_candidateTotal wsX6_hiddenArcs := goodIn_r _ [7, 2, 8, 9, 10, 11, 12, 13, 14, 15, 16, 17, 18, 19, 20, 21, 22] (by decide +kernel) (by decide +kernel)
set_option maxRecDepth 20000 in
theorem gX6_candidateTotal_X6_hiddenArcs : GoodIn wsX6_candidateTotal (wsV RX6 78 RX6 yX6_hiddenArcs wsX6_hiddenArcs) := goodIn_app (goodIn_of _ (by decide +kernel)) ggX6_candidateTotal_X6_hiddenArcs
theorem dX6_candidateTotal_0 : decode cX6_candidateTotal 0 = .ok (.aload_n 0, 1) := by decide +kernel
theorem dX6_candidateTotal_1 : decode cX6_candidateTotal 1 = .ok (.getfield 46, 3) := by decide +kernel
theorem dX6_candidateTotal_4 : decode cX6_candidateTotal 4 = .ok (.aload_n 0, 1) := by decide +kernel
theorem dX6_candidateTotal_5 : decode cX6_candidateTotal 5 = .ok (.getfield 49, 3) := by decide +kernel
theorem dX6_candidateTotal_8 : decode cX6_candidateTotal 8 = .ok (.isub, 1) := by decide +kernel
theorem dX6_candidateTotal_9 : decode cX6_candidateTotal 9 = .ok (.aload_n 0, 1) := by decide +kernel
theorem dX6_candidateTotal_10 : decode cX6_candidateTotal 10 = .ok (.invokevirtual 78, 3) := by decide +kernel
theorem dX6_candidateTotal_13 : decode cX6_candidateTotal 13 = .ok (.iadd, 1) := by decide +kernel
theorem dX6_candidateTotal_14 : decode cX6_candidateTotal 14 = .ok (.ireturn, 1) := by decide +kernel
set_option maxRecDepth 20000 in
theorem ggX6_comparedWith_X6_leadsFrom : GoodIn wsX6_comparedWith wsX6_leadsFrom := goodIn_r _ [7, 8, 9, 10, 11, 6, 12, 13, 14, 15, 16, 17, 18, 19, 20, 21, 22, 23, 24, 25] (by decide +kernel) (by decide +kernel)
set_option maxRecDepth 20000 in
theorem gX6_comparedWith_X6_leadsFrom : GoodIn wsX6_comparedWith (wsV RX6 82 RX6 yX6_leadsFrom wsX6_leadsFrom) := goodIn_app (goodIn_of _ (by decide +kernel)) ggX6_comparedWith_X6_leadsFrom
theorem dX6_comparedWith_0 : decode cX6_comparedWith 0 = .ok (.aload_n 0, 1) := by decide +kernel
theorem dX6_comparedWith_1 : decode cX6_comparedWith 1 = .ok (.getfield 43, 3) := by decide +kernel
theorem dX6_comparedWith_4 : decode cX6_comparedWith 4 = .ok (.iconst 2, 1) := by decide +kernel
theorem dX6_comparedWith_5 : decode cX6_comparedWith 5 = .ok (.if_icmp .eq 10, 3) := by decide +kernel
theorem dX6_comparedWith_8 : decode cX6_comparedWith 8 = .ok (.aload_n 0, 1) := by decide +kernel
theorem dX6_comparedWith_9 : decode cX6_comparedWith 9 = .ok (.getfield 36, 3) := by decide +kernel
theorem dX6_comparedWith_12 : decode cX6_comparedWith 12 = .ok (.iload_n 1, 1) := by decide +kernel
theorem dX6_comparedWith_13 : decode cX6_comparedWith 13 = .ok (.iaload, 1) := by decide +kernel
theorem dX6_comparedWith_14 : decode cX6_comparedWith 14 = .ok (.ireturn, 1) := by decide +kernel
theorem dX6_comparedWith_15 : decode cX6_comparedWith 15 = .ok (.aload_n 0, 1) := by decide +kernel
theorem dX6_comparedWith_16 : decode cX6_comparedWith 16 = .ok (.aload_n 0, 1) := by decide +kernel
theorem dX6_comparedWith_17 : decode cX6_comparedWith 17 = .ok (.getfield 36, 3) := by decide +kernel
theorem dX6_comparedWith_20 : decode cX6_comparedWith 20 = .ok (.iload_n 1, 1) := by decide +kernel
theorem dX6_comparedWith_21 : decode cX6_comparedWith 21 = .ok (.iaload, 1) := by decide +kernel
theorem dX6_comparedWith_22 : decode cX6_comparedWith 22 = .ok (.invokevirtual 82, 3) := by decide +kernel
theorem dX6_comparedWith_25 : decode cX6_comparedWith 25 = .ok (.iconst 1, 1) := by decide +kernel
theorem dX6_comparedWith_26 : decode cX6_comparedWith 26 = .ok (.iload_n 1, 1) := by decide +kernel
theorem dX6_comparedWith_27 : decode cX6_comparedWith 27 = .ok (.ishl, 1) := by decide +kernel
theorem dX6_comparedWith_28 : decode cX6_comparedWith 28 = .ok (.iconst (-1), 1) := by decide +kernel
theorem dX6_comparedWith_29 : decode cX6_comparedWith 29 = .ok (.ixor, 1) := by decide +kernel
theorem dX6_comparedWith_30 : decode cX6_comparedWith 30 = .ok (.iand, 1) := by decide +kernel
theorem dX6_comparedWith_31 : decode cX6_comparedWith 31 = .ok (.ireturn, 1) := by decide +kernel
set_option maxRecDepth 20000 in
theorem ggX6_leadsFrom_X6_has : GoodIn wsX6_leadsFrom wsX6_has := goodIn_r _ [6] (by decide +kernel) (by decide +kernel)
set_option maxRecDepth 20000 in
theorem gX6_leadsFrom_X6_has : GoodIn wsX6_leadsFrom (va_wsS RX6 86 yX6_has wsX6_has) := goodIn_app (goodIn_of _ (by decide +kernel)) ggX6_leadsFrom_X6_has
theorem dX6_leadsFrom_0 : decode cX6_leadsFrom 0 = .ok (.iconst 0, 1) := by decide +kernel
theorem dX6_leadsFrom_1 : decode cX6_leadsFrom 1 = .ok (.istore_n 2, 1) := by decide +kernel
theorem dX6_leadsFrom_2 : decode cX6_leadsFrom 2 = .ok (.iconst 0, 1) := by decide +kernel
theorem dX6_leadsFrom_3 : decode cX6_leadsFrom 3 = .ok (.istore_n 3, 1) := by decide +kernel
theorem dX6_leadsFrom_4 : decode cX6_leadsFrom 4 = .ok (.iload_n 3, 1) := by decide +kernel
theorem dX6_leadsFrom_5 : decode cX6_leadsFrom 5 = .ok (.aload_n 0, 1) := by decide +kernel
theorem dX6_leadsFrom_6 : decode cX6_leadsFrom 6 = .ok (.getfield 39, 3) := by decide +kernel
theorem dX6_leadsFrom_9 : decode cX6_leadsFrom 9 = .ok (.if_icmp .ge 26, 3) := by decide +kernel
theorem dX6_leadsFrom_12 : decode cX6_leadsFrom 12 = .ok (.iload_n 1, 1) := by decide +kernel
theorem dX6_leadsFrom_13 : decode cX6_leadsFrom 13 = .ok (.iload_n 3, 1) := by decide +kernel
theorem dX6_leadsFrom_14 : decode cX6_leadsFrom 14 = .ok (.invokestatic 86, 3) := by decide +kernel
theorem dX6_leadsFrom_17 : decode cX6_leadsFrom 17 = .ok (.ifCond .eq 12, 3) := by decide +kernel
theorem dX6_leadsFrom_20 : decode cX6_leadsFrom 20 = .ok (.iload_n 2, 1) := by decide +kernel
theorem dX6_leadsFrom_21 : decode cX6_leadsFrom 21 = .ok (.aload_n 0, 1) := by decide +kernel
theorem dX6_leadsFrom_22 : decode cX6_leadsFrom 22 = .ok (.getfield 33, 3) := by decide +kernel
theorem dX6_leadsFrom_25 : decode cX6_leadsFrom 25 = .ok (.iload_n 3, 1) := by decide +kernel
theorem dX6_leadsFrom_26 : decode cX6_leadsFrom 26 = .ok (.iaload, 1) := by decide +kernel
theorem dX6_leadsFrom_27 : decode cX6_leadsFrom 27 = .ok (.ior, 1) := by decide +kernel
theorem dX6_leadsFrom_28 : decode cX6_leadsFrom 28 = .ok (.istore_n 2, 1) := by decide +kernel
theorem dX6_leadsFrom_29 : decode cX6_leadsFrom 29 = .ok (.iinc 3 1, 3) := by decide +kernel
theorem dX6_leadsFrom_32 : decode cX6_leadsFrom 32 = .ok (.goto (-28), 3) := by decide +kernel
theorem dX6_leadsFrom_35 : decode cX6_leadsFrom 35 = .ok (.iload_n 2, 1) := by decide +kernel
theorem dX6_leadsFrom_36 : decode cX6_leadsFrom 36 = .ok (.ireturn, 1) := by decide +kernel
theorem dX6_membersOf_0 : decode cX6_membersOf 0 = .ok (.iconst 0, 1) := by decide +kernel
theorem dX6_membersOf_1 : decode cX6_membersOf 1 = .ok (.istore_n 2, 1) := by decide +kernel
theorem dX6_membersOf_2 : decode cX6_membersOf 2 = .ok (.iconst 0, 1) := by decide +kernel
theorem dX6_membersOf_3 : decode cX6_membersOf 3 = .ok (.istore_n 3, 1) := by decide +kernel
theorem dX6_membersOf_4 : decode cX6_membersOf 4 = .ok (.iload_n 3, 1) := by decide +kernel
theorem dX6_membersOf_5 : decode cX6_membersOf 5 = .ok (.aload_n 0, 1) := by decide +kernel
theorem dX6_membersOf_6 : decode cX6_membersOf 6 = .ok (.getfield 39, 3) := by decide +kernel
theorem dX6_membersOf_9 : decode cX6_membersOf 9 = .ok (.if_icmp .ge 25, 3) := by decide +kernel
theorem dX6_membersOf_12 : decode cX6_membersOf 12 = .ok (.aload_n 0, 1) := by decide +kernel
theorem dX6_membersOf_13 : decode cX6_membersOf 13 = .ok (.getfield 30, 3) := by decide +kernel
theorem dX6_membersOf_16 : decode cX6_membersOf 16 = .ok (.iload_n 3, 1) := by decide +kernel
theorem dX6_membersOf_17 : decode cX6_membersOf 17 = .ok (.iaload, 1) := by decide +kernel
theorem dX6_membersOf_18 : decode cX6_membersOf 18 = .ok (.iload_n 1, 1) := by decide +kernel
theorem dX6_membersOf_19 : decode cX6_membersOf 19 = .ok (.if_icmp .ne 9, 3) := by decide +kernel
theorem dX6_membersOf_22 : decode cX6_membersOf 22 = .ok (.iload_n 2, 1) := by decide +kernel
theorem dX6_membersOf_23 : decode cX6_membersOf 23 = .ok (.iconst 1, 1) := by decide +kernel
theorem dX6_membersOf_24 : decode cX6_membersOf 24 = .ok (.iload_n 3, 1) := by decide +kernel
theorem dX6_membersOf_25 : decode cX6_membersOf 25 = .ok (.ishl, 1) := by decide +kernel
theorem dX6_membersOf_26 : decode cX6_membersOf 26 = .ok (.ior, 1) := by decide +kernel
theorem dX6_membersOf_27 : decode cX6_membersOf 27 = .ok (.istore_n 2, 1) := by decide +kernel
theorem dX6_membersOf_28 : decode cX6_membersOf 28 = .ok (.iinc 3 1, 3) := by decide +kernel
theorem dX6_membersOf_31 : decode cX6_membersOf 31 = .ok (.goto (-27), 3) := by decide +kernel
theorem dX6_membersOf_34 : decode cX6_membersOf 34 = .ok (.iload_n 2, 1) := by decide +kernel
theorem dX6_membersOf_35 : decode cX6_membersOf 35 = .ok (.ireturn, 1) := by decide +kernel
theorem dX6_has_0 : decode cX6_has 0 = .ok (.iload_n 0, 1) := by decide +kernel
theorem dX6_has_1 : decode cX6_has 1 = .ok (.iload_n 1, 1) := by decide +kernel
theorem dX6_has_2 : decode cX6_has 2 = .ok (.ishr, 1) := by decide +kernel
theorem dX6_has_3 : decode cX6_has 3 = .ok (.iconst 1, 1) := by decide +kernel
theorem dX6_has_4 : decode cX6_has 4 = .ok (.iand, 1) := by decide +kernel
theorem dX6_has_5 : decode cX6_has 5 = .ok (.iconst 1, 1) := by decide +kernel
theorem dX6_has_6 : decode cX6_has 6 = .ok (.if_icmp .ne 7, 3) := by decide +kernel
theorem dX6_has_9 : decode cX6_has 9 = .ok (.iconst 1, 1) := by decide +kernel
theorem dX6_has_10 : decode cX6_has 10 = .ok (.goto 4, 3) := by decide +kernel
theorem dX6_has_13 : decode cX6_has 13 = .ok (.iconst 0, 1) := by decide +kernel
theorem dX6_has_14 : decode cX6_has 14 = .ok (.ireturn, 1) := by decide +kernel
set_option maxRecDepth 20000 in
theorem ggX7_init_X6_init : GoodIn wsX7_init wsX6_init := goodIn_r _ [33, 34, 2, 3, 35, 36, 37, 38, 39, 40, 41, 42, 43, 44, 124, 125, 126, 127, 128, 129, 130, 131, 132, 133, 134, 135, 136] (by decide +kernel) (by decide +kernel)
set_option maxRecDepth 20000 in
theorem gX7_init_X6_init_n11 : GoodIn wsX7_init (wsX6_init) := ggX7_init_X6_init
set_option maxRecDepth 20000 in
theorem ggX7_init_X4_init : GoodIn wsX7_init wsX4_init := goodIn_r _ [46, 47, 2, 3, 48, 144, 145, 146, 147] (by decide +kernel) (by decide +kernel)
set_option maxRecDepth 20000 in
theorem gX7_init_X4_init_n18 : GoodIn wsX7_init (wsX4_init) := ggX7_init_X4_init
set_option maxRecDepth 20000 in
theorem ggX7_init_X5_init : GoodIn wsX7_init wsX5_init := goodIn_r _ [50, 51, 2, 3, 35, 52, 53, 148, 149] (by decide +kernel) (by decide +kernel)
set_option maxRecDepth 20000 in
theorem gX7_init_X5_init_n27 : GoodIn wsX7_init (wsX5_init) := ggX7_init_X5_init
set_option maxRecDepth 20000 in
theorem ggX7_init_X1_init : GoodIn wsX7_init wsX1_init := goodIn_r _ [55, 56, 2, 3, 35, 57, 58, 59, 60, 61, 62, 63, 150, 151, 152, 153, 154, 155, 156, 157, 158] (by decide +kernel) (by decide +kernel)
set_option maxRecDepth 20000 in
theorem gX7_init_X1_init_n36 : GoodIn wsX7_init (wsX1_init) := ggX7_init_X1_init
set_option maxRecDepth 20000 in
theorem ggX7_init_X3_init : GoodIn wsX7_init wsX3_init := goodIn_r _ [65, 66, 2, 3, 35, 67, 68, 69, 70, 58, 71, 159, 160, 161, 162, 163] (by decide +kernel) (by decide +kernel)
set_option maxRecDepth 20000 in
theorem gX7_init_X3_init_n43 : GoodIn wsX7_init (wsX3_init) := ggX7_init_X3_init
set_option maxRecDepth 20000 in
theorem ggX7_init_X2_init : GoodIn wsX7_init wsX2_init := goodIn_r _ [73, 74, 2, 3] (by decide +kernel) (by decide +kernel)
set_option maxRecDepth 20000 in
theorem gX7_init_X2_init_n50 : GoodIn wsX7_init (wsX2_init) := ggX7_init_X2_init
set_option maxRecDepth 20000 in
theorem ggX7_init_X0_init : GoodIn wsX7_init wsX0_init := goodIn_r _ [76, 77, 2, 3, 78, 165, 166] (by decide +kernel) (by decide +kernel)
set_option maxRecDepth 20000 in
theorem gX7_init_X0_init_n57 : GoodIn wsX7_init (wsX0_init) := ggX7_init_X0_init
set_option maxRecDepth 20000 in
theorem ggX7_init_X7_startAnew : GoodIn wsX7_init wsX7_startAnew := goodIn_r _ [83, 7, 11, 15, 31, 84, 6, 85, 86, 87, 88, 89, 90, 38, 41, 42, 43, 44, 91, 92, 93, 94, 95, 96, 97, 98, 99, 100, 101, 102, 36, 37, 103, 10, 104, 105, 106, 107, 108, 109, 14, 110, 111, 52, 112, 113, 30, 114, 115, 116, 117, 118, 119, 120, 78, 121, 122, 123, 137, 138, 139, 140, 141, 142, 143, 124, 125, 126, 127, 128, 129, 130, 131, 132, 133, 134, 135, 136, 144, 145, 146, 147, 148, 149, 165, 166] (by decide +kernel) (by decide +kernel)
set_option maxRecDepth 20000 in
theorem gX7_init_X7_startAnew : GoodIn wsX7_init (wsV RX7 62 RX7 yX7_startAnew wsX7_startAnew) := goodIn_app (goodIn_of _ (by decide +kernel)) ggX7_init_X7_startAnew
theorem dX7_init_0 : decode cX7_init 0 = .ok (.aload_n 0, 1) := by decide +kernel
theorem dX7_init_1 : decode cX7_init 1 = .ok (.invokespecial 3, 3) := by decide +kernel
theorem dX7_init_4 : decode cX7_init 4 = .ok (.aload_n 0, 1) := by decide +kernel
theorem dX7_init_5 : decode cX7_init 5 = .ok (.new 9, 3) := by decide +kernel
theorem dX7_init_8 : decode cX7_init 8 = .ok (.dup, 1) := by decide +kernel
theorem dX7_init_9 : decode cX7_init 9 = .ok (.invokespecial 11, 3) := by decide +kernel
theorem dX7_init_12 : decode cX7_init 12 = .ok (.putfield 12, 3) := by decide +kernel
theorem dX7_init_15 : decode cX7_init 15 = .ok (.aload_n 0, 1) := by decide +kernel
theorem dX7_init_16 : decode cX7_init 16 = .ok (.new 16, 3) := by decide +kernel
theorem dX7_init_19 : decode cX7_init 19 = .ok (.dup, 1) := by decide +kernel
theorem dX7_init_20 : decode cX7_init 20 = .ok (.aload_n 0, 1) := by decide +kernel
theorem dX7_init_21 : decode cX7_init 21 = .ok (.getfield 12, 3) := by decide +kernel
theorem dX7_init_24 : decode cX7_init 24 = .ok (.invokespecial 18, 3) := by decide +kernel
theorem dX7_init_27 : decode cX7_init 27 = .ok (.putfield 21, 3) := by decide +kernel
theorem dX7_init_30 : decode cX7_init 30 = .ok (.aload_n 0, 1) := by decide +kernel
theorem dX7_init_31 : decode cX7_init 31 = .ok (.new 25, 3) := by decide +kernel
theorem dX7_init_34 : decode cX7_init 34 = .ok (.dup, 1) := by decide +kernel
theorem dX7_init_35 : decode cX7_init 35 = .ok (.aload_n 0, 1) := by decide +kernel
theorem dX7_init_36 : decode cX7_init 36 = .ok (.getfield 21, 3) := by decide +kernel
theorem dX7_init_39 : decode cX7_init 39 = .ok (.invokespecial 27, 3) := by decide +kernel
theorem dX7_init_42 : decode cX7_init 42 = .ok (.putfield 30, 3) := by decide +kernel
theorem dX7_init_45 : decode cX7_init 45 = .ok (.aload_n 0, 1) := by decide +kernel
theorem dX7_init_46 : decode cX7_init 46 = .ok (.new 34, 3) := by decide +kernel
theorem dX7_init_49 : decode cX7_init 49 = .ok (.dup, 1) := by decide +kernel
theorem dX7_init_50 : decode cX7_init 50 = .ok (.aload_n 0, 1) := by decide +kernel
theorem dX7_init_51 : decode cX7_init 51 = .ok (.getfield 12, 3) := by decide +kernel
theorem dX7_init_54 : decode cX7_init 54 = .ok (.invokespecial 36, 3) := by decide +kernel
theorem dX7_init_57 : decode cX7_init 57 = .ok (.putfield 37, 3) := by decide +kernel
theorem dX7_init_60 : decode cX7_init 60 = .ok (.aload_n 0, 1) := by decide +kernel
theorem dX7_init_61 : decode cX7_init 61 = .ok (.new 41, 3) := by decide +kernel
theorem dX7_init_64 : decode cX7_init 64 = .ok (.dup, 1) := by decide +kernel
theorem dX7_init_65 : decode cX7_init 65 = .ok (.invokespecial 43, 3) := by decide +kernel
theorem dX7_init_68 : decode cX7_init 68 = .ok (.putfield 44, 3) := by decide +kernel
theorem dX7_init_71 : decode cX7_init 71 = .ok (.aload_n 0, 1) := by decide +kernel
theorem dX7_init_72 : decode cX7_init 72 = .ok (.new 48, 3) := by decide +kernel
theorem dX7_init_75 : decode cX7_init 75 = .ok (.dup, 1) := by decide +kernel
theorem dX7_init_76 : decode cX7_init 76 = .ok (.invokespecial 50, 3) := by decide +kernel
theorem dX7_init_79 : decode cX7_init 79 = .ok (.putfield 51, 3) := by decide +kernel
theorem dX7_init_82 : decode cX7_init 82 = .ok (.aload_n 0, 1) := by decide +kernel
theorem dX7_init_83 : decode cX7_init 83 = .ok (.new 55, 3) := by decide +kernel
theorem dX7_init_86 : decode cX7_init 86 = .ok (.dup, 1) := by decide +kernel
theorem dX7_init_87 : decode cX7_init 87 = .ok (.invokespecial 57, 3) := by decide +kernel
theorem dX7_init_90 : decode cX7_init 90 = .ok (.putfield 58, 3) := by decide +kernel
theorem dX7_init_93 : decode cX7_init 93 = .ok (.aload_n 0, 1) := by decide +kernel
theorem dX7_init_94 : decode cX7_init 94 = .ok (.iconst 2, 1) := by decide +kernel
theorem dX7_init_95 : decode cX7_init 95 = .ok (.iconst 0, 1) := by decide +kernel
theorem dX7_init_96 : decode cX7_init 96 = .ok (.invokevirtual 62, 3) := by decide +kernel
theorem dX7_init_99 : decode cX7_init 99 = .ok (.return_, 1) := by decide +kernel
set_option maxRecDepth 20000 in
theorem ggX7_graph_X7_isWithin : GoodIn wsX7_graph wsX7_isWithin := goodIn_r _ [5] (by decide +kernel) (by decide +kernel)
set_option maxRecDepth 20000 in
theorem gX7_graph_X7_isWithin : GoodIn wsX7_graph (va_wsS RX7 66 yX7_isWithin wsX7_isWithin) := goodIn_app (goodIn_of _ (by decide +kernel)) ggX7_graph_X7_isWithin
set_option maxRecDepth 20000 in
theorem ggX7_graph_X7_startAnew : GoodIn wsX7_graph wsX7_startAnew := goodIn_r _ [9, 1, 10, 11, 12, 13, 14, 15, 16, 17, 18, 19, 20, 21, 22, 23, 24, 25, 26, 27, 28, 29, 30, 31, 32, 33, 34, 35, 36, 37, 38, 39, 40, 41, 42, 43, 44, 45, 46, 47, 48, 49, 50, 51, 52, 53, 54, 55, 56, 57, 58, 59, 60, 61, 62, 63, 64, 65, 66, 67, 68, 69, 70, 71, 72, 73, 74, 75, 76, 77, 78, 79, 80, 81, 82, 83, 84, 85, 86, 87, 88, 89, 90, 91, 92, 93] (by decide +kernel) (by decide +kernel)
set_option maxRecDepth 20000 in
theorem gX7_graph_X7_startAnew : GoodIn wsX7_graph (wsV RX7 62 RX7 yX7_startAnew wsX7_startAnew) := goodIn_app (goodIn_of _ (by decide +kernel)) ggX7_graph_X7_startAnew
theorem dX7_graph_0 : decode cX7_graph 0 = .ok (.iload_n 1, 1) := by decide +kernel
theorem dX7_graph_1 : decode cX7_graph 1 = .ok (.iconst 2, 1) := by decide +kernel
theorem dX7_graph_2 : decode cX7_graph 2 = .ok (.bipush 12, 2) := by decide +kernel
theorem dX7_graph_4 : decode cX7_graph 4 = .ok (.invokestatic 66, 3) := by decide +kernel
theorem dX7_graph_7 : decode cX7_graph 7 = .ok (.ifCond .eq 12, 3) := by decide +kernel
theorem dX7_graph_10 : decode cX7_graph 10 = .ok (.iload_n 2, 1) := by decide +kernel
theorem dX7_graph_11 : decode cX7_graph 11 = .ok (.iconst 0, 1) := by decide +kernel
theorem dX7_graph_12 : decode cX7_graph 12 = .ok (.iconst 2, 1) := by decide +kernel
theorem dX7_graph_13 : decode cX7_graph 13 = .ok (.invokestatic 66, 3) := by decide +kernel
theorem dX7_graph_16 : decode cX7_graph 16 = .ok (.ifCond .ne 6, 3) := by decide +kernel
theorem dX7_graph_19 : decode cX7_graph 19 = .ok (.bipush (-2), 2) := by decide +kernel
theorem dX7_graph_21 : decode cX7_graph 21 = .ok (.ireturn, 1) := by decide +kernel
theorem dX7_graph_22 : decode cX7_graph 22 = .ok (.aload_n 0, 1) := by decide +kernel
theorem dX7_graph_23 : decode cX7_graph 23 = .ok (.iload_n 1, 1) := by decide +kernel
theorem dX7_graph_24 : decode cX7_graph 24 = .ok (.iload_n 2, 1) := by decide +kernel
theorem dX7_graph_25 : decode cX7_graph 25 = .ok (.invokevirtual 62, 3) := by decide +kernel
theorem dX7_graph_28 : decode cX7_graph 28 = .ok (.aload_n 0, 1) := by decide +kernel
theorem dX7_graph_29 : decode cX7_graph 29 = .ok (.getfield 12, 3) := by decide +kernel
theorem dX7_graph_32 : decode cX7_graph 32 = .ok (.getfield 70, 3) := by decide +kernel
theorem dX7_graph_35 : decode cX7_graph 35 = .ok (.ireturn, 1) := by decide +kernel
set_option maxRecDepth 20000 in
theorem ggX7_arc_X6_pairFor : GoodIn wsX7_arc wsX6_pairFor := goodIn_r _ [5, 6, 7, 8, 9, 3, 10, 11, 43, 44, 45, 46, 47, 48, 49, 50, 51, 52, 53, 54, 55] (by decide +kernel) (by decide +kernel)
set_option maxRecDepth 20000 in
theorem gX7_arc_X6_pairFor_n74 : GoodIn wsX7_arc (wsX6_pairFor) := ggX7_arc_X6_pairFor
set_option maxRecDepth 20000 in
theorem ggX7_arc_X7_isWithin : GoodIn wsX7_arc wsX7_isWithin := goodIn_r _ [15] (by decide +kernel) (by decide +kernel)
set_option maxRecDepth 20000 in
theorem gX7_arc_X7_isWithin : GoodIn wsX7_arc (va_wsS RX7 66 yX7_isWithin wsX7_isWithin) := goodIn_app (goodIn_of _ (by decide +kernel)) ggX7_arc_X7_isWithin
set_option maxRecDepth 20000 in
theorem ggX7_arc_X6_addArc : GoodIn wsX7_arc wsX6_addArc := goodIn_r _ [18, 19, 20, 21, 22, 23, 24, 3, 25, 26, 27, 28, 29, 30, 31, 32, 33, 34, 35, 43, 44, 45, 46, 47, 48, 49, 50, 51, 52, 53, 54, 55] (by decide +kernel) (by decide +kernel)
set_option maxRecDepth 20000 in
theorem gX7_arc_X6_addArc_n82 : GoodIn wsX7_arc (wsX6_addArc) := ggX7_arc_X6_addArc
theorem dX7_arc_0 : decode cX7_arc 0 = .ok (.aload_n 0, 1) := by decide +kernel
theorem dX7_arc_1 : decode cX7_arc 1 = .ok (.getfield 12, 3) := by decide +kernel
theorem dX7_arc_4 : decode cX7_arc 4 = .ok (.iload_n 1, 1) := by decide +kernel
theorem dX7_arc_5 : decode cX7_arc 5 = .ok (.iload_n 2, 1) := by decide +kernel
theorem dX7_arc_6 : decode cX7_arc 6 = .ok (.invokevirtual 74, 3) := by decide +kernel
theorem dX7_arc_9 : decode cX7_arc 9 = .ok (.istore 4, 2) := by decide +kernel
theorem dX7_arc_11 : decode cX7_arc 11 = .ok (.iload 4, 2) := by decide +kernel
theorem dX7_arc_13 : decode cX7_arc 13 = .ok (.iconst (-1), 1) := by decide +kernel
theorem dX7_arc_14 : decode cX7_arc 14 = .ok (.if_icmp .ne 5, 3) := by decide +kernel
theorem dX7_arc_17 : decode cX7_arc 17 = .ok (.iconst (-1), 1) := by decide +kernel
theorem dX7_arc_18 : decode cX7_arc 18 = .ok (.ireturn, 1) := by decide +kernel
theorem dX7_arc_19 : decode cX7_arc 19 = .ok (.iload_n 3, 1) := by decide +kernel
theorem dX7_arc_20 : decode cX7_arc 20 = .ok (.iconst 0, 1) := by decide +kernel
theorem dX7_arc_21 : decode cX7_arc 21 = .ok (.sipush 9999, 3) := by decide +kernel
theorem dX7_arc_24 : decode cX7_arc 24 = .ok (.invokestatic 66, 3) := by decide +kernel
theorem dX7_arc_27 : decode cX7_arc 27 = .ok (.ifCond .ne 6, 3) := by decide +kernel
theorem dX7_arc_30 : decode cX7_arc 30 = .ok (.bipush (-2), 2) := by decide +kernel
theorem dX7_arc_32 : decode cX7_arc 32 = .ok (.ireturn, 1) := by decide +kernel
theorem dX7_arc_33 : decode cX7_arc 33 = .ok (.aload_n 0, 1) := by decide +kernel
theorem dX7_arc_34 : decode cX7_arc 34 = .ok (.getfield 12, 3) := by decide +kernel
theorem dX7_arc_37 : decode cX7_arc 37 = .ok (.getfield 78, 3) := by decide +kernel
theorem dX7_arc_40 : decode cX7_arc 40 = .ok (.iload 4, 2) := by decide +kernel
theorem dX7_arc_42 : decode cX7_arc 42 = .ok (.iaload, 1) := by decide +kernel
theorem dX7_arc_43 : decode cX7_arc 43 = .ok (.ifCond .eq 6, 3) := by decide +kernel
theorem dX7_arc_46 : decode cX7_arc 46 = .ok (.bipush (-3), 2) := by decide +kernel
theorem dX7_arc_48 : decode cX7_arc 48 = .ok (.ireturn, 1) := by decide +kernel
theorem dX7_arc_49 : decode cX7_arc 49 = .ok (.aload_n 0, 1) := by decide +kernel
theorem dX7_arc_50 : decode cX7_arc 50 = .ok (.getfield 12, 3) := by decide +kernel
theorem dX7_arc_53 : decode cX7_arc 53 = .ok (.iload 4, 2) := by decide +kernel
theorem dX7_arc_55 : decode cX7_arc 55 = .ok (.iload_n 3, 1) := by decide +kernel
theorem dX7_arc_56 : decode cX7_arc 56 = .ok (.invokevirtual 82, 3) := by decide +kernel
theorem dX7_arc_59 : decode cX7_arc 59 = .ok (.aload_n 0, 1) := by decide +kernel
theorem dX7_arc_60 : decode cX7_arc 60 = .ok (.getfield 12, 3) := by decide +kernel
theorem dX7_arc_63 : decode cX7_arc 63 = .ok (.getfield 85, 3) := by decide +kernel
theorem dX7_arc_66 : decode cX7_arc 66 = .ok (.ireturn, 1) := by decide +kernel
set_option maxRecDepth 20000 in
theorem ggX7_group_X6_isNode : GoodIn wsX7_group wsX6_isNode := goodIn_r _ [5, 6, 18, 19, 20, 21, 22, 23, 24, 25, 26, 27, 28, 29, 30] (by decide +kernel) (by decide +kernel)
set_option maxRecDepth 20000 in
theorem gX7_group_X6_isNode_n88 : GoodIn wsX7_group (wsX6_isNode) := ggX7_group_X6_isNode
set_option maxRecDepth 20000 in
theorem ggX7_group_X7_isWithin : GoodIn wsX7_group wsX7_isWithin := goodIn_r _ [10] (by decide +kernel) (by decide +kernel)
set_option maxRecDepth 20000 in
theorem gX7_group_X7_isWithin : GoodIn wsX7_group (va_wsS RX7 66 yX7_isWithin wsX7_isWithin) := goodIn_app (goodIn_of _ (by decide +kernel)) ggX7_group_X7_isWithin
theorem dX7_group_0 : decode cX7_group 0 = .ok (.aload_n 0, 1) := by decide +kernel
theorem dX7_group_1 : decode cX7_group 1 = .ok (.getfield 12, 3) := by decide +kernel
theorem dX7_group_4 : decode cX7_group 4 = .ok (.iload_n 1, 1) := by decide +kernel
theorem dX7_group_5 : decode cX7_group 5 = .ok (.invokevirtual 88, 3) := by decide +kernel
theorem dX7_group_8 : decode cX7_group 8 = .ok (.ifCond .ne 5, 3) := by decide +kernel
theorem dX7_group_11 : decode cX7_group 11 = .ok (.iconst (-1), 1) := by decide +kernel
theorem dX7_group_12 : decode cX7_group 12 = .ok (.ireturn, 1) := by decide +kernel
theorem dX7_group_13 : decode cX7_group 13 = .ok (.iload_n 2, 1) := by decide +kernel
theorem dX7_group_14 : decode cX7_group 14 = .ok (.iconst 0, 1) := by decide +kernel
theorem dX7_group_15 : decode cX7_group 15 = .ok (.iconst 3, 1) := by decide +kernel
theorem dX7_group_16 : decode cX7_group 16 = .ok (.invokestatic 66, 3) := by decide +kernel
theorem dX7_group_19 : decode cX7_group 19 = .ok (.ifCond .ne 6, 3) := by decide +kernel
theorem dX7_group_22 : decode cX7_group 22 = .ok (.bipush (-2), 2) := by decide +kernel
theorem dX7_group_24 : decode cX7_group 24 = .ok (.ireturn, 1) := by decide +kernel
theorem dX7_group_25 : decode cX7_group 25 = .ok (.aload_n 0, 1) := by decide +kernel
theorem dX7_group_26 : decode cX7_group 26 = .ok (.getfield 12, 3) := by decide +kernel
theorem dX7_group_29 : decode cX7_group 29 = .ok (.getfield 92, 3) := by decide +kernel
theorem dX7_group_32 : decode cX7_group 32 = .ok (.iload_n 1, 1) := by decide +kernel
theorem dX7_group_33 : decode cX7_group 33 = .ok (.iaload, 1) := by decide +kernel
theorem dX7_group_34 : decode cX7_group 34 = .ok (.istore_n 3, 1) := by decide +kernel
theorem dX7_group_35 : decode cX7_group 35 = .ok (.aload_n 0, 1) := by decide +kernel
theorem dX7_group_36 : decode cX7_group 36 = .ok (.getfield 12, 3) := by decide +kernel
theorem dX7_group_39 : decode cX7_group 39 = .ok (.getfield 92, 3) := by decide +kernel
theorem dX7_group_42 : decode cX7_group 42 = .ok (.iload_n 1, 1) := by decide +kernel
theorem dX7_group_43 : decode cX7_group 43 = .ok (.iload_n 2, 1) := by decide +kernel
theorem dX7_group_44 : decode cX7_group 44 = .ok (.iastore, 1) := by decide +kernel
theorem dX7_group_45 : decode cX7_group 45 = .ok (.iload_n 3, 1) := by decide +kernel
theorem dX7_group_46 : decode cX7_group 46 = .ok (.ireturn, 1) := by decide +kernel
set_option maxRecDepth 20000 in
theorem ggX7_hide_X6_pairFor : GoodIn wsX7_hide wsX6_pairFor := goodIn_r _ [5, 6, 7, 8, 9, 3, 10, 11, 32, 33, 34, 35, 36, 37, 38, 39, 40, 41, 42, 43, 44] (by decide +kernel) (by decide +kernel)
set_option maxRecDepth 20000 in
theorem gX7_hide_X6_pairFor_n74 : GoodIn wsX7_hide (wsX6_pairFor) := ggX7_hide_X6_pairFor
set_option maxRecDepth 20000 in
theorem ggX7_hide_X6_setHidden : GoodIn wsX7_hide wsX6_setHidden := goodIn_r _ [14, 15, 16, 17, 18, 19, 20, 21, 3, 22, 23, 24, 32, 33, 34, 35, 36, 37, 38, 39, 40, 41, 42, 43, 44] (by decide +kernel) (by decide +kernel)
set_option maxRecDepth 20000 in
theorem gX7_hide_X6_setHidden_n95 : GoodIn wsX7_hide (wsX6_setHidden) := ggX7_hide_X6_setHidden
theorem dX7_hide_0 : decode cX7_hide 0 = .ok (.aload_n 0, 1) := by decide +kernel
theorem dX7_hide_1 : decode cX7_hide 1 = .ok (.getfield 12, 3) := by decide +kernel
theorem dX7_hide_4 : decode cX7_hide 4 = .ok (.iload_n 1, 1) := by decide +kernel
theorem dX7_hide_5 : decode cX7_hide 5 = .ok (.iload_n 2, 1) := by decide +kernel
theorem dX7_hide_6 : decode cX7_hide 6 = .ok (.invokevirtual 74, 3) := by decide +kernel
theorem dX7_hide_9 : decode cX7_hide 9 = .ok (.istore 4, 2) := by decide +kernel
theorem dX7_hide_11 : decode cX7_hide 11 = .ok (.iload 4, 2) := by decide +kernel
theorem dX7_hide_13 : decode cX7_hide 13 = .ok (.iconst (-1), 1) := by decide +kernel
theorem dX7_hide_14 : decode cX7_hide 14 = .ok (.if_icmp .eq 16, 3) := by decide +kernel
theorem dX7_hide_17 : decode cX7_hide 17 = .ok (.aload_n 0, 1) := by decide +kernel
theorem dX7_hide_18 : decode cX7_hide 18 = .ok (.getfield 12, 3) := by decide +kernel
theorem dX7_hide_21 : decode cX7_hide 21 = .ok (.getfield 78, 3) := by decide +kernel
theorem dX7_hide_24 : decode cX7_hide 24 = .ok (.iload 4, 2) := by decide +kernel
theorem dX7_hide_26 : decode cX7_hide 26 = .ok (.iaload, 1) := by decide +kernel
theorem dX7_hide_27 : decode cX7_hide 27 = .ok (.ifCond .ne 5, 3) := by decide +kernel
theorem dX7_hide_30 : decode cX7_hide 30 = .ok (.iconst (-1), 1) := by decide +kernel
theorem dX7_hide_31 : decode cX7_hide 31 = .ok (.ireturn, 1) := by decide +kernel
theorem dX7_hide_32 : decode cX7_hide 32 = .ok (.aload_n 0, 1) := by decide +kernel
theorem dX7_hide_33 : decode cX7_hide 33 = .ok (.getfield 12, 3) := by decide +kernel
theorem dX7_hide_36 : decode cX7_hide 36 = .ok (.getfield 78, 3) := by decide +kernel
theorem dX7_hide_39 : decode cX7_hide 39 = .ok (.iload 4, 2) := by decide +kernel
theorem dX7_hide_41 : decode cX7_hide 41 = .ok (.iaload, 1) := by decide +kernel
theorem dX7_hide_42 : decode cX7_hide 42 = .ok (.iconst 2, 1) := by decide +kernel
theorem dX7_hide_43 : decode cX7_hide 43 = .ok (.if_icmp .ne 7, 3) := by decide +kernel
theorem dX7_hide_46 : decode cX7_hide 46 = .ok (.iconst 1, 1) := by decide +kernel
theorem dX7_hide_47 : decode cX7_hide 47 = .ok (.goto 4, 3) := by decide +kernel
theorem dX7_hide_50 : decode cX7_hide 50 = .ok (.iconst 0, 1) := by decide +kernel
theorem dX7_hide_51 : decode cX7_hide 51 = .ok (.istore 5, 2) := by decide +kernel
theorem dX7_hide_53 : decode cX7_hide 53 = .ok (.aload_n 0, 1) := by decide +kernel
theorem dX7_hide_54 : decode cX7_hide 54 = .ok (.getfield 12, 3) := by decide +kernel
theorem dX7_hide_57 : decode cX7_hide 57 = .ok (.iload 4, 2) := by decide +kernel
theorem dX7_hide_59 : decode cX7_hide 59 = .ok (.iload_n 3, 1) := by decide +kernel
theorem dX7_hide_60 : decode cX7_hide 60 = .ok (.invokevirtual 95, 3) := by decide +kernel
theorem dX7_hide_63 : decode cX7_hide 63 = .ok (.iload 5, 2) := by decide +kernel
theorem dX7_hide_65 : decode cX7_hide 65 = .ok (.ireturn, 1) := by decide +kernel
set_option maxRecDepth 20000 in
theorem ggX7_since_X6_setHidden : GoodIn wsX7_since wsX6_setHidden := goodIn_r _ [5, 6, 7, 8, 9, 10, 11, 12, 3, 13, 14, 15, 28, 29, 30, 31, 32, 33, 34, 35, 36, 37, 38, 39, 40] (by decide +kernel) (by decide +kernel)
set_option maxRecDepth 20000 in
theorem gX7_since_X6_setHidden_n95 : GoodIn wsX7_since (wsX6_setHidden) := ggX7_since_X6_setHidden
set_option maxRecDepth 20000 in
theorem ggX7_since_X6_hiddenArcs : GoodIn wsX7_since wsX6_hiddenArcs := goodIn_r _ [18, 19, 8, 20, 28, 29, 30, 31, 32, 33, 34, 35, 36, 37, 38, 39, 40] (by decide +kernel) (by decide +kernel)
set_option maxRecDepth 20000 in
theorem gX7_since_X6_hiddenArcs_n105 : GoodIn wsX7_since (wsX6_hiddenArcs) := ggX7_since_X6_hiddenArcs
theorem dX7_since_0 : decode cX7_since 0 = .ok (.iconst 0, 1) := by decide +kernel
theorem dX7_since_1 : decode cX7_since 1 = .ok (.istore_n 2, 1) := by decide +kernel
theorem dX7_since_2 : decode cX7_since 2 = .ok (.iload_n 2, 1) := by decide +kernel
theorem dX7_since_3 : decode cX7_since 3 = .ok (.aload_n 0, 1) := by decide +kernel
theorem dX7_since_4 : decode cX7_since 4 = .ok (.getfield 12, 3) := by decide +kernel
theorem dX7_since_7 : decode cX7_since 7 = .ok (.getfield 85, 3) := by decide +kernel
theorem dX7_since_10 : decode cX7_since 10 = .ok (.if_icmp .ge 45, 3) := by decide +kernel
theorem dX7_since_13 : decode cX7_since 13 = .ok (.aload_n 0, 1) := by decide +kernel
theorem dX7_since_14 : decode cX7_since 14 = .ok (.getfield 12, 3) := by decide +kernel
theorem dX7_since_17 : decode cX7_since 17 = .ok (.getfield 99, 3) := by decide +kernel
theorem dX7_since_20 : decode cX7_since 20 = .ok (.iload_n 2, 1) := by decide +kernel
theorem dX7_since_21 : decode cX7_since 21 = .ok (.iaload, 1) := by decide +kernel
theorem dX7_since_22 : decode cX7_since 22 = .ok (.istore_n 3, 1) := by decide +kernel
theorem dX7_since_23 : decode cX7_since 23 = .ok (.aload_n 0, 1) := by decide +kernel
theorem dX7_since_24 : decode cX7_since 24 = .ok (.getfield 12, 3) := by decide +kernel
theorem dX7_since_27 : decode cX7_since 27 = .ok (.iload_n 3, 1) := by decide +kernel
theorem dX7_since_28 : decode cX7_since 28 = .ok (.aload_n 0, 1) := by decide +kernel
theorem dX7_since_29 : decode cX7_since 29 = .ok (.getfield 12, 3) := by decide +kernel
theorem dX7_since_32 : decode cX7_since 32 = .ok (.getfield 102, 3) := by decide +kernel
theorem dX7_since_35 : decode cX7_since 35 = .ok (.iload_n 3, 1) := by decide +kernel
theorem dX7_since_36 : decode cX7_since 36 = .ok (.iaload, 1) := by decide +kernel
theorem dX7_since_37 : decode cX7_since 37 = .ok (.iload_n 1, 1) := by decide +kernel
theorem dX7_since_38 : decode cX7_since 38 = .ok (.if_icmp .lt 7, 3) := by decide +kernel
theorem dX7_since_41 : decode cX7_since 41 = .ok (.iconst 1, 1) := by decide +kernel
theorem dX7_since_42 : decode cX7_since 42 = .ok (.goto 4, 3) := by decide +kernel
theorem dX7_since_45 : decode cX7_since 45 = .ok (.iconst 0, 1) := by decide +kernel
theorem dX7_since_46 : decode cX7_since 46 = .ok (.invokevirtual 95, 3) := by decide +kernel
theorem dX7_since_49 : decode cX7_since 49 = .ok (.iinc 2 1, 3) := by decide +kernel
theorem dX7_since_52 : decode cX7_since 52 = .ok (.goto (-50), 3) := by decide +kernel
theorem dX7_since_55 : decode cX7_since 55 = .ok (.aload_n 0, 1) := by decide +kernel
theorem dX7_since_56 : decode cX7_since 56 = .ok (.getfield 12, 3) := by decide +kernel
theorem dX7_since_59 : decode cX7_since 59 = .ok (.invokevirtual 105, 3) := by decide +kernel
theorem dX7_since_62 : decode cX7_since 62 = .ok (.ireturn, 1) := by decide +kernel
set_option maxRecDepth 20000 in
theorem ggX7_split_X7_isWithin : GoodIn wsX7_split wsX7_isWithin := goodIn_r _ [6] (by decide +kernel) (by decide +kernel)
set_option maxRecDepth 20000 in
theorem gX7_split_X7_isWithin : GoodIn wsX7_split (va_wsS RX7 66 yX7_isWithin wsX7_isWithin) := goodIn_app (goodIn_of _ (by decide +kernel)) ggX7_split_X7_isWithin
set_option maxRecDepth 20000 in
theorem ggX7_split_X2_startFrom : GoodIn wsX7_split wsX2_startFrom := goodIn_r _ [10, 11, 56] (by decide +kernel) (by decide +kernel)
set_option maxRecDepth 20000 in
theorem gX7_split_X2_startFrom_n109 : GoodIn wsX7_split (wsX2_startFrom) := ggX7_split_X2_startFrom
set_option maxRecDepth 20000 in
theorem ggX7_split_X2_next : GoodIn wsX7_split wsX2_next := goodIn_r _ [14, 15, 11, 16, 56] (by decide +kernel) (by decide +kernel)
set_option maxRecDepth 20000 in
theorem gX7_split_X2_next_n113 : GoodIn wsX7_split (wsX2_next) := ggX7_split_X2_next
set_option maxRecDepth 20000 in
theorem ggX7_split_X6_setHidden : GoodIn wsX7_split wsX6_setHidden := goodIn_r _ [20, 21, 22, 23, 24, 25, 26, 27, 18, 28, 29, 30, 43, 44, 45, 46, 47, 48, 49, 50, 51, 52, 53, 54, 55] (by decide +kernel) (by decide +kernel)
set_option maxRecDepth 20000 in
theorem gX7_split_X6_setHidden_n95 : GoodIn wsX7_split (wsX6_setHidden) := ggX7_split_X6_setHidden
set_option maxRecDepth 20000 in
theorem ggX7_split_X6_hiddenArcs : GoodIn wsX7_split wsX6_hiddenArcs := goodIn_r _ [33, 34, 23, 35, 43, 44, 45, 46, 47, 48, 49, 50, 51, 52, 53, 54, 55] (by decide +kernel) (by decide +kernel)
set_option maxRecDepth 20000 in
theorem gX7_split_X6_hiddenArcs_n105 : GoodIn wsX7_split (wsX6_hiddenArcs) := ggX7_split_X6_hiddenArcs
theorem dX7_split_0 : decode cX7_split 0 = .ok (.iload_n 2, 1) := by decide +kernel
theorem dX7_split_1 : decode cX7_split 1 = .ok (.iconst 1, 1) := by decide +kernel
theorem dX7_split_2 : decode cX7_split 2 = .ok (.bipush 20, 2) := by decide +kernel
theorem dX7_split_4 : decode cX7_split 4 = .ok (.invokestatic 66, 3) := by decide +kernel
theorem dX7_split_7 : decode cX7_split 7 = .ok (.ifCond .eq 14, 3) := by decide +kernel
theorem dX7_split_10 : decode cX7_split 10 = .ok (.iload_n 3, 1) := by decide +kernel
theorem dX7_split_11 : decode cX7_split 11 = .ok (.iconst 0, 1) := by decide +kernel
theorem dX7_split_12 : decode cX7_split 12 = .ok (.iload_n 2, 1) := by decide +kernel
theorem dX7_split_13 : decode cX7_split 13 = .ok (.iconst 1, 1) := by decide +kernel
theorem dX7_split_14 : decode cX7_split 14 = .ok (.isub, 1) := by decide +kernel
theorem dX7_split_15 : decode cX7_split 15 = .ok (.invokestatic 66, 3) := by decide +kernel
theorem dX7_split_18 : decode cX7_split 18 = .ok (.ifCond .ne 6, 3) := by decide +kernel
theorem dX7_split_21 : decode cX7_split 21 = .ok (.bipush (-2), 2) := by decide +kernel
theorem dX7_split_23 : decode cX7_split 23 = .ok (.ireturn, 1) := by decide +kernel
theorem dX7_split_24 : decode cX7_split 24 = .ok (.aload_n 0, 1) := by decide +kernel
theorem dX7_split_25 : decode cX7_split 25 = .ok (.getfield 51, 3) := by decide +kernel
theorem dX7_split_28 : decode cX7_split 28 = .ok (.iload_n 1, 1) := by decide +kernel
theorem dX7_split_29 : decode cX7_split 29 = .ok (.invokevirtual 109, 3) := by decide +kernel
theorem dX7_split_32 : decode cX7_split 32 = .ok (.iconst 0, 1) := by decide +kernel
theorem dX7_split_33 : decode cX7_split 33 = .ok (.istore 4, 2) := by decide +kernel
theorem dX7_split_35 : decode cX7_split 35 = .ok (.iload 4, 2) := by decide +kernel
theorem dX7_split_37 : decode cX7_split 37 = .ok (.aload_n 0, 1) := by decide +kernel
theorem dX7_split_38 : decode cX7_split 38 = .ok (.getfield 12, 3) := by decide +kernel
theorem dX7_split_41 : decode cX7_split 41 = .ok (.getfield 85, 3) := by decide +kernel
theorem dX7_split_44 : decode cX7_split 44 = .ok (.if_icmp .ge 44, 3) := by decide +kernel
theorem dX7_split_47 : decode cX7_split 47 = .ok (.aload_n 0, 1) := by decide +kernel
theorem dX7_split_48 : decode cX7_split 48 = .ok (.getfield 12, 3) := by decide +kernel
theorem dX7_split_51 : decode cX7_split 51 = .ok (.aload_n 0, 1) := by decide +kernel
theorem dX7_split_52 : decode cX7_split 52 = .ok (.getfield 12, 3) := by decide +kernel
theorem dX7_split_55 : decode cX7_split 55 = .ok (.getfield 99, 3) := by decide +kernel
theorem dX7_split_58 : decode cX7_split 58 = .ok (.iload 4, 2) := by decide +kernel
theorem dX7_split_60 : decode cX7_split 60 = .ok (.iaload, 1) := by decide +kernel
theorem dX7_split_61 : decode cX7_split 61 = .ok (.aload_n 0, 1) := by decide +kernel
theorem dX7_split_62 : decode cX7_split 62 = .ok (.getfield 51, 3) := by decide +kernel
theorem dX7_split_65 : decode cX7_split 65 = .ok (.invokevirtual 113, 3) := by decide +kernel
theorem dX7_split_68 : decode cX7_split 68 = .ok (.iload_n 2, 1) := by decide +kernel
theorem dX7_split_69 : decode cX7_split 69 = .ok (.irem, 1) := by decide +kernel
theorem dX7_split_70 : decode cX7_split 70 = .ok (.iload_n 3, 1) := by decide +kernel
theorem dX7_split_71 : decode cX7_split 71 = .ok (.if_icmp .ne 7, 3) := by decide +kernel
theorem dX7_split_74 : decode cX7_split 74 = .ok (.iconst 1, 1) := by decide +kernel
theorem dX7_split_75 : decode cX7_split 75 = .ok (.goto 4, 3) := by decide +kernel
theorem dX7_split_78 : decode cX7_split 78 = .ok (.iconst 0, 1) := by decide +kernel
theorem dX7_split_79 : decode cX7_split 79 = .ok (.invokevirtual 95, 3) := by decide +kernel
theorem dX7_split_82 : decode cX7_split 82 = .ok (.iinc 4 1, 3) := by decide +kernel
theorem dX7_split_85 : decode cX7_split 85 = .ok (.goto (-50), 3) := by decide +kernel
theorem dX7_split_88 : decode cX7_split 88 = .ok (.aload_n 0, 1) := by decide +kernel
theorem dX7_split_89 : decode cX7_split 89 = .ok (.getfield 12, 3) := by decide +kernel
theorem dX7_split_92 : decode cX7_split 92 = .ok (.invokevirtual 105, 3) := by decide +kernel
theorem dX7_split_95 : decode cX7_split 95 = .ok (.ireturn, 1) := by decide +kernel
set_option maxRecDepth 20000 in
theorem ggX7_count_X6_hiddenArcs : GoodIn wsX7_count wsX6_hiddenArcs := goodIn_r _ [5, 6, 7, 8, 21, 22, 23, 24, 25, 26, 27, 28, 29, 30, 31, 32, 33] (by decide +kernel) (by decide +kernel)
set_option maxRecDepth 20000 in
theorem gX7_count_X6_hiddenArcs_n105 : GoodIn wsX7_count (wsX6_hiddenArcs) := ggX7_count_X6_hiddenArcs
set_option maxRecDepth 20000 in
theorem ggX7_count_X6_candidateTotal : GoodIn wsX7_count wsX6_candidateTotal := goodIn_r _ [11, 12, 6, 13, 2, 4, 3, 5, 7, 8, 21, 22, 23, 24, 25, 26, 27, 28, 29, 30, 31, 32, 33] (by decide +kernel) (by decide +kernel)
set_option maxRecDepth 20000 in
theorem gX7_count_X6_candidateTotal_n119 : GoodIn wsX7_count (wsX6_candidateTotal) := ggX7_count_X6_candidateTotal
theorem dX7_count_0 : decode cX7_count 0 = .ok (.iload_n 1, 1) := by decide +kernel
theorem dX7_count_1 : decode cX7_count 1 = .ok (.tableswitch 75 0 4 #[35, 43, 51, 59, 67], 35) := by decide +kernel
theorem dX7_count_36 : decode cX7_count 36 = .ok (.aload_n 0, 1) := by decide +kernel
theorem dX7_count_37 : decode cX7_count 37 = .ok (.getfield 12, 3) := by decide +kernel
theorem dX7_count_40 : decode cX7_count 40 = .ok (.getfield 116, 3) := by decide +kernel
theorem dX7_count_43 : decode cX7_count 43 = .ok (.ireturn, 1) := by decide +kernel
theorem dX7_count_44 : decode cX7_count 44 = .ok (.aload_n 0, 1) := by decide +kernel
theorem dX7_count_45 : decode cX7_count 45 = .ok (.getfield 12, 3) := by decide +kernel
theorem dX7_count_48 : decode cX7_count 48 = .ok (.getfield 70, 3) := by decide +kernel
theorem dX7_count_51 : decode cX7_count 51 = .ok (.ireturn, 1) := by decide +kernel
theorem dX7_count_52 : decode cX7_count 52 = .ok (.aload_n 0, 1) := by decide +kernel
theorem dX7_count_53 : decode cX7_count 53 = .ok (.getfield 12, 3) := by decide +kernel
theorem dX7_count_56 : decode cX7_count 56 = .ok (.getfield 85, 3) := by decide +kernel
theorem dX7_count_59 : decode cX7_count 59 = .ok (.ireturn, 1) := by decide +kernel
theorem dX7_count_60 : decode cX7_count 60 = .ok (.aload_n 0, 1) := by decide +kernel
theorem dX7_count_61 : decode cX7_count 61 = .ok (.getfield 12, 3) := by decide +kernel
theorem dX7_count_64 : decode cX7_count 64 = .ok (.invokevirtual 105, 3) := by decide +kernel
theorem dX7_count_67 : decode cX7_count 67 = .ok (.ireturn, 1) := by decide +kernel
theorem dX7_count_68 : decode cX7_count 68 = .ok (.aload_n 0, 1) := by decide +kernel
theorem dX7_count_69 : decode cX7_count 69 = .ok (.getfield 12, 3) := by decide +kernel
theorem dX7_count_72 : decode cX7_count 72 = .ok (.invokevirtual 119, 3) := by decide +kernel
theorem dX7_count_75 : decode cX7_count 75 = .ok (.ireturn, 1) := by decide +kernel
theorem dX7_count_76 : decode cX7_count 76 = .ok (.bipush (-2), 2) := by decide +kernel
theorem dX7_count_78 : decode cX7_count 78 = .ok (.ireturn, 1) := by decide +kernel
set_option maxRecDepth 20000 in
theorem ggX7_paths_X7_isWithin : GoodIn wsX7_paths wsX7_isWithin := goodIn_r _ [5] (by decide +kernel) (by decide +kernel)
set_option maxRecDepth 20000 in
theorem gX7_paths_X7_isWithin : GoodIn wsX7_paths (va_wsS RX7 66 yX7_isWithin wsX7_isWithin) := goodIn_app (goodIn_of _ (by decide +kernel)) ggX7_paths_X7_isWithin
set_option maxRecDepth 20000 in
theorem ggX7_paths_X4_setPaths : GoodIn wsX7_paths wsX4_setPaths := goodIn_r _ [9, 10, 11, 12, 20, 21, 22, 23] (by decide +kernel) (by decide +kernel)
set_option maxRecDepth 20000 in
theorem gX7_paths_X4_setPaths_n122 : GoodIn wsX7_paths (wsX4_setPaths) := ggX7_paths_X4_setPaths
theorem dX7_paths_0 : decode cX7_paths 0 = .ok (.iload_n 1, 1) := by decide +kernel
theorem dX7_paths_1 : decode cX7_paths 1 = .ok (.iconst 0, 1) := by decide +kernel
theorem dX7_paths_2 : decode cX7_paths 2 = .ok (.bipush 9, 2) := by decide +kernel
theorem dX7_paths_4 : decode cX7_paths 4 = .ok (.invokestatic 66, 3) := by decide +kernel
theorem dX7_paths_7 : decode cX7_paths 7 = .ok (.ifCond .eq 22, 3) := by decide +kernel
theorem dX7_paths_10 : decode cX7_paths 10 = .ok (.iload_n 2, 1) := by decide +kernel
theorem dX7_paths_11 : decode cX7_paths 11 = .ok (.iconst 0, 1) := by decide +kernel
theorem dX7_paths_12 : decode cX7_paths 12 = .ok (.bipush 9, 2) := by decide +kernel
theorem dX7_paths_14 : decode cX7_paths 14 = .ok (.invokestatic 66, 3) := by decide +kernel
theorem dX7_paths_17 : decode cX7_paths 17 = .ok (.ifCond .eq 12, 3) := by decide +kernel
theorem dX7_paths_20 : decode cX7_paths 20 = .ok (.iload_n 3, 1) := by decide +kernel
theorem dX7_paths_21 : decode cX7_paths 21 = .ok (.iconst 1, 1) := by decide +kernel
theorem dX7_paths_22 : decode cX7_paths 22 = .ok (.iconst 2, 1) := by decide +kernel
theorem dX7_paths_23 : decode cX7_paths 23 = .ok (.invokestatic 66, 3) := by decide +kernel
theorem dX7_paths_26 : decode cX7_paths 26 = .ok (.ifCond .ne 6, 3) := by decide +kernel
theorem dX7_paths_29 : decode cX7_paths 29 = .ok (.bipush (-2), 2) := by decide +kernel
theorem dX7_paths_31 : decode cX7_paths 31 = .ok (.ireturn, 1) := by decide +kernel
theorem dX7_paths_32 : decode cX7_paths 32 = .ok (.aload_n 0, 1) := by decide +kernel
theorem dX7_paths_33 : decode cX7_paths 33 = .ok (.getfield 21, 3) := by decide +kernel
theorem dX7_paths_36 : decode cX7_paths 36 = .ok (.iload_n 1, 1) := by decide +kernel
theorem dX7_paths_37 : decode cX7_paths 37 = .ok (.iload_n 2, 1) := by decide +kernel
theorem dX7_paths_38 : decode cX7_paths 38 = .ok (.iload_n 3, 1) := by decide +kernel
theorem dX7_paths_39 : decode cX7_paths 39 = .ok (.invokevirtual 122, 3) := by decide +kernel
theorem dX7_paths_42 : decode cX7_paths 42 = .ok (.iconst 1, 1) := by decide +kernel
theorem dX7_paths_43 : decode cX7_paths 43 = .ok (.ireturn, 1) := by decide +kernel
set_option maxRecDepth 20000 in
theorem ggX7_weigh_X7_isMeasure : GoodIn wsX7_weigh wsX7_isMeasure := goodIn_r _ [5, 6, 7, 4, 8] (by decide +kernel) (by decide +kernel)
set_option maxRecDepth 20000 in
theorem gX7_weigh_X7_isMeasure : GoodIn wsX7_weigh (va_wsS RX7 126 yX7_isMeasure wsX7_isMeasure) := goodIn_app (goodIn_of _ (by decide +kernel)) ggX7_weigh_X7_isMeasure
set_option maxRecDepth 20000 in
theorem ggX7_weigh_X7_isWithin : GoodIn wsX7_weigh wsX7_isWithin := goodIn_r _ [8] (by decide +kernel) (by decide +kernel)
set_option maxRecDepth 20000 in
theorem gX7_weigh_X7_isWithin : GoodIn wsX7_weigh (va_wsS RX7 66 yX7_isWithin wsX7_isWithin) := goodIn_app (goodIn_of _ (by decide +kernel)) ggX7_weigh_X7_isWithin
theorem dX7_weigh_0 : decode cX7_weigh 0 = .ok (.iload_n 1, 1) := by decide +kernel
theorem dX7_weigh_1 : decode cX7_weigh 1 = .ok (.invokestatic 126, 3) := by decide +kernel
theorem dX7_weigh_4 : decode cX7_weigh 4 = .ok (.ifCond .eq 14, 3) := by decide +kernel
theorem dX7_weigh_7 : decode cX7_weigh 7 = .ok (.iload_n 2, 1) := by decide +kernel
theorem dX7_weigh_8 : decode cX7_weigh 8 = .ok (.bipush (-99), 2) := by decide +kernel
theorem dX7_weigh_10 : decode cX7_weigh 10 = .ok (.bipush 99, 2) := by decide +kernel
theorem dX7_weigh_12 : decode cX7_weigh 12 = .ok (.invokestatic 66, 3) := by decide +kernel
theorem dX7_weigh_15 : decode cX7_weigh 15 = .ok (.ifCond .ne 6, 3) := by decide +kernel
theorem dX7_weigh_18 : decode cX7_weigh 18 = .ok (.bipush (-2), 2) := by decide +kernel
theorem dX7_weigh_20 : decode cX7_weigh 20 = .ok (.ireturn, 1) := by decide +kernel
theorem dX7_weigh_21 : decode cX7_weigh 21 = .ok (.aload_n 0, 1) := by decide +kernel
theorem dX7_weigh_22 : decode cX7_weigh 22 = .ok (.getfield 30, 3) := by decide +kernel
theorem dX7_weigh_25 : decode cX7_weigh 25 = .ok (.getfield 129, 3) := by decide +kernel
theorem dX7_weigh_28 : decode cX7_weigh 28 = .ok (.iload_n 1, 1) := by decide +kernel
theorem dX7_weigh_29 : decode cX7_weigh 29 = .ok (.iaload, 1) := by decide +kernel
theorem dX7_weigh_30 : decode cX7_weigh 30 = .ok (.istore_n 3, 1) := by decide +kernel
theorem dX7_weigh_31 : decode cX7_weigh 31 = .ok (.aload_n 0, 1) := by decide +kernel
theorem dX7_weigh_32 : decode cX7_weigh 32 = .ok (.getfield 30, 3) := by decide +kernel
theorem dX7_weigh_35 : decode cX7_weigh 35 = .ok (.getfield 129, 3) := by decide +kernel
theorem dX7_weigh_38 : decode cX7_weigh 38 = .ok (.iload_n 1, 1) := by decide +kernel
theorem dX7_weigh_39 : decode cX7_weigh 39 = .ok (.iload_n 2, 1) := by decide +kernel
theorem dX7_weigh_40 : decode cX7_weigh 40 = .ok (.iastore, 1) := by decide +kernel
theorem dX7_weigh_41 : decode cX7_weigh 41 = .ok (.iload_n 3, 1) := by decide +kernel
theorem dX7_weigh_42 : decode cX7_weigh 42 = .ok (.bipush 100, 2) := by decide +kernel
theorem dX7_weigh_44 : decode cX7_weigh 44 = .ok (.iadd, 1) := by decide +kernel
theorem dX7_weigh_45 : decode cX7_weigh 45 = .ok (.ireturn, 1) := by decide +kernel
set_option maxRecDepth 20000 in
theorem ggX7_weight_X7_isMeasure : GoodIn wsX7_weight wsX7_isMeasure := goodIn_r _ [5, 6, 7, 4, 8] (by decide +kernel) (by decide +kernel)
set_option maxRecDepth 20000 in
theorem gX7_weight_X7_isMeasure : GoodIn wsX7_weight (va_wsS RX7 126 yX7_isMeasure wsX7_isMeasure) := goodIn_app (goodIn_of _ (by decide +kernel)) ggX7_weight_X7_isMeasure
theorem dX7_weight_0 : decode cX7_weight 0 = .ok (.iload_n 1, 1) := by decide +kernel
theorem dX7_weight_1 : decode cX7_weight 1 = .ok (.invokestatic 126, 3) := by decide +kernel
theorem dX7_weight_4 : decode cX7_weight 4 = .ok (.ifCond .ne 6, 3) := by decide +kernel
theorem dX7_weight_7 : decode cX7_weight 7 = .ok (.bipush (-2), 2) := by decide +kernel
theorem dX7_weight_9 : decode cX7_weight 9 = .ok (.ireturn, 1) := by decide +kernel
theorem dX7_weight_10 : decode cX7_weight 10 = .ok (.aload_n 0, 1) := by decide +kernel
theorem dX7_weight_11 : decode cX7_weight 11 = .ok (.getfield 30, 3) := by decide +kernel
theorem dX7_weight_14 : decode cX7_weight 14 = .ok (.getfield 129, 3) := by decide +kernel
theorem dX7_weight_17 : decode cX7_weight 17 = .ok (.iload_n 1, 1) := by decide +kernel
theorem dX7_weight_18 : decode cX7_weight 18 = .ok (.iaload, 1) := by decide +kernel
theorem dX7_weight_19 : decode cX7_weight 19 = .ok (.bipush 100, 2) := by decide +kernel
theorem dX7_weight_21 : decode cX7_weight 21 = .ok (.iadd, 1) := by decide +kernel
