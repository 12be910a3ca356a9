set_option maxRecDepth 20000 in
theorem gX6_useInBest_X6_refresh : GoodIn wsX6_useInBest (wsV RX6 100 RX6 yX6_refresh wsX6_refresh) := goodIn_app (goodIn_of _ (by decide +kernel)) ggX6_useInBest_X6_refresh
set_option maxRecDepth 20000 in
theorem ggX6_useInBest_X11_bitAt : GoodIn wsX6_useInBest wsX11_bitAt := goodIn_r _ [59] (by decide +kernel) (by decide +kernel)
set_option maxRecDepth 20000 in
theorem gX6_useInBest_X11_bitAt_n37 : GoodIn wsX6_useInBest (wsX11_bitAt) := ggX6_useInBest_X11_bitAt
theorem dX6_useInBest_0 : decode cX6_useInBest 0 = .ok (.aload_n 0, 1) := by decide +kernel
theorem dX6_useInBest_1 : decode cX6_useInBest 1 = .ok (.invokevirtual 100, 3) := by decide +kernel
theorem dX6_useInBest_4 : decode cX6_useInBest 4 = .ok (.aload_n 0, 1) := by decide +kernel
theorem dX6_useInBest_5 : decode cX6_useInBest 5 = .ok (.getfield 103, 3) := by decide +kernel
theorem dX6_useInBest_8 : decode cX6_useInBest 8 = .ok (.ifCond .ne 7, 3) := by decide +kernel
theorem dX6_useInBest_11 : decode cX6_useInBest 11 = .ok (.iconst (-1), 1) := by decide +kernel
theorem dX6_useInBest_12 : decode cX6_useInBest 12 = .ok (.goto 20, 3) := by decide +kernel
theorem dX6_useInBest_15 : decode cX6_useInBest 15 = .ok (.aload_n 0, 1) := by decide +kernel
theorem dX6_useInBest_16 : decode cX6_useInBest 16 = .ok (.getfield 110, 3) := by decide +kernel
theorem dX6_useInBest_19 : decode cX6_useInBest 19 = .ok (.iload_n 1, 1) := by decide +kernel
theorem dX6_useInBest_20 : decode cX6_useInBest 20 = .ok (.invokestatic 37, 3) := by decide +kernel
theorem dX6_useInBest_23 : decode cX6_useInBest 23 = .ok (.aload_n 0, 1) := by decide +kernel
theorem dX6_useInBest_24 : decode cX6_useInBest 24 = .ok (.getfield 113, 3) := by decide +kernel
theorem dX6_useInBest_27 : decode cX6_useInBest 27 = .ok (.iload_n 1, 1) := by decide +kernel
theorem dX6_useInBest_28 : decode cX6_useInBest 28 = .ok (.invokestatic 37, 3) := by decide +kernel
theorem dX6_useInBest_31 : decode cX6_useInBest 31 = .ok (.iadd, 1) := by decide +kernel
theorem dX6_useInBest_32 : decode cX6_useInBest 32 = .ok (.ireturn, 1) := by decide +kernel
set_option maxRecDepth 20000 in
theorem ggX6_mostWorth_X6_refresh : GoodIn wsX6_mostWorth wsX6_refresh := goodIn_r _ [7, 8, 9, 10, 1, 11, 12, 13, 14, 15, 16, 17, 18, 19, 20, 21, 22, 6, 23, 24, 25, 26, 27, 28, 29, 30, 31, 32, 33, 34, 35, 36, 37, 38, 39, 40, 41, 42, 43, 44, 45, 46, 47, 48, 49, 50, 51, 52, 53, 54, 55, 56, 57, 58, 59, 60, 61, 62, 63, 64, 65, 66, 67, 68, 69, 70, 71, 72, 73, 74, 75, 76, 77, 78, 79, 80, 81, 82, 83, 84, 85, 86, 87] (by decide +kernel) (by decide +kernel)
set_option maxRecDepth 20000 in
theorem gX6_mostWorth_X6_refresh : GoodIn wsX6_mostWorth (wsV RX6 100 RX6 yX6_refresh wsX6_refresh) := goodIn_app (goodIn_of _ (by decide +kernel)) ggX6_mostWorth_X6_refresh
theorem dX6_mostWorth_0 : decode cX6_mostWorth 0 = .ok (.aload_n 0, 1) := by decide +kernel
theorem dX6_mostWorth_1 : decode cX6_mostWorth 1 = .ok (.invokevirtual 100, 3) := by decide +kernel
theorem dX6_mostWorth_4 : decode cX6_mostWorth 4 = .ok (.sipush 1000, 3) := by decide +kernel
theorem dX6_mostWorth_7 : decode cX6_mostWorth 7 = .ok (.istore_n 2, 1) := by decide +kernel
theorem dX6_mostWorth_8 : decode cX6_mostWorth 8 = .ok (.iload_n 2, 1) := by decide +kernel
theorem dX6_mostWorth_9 : decode cX6_mostWorth 9 = .ok (.ifCond .lt 31, 3) := by decide +kernel
theorem dX6_mostWorth_12 : decode cX6_mostWorth 12 = .ok (.aload_n 0, 1) := by decide +kernel
theorem dX6_mostWorth_13 : decode cX6_mostWorth 13 = .ok (.getfield 15, 3) := by decide +kernel
theorem dX6_mostWorth_16 : decode cX6_mostWorth 16 = .ok (.iload_n 2, 1) := by decide +kernel
theorem dX6_mostWorth_17 : decode cX6_mostWorth 17 = .ok (.iaload, 1) := by decide +kernel
theorem dX6_mostWorth_18 : decode cX6_mostWorth 18 = .ok (.iconst (-1), 1) := by decide +kernel
theorem dX6_mostWorth_19 : decode cX6_mostWorth 19 = .ok (.if_icmp .eq 15, 3) := by decide +kernel
theorem dX6_mostWorth_22 : decode cX6_mostWorth 22 = .ok (.aload_n 0, 1) := by decide +kernel
theorem dX6_mostWorth_23 : decode cX6_mostWorth 23 = .ok (.getfield 15, 3) := by decide +kernel
theorem dX6_mostWorth_26 : decode cX6_mostWorth 26 = .ok (.iload_n 2, 1) := by decide +kernel
theorem dX6_mostWorth_27 : decode cX6_mostWorth 27 = .ok (.iaload, 1) := by decide +kernel
theorem dX6_mostWorth_28 : decode cX6_mostWorth 28 = .ok (.iload_n 1, 1) := by decide +kernel
theorem dX6_mostWorth_29 : decode cX6_mostWorth 29 = .ok (.if_icmp .gt 5, 3) := by decide +kernel
theorem dX6_mostWorth_32 : decode cX6_mostWorth 32 = .ok (.iload_n 2, 1) := by decide +kernel
theorem dX6_mostWorth_33 : decode cX6_mostWorth 33 = .ok (.ireturn, 1) := by decide +kernel
theorem dX6_mostWorth_34 : decode cX6_mostWorth 34 = .ok (.iinc 2 (-1), 3) := by decide +kernel
theorem dX6_mostWorth_37 : decode cX6_mostWorth 37 = .ok (.goto (-29), 3) := by decide +kernel
theorem dX6_mostWorth_40 : decode cX6_mostWorth 40 = .ok (.ldc 106, 2) := by decide +kernel
theorem dX6_mostWorth_42 : decode cX6_mostWorth 42 = .ok (.ireturn, 1) := by decide +kernel
set_option maxRecDepth 20000 in
theorem ggX6_refresh_J7_fill_53178 : GoodIn wsX6_refresh wsJ7_fill_53178 := goodIn_r _ [8] (by decide +kernel) (by decide +kernel)
set_option maxRecDepth 20000 in
theorem gX6_refresh_J7_fill_53178 : GoodIn wsX6_refresh (va_wsS RX6 119 yJ7_fill_53178 wsJ7_fill_53178) := goodIn_app (goodIn_of _ (by decide +kernel)) ggX6_refresh_J7_fill_53178
set_option maxRecDepth 20000 in
theorem ggX6_refresh_J6_numberOfTrailingZeros_0f7a4 : GoodIn wsX6_refresh wsJ6_numberOfTrailingZeros_0f7a4 := goodIn_r _ [12, 13] (by decide +kernel) (by decide +kernel)
set_option maxRecDepth 20000 in
theorem gX6_refresh_J6_numberOfTrailingZeros_0f7a4 : GoodIn wsX6_refresh (va_wsS RX6 88 yJ6_numberOfTrailingZeros_0f7a4 wsJ6_numberOfTrailingZeros_0f7a4) := goodIn_app (goodIn_of _ (by decide +kernel)) ggX6_refresh_J6_numberOfTrailingZeros_0f7a4
set_option maxRecDepth 20000 in
theorem ggX6_refresh_X6_grow : GoodIn wsX6_refresh wsX6_grow := goodIn_r _ [18, 2, 19, 20, 21, 17, 22, 4, 3, 23, 24, 25, 26, 27, 28, 29, 30, 31, 32, 7, 33, 34, 35, 36, 37, 38, 39, 40, 41, 42, 43, 44, 45, 46, 47, 48, 9, 10, 11, 12, 13, 14, 15, 16, 56, 57, 58, 59, 60, 61, 62, 63, 64, 65, 66, 67, 68, 69, 70, 71, 72, 73, 74, 75, 76, 77, 78, 79, 80, 81, 82] (by decide +kernel) (by decide +kernel)
set_option maxRecDepth 20000 in
theorem gX6_refresh_X6_grow : GoodIn wsX6_refresh (wsV RX6 125 RX6 yX6_grow wsX6_grow) := goodIn_app (goodIn_of _ (by decide +kernel)) ggX6_refresh_X6_grow
set_option maxRecDepth 20000 in
theorem ggX6_refresh_X6_putInOrder : GoodIn wsX6_refresh wsX6_putInOrder := goodIn_r _ [52, 30, 53, 54, 55, 49, 50, 51, 17, 56, 57, 58, 59, 60, 61, 62, 63, 64] (by decide +kernel) (by decide +kernel)
set_option maxRecDepth 20000 in
theorem gX6_refresh_X6_putInOrder : GoodIn wsX6_refresh (wsV RX6 129 RX6 yX6_putInOrder wsX6_putInOrder) := goodIn_app (goodIn_of _ (by decide +kernel)) ggX6_refresh_X6_putInOrder
theorem dX6_refresh_0 : decode cX6_refresh 0 = .ok (.aload_n 0, 1) := by decide +kernel
theorem dX6_refresh_1 : decode cX6_refresh 1 = .ok (.getfield 21, 3) := by decide +kernel
theorem dX6_refresh_4 : decode cX6_refresh 4 = .ok (.aload_n 0, 1) := by decide +kernel
theorem dX6_refresh_5 : decode cX6_refresh 5 = .ok (.getfield 25, 3) := by decide +kernel
theorem dX6_refresh_8 : decode cX6_refresh 8 = .ok (.getfield 116, 3) := by decide +kernel
theorem dX6_refresh_11 : decode cX6_refresh 11 = .ok (.if_icmp .ne 4, 3) := by decide +kernel
theorem dX6_refresh_14 : decode cX6_refresh 14 = .ok (.return_, 1) := by decide +kernel
theorem dX6_refresh_15 : decode cX6_refresh 15 = .ok (.aload_n 0, 1) := by decide +kernel
theorem dX6_refresh_16 : decode cX6_refresh 16 = .ok (.aload_n 0, 1) := by decide +kernel
theorem dX6_refresh_17 : decode cX6_refresh 17 = .ok (.getfield 25, 3) := by decide +kernel
theorem dX6_refresh_20 : decode cX6_refresh 20 = .ok (.getfield 116, 3) := by decide +kernel
theorem dX6_refresh_23 : decode cX6_refresh 23 = .ok (.putfield 21, 3) := by decide +kernel
theorem dX6_refresh_26 : decode cX6_refresh 26 = .ok (.aload_n 0, 1) := by decide +kernel
theorem dX6_refresh_27 : decode cX6_refresh 27 = .ok (.iconst 0, 1) := by decide +kernel
theorem dX6_refresh_28 : decode cX6_refresh 28 = .ok (.putfield 103, 3) := by decide +kernel
theorem dX6_refresh_31 : decode cX6_refresh 31 = .ok (.aload_n 0, 1) := by decide +kernel
theorem dX6_refresh_32 : decode cX6_refresh 32 = .ok (.getfield 15, 3) := by decide +kernel
theorem dX6_refresh_35 : decode cX6_refresh 35 = .ok (.iconst (-1), 1) := by decide +kernel
theorem dX6_refresh_36 : decode cX6_refresh 36 = .ok (.invokestatic 119, 3) := by decide +kernel
theorem dX6_refresh_39 : decode cX6_refresh 39 = .ok (.aload_n 0, 1) := by decide +kernel
theorem dX6_refresh_40 : decode cX6_refresh 40 = .ok (.getfield 25, 3) := by decide +kernel
theorem dX6_refresh_43 : decode cX6_refresh 43 = .ok (.getfield 55, 3) := by decide +kernel
theorem dX6_refresh_46 : decode cX6_refresh 46 = .ok (.ifCond .eq 44, 3) := by decide +kernel
theorem dX6_refresh_49 : decode cX6_refresh 49 = .ok (.aload_n 0, 1) := by decide +kernel
theorem dX6_refresh_50 : decode cX6_refresh 50 = .ok (.getfield 25, 3) := by decide +kernel
theorem dX6_refresh_53 : decode cX6_refresh 53 = .ok (.getfield 55, 3) := by decide +kernel
theorem dX6_refresh_56 : decode cX6_refresh 56 = .ok (.invokestatic 88, 3) := by decide +kernel
theorem dX6_refresh_59 : decode cX6_refresh 59 = .ok (.istore_n 1, 1) := by decide +kernel
theorem dX6_refresh_60 : decode cX6_refresh 60 = .ok (.aload_n 0, 1) := by decide +kernel
theorem dX6_refresh_61 : decode cX6_refresh 61 = .ok (.iconst 0, 1) := by decide +kernel
theorem dX6_refresh_62 : decode cX6_refresh 62 = .ok (.iconst 1, 1) := by decide +kernel
theorem dX6_refresh_63 : decode cX6_refresh 63 = .ok (.iload_n 1, 1) := by decide +kernel
theorem dX6_refresh_64 : decode cX6_refresh 64 = .ok (.ishl, 1) := by decide +kernel
theorem dX6_refresh_65 : decode cX6_refresh 65 = .ok (.aload_n 0, 1) := by decide +kernel
theorem dX6_refresh_66 : decode cX6_refresh 66 = .ok (.getfield 25, 3) := by decide +kernel
theorem dX6_refresh_69 : decode cX6_refresh 69 = .ok (.getfield 81, 3) := by decide +kernel
theorem dX6_refresh_72 : decode cX6_refresh 72 = .ok (.iload_n 1, 1) := by decide +kernel
theorem dX6_refresh_73 : decode cX6_refresh 73 = .ok (.iaload, 1) := by decide +kernel
theorem dX6_refresh_74 : decode cX6_refresh 74 = .ok (.iconst 0, 1) := by decide +kernel
theorem dX6_refresh_75 : decode cX6_refresh 75 = .ok (.iconst 0, 1) := by decide +kernel
theorem dX6_refresh_76 : decode cX6_refresh 76 = .ok (.iconst 0, 1) := by decide +kernel
theorem dX6_refresh_77 : decode cX6_refresh 77 = .ok (.invokevirtual 125, 3) := by decide +kernel
theorem dX6_refresh_80 : decode cX6_refresh 80 = .ok (.aload_n 0, 1) := by decide +kernel
theorem dX6_refresh_81 : decode cX6_refresh 81 = .ok (.iconst 0, 1) := by decide +kernel
theorem dX6_refresh_82 : decode cX6_refresh 82 = .ok (.aload_n 0, 1) := by decide +kernel
theorem dX6_refresh_83 : decode cX6_refresh 83 = .ok (.getfield 103, 3) := by decide +kernel
theorem dX6_refresh_86 : decode cX6_refresh 86 = .ok (.iconst 0, 1) := by decide +kernel
theorem dX6_refresh_87 : decode cX6_refresh 87 = .ok (.invokevirtual 129, 3) := by decide +kernel
theorem dX6_refresh_90 : decode cX6_refresh 90 = .ok (.return_, 1) := by decide +kernel
set_option maxRecDepth 20000 in
theorem ggX6_grow_X6_weigh : GoodIn wsX6_grow wsX6_weigh := goodIn_r _ [6, 7, 8, 9, 10, 11, 12, 13, 14, 5, 15, 16, 17, 18, 19, 20, 21, 22, 23, 24, 25, 26, 27, 28, 29, 30, 31, 32, 33, 34, 35, 44, 45, 46, 47, 48, 49, 50, 51, 52] (by decide +kernel) (by decide +kernel)
set_option maxRecDepth 20000 in
theorem gX6_grow_X6_weigh : GoodIn wsX6_grow (wsV RX6 133 RX6 yX6_weigh wsX6_weigh) := goodIn_app (goodIn_of _ (by decide +kernel)) ggX6_grow_X6_weigh
set_option maxRecDepth 20000 in
theorem ggX6_grow_J6_numberOfTrailingZeros_0f7a4 : GoodIn wsX6_grow wsJ6_numberOfTrailingZeros_0f7a4 := goodIn_r _ [39, 40] (by decide +kernel) (by decide +kernel)
set_option maxRecDepth 20000 in
theorem gX6_grow_J6_numberOfTrailingZeros_0f7a4 : GoodIn wsX6_grow (va_wsS RX6 88 yJ6_numberOfTrailingZeros_0f7a4 wsJ6_numberOfTrailingZeros_0f7a4) := goodIn_app (goodIn_of _ (by decide +kernel)) ggX6_grow_J6_numberOfTrailingZeros_0f7a4
set_option maxRecDepth 20000 in
theorem ggX6_grow_X6_grow : GoodIn wsX6_grow wsX6_grow := goodIn_r _ [0, 1, 2, 3, 4, 5, 6, 7, 8, 9, 10, 11, 12, 13, 14, 15, 16, 17, 18, 19, 20, 21, 22, 23, 24, 25, 26, 27, 28, 29, 30, 31, 32, 33, 34, 35, 36, 37, 38, 39, 40, 41, 42, 43, 44, 45, 46, 47, 48, 49, 50, 51, 52, 53, 54, 55, 56, 57, 58, 59, 60, 61, 62, 63, 64, 65, 66, 67, 68, 69, 70] (by decide +kernel) (by decide +kernel)
set_option maxRecDepth 20000 in
theorem gX6_grow_X6_grow : GoodIn wsX6_grow (wsV RX6 125 RX6 yX6_grow wsX6_grow) := goodIn_app (goodIn_of _ (by decide +kernel)) ggX6_grow_X6_grow
theorem dX6_grow_0 : decode cX6_grow 0 = .ok (.iload 6, 2) := by decide +kernel
theorem dX6_grow_2 : decode cX6_grow 2 = .ok (.bipush 10, 2) := by decide +kernel
theorem dX6_grow_4 : decode cX6_grow 4 = .ok (.if_icmp .lt 4, 3) := by decide +kernel
theorem dX6_grow_7 : decode cX6_grow 7 = .ok (.return_, 1) := by decide +kernel
theorem dX6_grow_8 : decode cX6_grow 8 = .ok (.aload_n 0, 1) := by decide +kernel
theorem dX6_grow_9 : decode cX6_grow 9 = .ok (.getfield 25, 3) := by decide +kernel
theorem dX6_grow_12 : decode cX6_grow 12 = .ok (.getfield 55, 3) := by decide +kernel
theorem dX6_grow_15 : decode cX6_grow 15 = .ok (.iload_n 2, 1) := by decide +kernel
theorem dX6_grow_16 : decode cX6_grow 16 = .ok (.iconst (-1), 1) := by decide +kernel
theorem dX6_grow_17 : decode cX6_grow 17 = .ok (.ixor, 1) := by decide +kernel
theorem dX6_grow_18 : decode cX6_grow 18 = .ok (.iand, 1) := by decide +kernel
theorem dX6_grow_19 : decode cX6_grow 19 = .ok (.ifCond .ne 12, 3) := by decide +kernel
theorem dX6_grow_22 : decode cX6_grow 22 = .ok (.aload_n 0, 1) := by decide +kernel
theorem dX6_grow_23 : decode cX6_grow 23 = .ok (.iload_n 1, 1) := by decide +kernel
theorem dX6_grow_24 : decode cX6_grow 24 = .ok (.iload 4, 2) := by decide +kernel
theorem dX6_grow_26 : decode cX6_grow 26 = .ok (.iload 5, 2) := by decide +kernel
theorem dX6_grow_28 : decode cX6_grow 28 = .ok (.invokevirtual 133, 3) := by decide +kernel
theorem dX6_grow_31 : decode cX6_grow 31 = .ok (.iload_n 3, 1) := by decide +kernel
theorem dX6_grow_32 : decode cX6_grow 32 = .ok (.istore 7, 2) := by decide +kernel
theorem dX6_grow_34 : decode cX6_grow 34 = .ok (.iconst 0, 1) := by decide +kernel
theorem dX6_grow_35 : decode cX6_grow 35 = .ok (.istore 8, 2) := by decide +kernel
theorem dX6_grow_37 : decode cX6_grow 37 = .ok (.iload 8, 2) := by decide +kernel
theorem dX6_grow_39 : decode cX6_grow 39 = .ok (.bipush 16, 2) := by decide +kernel
theorem dX6_grow_41 : decode cX6_grow 41 = .ok (.if_icmp .ge 128, 3) := by decide +kernel
theorem dX6_grow_44 : decode cX6_grow 44 = .ok (.iload 7, 2) := by decide +kernel
theorem dX6_grow_46 : decode cX6_grow 46 = .ok (.ifCond .eq 123, 3) := by decide +kernel
theorem dX6_grow_49 : decode cX6_grow 49 = .ok (.iload 7, 2) := by decide +kernel
theorem dX6_grow_51 : decode cX6_grow 51 = .ok (.invokestatic 88, 3) := by decide +kernel
theorem dX6_grow_54 : decode cX6_grow 54 = .ok (.istore 9, 2) := by decide +kernel
theorem dX6_grow_56 : decode cX6_grow 56 = .ok (.iload 7, 2) := by decide +kernel
theorem dX6_grow_58 : decode cX6_grow 58 = .ok (.iconst 1, 1) := by decide +kernel
theorem dX6_grow_59 : decode cX6_grow 59 = .ok (.iload 9, 2) := by decide +kernel
theorem dX6_grow_61 : decode cX6_grow 61 = .ok (.ishl, 1) := by decide +kernel
theorem dX6_grow_62 : decode cX6_grow 62 = .ok (.iconst (-1), 1) := by decide +kernel
theorem dX6_grow_63 : decode cX6_grow 63 = .ok (.ixor, 1) := by decide +kernel
theorem dX6_grow_64 : decode cX6_grow 64 = .ok (.iand, 1) := by decide +kernel
theorem dX6_grow_65 : decode cX6_grow 65 = .ok (.istore 7, 2) := by decide +kernel
theorem dX6_grow_67 : decode cX6_grow 67 = .ok (.aload_n 0, 1) := by decide +kernel
theorem dX6_grow_68 : decode cX6_grow 68 = .ok (.getfield 25, 3) := by decide +kernel
theorem dX6_grow_71 : decode cX6_grow 71 = .ok (.getfield 61, 3) := by decide +kernel
theorem dX6_grow_74 : decode cX6_grow 74 = .ok (.iload 9, 2) := by decide +kernel
theorem dX6_grow_76 : decode cX6_grow 76 = .ok (.iaload, 1) := by decide +kernel
theorem dX6_grow_77 : decode cX6_grow 77 = .ok (.iload_n 2, 1) := by decide +kernel
theorem dX6_grow_78 : decode cX6_grow 78 = .ok (.iconst (-1), 1) := by decide +kernel
theorem dX6_grow_79 : decode cX6_grow 79 = .ok (.ixor, 1) := by decide +kernel
theorem dX6_grow_80 : decode cX6_grow 80 = .ok (.iand, 1) := by decide +kernel
theorem dX6_grow_81 : decode cX6_grow 81 = .ok (.istore 10, 2) := by decide +kernel
theorem dX6_grow_83 : decode cX6_grow 83 = .ok (.iload 10, 2) := by decide +kernel
theorem dX6_grow_85 : decode cX6_grow 85 = .ok (.ifCond .eq 78, 3) := by decide +kernel
theorem dX6_grow_88 : decode cX6_grow 88 = .ok (.iload 10, 2) := by decide +kernel
theorem dX6_grow_90 : decode cX6_grow 90 = .ok (.invokestatic 88, 3) := by decide +kernel
theorem dX6_grow_93 : decode cX6_grow 93 = .ok (.istore 11, 2) := by decide +kernel
theorem dX6_grow_95 : decode cX6_grow 95 = .ok (.aload_n 0, 1) := by decide +kernel
theorem dX6_grow_96 : decode cX6_grow 96 = .ok (.iload_n 1, 1) := by decide +kernel
theorem dX6_grow_97 : decode cX6_grow 97 = .ok (.iconst 1, 1) := by decide +kernel
theorem dX6_grow_98 : decode cX6_grow 98 = .ok (.iload 9, 2) := by decide +kernel
theorem dX6_grow_100 : decode cX6_grow 100 = .ok (.ishl, 1) := by decide +kernel
theorem dX6_grow_101 : decode cX6_grow 101 = .ok (.ior, 1) := by decide +kernel
theorem dX6_grow_102 : decode cX6_grow 102 = .ok (.iload_n 2, 1) := by decide +kernel
theorem dX6_grow_103 : decode cX6_grow 103 = .ok (.iload 10, 2) := by decide +kernel
theorem dX6_grow_105 : decode cX6_grow 105 = .ok (.ior, 1) := by decide +kernel
theorem dX6_grow_106 : decode cX6_grow 106 = .ok (.iload 7, 2) := by decide +kernel
theorem dX6_grow_108 : decode cX6_grow 108 = .ok (.aload_n 0, 1) := by decide +kernel
theorem dX6_grow_109 : decode cX6_grow 109 = .ok (.getfield 25, 3) := by decide +kernel
theorem dX6_grow_112 : decode cX6_grow 112 = .ok (.getfield 81, 3) := by decide +kernel
theorem dX6_grow_115 : decode cX6_grow 115 = .ok (.iload 11, 2) := by decide +kernel
theorem dX6_grow_117 : decode cX6_grow 117 = .ok (.iaload, 1) := by decide +kernel
theorem dX6_grow_118 : decode cX6_grow 118 = .ok (.ior, 1) := by decide +kernel
theorem dX6_grow_119 : decode cX6_grow 119 = .ok (.iload 4, 2) := by decide +kernel
theorem dX6_grow_121 : decode cX6_grow 121 = .ok (.aload_n 0, 1) := by decide +kernel
theorem dX6_grow_122 : decode cX6_grow 122 = .ok (.getfield 25, 3) := by decide +kernel
theorem dX6_grow_125 : decode cX6_grow 125 = .ok (.getfield 69, 3) := by decide +kernel
theorem dX6_grow_128 : decode cX6_grow 128 = .ok (.iload 9, 2) := by decide +kernel
theorem dX6_grow_130 : decode cX6_grow 130 = .ok (.iaload, 1) := by decide +kernel
theorem dX6_grow_131 : decode cX6_grow 131 = .ok (.iadd, 1) := by decide +kernel
theorem dX6_grow_132 : decode cX6_grow 132 = .ok (.aload_n 0, 1) := by decide +kernel
theorem dX6_grow_133 : decode cX6_grow 133 = .ok (.getfield 25, 3) := by decide +kernel
theorem dX6_grow_136 : decode cX6_grow 136 = .ok (.getfield 72, 3) := by decide +kernel
theorem dX6_grow_139 : decode cX6_grow 139 = .ok (.iload 11, 2) := by decide +kernel
theorem dX6_grow_141 : decode cX6_grow 141 = .ok (.iaload, 1) := by decide +kernel
theorem dX6_grow_142 : decode cX6_grow 142 = .ok (.iadd, 1) := by decide +kernel
theorem dX6_grow_143 : decode cX6_grow 143 = .ok (.iload 5, 2) := by decide +kernel
theorem dX6_grow_145 : decode cX6_grow 145 = .ok (.aload_n 0, 1) := by decide +kernel
theorem dX6_grow_146 : decode cX6_grow 146 = .ok (.getfield 25, 3) := by decide +kernel
theorem dX6_grow_149 : decode cX6_grow 149 = .ok (.getfield 75, 3) := by decide +kernel
theorem dX6_grow_152 : decode cX6_grow 152 = .ok (.iload 11, 2) := by decide +kernel
theorem dX6_grow_154 : decode cX6_grow 154 = .ok (.iaload, 1) := by decide +kernel
theorem dX6_grow_155 : decode cX6_grow 155 = .ok (.iadd, 1) := by decide +kernel
theorem dX6_grow_156 : decode cX6_grow 156 = .ok (.iload 6, 2) := by decide +kernel
theorem dX6_grow_158 : decode cX6_grow 158 = .ok (.iconst 1, 1) := by decide +kernel
theorem dX6_grow_159 : decode cX6_grow 159 = .ok (.iadd, 1) := by decide +kernel
theorem dX6_grow_160 : decode cX6_grow 160 = .ok (.invokevirtual 125, 3) := by decide +kernel
theorem dX6_grow_163 : decode cX6_grow 163 = .ok (.iinc 8 1, 3) := by decide +kernel
theorem dX6_grow_166 : decode cX6_grow 166 = .ok (.goto (-129), 3) := by decide +kernel
theorem dX6_grow_169 : decode cX6_grow 169 = .ok (.return_, 1) := by decide +kernel
set_option maxRecDepth 20000 in
theorem ggX6_weigh_X6_keep : GoodIn wsX6_weigh wsX6_keep := goodIn_r _ [10, 2, 11, 4, 5, 12, 13, 14, 15, 16, 17, 18, 19, 20, 21, 22, 23, 24, 25, 26, 27, 28, 29, 30, 31, 32, 33, 34, 35, 36, 37, 38, 39] (by decide +kernel) (by decide +kernel)
set_option maxRecDepth 20000 in
theorem gX6_weigh_X6_keep : GoodIn wsX6_weigh (wsV RX6 136 RX6 yX6_keep wsX6_keep) := goodIn_app (goodIn_of _ (by decide +kernel)) ggX6_weigh_X6_keep
theorem dX6_weigh_0 : decode cX6_weigh 0 = .ok (.iload_n 3, 1) := by decide +kernel
theorem dX6_weigh_1 : decode cX6_weigh 1 = .ok (.ifCond .lt 10, 3) := by decide +kernel
theorem dX6_weigh_4 : decode cX6_weigh 4 = .ok (.iload_n 3, 1) := by decide +kernel
theorem dX6_weigh_5 : decode cX6_weigh 5 = .ok (.sipush 1000, 3) := by decide +kernel
theorem dX6_weigh_8 : decode cX6_weigh 8 = .ok (.if_icmp .le 4, 3) := by decide +kernel
theorem dX6_weigh_11 : decode cX6_weigh 11 = .ok (.return_, 1) := by decide +kernel
theorem dX6_weigh_12 : decode cX6_weigh 12 = .ok (.aload_n 0, 1) := by decide +kernel
theorem dX6_weigh_13 : decode cX6_weigh 13 = .ok (.getfield 15, 3) := by decide +kernel
theorem dX6_weigh_16 : decode cX6_weigh 16 = .ok (.iload_n 3, 1) := by decide +kernel
theorem dX6_weigh_17 : decode cX6_weigh 17 = .ok (.iaload, 1) := by decide +kernel
theorem dX6_weigh_18 : decode cX6_weigh 18 = .ok (.iconst (-1), 1) := by decide +kernel
theorem dX6_weigh_19 : decode cX6_weigh 19 = .ok (.if_icmp .eq 13, 3) := by decide +kernel
theorem dX6_weigh_22 : decode cX6_weigh 22 = .ok (.iload_n 2, 1) := by decide +kernel
theorem dX6_weigh_23 : decode cX6_weigh 23 = .ok (.aload_n 0, 1) := by decide +kernel
theorem dX6_weigh_24 : decode cX6_weigh 24 = .ok (.getfield 15, 3) := by decide +kernel
theorem dX6_weigh_27 : decode cX6_weigh 27 = .ok (.iload_n 3, 1) := by decide +kernel
theorem dX6_weigh_28 : decode cX6_weigh 28 = .ok (.iaload, 1) := by decide +kernel
theorem dX6_weigh_29 : decode cX6_weigh 29 = .ok (.if_icmp .ge 10, 3) := by decide +kernel
theorem dX6_weigh_32 : decode cX6_weigh 32 = .ok (.aload_n 0, 1) := by decide +kernel
theorem dX6_weigh_33 : decode cX6_weigh 33 = .ok (.getfield 15, 3) := by decide +kernel
theorem dX6_weigh_36 : decode cX6_weigh 36 = .ok (.iload_n 3, 1) := by decide +kernel
theorem dX6_weigh_37 : decode cX6_weigh 37 = .ok (.iload_n 2, 1) := by decide +kernel
theorem dX6_weigh_38 : decode cX6_weigh 38 = .ok (.iastore, 1) := by decide +kernel
theorem dX6_weigh_39 : decode cX6_weigh 39 = .ok (.iload_n 2, 1) := by decide +kernel
theorem dX6_weigh_40 : decode cX6_weigh 40 = .ok (.iload_n 3, 1) := by decide +kernel
theorem dX6_weigh_41 : decode cX6_weigh 41 = .ok (.isub, 1) := by decide +kernel
theorem dX6_weigh_42 : decode cX6_weigh 42 = .ok (.istore 4, 2) := by decide +kernel
theorem dX6_weigh_44 : decode cX6_weigh 44 = .ok (.aload_n 0, 1) := by decide +kernel
theorem dX6_weigh_45 : decode cX6_weigh 45 = .ok (.getfield 103, 3) := by decide +kernel
theorem dX6_weigh_48 : decode cX6_weigh 48 = .ok (.ifCond .eq 12, 3) := by decide +kernel
theorem dX6_weigh_51 : decode cX6_weigh 51 = .ok (.iload 4, 2) := by decide +kernel
theorem dX6_weigh_53 : decode cX6_weigh 53 = .ok (.aload_n 0, 1) := by decide +kernel
theorem dX6_weigh_54 : decode cX6_weigh 54 = .ok (.getfield 107, 3) := by decide +kernel
theorem dX6_weigh_57 : decode cX6_weigh 57 = .ok (.if_icmp .ge 24, 3) := by decide +kernel
theorem dX6_weigh_60 : decode cX6_weigh 60 = .ok (.aload_n 0, 1) := by decide +kernel
theorem dX6_weigh_61 : decode cX6_weigh 61 = .ok (.iload 4, 2) := by decide +kernel
theorem dX6_weigh_63 : decode cX6_weigh 63 = .ok (.putfield 107, 3) := by decide +kernel
theorem dX6_weigh_66 : decode cX6_weigh 66 = .ok (.aload_n 0, 1) := by decide +kernel
theorem dX6_weigh_67 : decode cX6_weigh 67 = .ok (.iconst 0, 1) := by decide +kernel
theorem dX6_weigh_68 : decode cX6_weigh 68 = .ok (.putfield 103, 3) := by decide +kernel
theorem dX6_weigh_71 : decode cX6_weigh 71 = .ok (.aload_n 0, 1) := by decide +kernel
theorem dX6_weigh_72 : decode cX6_weigh 72 = .ok (.iload_n 1, 1) := by decide +kernel
theorem dX6_weigh_73 : decode cX6_weigh 73 = .ok (.putfield 110, 3) := by decide +kernel
theorem dX6_weigh_76 : decode cX6_weigh 76 = .ok (.aload_n 0, 1) := by decide +kernel
theorem dX6_weigh_77 : decode cX6_weigh 77 = .ok (.iload_n 1, 1) := by decide +kernel
theorem dX6_weigh_78 : decode cX6_weigh 78 = .ok (.putfield 113, 3) := by decide +kernel
theorem dX6_weigh_81 : decode cX6_weigh 81 = .ok (.iload 4, 2) := by decide +kernel
theorem dX6_weigh_83 : decode cX6_weigh 83 = .ok (.aload_n 0, 1) := by decide +kernel
theorem dX6_weigh_84 : decode cX6_weigh 84 = .ok (.getfield 107, 3) := by decide +kernel
theorem dX6_weigh_87 : decode cX6_weigh 87 = .ok (.if_icmp .ne 8, 3) := by decide +kernel
theorem dX6_weigh_90 : decode cX6_weigh 90 = .ok (.aload_n 0, 1) := by decide +kernel
theorem dX6_weigh_91 : decode cX6_weigh 91 = .ok (.iload_n 1, 1) := by decide +kernel
theorem dX6_weigh_92 : decode cX6_weigh 92 = .ok (.invokevirtual 136, 3) := by decide +kernel
theorem dX6_weigh_95 : decode cX6_weigh 95 = .ok (.return_, 1) := by decide +kernel
set_option maxRecDepth 20000 in
theorem ggX6_keep_J7_copyOf_59c91 : GoodIn wsX6_keep wsJ7_copyOf_59c91 := goodIn_r _ [8, 9, 10, 11, 12, 13, 14, 15, 16, 17, 18, 19, 20, 21, 22, 23] (by decide +kernel) (by decide +kernel)
set_option maxRecDepth 20000 in
theorem gX6_keep_J7_copyOf_59c91 : GoodIn wsX6_keep (va_wsS RX6 139 yJ7_copyOf_59c91 wsJ7_copyOf_59c91) := goodIn_app (goodIn_of _ (by decide +kernel)) ggX6_keep_J7_copyOf_59c91
theorem dX6_keep_0 : decode cX6_keep 0 = .ok (.aload_n 0, 1) := by decide +kernel
theorem dX6_keep_1 : decode cX6_keep 1 = .ok (.getfield 103, 3) := by decide +kernel
theorem dX6_keep_4 : decode cX6_keep 4 = .ok (.aload_n 0, 1) := by decide +kernel
theorem dX6_keep_5 : decode cX6_keep 5 = .ok (.getfield 18, 3) := by decide +kernel
theorem dX6_keep_8 : decode cX6_keep 8 = .ok (.arraylength, 1) := by decide +kernel
theorem dX6_keep_9 : decode cX6_keep 9 = .ok (.if_icmp .lt 21, 3) := by decide +kernel
theorem dX6_keep_12 : decode cX6_keep 12 = .ok (.aload_n 0, 1) := by decide +kernel
theorem dX6_keep_13 : decode cX6_keep 13 = .ok (.aload_n 0, 1) := by decide +kernel
theorem dX6_keep_14 : decode cX6_keep 14 = .ok (.getfield 18, 3) := by decide +kernel
theorem dX6_keep_17 : decode cX6_keep 17 = .ok (.aload_n 0, 1) := by decide +kernel
theorem dX6_keep_18 : decode cX6_keep 18 = .ok (.getfield 18, 3) := by decide +kernel
theorem dX6_keep_21 : decode cX6_keep 21 = .ok (.arraylength, 1) := by decide +kernel
theorem dX6_keep_22 : decode cX6_keep 22 = .ok (.iconst 2, 1) := by decide +kernel
theorem dX6_keep_23 : decode cX6_keep 23 = .ok (.imul, 1) := by decide +kernel
theorem dX6_keep_24 : decode cX6_keep 24 = .ok (.invokestatic 139, 3) := by decide +kernel
theorem dX6_keep_27 : decode cX6_keep 27 = .ok (.putfield 18, 3) := by decide +kernel
theorem dX6_keep_30 : decode cX6_keep 30 = .ok (.aload_n 0, 1) := by decide +kernel
theorem dX6_keep_31 : decode cX6_keep 31 = .ok (.getfield 18, 3) := by decide +kernel
theorem dX6_keep_34 : decode cX6_keep 34 = .ok (.aload_n 0, 1) := by decide +kernel
theorem dX6_keep_35 : decode cX6_keep 35 = .ok (.getfield 103, 3) := by decide +kernel
theorem dX6_keep_38 : decode cX6_keep 38 = .ok (.iload_n 1, 1) := by decide +kernel
theorem dX6_keep_39 : decode cX6_keep 39 = .ok (.iastore, 1) := by decide +kernel
theorem dX6_keep_40 : decode cX6_keep 40 = .ok (.aload_n 0, 1) := by decide +kernel
theorem dX6_keep_41 : decode cX6_keep 41 = .ok (.dup, 1) := by decide +kernel
theorem dX6_keep_42 : decode cX6_keep 42 = .ok (.getfield 103, 3) := by decide +kernel
theorem dX6_keep_45 : decode cX6_keep 45 = .ok (.iconst 1, 1) := by decide +kernel
theorem dX6_keep_46 : decode cX6_keep 46 = .ok (.iadd, 1) := by decide +kernel
theorem dX6_keep_47 : decode cX6_keep 47 = .ok (.putfield 103, 3) := by decide +kernel
theorem dX6_keep_50 : decode cX6_keep 50 = .ok (.aload_n 0, 1) := by decide +kernel
theorem dX6_keep_51 : decode cX6_keep 51 = .ok (.dup, 1) := by decide +kernel
theorem dX6_keep_52 : decode cX6_keep 52 = .ok (.getfield 110, 3) := by decide +kernel
theorem dX6_keep_55 : decode cX6_keep 55 = .ok (.iload_n 1, 1) := by decide +kernel
theorem dX6_keep_56 : decode cX6_keep 56 = .ok (.iand, 1) := by decide +kernel
theorem dX6_keep_57 : decode cX6_keep 57 = .ok (.putfield 110, 3) := by decide +kernel
theorem dX6_keep_60 : decode cX6_keep 60 = .ok (.aload_n 0, 1) := by decide +kernel
theorem dX6_keep_61 : decode cX6_keep 61 = .ok (.dup, 1) := by decide +kernel
theorem dX6_keep_62 : decode cX6_keep 62 = .ok (.getfield 113, 3) := by decide +kernel
theorem dX6_keep_65 : decode cX6_keep 65 = .ok (.iload_n 1, 1) := by decide +kernel
theorem dX6_keep_66 : decode cX6_keep 66 = .ok (.ior, 1) := by decide +kernel
theorem dX6_keep_67 : decode cX6_keep 67 = .ok (.putfield 113, 3) := by decide +kernel
theorem dX6_keep_70 : decode cX6_keep 70 = .ok (.return_, 1) := by decide +kernel
set_option maxRecDepth 20000 in
theorem ggX6_putInOrder_X11_bitAt : GoodIn wsX6_putInOrder wsX11_bitAt := goodIn_r _ [4] (by decide +kernel) (by decide +kernel)
set_option maxRecDepth 20000 in
theorem gX6_putInOrder_X11_bitAt_n37 : GoodIn wsX6_putInOrder (wsX11_bitAt) := ggX6_putInOrder_X11_bitAt
set_option maxRecDepth 20000 in
theorem ggX6_putInOrder_X6_putInOrder : GoodIn wsX6_putInOrder wsX6_putInOrder := goodIn_r _ [0, 1, 2, 3, 4, 5, 6, 7, 8, 9, 10, 11, 12, 13, 14, 15, 16, 17] (by decide +kernel) (by decide +kernel)
set_option maxRecDepth 20000 in
theorem gX6_putInOrder_X6_putInOrder : GoodIn wsX6_putInOrder (wsV RX6 129 RX6 yX6_putInOrder wsX6_putInOrder) := goodIn_app (goodIn_of _ (by decide +kernel)) ggX6_putInOrder_X6_putInOrder
theorem dX6_putInOrder_0 : decode cX6_putInOrder 0 = .ok (.iload_n 2, 1) := by decide +kernel
theorem dX6_putInOrder_1 : decode cX6_putInOrder 1 = .ok (.iload_n 1, 1) := by decide +kernel
theorem dX6_putInOrder_2 : decode cX6_putInOrder 2 = .ok (.isub, 1) := by decide +kernel
theorem dX6_putInOrder_3 : decode cX6_putInOrder 3 = .ok (.iconst 2, 1) := by decide +kernel
theorem dX6_putInOrder_4 : decode cX6_putInOrder 4 = .ok (.if_icmp .lt 9, 3) := by decide +kernel
theorem dX6_putInOrder_7 : decode cX6_putInOrder 7 = .ok (.iload_n 3, 1) := by decide +kernel
theorem dX6_putInOrder_8 : decode cX6_putInOrder 8 = .ok (.bipush 16, 2) := by decide +kernel
theorem dX6_putInOrder_10 : decode cX6_putInOrder 10 = .ok (.if_icmp .lt 4, 3) := by decide +kernel
theorem dX6_putInOrder_13 : decode cX6_putInOrder 13 = .ok (.return_, 1) := by decide +kernel
theorem dX6_putInOrder_14 : decode cX6_putInOrder 14 = .ok (.iload_n 1, 1) := by decide +kernel
theorem dX6_putInOrder_15 : decode cX6_putInOrder 15 = .ok (.istore 4, 2) := by decide +kernel
theorem dX6_putInOrder_17 : decode cX6_putInOrder 17 = .ok (.iload_n 1, 1) := by decide +kernel
theorem dX6_putInOrder_18 : decode cX6_putInOrder 18 = .ok (.istore 5, 2) := by decide +kernel
theorem dX6_putInOrder_20 : decode cX6_putInOrder 20 = .ok (.iload 5, 2) := by decide +kernel
theorem dX6_putInOrder_22 : decode cX6_putInOrder 22 = .ok (.iload_n 2, 1) := by decide +kernel
theorem dX6_putInOrder_23 : decode cX6_putInOrder 23 = .ok (.if_icmp .ge 59, 3) := by decide +kernel
theorem dX6_putInOrder_26 : decode cX6_putInOrder 26 = .ok (.aload_n 0, 1) := by decide +kernel
theorem dX6_putInOrder_27 : decode cX6_putInOrder 27 = .ok (.getfield 18, 3) := by decide +kernel
theorem dX6_putInOrder_30 : decode cX6_putInOrder 30 = .ok (.iload 5, 2) := by decide +kernel
theorem dX6_putInOrder_32 : decode cX6_putInOrder 32 = .ok (.iaload, 1) := by decide +kernel
theorem dX6_putInOrder_33 : decode cX6_putInOrder 33 = .ok (.iload_n 3, 1) := by decide +kernel
theorem dX6_putInOrder_34 : decode cX6_putInOrder 34 = .ok (.invokestatic 37, 3) := by decide +kernel
theorem dX6_putInOrder_37 : decode cX6_putInOrder 37 = .ok (.iconst 1, 1) := by decide +kernel
theorem dX6_putInOrder_38 : decode cX6_putInOrder 38 = .ok (.if_icmp .ne 38, 3) := by decide +kernel
theorem dX6_putInOrder_41 : decode cX6_putInOrder 41 = .ok (.aload_n 0, 1) := by decide +kernel
theorem dX6_putInOrder_42 : decode cX6_putInOrder 42 = .ok (.getfield 18, 3) := by decide +kernel
theorem dX6_putInOrder_45 : decode cX6_putInOrder 45 = .ok (.iload 5, 2) := by decide +kernel
theorem dX6_putInOrder_47 : decode cX6_putInOrder 47 = .ok (.iaload, 1) := by decide +kernel
theorem dX6_putInOrder_48 : decode cX6_putInOrder 48 = .ok (.istore 6, 2) := by decide +kernel
theorem dX6_putInOrder_50 : decode cX6_putInOrder 50 = .ok (.aload_n 0, 1) := by decide +kernel
theorem dX6_putInOrder_51 : decode cX6_putInOrder 51 = .ok (.getfield 18, 3) := by decide +kernel
theorem dX6_putInOrder_54 : decode cX6_putInOrder 54 = .ok (.iload 5, 2) := by decide +kernel
theorem dX6_putInOrder_56 : decode cX6_putInOrder 56 = .ok (.aload_n 0, 1) := by decide +kernel
theorem dX6_putInOrder_57 : decode cX6_putInOrder 57 = .ok (.getfield 18, 3) := by decide +kernel
theorem dX6_putInOrder_60 : decode cX6_putInOrder 60 = .ok (.iload 4, 2) := by decide +kernel
theorem dX6_putInOrder_62 : decode cX6_putInOrder 62 = .ok (.iaload, 1) := by decide +kernel
theorem dX6_putInOrder_63 : decode cX6_putInOrder 63 = .ok (.iastore, 1) := by decide +kernel
theorem dX6_putInOrder_64 : decode cX6_putInOrder 64 = .ok (.aload_n 0, 1) := by decide +kernel
theorem dX6_putInOrder_65 : decode cX6_putInOrder 65 = .ok (.getfield 18, 3) := by decide +kernel
theorem dX6_putInOrder_68 : decode cX6_putInOrder 68 = .ok (.iload 4, 2) := by decide +kernel
theorem dX6_putInOrder_70 : decode cX6_putInOrder 70 = .ok (.iload 6, 2) := by decide +kernel
theorem dX6_putInOrder_72 : decode cX6_putInOrder 72 = .ok (.iastore, 1) := by decide +kernel
theorem dX6_putInOrder_73 : decode cX6_putInOrder 73 = .ok (.iinc 4 1, 3) := by decide +kernel
theorem dX6_putInOrder_76 : decode cX6_putInOrder 76 = .ok (.iinc 5 1, 3) := by decide +kernel
theorem dX6_putInOrder_79 : decode cX6_putInOrder 79 = .ok (.goto (-59), 3) := by decide +kernel
theorem dX6_putInOrder_82 : decode cX6_putInOrder 82 = .ok (.aload_n 0, 1) := by decide +kernel
theorem dX6_putInOrder_83 : decode cX6_putInOrder 83 = .ok (.iload_n 1, 1) := by decide +kernel
theorem dX6_putInOrder_84 : decode cX6_putInOrder 84 = .ok (.iload 4, 2) := by decide +kernel
theorem dX6_putInOrder_86 : decode cX6_putInOrder 86 = .ok (.iload_n 3, 1) := by decide +kernel
theorem dX6_putInOrder_87 : decode cX6_putInOrder 87 = .ok (.iconst 1, 1) := by decide +kernel
theorem dX6_putInOrder_88 : decode cX6_putInOrder 88 = .ok (.iadd, 1) := by decide +kernel
theorem dX6_putInOrder_89 : decode cX6_putInOrder 89 = .ok (.invokevirtual 129, 3) := by decide +kernel
theorem dX6_putInOrder_92 : decode cX6_putInOrder 92 = .ok (.aload_n 0, 1) := by decide +kernel
theorem dX6_putInOrder_93 : decode cX6_putInOrder 93 = .ok (.iload 4, 2) := by decide +kernel
theorem dX6_putInOrder_95 : decode cX6_putInOrder 95 = .ok (.iload_n 2, 1) := by decide +kernel
theorem dX6_putInOrder_96 : decode cX6_putInOrder 96 = .ok (.iload_n 3, 1) := by decide +kernel
theorem dX6_putInOrder_97 : decode cX6_putInOrder 97 = .ok (.iconst 1, 1) := by decide +kernel
theorem dX6_putInOrder_98 : decode cX6_putInOrder 98 = .ok (.iadd, 1) := by decide +kernel
theorem dX6_putInOrder_99 : decode cX6_putInOrder 99 = .ok (.invokevirtual 129, 3) := by decide +kernel
theorem dX6_putInOrder_102 : decode cX6_putInOrder 102 = .ok (.return_, 1) := by decide +kernel
theorem dX7_init_0 : decode cX7_init 0 = .ok (.aload_n 0, 1) := by decide +kernel
theorem dX7_init_1 : decode cX7_init 1 = .ok (.invokespecial 3, 3) := by decide +kernel
theorem dX7_init_4 : decode cX7_init 4 = .ok (.aload_n 0, 1) := by decide +kernel
theorem dX7_init_5 : decode cX7_init 5 = .ok (.bipush 20, 2) := by decide +kernel
theorem dX7_init_7 : decode cX7_init 7 = .ok (.newarray .int, 2) := by decide +kernel
theorem dX7_init_9 : decode cX7_init 9 = .ok (.putfield 11, 3) := by decide +kernel
theorem dX7_init_12 : decode cX7_init 12 = .ok (.aload_n 0, 1) := by decide +kernel
theorem dX7_init_13 : decode cX7_init 13 = .ok (.bipush 20, 2) := by decide +kernel
theorem dX7_init_15 : decode cX7_init 15 = .ok (.newarray .int, 2) := by decide +kernel
theorem dX7_init_17 : decode cX7_init 17 = .ok (.putfield 15, 3) := by decide +kernel
theorem dX7_init_20 : decode cX7_init 20 = .ok (.aload_n 0, 1) := by decide +kernel
theorem dX7_init_21 : decode cX7_init 21 = .ok (.bipush 10, 2) := by decide +kernel
theorem dX7_init_23 : decode cX7_init 23 = .ok (.newarray .int, 2) := by decide +kernel
theorem dX7_init_25 : decode cX7_init 25 = .ok (.putfield 18, 3) := by decide +kernel
theorem dX7_init_28 : decode cX7_init 28 = .ok (.aload_n 0, 1) := by decide +kernel
theorem dX7_init_29 : decode cX7_init 29 = .ok (.iconst (-1), 1) := by decide +kernel
theorem dX7_init_30 : decode cX7_init 30 = .ok (.putfield 21, 3) := by decide +kernel
theorem dX7_init_33 : decode cX7_init 33 = .ok (.aload_n 0, 1) := by decide +kernel
theorem dX7_init_34 : decode cX7_init 34 = .ok (.aload_n 1, 1) := by decide +kernel
theorem dX7_init_35 : decode cX7_init 35 = .ok (.putfield 25, 3) := by decide +kernel
theorem dX7_init_38 : decode cX7_init 38 = .ok (.return_, 1) := by decide +kernel
set_option maxRecDepth 20000 in
theorem ggX7_howMany_X7_refresh : GoodIn wsX7_howMany wsX7_refresh := goodIn_r _ [8, 9, 10, 1, 11, 12, 13, 14, 15, 16, 17, 18, 7, 19, 2, 20, 21, 22, 23, 24, 3, 25, 26, 27, 28, 29, 30, 31, 32, 33, 34, 35, 36, 37, 38, 39, 40, 41, 42, 43, 44, 45, 46, 47, 48, 49, 50, 51, 52, 53, 54, 55, 56, 57, 58, 59, 60, 61, 62, 63, 64, 65, 66, 67, 68, 69, 70, 71, 72, 73, 74, 75, 76, 77, 78, 79, 80, 81, 82, 83, 84, 85, 86, 87, 88, 89, 90, 91, 92, 93, 94, 95, 96, 97, 98, 99] (by decide +kernel) (by decide +kernel)
set_option maxRecDepth 20000 in
theorem gX7_howMany_X7_refresh : GoodIn wsX7_howMany (wsV RX7 29 RX7 yX7_refresh wsX7_refresh) := goodIn_app (goodIn_of _ (by decide +kernel)) ggX7_howMany_X7_refresh
theorem dX7_howMany_0 : decode cX7_howMany 0 = .ok (.aload_n 0, 1) := by decide +kernel
theorem dX7_howMany_1 : decode cX7_howMany 1 = .ok (.invokevirtual 29, 3) := by decide +kernel
theorem dX7_howMany_4 : decode cX7_howMany 4 = .ok (.aload_n 0, 1) := by decide +kernel
theorem dX7_howMany_5 : decode cX7_howMany 5 = .ok (.getfield 32, 3) := by decide +kernel
theorem dX7_howMany_8 : decode cX7_howMany 8 = .ok (.ifCond .eq 8, 3) := by decide +kernel
theorem dX7_howMany_11 : decode cX7_howMany 11 = .ok (.aload_n 0, 1) := by decide +kernel
theorem dX7_howMany_12 : decode cX7_howMany 12 = .ok (.getfield 32, 3) := by decide +kernel
theorem dX7_howMany_15 : decode cX7_howMany 15 = .ok (.ireturn, 1) := by decide +kernel
theorem dX7_howMany_16 : decode cX7_howMany 16 = .ok (.iconst 0, 1) := by decide +kernel
theorem dX7_howMany_17 : decode cX7_howMany 17 = .ok (.istore_n 1, 1) := by decide +kernel
theorem dX7_howMany_18 : decode cX7_howMany 18 = .ok (.iconst 0, 1) := by decide +kernel
theorem dX7_howMany_19 : decode cX7_howMany 19 = .ok (.istore_n 2, 1) := by decide +kernel
theorem dX7_howMany_20 : decode cX7_howMany 20 = .ok (.iload_n 2, 1) := by decide +kernel
theorem dX7_howMany_21 : decode cX7_howMany 21 = .ok (.aload_n 0, 1) := by decide +kernel
theorem dX7_howMany_22 : decode cX7_howMany 22 = .ok (.getfield 35, 3) := by decide +kernel
theorem dX7_howMany_25 : decode cX7_howMany 25 = .ok (.if_icmp .ge 21, 3) := by decide +kernel
theorem dX7_howMany_28 : decode cX7_howMany 28 = .ok (.aload_n 0, 1) := by decide +kernel
theorem dX7_howMany_29 : decode cX7_howMany 29 = .ok (.getfield 15, 3) := by decide +kernel
theorem dX7_howMany_32 : decode cX7_howMany 32 = .ok (.iload_n 2, 1) := by decide +kernel
theorem dX7_howMany_33 : decode cX7_howMany 33 = .ok (.iaload, 1) := by decide +kernel
theorem dX7_howMany_34 : decode cX7_howMany 34 = .ok (.ifCond .le 6, 3) := by decide +kernel
theorem dX7_howMany_37 : decode cX7_howMany 37 = .ok (.iinc 1 1, 3) := by decide +kernel
theorem dX7_howMany_40 : decode cX7_howMany 40 = .ok (.iinc 2 1, 3) := by decide +kernel
theorem dX7_howMany_43 : decode cX7_howMany 43 = .ok (.goto (-23), 3) := by decide +kernel
theorem dX7_howMany_46 : decode cX7_howMany 46 = .ok (.iload_n 1, 1) := by decide +kernel
theorem dX7_howMany_47 : decode cX7_howMany 47 = .ok (.ireturn, 1) := by decide +kernel
set_option maxRecDepth 20000 in
theorem ggX7_toldOf_X7_refresh : GoodIn wsX7_toldOf wsX7_refresh := goodIn_r _ [9, 10, 11, 1, 12, 13, 14, 15, 16, 17, 18, 19, 8, 20, 2, 21, 22, 23, 24, 4, 3, 25, 26, 27, 28, 29, 30, 31, 32, 33, 34, 35, 36, 37, 38, 39, 40, 41, 42, 43, 44, 45, 46, 47, 48, 49, 50, 51, 52, 53, 54, 55, 56, 57, 58, 59, 60, 61, 62, 63, 64, 65, 66, 67, 68, 69, 70, 71, 72, 73, 74, 75, 76, 77, 78, 79, 80, 81, 82, 83, 84, 85, 86, 87, 88, 89, 90, 91, 92, 93, 94, 95, 96, 97, 98, 99] (by decide +kernel) (by decide +kernel)
set_option maxRecDepth 20000 in
theorem gX7_toldOf_X7_refresh : GoodIn wsX7_toldOf (wsV RX7 29 RX7 yX7_refresh wsX7_refresh) := goodIn_app (goodIn_of _ (by decide +kernel)) ggX7_toldOf_X7_refresh
theorem dX7_toldOf_0 : decode cX7_toldOf 0 = .ok (.aload_n 0, 1) := by decide +kernel
theorem dX7_toldOf_1 : decode cX7_toldOf 1 = .ok (.invokevirtual 29, 3) := by decide +kernel
theorem dX7_toldOf_4 : decode cX7_toldOf 4 = .ok (.aload_n 0, 1) := by decide +kernel
theorem dX7_toldOf_5 : decode cX7_toldOf 5 = .ok (.getfield 32, 3) := by decide +kernel
theorem dX7_toldOf_8 : decode cX7_toldOf 8 = .ok (.ifCond .ne 12, 3) := by decide +kernel
theorem dX7_toldOf_11 : decode cX7_toldOf 11 = .ok (.iload_n 2, 1) := by decide +kernel
theorem dX7_toldOf_12 : decode cX7_toldOf 12 = .ok (.ifCond .lt 8, 3) := by decide +kernel
theorem dX7_toldOf_15 : decode cX7_toldOf 15 = .ok (.iload_n 2, 1) := by decide +kernel
theorem dX7_toldOf_16 : decode cX7_toldOf 16 = .ok (.iconst 1, 1) := by decide +kernel
theorem dX7_toldOf_17 : decode cX7_toldOf 17 = .ok (.if_icmp .le 5, 3) := by decide +kernel
theorem dX7_toldOf_20 : decode cX7_toldOf 20 = .ok (.iconst (-1), 1) := by decide +kernel
theorem dX7_toldOf_21 : decode cX7_toldOf 21 = .ok (.ireturn, 1) := by decide +kernel
theorem dX7_toldOf_22 : decode cX7_toldOf 22 = .ok (.iconst 0, 1) := by decide +kernel
theorem dX7_toldOf_23 : decode cX7_toldOf 23 = .ok (.istore_n 3, 1) := by decide +kernel
theorem dX7_toldOf_24 : decode cX7_toldOf 24 = .ok (.iconst 0, 1) := by decide +kernel
theorem dX7_toldOf_25 : decode cX7_toldOf 25 = .ok (.istore 4, 2) := by decide +kernel
theorem dX7_toldOf_27 : decode cX7_toldOf 27 = .ok (.iload 4, 2) := by decide +kernel
theorem dX7_toldOf_29 : decode cX7_toldOf 29 = .ok (.aload_n 0, 1) := by decide +kernel
theorem dX7_toldOf_30 : decode cX7_toldOf 30 = .ok (.getfield 35, 3) := by decide +kernel
theorem dX7_toldOf_33 : decode cX7_toldOf 33 = .ok (.if_icmp .ge 49, 3) := by decide +kernel
theorem dX7_toldOf_36 : decode cX7_toldOf 36 = .ok (.aload_n 0, 1) := by decide +kernel
theorem dX7_toldOf_37 : decode cX7_toldOf 37 = .ok (.getfield 15, 3) := by decide +kernel
theorem dX7_toldOf_40 : decode cX7_toldOf 40 = .ok (.iload 4, 2) := by decide +kernel
theorem dX7_toldOf_42 : decode cX7_toldOf 42 = .ok (.iaload, 1) := by decide +kernel
theorem dX7_toldOf_43 : decode cX7_toldOf 43 = .ok (.ifCond .le 33, 3) := by decide +kernel
theorem dX7_toldOf_46 : decode cX7_toldOf 46 = .ok (.iload_n 3, 1) := by decide +kernel
theorem dX7_toldOf_47 : decode cX7_toldOf 47 = .ok (.iload_n 1, 1) := by decide +kernel
theorem dX7_toldOf_48 : decode cX7_toldOf 48 = .ok (.if_icmp .ne 25, 3) := by decide +kernel
theorem dX7_toldOf_51 : decode cX7_toldOf 51 = .ok (.iload_n 2, 1) := by decide +kernel
theorem dX7_toldOf_52 : decode cX7_toldOf 52 = .ok (.ifCond .ne 13, 3) := by decide +kernel
theorem dX7_toldOf_55 : decode cX7_toldOf 55 = .ok (.aload_n 0, 1) := by decide +kernel
theorem dX7_toldOf_56 : decode cX7_toldOf 56 = .ok (.getfield 11, 3) := by decide +kernel
theorem dX7_toldOf_59 : decode cX7_toldOf 59 = .ok (.iload 4, 2) := by decide +kernel
theorem dX7_toldOf_61 : decode cX7_toldOf 61 = .ok (.iaload, 1) := by decide +kernel
theorem dX7_toldOf_62 : decode cX7_toldOf 62 = .ok (.goto 10, 3) := by decide +kernel
theorem dX7_toldOf_65 : decode cX7_toldOf 65 = .ok (.aload_n 0, 1) := by decide +kernel
theorem dX7_toldOf_66 : decode cX7_toldOf 66 = .ok (.getfield 15, 3) := by decide +kernel
theorem dX7_toldOf_69 : decode cX7_toldOf 69 = .ok (.iload 4, 2) := by decide +kernel
theorem dX7_toldOf_71 : decode cX7_toldOf 71 = .ok (.iaload, 1) := by decide +kernel
theorem dX7_toldOf_72 : decode cX7_toldOf 72 = .ok (.ireturn, 1) := by decide +kernel
theorem dX7_toldOf_73 : decode cX7_toldOf 73 = .ok (.iinc 3 1, 3) := by decide +kernel
theorem dX7_toldOf_76 : decode cX7_toldOf 76 = .ok (.iinc 4 1, 3) := by decide +kernel
theorem dX7_toldOf_79 : decode cX7_toldOf 79 = .ok (.goto (-52), 3) := by decide +kernel
theorem dX7_toldOf_82 : decode cX7_toldOf 82 = .ok (.iconst (-1), 1) := by decide +kernel
theorem dX7_toldOf_83 : decode cX7_toldOf 83 = .ok (.ireturn, 1) := by decide +kernel
set_option maxRecDepth 20000 in
theorem ggX7_sumOfShares_X7_refresh : GoodIn wsX7_sumOfShares wsX7_refresh := goodIn_r _ [9, 10, 11, 1, 12, 13, 14, 15, 16, 17, 18, 19, 8, 20, 3, 21, 22, 23, 24, 25, 4, 26, 27, 28, 29, 30, 31, 32, 33, 34, 35, 36, 37, 38, 39, 40, 41, 42, 43, 44, 45, 46, 47, 48, 49, 50, 51, 52, 53, 54, 55, 56, 57, 58, 59, 60, 61, 62, 63, 64, 65, 66, 67, 68, 69, 70, 71, 72, 73, 74, 75, 76, 77, 78, 79, 80, 81, 82, 83, 84, 85, 86, 87, 88, 89, 90, 91, 92, 93, 94, 95, 96, 97, 98, 99, 100] (by decide +kernel) (by decide +kernel)
set_option maxRecDepth 20000 in
theorem gX7_sumOfShares_X7_refresh : GoodIn wsX7_sumOfShares (wsV RX7 29 RX7 yX7_refresh wsX7_refresh) := goodIn_app (goodIn_of _ (by decide +kernel)) ggX7_sumOfShares_X7_refresh
theorem dX7_sumOfShares_0 : decode cX7_sumOfShares 0 = .ok (.aload_n 0, 1) := by decide +kernel
theorem dX7_sumOfShares_1 : decode cX7_sumOfShares 1 = .ok (.invokevirtual 29, 3) := by decide +kernel
theorem dX7_sumOfShares_4 : decode cX7_sumOfShares 4 = .ok (.aload_n 0, 1) := by decide +kernel
theorem dX7_sumOfShares_5 : decode cX7_sumOfShares 5 = .ok (.getfield 32, 3) := by decide +kernel
theorem dX7_sumOfShares_8 : decode cX7_sumOfShares 8 = .ok (.ifCond .eq 6, 3) := by decide +kernel
theorem dX7_sumOfShares_11 : decode cX7_sumOfShares 11 = .ok (.ldc 38, 2) := by decide +kernel
theorem dX7_sumOfShares_13 : decode cX7_sumOfShares 13 = .ok (.ireturn, 1) := by decide +kernel
theorem dX7_sumOfShares_14 : decode cX7_sumOfShares 14 = .ok (.iconst 0, 1) := by decide +kernel
theorem dX7_sumOfShares_15 : decode cX7_sumOfShares 15 = .ok (.istore_n 1, 1) := by decide +kernel
theorem dX7_sumOfShares_16 : decode cX7_sumOfShares 16 = .ok (.iconst 0, 1) := by decide +kernel
theorem dX7_sumOfShares_17 : decode cX7_sumOfShares 17 = .ok (.istore_n 2, 1) := by decide +kernel
theorem dX7_sumOfShares_18 : decode cX7_sumOfShares 18 = .ok (.iload_n 2, 1) := by decide +kernel
theorem dX7_sumOfShares_19 : decode cX7_sumOfShares 19 = .ok (.aload_n 0, 1) := by decide +kernel
theorem dX7_sumOfShares_20 : decode cX7_sumOfShares 20 = .ok (.getfield 35, 3) := by decide +kernel
theorem dX7_sumOfShares_23 : decode cX7_sumOfShares 23 = .ok (.if_icmp .ge 18, 3) := by decide +kernel
theorem dX7_sumOfShares_26 : decode cX7_sumOfShares 26 = .ok (.iload_n 1, 1) := by decide +kernel
theorem dX7_sumOfShares_27 : decode cX7_sumOfShares 27 = .ok (.aload_n 0, 1) := by decide +kernel
theorem dX7_sumOfShares_28 : decode cX7_sumOfShares 28 = .ok (.getfield 15, 3) := by decide +kernel
theorem dX7_sumOfShares_31 : decode cX7_sumOfShares 31 = .ok (.iload_n 2, 1) := by decide +kernel
theorem dX7_sumOfShares_32 : decode cX7_sumOfShares 32 = .ok (.iaload, 1) := by decide +kernel
theorem dX7_sumOfShares_33 : decode cX7_sumOfShares 33 = .ok (.iadd, 1) := by decide +kernel
theorem dX7_sumOfShares_34 : decode cX7_sumOfShares 34 = .ok (.istore_n 1, 1) := by decide +kernel
theorem dX7_sumOfShares_35 : decode cX7_sumOfShares 35 = .ok (.iinc 2 1, 3) := by decide +kernel
theorem dX7_sumOfShares_38 : decode cX7_sumOfShares 38 = .ok (.goto (-20), 3) := by decide +kernel
theorem dX7_sumOfShares_41 : decode cX7_sumOfShares 41 = .ok (.iload_n 1, 1) := by decide +kernel
theorem dX7_sumOfShares_42 : decode cX7_sumOfShares 42 = .ok (.ireturn, 1) := by decide +kernel
set_option maxRecDepth 20000 in
theorem ggX7_refresh_J6_lowestOneBit_0f7a4 : GoodIn wsX7_refresh wsJ6_lowestOneBit_0f7a4 := goodIn_r _ [8] (by decide +kernel) (by decide +kernel)
set_option maxRecDepth 20000 in
theorem gX7_refresh_J6_lowestOneBit_0f7a4 : GoodIn wsX7_refresh (va_wsS RX7 50 yJ6_lowestOneBit_0f7a4 wsJ6_lowestOneBit_0f7a4) := goodIn_app (goodIn_of _ (by decide +kernel)) ggX7_refresh_J6_lowestOneBit_0f7a4
set_option maxRecDepth 20000 in
theorem ggX7_refresh_X7_startParts : GoodIn wsX7_refresh wsX7_startParts := goodIn_r _ [13, 14, 2, 15, 16, 17, 12, 18, 19, 20, 21, 22, 23, 24, 70, 71, 72, 73, 74, 75, 76, 77, 78, 79, 80, 81, 82, 83, 84, 85, 86, 87, 88, 89, 90, 91, 92, 93, 94, 95] (by decide +kernel) (by decide +kernel)
set_option maxRecDepth 20000 in
theorem gX7_refresh_X7_startParts : GoodIn wsX7_refresh (wsV RX7 59 RX7 yX7_startParts wsX7_startParts) := goodIn_app (goodIn_of _ (by decide +kernel)) ggX7_refresh_X7_startParts
set_option maxRecDepth 20000 in
theorem ggX7_refresh_X7_someActive : GoodIn wsX7_refresh wsX7_someActive := goodIn_r _ [28, 2, 21, 29, 30, 31, 12, 32, 19, 4, 70, 71, 72, 73, 74, 75, 76, 77, 78, 79, 80, 81, 82, 83, 84, 85, 86, 87, 88, 89, 90, 91, 92, 93, 94, 95] (by decide +kernel) (by decide +kernel)
set_option maxRecDepth 20000 in
theorem gX7_refresh_X7_someActive : GoodIn wsX7_refresh (wsV RX7 62 RX7 yX7_someActive wsX7_someActive) := goodIn_app (goodIn_of _ (by decide +kernel)) ggX7_refresh_X7_someActive
set_option maxRecDepth 20000 in
theorem ggX7_refresh_X7_goOn : GoodIn wsX7_refresh wsX7_goOn := goodIn_r _ [36, 37, 2, 19, 21, 38, 39, 40, 41, 3, 42, 43, 44, 12, 45, 46, 47, 48, 49, 50, 51, 22, 23, 24, 29, 30, 31, 32, 4, 52, 53, 54, 55, 14, 20, 56, 57, 7, 58, 59, 60, 61, 15, 16, 17, 18, 62, 63, 64, 65, 66, 67, 68, 69, 70, 71, 72, 73, 74, 75, 76, 77, 78, 79, 80, 81, 82, 83, 84, 85, 86, 87, 88, 89, 90, 91, 92, 93, 94, 95] (by decide +kernel) (by decide +kernel)
set_option maxRecDepth 20000 in
theorem gX7_refresh_X7_goOn : GoodIn wsX7_refresh (wsV RX7 66 RX7 yX7_goOn wsX7_goOn) := goodIn_app (goodIn_of _ (by decide +kernel)) ggX7_refresh_X7_goOn
theorem dX7_refresh_0 : decode cX7_refresh 0 = .ok (.aload_n 0, 1) := by decide +kernel
theorem dX7_refresh_1 : decode cX7_refresh 1 = .ok (.getfield 21, 3) := by decide +kernel
theorem dX7_refresh_4 : decode cX7_refresh 4 = .ok (.aload_n 0, 1) := by decide +kernel
theorem dX7_refresh_5 : decode cX7_refresh 5 = .ok (.getfield 25, 3) := by decide +kernel
theorem dX7_refresh_8 : decode cX7_refresh 8 = .ok (.getfield 39, 3) := by decide +kernel
theorem dX7_refresh_11 : decode cX7_refresh 11 = .ok (.if_icmp .ne 4, 3) := by decide +kernel
theorem dX7_refresh_14 : decode cX7_refresh 14 = .ok (.return_, 1) := by decide +kernel
theorem dX7_refresh_15 : decode cX7_refresh 15 = .ok (.aload_n 0, 1) := by decide +kernel
theorem dX7_refresh_16 : decode cX7_refresh 16 = .ok (.aload_n 0, 1) := by decide +kernel
theorem dX7_refresh_17 : decode cX7_refresh 17 = .ok (.getfield 25, 3) := by decide +kernel
theorem dX7_refresh_20 : decode cX7_refresh 20 = .ok (.getfield 39, 3) := by decide +kernel
theorem dX7_refresh_23 : decode cX7_refresh 23 = .ok (.putfield 21, 3) := by decide +kernel
theorem dX7_refresh_26 : decode cX7_refresh 26 = .ok (.aload_n 0, 1) := by decide +kernel
theorem dX7_refresh_27 : decode cX7_refresh 27 = .ok (.getfield 25, 3) := by decide +kernel
theorem dX7_refresh_30 : decode cX7_refresh 30 = .ok (.getfield 44, 3) := by decide +kernel
theorem dX7_refresh_33 : decode cX7_refresh 33 = .ok (.ifCond .ne 9, 3) := by decide +kernel
theorem dX7_refresh_36 : decode cX7_refresh 36 = .ok (.aload_n 0, 1) := by decide +kernel
theorem dX7_refresh_37 : decode cX7_refresh 37 = .ok (.iconst (-1), 1) := by decide +kernel
theorem dX7_refresh_38 : decode cX7_refresh 38 = .ok (.putfield 32, 3) := by decide +kernel
theorem dX7_refresh_41 : decode cX7_refresh 41 = .ok (.return_, 1) := by decide +kernel
theorem dX7_refresh_42 : decode cX7_refresh 42 = .ok (.aload_n 0, 1) := by decide +kernel
theorem dX7_refresh_43 : decode cX7_refresh 43 = .ok (.aload_n 0, 1) := by decide +kernel
theorem dX7_refresh_44 : decode cX7_refresh 44 = .ok (.getfield 25, 3) := by decide +kernel
theorem dX7_refresh_47 : decode cX7_refresh 47 = .ok (.getfield 47, 3) := by decide +kernel
theorem dX7_refresh_50 : decode cX7_refresh 50 = .ok (.iconst (-1), 1) := by decide +kernel
theorem dX7_refresh_51 : decode cX7_refresh 51 = .ok (.if_icmp .ne 16, 3) := by decide +kernel
theorem dX7_refresh_54 : decode cX7_refresh 54 = .ok (.aload_n 0, 1) := by decide +kernel
theorem dX7_refresh_55 : decode cX7_refresh 55 = .ok (.getfield 25, 3) := by decide +kernel
theorem dX7_refresh_58 : decode cX7_refresh 58 = .ok (.getfield 44, 3) := by decide +kernel
theorem dX7_refresh_61 : decode cX7_refresh 61 = .ok (.invokestatic 50, 3) := by decide +kernel
theorem dX7_refresh_64 : decode cX7_refresh 64 = .ok (.goto 12, 3) := by decide +kernel
theorem dX7_refresh_67 : decode cX7_refresh 67 = .ok (.iconst 1, 1) := by decide +kernel
theorem dX7_refresh_68 : decode cX7_refresh 68 = .ok (.aload_n 0, 1) := by decide +kernel
theorem dX7_refresh_69 : decode cX7_refresh 69 = .ok (.getfield 25, 3) := by decide +kernel
theorem dX7_refresh_72 : decode cX7_refresh 72 = .ok (.getfield 47, 3) := by decide +kernel
theorem dX7_refresh_75 : decode cX7_refresh 75 = .ok (.ishl, 1) := by decide +kernel
theorem dX7_refresh_76 : decode cX7_refresh 76 = .ok (.putfield 56, 3) := by decide +kernel
theorem dX7_refresh_79 : decode cX7_refresh 79 = .ok (.aload_n 0, 1) := by decide +kernel
theorem dX7_refresh_80 : decode cX7_refresh 80 = .ok (.invokevirtual 59, 3) := by decide +kernel
theorem dX7_refresh_83 : decode cX7_refresh 83 = .ok (.aload_n 0, 1) := by decide +kernel
theorem dX7_refresh_84 : decode cX7_refresh 84 = .ok (.iconst 0, 1) := by decide +kernel
theorem dX7_refresh_85 : decode cX7_refresh 85 = .ok (.putfield 32, 3) := by decide +kernel
theorem dX7_refresh_88 : decode cX7_refresh 88 = .ok (.iconst 0, 1) := by decide +kernel
theorem dX7_refresh_89 : decode cX7_refresh 89 = .ok (.istore_n 1, 1) := by decide +kernel
theorem dX7_refresh_90 : decode cX7_refresh 90 = .ok (.iload_n 1, 1) := by decide +kernel
theorem dX7_refresh_91 : decode cX7_refresh 91 = .ok (.bipush 40, 2) := by decide +kernel
theorem dX7_refresh_93 : decode cX7_refresh 93 = .ok (.if_icmp .ge 27, 3) := by decide +kernel
theorem dX7_refresh_96 : decode cX7_refresh 96 = .ok (.aload_n 0, 1) := by decide +kernel
theorem dX7_refresh_97 : decode cX7_refresh 97 = .ok (.getfield 32, 3) := by decide +kernel
theorem dX7_refresh_100 : decode cX7_refresh 100 = .ok (.ifCond .ne 20, 3) := by decide +kernel
theorem dX7_refresh_103 : decode cX7_refresh 103 = .ok (.aload_n 0, 1) := by decide +kernel
theorem dX7_refresh_104 : decode cX7_refresh 104 = .ok (.invokevirtual 62, 3) := by decide +kernel
theorem dX7_refresh_107 : decode cX7_refresh 107 = .ok (.ifCond .eq 13, 3) := by decide +kernel
theorem dX7_refresh_110 : decode cX7_refresh 110 = .ok (.aload_n 0, 1) := by decide +kernel
theorem dX7_refresh_111 : decode cX7_refresh 111 = .ok (.invokevirtual 66, 3) := by decide +kernel
theorem dX7_refresh_114 : decode cX7_refresh 114 = .ok (.iinc 1 1, 3) := by decide +kernel
theorem dX7_refresh_117 : decode cX7_refresh 117 = .ok (.goto (-27), 3) := by decide +kernel
theorem dX7_refresh_120 : decode cX7_refresh 120 = .ok (.return_, 1) := by decide +kernel
set_option maxRecDepth 20000 in
theorem ggX7_startParts_X7_addPart : GoodIn wsX7_startParts wsX7_addPart := goodIn_r _ [7, 1, 8, 9, 2, 10, 11, 12, 13, 14, 15, 16, 17, 18, 19, 20, 21, 22, 23, 24, 25, 26, 27, 28, 29, 30, 31, 32, 33, 34, 35, 36, 37, 38, 39] (by decide +kernel) (by decide +kernel)
set_option maxRecDepth 20000 in
theorem gX7_startParts_X7_addPart : GoodIn wsX7_startParts (wsV RX7 72 RX7 yX7_addPart wsX7_addPart) := goodIn_app (goodIn_of _ (by decide +kernel)) ggX7_startParts_X7_addPart
theorem dX7_startParts_0 : decode cX7_startParts 0 = .ok (.aload_n 0, 1) := by decide +kernel
theorem dX7_startParts_1 : decode cX7_startParts 1 = .ok (.iconst 0, 1) := by decide +kernel
theorem dX7_startParts_2 : decode cX7_startParts 2 = .ok (.putfield 35, 3) := by decide +kernel
theorem dX7_startParts_5 : decode cX7_startParts 5 = .ok (.iconst 0, 1) := by decide +kernel
theorem dX7_startParts_6 : decode cX7_startParts 6 = .ok (.istore_n 1, 1) := by decide +kernel
theorem dX7_startParts_7 : decode cX7_startParts 7 = .ok (.iload_n 1, 1) := by decide +kernel
theorem dX7_startParts_8 : decode cX7_startParts 8 = .ok (.aload_n 0, 1) := by decide +kernel
theorem dX7_startParts_9 : decode cX7_startParts 9 = .ok (.getfield 25, 3) := by decide +kernel
theorem dX7_startParts_12 : decode cX7_startParts 12 = .ok (.getfield 69, 3) := by decide +kernel
theorem dX7_startParts_15 : decode cX7_startParts 15 = .ok (.if_icmp .ge 16, 3) := by decide +kernel
theorem dX7_startParts_18 : decode cX7_startParts 18 = .ok (.aload_n 0, 1) := by decide +kernel
theorem dX7_startParts_19 : decode cX7_startParts 19 = .ok (.iconst 1, 1) := by decide +kernel
theorem dX7_startParts_20 : decode cX7_startParts 20 = .ok (.iload_n 1, 1) := by decide +kernel
theorem dX7_startParts_21 : decode cX7_startParts 21 = .ok (.ishl, 1) := by decide +kernel
theorem dX7_startParts_22 : decode cX7_startParts 22 = .ok (.invokevirtual 72, 3) := by decide +kernel
theorem dX7_startParts_25 : decode cX7_startParts 25 = .ok (.iinc 1 1, 3) := by decide +kernel
theorem dX7_startParts_28 : decode cX7_startParts 28 = .ok (.goto (-21), 3) := by decide +kernel
theorem dX7_startParts_31 : decode cX7_startParts 31 = .ok (.return_, 1) := by decide +kernel
set_option maxRecDepth 20000 in
theorem ggX7_addPart_X11_bitAt : GoodIn wsX7_addPart wsX11_bitAt := goodIn_r _ [8] (by decide +kernel) (by decide +kernel)
set_option maxRecDepth 20000 in
theorem gX7_addPart_X11_bitAt_n76 : GoodIn wsX7_addPart (wsX11_bitAt) := ggX7_addPart_X11_bitAt
theorem dX7_addPart_0 : decode cX7_addPart 0 = .ok (.aload_n 0, 1) := by decide +kernel
theorem dX7_addPart_1 : decode cX7_addPart 1 = .ok (.getfield 35, 3) := by decide +kernel
theorem dX7_addPart_4 : decode cX7_addPart 4 = .ok (.bipush 20, 2) := by decide +kernel
theorem dX7_addPart_6 : decode cX7_addPart 6 = .ok (.if_icmp .lt 4, 3) := by decide +kernel
theorem dX7_addPart_9 : decode cX7_addPart 9 = .ok (.return_, 1) := by decide +kernel
theorem dX7_addPart_10 : decode cX7_addPart 10 = .ok (.aload_n 0, 1) := by decide +kernel
theorem dX7_addPart_11 : decode cX7_addPart 11 = .ok (.getfield 11, 3) := by decide +kernel
theorem dX7_addPart_14 : decode cX7_addPart 14 = .ok (.aload_n 0, 1) := by decide +kernel
theorem dX7_addPart_15 : decode cX7_addPart 15 = .ok (.getfield 35, 3) := by decide +kernel
theorem dX7_addPart_18 : decode cX7_addPart 18 = .ok (.iload_n 1, 1) := by decide +kernel
theorem dX7_addPart_19 : decode cX7_addPart 19 = .ok (.iastore, 1) := by decide +kernel
theorem dX7_addPart_20 : decode cX7_addPart 20 = .ok (.aload_n 0, 1) := by decide +kernel
theorem dX7_addPart_21 : decode cX7_addPart 21 = .ok (.getfield 15, 3) := by decide +kernel
theorem dX7_addPart_24 : decode cX7_addPart 24 = .ok (.aload_n 0, 1) := by decide +kernel
theorem dX7_addPart_25 : decode cX7_addPart 25 = .ok (.getfield 35, 3) := by decide +kernel
theorem dX7_addPart_28 : decode cX7_addPart 28 = .ok (.iconst 0, 1) := by decide +kernel
theorem dX7_addPart_29 : decode cX7_addPart 29 = .ok (.iastore, 1) := by decide +kernel
theorem dX7_addPart_30 : decode cX7_addPart 30 = .ok (.iconst 0, 1) := by decide +kernel
theorem dX7_addPart_31 : decode cX7_addPart 31 = .ok (.istore_n 2, 1) := by decide +kernel
theorem dX7_addPart_32 : decode cX7_addPart 32 = .ok (.iload_n 2, 1) := by decide +kernel
theorem dX7_addPart_33 : decode cX7_addPart 33 = .ok (.aload_n 0, 1) := by decide +kernel
theorem dX7_addPart_34 : decode cX7_addPart 34 = .ok (.getfield 25, 3) := by decide +kernel
theorem dX7_addPart_37 : decode cX7_addPart 37 = .ok (.getfield 69, 3) := by decide +kernel
theorem dX7_addPart_40 : decode cX7_addPart 40 = .ok (.if_icmp .ge 28, 3) := by decide +kernel
theorem dX7_addPart_43 : decode cX7_addPart 43 = .ok (.iload_n 1, 1) := by decide +kernel
theorem dX7_addPart_44 : decode cX7_addPart 44 = .ok (.iload_n 2, 1) := by decide +kernel
theorem dX7_addPart_45 : decode cX7_addPart 45 = .ok (.invokestatic 76, 3) := by decide +kernel
theorem dX7_addPart_48 : decode cX7_addPart 48 = .ok (.iconst 1, 1) := by decide +kernel
theorem dX7_addPart_49 : decode cX7_addPart 49 = .ok (.if_icmp .ne 13, 3) := by decide +kernel
theorem dX7_addPart_52 : decode cX7_addPart 52 = .ok (.aload_n 0, 1) := by decide +kernel
theorem dX7_addPart_53 : decode cX7_addPart 53 = .ok (.getfield 18, 3) := by decide +kernel
theorem dX7_addPart_56 : decode cX7_addPart 56 = .ok (.iload_n 2, 1) := by decide +kernel
theorem dX7_addPart_57 : decode cX7_addPart 57 = .ok (.aload_n 0, 1) := by decide +kernel
theorem dX7_addPart_58 : decode cX7_addPart 58 = .ok (.getfield 35, 3) := by decide +kernel
theorem dX7_addPart_61 : decode cX7_addPart 61 = .ok (.iastore, 1) := by decide +kernel
theorem dX7_addPart_62 : decode cX7_addPart 62 = .ok (.iinc 2 1, 3) := by decide +kernel
theorem dX7_addPart_65 : decode cX7_addPart 65 = .ok (.goto (-33), 3) := by decide +kernel
theorem dX7_addPart_68 : decode cX7_addPart 68 = .ok (.aload_n 0, 1) := by decide +kernel
theorem dX7_addPart_69 : decode cX7_addPart 69 = .ok (.dup, 1) := by decide +kernel
theorem dX7_addPart_70 : decode cX7_addPart 70 = .ok (.getfield 35, 3) := by decide +kernel
theorem dX7_addPart_73 : decode cX7_addPart 73 = .ok (.iconst 1, 1) := by decide +kernel
theorem dX7_addPart_74 : decode cX7_addPart 74 = .ok (.iadd, 1) := by decide +kernel
theorem dX7_addPart_75 : decode cX7_addPart 75 = .ok (.putfield 35, 3) := by decide +kernel
theorem dX7_addPart_78 : decode cX7_addPart 78 = .ok (.return_, 1) := by decide +kernel
theorem dX7_isActive_0 : decode cX7_isActive 0 = .ok (.aload_n 0, 1) := by decide +kernel
theorem dX7_isActive_1 : decode cX7_isActive 1 = .ok (.getfield 11, 3) := by decide +kernel
theorem dX7_isActive_4 : decode cX7_isActive 4 = .ok (.iload_n 1, 1) := by decide +kernel
theorem dX7_isActive_5 : decode cX7_isActive 5 = .ok (.iaload, 1) := by decide +kernel
theorem dX7_isActive_6 : decode cX7_isActive 6 = .ok (.istore_n 2, 1) := by decide +kernel
theorem dX7_isActive_7 : decode cX7_isActive 7 = .ok (.iload_n 2, 1) := by decide +kernel
theorem dX7_isActive_8 : decode cX7_isActive 8 = .ok (.aload_n 0, 1) := by decide +kernel
theorem dX7_isActive_9 : decode cX7_isActive 9 = .ok (.getfield 25, 3) := by decide +kernel
theorem dX7_isActive_12 : decode cX7_isActive 12 = .ok (.getfield 44, 3) := by decide +kernel
theorem dX7_isActive_15 : decode cX7_isActive 15 = .ok (.iand, 1) := by decide +kernel
theorem dX7_isActive_16 : decode cX7_isActive 16 = .ok (.ifCond .eq 16, 3) := by decide +kernel
theorem dX7_isActive_19 : decode cX7_isActive 19 = .ok (.iload_n 2, 1) := by decide +kernel
theorem dX7_isActive_20 : decode cX7_isActive 20 = .ok (.aload_n 0, 1) := by decide +kernel
theorem dX7_isActive_21 : decode cX7_isActive 21 = .ok (.getfield 56, 3) := by decide +kernel
theorem dX7_isActive_24 : decode cX7_isActive 24 = .ok (.iand, 1) := by decide +kernel
theorem dX7_isActive_25 : decode cX7_isActive 25 = .ok (.ifCond .ne 7, 3) := by decide +kernel
theorem dX7_isActive_28 : decode cX7_isActive 28 = .ok (.iconst 1, 1) := by decide +kernel
theorem dX7_isActive_29 : decode cX7_isActive 29 = .ok (.goto 4, 3) := by decide +kernel
theorem dX7_isActive_32 : decode cX7_isActive 32 = .ok (.iconst 0, 1) := by decide +kernel
theorem dX7_isActive_33 : decode cX7_isActive 33 = .ok (.ireturn, 1) := by decide +kernel
set_option maxRecDepth 20000 in
theorem ggX7_someActive_X7_isActive : GoodIn wsX7_someActive wsX7_isActive := goodIn_r _ [7, 8, 1, 9, 10, 11, 12, 13, 14, 15, 16, 17, 18, 19, 20, 21, 22, 23, 24, 25, 26, 27, 28, 29, 30, 31, 32, 33, 34, 35] (by decide +kernel) (by decide +kernel)
set_option maxRecDepth 20000 in
theorem gX7_someActive_X7_isActive : GoodIn wsX7_someActive (wsV RX7 80 RX7 yX7_isActive wsX7_isActive) := goodIn_app (goodIn_of _ (by decide +kernel)) ggX7_someActive_X7_isActive
theorem dX7_someActive_0 : decode cX7_someActive 0 = .ok (.iconst 0, 1) := by decide +kernel
theorem dX7_someActive_1 : decode cX7_someActive 1 = .ok (.istore_n 1, 1) := by decide +kernel
theorem dX7_someActive_2 : decode cX7_someActive 2 = .ok (.iload_n 1, 1) := by decide +kernel
theorem dX7_someActive_3 : decode cX7_someActive 3 = .ok (.aload_n 0, 1) := by decide +kernel
theorem dX7_someActive_4 : decode cX7_someActive 4 = .ok (.getfield 25, 3) := by decide +kernel
theorem dX7_someActive_7 : decode cX7_someActive 7 = .ok (.getfield 69, 3) := by decide +kernel
theorem dX7_someActive_10 : decode cX7_someActive 10 = .ok (.if_icmp .ge 24, 3) := by decide +kernel
theorem dX7_someActive_13 : decode cX7_someActive 13 = .ok (.aload_n 0, 1) := by decide +kernel
theorem dX7_someActive_14 : decode cX7_someActive 14 = .ok (.aload_n 0, 1) := by decide +kernel
theorem dX7_someActive_15 : decode cX7_someActive 15 = .ok (.getfield 18, 3) := by decide +kernel
theorem dX7_someActive_18 : decode cX7_someActive 18 = .ok (.iload_n 1, 1) := by decide +kernel
theorem dX7_someActive_19 : decode cX7_someActive 19 = .ok (.iaload, 1) := by decide +kernel
theorem dX7_someActive_20 : decode cX7_someActive 20 = .ok (.invokevirtual 80, 3) := by decide +kernel
theorem dX7_someActive_23 : decode cX7_someActive 23 = .ok (.ifCond .eq 5, 3) := by decide +kernel
theorem dX7_someActive_26 : decode cX7_someActive 26 = .ok (.iconst 1, 1) := by decide +kernel
theorem dX7_someActive_27 : decode cX7_someActive 27 = .ok (.ireturn, 1) := by decide +kernel
theorem dX7_someActive_28 : decode cX7_someActive 28 = .ok (.iinc 1 1, 3) := by decide +kernel
theorem dX7_someActive_31 : decode cX7_someActive 31 = .ok (.goto (-29), 3) := by decide +kernel
theorem dX7_someActive_34 : decode cX7_someActive 34 = .ok (.iconst 0, 1) := by decide +kernel
theorem dX7_someActive_35 : decode cX7_someActive 35 = .ok (.ireturn, 1) := by decide +kernel
set_option maxRecDepth 20000 in
theorem ggX7_goOn_X7_activeSidesOf : GoodIn wsX7_goOn wsX7_activeSidesOf := goodIn_r _ [14, 4, 2, 15, 16, 17, 18, 19, 20, 21, 22, 23, 24, 25, 26, 13, 27, 3, 28, 54, 55, 56, 57, 58, 59, 60, 61, 62, 63, 64, 65, 66, 67, 68, 69, 70, 71, 72, 73, 74, 75, 76, 77, 78, 79] (by decide +kernel) (by decide +kernel)
set_option maxRecDepth 20000 in
theorem gX7_goOn_X7_activeSidesOf : GoodIn wsX7_goOn (wsV RX7 88 RX7 yX7_activeSidesOf wsX7_activeSidesOf) := goodIn_app (goodIn_of _ (by decide +kernel)) ggX7_goOn_X7_activeSidesOf
set_option maxRecDepth 20000 in
theorem ggX7_goOn_X7_roomOf : GoodIn wsX7_goOn wsX7_roomOf := goodIn_r _ [32, 2, 33, 3, 34, 35, 36, 37, 38, 39, 40, 41, 54, 55, 56, 57, 58, 59, 60, 61, 62, 63, 64, 65, 66, 67, 68, 69, 70, 71, 72, 73, 74, 75, 76, 77, 78, 79] (by decide +kernel) (by decide +kernel)
set_option maxRecDepth 20000 in
theorem gX7_goOn_X7_roomOf : GoodIn wsX7_goOn (wsV RX7 91 RX7 yX7_roomOf wsX7_roomOf) := goodIn_app (goodIn_of _ (by decide +kernel)) ggX7_goOn_X7_roomOf
set_option maxRecDepth 20000 in
theorem ggX7_goOn_X7_addPart : GoodIn wsX7_goOn wsX7_addPart := goodIn_r _ [45, 33, 3, 34, 2, 4, 21, 22, 23, 54, 55, 56, 57, 58, 59, 60, 61, 62, 63, 64, 65, 66, 67, 68, 69, 70, 71, 72, 73, 74, 75, 76, 77, 78, 79] (by decide +kernel) (by decide +kernel)
set_option maxRecDepth 20000 in
theorem gX7_goOn_X7_addPart : GoodIn wsX7_goOn (wsV RX7 72 RX7 yX7_addPart wsX7_addPart) := goodIn_app (goodIn_of _ (by decide +kernel)) ggX7_goOn_X7_addPart
set_option maxRecDepth 20000 in
theorem ggX7_goOn_X7_growActive : GoodIn wsX7_goOn wsX7_growActive := goodIn_r _ [49, 33, 4, 3, 34, 50, 51, 37, 52, 53, 24, 25, 26, 13, 27, 2, 28, 54, 55, 56, 57, 58, 59, 60, 61, 62, 63, 64, 65, 66, 67, 68, 69, 70, 71, 72, 73, 74, 75, 76, 77, 78, 79] (by decide +kernel) (by decide +kernel)
set_option maxRecDepth 20000 in
theorem gX7_goOn_X7_growActive : GoodIn wsX7_goOn (wsV RX7 105 RX7 yX7_growActive wsX7_growActive) := goodIn_app (goodIn_of _ (by decide +kernel)) ggX7_goOn_X7_growActive
theorem dX7_goOn_0 : decode cX7_goOn 0 = .ok (.ldc 84, 2) := by decide +kernel
theorem dX7_goOn_2 : decode cX7_goOn 2 = .ok (.istore_n 1, 1) := by decide +kernel
theorem dX7_goOn_3 : decode cX7_goOn 3 = .ok (.iconst 0, 1) := by decide +kernel
theorem dX7_goOn_4 : decode cX7_goOn 4 = .ok (.istore_n 2, 1) := by decide +kernel
theorem dX7_goOn_5 : decode cX7_goOn 5 = .ok (.iload_n 2, 1) := by decide +kernel
theorem dX7_goOn_6 : decode cX7_goOn 6 = .ok (.aload_n 0, 1) := by decide +kernel
theorem dX7_goOn_7 : decode cX7_goOn 7 = .ok (.getfield 25, 3) := by decide +kernel
theorem dX7_goOn_10 : decode cX7_goOn 10 = .ok (.getfield 85, 3) := by decide +kernel
theorem dX7_goOn_13 : decode cX7_goOn 13 = .ok (.if_icmp .ge 85, 3) := by decide +kernel
theorem dX7_goOn_16 : decode cX7_goOn 16 = .ok (.aload_n 0, 1) := by decide +kernel
theorem dX7_goOn_17 : decode cX7_goOn 17 = .ok (.iload_n 2, 1) := by decide +kernel
theorem dX7_goOn_18 : decode cX7_goOn 18 = .ok (.invokevirtual 88, 3) := by decide +kernel
theorem dX7_goOn_21 : decode cX7_goOn 21 = .ok (.istore_n 3, 1) := by decide +kernel
theorem dX7_goOn_22 : decode cX7_goOn 22 = .ok (.iload_n 3, 1) := by decide +kernel
theorem dX7_goOn_23 : decode cX7_goOn 23 = .ok (.ifCond .le 69, 3) := by decide +kernel
theorem dX7_goOn_26 : decode cX7_goOn 26 = .ok (.aload_n 0, 1) := by decide +kernel
theorem dX7_goOn_27 : decode cX7_goOn 27 = .ok (.iload_n 2, 1) := by decide +kernel
theorem dX7_goOn_28 : decode cX7_goOn 28 = .ok (.invokevirtual 91, 3) := by decide +kernel
theorem dX7_goOn_31 : decode cX7_goOn 31 = .ok (.istore 4, 2) := by decide +kernel
theorem dX7_goOn_33 : decode cX7_goOn 33 = .ok (.iload 4, 2) := by decide +kernel
theorem dX7_goOn_35 : decode cX7_goOn 35 = .ok (.iload_n 3, 1) := by decide +kernel
theorem dX7_goOn_36 : decode cX7_goOn 36 = .ok (.if_icmp .ge 47, 3) := by decide +kernel
theorem dX7_goOn_39 : decode cX7_goOn 39 = .ok (.aload_n 0, 1) := by decide +kernel
theorem dX7_goOn_40 : decode cX7_goOn 40 = .ok (.aload_n 0, 1) := by decide +kernel
theorem dX7_goOn_41 : decode cX7_goOn 41 = .ok (.getfield 11, 3) := by decide +kernel
theorem dX7_goOn_44 : decode cX7_goOn 44 = .ok (.aload_n 0, 1) := by decide +kernel
theorem dX7_goOn_45 : decode cX7_goOn 45 = .ok (.getfield 18, 3) := by decide +kernel
theorem dX7_goOn_48 : decode cX7_goOn 48 = .ok (.aload_n 0, 1) := by decide +kernel
theorem dX7_goOn_49 : decode cX7_goOn 49 = .ok (.getfield 25, 3) := by decide +kernel
theorem dX7_goOn_52 : decode cX7_goOn 52 = .ok (.getfield 94, 3) := by decide +kernel
theorem dX7_goOn_55 : decode cX7_goOn 55 = .ok (.iload_n 2, 1) := by decide +kernel
theorem dX7_goOn_56 : decode cX7_goOn 56 = .ok (.iaload, 1) := by decide +kernel
theorem dX7_goOn_57 : decode cX7_goOn 57 = .ok (.iaload, 1) := by decide +kernel
theorem dX7_goOn_58 : decode cX7_goOn 58 = .ok (.iaload, 1) := by decide +kernel
theorem dX7_goOn_59 : decode cX7_goOn 59 = .ok (.aload_n 0, 1) := by decide +kernel
theorem dX7_goOn_60 : decode cX7_goOn 60 = .ok (.getfield 11, 3) := by decide +kernel
theorem dX7_goOn_63 : decode cX7_goOn 63 = .ok (.aload_n 0, 1) := by decide +kernel
theorem dX7_goOn_64 : decode cX7_goOn 64 = .ok (.getfield 18, 3) := by decide +kernel
theorem dX7_goOn_67 : decode cX7_goOn 67 = .ok (.aload_n 0, 1) := by decide +kernel
theorem dX7_goOn_68 : decode cX7_goOn 68 = .ok (.getfield 25, 3) := by decide +kernel
theorem dX7_goOn_71 : decode cX7_goOn 71 = .ok (.getfield 97, 3) := by decide +kernel
theorem dX7_goOn_74 : decode cX7_goOn 74 = .ok (.iload_n 2, 1) := by decide +kernel
theorem dX7_goOn_75 : decode cX7_goOn 75 = .ok (.iaload, 1) := by decide +kernel
theorem dX7_goOn_76 : decode cX7_goOn 76 = .ok (.iaload, 1) := by decide +kernel
theorem dX7_goOn_77 : decode cX7_goOn 77 = .ok (.iaload, 1) := by decide +kernel
theorem dX7_goOn_78 : decode cX7_goOn 78 = .ok (.ior, 1) := by decide +kernel
theorem dX7_goOn_79 : decode cX7_goOn 79 = .ok (.invokevirtual 72, 3) := by decide +kernel
theorem dX7_goOn_82 : decode cX7_goOn 82 = .ok (.return_, 1) := by decide +kernel
theorem dX7_goOn_83 : decode cX7_goOn 83 = .ok (.iload_n 1, 1) := by decide +kernel
theorem dX7_goOn_84 : decode cX7_goOn 84 = .ok (.iload 4, 2) := by decide +kernel
theorem dX7_goOn_86 : decode cX7_goOn 86 = .ok (.iload_n 3, 1) := by decide +kernel
theorem dX7_goOn_87 : decode cX7_goOn 87 = .ok (.idiv, 1) := by decide +kernel
theorem dX7_goOn_88 : decode cX7_goOn 88 = .ok (.invokestatic 100, 3) := by decide +kernel
theorem dX7_goOn_91 : decode cX7_goOn 91 = .ok (.istore_n 1, 1) := by decide +kernel
theorem dX7_goOn_92 : decode cX7_goOn 92 = .ok (.iinc 2 1, 3) := by decide +kernel
theorem dX7_goOn_95 : decode cX7_goOn 95 = .ok (.goto (-90), 3) := by decide +kernel
theorem dX7_goOn_98 : decode cX7_goOn 98 = .ok (.iload_n 1, 1) := by decide +kernel
theorem dX7_goOn_99 : decode cX7_goOn 99 = .ok (.ldc 84, 2) := by decide +kernel
theorem dX7_goOn_101 : decode cX7_goOn 101 = .ok (.if_icmp .ne 12, 3) := by decide +kernel
theorem dX7_goOn_104 : decode cX7_goOn 104 = .ok (.aload_n 0, 1) := by decide +kernel
theorem dX7_goOn_105 : decode cX7_goOn 105 = .ok (.bipush (-2), 2) := by decide +kernel
theorem dX7_goOn_107 : decode cX7_goOn 107 = .ok (.putfield 32, 3) := by decide +kernel
theorem dX7_goOn_110 : decode cX7_goOn 110 = .ok (.goto 8, 3) := by decide +kernel
theorem dX7_goOn_113 : decode cX7_goOn 113 = .ok (.aload_n 0, 1) := by decide +kernel
theorem dX7_goOn_114 : decode cX7_goOn 114 = .ok (.iload_n 1, 1) := by decide +kernel
theorem dX7_goOn_115 : decode cX7_goOn 115 = .ok (.invokevirtual 105, 3) := by decide +kernel
theorem dX7_goOn_118 : decode cX7_goOn 118 = .ok (.return_, 1) := by decide +kernel
set_option maxRecDepth 20000 in
theorem ggX7_activeSidesOf_X2_isThere : GoodIn wsX7_activeSidesOf wsX2_isThere := goodIn_r _ [7, 8, 9, 10, 11, 27, 28, 29, 30, 31, 32, 33, 34, 35, 36, 37, 38, 39, 40, 41, 42, 43, 44] (by decide +kernel) (by decide +kernel)
set_option maxRecDepth 20000 in
theorem gX7_activeSidesOf_X2_isThere : GoodIn wsX7_activeSidesOf (wsV RX7 108 RX2 yX2_isThere wsX2_isThere) := goodIn_app (goodIn_of _ (by decide +kernel)) ggX7_activeSidesOf_X2_isThere
set_option maxRecDepth 20000 in
theorem ggX7_activeSidesOf_X7_isActive : GoodIn wsX7_activeSidesOf wsX7_isActive := goodIn_r _ [16, 17, 2, 18, 19, 20, 21, 22, 23, 24, 25, 26, 27, 28, 29, 30, 31, 32, 33, 34, 35, 36, 37, 38, 39, 40, 41, 42, 43, 44] (by decide +kernel) (by decide +kernel)
set_option maxRecDepth 20000 in
theorem gX7_activeSidesOf_X7_isActive : GoodIn wsX7_activeSidesOf (wsV RX7 80 RX7 yX7_isActive wsX7_isActive) := goodIn_app (goodIn_of _ (by decide +kernel)) ggX7_activeSidesOf_X7_isActive
theorem dX7_activeSidesOf_0 : decode cX7_activeSidesOf 0 = .ok (.aload_n 0, 1) := by decide +kernel
theorem dX7_activeSidesOf_1 : decode cX7_activeSidesOf 1 = .ok (.getfield 18, 3) := by decide +kernel
theorem dX7_activeSidesOf_4 : decode cX7_activeSidesOf 4 = .ok (.aload_n 0, 1) := by decide +kernel
theorem dX7_activeSidesOf_5 : decode cX7_activeSidesOf 5 = .ok (.getfield 25, 3) := by decide +kernel
theorem dX7_activeSidesOf_8 : decode cX7_activeSidesOf 8 = .ok (.getfield 94, 3) := by decide +kernel
theorem dX7_activeSidesOf_11 : decode cX7_activeSidesOf 11 = .ok (.iload_n 1, 1) := by decide +kernel
theorem dX7_activeSidesOf_12 : decode cX7_activeSidesOf 12 = .ok (.iaload, 1) := by decide +kernel
theorem dX7_activeSidesOf_13 : decode cX7_activeSidesOf 13 = .ok (.iaload, 1) := by decide +kernel
theorem dX7_activeSidesOf_14 : decode cX7_activeSidesOf 14 = .ok (.istore_n 2, 1) := by decide +kernel
theorem dX7_activeSidesOf_15 : decode cX7_activeSidesOf 15 = .ok (.aload_n 0, 1) := by decide +kernel
theorem dX7_activeSidesOf_16 : decode cX7_activeSidesOf 16 = .ok (.getfield 18, 3) := by decide +kernel
theorem dX7_activeSidesOf_19 : decode cX7_activeSidesOf 19 = .ok (.aload_n 0, 1) := by decide +kernel
theorem dX7_activeSidesOf_20 : decode cX7_activeSidesOf 20 = .ok (.getfield 25, 3) := by decide +kernel
theorem dX7_activeSidesOf_23 : decode cX7_activeSidesOf 23 = .ok (.getfield 97, 3) := by decide +kernel
theorem dX7_activeSidesOf_26 : decode cX7_activeSidesOf 26 = .ok (.iload_n 1, 1) := by decide +kernel
theorem dX7_activeSidesOf_27 : decode cX7_activeSidesOf 27 = .ok (.iaload, 1) := by decide +kernel
theorem dX7_activeSidesOf_28 : decode cX7_activeSidesOf 28 = .ok (.iaload, 1) := by decide +kernel
theorem dX7_activeSidesOf_29 : decode cX7_activeSidesOf 29 = .ok (.istore_n 3, 1) := by decide +kernel
theorem dX7_activeSidesOf_30 : decode cX7_activeSidesOf 30 = .ok (.aload_n 0, 1) := by decide +kernel
theorem dX7_activeSidesOf_31 : decode cX7_activeSidesOf 31 = .ok (.getfield 25, 3) := by decide +kernel
theorem dX7_activeSidesOf_34 : decode cX7_activeSidesOf 34 = .ok (.iload_n 1, 1) := by decide +kernel
theorem dX7_activeSidesOf_35 : decode cX7_activeSidesOf 35 = .ok (.invokevirtual 108, 3) := by decide +kernel
theorem dX7_activeSidesOf_38 : decode cX7_activeSidesOf 38 = .ok (.ifCond .eq 8, 3) := by decide +kernel
theorem dX7_activeSidesOf_41 : decode cX7_activeSidesOf 41 = .ok (.iload_n 2, 1) := by decide +kernel
theorem dX7_activeSidesOf_42 : decode cX7_activeSidesOf 42 = .ok (.iload_n 3, 1) := by decide +kernel
theorem dX7_activeSidesOf_43 : decode cX7_activeSidesOf 43 = .ok (.if_icmp .ne 5, 3) := by decide +kernel
theorem dX7_activeSidesOf_46 : decode cX7_activeSidesOf 46 = .ok (.iconst 0, 1) := by decide +kernel
theorem dX7_activeSidesOf_47 : decode cX7_activeSidesOf 47 = .ok (.ireturn, 1) := by decide +kernel
theorem dX7_activeSidesOf_48 : decode cX7_activeSidesOf 48 = .ok (.aload_n 0, 1) := by decide +kernel
theorem dX7_activeSidesOf_49 : decode cX7_activeSidesOf 49 = .ok (.iload_n 2, 1) := by decide +kernel
theorem dX7_activeSidesOf_50 : decode cX7_activeSidesOf 50 = .ok (.invokevirtual 80, 3) := by decide +kernel
theorem dX7_activeSidesOf_53 : decode cX7_activeSidesOf 53 = .ok (.ifCond .eq 7, 3) := by decide +kernel
theorem dX7_activeSidesOf_56 : decode cX7_activeSidesOf 56 = .ok (.iconst 1, 1) := by decide +kernel
theorem dX7_activeSidesOf_57 : decode cX7_activeSidesOf 57 = .ok (.goto 4, 3) := by decide +kernel
theorem dX7_activeSidesOf_60 : decode cX7_activeSidesOf 60 = .ok (.iconst 0, 1) := by decide +kernel
theorem dX7_activeSidesOf_61 : decode cX7_activeSidesOf 61 = .ok (.aload_n 0, 1) := by decide +kernel
theorem dX7_activeSidesOf_62 : decode cX7_activeSidesOf 62 = .ok (.iload_n 3, 1) := by decide +kernel
theorem dX7_activeSidesOf_63 : decode cX7_activeSidesOf 63 = .ok (.invokevirtual 80, 3) := by decide +kernel
theorem dX7_activeSidesOf_66 : decode cX7_activeSidesOf 66 = .ok (.ifCond .eq 7, 3) := by decide +kernel
theorem dX7_activeSidesOf_69 : decode cX7_activeSidesOf 69 = .ok (.iconst 1, 1) := by decide +kernel
theorem dX7_activeSidesOf_70 : decode cX7_activeSidesOf 70 = .ok (.goto 4, 3) := by decide +kernel
theorem dX7_activeSidesOf_73 : decode cX7_activeSidesOf 73 = .ok (.iconst 0, 1) := by decide +kernel
theorem dX7_activeSidesOf_74 : decode cX7_activeSidesOf 74 = .ok (.iadd, 1) := by decide +kernel
theorem dX7_activeSidesOf_75 : decode cX7_activeSidesOf 75 = .ok (.ireturn, 1) := by decide +kernel
set_option maxRecDepth 20000 in
theorem ggX7_roomOf_J6_bitCount_0f7a4 : GoodIn wsX7_roomOf wsJ6_bitCount_0f7a4 := goodIn_r _ [8, 9, 10, 11] (by decide +kernel) (by decide +kernel)
set_option maxRecDepth 20000 in
theorem gX7_roomOf_J6_bitCount_0f7a4 : GoodIn wsX7_roomOf (va_wsS RX7 117 yJ6_bitCount_0f7a4 wsJ6_bitCount_0f7a4) := goodIn_app (goodIn_of _ (by decide +kernel)) ggX7_roomOf_J6_bitCount_0f7a4
theorem dX7_roomOf_0 : decode cX7_roomOf 0 = .ok (.sipush 1024, 3) := by decide +kernel
theorem dX7_roomOf_3 : decode cX7_roomOf 3 = .ok (.aload_n 0, 1) := by decide +kernel
theorem dX7_roomOf_4 : decode cX7_roomOf 4 = .ok (.getfield 25, 3) := by decide +kernel
theorem dX7_roomOf_7 : decode cX7_roomOf 7 = .ok (.getfield 111, 3) := by decide +kernel
theorem dX7_roomOf_10 : decode cX7_roomOf 10 = .ok (.iload_n 1, 1) := by decide +kernel
theorem dX7_roomOf_11 : decode cX7_roomOf 11 = .ok (.iaload, 1) := by decide +kernel
theorem dX7_roomOf_12 : decode cX7_roomOf 12 = .ok (.imul, 1) := by decide +kernel
theorem dX7_roomOf_13 : decode cX7_roomOf 13 = .ok (.istore_n 2, 1) := by decide +kernel
theorem dX7_roomOf_14 : decode cX7_roomOf 14 = .ok (.iconst 0, 1) := by decide +kernel
theorem dX7_roomOf_15 : decode cX7_roomOf 15 = .ok (.istore_n 3, 1) := by decide +kernel
theorem dX7_roomOf_16 : decode cX7_roomOf 16 = .ok (.iload_n 3, 1) := by decide +kernel
theorem dX7_roomOf_17 : decode cX7_roomOf 17 = .ok (.aload_n 0, 1) := by decide +kernel
theorem dX7_roomOf_18 : decode cX7_roomOf 18 = .ok (.getfield 35, 3) := by decide +kernel
theorem dX7_roomOf_21 : decode cX7_roomOf 21 = .ok (.if_icmp .ge 41, 3) := by decide +kernel
theorem dX7_roomOf_24 : decode cX7_roomOf 24 = .ok (.aload_n 0, 1) := by decide +kernel
theorem dX7_roomOf_25 : decode cX7_roomOf 25 = .ok (.getfield 11, 3) := by decide +kernel
theorem dX7_roomOf_28 : decode cX7_roomOf 28 = .ok (.iload_n 3, 1) := by decide +kernel
theorem dX7_roomOf_29 : decode cX7_roomOf 29 = .ok (.iaload, 1) := by decide +kernel
theorem dX7_roomOf_30 : decode cX7_roomOf 30 = .ok (.aload_n 0, 1) := by decide +kernel
theorem dX7_roomOf_31 : decode cX7_roomOf 31 = .ok (.getfield 25, 3) := by decide +kernel
theorem dX7_roomOf_34 : decode cX7_roomOf 34 = .ok (.getfield 114, 3) := by decide +kernel
theorem dX7_roomOf_37 : decode cX7_roomOf 37 = .ok (.iload_n 1, 1) := by decide +kernel
theorem dX7_roomOf_38 : decode cX7_roomOf 38 = .ok (.iaload, 1) := by decide +kernel
theorem dX7_roomOf_39 : decode cX7_roomOf 39 = .ok (.iand, 1) := by decide +kernel
theorem dX7_roomOf_40 : decode cX7_roomOf 40 = .ok (.invokestatic 117, 3) := by decide +kernel
theorem dX7_roomOf_43 : decode cX7_roomOf 43 = .ok (.iconst 1, 1) := by decide +kernel
theorem dX7_roomOf_44 : decode cX7_roomOf 44 = .ok (.if_icmp .ne 12, 3) := by decide +kernel
theorem dX7_roomOf_47 : decode cX7_roomOf 47 = .ok (.iload_n 2, 1) := by decide +kernel
theorem dX7_roomOf_48 : decode cX7_roomOf 48 = .ok (.aload_n 0, 1) := by decide +kernel
theorem dX7_roomOf_49 : decode cX7_roomOf 49 = .ok (.getfield 15, 3) := by decide +kernel
theorem dX7_roomOf_52 : decode cX7_roomOf 52 = .ok (.iload_n 3, 1) := by decide +kernel
theorem dX7_roomOf_53 : decode cX7_roomOf 53 = .ok (.iaload, 1) := by decide +kernel
theorem dX7_roomOf_54 : decode cX7_roomOf 54 = .ok (.isub, 1) := by decide +kernel
theorem dX7_roomOf_55 : decode cX7_roomOf 55 = .ok (.istore_n 2, 1) := by decide +kernel
theorem dX7_roomOf_56 : decode cX7_roomOf 56 = .ok (.iinc 3 1, 3) := by decide +kernel
theorem dX7_roomOf_59 : decode cX7_roomOf 59 = .ok (.goto (-43), 3) := by decide +kernel
theorem dX7_roomOf_62 : decode cX7_roomOf 62 = .ok (.iload_n 2, 1) := by decide +kernel
theorem dX7_roomOf_63 : decode cX7_roomOf 63 = .ok (.ireturn, 1) := by decide +kernel
set_option maxRecDepth 20000 in
theorem ggX7_growActive_J6_numberOfTrailingZeros_0f7a4 : GoodIn wsX7_growActive wsJ6_numberOfTrailingZeros_0f7a4 := goodIn_r _ [8, 9] (by decide +kernel) (by decide +kernel)
set_option maxRecDepth 20000 in
theorem gX7_growActive_J6_numberOfTrailingZeros_0f7a4 : GoodIn wsX7_growActive (va_wsS RX7 120 yJ6_numberOfTrailingZeros_0f7a4 wsJ6_numberOfTrailingZeros_0f7a4) := goodIn_app (goodIn_of _ (by decide +kernel)) ggX7_growActive_J6_numberOfTrailingZeros_0f7a4
set_option maxRecDepth 20000 in
theorem ggX7_growActive_X7_isActive : GoodIn wsX7_growActive wsX7_isActive := goodIn_r _ [14, 3, 15, 16, 17, 18, 19, 20, 21, 22, 23, 24, 25, 26, 27, 28, 29, 30, 31, 32, 33, 34, 35, 36, 37, 38, 39, 40, 41, 42] (by decide +kernel) (by decide +kernel)
set_option maxRecDepth 20000 in
theorem gX7_growActive_X7_isActive : GoodIn wsX7_growActive (wsV RX7 80 RX7 yX7_isActive wsX7_isActive) := goodIn_app (goodIn_of _ (by decide +kernel)) ggX7_growActive_X7_isActive
theorem dX7_growActive_0 : decode cX7_growActive 0 = .ok (.iconst 0, 1) := by decide +kernel
theorem dX7_growActive_1 : decode cX7_growActive 1 = .ok (.istore_n 2, 1) := by decide +kernel
theorem dX7_growActive_2 : decode cX7_growActive 2 = .ok (.iload_n 2, 1) := by decide +kernel
theorem dX7_growActive_3 : decode cX7_growActive 3 = .ok (.aload_n 0, 1) := by decide +kernel
theorem dX7_growActive_4 : decode cX7_growActive 4 = .ok (.getfield 35, 3) := by decide +kernel
theorem dX7_growActive_7 : decode cX7_growActive 7 = .ok (.if_icmp .ge 55, 3) := by decide +kernel
theorem dX7_growActive_10 : decode cX7_growActive 10 = .ok (.aload_n 0, 1) := by decide +kernel
theorem dX7_growActive_11 : decode cX7_growActive 11 = .ok (.getfield 18, 3) := by decide +kernel
theorem dX7_growActive_14 : decode cX7_growActive 14 = .ok (.aload_n 0, 1) := by decide +kernel
theorem dX7_growActive_15 : decode cX7_growActive 15 = .ok (.getfield 11, 3) := by decide +kernel
theorem dX7_growActive_18 : decode cX7_growActive 18 = .ok (.iload_n 2, 1) := by decide +kernel
theorem dX7_growActive_19 : decode cX7_growActive 19 = .ok (.iaload, 1) := by decide +kernel
theorem dX7_growActive_20 : decode cX7_growActive 20 = .ok (.invokestatic 120, 3) := by decide +kernel
theorem dX7_growActive_23 : decode cX7_growActive 23 = .ok (.iaload, 1) := by decide +kernel
theorem dX7_growActive_24 : decode cX7_growActive 24 = .ok (.iload_n 2, 1) := by decide +kernel
theorem dX7_growActive_25 : decode cX7_growActive 25 = .ok (.if_icmp .ne 7, 3) := by decide +kernel
theorem dX7_growActive_28 : decode cX7_growActive 28 = .ok (.iconst 1, 1) := by decide +kernel
theorem dX7_growActive_29 : decode cX7_growActive 29 = .ok (.goto 4, 3) := by decide +kernel
theorem dX7_growActive_32 : decode cX7_growActive 32 = .ok (.iconst 0, 1) := by decide +kernel
theorem dX7_growActive_33 : decode cX7_growActive 33 = .ok (.istore_n 3, 1) := by decide +kernel
theorem dX7_growActive_34 : decode cX7_growActive 34 = .ok (.iload_n 3, 1) := by decide +kernel
theorem dX7_growActive_35 : decode cX7_growActive 35 = .ok (.ifCond .eq 21, 3) := by decide +kernel
theorem dX7_growActive_38 : decode cX7_growActive 38 = .ok (.aload_n 0, 1) := by decide +kernel
theorem dX7_growActive_39 : decode cX7_growActive 39 = .ok (.iload_n 2, 1) := by decide +kernel
theorem dX7_growActive_40 : decode cX7_growActive 40 = .ok (.invokevirtual 80, 3) := by decide +kernel
theorem dX7_growActive_43 : decode cX7_growActive 43 = .ok (.ifCond .eq 13, 3) := by decide +kernel
theorem dX7_growActive_46 : decode cX7_growActive 46 = .ok (.aload_n 0, 1) := by decide +kernel
theorem dX7_growActive_47 : decode cX7_growActive 47 = .ok (.getfield 15, 3) := by decide +kernel
theorem dX7_growActive_50 : decode cX7_growActive 50 = .ok (.iload_n 2, 1) := by decide +kernel
theorem dX7_growActive_51 : decode cX7_growActive 51 = .ok (.dup2, 1) := by decide +kernel
theorem dX7_growActive_52 : decode cX7_growActive 52 = .ok (.iaload, 1) := by decide +kernel
theorem dX7_growActive_53 : decode cX7_growActive 53 = .ok (.iload_n 1, 1) := by decide +kernel
theorem dX7_growActive_54 : decode cX7_growActive 54 = .ok (.iadd, 1) := by decide +kernel
theorem dX7_growActive_55 : decode cX7_growActive 55 = .ok (.iastore, 1) := by decide +kernel
theorem dX7_growActive_56 : decode cX7_growActive 56 = .ok (.iinc 2 1, 3) := by decide +kernel
theorem dX7_growActive_59 : decode cX7_growActive 59 = .ok (.goto (-57), 3) := by decide +kernel
theorem dX7_growActive_62 : decode cX7_growActive 62 = .ok (.return_, 1) := by decide +kernel
theorem dX8_init_0 : decode cX8_init 0 = .ok (.aload_n 0, 1) := by decide +kernel
theorem dX8_init_1 : decode cX8_init 1 = .ok (.invokespecial 3, 3) := by decide +kernel
theorem dX8_init_4 : decode cX8_init 4 = .ok (.aload_n 0, 1) := by decide +kernel
theorem dX8_init_5 : decode cX8_init 5 = .ok (.bipush 10, 2) := by decide +kernel
theorem dX8_init_7 : decode cX8_init 7 = .ok (.newarray .int, 2) := by decide +kernel
theorem dX8_init_9 : decode cX8_init 9 = .ok (.putfield 9, 3) := by decide +kernel
theorem dX8_init_12 : decode cX8_init 12 = .ok (.aload_n 0, 1) := by decide +kernel
theorem dX8_init_13 : decode cX8_init 13 = .ok (.bipush 10, 2) := by decide +kernel
theorem dX8_init_15 : decode cX8_init 15 = .ok (.newarray .int, 2) := by decide +kernel
theorem dX8_init_17 : decode cX8_init 17 = .ok (.putfield 15, 3) := by decide +kernel
theorem dX8_init_20 : decode cX8_init 20 = .ok (.aload_n 0, 1) := by decide +kernel
theorem dX8_init_21 : decode cX8_init 21 = .ok (.aload_n 1, 1) := by decide +kernel
theorem dX8_init_22 : decode cX8_init 22 = .ok (.putfield 18, 3) := by decide +kernel
theorem dX8_init_25 : decode cX8_init 25 = .ok (.return_, 1) := by decide +kernel
set_option maxRecDepth 20000 in
theorem ggX8_sumOf_X8_measure : GoodIn wsX8_sumOf wsX8_measure := goodIn_r _ [8, 1, 2, 9, 10, 11, 12, 13, 14, 15, 16, 17, 18, 19, 20, 21, 22, 23, 24, 25, 7, 26, 27, 28, 29, 30, 31, 32, 33, 34, 35, 36, 37, 38, 39, 40, 41, 42, 43, 44, 45, 46, 47, 48, 49, 50, 51] (by decide +kernel) (by decide +kernel)
set_option maxRecDepth 20000 in
theorem gX8_sumOf_X8_measure : GoodIn wsX8_sumOf (wsV RX8 22 RX8 yX8_measure wsX8_measure) := goodIn_app (goodIn_of _ (by decide +kernel)) ggX8_sumOf_X8_measure
theorem dX8_sumOf_0 : decode cX8_sumOf 0 = .ok (.aload_n 0, 1) := by decide +kernel
theorem dX8_sumOf_1 : decode cX8_sumOf 1 = .ok (.iload_n 2, 1) := by decide +kernel
theorem dX8_sumOf_2 : decode cX8_sumOf 2 = .ok (.invokevirtual 22, 3) := by decide +kernel
theorem dX8_sumOf_5 : decode cX8_sumOf 5 = .ok (.aload_n 0, 1) := by decide +kernel
theorem dX8_sumOf_6 : decode cX8_sumOf 6 = .ok (.getfield 9, 3) := by decide +kernel
theorem dX8_sumOf_9 : decode cX8_sumOf 9 = .ok (.iload_n 1, 1) := by decide +kernel
theorem dX8_sumOf_10 : decode cX8_sumOf 10 = .ok (.iaload, 1) := by decide +kernel
theorem dX8_sumOf_11 : decode cX8_sumOf 11 = .ok (.ldc 26, 2) := by decide +kernel
theorem dX8_sumOf_13 : decode cX8_sumOf 13 = .ok (.if_icmp .ge 12, 3) := by decide +kernel
theorem dX8_sumOf_16 : decode cX8_sumOf 16 = .ok (.aload_n 0, 1) := by decide +kernel
theorem dX8_sumOf_17 : decode cX8_sumOf 17 = .ok (.getfield 9, 3) := by decide +kernel
theorem dX8_sumOf_20 : decode cX8_sumOf 20 = .ok (.iload_n 1, 1) := by decide +kernel
theorem dX8_sumOf_21 : decode cX8_sumOf 21 = .ok (.iaload, 1) := by decide +kernel
theorem dX8_sumOf_22 : decode cX8_sumOf 22 = .ok (.goto 5, 3) := by decide +kernel
theorem dX8_sumOf_25 : decode cX8_sumOf 25 = .ok (.ldc 27, 2) := by decide +kernel
theorem dX8_sumOf_27 : decode cX8_sumOf 27 = .ok (.ireturn, 1) := by decide +kernel
set_option maxRecDepth 20000 in
theorem ggX8_placeOn_X8_measure : GoodIn wsX8_placeOn wsX8_measure := goodIn_r _ [8, 2, 3, 1, 9, 10, 11, 12, 13, 14, 15, 16, 17, 18, 19, 20, 21, 22, 23, 24, 7, 25, 26, 27, 28, 29, 34, 35, 36, 37, 38, 39, 40, 41, 42, 43, 44, 45, 46, 47, 48, 49, 50, 51, 52, 53, 54] (by decide +kernel) (by decide +kernel)
set_option maxRecDepth 20000 in
theorem gX8_placeOn_X8_measure : GoodIn wsX8_placeOn (wsV RX8 22 RX8 yX8_measure wsX8_measure) := goodIn_app (goodIn_of _ (by decide +kernel)) ggX8_placeOn_X8_measure
set_option maxRecDepth 20000 in
theorem ggX8_placeOn_X8_nextOf : GoodIn wsX8_placeOn wsX8_nextOf := goodIn_r _ [33, 1, 2, 19, 20, 21, 26, 27, 28, 7, 29, 34, 35, 36, 37, 38, 39, 40, 41, 42, 43, 44, 45, 46, 47, 48, 49, 50, 51, 52, 53, 54] (by decide +kernel) (by decide +kernel)
set_option maxRecDepth 20000 in
theorem gX8_placeOn_X8_nextOf : GoodIn wsX8_placeOn (wsV RX8 34 RX8 yX8_nextOf wsX8_nextOf) := goodIn_app (goodIn_of _ (by decide +kernel)) ggX8_placeOn_X8_nextOf
theorem dX8_placeOn_0 : decode cX8_placeOn 0 = .ok (.iload_n 3, 1) := by decide +kernel
theorem dX8_placeOn_1 : decode cX8_placeOn 1 = .ok (.ifCond .lt 14, 3) := by decide +kernel
theorem dX8_placeOn_4 : decode cX8_placeOn 4 = .ok (.iload_n 3, 1) := by decide +kernel
theorem dX8_placeOn_5 : decode cX8_placeOn 5 = .ok (.aload_n 0, 1) := by decide +kernel
theorem dX8_placeOn_6 : decode cX8_placeOn 6 = .ok (.getfield 18, 3) := by decide +kernel
theorem dX8_placeOn_9 : decode cX8_placeOn 9 = .ok (.getfield 28, 3) := by decide +kernel
theorem dX8_placeOn_12 : decode cX8_placeOn 12 = .ok (.if_icmp .lt 5, 3) := by decide +kernel
theorem dX8_placeOn_15 : decode cX8_placeOn 15 = .ok (.iconst (-1), 1) := by decide +kernel
theorem dX8_placeOn_16 : decode cX8_placeOn 16 = .ok (.ireturn, 1) := by decide +kernel
theorem dX8_placeOn_17 : decode cX8_placeOn 17 = .ok (.aload_n 0, 1) := by decide +kernel
theorem dX8_placeOn_18 : decode cX8_placeOn 18 = .ok (.iload_n 2, 1) := by decide +kernel
theorem dX8_placeOn_19 : decode cX8_placeOn 19 = .ok (.invokevirtual 22, 3) := by decide +kernel
theorem dX8_placeOn_22 : decode cX8_placeOn 22 = .ok (.aload_n 0, 1) := by decide +kernel
theorem dX8_placeOn_23 : decode cX8_placeOn 23 = .ok (.getfield 9, 3) := by decide +kernel
theorem dX8_placeOn_26 : decode cX8_placeOn 26 = .ok (.iload_n 1, 1) := by decide +kernel
theorem dX8_placeOn_27 : decode cX8_placeOn 27 = .ok (.iaload, 1) := by decide +kernel
theorem dX8_placeOn_28 : decode cX8_placeOn 28 = .ok (.ldc 26, 2) := by decide +kernel
theorem dX8_placeOn_30 : decode cX8_placeOn 30 = .ok (.if_icmp .lt 5, 3) := by decide +kernel
theorem dX8_placeOn_33 : decode cX8_placeOn 33 = .ok (.iconst (-1), 1) := by decide +kernel
theorem dX8_placeOn_34 : decode cX8_placeOn 34 = .ok (.ireturn, 1) := by decide +kernel
theorem dX8_placeOn_35 : decode cX8_placeOn 35 = .ok (.iload_n 1, 1) := by decide +kernel
theorem dX8_placeOn_36 : decode cX8_placeOn 36 = .ok (.istore 4, 2) := by decide +kernel
theorem dX8_placeOn_38 : decode cX8_placeOn 38 = .ok (.iconst 0, 1) := by decide +kernel
theorem dX8_placeOn_39 : decode cX8_placeOn 39 = .ok (.istore 5, 2) := by decide +kernel
theorem dX8_placeOn_41 : decode cX8_placeOn 41 = .ok (.iload 5, 2) := by decide +kernel
theorem dX8_placeOn_43 : decode cX8_placeOn 43 = .ok (.iload_n 3, 1) := by decide +kernel
theorem dX8_placeOn_44 : decode cX8_placeOn 44 = .ok (.if_icmp .ge 24, 3) := by decide +kernel
theorem dX8_placeOn_47 : decode cX8_placeOn 47 = .ok (.iload 4, 2) := by decide +kernel
theorem dX8_placeOn_49 : decode cX8_placeOn 49 = .ok (.iconst (-1), 1) := by decide +kernel
theorem dX8_placeOn_50 : decode cX8_placeOn 50 = .ok (.if_icmp .eq 18, 3) := by decide +kernel
theorem dX8_placeOn_53 : decode cX8_placeOn 53 = .ok (.aload_n 0, 1) := by decide +kernel
theorem dX8_placeOn_54 : decode cX8_placeOn 54 = .ok (.iload 4, 2) := by decide +kernel
theorem dX8_placeOn_56 : decode cX8_placeOn 56 = .ok (.iload_n 2, 1) := by decide +kernel
theorem dX8_placeOn_57 : decode cX8_placeOn 57 = .ok (.invokevirtual 34, 3) := by decide +kernel
theorem dX8_placeOn_60 : decode cX8_placeOn 60 = .ok (.istore 4, 2) := by decide +kernel
theorem dX8_placeOn_62 : decode cX8_placeOn 62 = .ok (.iinc 5 1, 3) := by decide +kernel
theorem dX8_placeOn_65 : decode cX8_placeOn 65 = .ok (.goto (-24), 3) := by decide +kernel
theorem dX8_placeOn_68 : decode cX8_placeOn 68 = .ok (.iload 4, 2) := by decide +kernel
theorem dX8_placeOn_70 : decode cX8_placeOn 70 = .ok (.ireturn, 1) := by decide +kernel
set_option maxRecDepth 20000 in
theorem ggX8_spanOfTaps_J7_fill_53178 : GoodIn wsX8_spanOfTaps wsJ7_fill_53178 := goodIn_r _ [8] (by decide +kernel) (by decide +kernel)
set_option maxRecDepth 20000 in
theorem gX8_spanOfTaps_J7_fill_53178 : GoodIn wsX8_spanOfTaps (va_wsS RX8 41 yJ7_fill_53178 wsJ7_fill_53178) := goodIn_app (goodIn_of _ (by decide +kernel)) ggX8_spanOfTaps_J7_fill_53178
set_option maxRecDepth 20000 in
theorem ggX8_spanOfTaps_J6_numberOfTrailingZeros_0f7a4 : GoodIn wsX8_spanOfTaps wsJ6_numberOfTrailingZeros_0f7a4 := goodIn_r _ [12, 13] (by decide +kernel) (by decide +kernel)
set_option maxRecDepth 20000 in
theorem gX8_spanOfTaps_J6_numberOfTrailingZeros_0f7a4 : GoodIn wsX8_spanOfTaps (va_wsS RX8 47 yJ6_numberOfTrailingZeros_0f7a4 wsJ6_numberOfTrailingZeros_0f7a4) := goodIn_app (goodIn_of _ (by decide +kernel)) ggX8_spanOfTaps_J6_numberOfTrailingZeros_0f7a4
set_option maxRecDepth 20000 in
theorem ggX8_spanOfTaps_X8_comeNearer : GoodIn wsX8_spanOfTaps wsX8_comeNearer := goodIn_r _ [18, 1, 3, 19, 20, 21, 22, 23, 24, 25, 26, 17, 27, 4, 5, 6, 7, 8, 28, 29, 30, 31, 32, 33, 34, 35, 36, 37, 38, 39, 40, 41, 42, 43, 44, 49, 50, 51, 52, 53, 54, 55, 56, 57, 58, 59, 60, 61, 62, 63, 64, 65, 66, 67, 68, 69] (by decide +kernel) (by decide +kernel)
set_option maxRecDepth 20000 in
theorem gX8_spanOfTaps_X8_comeNearer : GoodIn wsX8_spanOfTaps (wsV RX8 53 RX8 yX8_comeNearer wsX8_comeNearer) := goodIn_app (goodIn_of _ (by decide +kernel)) ggX8_spanOfTaps_X8_comeNearer
set_option maxRecDepth 20000 in
theorem ggX8_spanOfTaps_X8_nearestOf : GoodIn wsX8_spanOfTaps wsX8_nearestOf := goodIn_r _ [48, 4, 1, 3, 34, 35, 36, 49, 50, 51, 52, 53, 54, 55, 56, 57, 58, 59, 60, 61, 62, 63, 64, 65, 66, 67, 68, 69] (by decide +kernel) (by decide +kernel)
set_option maxRecDepth 20000 in
theorem gX8_spanOfTaps_X8_nearestOf : GoodIn wsX8_spanOfTaps (wsV RX8 56 RX8 yX8_nearestOf wsX8_nearestOf) := goodIn_app (goodIn_of _ (by decide +kernel)) ggX8_spanOfTaps_X8_nearestOf
theorem dX8_spanOfTaps_0 : decode cX8_spanOfTaps 0 = .ok (.aload_n 0, 1) := by decide +kernel
theorem dX8_spanOfTaps_1 : decode cX8_spanOfTaps 1 = .ok (.getfield 18, 3) := by decide +kernel
theorem dX8_spanOfTaps_4 : decode cX8_spanOfTaps 4 = .ok (.getfield 38, 3) := by decide +kernel
theorem dX8_spanOfTaps_7 : decode cX8_spanOfTaps 7 = .ok (.ifCond .ne 6, 3) := by decide +kernel
theorem dX8_spanOfTaps_10 : decode cX8_spanOfTaps 10 = .ok (.ldc 27, 2) := by decide +kernel
theorem dX8_spanOfTaps_12 : decode cX8_spanOfTaps 12 = .ok (.ireturn, 1) := by decide +kernel
theorem dX8_spanOfTaps_13 : decode cX8_spanOfTaps 13 = .ok (.aload_n 0, 1) := by decide +kernel
theorem dX8_spanOfTaps_14 : decode cX8_spanOfTaps 14 = .ok (.getfield 15, 3) := by decide +kernel
theorem dX8_spanOfTaps_17 : decode cX8_spanOfTaps 17 = .ok (.ldc 26, 2) := by decide +kernel
theorem dX8_spanOfTaps_19 : decode cX8_spanOfTaps 19 = .ok (.invokestatic 41, 3) := by decide +kernel
theorem dX8_spanOfTaps_22 : decode cX8_spanOfTaps 22 = .ok (.aload_n 0, 1) := by decide +kernel
theorem dX8_spanOfTaps_23 : decode cX8_spanOfTaps 23 = .ok (.getfield 18, 3) := by decide +kernel
theorem dX8_spanOfTaps_26 : decode cX8_spanOfTaps 26 = .ok (.getfield 38, 3) := by decide +kernel
theorem dX8_spanOfTaps_29 : decode cX8_spanOfTaps 29 = .ok (.invokestatic 47, 3) := by decide +kernel
theorem dX8_spanOfTaps_32 : decode cX8_spanOfTaps 32 = .ok (.istore_n 1, 1) := by decide +kernel
theorem dX8_spanOfTaps_33 : decode cX8_spanOfTaps 33 = .ok (.aload_n 0, 1) := by decide +kernel
theorem dX8_spanOfTaps_34 : decode cX8_spanOfTaps 34 = .ok (.getfield 18, 3) := by decide +kernel
theorem dX8_spanOfTaps_37 : decode cX8_spanOfTaps 37 = .ok (.getfield 38, 3) := by decide +kernel
theorem dX8_spanOfTaps_40 : decode cX8_spanOfTaps 40 = .ok (.iconst 1, 1) := by decide +kernel
theorem dX8_spanOfTaps_41 : decode cX8_spanOfTaps 41 = .ok (.iload_n 1, 1) := by decide +kernel
theorem dX8_spanOfTaps_42 : decode cX8_spanOfTaps 42 = .ok (.ishl, 1) := by decide +kernel
theorem dX8_spanOfTaps_43 : decode cX8_spanOfTaps 43 = .ok (.iconst (-1), 1) := by decide +kernel
theorem dX8_spanOfTaps_44 : decode cX8_spanOfTaps 44 = .ok (.ixor, 1) := by decide +kernel
theorem dX8_spanOfTaps_45 : decode cX8_spanOfTaps 45 = .ok (.iand, 1) := by decide +kernel
theorem dX8_spanOfTaps_46 : decode cX8_spanOfTaps 46 = .ok (.istore_n 2, 1) := by decide +kernel
theorem dX8_spanOfTaps_47 : decode cX8_spanOfTaps 47 = .ok (.iconst 0, 1) := by decide +kernel
theorem dX8_spanOfTaps_48 : decode cX8_spanOfTaps 48 = .ok (.istore_n 3, 1) := by decide +kernel
theorem dX8_spanOfTaps_49 : decode cX8_spanOfTaps 49 = .ok (.iconst 0, 1) := by decide +kernel
theorem dX8_spanOfTaps_50 : decode cX8_spanOfTaps 50 = .ok (.istore 4, 2) := by decide +kernel
theorem dX8_spanOfTaps_52 : decode cX8_spanOfTaps 52 = .ok (.iload 4, 2) := by decide +kernel
theorem dX8_spanOfTaps_54 : decode cX8_spanOfTaps 54 = .ok (.bipush 10, 2) := by decide +kernel
theorem dX8_spanOfTaps_56 : decode cX8_spanOfTaps 56 = .ok (.if_icmp .ge 49, 3) := by decide +kernel
theorem dX8_spanOfTaps_59 : decode cX8_spanOfTaps 59 = .ok (.iload_n 2, 1) := by decide +kernel
theorem dX8_spanOfTaps_60 : decode cX8_spanOfTaps 60 = .ok (.ifCond .eq 45, 3) := by decide +kernel
theorem dX8_spanOfTaps_63 : decode cX8_spanOfTaps 63 = .ok (.aload_n 0, 1) := by decide +kernel
theorem dX8_spanOfTaps_64 : decode cX8_spanOfTaps 64 = .ok (.iload_n 1, 1) := by decide +kernel
theorem dX8_spanOfTaps_65 : decode cX8_spanOfTaps 65 = .ok (.invokevirtual 53, 3) := by decide +kernel
theorem dX8_spanOfTaps_68 : decode cX8_spanOfTaps 68 = .ok (.aload_n 0, 1) := by decide +kernel
theorem dX8_spanOfTaps_69 : decode cX8_spanOfTaps 69 = .ok (.iload_n 2, 1) := by decide +kernel
theorem dX8_spanOfTaps_70 : decode cX8_spanOfTaps 70 = .ok (.invokevirtual 56, 3) := by decide +kernel
theorem dX8_spanOfTaps_73 : decode cX8_spanOfTaps 73 = .ok (.istore_n 1, 1) := by decide +kernel
theorem dX8_spanOfTaps_74 : decode cX8_spanOfTaps 74 = .ok (.iload_n 1, 1) := by decide +kernel
theorem dX8_spanOfTaps_75 : decode cX8_spanOfTaps 75 = .ok (.iconst (-1), 1) := by decide +kernel
theorem dX8_spanOfTaps_76 : decode cX8_spanOfTaps 76 = .ok (.if_icmp .ne 6, 3) := by decide +kernel
theorem dX8_spanOfTaps_79 : decode cX8_spanOfTaps 79 = .ok (.ldc 27, 2) := by decide +kernel
theorem dX8_spanOfTaps_81 : decode cX8_spanOfTaps 81 = .ok (.ireturn, 1) := by decide +kernel
theorem dX8_spanOfTaps_82 : decode cX8_spanOfTaps 82 = .ok (.iload_n 3, 1) := by decide +kernel
theorem dX8_spanOfTaps_83 : decode cX8_spanOfTaps 83 = .ok (.aload_n 0, 1) := by decide +kernel
theorem dX8_spanOfTaps_84 : decode cX8_spanOfTaps 84 = .ok (.getfield 15, 3) := by decide +kernel
theorem dX8_spanOfTaps_87 : decode cX8_spanOfTaps 87 = .ok (.iload_n 1, 1) := by decide +kernel
theorem dX8_spanOfTaps_88 : decode cX8_spanOfTaps 88 = .ok (.iaload, 1) := by decide +kernel
theorem dX8_spanOfTaps_89 : decode cX8_spanOfTaps 89 = .ok (.iadd, 1) := by decide +kernel
theorem dX8_spanOfTaps_90 : decode cX8_spanOfTaps 90 = .ok (.istore_n 3, 1) := by decide +kernel
theorem dX8_spanOfTaps_91 : decode cX8_spanOfTaps 91 = .ok (.iload_n 2, 1) := by decide +kernel
theorem dX8_spanOfTaps_92 : decode cX8_spanOfTaps 92 = .ok (.iconst 1, 1) := by decide +kernel
theorem dX8_spanOfTaps_93 : decode cX8_spanOfTaps 93 = .ok (.iload_n 1, 1) := by decide +kernel
theorem dX8_spanOfTaps_94 : decode cX8_spanOfTaps 94 = .ok (.ishl, 1) := by decide +kernel
theorem dX8_spanOfTaps_95 : decode cX8_spanOfTaps 95 = .ok (.iconst (-1), 1) := by decide +kernel
theorem dX8_spanOfTaps_96 : decode cX8_spanOfTaps 96 = .ok (.ixor, 1) := by decide +kernel
theorem dX8_spanOfTaps_97 : decode cX8_spanOfTaps 97 = .ok (.iand, 1) := by decide +kernel
theorem dX8_spanOfTaps_98 : decode cX8_spanOfTaps 98 = .ok (.istore_n 2, 1) := by decide +kernel
theorem dX8_spanOfTaps_99 : decode cX8_spanOfTaps 99 = .ok (.iinc 4 1, 3) := by decide +kernel
theorem dX8_spanOfTaps_102 : decode cX8_spanOfTaps 102 = .ok (.goto (-50), 3) := by decide +kernel
theorem dX8_spanOfTaps_105 : decode cX8_spanOfTaps 105 = .ok (.iload_n 3, 1) := by decide +kernel
theorem dX8_spanOfTaps_106 : decode cX8_spanOfTaps 106 = .ok (.ireturn, 1) := by decide +kernel
set_option maxRecDepth 20000 in
theorem ggX8_comeNearer_X8_measure : GoodIn wsX8_comeNearer wsX8_measure := goodIn_r _ [12, 3, 13, 1, 14, 15, 16, 17, 18, 19, 20, 21, 22, 23, 24, 25, 26, 27, 28, 29, 11, 30, 31, 32, 33, 34, 35, 36, 37, 38, 39, 40, 41, 42, 43, 44, 45, 46, 47, 48, 49, 50, 51, 52, 53, 54, 55] (by decide +kernel) (by decide +kernel)
set_option maxRecDepth 20000 in
theorem gX8_comeNearer_X8_measure : GoodIn wsX8_comeNearer (wsV RX8 22 RX8 yX8_measure wsX8_measure) := goodIn_app (goodIn_of _ (by decide +kernel)) ggX8_comeNearer_X8_measure
theorem dX8_comeNearer_0 : decode cX8_comeNearer 0 = .ok (.aload_n 0, 1) := by decide +kernel
theorem dX8_comeNearer_1 : decode cX8_comeNearer 1 = .ok (.iload_n 1, 1) := by decide +kernel
theorem dX8_comeNearer_2 : decode cX8_comeNearer 2 = .ok (.invokevirtual 22, 3) := by decide +kernel
theorem dX8_comeNearer_5 : decode cX8_comeNearer 5 = .ok (.iconst 0, 1) := by decide +kernel
theorem dX8_comeNearer_6 : decode cX8_comeNearer 6 = .ok (.istore_n 2, 1) := by decide +kernel
theorem dX8_comeNearer_7 : decode cX8_comeNearer 7 = .ok (.iload_n 2, 1) := by decide +kernel
theorem dX8_comeNearer_8 : decode cX8_comeNearer 8 = .ok (.aload_n 0, 1) := by decide +kernel
theorem dX8_comeNearer_9 : decode cX8_comeNearer 9 = .ok (.getfield 18, 3) := by decide +kernel
theorem dX8_comeNearer_12 : decode cX8_comeNearer 12 = .ok (.getfield 28, 3) := by decide +kernel
theorem dX8_comeNearer_15 : decode cX8_comeNearer 15 = .ok (.if_icmp .ge 30, 3) := by decide +kernel
theorem dX8_comeNearer_18 : decode cX8_comeNearer 18 = .ok (.aload_n 0, 1) := by decide +kernel
theorem dX8_comeNearer_19 : decode cX8_comeNearer 19 = .ok (.getfield 15, 3) := by decide +kernel
theorem dX8_comeNearer_22 : decode cX8_comeNearer 22 = .ok (.iload_n 2, 1) := by decide +kernel
theorem dX8_comeNearer_23 : decode cX8_comeNearer 23 = .ok (.aload_n 0, 1) := by decide +kernel
theorem dX8_comeNearer_24 : decode cX8_comeNearer 24 = .ok (.getfield 15, 3) := by decide +kernel
theorem dX8_comeNearer_27 : decode cX8_comeNearer 27 = .ok (.iload_n 2, 1) := by decide +kernel
theorem dX8_comeNearer_28 : decode cX8_comeNearer 28 = .ok (.iaload, 1) := by decide +kernel
theorem dX8_comeNearer_29 : decode cX8_comeNearer 29 = .ok (.aload_n 0, 1) := by decide +kernel
theorem dX8_comeNearer_30 : decode cX8_comeNearer 30 = .ok (.getfield 9, 3) := by decide +kernel
theorem dX8_comeNearer_33 : decode cX8_comeNearer 33 = .ok (.iload_n 2, 1) := by decide +kernel
theorem dX8_comeNearer_34 : decode cX8_comeNearer 34 = .ok (.iaload, 1) := by decide +kernel
theorem dX8_comeNearer_35 : decode cX8_comeNearer 35 = .ok (.invokestatic 59, 3) := by decide +kernel
theorem dX8_comeNearer_38 : decode cX8_comeNearer 38 = .ok (.iastore, 1) := by decide +kernel
theorem dX8_comeNearer_39 : decode cX8_comeNearer 39 = .ok (.iinc 2 1, 3) := by decide +kernel
theorem dX8_comeNearer_42 : decode cX8_comeNearer 42 = .ok (.goto (-35), 3) := by decide +kernel
theorem dX8_comeNearer_45 : decode cX8_comeNearer 45 = .ok (.return_, 1) := by decide +kernel
set_option maxRecDepth 20000 in
theorem ggX8_nearestOf_X11_bitAt : GoodIn wsX8_nearestOf wsX11_bitAt := goodIn_r _ [6] (by decide +kernel) (by decide +kernel)
set_option maxRecDepth 20000 in
theorem gX8_nearestOf_X11_bitAt_n64 : GoodIn wsX8_nearestOf (wsX11_bitAt) := ggX8_nearestOf_X11_bitAt
theorem dX8_nearestOf_0 : decode cX8_nearestOf 0 = .ok (.iconst (-1), 1) := by decide +kernel
theorem dX8_nearestOf_1 : decode cX8_nearestOf 1 = .ok (.istore_n 2, 1) := by decide +kernel
theorem dX8_nearestOf_2 : decode cX8_nearestOf 2 = .ok (.ldc 26, 2) := by decide +kernel
theorem dX8_nearestOf_4 : decode cX8_nearestOf 4 = .ok (.istore_n 3, 1) := by decide +kernel
theorem dX8_nearestOf_5 : decode cX8_nearestOf 5 = .ok (.iconst 0, 1) := by decide +kernel
theorem dX8_nearestOf_6 : decode cX8_nearestOf 6 = .ok (.istore 4, 2) := by decide +kernel
theorem dX8_nearestOf_8 : decode cX8_nearestOf 8 = .ok (.iload 4, 2) := by decide +kernel
theorem dX8_nearestOf_10 : decode cX8_nearestOf 10 = .ok (.aload_n 0, 1) := by decide +kernel
theorem dX8_nearestOf_11 : decode cX8_nearestOf 11 = .ok (.getfield 18, 3) := by decide +kernel
theorem dX8_nearestOf_14 : decode cX8_nearestOf 14 = .ok (.getfield 28, 3) := by decide +kernel
theorem dX8_nearestOf_17 : decode cX8_nearestOf 17 = .ok (.if_icmp .ge 41, 3) := by decide +kernel
theorem dX8_nearestOf_20 : decode cX8_nearestOf 20 = .ok (.iload_n 1, 1) := by decide +kernel
theorem dX8_nearestOf_21 : decode cX8_nearestOf 21 = .ok (.iload 4, 2) := by decide +kernel
theorem dX8_nearestOf_23 : decode cX8_nearestOf 23 = .ok (.invokestatic 64, 3) := by decide +kernel
theorem dX8_nearestOf_26 : decode cX8_nearestOf 26 = .ok (.iconst 1, 1) := by decide +kernel
theorem dX8_nearestOf_27 : decode cX8_nearestOf 27 = .ok (.if_icmp .ne 25, 3) := by decide +kernel
theorem dX8_nearestOf_30 : decode cX8_nearestOf 30 = .ok (.aload_n 0, 1) := by decide +kernel
theorem dX8_nearestOf_31 : decode cX8_nearestOf 31 = .ok (.getfield 15, 3) := by decide +kernel
theorem dX8_nearestOf_34 : decode cX8_nearestOf 34 = .ok (.iload 4, 2) := by decide +kernel
theorem dX8_nearestOf_36 : decode cX8_nearestOf 36 = .ok (.iaload, 1) := by decide +kernel
theorem dX8_nearestOf_37 : decode cX8_nearestOf 37 = .ok (.iload_n 3, 1) := by decide +kernel
theorem dX8_nearestOf_38 : decode cX8_nearestOf 38 = .ok (.if_icmp .ge 14, 3) := by decide +kernel
theorem dX8_nearestOf_41 : decode cX8_nearestOf 41 = .ok (.iload 4, 2) := by decide +kernel
theorem dX8_nearestOf_43 : decode cX8_nearestOf 43 = .ok (.istore_n 2, 1) := by decide +kernel
theorem dX8_nearestOf_44 : decode cX8_nearestOf 44 = .ok (.aload_n 0, 1) := by decide +kernel
theorem dX8_nearestOf_45 : decode cX8_nearestOf 45 = .ok (.getfield 15, 3) := by decide +kernel
theorem dX8_nearestOf_48 : decode cX8_nearestOf 48 = .ok (.iload 4, 2) := by decide +kernel
theorem dX8_nearestOf_50 : decode cX8_nearestOf 50 = .ok (.iaload, 1) := by decide +kernel
theorem dX8_nearestOf_51 : decode cX8_nearestOf 51 = .ok (.istore_n 3, 1) := by decide +kernel
theorem dX8_nearestOf_52 : decode cX8_nearestOf 52 = .ok (.iinc 4 1, 3) := by decide +kernel
theorem dX8_nearestOf_55 : decode cX8_nearestOf 55 = .ok (.goto (-47), 3) := by decide +kernel
theorem dX8_nearestOf_58 : decode cX8_nearestOf 58 = .ok (.iload_n 2, 1) := by decide +kernel
theorem dX8_nearestOf_59 : decode cX8_nearestOf 59 = .ok (.ireturn, 1) := by decide +kernel
set_option maxRecDepth 20000 in
theorem ggX8_measure_J7_fill_53178 : GoodIn wsX8_measure wsJ7_fill_53178 := goodIn_r _ [7] (by decide +kernel) (by decide +kernel)
set_option maxRecDepth 20000 in
theorem gX8_measure_J7_fill_53178 : GoodIn wsX8_measure (va_wsS RX8 41 yJ7_fill_53178 wsJ7_fill_53178) := goodIn_app (goodIn_of _ (by decide +kernel)) ggX8_measure_J7_fill_53178
set_option maxRecDepth 20000 in
theorem ggX8_measure_X2_isThere : GoodIn wsX8_measure wsX2_isThere := goodIn_r _ [12, 13, 14, 15, 16, 29, 30, 31, 32, 33, 34, 35, 36, 37, 38, 39, 40, 41, 42, 43, 44, 45, 46] (by decide +kernel) (by decide +kernel)
set_option maxRecDepth 20000 in
theorem gX8_measure_X2_isThere : GoodIn wsX8_measure (wsV RX8 70 RX2 yX2_isThere wsX2_isThere) := goodIn_app (goodIn_of _ (by decide +kernel)) ggX8_measure_X2_isThere
set_option maxRecDepth 20000 in
theorem ggX8_measure_X8_shorten : GoodIn wsX8_measure wsX8_shorten := goodIn_r _ [21, 1, 22, 23, 24, 20, 25, 3, 26, 27, 28, 29, 30, 31, 32, 33, 34, 35, 36, 37, 38, 39, 40, 41, 42, 43, 44, 45, 46] (by decide +kernel) (by decide +kernel)
set_option maxRecDepth 20000 in
theorem gX8_measure_X8_shorten : GoodIn wsX8_measure (wsV RX8 80 RX8 yX8_shorten wsX8_shorten) := goodIn_app (goodIn_of _ (by decide +kernel)) ggX8_measure_X8_shorten
theorem dX8_measure_0 : decode cX8_measure 0 = .ok (.aload_n 0, 1) := by decide +kernel
theorem dX8_measure_1 : decode cX8_measure 1 = .ok (.getfield 9, 3) := by decide +kernel
theorem dX8_measure_4 : decode cX8_measure 4 = .ok (.ldc 26, 2) := by decide +kernel
theorem dX8_measure_6 : decode cX8_measure 6 = .ok (.invokestatic 41, 3) := by decide +kernel
theorem dX8_measure_9 : decode cX8_measure 9 = .ok (.aload_n 0, 1) := by decide +kernel
theorem dX8_measure_10 : decode cX8_measure 10 = .ok (.getfield 9, 3) := by decide +kernel
theorem dX8_measure_13 : decode cX8_measure 13 = .ok (.iload_n 1, 1) := by decide +kernel
theorem dX8_measure_14 : decode cX8_measure 14 = .ok (.iconst 0, 1) := by decide +kernel
theorem dX8_measure_15 : decode cX8_measure 15 = .ok (.iastore, 1) := by decide +kernel
theorem dX8_measure_16 : decode cX8_measure 16 = .ok (.iconst 1, 1) := by decide +kernel
theorem dX8_measure_17 : decode cX8_measure 17 = .ok (.istore_n 2, 1) := by decide +kernel
theorem dX8_measure_18 : decode cX8_measure 18 = .ok (.iconst 0, 1) := by decide +kernel
theorem dX8_measure_19 : decode cX8_measure 19 = .ok (.istore_n 3, 1) := by decide +kernel
theorem dX8_measure_20 : decode cX8_measure 20 = .ok (.iload_n 3, 1) := by decide +kernel
theorem dX8_measure_21 : decode cX8_measure 21 = .ok (.bipush 10, 2) := by decide +kernel
theorem dX8_measure_23 : decode cX8_measure 23 = .ok (.if_icmp .ge 126, 3) := by decide +kernel
theorem dX8_measure_26 : decode cX8_measure 26 = .ok (.iload_n 2, 1) := by decide +kernel
theorem dX8_measure_27 : decode cX8_measure 27 = .ok (.ifCond .eq 122, 3) := by decide +kernel
theorem dX8_measure_30 : decode cX8_measure 30 = .ok (.iconst 0, 1) := by decide +kernel
theorem dX8_measure_31 : decode cX8_measure 31 = .ok (.istore_n 2, 1) := by decide +kernel
theorem dX8_measure_32 : decode cX8_measure 32 = .ok (.iconst 0, 1) := by decide +kernel
theorem dX8_measure_33 : decode cX8_measure 33 = .ok (.istore 4, 2) := by decide +kernel
theorem dX8_measure_35 : decode cX8_measure 35 = .ok (.iload 4, 2) := by decide +kernel
theorem dX8_measure_37 : decode cX8_measure 37 = .ok (.aload_n 0, 1) := by decide +kernel
theorem dX8_measure_38 : decode cX8_measure 38 = .ok (.getfield 18, 3) := by decide +kernel
theorem dX8_measure_41 : decode cX8_measure 41 = .ok (.getfield 67, 3) := by decide +kernel
theorem dX8_measure_44 : decode cX8_measure 44 = .ok (.if_icmp .ge 99, 3) := by decide +kernel
theorem dX8_measure_47 : decode cX8_measure 47 = .ok (.aload_n 0, 1) := by decide +kernel
theorem dX8_measure_48 : decode cX8_measure 48 = .ok (.getfield 18, 3) := by decide +kernel
theorem dX8_measure_51 : decode cX8_measure 51 = .ok (.iload 4, 2) := by decide +kernel
theorem dX8_measure_53 : decode cX8_measure 53 = .ok (.invokevirtual 70, 3) := by decide +kernel
theorem dX8_measure_56 : decode cX8_measure 56 = .ok (.ifCond .eq 81, 3) := by decide +kernel
theorem dX8_measure_59 : decode cX8_measure 59 = .ok (.aload_n 0, 1) := by decide +kernel
theorem dX8_measure_60 : decode cX8_measure 60 = .ok (.aload_n 0, 1) := by decide +kernel
theorem dX8_measure_61 : decode cX8_measure 61 = .ok (.getfield 18, 3) := by decide +kernel
theorem dX8_measure_64 : decode cX8_measure 64 = .ok (.getfield 74, 3) := by decide +kernel
theorem dX8_measure_67 : decode cX8_measure 67 = .ok (.iload 4, 2) := by decide +kernel
theorem dX8_measure_69 : decode cX8_measure 69 = .ok (.iaload, 1) := by decide +kernel
theorem dX8_measure_70 : decode cX8_measure 70 = .ok (.iload 4, 2) := by decide +kernel
theorem dX8_measure_72 : decode cX8_measure 72 = .ok (.aload_n 0, 1) := by decide +kernel
theorem dX8_measure_73 : decode cX8_measure 73 = .ok (.getfield 18, 3) := by decide +kernel
theorem dX8_measure_76 : decode cX8_measure 76 = .ok (.getfield 77, 3) := by decide +kernel
theorem dX8_measure_79 : decode cX8_measure 79 = .ok (.iload 4, 2) := by decide +kernel
theorem dX8_measure_81 : decode cX8_measure 81 = .ok (.iaload, 1) := by decide +kernel
theorem dX8_measure_82 : decode cX8_measure 82 = .ok (.iload_n 1, 1) := by decide +kernel
theorem dX8_measure_83 : decode cX8_measure 83 = .ok (.invokevirtual 80, 3) := by decide +kernel
theorem dX8_measure_86 : decode cX8_measure 86 = .ok (.istore 5, 2) := by decide +kernel
theorem dX8_measure_88 : decode cX8_measure 88 = .ok (.aload_n 0, 1) := by decide +kernel
theorem dX8_measure_89 : decode cX8_measure 89 = .ok (.aload_n 0, 1) := by decide +kernel
theorem dX8_measure_90 : decode cX8_measure 90 = .ok (.getfield 18, 3) := by decide +kernel
theorem dX8_measure_93 : decode cX8_measure 93 = .ok (.getfield 77, 3) := by decide +kernel
theorem dX8_measure_96 : decode cX8_measure 96 = .ok (.iload 4, 2) := by decide +kernel
theorem dX8_measure_98 : decode cX8_measure 98 = .ok (.iaload, 1) := by decide +kernel
theorem dX8_measure_99 : decode cX8_measure 99 = .ok (.iload 4, 2) := by decide +kernel
theorem dX8_measure_101 : decode cX8_measure 101 = .ok (.aload_n 0, 1) := by decide +kernel
theorem dX8_measure_102 : decode cX8_measure 102 = .ok (.getfield 18, 3) := by decide +kernel
theorem dX8_measure_105 : decode cX8_measure 105 = .ok (.getfield 74, 3) := by decide +kernel
theorem dX8_measure_108 : decode cX8_measure 108 = .ok (.iload 4, 2) := by decide +kernel
theorem dX8_measure_110 : decode cX8_measure 110 = .ok (.iaload, 1) := by decide +kernel
theorem dX8_measure_111 : decode cX8_measure 111 = .ok (.iload_n 1, 1) := by decide +kernel
theorem dX8_measure_112 : decode cX8_measure 112 = .ok (.invokevirtual 80, 3) := by decide +kernel
theorem dX8_measure_115 : decode cX8_measure 115 = .ok (.istore 6, 2) := by decide +kernel
theorem dX8_measure_117 : decode cX8_measure 117 = .ok (.iload_n 2, 1) := by decide +kernel
theorem dX8_measure_118 : decode cX8_measure 118 = .ok (.ifCond .ne 13, 3) := by decide +kernel
theorem dX8_measure_121 : decode cX8_measure 121 = .ok (.iload 5, 2) := by decide +kernel
theorem dX8_measure_123 : decode cX8_measure 123 = .ok (.ifCond .ne 8, 3) := by decide +kernel
theorem dX8_measure_126 : decode cX8_measure 126 = .ok (.iload 6, 2) := by decide +kernel
theorem dX8_measure_128 : decode cX8_measure 128 = .ok (.ifCond .eq 7, 3) := by decide +kernel
theorem dX8_measure_131 : decode cX8_measure 131 = .ok (.iconst 1, 1) := by decide +kernel
theorem dX8_measure_132 : decode cX8_measure 132 = .ok (.goto 4, 3) := by decide +kernel
theorem dX8_measure_135 : decode cX8_measure 135 = .ok (.iconst 0, 1) := by decide +kernel
theorem dX8_measure_136 : decode cX8_measure 136 = .ok (.istore_n 2, 1) := by decide +kernel
theorem dX8_measure_137 : decode cX8_measure 137 = .ok (.iinc 4 1, 3) := by decide +kernel
theorem dX8_measure_140 : decode cX8_measure 140 = .ok (.goto (-105), 3) := by decide +kernel
theorem dX8_measure_143 : decode cX8_measure 143 = .ok (.iinc 3 1, 3) := by decide +kernel
theorem dX8_measure_146 : decode cX8_measure 146 = .ok (.goto (-126), 3) := by decide +kernel
theorem dX8_measure_149 : decode cX8_measure 149 = .ok (.return_, 1) := by decide +kernel
set_option maxRecDepth 20000 in
theorem ggX8_shorten_X8_sumBy : GoodIn wsX8_shorten wsX8_sumBy := goodIn_r _ [6, 7, 1, 8, 9, 10, 11, 12, 13, 14, 15, 16, 17, 18, 19, 20, 21, 22, 23, 24, 25, 26, 27, 28] (by decide +kernel) (by decide +kernel)
set_option maxRecDepth 20000 in
theorem gX8_shorten_X8_sumBy : GoodIn wsX8_shorten (wsV RX8 84 RX8 yX8_sumBy wsX8_sumBy) := goodIn_app (goodIn_of _ (by decide +kernel)) ggX8_shorten_X8_sumBy
theorem dX8_shorten_0 : decode cX8_shorten 0 = .ok (.aload_n 0, 1) := by decide +kernel
theorem dX8_shorten_1 : decode cX8_shorten 1 = .ok (.iload_n 2, 1) := by decide +kernel
theorem dX8_shorten_2 : decode cX8_shorten 2 = .ok (.iload_n 3, 1) := by decide +kernel
theorem dX8_shorten_3 : decode cX8_shorten 3 = .ok (.iload 4, 2) := by decide +kernel
theorem dX8_shorten_5 : decode cX8_shorten 5 = .ok (.invokevirtual 84, 3) := by decide +kernel
theorem dX8_shorten_8 : decode cX8_shorten 8 = .ok (.istore 5, 2) := by decide +kernel
theorem dX8_shorten_10 : decode cX8_shorten 10 = .ok (.iload 5, 2) := by decide +kernel
theorem dX8_shorten_12 : decode cX8_shorten 12 = .ok (.aload_n 0, 1) := by decide +kernel
theorem dX8_shorten_13 : decode cX8_shorten 13 = .ok (.getfield 9, 3) := by decide +kernel
theorem dX8_shorten_16 : decode cX8_shorten 16 = .ok (.iload_n 1, 1) := by decide +kernel
theorem dX8_shorten_17 : decode cX8_shorten 17 = .ok (.iaload, 1) := by decide +kernel
theorem dX8_shorten_18 : decode cX8_shorten 18 = .ok (.if_icmp .lt 5, 3) := by decide +kernel
theorem dX8_shorten_21 : decode cX8_shorten 21 = .ok (.iconst 0, 1) := by decide +kernel
theorem dX8_shorten_22 : decode cX8_shorten 22 = .ok (.ireturn, 1) := by decide +kernel
theorem dX8_shorten_23 : decode cX8_shorten 23 = .ok (.aload_n 0, 1) := by decide +kernel
theorem dX8_shorten_24 : decode cX8_shorten 24 = .ok (.getfield 9, 3) := by decide +kernel
theorem dX8_shorten_27 : decode cX8_shorten 27 = .ok (.iload_n 1, 1) := by decide +kernel
theorem dX8_shorten_28 : decode cX8_shorten 28 = .ok (.iload 5, 2) := by decide +kernel
theorem dX8_shorten_30 : decode cX8_shorten 30 = .ok (.iastore, 1) := by decide +kernel
theorem dX8_shorten_31 : decode cX8_shorten 31 = .ok (.iconst 1, 1) := by decide +kernel
theorem dX8_shorten_32 : decode cX8_shorten 32 = .ok (.ireturn, 1) := by decide +kernel
theorem dX8_sumBy_0 : decode cX8_sumBy 0 = .ok (.iload_n 2, 1) := by decide +kernel
theorem dX8_sumBy_1 : decode cX8_sumBy 1 = .ok (.iload_n 3, 1) := by decide +kernel
theorem dX8_sumBy_2 : decode cX8_sumBy 2 = .ok (.if_icmp .ne 7, 3) := by decide +kernel
theorem dX8_sumBy_5 : decode cX8_sumBy 5 = .ok (.iconst 0, 1) := by decide +kernel
theorem dX8_sumBy_6 : decode cX8_sumBy 6 = .ok (.goto 12, 3) := by decide +kernel
theorem dX8_sumBy_9 : decode cX8_sumBy 9 = .ok (.aload_n 0, 1) := by decide +kernel
theorem dX8_sumBy_10 : decode cX8_sumBy 10 = .ok (.getfield 18, 3) := by decide +kernel
theorem dX8_sumBy_13 : decode cX8_sumBy 13 = .ok (.getfield 88, 3) := by decide +kernel
theorem dX8_sumBy_16 : decode cX8_sumBy 16 = .ok (.iload_n 2, 1) := by decide +kernel
theorem dX8_sumBy_17 : decode cX8_sumBy 17 = .ok (.iaload, 1) := by decide +kernel
theorem dX8_sumBy_18 : decode cX8_sumBy 18 = .ok (.istore 4, 2) := by decide +kernel
theorem dX8_sumBy_20 : decode cX8_sumBy 20 = .ok (.aload_n 0, 1) := by decide +kernel
theorem dX8_sumBy_21 : decode cX8_sumBy 21 = .ok (.getfield 18, 3) := by decide +kernel
theorem dX8_sumBy_24 : decode cX8_sumBy 24 = .ok (.getfield 91, 3) := by decide +kernel
theorem dX8_sumBy_27 : decode cX8_sumBy 27 = .ok (.iload_n 1, 1) := by decide +kernel
theorem dX8_sumBy_28 : decode cX8_sumBy 28 = .ok (.iaload, 1) := by decide +kernel
theorem dX8_sumBy_29 : decode cX8_sumBy 29 = .ok (.iload 4, 2) := by decide +kernel
theorem dX8_sumBy_31 : decode cX8_sumBy 31 = .ok (.iadd, 1) := by decide +kernel
theorem dX8_sumBy_32 : decode cX8_sumBy 32 = .ok (.aload_n 0, 1) := by decide +kernel
theorem dX8_sumBy_33 : decode cX8_sumBy 33 = .ok (.getfield 9, 3) := by decide +kernel
theorem dX8_sumBy_36 : decode cX8_sumBy 36 = .ok (.iload_n 2, 1) := by decide +kernel
theorem dX8_sumBy_37 : decode cX8_sumBy 37 = .ok (.iaload, 1) := by decide +kernel
theorem dX8_sumBy_38 : decode cX8_sumBy 38 = .ok (.iadd, 1) := by decide +kernel
theorem dX8_sumBy_39 : decode cX8_sumBy 39 = .ok (.ireturn, 1) := by decide +kernel
set_option maxRecDepth 20000 in
theorem ggX8_nextOf_X11_bitAt : GoodIn wsX8_nextOf wsX11_bitAt := goodIn_r _ [5] (by decide +kernel) (by decide +kernel)
set_option maxRecDepth 20000 in
theorem gX8_nextOf_X11_bitAt_n64 : GoodIn wsX8_nextOf (wsX11_bitAt) := ggX8_nextOf_X11_bitAt
set_option maxRecDepth 20000 in
theorem ggX8_nextOf_X8_sumBy : GoodIn wsX8_nextOf wsX8_sumBy := goodIn_r _ [10, 1, 2, 11, 12, 13, 14, 15, 16, 17, 18, 19, 20, 21, 22, 23, 24, 25, 26, 27, 28, 29, 30, 31] (by decide +kernel) (by decide +kernel)
set_option maxRecDepth 20000 in
theorem gX8_nextOf_X8_sumBy : GoodIn wsX8_nextOf (wsV RX8 84 RX8 yX8_sumBy wsX8_sumBy) := goodIn_app (goodIn_of _ (by decide +kernel)) ggX8_nextOf_X8_sumBy
theorem dX8_nextOf_0 : decode cX8_nextOf 0 = .ok (.iconst (-1), 1) := by decide +kernel
theorem dX8_nextOf_1 : decode cX8_nextOf 1 = .ok (.istore_n 3, 1) := by decide +kernel
theorem dX8_nextOf_2 : decode cX8_nextOf 2 = .ok (.iconst 0, 1) := by decide +kernel
theorem dX8_nextOf_3 : decode cX8_nextOf 3 = .ok (.istore 4, 2) := by decide +kernel
theorem dX8_nextOf_5 : decode cX8_nextOf 5 = .ok (.iload 4, 2) := by decide +kernel
theorem dX8_nextOf_7 : decode cX8_nextOf 7 = .ok (.aload_n 0, 1) := by decide +kernel
theorem dX8_nextOf_8 : decode cX8_nextOf 8 = .ok (.getfield 18, 3) := by decide +kernel
theorem dX8_nextOf_11 : decode cX8_nextOf 11 = .ok (.getfield 67, 3) := by decide +kernel
theorem dX8_nextOf_14 : decode cX8_nextOf 14 = .ok (.if_icmp .ge 110, 3) := by decide +kernel
theorem dX8_nextOf_17 : decode cX8_nextOf 17 = .ok (.aload_n 0, 1) := by decide +kernel
theorem dX8_nextOf_18 : decode cX8_nextOf 18 = .ok (.getfield 18, 3) := by decide +kernel
theorem dX8_nextOf_21 : decode cX8_nextOf 21 = .ok (.getfield 94, 3) := by decide +kernel
theorem dX8_nextOf_24 : decode cX8_nextOf 24 = .ok (.iload_n 1, 1) := by decide +kernel
theorem dX8_nextOf_25 : decode cX8_nextOf 25 = .ok (.iaload, 1) := by decide +kernel
theorem dX8_nextOf_26 : decode cX8_nextOf 26 = .ok (.iload 4, 2) := by decide +kernel
theorem dX8_nextOf_28 : decode cX8_nextOf 28 = .ok (.invokestatic 64, 3) := by decide +kernel
theorem dX8_nextOf_31 : decode cX8_nextOf 31 = .ok (.iconst 1, 1) := by decide +kernel
theorem dX8_nextOf_32 : decode cX8_nextOf 32 = .ok (.if_icmp .ne 86, 3) := by decide +kernel
theorem dX8_nextOf_35 : decode cX8_nextOf 35 = .ok (.aload_n 0, 1) := by decide +kernel
theorem dX8_nextOf_36 : decode cX8_nextOf 36 = .ok (.getfield 18, 3) := by decide +kernel
theorem dX8_nextOf_39 : decode cX8_nextOf 39 = .ok (.getfield 74, 3) := by decide +kernel
theorem dX8_nextOf_42 : decode cX8_nextOf 42 = .ok (.iload 4, 2) := by decide +kernel
theorem dX8_nextOf_44 : decode cX8_nextOf 44 = .ok (.iaload, 1) := by decide +kernel
theorem dX8_nextOf_45 : decode cX8_nextOf 45 = .ok (.iload_n 1, 1) := by decide +kernel
theorem dX8_nextOf_46 : decode cX8_nextOf 46 = .ok (.if_icmp .ne 16, 3) := by decide +kernel
theorem dX8_nextOf_49 : decode cX8_nextOf 49 = .ok (.aload_n 0, 1) := by decide +kernel
theorem dX8_nextOf_50 : decode cX8_nextOf 50 = .ok (.getfield 18, 3) := by decide +kernel
theorem dX8_nextOf_53 : decode cX8_nextOf 53 = .ok (.getfield 77, 3) := by decide +kernel
theorem dX8_nextOf_56 : decode cX8_nextOf 56 = .ok (.iload 4, 2) := by decide +kernel
theorem dX8_nextOf_58 : decode cX8_nextOf 58 = .ok (.iaload, 1) := by decide +kernel
theorem dX8_nextOf_59 : decode cX8_nextOf 59 = .ok (.goto 13, 3) := by decide +kernel
theorem dX8_nextOf_62 : decode cX8_nextOf 62 = .ok (.aload_n 0, 1) := by decide +kernel
theorem dX8_nextOf_63 : decode cX8_nextOf 63 = .ok (.getfield 18, 3) := by decide +kernel
theorem dX8_nextOf_66 : decode cX8_nextOf 66 = .ok (.getfield 74, 3) := by decide +kernel
theorem dX8_nextOf_69 : decode cX8_nextOf 69 = .ok (.iload 4, 2) := by decide +kernel
theorem dX8_nextOf_71 : decode cX8_nextOf 71 = .ok (.iaload, 1) := by decide +kernel
theorem dX8_nextOf_72 : decode cX8_nextOf 72 = .ok (.istore 5, 2) := by decide +kernel
theorem dX8_nextOf_74 : decode cX8_nextOf 74 = .ok (.aload_n 0, 1) := by decide +kernel
theorem dX8_nextOf_75 : decode cX8_nextOf 75 = .ok (.iload 4, 2) := by decide +kernel
theorem dX8_nextOf_77 : decode cX8_nextOf 77 = .ok (.iload 5, 2) := by decide +kernel
theorem dX8_nextOf_79 : decode cX8_nextOf 79 = .ok (.iload_n 2, 1) := by decide +kernel
theorem dX8_nextOf_80 : decode cX8_nextOf 80 = .ok (.invokevirtual 84, 3) := by decide +kernel
theorem dX8_nextOf_83 : decode cX8_nextOf 83 = .ok (.aload_n 0, 1) := by decide +kernel
theorem dX8_nextOf_84 : decode cX8_nextOf 84 = .ok (.getfield 9, 3) := by decide +kernel
theorem dX8_nextOf_87 : decode cX8_nextOf 87 = .ok (.iload_n 1, 1) := by decide +kernel
theorem dX8_nextOf_88 : decode cX8_nextOf 88 = .ok (.iaload, 1) := by decide +kernel
theorem dX8_nextOf_89 : decode cX8_nextOf 89 = .ok (.if_icmp .ne 7, 3) := by decide +kernel
theorem dX8_nextOf_92 : decode cX8_nextOf 92 = .ok (.iconst 1, 1) := by decide +kernel
theorem dX8_nextOf_93 : decode cX8_nextOf 93 = .ok (.goto 4, 3) := by decide +kernel
theorem dX8_nextOf_96 : decode cX8_nextOf 96 = .ok (.iconst 0, 1) := by decide +kernel
theorem dX8_nextOf_97 : decode cX8_nextOf 97 = .ok (.istore 6, 2) := by decide +kernel
theorem dX8_nextOf_99 : decode cX8_nextOf 99 = .ok (.iload 6, 2) := by decide +kernel
theorem dX8_nextOf_101 : decode cX8_nextOf 101 = .ok (.ifCond .eq 17, 3) := by decide +kernel
theorem dX8_nextOf_104 : decode cX8_nextOf 104 = .ok (.iload_n 3, 1) := by decide +kernel
theorem dX8_nextOf_105 : decode cX8_nextOf 105 = .ok (.iconst (-1), 1) := by decide +kernel
theorem dX8_nextOf_106 : decode cX8_nextOf 106 = .ok (.if_icmp .eq 9, 3) := by decide +kernel
theorem dX8_nextOf_109 : decode cX8_nextOf 109 = .ok (.iload 5, 2) := by decide +kernel
theorem dX8_nextOf_111 : decode cX8_nextOf 111 = .ok (.iload_n 3, 1) := by decide +kernel
theorem dX8_nextOf_112 : decode cX8_nextOf 112 = .ok (.if_icmp .ge 6, 3) := by decide +kernel
theorem dX8_nextOf_115 : decode cX8_nextOf 115 = .ok (.iload 5, 2) := by decide +kernel
theorem dX8_nextOf_117 : decode cX8_nextOf 117 = .ok (.istore_n 3, 1) := by decide +kernel
theorem dX8_nextOf_118 : decode cX8_nextOf 118 = .ok (.iinc 4 1, 3) := by decide +kernel
theorem dX8_nextOf_121 : decode cX8_nextOf 121 = .ok (.goto (-116), 3) := by decide +kernel
theorem dX8_nextOf_124 : decode cX8_nextOf 124 = .ok (.iload_n 3, 1) := by decide +kernel
theorem dX8_nextOf_125 : decode cX8_nextOf 125 = .ok (.ireturn, 1) := by decide +kernel
set_option maxRecDepth 20000 in
theorem ggX9_init_X4_init : GoodIn wsX9_init wsX4_init := goodIn_r _ [4, 5, 6, 7, 8, 9, 10, 11, 12, 13, 14, 15, 16, 17, 18, 19, 20, 21, 22, 23, 24, 25, 26, 27, 28, 29, 30, 31, 32, 33, 34] (by decide +kernel) (by decide +kernel)
set_option maxRecDepth 20000 in
theorem gX9_init_X4_init : GoodIn wsX9_init (wsX4_init) := ggX9_init_X4_init
theorem dX9_init_0 : decode cX9_init 0 = .ok (.aload_n 0, 1) := by decide +kernel
theorem dX9_init_1 : decode cX9_init 1 = .ok (.iload_n 1, 1) := by decide +kernel
theorem dX9_init_2 : decode cX9_init 2 = .ok (.iload_n 2, 1) := by decide +kernel
theorem dX9_init_3 : decode cX9_init 3 = .ok (.aload_n 3, 1) := by decide +kernel
theorem dX9_init_4 : decode cX9_init 4 = .ok (.invokespecial 3, 3) := by decide +kernel
