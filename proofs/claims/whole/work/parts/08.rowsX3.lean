theorem dX9_init_7 : decode cX9_init 7 = .ok (.return_, 1) := by decide +kernel
theorem dX9_kind_0 : decode cX9_kind 0 = .ok (.iconst 3, 1) := by decide +kernel
theorem dX9_kind_1 : decode cX9_kind 1 = .ok (.ireturn, 1) := by decide +kernel
set_option maxRecDepth 20000 in
theorem ggX9_join_X5_ran : GoodIn wsX9_join wsX5_ran := goodIn_r _ [7, 8, 9, 30, 31] (by decide +kernel) (by decide +kernel)
set_option maxRecDepth 20000 in
theorem gX9_join_X5_ran : GoodIn wsX9_join (wsV RX9 15 RX5 yX5_ran wsX5_ran) := goodIn_app (goodIn_of _ (by decide +kernel)) ggX9_join_X5_ran
theorem dX9_join_0 : decode cX9_join 0 = .ok (.aload_n 0, 1) := by decide +kernel
theorem dX9_join_1 : decode cX9_join 1 = .ok (.getfield 9, 3) := by decide +kernel
theorem dX9_join_4 : decode cX9_join 4 = .ok (.bipush 40, 2) := by decide +kernel
theorem dX9_join_6 : decode cX9_join 6 = .ok (.invokevirtual 15, 3) := by decide +kernel
theorem dX9_join_9 : decode cX9_join 9 = .ok (.aload_n 0, 1) := by decide +kernel
theorem dX9_join_10 : decode cX9_join 10 = .ok (.iload_n 1, 1) := by decide +kernel
theorem dX9_join_11 : decode cX9_join 11 = .ok (.invokespecial 21, 3) := by decide +kernel
theorem dX9_join_14 : decode cX9_join 14 = .ok (.bipush 9, 2) := by decide +kernel
theorem dX9_join_16 : decode cX9_join 16 = .ok (.iadd, 1) := by decide +kernel
theorem dX9_join_17 : decode cX9_join 17 = .ok (.ireturn, 1) := by decide +kernel
set_option maxRecDepth 20000 in
theorem ggX9_ask_X5_ran : GoodIn wsX9_ask wsX5_ran := goodIn_r _ [7, 8, 9, 30, 31] (by decide +kernel) (by decide +kernel)
set_option maxRecDepth 20000 in
theorem gX9_ask_X5_ran : GoodIn wsX9_ask (wsV RX9 15 RX5 yX5_ran wsX5_ran) := goodIn_app (goodIn_of _ (by decide +kernel)) ggX9_ask_X5_ran
theorem dX9_ask_0 : decode cX9_ask 0 = .ok (.aload_n 0, 1) := by decide +kernel
theorem dX9_ask_1 : decode cX9_ask 1 = .ok (.getfield 9, 3) := by decide +kernel
theorem dX9_ask_4 : decode cX9_ask 4 = .ok (.bipush 41, 2) := by decide +kernel
theorem dX9_ask_6 : decode cX9_ask 6 = .ok (.invokevirtual 15, 3) := by decide +kernel
theorem dX9_ask_9 : decode cX9_ask 9 = .ok (.aload_n 0, 1) := by decide +kernel
theorem dX9_ask_10 : decode cX9_ask 10 = .ok (.iload_n 1, 1) := by decide +kernel
theorem dX9_ask_11 : decode cX9_ask 11 = .ok (.iconst 3, 1) := by decide +kernel
theorem dX9_ask_12 : decode cX9_ask 12 = .ok (.imul, 1) := by decide +kernel
theorem dX9_ask_13 : decode cX9_ask 13 = .ok (.invokespecial 25, 3) := by decide +kernel
theorem dX9_ask_16 : decode cX9_ask 16 = .ok (.ireturn, 1) := by decide +kernel
set_option maxRecDepth 20000 in
theorem ggX10_init_X3_init : GoodIn wsX10_init wsX3_init := goodIn_r _ [4, 5, 6, 7, 8, 9, 10, 11, 12, 13, 14, 15, 16, 17, 18, 19, 20, 21, 22, 23, 24, 25, 26, 27, 28, 29, 30] (by decide +kernel) (by decide +kernel)
set_option maxRecDepth 20000 in
theorem gX10_init_X3_init : GoodIn wsX10_init (wsX3_init) := ggX10_init_X3_init
theorem dX10_init_0 : decode cX10_init 0 = .ok (.aload_n 0, 1) := by decide +kernel
theorem dX10_init_1 : decode cX10_init 1 = .ok (.iload_n 1, 1) := by decide +kernel
theorem dX10_init_2 : decode cX10_init 2 = .ok (.iload_n 2, 1) := by decide +kernel
theorem dX10_init_3 : decode cX10_init 3 = .ok (.aload_n 3, 1) := by decide +kernel
theorem dX10_init_4 : decode cX10_init 4 = .ok (.invokespecial 3, 3) := by decide +kernel
theorem dX10_init_7 : decode cX10_init 7 = .ok (.return_, 1) := by decide +kernel
theorem dX10_kind_0 : decode cX10_kind 0 = .ok (.iconst 2, 1) := by decide +kernel
theorem dX10_kind_1 : decode cX10_kind 1 = .ok (.ireturn, 1) := by decide +kernel
set_option maxRecDepth 20000 in
theorem ggX10_ask_X5_ran : GoodIn wsX10_ask wsX5_ran := goodIn_r _ [9, 10, 11, 41, 42] (by decide +kernel) (by decide +kernel)
set_option maxRecDepth 20000 in
theorem gX10_ask_X5_ran : GoodIn wsX10_ask (wsV RX10 15 RX5 yX5_ran wsX5_ran) := goodIn_app (goodIn_of _ (by decide +kernel)) ggX10_ask_X5_ran
set_option maxRecDepth 20000 in
theorem ggX10_ask_X3_ask : GoodIn wsX10_ask wsX3_ask := goodIn_r _ [17, 18, 19, 20, 6, 7, 8, 9, 10, 11, 21, 22, 23, 24, 25, 26, 27, 28, 29, 30, 31, 32, 33, 34, 35, 36, 37, 38, 39, 40, 41, 42] (by decide +kernel) (by decide +kernel)
set_option maxRecDepth 20000 in
theorem gX10_ask_X3_ask_s21 : GoodIn wsX10_ask (va_wsSU RX10 21 yX3_ask wsX3_ask) := goodIn_app (goodIn_of _ (by decide +kernel)) ggX10_ask_X3_ask
theorem dX10_ask_0 : decode cX10_ask 0 = .ok (.aload_n 0, 1) := by decide +kernel
theorem dX10_ask_1 : decode cX10_ask 1 = .ok (.getfield 9, 3) := by decide +kernel
theorem dX10_ask_4 : decode cX10_ask 4 = .ok (.bipush 30, 2) := by decide +kernel
theorem dX10_ask_6 : decode cX10_ask 6 = .ok (.invokevirtual 15, 3) := by decide +kernel
theorem dX10_ask_9 : decode cX10_ask 9 = .ok (.aload_n 0, 1) := by decide +kernel
theorem dX10_ask_10 : decode cX10_ask 10 = .ok (.iload_n 1, 1) := by decide +kernel
theorem dX10_ask_11 : decode cX10_ask 11 = .ok (.invokespecial 21, 3) := by decide +kernel
theorem dX10_ask_14 : decode cX10_ask 14 = .ok (.aload_n 0, 1) := by decide +kernel
theorem dX10_ask_15 : decode cX10_ask 15 = .ok (.getfield 25, 3) := by decide +kernel
theorem dX10_ask_18 : decode cX10_ask 18 = .ok (.imul, 1) := by decide +kernel
theorem dX10_ask_19 : decode cX10_ask 19 = .ok (.ireturn, 1) := by decide +kernel
set_option maxRecDepth 20000 in
theorem ggX11_init_X2_init : GoodIn wsX11_init wsX2_init := goodIn_r _ [26, 27, 2, 3, 28, 29, 30, 31, 32, 33, 34, 35, 36, 37, 38, 39, 40, 41, 42, 43, 44, 45, 46, 47, 80, 81, 82, 83, 84, 85, 86, 87, 88, 89, 90, 91, 92, 93, 94, 95, 96, 97, 127, 128] (by decide +kernel) (by decide +kernel)
set_option maxRecDepth 20000 in
theorem gX11_init_X2_init_n9 : GoodIn wsX11_init (wsX2_init) := ggX11_init_X2_init
set_option maxRecDepth 20000 in
theorem ggX11_init_X8_init : GoodIn wsX11_init wsX8_init := goodIn_r _ [50, 51, 2, 3, 30, 52, 53, 54, 104, 105, 106] (by decide +kernel) (by decide +kernel)
set_option maxRecDepth 20000 in
theorem gX11_init_X8_init : GoodIn wsX11_init (wsX8_init) := ggX11_init_X8_init
set_option maxRecDepth 20000 in
theorem ggX11_init_X6_init : GoodIn wsX11_init wsX6_init := goodIn_r _ [57, 58, 2, 3, 30, 59, 60, 61, 62, 63, 107, 108, 109, 110, 111, 112, 113, 114, 115] (by decide +kernel) (by decide +kernel)
set_option maxRecDepth 20000 in
theorem gX11_init_X6_init : GoodIn wsX11_init (wsX6_init) := ggX11_init_X6_init
set_option maxRecDepth 20000 in
theorem ggX11_init_X7_init : GoodIn wsX11_init wsX7_init := goodIn_r _ [66, 67, 2, 3, 30, 68, 69, 70, 71, 72, 116, 117, 118, 119, 120, 121, 122, 123] (by decide +kernel) (by decide +kernel)
set_option maxRecDepth 20000 in
theorem gX11_init_X7_init : GoodIn wsX11_init (wsX7_init) := ggX11_init_X7_init
set_option maxRecDepth 20000 in
theorem ggX11_init_X1_init : GoodIn wsX11_init wsX1_init := goodIn_r _ [74, 75, 2, 3, 30, 76, 77, 78, 79, 124, 125, 126] (by decide +kernel) (by decide +kernel)
set_option maxRecDepth 20000 in
theorem gX11_init_X1_init_n41 : GoodIn wsX11_init (wsX1_init) := ggX11_init_X1_init
theorem dX11_init_0 : decode cX11_init 0 = .ok (.aload_n 0, 1) := by decide +kernel
theorem dX11_init_1 : decode cX11_init 1 = .ok (.invokespecial 1, 3) := by decide +kernel
theorem dX11_init_4 : decode cX11_init 4 = .ok (.new 7, 3) := by decide +kernel
theorem dX11_init_7 : decode cX11_init 7 = .ok (.dup, 1) := by decide +kernel
theorem dX11_init_8 : decode cX11_init 8 = .ok (.invokespecial 9, 3) := by decide +kernel
theorem dX11_init_11 : decode cX11_init 11 = .ok (.astore_n 1, 1) := by decide +kernel
theorem dX11_init_12 : decode cX11_init 12 = .ok (.aload_n 0, 1) := by decide +kernel
theorem dX11_init_13 : decode cX11_init 13 = .ok (.aload_n 1, 1) := by decide +kernel
theorem dX11_init_14 : decode cX11_init 14 = .ok (.putfield 10, 3) := by decide +kernel
theorem dX11_init_17 : decode cX11_init 17 = .ok (.aload_n 0, 1) := by decide +kernel
theorem dX11_init_18 : decode cX11_init 18 = .ok (.new 16, 3) := by decide +kernel
theorem dX11_init_21 : decode cX11_init 21 = .ok (.dup, 1) := by decide +kernel
theorem dX11_init_22 : decode cX11_init 22 = .ok (.aload_n 1, 1) := by decide +kernel
theorem dX11_init_23 : decode cX11_init 23 = .ok (.invokespecial 18, 3) := by decide +kernel
theorem dX11_init_26 : decode cX11_init 26 = .ok (.putfield 21, 3) := by decide +kernel
theorem dX11_init_29 : decode cX11_init 29 = .ok (.aload_n 0, 1) := by decide +kernel
theorem dX11_init_30 : decode cX11_init 30 = .ok (.new 25, 3) := by decide +kernel
theorem dX11_init_33 : decode cX11_init 33 = .ok (.dup, 1) := by decide +kernel
theorem dX11_init_34 : decode cX11_init 34 = .ok (.aload_n 1, 1) := by decide +kernel
theorem dX11_init_35 : decode cX11_init 35 = .ok (.invokespecial 27, 3) := by decide +kernel
theorem dX11_init_38 : decode cX11_init 38 = .ok (.putfield 28, 3) := by decide +kernel
theorem dX11_init_41 : decode cX11_init 41 = .ok (.aload_n 0, 1) := by decide +kernel
theorem dX11_init_42 : decode cX11_init 42 = .ok (.new 32, 3) := by decide +kernel
theorem dX11_init_45 : decode cX11_init 45 = .ok (.dup, 1) := by decide +kernel
theorem dX11_init_46 : decode cX11_init 46 = .ok (.aload_n 1, 1) := by decide +kernel
theorem dX11_init_47 : decode cX11_init 47 = .ok (.invokespecial 34, 3) := by decide +kernel
theorem dX11_init_50 : decode cX11_init 50 = .ok (.putfield 35, 3) := by decide +kernel
theorem dX11_init_53 : decode cX11_init 53 = .ok (.aload_n 0, 1) := by decide +kernel
theorem dX11_init_54 : decode cX11_init 54 = .ok (.new 39, 3) := by decide +kernel
theorem dX11_init_57 : decode cX11_init 57 = .ok (.dup, 1) := by decide +kernel
theorem dX11_init_58 : decode cX11_init 58 = .ok (.invokespecial 41, 3) := by decide +kernel
theorem dX11_init_61 : decode cX11_init 61 = .ok (.putfield 42, 3) := by decide +kernel
theorem dX11_init_64 : decode cX11_init 64 = .ok (.aload_n 0, 1) := by decide +kernel
theorem dX11_init_65 : decode cX11_init 65 = .ok (.iconst 0, 1) := by decide +kernel
theorem dX11_init_66 : decode cX11_init 66 = .ok (.putfield 46, 3) := by decide +kernel
theorem dX11_init_69 : decode cX11_init 69 = .ok (.return_, 1) := by decide +kernel
set_option maxRecDepth 20000 in
theorem ggX11_place_X11_hasWorth : GoodIn wsX11_place wsX11_hasWorth := goodIn_r _ [5] (by decide +kernel) (by decide +kernel)
set_option maxRecDepth 20000 in
theorem gX11_place_X11_hasWorth : GoodIn wsX11_place (va_wsS RX11 50 yX11_hasWorth wsX11_hasWorth) := goodIn_app (goodIn_of _ (by decide +kernel)) ggX11_place_X11_hasWorth
set_option maxRecDepth 20000 in
theorem ggX11_place_X11_isAmount : GoodIn wsX11_place wsX11_isAmount := goodIn_r _ [8] (by decide +kernel) (by decide +kernel)
set_option maxRecDepth 20000 in
theorem gX11_place_X11_isAmount : GoodIn wsX11_place (va_wsS RX11 54 yX11_isAmount wsX11_isAmount) := goodIn_app (goodIn_of _ (by decide +kernel)) ggX11_place_X11_isAmount
set_option maxRecDepth 20000 in
theorem ggX11_place_X11_refused : GoodIn wsX11_place wsX11_refused := goodIn_r _ [12, 13, 85, 86, 87, 88, 89, 90] (by decide +kernel) (by decide +kernel)
set_option maxRecDepth 20000 in
theorem gX11_place_X11_refused : GoodIn wsX11_place (wsV RX11 57 RX11 yX11_refused wsX11_refused) := goodIn_app (goodIn_of _ (by decide +kernel)) ggX11_place_X11_refused
set_option maxRecDepth 20000 in
theorem ggX11_place_X2_addPlace : GoodIn wsX11_place wsX2_addPlace := goodIn_r _ [18, 19, 20, 21, 22, 23, 24, 25, 26, 27, 17, 28, 29, 30, 31, 32, 33, 34, 35, 36, 37, 38, 39, 40, 41, 42, 43, 44, 45, 46, 47, 48, 49, 50, 51, 52, 53, 54, 55, 56, 57, 58, 59, 60, 61, 62, 63, 64, 65, 66, 67, 68, 69, 70, 71, 72, 73, 74, 75, 76, 77, 78, 79, 80, 91, 92, 93, 94, 95, 96, 97, 98, 99, 100, 101, 102, 103, 104, 105, 106, 107, 108, 109, 110, 111, 112, 113, 114, 115, 116, 117, 118, 119, 120, 121, 122, 123, 124, 125, 126, 127, 128] (by decide +kernel) (by decide +kernel)
set_option maxRecDepth 20000 in
theorem gX11_place_X2_addPlace : GoodIn wsX11_place (wsV RX11 67 RX2 yX2_addPlace wsX2_addPlace) := goodIn_app (goodIn_of _ (by decide +kernel)) ggX11_place_X2_addPlace
set_option maxRecDepth 20000 in
theorem ggX11_place_X11_done : GoodIn wsX11_place wsX11_done := goodIn_r _ [84, 13, 85, 86, 87, 88, 89, 90] (by decide +kernel) (by decide +kernel)
set_option maxRecDepth 20000 in
theorem gX11_place_X11_done : GoodIn wsX11_place (wsV RX11 71 RX11 yX11_done wsX11_done) := goodIn_app (goodIn_of _ (by decide +kernel)) ggX11_place_X11_done
theorem dX11_place_0 : decode cX11_place 0 = .ok (.iload_n 1, 1) := by decide +kernel
theorem dX11_place_1 : decode cX11_place 1 = .ok (.ifCond .lt 22, 3) := by decide +kernel
theorem dX11_place_4 : decode cX11_place 4 = .ok (.iload_n 1, 1) := by decide +kernel
theorem dX11_place_5 : decode cX11_place 5 = .ok (.iconst 5, 1) := by decide +kernel
theorem dX11_place_6 : decode cX11_place 6 = .ok (.if_icmp .ge 17, 3) := by decide +kernel
theorem dX11_place_9 : decode cX11_place 9 = .ok (.iload_n 1, 1) := by decide +kernel
theorem dX11_place_10 : decode cX11_place 10 = .ok (.invokestatic 50, 3) := by decide +kernel
theorem dX11_place_13 : decode cX11_place 13 = .ok (.ifCond .eq 16, 3) := by decide +kernel
theorem dX11_place_16 : decode cX11_place 16 = .ok (.iload_n 2, 1) := by decide +kernel
theorem dX11_place_17 : decode cX11_place 17 = .ok (.invokestatic 54, 3) := by decide +kernel
theorem dX11_place_20 : decode cX11_place 20 = .ok (.ifCond .ne 9, 3) := by decide +kernel
theorem dX11_place_23 : decode cX11_place 23 = .ok (.aload_n 0, 1) := by decide +kernel
theorem dX11_place_24 : decode cX11_place 24 = .ok (.iconst 1, 1) := by decide +kernel
theorem dX11_place_25 : decode cX11_place 25 = .ok (.invokevirtual 57, 3) := by decide +kernel
theorem dX11_place_28 : decode cX11_place 28 = .ok (.ireturn, 1) := by decide +kernel
theorem dX11_place_29 : decode cX11_place 29 = .ok (.aload_n 0, 1) := by decide +kernel
theorem dX11_place_30 : decode cX11_place 30 = .ok (.getfield 10, 3) := by decide +kernel
theorem dX11_place_33 : decode cX11_place 33 = .ok (.getfield 61, 3) := by decide +kernel
theorem dX11_place_36 : decode cX11_place 36 = .ok (.bipush 10, 2) := by decide +kernel
theorem dX11_place_38 : decode cX11_place 38 = .ok (.if_icmp .lt 9, 3) := by decide +kernel
theorem dX11_place_41 : decode cX11_place 41 = .ok (.aload_n 0, 1) := by decide +kernel
theorem dX11_place_42 : decode cX11_place 42 = .ok (.iconst 2, 1) := by decide +kernel
theorem dX11_place_43 : decode cX11_place 43 = .ok (.invokevirtual 57, 3) := by decide +kernel
theorem dX11_place_46 : decode cX11_place 46 = .ok (.ireturn, 1) := by decide +kernel
theorem dX11_place_47 : decode cX11_place 47 = .ok (.iload_n 1, 1) := by decide +kernel
theorem dX11_place_48 : decode cX11_place 48 = .ok (.iconst 3, 1) := by decide +kernel
theorem dX11_place_49 : decode cX11_place 49 = .ok (.if_icmp .ne 20, 3) := by decide +kernel
theorem dX11_place_52 : decode cX11_place 52 = .ok (.aload_n 0, 1) := by decide +kernel
theorem dX11_place_53 : decode cX11_place 53 = .ok (.getfield 10, 3) := by decide +kernel
theorem dX11_place_56 : decode cX11_place 56 = .ok (.getfield 64, 3) := by decide +kernel
theorem dX11_place_59 : decode cX11_place 59 = .ok (.iconst (-1), 1) := by decide +kernel
theorem dX11_place_60 : decode cX11_place 60 = .ok (.if_icmp .eq 9, 3) := by decide +kernel
theorem dX11_place_63 : decode cX11_place 63 = .ok (.aload_n 0, 1) := by decide +kernel
theorem dX11_place_64 : decode cX11_place 64 = .ok (.iconst 3, 1) := by decide +kernel
theorem dX11_place_65 : decode cX11_place 65 = .ok (.invokevirtual 57, 3) := by decide +kernel
theorem dX11_place_68 : decode cX11_place 68 = .ok (.ireturn, 1) := by decide +kernel
theorem dX11_place_69 : decode cX11_place 69 = .ok (.aload_n 0, 1) := by decide +kernel
theorem dX11_place_70 : decode cX11_place 70 = .ok (.aload_n 0, 1) := by decide +kernel
theorem dX11_place_71 : decode cX11_place 71 = .ok (.getfield 10, 3) := by decide +kernel
theorem dX11_place_74 : decode cX11_place 74 = .ok (.iload_n 1, 1) := by decide +kernel
theorem dX11_place_75 : decode cX11_place 75 = .ok (.iload_n 1, 1) := by decide +kernel
theorem dX11_place_76 : decode cX11_place 76 = .ok (.invokestatic 50, 3) := by decide +kernel
theorem dX11_place_79 : decode cX11_place 79 = .ok (.ifCond .eq 7, 3) := by decide +kernel
theorem dX11_place_82 : decode cX11_place 82 = .ok (.iload_n 2, 1) := by decide +kernel
theorem dX11_place_83 : decode cX11_place 83 = .ok (.goto 4, 3) := by decide +kernel
theorem dX11_place_86 : decode cX11_place 86 = .ok (.iconst 0, 1) := by decide +kernel
theorem dX11_place_87 : decode cX11_place 87 = .ok (.invokevirtual 67, 3) := by decide +kernel
theorem dX11_place_90 : decode cX11_place 90 = .ok (.invokevirtual 71, 3) := by decide +kernel
theorem dX11_place_93 : decode cX11_place 93 = .ok (.ireturn, 1) := by decide +kernel
set_option maxRecDepth 20000 in
theorem ggX11_street_X2_mayJoin : GoodIn wsX11_street wsX2_mayJoin := goodIn_r _ [6, 7, 8, 9, 5, 10, 11, 12, 13, 14, 56, 57, 58, 59, 60, 61, 62, 63, 64, 65, 66, 67, 68, 69, 70, 71, 72, 73] (by decide +kernel) (by decide +kernel)
set_option maxRecDepth 20000 in
theorem gX11_street_X2_mayJoin : GoodIn wsX11_street (wsV RX11 74 RX2 yX2_mayJoin wsX2_mayJoin) := goodIn_app (goodIn_of _ (by decide +kernel)) ggX11_street_X2_mayJoin
set_option maxRecDepth 20000 in
theorem ggX11_street_X11_refused : GoodIn wsX11_street wsX11_refused := goodIn_r _ [18, 19, 50, 51, 52, 53, 54, 55] (by decide +kernel) (by decide +kernel)
set_option maxRecDepth 20000 in
theorem gX11_street_X11_refused : GoodIn wsX11_street (wsV RX11 57 RX11 yX11_refused wsX11_refused) := goodIn_app (goodIn_of _ (by decide +kernel)) ggX11_street_X11_refused
set_option maxRecDepth 20000 in
theorem ggX11_street_X2_addStreet : GoodIn wsX11_street wsX2_addStreet := goodIn_r _ [23, 24, 25, 26, 27, 28, 29, 30, 31, 5, 32, 33, 34, 35, 36, 37, 38, 39, 40, 41, 42, 43, 44, 45, 56, 57, 58, 59, 60, 61, 62, 63, 64, 65, 66, 67, 68, 69, 70, 71, 72, 73] (by decide +kernel) (by decide +kernel)
set_option maxRecDepth 20000 in
theorem gX11_street_X2_addStreet : GoodIn wsX11_street (wsV RX11 81 RX2 yX2_addStreet wsX2_addStreet) := goodIn_app (goodIn_of _ (by decide +kernel)) ggX11_street_X2_addStreet
set_option maxRecDepth 20000 in
theorem ggX11_street_X11_done : GoodIn wsX11_street wsX11_done := goodIn_r _ [49, 19, 50, 51, 52, 53, 54, 55] (by decide +kernel) (by decide +kernel)
set_option maxRecDepth 20000 in
theorem gX11_street_X11_done : GoodIn wsX11_street (wsV RX11 71 RX11 yX11_done wsX11_done) := goodIn_app (goodIn_of _ (by decide +kernel)) ggX11_street_X11_done
theorem dX11_street_0 : decode cX11_street 0 = .ok (.aload_n 0, 1) := by decide +kernel
theorem dX11_street_1 : decode cX11_street 1 = .ok (.getfield 10, 3) := by decide +kernel
theorem dX11_street_4 : decode cX11_street 4 = .ok (.iload_n 1, 1) := by decide +kernel
theorem dX11_street_5 : decode cX11_street 5 = .ok (.iload_n 2, 1) := by decide +kernel
theorem dX11_street_6 : decode cX11_street 6 = .ok (.iload_n 3, 1) := by decide +kernel
theorem dX11_street_7 : decode cX11_street 7 = .ok (.invokevirtual 74, 3) := by decide +kernel
theorem dX11_street_10 : decode cX11_street 10 = .ok (.ifCond .ne 9, 3) := by decide +kernel
theorem dX11_street_13 : decode cX11_street 13 = .ok (.aload_n 0, 1) := by decide +kernel
theorem dX11_street_14 : decode cX11_street 14 = .ok (.iconst 1, 1) := by decide +kernel
theorem dX11_street_15 : decode cX11_street 15 = .ok (.invokevirtual 57, 3) := by decide +kernel
theorem dX11_street_18 : decode cX11_street 18 = .ok (.ireturn, 1) := by decide +kernel
theorem dX11_street_19 : decode cX11_street 19 = .ok (.aload_n 0, 1) := by decide +kernel
theorem dX11_street_20 : decode cX11_street 20 = .ok (.getfield 10, 3) := by decide +kernel
theorem dX11_street_23 : decode cX11_street 23 = .ok (.getfield 78, 3) := by decide +kernel
theorem dX11_street_26 : decode cX11_street 26 = .ok (.bipush 16, 2) := by decide +kernel
theorem dX11_street_28 : decode cX11_street 28 = .ok (.if_icmp .lt 9, 3) := by decide +kernel
theorem dX11_street_31 : decode cX11_street 31 = .ok (.aload_n 0, 1) := by decide +kernel
theorem dX11_street_32 : decode cX11_street 32 = .ok (.iconst 2, 1) := by decide +kernel
theorem dX11_street_33 : decode cX11_street 33 = .ok (.invokevirtual 57, 3) := by decide +kernel
theorem dX11_street_36 : decode cX11_street 36 = .ok (.ireturn, 1) := by decide +kernel
theorem dX11_street_37 : decode cX11_street 37 = .ok (.aload_n 0, 1) := by decide +kernel
theorem dX11_street_38 : decode cX11_street 38 = .ok (.aload_n 0, 1) := by decide +kernel
theorem dX11_street_39 : decode cX11_street 39 = .ok (.getfield 10, 3) := by decide +kernel
theorem dX11_street_42 : decode cX11_street 42 = .ok (.iload_n 1, 1) := by decide +kernel
theorem dX11_street_43 : decode cX11_street 43 = .ok (.iload_n 2, 1) := by decide +kernel
theorem dX11_street_44 : decode cX11_street 44 = .ok (.iload_n 3, 1) := by decide +kernel
theorem dX11_street_45 : decode cX11_street 45 = .ok (.invokevirtual 81, 3) := by decide +kernel
theorem dX11_street_48 : decode cX11_street 48 = .ok (.invokevirtual 71, 3) := by decide +kernel
theorem dX11_street_51 : decode cX11_street 51 = .ok (.ireturn, 1) := by decide +kernel
set_option maxRecDepth 20000 in
theorem ggX11_drop_X2_hasStreet : GoodIn wsX11_drop wsX2_hasStreet := goodIn_r _ [6, 7, 54, 55, 56, 57, 58, 59, 60, 61, 62, 63, 64, 65, 66, 67, 68, 69, 70, 71] (by decide +kernel) (by decide +kernel)
set_option maxRecDepth 20000 in
theorem gX11_drop_X2_hasStreet : GoodIn wsX11_drop (wsV RX11 85 RX2 yX2_hasStreet wsX2_hasStreet) := goodIn_app (goodIn_of _ (by decide +kernel)) ggX11_drop_X2_hasStreet
set_option maxRecDepth 20000 in
theorem ggX11_drop_X11_refused : GoodIn wsX11_drop wsX11_refused := goodIn_r _ [12, 13, 48, 49, 50, 51, 52, 53] (by decide +kernel) (by decide +kernel)
set_option maxRecDepth 20000 in
theorem gX11_drop_X11_refused : GoodIn wsX11_drop (wsV RX11 57 RX11 yX11_refused wsX11_refused) := goodIn_app (goodIn_of _ (by decide +kernel)) ggX11_drop_X11_refused
set_option maxRecDepth 20000 in
theorem ggX11_drop_X2_isThere : GoodIn wsX11_drop wsX2_isThere := goodIn_r _ [17, 18, 19, 11, 20, 54, 55, 56, 57, 58, 59, 60, 61, 62, 63, 64, 65, 66, 67, 68, 69, 70, 71] (by decide +kernel) (by decide +kernel)
set_option maxRecDepth 20000 in
theorem gX11_drop_X2_isThere : GoodIn wsX11_drop (wsV RX11 88 RX2 yX2_isThere wsX2_isThere) := goodIn_app (goodIn_of _ (by decide +kernel)) ggX11_drop_X2_isThere
set_option maxRecDepth 20000 in
theorem ggX11_drop_X2_dropStreet : GoodIn wsX11_drop wsX2_dropStreet := goodIn_r _ [24, 25, 26, 27, 28, 5, 29, 18, 30, 31, 32, 33, 34, 35, 36, 37, 38, 39, 40, 41, 42, 43, 54, 55, 56, 57, 58, 59, 60, 61, 62, 63, 64, 65, 66, 67, 68, 69, 70, 71] (by decide +kernel) (by decide +kernel)
set_option maxRecDepth 20000 in
theorem gX11_drop_X2_dropStreet : GoodIn wsX11_drop (wsV RX11 91 RX2 yX2_dropStreet wsX2_dropStreet) := goodIn_app (goodIn_of _ (by decide +kernel)) ggX11_drop_X2_dropStreet
set_option maxRecDepth 20000 in
theorem ggX11_drop_X11_done : GoodIn wsX11_drop wsX11_done := goodIn_r _ [47, 13, 48, 49, 50, 51, 52, 53] (by decide +kernel) (by decide +kernel)
set_option maxRecDepth 20000 in
theorem gX11_drop_X11_done : GoodIn wsX11_drop (wsV RX11 71 RX11 yX11_done wsX11_done) := goodIn_app (goodIn_of _ (by decide +kernel)) ggX11_drop_X11_done
theorem dX11_drop_0 : decode cX11_drop 0 = .ok (.aload_n 0, 1) := by decide +kernel
theorem dX11_drop_1 : decode cX11_drop 1 = .ok (.getfield 10, 3) := by decide +kernel
theorem dX11_drop_4 : decode cX11_drop 4 = .ok (.iload_n 1, 1) := by decide +kernel
theorem dX11_drop_5 : decode cX11_drop 5 = .ok (.invokevirtual 85, 3) := by decide +kernel
theorem dX11_drop_8 : decode cX11_drop 8 = .ok (.ifCond .ne 9, 3) := by decide +kernel
theorem dX11_drop_11 : decode cX11_drop 11 = .ok (.aload_n 0, 1) := by decide +kernel
theorem dX11_drop_12 : decode cX11_drop 12 = .ok (.iconst 1, 1) := by decide +kernel
theorem dX11_drop_13 : decode cX11_drop 13 = .ok (.invokevirtual 57, 3) := by decide +kernel
theorem dX11_drop_16 : decode cX11_drop 16 = .ok (.ireturn, 1) := by decide +kernel
theorem dX11_drop_17 : decode cX11_drop 17 = .ok (.aload_n 0, 1) := by decide +kernel
theorem dX11_drop_18 : decode cX11_drop 18 = .ok (.getfield 10, 3) := by decide +kernel
theorem dX11_drop_21 : decode cX11_drop 21 = .ok (.iload_n 1, 1) := by decide +kernel
theorem dX11_drop_22 : decode cX11_drop 22 = .ok (.invokevirtual 88, 3) := by decide +kernel
theorem dX11_drop_25 : decode cX11_drop 25 = .ok (.ifCond .ne 9, 3) := by decide +kernel
theorem dX11_drop_28 : decode cX11_drop 28 = .ok (.aload_n 0, 1) := by decide +kernel
theorem dX11_drop_29 : decode cX11_drop 29 = .ok (.iconst 3, 1) := by decide +kernel
theorem dX11_drop_30 : decode cX11_drop 30 = .ok (.invokevirtual 57, 3) := by decide +kernel
theorem dX11_drop_33 : decode cX11_drop 33 = .ok (.ireturn, 1) := by decide +kernel
theorem dX11_drop_34 : decode cX11_drop 34 = .ok (.aload_n 0, 1) := by decide +kernel
theorem dX11_drop_35 : decode cX11_drop 35 = .ok (.getfield 10, 3) := by decide +kernel
theorem dX11_drop_38 : decode cX11_drop 38 = .ok (.iload_n 1, 1) := by decide +kernel
theorem dX11_drop_39 : decode cX11_drop 39 = .ok (.invokevirtual 91, 3) := by decide +kernel
theorem dX11_drop_42 : decode cX11_drop 42 = .ok (.aload_n 0, 1) := by decide +kernel
theorem dX11_drop_43 : decode cX11_drop 43 = .ok (.iconst 1, 1) := by decide +kernel
theorem dX11_drop_44 : decode cX11_drop 44 = .ok (.invokevirtual 71, 3) := by decide +kernel
theorem dX11_drop_47 : decode cX11_drop 47 = .ok (.ireturn, 1) := by decide +kernel
set_option maxRecDepth 20000 in
theorem ggX11_undo_X11_refused : GoodIn wsX11_undo wsX11_refused := goodIn_r _ [6, 7, 42, 43, 44, 45, 46, 47] (by decide +kernel) (by decide +kernel)
set_option maxRecDepth 20000 in
theorem gX11_undo_X11_refused : GoodIn wsX11_undo (wsV RX11 57 RX11 yX11_refused wsX11_refused) := goodIn_app (goodIn_of _ (by decide +kernel)) ggX11_undo_X11_refused
set_option maxRecDepth 20000 in
theorem ggX11_undo_X2_takeBack : GoodIn wsX11_undo wsX2_takeBack := goodIn_r _ [12, 13, 14, 15, 16, 17, 18, 19, 20, 11, 21, 22, 23, 24, 25, 26, 27, 28, 29, 30, 31, 32, 33, 34, 35, 36, 37, 48, 49, 50, 51, 52, 53, 54, 55, 56, 57, 58, 59, 60, 61, 62, 63, 64, 65] (by decide +kernel) (by decide +kernel)
set_option maxRecDepth 20000 in
theorem gX11_undo_X2_takeBack : GoodIn wsX11_undo (wsV RX11 98 RX2 yX2_takeBack wsX2_takeBack) := goodIn_app (goodIn_of _ (by decide +kernel)) ggX11_undo_X2_takeBack
set_option maxRecDepth 20000 in
theorem ggX11_undo_X11_done : GoodIn wsX11_undo wsX11_done := goodIn_r _ [41, 7, 42, 43, 44, 45, 46, 47] (by decide +kernel) (by decide +kernel)
set_option maxRecDepth 20000 in
theorem gX11_undo_X11_done : GoodIn wsX11_undo (wsV RX11 71 RX11 yX11_done wsX11_done) := goodIn_app (goodIn_of _ (by decide +kernel)) ggX11_undo_X11_done
theorem dX11_undo_0 : decode cX11_undo 0 = .ok (.aload_n 0, 1) := by decide +kernel
theorem dX11_undo_1 : decode cX11_undo 1 = .ok (.getfield 10, 3) := by decide +kernel
theorem dX11_undo_4 : decode cX11_undo 4 = .ok (.getfield 95, 3) := by decide +kernel
theorem dX11_undo_7 : decode cX11_undo 7 = .ok (.ifCond .ne 9, 3) := by decide +kernel
theorem dX11_undo_10 : decode cX11_undo 10 = .ok (.aload_n 0, 1) := by decide +kernel
theorem dX11_undo_11 : decode cX11_undo 11 = .ok (.iconst 3, 1) := by decide +kernel
theorem dX11_undo_12 : decode cX11_undo 12 = .ok (.invokevirtual 57, 3) := by decide +kernel
theorem dX11_undo_15 : decode cX11_undo 15 = .ok (.ireturn, 1) := by decide +kernel
theorem dX11_undo_16 : decode cX11_undo 16 = .ok (.aload_n 0, 1) := by decide +kernel
theorem dX11_undo_17 : decode cX11_undo 17 = .ok (.getfield 10, 3) := by decide +kernel
theorem dX11_undo_20 : decode cX11_undo 20 = .ok (.invokevirtual 98, 3) := by decide +kernel
theorem dX11_undo_23 : decode cX11_undo 23 = .ok (.aload_n 0, 1) := by decide +kernel
theorem dX11_undo_24 : decode cX11_undo 24 = .ok (.iconst 1, 1) := by decide +kernel
theorem dX11_undo_25 : decode cX11_undo 25 = .ok (.invokevirtual 71, 3) := by decide +kernel
theorem dX11_undo_28 : decode cX11_undo 28 = .ok (.ireturn, 1) := by decide +kernel
set_option maxRecDepth 20000 in
theorem ggX11_told_X2_placeAt : GoodIn wsX11_told wsX2_placeAt := goodIn_r _ [7, 8, 9, 10, 11, 6, 12, 13, 76, 77, 78, 79, 80, 81, 82, 83, 84, 85, 86, 87, 88, 89, 90, 91, 92, 93] (by decide +kernel) (by decide +kernel)
set_option maxRecDepth 20000 in
theorem gX11_told_X2_placeAt : GoodIn wsX11_told (wsV RX11 101 RX2 yX2_placeAt wsX2_placeAt) := goodIn_app (goodIn_of _ (by decide +kernel)) ggX11_told_X2_placeAt
set_option maxRecDepth 20000 in
theorem ggX11_told_X0_kind : GoodIn wsX11_told wsX0_kind := goodIn_r _ [20] (by decide +kernel) (by decide +kernel)
set_option maxRecDepth 20000 in
theorem gX11_told_X0_kind_u105X0 : GoodIn wsX11_told (va_wsO RX11 105 RX0 "DripLines$Place" ⟨"DripLines$Place", "kind", "()I"⟩ yX0_kind wsX0_kind) := goodIn_app (goodIn_of _ (by decide +kernel)) ggX11_told_X0_kind
set_option maxRecDepth 20000 in
theorem ggX11_told_X3_kind : GoodIn wsX11_told wsX3_kind := goodIn_r _ [21] (by decide +kernel) (by decide +kernel)
set_option maxRecDepth 20000 in
theorem gX11_told_X3_kind : GoodIn wsX11_told (wsV RX11 105 RX3 yX3_kind wsX3_kind) := goodIn_app (goodIn_of _ (by decide +kernel)) ggX11_told_X3_kind
set_option maxRecDepth 20000 in
theorem ggX11_told_X4_kind : GoodIn wsX11_told wsX4_kind := goodIn_r _ [29] (by decide +kernel) (by decide +kernel)
set_option maxRecDepth 20000 in
theorem gX11_told_X4_kind_u105X4 : GoodIn wsX11_told (va_wsO RX11 105 RX4 "DripLines$Place" ⟨"DripLines$Place", "kind", "()I"⟩ yX4_kind wsX4_kind) := goodIn_app (goodIn_of _ (by decide +kernel)) ggX11_told_X4_kind
set_option maxRecDepth 20000 in
theorem ggX11_told_X9_kind : GoodIn wsX11_told wsX9_kind := goodIn_r _ [33] (by decide +kernel) (by decide +kernel)
set_option maxRecDepth 20000 in
theorem gX11_told_X9_kind_u105X9 : GoodIn wsX11_told (va_wsO RX11 105 RX9 "DripLines$Place" ⟨"DripLines$Place", "kind", "()I"⟩ yX9_kind wsX9_kind) := goodIn_app (goodIn_of _ (by decide +kernel)) ggX11_told_X9_kind
set_option maxRecDepth 20000 in
theorem ggX11_told_X10_kind : GoodIn wsX11_told wsX10_kind := goodIn_r _ [37] (by decide +kernel) (by decide +kernel)
set_option maxRecDepth 20000 in
theorem gX11_told_X10_kind_u105X10 : GoodIn wsX11_told (va_wsO RX11 105 RX10 "DripLines$Place" ⟨"DripLines$Place", "kind", "()I"⟩ yX10_kind wsX10_kind) := goodIn_app (goodIn_of _ (by decide +kernel)) ggX11_told_X10_kind
set_option maxRecDepth 20000 in
theorem ggX11_told_X2_streetsAt : GoodIn wsX11_told wsX2_streetsAt := goodIn_r _ [41, 42, 43, 44, 45, 46, 47, 48, 49, 76, 77, 78, 79, 80, 81, 82, 83, 84, 85, 86, 87, 88, 89, 90, 91, 92, 93] (by decide +kernel) (by decide +kernel)
set_option maxRecDepth 20000 in
theorem gX11_told_X2_streetsAt : GoodIn wsX11_told (wsV RX11 114 RX2 yX2_streetsAt wsX2_streetsAt) := goodIn_app (goodIn_of _ (by decide +kernel)) ggX11_told_X2_streetsAt
theorem dX11_told_0 : decode cX11_told 0 = .ok (.aload_n 0, 1) := by decide +kernel
theorem dX11_told_1 : decode cX11_told 1 = .ok (.getfield 10, 3) := by decide +kernel
theorem dX11_told_4 : decode cX11_told 4 = .ok (.iload_n 1, 1) := by decide +kernel
theorem dX11_told_5 : decode cX11_told 5 = .ok (.invokevirtual 101, 3) := by decide +kernel
theorem dX11_told_8 : decode cX11_told 8 = .ok (.astore_n 3, 1) := by decide +kernel
theorem dX11_told_9 : decode cX11_told 9 = .ok (.aload_n 3, 1) := by decide +kernel
theorem dX11_told_10 : decode cX11_told 10 = .ok (.ifnonnull 5, 3) := by decide +kernel
theorem dX11_told_13 : decode cX11_told 13 = .ok (.iconst (-1), 1) := by decide +kernel
theorem dX11_told_14 : decode cX11_told 14 = .ok (.ireturn, 1) := by decide +kernel
theorem dX11_told_15 : decode cX11_told 15 = .ok (.iload_n 2, 1) := by decide +kernel
theorem dX11_told_16 : decode cX11_told 16 = .ok (.tableswitch 47 0 2 #[28, 33, 38], 28) := by decide +kernel
theorem dX11_told_44 : decode cX11_told 44 = .ok (.aload_n 3, 1) := by decide +kernel
theorem dX11_told_45 : decode cX11_told 45 = .ok (.invokevirtual 105, 3) := by decide +kernel
theorem dX11_told_48 : decode cX11_told 48 = .ok (.ireturn, 1) := by decide +kernel
theorem dX11_told_49 : decode cX11_told 49 = .ok (.aload_n 3, 1) := by decide +kernel
theorem dX11_told_50 : decode cX11_told 50 = .ok (.getfield 111, 3) := by decide +kernel
theorem dX11_told_53 : decode cX11_told 53 = .ok (.ireturn, 1) := by decide +kernel
theorem dX11_told_54 : decode cX11_told 54 = .ok (.aload_n 0, 1) := by decide +kernel
theorem dX11_told_55 : decode cX11_told 55 = .ok (.getfield 10, 3) := by decide +kernel
theorem dX11_told_58 : decode cX11_told 58 = .ok (.iload_n 1, 1) := by decide +kernel
theorem dX11_told_59 : decode cX11_told 59 = .ok (.invokevirtual 114, 3) := by decide +kernel
theorem dX11_told_62 : decode cX11_told 62 = .ok (.ireturn, 1) := by decide +kernel
theorem dX11_told_63 : decode cX11_told 63 = .ok (.iconst (-1), 1) := by decide +kernel
theorem dX11_told_64 : decode cX11_told 64 = .ok (.ireturn, 1) := by decide +kernel
set_option maxRecDepth 20000 in
theorem ggX11_streetTold_X2_hasStreet : GoodIn wsX11_streetTold wsX2_hasStreet := goodIn_r _ [6, 7, 18, 19, 20, 21, 22, 23, 24, 25, 26, 27, 28, 29, 30, 31, 32, 33, 34, 35] (by decide +kernel) (by decide +kernel)
set_option maxRecDepth 20000 in
theorem gX11_streetTold_X2_hasStreet : GoodIn wsX11_streetTold (wsV RX11 85 RX2 yX2_hasStreet wsX2_hasStreet) := goodIn_app (goodIn_of _ (by decide +kernel)) ggX11_streetTold_X2_hasStreet
set_option maxRecDepth 20000 in
theorem ggX11_streetTold_X11_bitAt : GoodIn wsX11_streetTold wsX11_bitAt := goodIn_r _ [11] (by decide +kernel) (by decide +kernel)
set_option maxRecDepth 20000 in
theorem gX11_streetTold_X11_bitAt : GoodIn wsX11_streetTold (va_wsS RX11 130 yX11_bitAt wsX11_bitAt) := goodIn_app (goodIn_of _ (by decide +kernel)) ggX11_streetTold_X11_bitAt
theorem dX11_streetTold_0 : decode cX11_streetTold 0 = .ok (.aload_n 0, 1) := by decide +kernel
theorem dX11_streetTold_1 : decode cX11_streetTold 1 = .ok (.getfield 10, 3) := by decide +kernel
theorem dX11_streetTold_4 : decode cX11_streetTold 4 = .ok (.iload_n 1, 1) := by decide +kernel
theorem dX11_streetTold_5 : decode cX11_streetTold 5 = .ok (.invokevirtual 85, 3) := by decide +kernel
theorem dX11_streetTold_8 : decode cX11_streetTold 8 = .ok (.ifCond .ne 5, 3) := by decide +kernel
theorem dX11_streetTold_11 : decode cX11_streetTold 11 = .ok (.iconst (-1), 1) := by decide +kernel
theorem dX11_streetTold_12 : decode cX11_streetTold 12 = .ok (.ireturn, 1) := by decide +kernel
theorem dX11_streetTold_13 : decode cX11_streetTold 13 = .ok (.iload_n 2, 1) := by decide +kernel
theorem dX11_streetTold_14 : decode cX11_streetTold 14 = .ok (.tableswitch 88 0 4 #[34, 44, 54, 64, 76], 34) := by decide +kernel
theorem dX11_streetTold_48 : decode cX11_streetTold 48 = .ok (.aload_n 0, 1) := by decide +kernel
theorem dX11_streetTold_49 : decode cX11_streetTold 49 = .ok (.getfield 10, 3) := by decide +kernel
theorem dX11_streetTold_52 : decode cX11_streetTold 52 = .ok (.getfield 117, 3) := by decide +kernel
theorem dX11_streetTold_55 : decode cX11_streetTold 55 = .ok (.iload_n 1, 1) := by decide +kernel
theorem dX11_streetTold_56 : decode cX11_streetTold 56 = .ok (.iaload, 1) := by decide +kernel
theorem dX11_streetTold_57 : decode cX11_streetTold 57 = .ok (.ireturn, 1) := by decide +kernel
theorem dX11_streetTold_58 : decode cX11_streetTold 58 = .ok (.aload_n 0, 1) := by decide +kernel
theorem dX11_streetTold_59 : decode cX11_streetTold 59 = .ok (.getfield 10, 3) := by decide +kernel
theorem dX11_streetTold_62 : decode cX11_streetTold 62 = .ok (.getfield 121, 3) := by decide +kernel
theorem dX11_streetTold_65 : decode cX11_streetTold 65 = .ok (.iload_n 1, 1) := by decide +kernel
theorem dX11_streetTold_66 : decode cX11_streetTold 66 = .ok (.iaload, 1) := by decide +kernel
theorem dX11_streetTold_67 : decode cX11_streetTold 67 = .ok (.ireturn, 1) := by decide +kernel
theorem dX11_streetTold_68 : decode cX11_streetTold 68 = .ok (.aload_n 0, 1) := by decide +kernel
theorem dX11_streetTold_69 : decode cX11_streetTold 69 = .ok (.getfield 10, 3) := by decide +kernel
theorem dX11_streetTold_72 : decode cX11_streetTold 72 = .ok (.getfield 124, 3) := by decide +kernel
theorem dX11_streetTold_75 : decode cX11_streetTold 75 = .ok (.iload_n 1, 1) := by decide +kernel
theorem dX11_streetTold_76 : decode cX11_streetTold 76 = .ok (.iaload, 1) := by decide +kernel
theorem dX11_streetTold_77 : decode cX11_streetTold 77 = .ok (.ireturn, 1) := by decide +kernel
theorem dX11_streetTold_78 : decode cX11_streetTold 78 = .ok (.aload_n 0, 1) := by decide +kernel
theorem dX11_streetTold_79 : decode cX11_streetTold 79 = .ok (.getfield 10, 3) := by decide +kernel
theorem dX11_streetTold_82 : decode cX11_streetTold 82 = .ok (.getfield 127, 3) := by decide +kernel
theorem dX11_streetTold_85 : decode cX11_streetTold 85 = .ok (.iload_n 1, 1) := by decide +kernel
theorem dX11_streetTold_86 : decode cX11_streetTold 86 = .ok (.invokestatic 130, 3) := by decide +kernel
theorem dX11_streetTold_89 : decode cX11_streetTold 89 = .ok (.ireturn, 1) := by decide +kernel
theorem dX11_streetTold_90 : decode cX11_streetTold 90 = .ok (.aload_n 0, 1) := by decide +kernel
theorem dX11_streetTold_91 : decode cX11_streetTold 91 = .ok (.getfield 10, 3) := by decide +kernel
theorem dX11_streetTold_94 : decode cX11_streetTold 94 = .ok (.getfield 133, 3) := by decide +kernel
theorem dX11_streetTold_97 : decode cX11_streetTold 97 = .ok (.iload_n 1, 1) := by decide +kernel
theorem dX11_streetTold_98 : decode cX11_streetTold 98 = .ok (.invokestatic 130, 3) := by decide +kernel
theorem dX11_streetTold_101 : decode cX11_streetTold 101 = .ok (.ireturn, 1) := by decide +kernel
theorem dX11_streetTold_102 : decode cX11_streetTold 102 = .ok (.iconst (-1), 1) := by decide +kernel
theorem dX11_streetTold_103 : decode cX11_streetTold 103 = .ok (.ireturn, 1) := by decide +kernel
set_option maxRecDepth 20000 in
theorem ggX11_count_J6_bitCount_0f7a4 : GoodIn wsX11_count wsJ6_bitCount_0f7a4 := goodIn_r _ [5, 6, 7, 8] (by decide +kernel) (by decide +kernel)
set_option maxRecDepth 20000 in
theorem gX11_count_J6_bitCount_0f7a4 : GoodIn wsX11_count (va_wsS RX11 136 yJ6_bitCount_0f7a4 wsJ6_bitCount_0f7a4) := goodIn_app (goodIn_of _ (by decide +kernel)) ggX11_count_J6_bitCount_0f7a4
theorem dX11_count_0 : decode cX11_count 0 = .ok (.iload_n 1, 1) := by decide +kernel
theorem dX11_count_1 : decode cX11_count 1 = .ok (.tableswitch 111 0 6 #[43, 51, 59, 70, 81, 92, 103], 43) := by decide +kernel
theorem dX11_count_44 : decode cX11_count 44 = .ok (.aload_n 0, 1) := by decide +kernel
theorem dX11_count_45 : decode cX11_count 45 = .ok (.getfield 10, 3) := by decide +kernel
theorem dX11_count_48 : decode cX11_count 48 = .ok (.getfield 61, 3) := by decide +kernel
theorem dX11_count_51 : decode cX11_count 51 = .ok (.ireturn, 1) := by decide +kernel
theorem dX11_count_52 : decode cX11_count 52 = .ok (.aload_n 0, 1) := by decide +kernel
theorem dX11_count_53 : decode cX11_count 53 = .ok (.getfield 10, 3) := by decide +kernel
theorem dX11_count_56 : decode cX11_count 56 = .ok (.getfield 78, 3) := by decide +kernel
theorem dX11_count_59 : decode cX11_count 59 = .ok (.ireturn, 1) := by decide +kernel
theorem dX11_count_60 : decode cX11_count 60 = .ok (.aload_n 0, 1) := by decide +kernel
theorem dX11_count_61 : decode cX11_count 61 = .ok (.getfield 10, 3) := by decide +kernel
theorem dX11_count_64 : decode cX11_count 64 = .ok (.getfield 127, 3) := by decide +kernel
theorem dX11_count_67 : decode cX11_count 67 = .ok (.invokestatic 136, 3) := by decide +kernel
theorem dX11_count_70 : decode cX11_count 70 = .ok (.ireturn, 1) := by decide +kernel
theorem dX11_count_71 : decode cX11_count 71 = .ok (.aload_n 0, 1) := by decide +kernel
theorem dX11_count_72 : decode cX11_count 72 = .ok (.getfield 10, 3) := by decide +kernel
theorem dX11_count_75 : decode cX11_count 75 = .ok (.getfield 141, 3) := by decide +kernel
theorem dX11_count_78 : decode cX11_count 78 = .ok (.invokestatic 136, 3) := by decide +kernel
theorem dX11_count_81 : decode cX11_count 81 = .ok (.ireturn, 1) := by decide +kernel
theorem dX11_count_82 : decode cX11_count 82 = .ok (.aload_n 0, 1) := by decide +kernel
theorem dX11_count_83 : decode cX11_count 83 = .ok (.getfield 10, 3) := by decide +kernel
theorem dX11_count_86 : decode cX11_count 86 = .ok (.getfield 133, 3) := by decide +kernel
theorem dX11_count_89 : decode cX11_count 89 = .ok (.invokestatic 136, 3) := by decide +kernel
theorem dX11_count_92 : decode cX11_count 92 = .ok (.ireturn, 1) := by decide +kernel
theorem dX11_count_93 : decode cX11_count 93 = .ok (.aload_n 0, 1) := by decide +kernel
theorem dX11_count_94 : decode cX11_count 94 = .ok (.getfield 10, 3) := by decide +kernel
theorem dX11_count_97 : decode cX11_count 97 = .ok (.getfield 144, 3) := by decide +kernel
theorem dX11_count_100 : decode cX11_count 100 = .ok (.getfield 148, 3) := by decide +kernel
theorem dX11_count_103 : decode cX11_count 103 = .ok (.ireturn, 1) := by decide +kernel
theorem dX11_count_104 : decode cX11_count 104 = .ok (.aload_n 0, 1) := by decide +kernel
theorem dX11_count_105 : decode cX11_count 105 = .ok (.getfield 10, 3) := by decide +kernel
theorem dX11_count_108 : decode cX11_count 108 = .ok (.getfield 95, 3) := by decide +kernel
theorem dX11_count_111 : decode cX11_count 111 = .ok (.ireturn, 1) := by decide +kernel
theorem dX11_count_112 : decode cX11_count 112 = .ok (.iconst (-1), 1) := by decide +kernel
theorem dX11_count_113 : decode cX11_count 113 = .ok (.ireturn, 1) := by decide +kernel
set_option maxRecDepth 20000 in
theorem ggX11_apart_X2_hasPlace : GoodIn wsX11_apart wsX2_hasPlace := goodIn_r _ [8, 9, 49, 50, 51, 52, 53, 54, 55, 56, 57, 58, 59, 60, 61, 62, 63, 64, 65, 66] (by decide +kernel) (by decide +kernel)
set_option maxRecDepth 20000 in
theorem gX11_apart_X2_hasPlace : GoodIn wsX11_apart (wsV RX11 153 RX2 yX2_hasPlace wsX2_hasPlace) := goodIn_app (goodIn_of _ (by decide +kernel)) ggX11_apart_X2_hasPlace
set_option maxRecDepth 20000 in
theorem ggX11_apart_X8_sumOf : GoodIn wsX11_apart wsX8_sumOf := goodIn_r _ [14, 15, 16, 17, 18, 19, 20, 13, 21, 22, 23, 24, 25, 26, 27, 28, 29, 7, 30, 31, 32, 33, 34, 35, 36, 37, 38, 39, 40, 41, 42, 67, 68, 69, 49, 50, 51, 52, 53, 54, 55, 56, 57, 58, 59, 60, 61, 62, 63, 64, 65, 66] (by decide +kernel) (by decide +kernel)
set_option maxRecDepth 20000 in
theorem gX11_apart_X8_sumOf : GoodIn wsX11_apart (wsV RX11 156 RX8 yX8_sumOf wsX8_sumOf) := goodIn_app (goodIn_of _ (by decide +kernel)) ggX11_apart_X8_sumOf
theorem dX11_apart_0 : decode cX11_apart 0 = .ok (.aload_n 0, 1) := by decide +kernel
theorem dX11_apart_1 : decode cX11_apart 1 = .ok (.getfield 10, 3) := by decide +kernel
theorem dX11_apart_4 : decode cX11_apart 4 = .ok (.iload_n 1, 1) := by decide +kernel
theorem dX11_apart_5 : decode cX11_apart 5 = .ok (.invokevirtual 153, 3) := by decide +kernel
theorem dX11_apart_8 : decode cX11_apart 8 = .ok (.ifCond .eq 26, 3) := by decide +kernel
theorem dX11_apart_11 : decode cX11_apart 11 = .ok (.aload_n 0, 1) := by decide +kernel
theorem dX11_apart_12 : decode cX11_apart 12 = .ok (.getfield 10, 3) := by decide +kernel
theorem dX11_apart_15 : decode cX11_apart 15 = .ok (.iload_n 2, 1) := by decide +kernel
theorem dX11_apart_16 : decode cX11_apart 16 = .ok (.invokevirtual 153, 3) := by decide +kernel
theorem dX11_apart_19 : decode cX11_apart 19 = .ok (.ifCond .eq 15, 3) := by decide +kernel
theorem dX11_apart_22 : decode cX11_apart 22 = .ok (.aload_n 0, 1) := by decide +kernel
theorem dX11_apart_23 : decode cX11_apart 23 = .ok (.getfield 21, 3) := by decide +kernel
theorem dX11_apart_26 : decode cX11_apart 26 = .ok (.iload_n 1, 1) := by decide +kernel
theorem dX11_apart_27 : decode cX11_apart 27 = .ok (.iload_n 2, 1) := by decide +kernel
theorem dX11_apart_28 : decode cX11_apart 28 = .ok (.invokevirtual 156, 3) := by decide +kernel
theorem dX11_apart_31 : decode cX11_apart 31 = .ok (.goto 5, 3) := by decide +kernel
theorem dX11_apart_34 : decode cX11_apart 34 = .ok (.ldc 159, 2) := by decide +kernel
theorem dX11_apart_36 : decode cX11_apart 36 = .ok (.ireturn, 1) := by decide +kernel
set_option maxRecDepth 20000 in
theorem ggX11_way_X2_hasPlace : GoodIn wsX11_way wsX2_hasPlace := goodIn_r _ [7, 8, 51, 52, 53, 54, 55, 56, 57, 58, 59, 60, 61, 62, 63, 64, 65, 66, 67, 68] (by decide +kernel) (by decide +kernel)
set_option maxRecDepth 20000 in
theorem gX11_way_X2_hasPlace : GoodIn wsX11_way (wsV RX11 153 RX2 yX2_hasPlace wsX2_hasPlace) := goodIn_app (goodIn_of _ (by decide +kernel)) ggX11_way_X2_hasPlace
set_option maxRecDepth 20000 in
theorem ggX11_way_X8_placeOn : GoodIn wsX11_way wsX8_placeOn := goodIn_r _ [13, 14, 15, 16, 17, 18, 19, 12, 20, 21, 22, 23, 24, 25, 26, 27, 6, 28, 29, 30, 31, 32, 33, 34, 35, 36, 37, 38, 39, 40, 41, 42, 43, 44, 69, 70, 71, 51, 52, 53, 54, 55, 56, 57, 58, 59, 60, 61, 62, 63, 64, 65, 66, 67, 68] (by decide +kernel) (by decide +kernel)
set_option maxRecDepth 20000 in
theorem gX11_way_X8_placeOn : GoodIn wsX11_way (wsV RX11 160 RX8 yX8_placeOn wsX8_placeOn) := goodIn_app (goodIn_of _ (by decide +kernel)) ggX11_way_X8_placeOn
theorem dX11_way_0 : decode cX11_way 0 = .ok (.aload_n 0, 1) := by decide +kernel
theorem dX11_way_1 : decode cX11_way 1 = .ok (.getfield 10, 3) := by decide +kernel
theorem dX11_way_4 : decode cX11_way 4 = .ok (.iload_n 1, 1) := by decide +kernel
theorem dX11_way_5 : decode cX11_way 5 = .ok (.invokevirtual 153, 3) := by decide +kernel
theorem dX11_way_8 : decode cX11_way 8 = .ok (.ifCond .eq 27, 3) := by decide +kernel
theorem dX11_way_11 : decode cX11_way 11 = .ok (.aload_n 0, 1) := by decide +kernel
theorem dX11_way_12 : decode cX11_way 12 = .ok (.getfield 10, 3) := by decide +kernel
theorem dX11_way_15 : decode cX11_way 15 = .ok (.iload_n 2, 1) := by decide +kernel
theorem dX11_way_16 : decode cX11_way 16 = .ok (.invokevirtual 153, 3) := by decide +kernel
theorem dX11_way_19 : decode cX11_way 19 = .ok (.ifCond .eq 16, 3) := by decide +kernel
theorem dX11_way_22 : decode cX11_way 22 = .ok (.aload_n 0, 1) := by decide +kernel
theorem dX11_way_23 : decode cX11_way 23 = .ok (.getfield 21, 3) := by decide +kernel
theorem dX11_way_26 : decode cX11_way 26 = .ok (.iload_n 1, 1) := by decide +kernel
theorem dX11_way_27 : decode cX11_way 27 = .ok (.iload_n 2, 1) := by decide +kernel
theorem dX11_way_28 : decode cX11_way 28 = .ok (.iload_n 3, 1) := by decide +kernel
theorem dX11_way_29 : decode cX11_way 29 = .ok (.invokevirtual 160, 3) := by decide +kernel
theorem dX11_way_32 : decode cX11_way 32 = .ok (.goto 4, 3) := by decide +kernel
theorem dX11_way_35 : decode cX11_way 35 = .ok (.iconst (-1), 1) := by decide +kernel
theorem dX11_way_36 : decode cX11_way 36 = .ok (.ireturn, 1) := by decide +kernel
set_option maxRecDepth 20000 in
theorem ggX11_span_X8_spanOfTaps : GoodIn wsX11_span wsX8_spanOfTaps := goodIn_r _ [6, 7, 8, 9, 10, 11, 12, 13, 14, 15, 16, 17, 18, 19, 20, 21, 22, 5, 23, 24, 25, 26, 27, 28, 29, 30, 31, 32, 33, 34, 35, 36, 37, 38, 39, 40, 41, 42, 43, 44, 45, 46, 47, 48, 49, 50, 51, 52, 53, 60, 61, 62, 63, 64, 65, 66, 67, 68, 69, 70, 71, 72, 73, 74, 75, 76, 77, 78, 79, 80] (by decide +kernel) (by decide +kernel)
set_option maxRecDepth 20000 in
theorem gX11_span_X8_spanOfTaps : GoodIn wsX11_span (wsV RX11 163 RX8 yX8_spanOfTaps wsX8_spanOfTaps) := goodIn_app (goodIn_of _ (by decide +kernel)) ggX11_span_X8_spanOfTaps
theorem dX11_span_0 : decode cX11_span 0 = .ok (.aload_n 0, 1) := by decide +kernel
theorem dX11_span_1 : decode cX11_span 1 = .ok (.getfield 21, 3) := by decide +kernel
theorem dX11_span_4 : decode cX11_span 4 = .ok (.invokevirtual 163, 3) := by decide +kernel
theorem dX11_span_7 : decode cX11_span 7 = .ok (.ireturn, 1) := by decide +kernel
set_option maxRecDepth 20000 in
theorem ggX11_least_X6_leastTag : GoodIn wsX11_least wsX6_leastTag := goodIn_r _ [6, 7, 8, 9, 10, 11, 12, 5, 13, 14, 15, 16, 17, 18, 19, 20, 21, 22, 23, 24, 25, 26, 27, 28, 29, 30, 31, 32, 33, 34, 35, 36, 37, 38, 39, 40, 41, 42, 43, 44, 45, 46, 47, 48, 49, 50, 51, 52, 53, 54, 55, 56, 57, 58, 59, 60, 61, 62, 63, 64, 65, 72, 73, 74, 75, 76, 77, 78, 79, 80, 81, 82, 83, 84, 85, 86, 87, 88, 89, 90, 91, 92, 93, 94, 95, 96, 97, 98] (by decide +kernel) (by decide +kernel)
set_option maxRecDepth 20000 in
theorem gX11_least_X6_leastTag : GoodIn wsX11_least (wsV RX11 166 RX6 yX6_leastTag wsX6_leastTag) := goodIn_app (goodIn_of _ (by decide +kernel)) ggX11_least_X6_leastTag
theorem dX11_least_0 : decode cX11_least 0 = .ok (.aload_n 0, 1) := by decide +kernel
theorem dX11_least_1 : decode cX11_least 1 = .ok (.getfield 28, 3) := by decide +kernel
theorem dX11_least_4 : decode cX11_least 4 = .ok (.invokevirtual 166, 3) := by decide +kernel
theorem dX11_least_7 : decode cX11_least 7 = .ok (.ireturn, 1) := by decide +kernel
set_option maxRecDepth 20000 in
theorem ggX11_many_X6_howManyBest : GoodIn wsX11_many wsX6_howManyBest := goodIn_r _ [6, 7, 8, 9, 10, 5, 11, 12, 13, 14, 15, 16, 17, 18, 19, 20, 21, 22, 23, 24, 25, 26, 27, 28, 29, 30, 31, 32, 33, 34, 35, 36, 37, 38, 39, 40, 41, 42, 43, 44, 45, 46, 47, 48, 49, 50, 51, 52, 53, 54, 55, 56, 57, 58, 59, 60, 61, 62, 63, 64, 71, 72, 73, 74, 75, 76, 77, 78, 79, 80, 81, 82, 83, 84, 85, 86, 87, 88, 89, 90, 91, 92, 93, 94, 95, 96, 97] (by decide +kernel) (by decide +kernel)
set_option maxRecDepth 20000 in
theorem gX11_many_X6_howManyBest : GoodIn wsX11_many (wsV RX11 169 RX6 yX6_howManyBest wsX6_howManyBest) := goodIn_app (goodIn_of _ (by decide +kernel)) ggX11_many_X6_howManyBest
theorem dX11_many_0 : decode cX11_many 0 = .ok (.aload_n 0, 1) := by decide +kernel
theorem dX11_many_1 : decode cX11_many 1 = .ok (.getfield 28, 3) := by decide +kernel
theorem dX11_many_4 : decode cX11_many 4 = .ok (.invokevirtual 169, 3) := by decide +kernel
theorem dX11_many_7 : decode cX11_many 7 = .ok (.ireturn, 1) := by decide +kernel
set_option maxRecDepth 20000 in
theorem ggX11_best_X6_streetOfBest : GoodIn wsX11_best wsX6_streetOfBest := goodIn_r _ [6, 7, 8, 9, 10, 11, 12, 5, 13, 14, 15, 16, 17, 18, 19, 20, 21, 22, 23, 24, 25, 26, 27, 28, 29, 30, 31, 32, 33, 34, 35, 36, 37, 38, 39, 40, 41, 42, 43, 44, 45, 46, 47, 48, 49, 50, 51, 52, 53, 54, 55, 56, 57, 58, 59, 60, 61, 62, 63, 64, 71, 72, 73, 74, 75, 76, 77, 78, 79, 80, 81, 82, 83, 84, 85, 86, 87, 88, 89, 90, 91, 92, 93, 94, 95, 96, 97] (by decide +kernel) (by decide +kernel)
set_option maxRecDepth 20000 in
theorem gX11_best_X6_streetOfBest : GoodIn wsX11_best (wsV RX11 172 RX6 yX6_streetOfBest wsX6_streetOfBest) := goodIn_app (goodIn_of _ (by decide +kernel)) ggX11_best_X6_streetOfBest
theorem dX11_best_0 : decode cX11_best 0 = .ok (.aload_n 0, 1) := by decide +kernel
theorem dX11_best_1 : decode cX11_best 1 = .ok (.getfield 28, 3) := by decide +kernel
theorem dX11_best_4 : decode cX11_best 4 = .ok (.iload_n 1, 1) := by decide +kernel
theorem dX11_best_5 : decode cX11_best 5 = .ok (.iload_n 2, 1) := by decide +kernel
theorem dX11_best_6 : decode cX11_best 6 = .ok (.invokevirtual 172, 3) := by decide +kernel
theorem dX11_best_9 : decode cX11_best 9 = .ok (.ireturn, 1) := by decide +kernel
set_option maxRecDepth 20000 in
theorem ggX11_must_X2_hasStreet : GoodIn wsX11_must wsX2_hasStreet := goodIn_r _ [7, 8, 78, 79, 80, 81, 82, 83, 84, 85, 86, 87, 88, 89, 90, 91, 92, 93, 94, 95] (by decide +kernel) (by decide +kernel)
set_option maxRecDepth 20000 in
theorem gX11_must_X2_hasStreet : GoodIn wsX11_must (wsV RX11 85 RX2 yX2_hasStreet wsX2_hasStreet) := goodIn_app (goodIn_of _ (by decide +kernel)) ggX11_must_X2_hasStreet
set_option maxRecDepth 20000 in
theorem ggX11_must_X6_useInBest : GoodIn wsX11_must wsX6_useInBest := goodIn_r _ [13, 14, 15, 16, 17, 18, 19, 12, 20, 21, 22, 23, 24, 25, 26, 27, 28, 29, 30, 31, 32, 33, 34, 35, 36, 37, 38, 39, 40, 41, 42, 43, 44, 45, 46, 47, 48, 49, 50, 51, 52, 53, 54, 55, 56, 57, 58, 59, 60, 61, 62, 63, 64, 65, 66, 67, 68, 69, 70, 71, 96, 97, 98, 99, 100, 101, 102, 103, 104, 78, 79, 80, 81, 82, 83, 84, 85, 86, 87, 88, 89, 90, 91, 92, 93, 94, 95] (by decide +kernel) (by decide +kernel)
set_option maxRecDepth 20000 in
theorem gX11_must_X6_useInBest : GoodIn wsX11_must (wsV RX11 175 RX6 yX6_useInBest wsX6_useInBest) := goodIn_app (goodIn_of _ (by decide +kernel)) ggX11_must_X6_useInBest
theorem dX11_must_0 : decode cX11_must 0 = .ok (.aload_n 0, 1) := by decide +kernel
theorem dX11_must_1 : decode cX11_must 1 = .ok (.getfield 10, 3) := by decide +kernel
theorem dX11_must_4 : decode cX11_must 4 = .ok (.iload_n 1, 1) := by decide +kernel
theorem dX11_must_5 : decode cX11_must 5 = .ok (.invokevirtual 85, 3) := by decide +kernel
theorem dX11_must_8 : decode cX11_must 8 = .ok (.ifCond .eq 14, 3) := by decide +kernel
theorem dX11_must_11 : decode cX11_must 11 = .ok (.aload_n 0, 1) := by decide +kernel
theorem dX11_must_12 : decode cX11_must 12 = .ok (.getfield 28, 3) := by decide +kernel
theorem dX11_must_15 : decode cX11_must 15 = .ok (.iload_n 1, 1) := by decide +kernel
theorem dX11_must_16 : decode cX11_must 16 = .ok (.invokevirtual 175, 3) := by decide +kernel
theorem dX11_must_19 : decode cX11_must 19 = .ok (.goto 4, 3) := by decide +kernel
theorem dX11_must_22 : decode cX11_must 22 = .ok (.iconst (-1), 1) := by decide +kernel
theorem dX11_must_23 : decode cX11_must 23 = .ok (.ireturn, 1) := by decide +kernel
set_option maxRecDepth 20000 in
theorem ggX11_most_X6_mostWorth : GoodIn wsX11_most wsX6_mostWorth := goodIn_r _ [6, 7, 8, 9, 10, 11, 5, 12, 13, 14, 15, 16, 17, 18, 19, 20, 21, 22, 23, 24, 25, 26, 27, 28, 29, 30, 31, 32, 33, 34, 35, 36, 37, 38, 39, 40, 41, 42, 43, 44, 45, 46, 47, 48, 49, 50, 51, 52, 53, 54, 55, 56, 57, 58, 59, 60, 61, 62, 63, 64, 65, 72, 73, 74, 75, 76, 77, 78, 79, 80, 81, 82, 83, 84, 85, 86, 87, 88, 89, 90, 91, 92, 93, 94, 95, 96, 97, 98] (by decide +kernel) (by decide +kernel)
set_option maxRecDepth 20000 in
theorem gX11_most_X6_mostWorth : GoodIn wsX11_most (wsV RX11 178 RX6 yX6_mostWorth wsX6_mostWorth) := goodIn_app (goodIn_of _ (by decide +kernel)) ggX11_most_X6_mostWorth
theorem dX11_most_0 : decode cX11_most 0 = .ok (.aload_n 0, 1) := by decide +kernel
theorem dX11_most_1 : decode cX11_most 1 = .ok (.getfield 28, 3) := by decide +kernel
theorem dX11_most_4 : decode cX11_most 4 = .ok (.iload_n 1, 1) := by decide +kernel
theorem dX11_most_5 : decode cX11_most 5 = .ok (.invokevirtual 178, 3) := by decide +kernel
theorem dX11_most_8 : decode cX11_most 8 = .ok (.ireturn, 1) := by decide +kernel
set_option maxRecDepth 20000 in
theorem ggX11_lay_X2_hasStreet : GoodIn wsX11_lay wsX2_hasStreet := goodIn_r _ [6, 7, 32, 33, 34, 35, 36, 37, 38, 39, 40, 41, 42, 43, 44, 45, 46, 47, 48, 49] (by decide +kernel) (by decide +kernel)
set_option maxRecDepth 20000 in
theorem gX11_lay_X2_hasStreet : GoodIn wsX11_lay (wsV RX11 85 RX2 yX2_hasStreet wsX2_hasStreet) := goodIn_app (goodIn_of _ (by decide +kernel)) ggX11_lay_X2_hasStreet
set_option maxRecDepth 20000 in
theorem ggX11_lay_X2_isThere : GoodIn wsX11_lay wsX2_isThere := goodIn_r _ [11, 12, 13, 14, 15, 32, 33, 34, 35, 36, 37, 38, 39, 40, 41, 42, 43, 44, 45, 46, 47, 48, 49] (by decide +kernel) (by decide +kernel)
set_option maxRecDepth 20000 in
theorem gX11_lay_X2_isThere : GoodIn wsX11_lay (wsV RX11 88 RX2 yX2_isThere wsX2_isThere) := goodIn_app (goodIn_of _ (by decide +kernel)) ggX11_lay_X2_isThere
set_option maxRecDepth 20000 in
theorem ggX11_lay_X11_refused : GoodIn wsX11_lay wsX11_refused := goodIn_r _ [19, 20, 26, 27, 28, 29, 30, 31] (by decide +kernel) (by decide +kernel)
set_option maxRecDepth 20000 in
theorem gX11_lay_X11_refused : GoodIn wsX11_lay (wsV RX11 57 RX11 yX11_refused wsX11_refused) := goodIn_app (goodIn_of _ (by decide +kernel)) ggX11_lay_X11_refused
set_option maxRecDepth 20000 in
theorem ggX11_lay_X11_bitAt : GoodIn wsX11_lay wsX11_bitAt := goodIn_r _ [15] (by decide +kernel) (by decide +kernel)
set_option maxRecDepth 20000 in
theorem gX11_lay_X11_bitAt : GoodIn wsX11_lay (va_wsS RX11 130 yX11_bitAt wsX11_bitAt) := goodIn_app (goodIn_of _ (by decide +kernel)) ggX11_lay_X11_bitAt
set_option maxRecDepth 20000 in
theorem ggX11_lay_X11_done : GoodIn wsX11_lay wsX11_done := goodIn_r _ [25, 20, 26, 27, 28, 29, 30, 31] (by decide +kernel) (by decide +kernel)
set_option maxRecDepth 20000 in
theorem gX11_lay_X11_done : GoodIn wsX11_lay (wsV RX11 71 RX11 yX11_done wsX11_done) := goodIn_app (goodIn_of _ (by decide +kernel)) ggX11_lay_X11_done
theorem dX11_lay_0 : decode cX11_lay 0 = .ok (.aload_n 0, 1) := by decide +kernel
theorem dX11_lay_1 : decode cX11_lay 1 = .ok (.getfield 10, 3) := by decide +kernel
theorem dX11_lay_4 : decode cX11_lay 4 = .ok (.iload_n 1, 1) := by decide +kernel
theorem dX11_lay_5 : decode cX11_lay 5 = .ok (.invokevirtual 85, 3) := by decide +kernel
theorem dX11_lay_8 : decode cX11_lay 8 = .ok (.ifCond .eq 14, 3) := by decide +kernel
theorem dX11_lay_11 : decode cX11_lay 11 = .ok (.aload_n 0, 1) := by decide +kernel
theorem dX11_lay_12 : decode cX11_lay 12 = .ok (.getfield 10, 3) := by decide +kernel
theorem dX11_lay_15 : decode cX11_lay 15 = .ok (.iload_n 1, 1) := by decide +kernel
theorem dX11_lay_16 : decode cX11_lay 16 = .ok (.invokevirtual 88, 3) := by decide +kernel
theorem dX11_lay_19 : decode cX11_lay 19 = .ok (.ifCond .ne 9, 3) := by decide +kernel
theorem dX11_lay_22 : decode cX11_lay 22 = .ok (.aload_n 0, 1) := by decide +kernel
theorem dX11_lay_23 : decode cX11_lay 23 = .ok (.iconst 1, 1) := by decide +kernel
theorem dX11_lay_24 : decode cX11_lay 24 = .ok (.invokevirtual 57, 3) := by decide +kernel
theorem dX11_lay_27 : decode cX11_lay 27 = .ok (.ireturn, 1) := by decide +kernel
theorem dX11_lay_28 : decode cX11_lay 28 = .ok (.aload_n 0, 1) := by decide +kernel
theorem dX11_lay_29 : decode cX11_lay 29 = .ok (.getfield 10, 3) := by decide +kernel
theorem dX11_lay_32 : decode cX11_lay 32 = .ok (.dup, 1) := by decide +kernel
theorem dX11_lay_33 : decode cX11_lay 33 = .ok (.getfield 133, 3) := by decide +kernel
theorem dX11_lay_36 : decode cX11_lay 36 = .ok (.iconst 1, 1) := by decide +kernel
theorem dX11_lay_37 : decode cX11_lay 37 = .ok (.iload_n 1, 1) := by decide +kernel
theorem dX11_lay_38 : decode cX11_lay 38 = .ok (.ishl, 1) := by decide +kernel
theorem dX11_lay_39 : decode cX11_lay 39 = .ok (.ixor, 1) := by decide +kernel
theorem dX11_lay_40 : decode cX11_lay 40 = .ok (.putfield 133, 3) := by decide +kernel
theorem dX11_lay_43 : decode cX11_lay 43 = .ok (.aload_n 0, 1) := by decide +kernel
theorem dX11_lay_44 : decode cX11_lay 44 = .ok (.aload_n 0, 1) := by decide +kernel
theorem dX11_lay_45 : decode cX11_lay 45 = .ok (.getfield 10, 3) := by decide +kernel
theorem dX11_lay_48 : decode cX11_lay 48 = .ok (.getfield 133, 3) := by decide +kernel
theorem dX11_lay_51 : decode cX11_lay 51 = .ok (.iload_n 1, 1) := by decide +kernel
theorem dX11_lay_52 : decode cX11_lay 52 = .ok (.invokestatic 130, 3) := by decide +kernel
theorem dX11_lay_55 : decode cX11_lay 55 = .ok (.invokevirtual 71, 3) := by decide +kernel
theorem dX11_lay_58 : decode cX11_lay 58 = .ok (.ireturn, 1) := by decide +kernel
set_option maxRecDepth 20000 in
theorem ggX11_clear_J6_bitCount_0f7a4 : GoodIn wsX11_clear wsJ6_bitCount_0f7a4 := goodIn_r _ [5, 6, 7, 8] (by decide +kernel) (by decide +kernel)
set_option maxRecDepth 20000 in
theorem gX11_clear_J6_bitCount_0f7a4 : GoodIn wsX11_clear (va_wsS RX11 136 yJ6_bitCount_0f7a4 wsJ6_bitCount_0f7a4) := goodIn_app (goodIn_of _ (by decide +kernel)) ggX11_clear_J6_bitCount_0f7a4
set_option maxRecDepth 20000 in
theorem ggX11_clear_X11_done : GoodIn wsX11_clear wsX11_done := goodIn_r _ [13, 14, 15, 16, 17, 18, 19, 20] (by decide +kernel) (by decide +kernel)
set_option maxRecDepth 20000 in
theorem gX11_clear_X11_done : GoodIn wsX11_clear (wsV RX11 71 RX11 yX11_done wsX11_done) := goodIn_app (goodIn_of _ (by decide +kernel)) ggX11_clear_X11_done
theorem dX11_clear_0 : decode cX11_clear 0 = .ok (.aload_n 0, 1) := by decide +kernel
theorem dX11_clear_1 : decode cX11_clear 1 = .ok (.getfield 10, 3) := by decide +kernel
theorem dX11_clear_4 : decode cX11_clear 4 = .ok (.getfield 133, 3) := by decide +kernel
theorem dX11_clear_7 : decode cX11_clear 7 = .ok (.invokestatic 136, 3) := by decide +kernel
theorem dX11_clear_10 : decode cX11_clear 10 = .ok (.istore_n 1, 1) := by decide +kernel
theorem dX11_clear_11 : decode cX11_clear 11 = .ok (.aload_n 0, 1) := by decide +kernel
theorem dX11_clear_12 : decode cX11_clear 12 = .ok (.getfield 10, 3) := by decide +kernel
theorem dX11_clear_15 : decode cX11_clear 15 = .ok (.iconst 0, 1) := by decide +kernel
theorem dX11_clear_16 : decode cX11_clear 16 = .ok (.putfield 133, 3) := by decide +kernel
theorem dX11_clear_19 : decode cX11_clear 19 = .ok (.aload_n 0, 1) := by decide +kernel
theorem dX11_clear_20 : decode cX11_clear 20 = .ok (.iload_n 1, 1) := by decide +kernel
theorem dX11_clear_21 : decode cX11_clear 21 = .ok (.invokevirtual 71, 3) := by decide +kernel
theorem dX11_clear_24 : decode cX11_clear 24 = .ok (.ireturn, 1) := by decide +kernel
set_option maxRecDepth 20000 in
theorem ggX11_why_X6_flawOf : GoodIn wsX11_why wsX6_flawOf := goodIn_r _ [7, 8, 9, 10, 11, 12, 13, 14, 15, 6, 16, 17, 18, 19, 20, 21, 22, 23, 24, 25, 26, 27, 28, 29, 30, 31, 56, 57, 58, 59, 60, 61, 62, 63, 64, 38, 39, 40, 41, 42, 43, 44, 45, 46, 47, 48, 49, 50, 51, 52, 53, 54, 55] (by decide +kernel) (by decide +kernel)
set_option maxRecDepth 20000 in
theorem gX11_why_X6_flawOf : GoodIn wsX11_why (wsV RX11 181 RX6 yX6_flawOf wsX6_flawOf) := goodIn_app (goodIn_of _ (by decide +kernel)) ggX11_why_X6_flawOf
theorem dX11_why_0 : decode cX11_why 0 = .ok (.aload_n 0, 1) := by decide +kernel
theorem dX11_why_1 : decode cX11_why 1 = .ok (.getfield 28, 3) := by decide +kernel
theorem dX11_why_4 : decode cX11_why 4 = .ok (.aload_n 0, 1) := by decide +kernel
theorem dX11_why_5 : decode cX11_why 5 = .ok (.getfield 10, 3) := by decide +kernel
theorem dX11_why_8 : decode cX11_why 8 = .ok (.getfield 133, 3) := by decide +kernel
theorem dX11_why_11 : decode cX11_why 11 = .ok (.invokevirtual 181, 3) := by decide +kernel
theorem dX11_why_14 : decode cX11_why 14 = .ok (.ireturn, 1) := by decide +kernel
set_option maxRecDepth 20000 in
theorem ggX11_tag_X6_flawOf : GoodIn wsX11_tag wsX6_flawOf := goodIn_r _ [8, 9, 10, 11, 12, 13, 14, 15, 16, 7, 17, 18, 19, 20, 21, 22, 23, 24, 25, 26, 27, 28, 29, 30, 31, 32, 61, 62, 63, 64, 65, 66, 67, 68, 69, 43, 44, 45, 46, 47, 48, 49, 50, 51, 52, 53, 54, 55, 56, 57, 58, 59, 60] (by decide +kernel) (by decide +kernel)
set_option maxRecDepth 20000 in
theorem gX11_tag_X6_flawOf : GoodIn wsX11_tag (wsV RX11 181 RX6 yX6_flawOf wsX6_flawOf) := goodIn_app (goodIn_of _ (by decide +kernel)) ggX11_tag_X6_flawOf
set_option maxRecDepth 20000 in
theorem ggX11_tag_X6_tagOf : GoodIn wsX11_tag wsX6_tagOf := goodIn_r _ [36, 9, 18, 19, 20, 7, 21, 11, 12, 13, 61, 62, 63, 64, 65, 66, 67, 68, 69, 43, 44, 45, 46, 47, 48, 49, 50, 51, 52, 53, 54, 55, 56, 57, 58, 59, 60] (by decide +kernel) (by decide +kernel)
set_option maxRecDepth 20000 in
theorem gX11_tag_X6_tagOf : GoodIn wsX11_tag (wsV RX11 184 RX6 yX6_tagOf wsX6_tagOf) := goodIn_app (goodIn_of _ (by decide +kernel)) ggX11_tag_X6_tagOf
theorem dX11_tag_0 : decode cX11_tag 0 = .ok (.aload_n 0, 1) := by decide +kernel
theorem dX11_tag_1 : decode cX11_tag 1 = .ok (.getfield 28, 3) := by decide +kernel
theorem dX11_tag_4 : decode cX11_tag 4 = .ok (.aload_n 0, 1) := by decide +kernel
theorem dX11_tag_5 : decode cX11_tag 5 = .ok (.getfield 10, 3) := by decide +kernel
theorem dX11_tag_8 : decode cX11_tag 8 = .ok (.getfield 133, 3) := by decide +kernel
theorem dX11_tag_11 : decode cX11_tag 11 = .ok (.invokevirtual 181, 3) := by decide +kernel
theorem dX11_tag_14 : decode cX11_tag 14 = .ok (.ifCond .ne 20, 3) := by decide +kernel
theorem dX11_tag_17 : decode cX11_tag 17 = .ok (.aload_n 0, 1) := by decide +kernel
theorem dX11_tag_18 : decode cX11_tag 18 = .ok (.getfield 28, 3) := by decide +kernel
theorem dX11_tag_21 : decode cX11_tag 21 = .ok (.aload_n 0, 1) := by decide +kernel
theorem dX11_tag_22 : decode cX11_tag 22 = .ok (.getfield 10, 3) := by decide +kernel
theorem dX11_tag_25 : decode cX11_tag 25 = .ok (.getfield 133, 3) := by decide +kernel
theorem dX11_tag_28 : decode cX11_tag 28 = .ok (.invokevirtual 184, 3) := by decide +kernel
theorem dX11_tag_31 : decode cX11_tag 31 = .ok (.goto 5, 3) := by decide +kernel
theorem dX11_tag_34 : decode cX11_tag 34 = .ok (.ldc 159, 2) := by decide +kernel
theorem dX11_tag_36 : decode cX11_tag 36 = .ok (.ireturn, 1) := by decide +kernel
set_option maxRecDepth 20000 in
theorem ggX11_trim_X6_flawOf : GoodIn wsX11_trim wsX6_flawOf := goodIn_r _ [7, 8, 9, 10, 11, 12, 13, 14, 15, 6, 16, 17, 18, 19, 20, 21, 22, 23, 24, 25, 26, 27, 28, 29, 30, 31, 84, 85, 86, 87, 88, 89, 90, 91, 92, 66, 67, 68, 69, 70, 71, 72, 73, 74, 75, 76, 77, 78, 79, 80, 81, 82, 83] (by decide +kernel) (by decide +kernel)
set_option maxRecDepth 20000 in
theorem gX11_trim_X6_flawOf : GoodIn wsX11_trim (wsV RX11 181 RX6 yX6_flawOf wsX6_flawOf) := goodIn_app (goodIn_of _ (by decide +kernel)) ggX11_trim_X6_flawOf
set_option maxRecDepth 20000 in
theorem ggX11_trim_X11_refused : GoodIn wsX11_trim wsX11_refused := goodIn_r _ [35, 36, 60, 61, 62, 63, 64, 65] (by decide +kernel) (by decide +kernel)
set_option maxRecDepth 20000 in
theorem gX11_trim_X11_refused : GoodIn wsX11_trim (wsV RX11 57 RX11 yX11_refused wsX11_refused) := goodIn_app (goodIn_of _ (by decide +kernel)) ggX11_trim_X11_refused
set_option maxRecDepth 20000 in
theorem ggX11_trim_J6_bitCount_0f7a4 : GoodIn wsX11_trim wsJ6_bitCount_0f7a4 := goodIn_r _ [28, 29, 30, 31] (by decide +kernel) (by decide +kernel)
set_option maxRecDepth 20000 in
theorem gX11_trim_J6_bitCount_0f7a4 : GoodIn wsX11_trim (va_wsS RX11 136 yJ6_bitCount_0f7a4 wsJ6_bitCount_0f7a4) := goodIn_app (goodIn_of _ (by decide +kernel)) ggX11_trim_J6_bitCount_0f7a4
set_option maxRecDepth 20000 in
theorem ggX11_trim_X6_trimmed : GoodIn wsX11_trim wsX6_trimmed := goodIn_r _ [41, 42, 43, 44, 6, 45, 8, 46, 47, 48, 49, 50, 51, 10, 11, 12, 25, 26, 27, 28, 29, 30, 31, 52, 53, 54, 55, 84, 85, 86, 87, 88, 89, 90, 91, 92, 66, 67, 68, 69, 70, 71, 72, 73, 74, 75, 76, 77, 78, 79, 80, 81, 82, 83] (by decide +kernel) (by decide +kernel)
set_option maxRecDepth 20000 in
theorem gX11_trim_X6_trimmed : GoodIn wsX11_trim (wsV RX11 187 RX6 yX6_trimmed wsX6_trimmed) := goodIn_app (goodIn_of _ (by decide +kernel)) ggX11_trim_X6_trimmed
set_option maxRecDepth 20000 in
theorem ggX11_trim_X11_done : GoodIn wsX11_trim wsX11_done := goodIn_r _ [59, 36, 60, 61, 62, 63, 64, 65] (by decide +kernel) (by decide +kernel)
set_option maxRecDepth 20000 in
theorem gX11_trim_X11_done : GoodIn wsX11_trim (wsV RX11 71 RX11 yX11_done wsX11_done) := goodIn_app (goodIn_of _ (by decide +kernel)) ggX11_trim_X11_done
theorem dX11_trim_0 : decode cX11_trim 0 = .ok (.aload_n 0, 1) := by decide +kernel
theorem dX11_trim_1 : decode cX11_trim 1 = .ok (.getfield 28, 3) := by decide +kernel
theorem dX11_trim_4 : decode cX11_trim 4 = .ok (.aload_n 0, 1) := by decide +kernel
theorem dX11_trim_5 : decode cX11_trim 5 = .ok (.getfield 10, 3) := by decide +kernel
theorem dX11_trim_8 : decode cX11_trim 8 = .ok (.getfield 133, 3) := by decide +kernel
theorem dX11_trim_11 : decode cX11_trim 11 = .ok (.invokevirtual 181, 3) := by decide +kernel
theorem dX11_trim_14 : decode cX11_trim 14 = .ok (.ifCond .eq 9, 3) := by decide +kernel
theorem dX11_trim_17 : decode cX11_trim 17 = .ok (.aload_n 0, 1) := by decide +kernel
theorem dX11_trim_18 : decode cX11_trim 18 = .ok (.iconst 3, 1) := by decide +kernel
theorem dX11_trim_19 : decode cX11_trim 19 = .ok (.invokevirtual 57, 3) := by decide +kernel
theorem dX11_trim_22 : decode cX11_trim 22 = .ok (.ireturn, 1) := by decide +kernel
theorem dX11_trim_23 : decode cX11_trim 23 = .ok (.aload_n 0, 1) := by decide +kernel
theorem dX11_trim_24 : decode cX11_trim 24 = .ok (.getfield 10, 3) := by decide +kernel
theorem dX11_trim_27 : decode cX11_trim 27 = .ok (.getfield 133, 3) := by decide +kernel
theorem dX11_trim_30 : decode cX11_trim 30 = .ok (.invokestatic 136, 3) := by decide +kernel
theorem dX11_trim_33 : decode cX11_trim 33 = .ok (.istore_n 1, 1) := by decide +kernel
theorem dX11_trim_34 : decode cX11_trim 34 = .ok (.aload_n 0, 1) := by decide +kernel
theorem dX11_trim_35 : decode cX11_trim 35 = .ok (.getfield 10, 3) := by decide +kernel
theorem dX11_trim_38 : decode cX11_trim 38 = .ok (.aload_n 0, 1) := by decide +kernel
theorem dX11_trim_39 : decode cX11_trim 39 = .ok (.getfield 28, 3) := by decide +kernel
theorem dX11_trim_42 : decode cX11_trim 42 = .ok (.aload_n 0, 1) := by decide +kernel
theorem dX11_trim_43 : decode cX11_trim 43 = .ok (.getfield 10, 3) := by decide +kernel
theorem dX11_trim_46 : decode cX11_trim 46 = .ok (.getfield 133, 3) := by decide +kernel
theorem dX11_trim_49 : decode cX11_trim 49 = .ok (.invokevirtual 187, 3) := by decide +kernel
theorem dX11_trim_52 : decode cX11_trim 52 = .ok (.putfield 133, 3) := by decide +kernel
theorem dX11_trim_55 : decode cX11_trim 55 = .ok (.aload_n 0, 1) := by decide +kernel
theorem dX11_trim_56 : decode cX11_trim 56 = .ok (.iload_n 1, 1) := by decide +kernel
theorem dX11_trim_57 : decode cX11_trim 57 = .ok (.aload_n 0, 1) := by decide +kernel
theorem dX11_trim_58 : decode cX11_trim 58 = .ok (.getfield 10, 3) := by decide +kernel
theorem dX11_trim_61 : decode cX11_trim 61 = .ok (.getfield 133, 3) := by decide +kernel
theorem dX11_trim_64 : decode cX11_trim 64 = .ok (.invokestatic 136, 3) := by decide +kernel
theorem dX11_trim_67 : decode cX11_trim 67 = .ok (.isub, 1) := by decide +kernel
theorem dX11_trim_68 : decode cX11_trim 68 = .ok (.invokevirtual 71, 3) := by decide +kernel
theorem dX11_trim_71 : decode cX11_trim 71 = .ok (.ireturn, 1) := by decide +kernel
set_option maxRecDepth 20000 in
theorem ggX11_better_X6_flawOf : GoodIn wsX11_better wsX6_flawOf := goodIn_r _ [7, 8, 9, 10, 11, 12, 13, 14, 15, 6, 16, 17, 18, 19, 20, 21, 22, 23, 24, 25, 26, 27, 28, 29, 30, 31, 81, 82, 83, 84, 85, 86, 87, 88, 89, 63, 64, 65, 66, 67, 68, 69, 70, 71, 72, 73, 74, 75, 76, 77, 78, 79, 80] (by decide +kernel) (by decide +kernel)
set_option maxRecDepth 20000 in
theorem gX11_better_X6_flawOf : GoodIn wsX11_better (wsV RX11 181 RX6 yX6_flawOf wsX6_flawOf) := goodIn_app (goodIn_of _ (by decide +kernel)) ggX11_better_X6_flawOf
set_option maxRecDepth 20000 in
theorem ggX11_better_X11_refused : GoodIn wsX11_better wsX11_refused := goodIn_r _ [35, 36, 57, 58, 59, 60, 61, 62] (by decide +kernel) (by decide +kernel)
set_option maxRecDepth 20000 in
theorem gX11_better_X11_refused : GoodIn wsX11_better (wsV RX11 57 RX11 yX11_refused wsX11_refused) := goodIn_app (goodIn_of _ (by decide +kernel)) ggX11_better_X11_refused
set_option maxRecDepth 20000 in
theorem ggX11_better_X6_tagOf : GoodIn wsX11_better wsX6_tagOf := goodIn_r _ [40, 8, 17, 18, 19, 6, 20, 10, 11, 12, 81, 82, 83, 84, 85, 86, 87, 88, 89, 63, 64, 65, 66, 67, 68, 69, 70, 71, 72, 73, 74, 75, 76, 77, 78, 79, 80] (by decide +kernel) (by decide +kernel)
set_option maxRecDepth 20000 in
theorem gX11_better_X6_tagOf : GoodIn wsX11_better (wsV RX11 184 RX6 yX6_tagOf wsX6_tagOf) := goodIn_app (goodIn_of _ (by decide +kernel)) ggX11_better_X6_tagOf
set_option maxRecDepth 20000 in
theorem ggX11_better_X6_swapped : GoodIn wsX11_better wsX6_swapped := goodIn_r _ [44, 8, 45, 38, 39, 6, 40, 17, 18, 19, 20, 10, 11, 12, 46, 47, 48, 49, 50, 51, 52, 4, 5, 7, 9, 13, 14, 15, 16, 21, 22, 23, 24, 25, 26, 27, 28, 29, 30, 31, 81, 82, 83, 84, 85, 86, 87, 88, 89, 63, 64, 65, 66, 67, 68, 69, 70, 71, 72, 73, 74, 75, 76, 77, 78, 79, 80] (by decide +kernel) (by decide +kernel)
set_option maxRecDepth 20000 in
theorem gX11_better_X6_swapped : GoodIn wsX11_better (wsV RX11 190 RX6 yX6_swapped wsX6_swapped) := goodIn_app (goodIn_of _ (by decide +kernel)) ggX11_better_X6_swapped
set_option maxRecDepth 20000 in
theorem ggX11_better_X11_done : GoodIn wsX11_better wsX11_done := goodIn_r _ [56, 36, 57, 58, 59, 60, 61, 62] (by decide +kernel) (by decide +kernel)
set_option maxRecDepth 20000 in
theorem gX11_better_X11_done : GoodIn wsX11_better (wsV RX11 71 RX11 yX11_done wsX11_done) := goodIn_app (goodIn_of _ (by decide +kernel)) ggX11_better_X11_done
theorem dX11_better_0 : decode cX11_better 0 = .ok (.aload_n 0, 1) := by decide +kernel
theorem dX11_better_1 : decode cX11_better 1 = .ok (.getfield 28, 3) := by decide +kernel
theorem dX11_better_4 : decode cX11_better 4 = .ok (.aload_n 0, 1) := by decide +kernel
theorem dX11_better_5 : decode cX11_better 5 = .ok (.getfield 10, 3) := by decide +kernel
theorem dX11_better_8 : decode cX11_better 8 = .ok (.getfield 133, 3) := by decide +kernel
theorem dX11_better_11 : decode cX11_better 11 = .ok (.invokevirtual 181, 3) := by decide +kernel
theorem dX11_better_14 : decode cX11_better 14 = .ok (.ifCond .eq 9, 3) := by decide +kernel
theorem dX11_better_17 : decode cX11_better 17 = .ok (.aload_n 0, 1) := by decide +kernel
theorem dX11_better_18 : decode cX11_better 18 = .ok (.iconst 3, 1) := by decide +kernel
theorem dX11_better_19 : decode cX11_better 19 = .ok (.invokevirtual 57, 3) := by decide +kernel
theorem dX11_better_22 : decode cX11_better 22 = .ok (.ireturn, 1) := by decide +kernel
theorem dX11_better_23 : decode cX11_better 23 = .ok (.aload_n 0, 1) := by decide +kernel
theorem dX11_better_24 : decode cX11_better 24 = .ok (.getfield 28, 3) := by decide +kernel
theorem dX11_better_27 : decode cX11_better 27 = .ok (.aload_n 0, 1) := by decide +kernel
theorem dX11_better_28 : decode cX11_better 28 = .ok (.getfield 10, 3) := by decide +kernel
theorem dX11_better_31 : decode cX11_better 31 = .ok (.getfield 133, 3) := by decide +kernel
theorem dX11_better_34 : decode cX11_better 34 = .ok (.invokevirtual 184, 3) := by decide +kernel
theorem dX11_better_37 : decode cX11_better 37 = .ok (.istore_n 1, 1) := by decide +kernel
theorem dX11_better_38 : decode cX11_better 38 = .ok (.aload_n 0, 1) := by decide +kernel
theorem dX11_better_39 : decode cX11_better 39 = .ok (.getfield 10, 3) := by decide +kernel
theorem dX11_better_42 : decode cX11_better 42 = .ok (.aload_n 0, 1) := by decide +kernel
theorem dX11_better_43 : decode cX11_better 43 = .ok (.getfield 28, 3) := by decide +kernel
theorem dX11_better_46 : decode cX11_better 46 = .ok (.aload_n 0, 1) := by decide +kernel
theorem dX11_better_47 : decode cX11_better 47 = .ok (.getfield 10, 3) := by decide +kernel
theorem dX11_better_50 : decode cX11_better 50 = .ok (.getfield 133, 3) := by decide +kernel
theorem dX11_better_53 : decode cX11_better 53 = .ok (.invokevirtual 190, 3) := by decide +kernel
theorem dX11_better_56 : decode cX11_better 56 = .ok (.putfield 133, 3) := by decide +kernel
theorem dX11_better_59 : decode cX11_better 59 = .ok (.aload_n 0, 1) := by decide +kernel
theorem dX11_better_60 : decode cX11_better 60 = .ok (.iload_n 1, 1) := by decide +kernel
theorem dX11_better_61 : decode cX11_better 61 = .ok (.aload_n 0, 1) := by decide +kernel
theorem dX11_better_62 : decode cX11_better 62 = .ok (.getfield 28, 3) := by decide +kernel
theorem dX11_better_65 : decode cX11_better 65 = .ok (.aload_n 0, 1) := by decide +kernel
theorem dX11_better_66 : decode cX11_better 66 = .ok (.getfield 10, 3) := by decide +kernel
theorem dX11_better_69 : decode cX11_better 69 = .ok (.getfield 133, 3) := by decide +kernel
theorem dX11_better_72 : decode cX11_better 72 = .ok (.invokevirtual 184, 3) := by decide +kernel
theorem dX11_better_75 : decode cX11_better 75 = .ok (.isub, 1) := by decide +kernel
theorem dX11_better_76 : decode cX11_better 76 = .ok (.invokevirtual 71, 3) := by decide +kernel
theorem dX11_better_79 : decode cX11_better 79 = .ok (.ireturn, 1) := by decide +kernel
set_option maxRecDepth 20000 in
theorem ggX11_walls_X7_howMany : GoodIn wsX11_walls wsX7_howMany := goodIn_r _ [6, 7, 8, 9, 10, 11, 12, 5, 13, 14, 15, 16, 17, 18, 19, 20, 21, 22, 23, 24, 25, 26, 27, 28, 29, 30, 31, 32, 33, 34, 35, 36, 37, 38, 39, 40, 41, 42, 43, 44, 45, 46, 47, 48, 49, 50, 51, 52, 53, 54, 55, 56, 57, 58, 59, 60, 61, 62, 63, 64, 65, 66, 67, 68, 69, 70, 71, 72, 73, 74, 75, 76, 77, 78, 85, 86, 87, 88, 89, 90, 91, 92, 93, 94, 95, 96, 97, 98, 99, 100, 101, 102, 103, 104, 105, 106, 107, 108, 109, 110] (by decide +kernel) (by decide +kernel)
set_option maxRecDepth 20000 in
theorem gX11_walls_X7_howMany : GoodIn wsX11_walls (wsV RX11 193 RX7 yX7_howMany wsX7_howMany) := goodIn_app (goodIn_of _ (by decide +kernel)) ggX11_walls_X7_howMany
theorem dX11_walls_0 : decode cX11_walls 0 = .ok (.aload_n 0, 1) := by decide +kernel
theorem dX11_walls_1 : decode cX11_walls 1 = .ok (.getfield 35, 3) := by decide +kernel
theorem dX11_walls_4 : decode cX11_walls 4 = .ok (.invokevirtual 193, 3) := by decide +kernel
theorem dX11_walls_7 : decode cX11_walls 7 = .ok (.ireturn, 1) := by decide +kernel
set_option maxRecDepth 20000 in
theorem ggX11_wall_X7_toldOf : GoodIn wsX11_wall wsX7_toldOf := goodIn_r _ [6, 7, 8, 9, 10, 11, 12, 13, 5, 14, 15, 16, 17, 18, 19, 20, 21, 22, 23, 24, 25, 26, 27, 28, 29, 30, 31, 32, 33, 34, 35, 36, 37, 38, 39, 40, 41, 42, 43, 44, 45, 46, 47, 48, 49, 50, 51, 52, 53, 54, 55, 56, 57, 58, 59, 60, 61, 62, 63, 64, 65, 66, 67, 68, 69, 70, 71, 72, 73, 74, 75, 76, 77, 78, 85, 86, 87, 88, 89, 90, 91, 92, 93, 94, 95, 96, 97, 98, 99, 100, 101, 102, 103, 104, 105, 106, 107, 108, 109, 110] (by decide +kernel) (by decide +kernel)
set_option maxRecDepth 20000 in
theorem gX11_wall_X7_toldOf : GoodIn wsX11_wall (wsV RX11 196 RX7 yX7_toldOf wsX7_toldOf) := goodIn_app (goodIn_of _ (by decide +kernel)) ggX11_wall_X7_toldOf
theorem dX11_wall_0 : decode cX11_wall 0 = .ok (.aload_n 0, 1) := by decide +kernel
theorem dX11_wall_1 : decode cX11_wall 1 = .ok (.getfield 35, 3) := by decide +kernel
theorem dX11_wall_4 : decode cX11_wall 4 = .ok (.iload_n 1, 1) := by decide +kernel
theorem dX11_wall_5 : decode cX11_wall 5 = .ok (.iload_n 2, 1) := by decide +kernel
theorem dX11_wall_6 : decode cX11_wall 6 = .ok (.invokevirtual 196, 3) := by decide +kernel
theorem dX11_wall_9 : decode cX11_wall 9 = .ok (.ireturn, 1) := by decide +kernel
set_option maxRecDepth 20000 in
theorem ggX11_bound_X7_sumOfShares : GoodIn wsX11_bound wsX7_sumOfShares := goodIn_r _ [6, 7, 8, 9, 10, 11, 12, 13, 5, 14, 15, 16, 17, 18, 19, 20, 21, 22, 23, 24, 25, 26, 27, 28, 29, 30, 31, 32, 33, 34, 35, 36, 37, 38, 39, 40, 41, 42, 43, 44, 45, 46, 47, 48, 49, 50, 51, 52, 53, 54, 55, 56, 57, 58, 59, 60, 61, 62, 63, 64, 65, 66, 67, 68, 69, 70, 71, 72, 73, 74, 75, 76, 77, 78, 79, 86, 87, 88, 89, 90, 91, 92, 93, 94, 95, 96, 97, 98, 99, 100, 101, 102, 103, 104, 105, 106, 107, 108, 109, 110, 111] (by decide +kernel) (by decide +kernel)
set_option maxRecDepth 20000 in
theorem gX11_bound_X7_sumOfShares : GoodIn wsX11_bound (wsV RX11 199 RX7 yX7_sumOfShares wsX7_sumOfShares) := goodIn_app (goodIn_of _ (by decide +kernel)) ggX11_bound_X7_sumOfShares
theorem dX11_bound_0 : decode cX11_bound 0 = .ok (.aload_n 0, 1) := by decide +kernel
theorem dX11_bound_1 : decode cX11_bound 1 = .ok (.getfield 35, 3) := by decide +kernel
theorem dX11_bound_4 : decode cX11_bound 4 = .ok (.invokevirtual 199, 3) := by decide +kernel
theorem dX11_bound_7 : decode cX11_bound 7 = .ok (.ireturn, 1) := by decide +kernel
set_option maxRecDepth 20000 in
theorem ggX11_act_X2_placeAt : GoodIn wsX11_act wsX2_placeAt := goodIn_r _ [7, 8, 9, 10, 11, 6, 12, 13, 168, 169, 170, 171, 172, 173, 174, 175, 176, 177, 178, 179, 180, 181, 182, 183, 184, 185] (by decide +kernel) (by decide +kernel)
set_option maxRecDepth 20000 in
theorem gX11_act_X2_placeAt : GoodIn wsX11_act (wsV RX11 101 RX2 yX2_placeAt wsX2_placeAt) := goodIn_app (goodIn_of _ (by decide +kernel)) ggX11_act_X2_placeAt
set_option maxRecDepth 20000 in
theorem ggX11_act_X11_refused : GoodIn wsX11_act wsX11_refused := goodIn_r _ [18, 19, 142, 143, 144, 145, 146, 147] (by decide +kernel) (by decide +kernel)
set_option maxRecDepth 20000 in
theorem gX11_act_X11_refused : GoodIn wsX11_act (wsV RX11 57 RX11 yX11_refused wsX11_refused) := goodIn_app (goodIn_of _ (by decide +kernel)) ggX11_act_X11_refused
set_option maxRecDepth 20000 in
theorem ggX11_act_X2_streetsAt : GoodIn wsX11_act wsX2_streetsAt := goodIn_r _ [23, 24, 25, 26, 27, 28, 29, 30, 31, 168, 169, 170, 171, 172, 173, 174, 175, 176, 177, 178, 179, 180, 181, 182, 183, 184, 185] (by decide +kernel) (by decide +kernel)
set_option maxRecDepth 20000 in
theorem gX11_act_X2_streetsAt : GoodIn wsX11_act (wsV RX11 114 RX2 yX2_streetsAt wsX2_streetsAt) := goodIn_app (goodIn_of _ (by decide +kernel)) ggX11_act_X2_streetsAt
set_option maxRecDepth 20000 in
theorem ggX11_act_X3_join : GoodIn wsX11_act wsX3_join := goodIn_r _ [37, 38, 39, 40, 41, 42, 43, 44, 45, 46, 148, 149, 150, 151, 152, 153, 154, 155, 156, 157, 158, 159, 160, 161, 162, 163, 164, 165, 166, 167, 186, 187] (by decide +kernel) (by decide +kernel)
set_option maxRecDepth 20000 in
theorem gX11_act_X3_join_u205X0 : GoodIn wsX11_act (va_wsU RX11 205 RX0 "DripLines$Place" ⟨"DripLines$Place", "join", "(I)I"⟩ yX3_join wsX3_join) := goodIn_app (goodIn_of _ (by decide +kernel)) ggX11_act_X3_join
set_option maxRecDepth 20000 in
theorem gX11_act_X3_join : GoodIn wsX11_act (wsV RX11 205 RX3 yX3_join wsX3_join) := goodIn_app (goodIn_of _ (by decide +kernel)) ggX11_act_X3_join
set_option maxRecDepth 20000 in
theorem gX11_act_X3_join_u205X4 : GoodIn wsX11_act (va_wsU RX11 205 RX4 "DripLines$Place" ⟨"DripLines$Place", "join", "(I)I"⟩ yX3_join wsX3_join) := goodIn_app (goodIn_of _ (by decide +kernel)) ggX11_act_X3_join
set_option maxRecDepth 20000 in
theorem ggX11_act_X9_join : GoodIn wsX11_act wsX9_join := goodIn_r _ [54, 55, 56, 57, 41, 42, 43, 44, 45, 46, 148, 149, 150, 151, 152, 153, 154, 155, 156, 157, 158, 159, 160, 161, 162, 163, 164, 165, 166, 167, 186, 187] (by decide +kernel) (by decide +kernel)
set_option maxRecDepth 20000 in
theorem gX11_act_X9_join_u205X9 : GoodIn wsX11_act (va_wsO RX11 205 RX9 "DripLines$Place" ⟨"DripLines$Place", "join", "(I)I"⟩ yX9_join wsX9_join) := goodIn_app (goodIn_of _ (by decide +kernel)) ggX11_act_X9_join
set_option maxRecDepth 20000 in
theorem gX11_act_X3_join_u205X10 : GoodIn wsX11_act (va_wsU RX11 205 RX10 "DripLines$Place" ⟨"DripLines$Place", "join", "(I)I"⟩ yX3_join wsX3_join) := goodIn_app (goodIn_of _ (by decide +kernel)) ggX11_act_X3_join
set_option maxRecDepth 20000 in
theorem ggX11_act_X11_done : GoodIn wsX11_act wsX11_done := goodIn_r _ [62, 19, 142, 143, 144, 145, 146, 147] (by decide +kernel) (by decide +kernel)
set_option maxRecDepth 20000 in
theorem gX11_act_X11_done : GoodIn wsX11_act (wsV RX11 71 RX11 yX11_done wsX11_done) := goodIn_app (goodIn_of _ (by decide +kernel)) ggX11_act_X11_done
set_option maxRecDepth 20000 in
theorem ggX11_act_X0_cost : GoodIn wsX11_act wsX0_cost := goodIn_r _ [69, 70, 71, 72, 73, 74, 41, 42, 43, 44, 45, 46, 75, 64, 76, 77, 36, 78, 38, 40, 79, 33, 34, 35, 37, 39, 80, 48, 49, 50, 51, 52, 53, 54, 55, 56, 57, 58, 148, 149, 150, 151, 152, 153, 154, 155, 156, 157, 158, 159, 160, 161, 162, 163, 164, 165, 166, 167, 186, 187] (by decide +kernel) (by decide +kernel)
set_option maxRecDepth 20000 in
theorem gX11_act_X0_cost_u208X0 : GoodIn wsX11_act (va_wsO RX11 208 RX0 "DripLines$Place" ⟨"DripLines$Place", "cost", "(I)I"⟩ yX0_cost wsX0_cost) := goodIn_app (goodIn_of _ (by decide +kernel)) ggX11_act_X0_cost
set_option maxRecDepth 20000 in
theorem ggX11_act_X3_cost : GoodIn wsX11_act wsX3_cost := goodIn_r _ [78, 38, 40, 41, 42, 43, 44, 45, 46, 79, 33, 34, 35, 36, 37, 39, 80, 48, 49, 50, 51, 52, 53, 54, 55, 56, 57, 58, 148, 149, 150, 151, 152, 153, 154, 155, 156, 157, 158, 159, 160, 161, 162, 163, 164, 165, 166, 167, 186, 187] (by decide +kernel) (by decide +kernel)
set_option maxRecDepth 20000 in
theorem gX11_act_X3_cost : GoodIn wsX11_act (wsV RX11 208 RX3 yX3_cost wsX3_cost) := goodIn_app (goodIn_of _ (by decide +kernel)) ggX11_act_X3_cost
set_option maxRecDepth 20000 in
theorem ggX11_act_X4_cost : GoodIn wsX11_act wsX4_cost := goodIn_r _ [86, 87, 88, 89, 41, 42, 43, 44, 45, 46, 90, 64, 91, 77, 36, 78, 38, 40, 79, 33, 34, 35, 37, 39, 80, 48, 49, 50, 51, 52, 53, 54, 55, 56, 57, 58, 148, 149, 150, 151, 152, 153, 154, 155, 156, 157, 158, 159, 160, 161, 162, 163, 164, 165, 166, 167, 186, 187] (by decide +kernel) (by decide +kernel)
set_option maxRecDepth 20000 in
theorem gX11_act_X4_cost_u208X4 : GoodIn wsX11_act (va_wsO RX11 208 RX4 "DripLines$Place" ⟨"DripLines$Place", "cost", "(I)I"⟩ yX4_cost wsX4_cost) := goodIn_app (goodIn_of _ (by decide +kernel)) ggX11_act_X4_cost
set_option maxRecDepth 20000 in
theorem gX11_act_X4_cost_u208X9 : GoodIn wsX11_act (va_wsO RX11 208 RX9 "DripLines$Place" ⟨"DripLines$Place", "cost", "(I)I"⟩ yX4_cost wsX4_cost) := goodIn_app (goodIn_of _ (by decide +kernel)) ggX11_act_X4_cost
set_option maxRecDepth 20000 in
theorem gX11_act_X3_cost_u208X10 : GoodIn wsX11_act (va_wsU RX11 208 RX10 "DripLines$Place" ⟨"DripLines$Place", "cost", "(I)I"⟩ yX3_cost wsX3_cost) := goodIn_app (goodIn_of _ (by decide +kernel)) ggX11_act_X3_cost
set_option maxRecDepth 20000 in
theorem ggX11_act_X3_ask : GoodIn wsX11_act wsX3_ask := goodIn_r _ [98, 38, 99, 40, 41, 42, 43, 44, 45, 46, 148, 149, 150, 151, 152, 153, 154, 155, 156, 157, 158, 159, 160, 161, 162, 163, 164, 165, 166, 167, 186, 187] (by decide +kernel) (by decide +kernel)
set_option maxRecDepth 20000 in
theorem gX11_act_X3_ask_u210X0 : GoodIn wsX11_act (va_wsU RX11 210 RX0 "DripLines$Place" ⟨"DripLines$Place", "ask", "(I)I"⟩ yX3_ask wsX3_ask) := goodIn_app (goodIn_of _ (by decide +kernel)) ggX11_act_X3_ask
set_option maxRecDepth 20000 in
theorem gX11_act_X3_ask : GoodIn wsX11_act (wsV RX11 210 RX3 yX3_ask wsX3_ask) := goodIn_app (goodIn_of _ (by decide +kernel)) ggX11_act_X3_ask
set_option maxRecDepth 20000 in
theorem gX11_act_X3_ask_u210X4 : GoodIn wsX11_act (va_wsU RX11 210 RX4 "DripLines$Place" ⟨"DripLines$Place", "ask", "(I)I"⟩ yX3_ask wsX3_ask) := goodIn_app (goodIn_of _ (by decide +kernel)) ggX11_act_X3_ask
set_option maxRecDepth 20000 in
theorem ggX11_act_X9_ask : GoodIn wsX11_act wsX9_ask := goodIn_r _ [106, 55, 56, 57, 41, 42, 43, 44, 45, 46, 148, 149, 150, 151, 152, 153, 154, 155, 156, 157, 158, 159, 160, 161, 162, 163, 164, 165, 166, 167, 186, 187] (by decide +kernel) (by decide +kernel)
set_option maxRecDepth 20000 in
theorem gX11_act_X9_ask_u210X9 : GoodIn wsX11_act (va_wsO RX11 210 RX9 "DripLines$Place" ⟨"DripLines$Place", "ask", "(I)I"⟩ yX9_ask wsX9_ask) := goodIn_app (goodIn_of _ (by decide +kernel)) ggX11_act_X9_ask
set_option maxRecDepth 20000 in
theorem ggX11_act_X10_ask : GoodIn wsX11_act wsX10_ask := goodIn_r _ [110, 111, 112, 113, 114, 115, 41, 42, 43, 44, 45, 46, 116, 95, 117, 97, 36, 98, 38, 99, 40, 148, 149, 150, 151, 152, 153, 154, 155, 156, 157, 158, 159, 160, 161, 162, 163, 164, 165, 166, 167, 186, 187] (by decide +kernel) (by decide +kernel)
set_option maxRecDepth 20000 in
theorem gX11_act_X10_ask_u210X10 : GoodIn wsX11_act (va_wsO RX11 210 RX10 "DripLines$Place" ⟨"DripLines$Place", "ask", "(I)I"⟩ yX10_ask wsX10_ask) := goodIn_app (goodIn_of _ (by decide +kernel)) ggX11_act_X10_ask
set_option maxRecDepth 20000 in
theorem ggX11_act_X0_tell : GoodIn wsX11_act wsX0_tell := goodIn_r _ [123, 70, 71, 74, 41, 42, 43, 44, 45, 46, 124, 125, 126, 97, 36, 98, 38, 99, 40, 127, 119, 76, 128, 129, 130, 64, 65, 66, 67, 68, 69, 72, 73, 75, 77, 78, 79, 33, 34, 35, 37, 39, 80, 48, 49, 50, 51, 52, 53, 54, 55, 56, 57, 58, 131, 82, 83, 84, 85, 86, 87, 88, 89, 90, 91, 92, 93, 132, 95, 96, 133, 101, 102, 103, 104, 105, 106, 107, 108, 109, 110, 111, 112, 113, 114, 115, 116, 117, 148, 149, 150, 151, 152, 153, 154, 155, 156, 157, 158, 159, 160, 161, 162, 163, 164, 165, 166, 167, 186, 187] (by decide +kernel) (by decide +kernel)
set_option maxRecDepth 20000 in
theorem gX11_act_X0_tell_u213X0 : GoodIn wsX11_act (va_wsO RX11 213 RX0 "DripLines$Place" ⟨"DripLines$Place", "tell", "(I)I"⟩ yX0_tell wsX0_tell) := goodIn_app (goodIn_of _ (by decide +kernel)) ggX11_act_X0_tell
set_option maxRecDepth 20000 in
theorem ggX11_act_X3_tell : GoodIn wsX11_act wsX3_tell := goodIn_r _ [129, 38, 40, 41, 42, 43, 44, 45, 46, 130, 64, 65, 66, 67, 68, 69, 70, 71, 72, 73, 74, 75, 76, 77, 36, 78, 79, 33, 34, 35, 37, 39, 80, 48, 49, 50, 51, 52, 53, 54, 55, 56, 57, 58, 131, 82, 83, 84, 85, 86, 87, 88, 89, 90, 91, 92, 93, 132, 95, 96, 97, 98, 99, 133, 101, 102, 103, 104, 105, 106, 107, 108, 109, 110, 111, 112, 113, 114, 115, 116, 117, 148, 149, 150, 151, 152, 153, 154, 155, 156, 157, 158, 159, 160, 161, 162, 163, 164, 165, 166, 167, 186, 187] (by decide +kernel) (by decide +kernel)
set_option maxRecDepth 20000 in
theorem gX11_act_X3_tell : GoodIn wsX11_act (wsV RX11 213 RX3 yX3_tell wsX3_tell) := goodIn_app (goodIn_of _ (by decide +kernel)) ggX11_act_X3_tell
set_option maxRecDepth 20000 in
theorem ggX11_act_X4_tell : GoodIn wsX11_act wsX4_tell := goodIn_r _ [138, 87, 88, 89, 41, 42, 43, 44, 45, 46, 139, 119, 91, 128, 36, 129, 38, 40, 130, 64, 65, 66, 67, 68, 69, 70, 71, 72, 73, 74, 75, 76, 77, 78, 79, 33, 34, 35, 37, 39, 80, 48, 49, 50, 51, 52, 53, 54, 55, 56, 57, 58, 131, 82, 83, 84, 85, 86, 90, 92, 93, 132, 95, 96, 97, 98, 99, 133, 101, 102, 103, 104, 105, 106, 107, 108, 109, 110, 111, 112, 113, 114, 115, 116, 117, 148, 149, 150, 151, 152, 153, 154, 155, 156, 157, 158, 159, 160, 161, 162, 163, 164, 165, 166, 167, 186, 187] (by decide +kernel) (by decide +kernel)
set_option maxRecDepth 20000 in
theorem gX11_act_X4_tell_u213X4 : GoodIn wsX11_act (va_wsO RX11 213 RX4 "DripLines$Place" ⟨"DripLines$Place", "tell", "(I)I"⟩ yX4_tell wsX4_tell) := goodIn_app (goodIn_of _ (by decide +kernel)) ggX11_act_X4_tell
set_option maxRecDepth 20000 in
theorem gX11_act_X4_tell_u213X9 : GoodIn wsX11_act (va_wsO RX11 213 RX9 "DripLines$Place" ⟨"DripLines$Place", "tell", "(I)I"⟩ yX4_tell wsX4_tell) := goodIn_app (goodIn_of _ (by decide +kernel)) ggX11_act_X4_tell
set_option maxRecDepth 20000 in
theorem gX11_act_X3_tell_u213X10 : GoodIn wsX11_act (va_wsU RX11 213 RX10 "DripLines$Place" ⟨"DripLines$Place", "tell", "(I)I"⟩ yX3_tell wsX3_tell) := goodIn_app (goodIn_of _ (by decide +kernel)) ggX11_act_X3_tell
theorem dX11_act_0 : decode cX11_act 0 = .ok (.aload_n 0, 1) := by decide +kernel
theorem dX11_act_1 : decode cX11_act 1 = .ok (.getfield 10, 3) := by decide +kernel
theorem dX11_act_4 : decode cX11_act 4 = .ok (.iload_n 1, 1) := by decide +kernel
theorem dX11_act_5 : decode cX11_act 5 = .ok (.invokevirtual 101, 3) := by decide +kernel
theorem dX11_act_8 : decode cX11_act 8 = .ok (.astore 4, 2) := by decide +kernel
theorem dX11_act_10 : decode cX11_act 10 = .ok (.aload 4, 2) := by decide +kernel
theorem dX11_act_12 : decode cX11_act 12 = .ok (.ifnull 12, 3) := by decide +kernel
theorem dX11_act_15 : decode cX11_act 15 = .ok (.iload_n 2, 1) := by decide +kernel
theorem dX11_act_16 : decode cX11_act 16 = .ok (.ifCond .lt 8, 3) := by decide +kernel
theorem dX11_act_19 : decode cX11_act 19 = .ok (.iload_n 2, 1) := by decide +kernel
theorem dX11_act_20 : decode cX11_act 20 = .ok (.iconst 3, 1) := by decide +kernel
theorem dX11_act_21 : decode cX11_act 21 = .ok (.if_icmp .le 9, 3) := by decide +kernel
theorem dX11_act_24 : decode cX11_act 24 = .ok (.aload_n 0, 1) := by decide +kernel
theorem dX11_act_25 : decode cX11_act 25 = .ok (.iconst 1, 1) := by decide +kernel
theorem dX11_act_26 : decode cX11_act 26 = .ok (.invokevirtual 57, 3) := by decide +kernel
theorem dX11_act_29 : decode cX11_act 29 = .ok (.ireturn, 1) := by decide +kernel
theorem dX11_act_30 : decode cX11_act 30 = .ok (.aload 4, 2) := by decide +kernel
theorem dX11_act_32 : decode cX11_act 32 = .ok (.aload_n 0, 1) := by decide +kernel
theorem dX11_act_33 : decode cX11_act 33 = .ok (.getfield 10, 3) := by decide +kernel
theorem dX11_act_36 : decode cX11_act 36 = .ok (.iload_n 1, 1) := by decide +kernel
theorem dX11_act_37 : decode cX11_act 37 = .ok (.invokevirtual 114, 3) := by decide +kernel
theorem dX11_act_40 : decode cX11_act 40 = .ok (.putfield 202, 3) := by decide +kernel
theorem dX11_act_43 : decode cX11_act 43 = .ok (.aload_n 0, 1) := by decide +kernel
theorem dX11_act_44 : decode cX11_act 44 = .ok (.getfield 10, 3) := by decide +kernel
theorem dX11_act_47 : decode cX11_act 47 = .ok (.getfield 144, 3) := by decide +kernel
theorem dX11_act_50 : decode cX11_act 50 = .ok (.iconst 0, 1) := by decide +kernel
theorem dX11_act_51 : decode cX11_act 51 = .ok (.putfield 148, 3) := by decide +kernel
theorem dX11_act_54 : decode cX11_act 54 = .ok (.iload_n 2, 1) := by decide +kernel
theorem dX11_act_55 : decode cX11_act 55 = .ok (.tableswitch 58 0 2 #[25, 36, 47], 25) := by decide +kernel
theorem dX11_act_80 : decode cX11_act 80 = .ok (.aload_n 0, 1) := by decide +kernel
theorem dX11_act_81 : decode cX11_act 81 = .ok (.aload 4, 2) := by decide +kernel
theorem dX11_act_83 : decode cX11_act 83 = .ok (.iload_n 3, 1) := by decide +kernel
theorem dX11_act_84 : decode cX11_act 84 = .ok (.invokevirtual 205, 3) := by decide +kernel
theorem dX11_act_87 : decode cX11_act 87 = .ok (.invokevirtual 71, 3) := by decide +kernel
theorem dX11_act_90 : decode cX11_act 90 = .ok (.ireturn, 1) := by decide +kernel
theorem dX11_act_91 : decode cX11_act 91 = .ok (.aload_n 0, 1) := by decide +kernel
theorem dX11_act_92 : decode cX11_act 92 = .ok (.aload 4, 2) := by decide +kernel
theorem dX11_act_94 : decode cX11_act 94 = .ok (.iload_n 3, 1) := by decide +kernel
theorem dX11_act_95 : decode cX11_act 95 = .ok (.invokevirtual 208, 3) := by decide +kernel
theorem dX11_act_98 : decode cX11_act 98 = .ok (.invokevirtual 71, 3) := by decide +kernel
theorem dX11_act_101 : decode cX11_act 101 = .ok (.ireturn, 1) := by decide +kernel
theorem dX11_act_102 : decode cX11_act 102 = .ok (.aload_n 0, 1) := by decide +kernel
theorem dX11_act_103 : decode cX11_act 103 = .ok (.aload 4, 2) := by decide +kernel
theorem dX11_act_105 : decode cX11_act 105 = .ok (.iload_n 3, 1) := by decide +kernel
theorem dX11_act_106 : decode cX11_act 106 = .ok (.invokevirtual 210, 3) := by decide +kernel
theorem dX11_act_109 : decode cX11_act 109 = .ok (.invokevirtual 71, 3) := by decide +kernel
theorem dX11_act_112 : decode cX11_act 112 = .ok (.ireturn, 1) := by decide +kernel
theorem dX11_act_113 : decode cX11_act 113 = .ok (.aload_n 0, 1) := by decide +kernel
theorem dX11_act_114 : decode cX11_act 114 = .ok (.aload 4, 2) := by decide +kernel
theorem dX11_act_116 : decode cX11_act 116 = .ok (.iload_n 3, 1) := by decide +kernel
theorem dX11_act_117 : decode cX11_act 117 = .ok (.invokevirtual 213, 3) := by decide +kernel
theorem dX11_act_120 : decode cX11_act 120 = .ok (.invokevirtual 71, 3) := by decide +kernel
theorem dX11_act_123 : decode cX11_act 123 = .ok (.ireturn, 1) := by decide +kernel
set_option maxRecDepth 20000 in
theorem ggX11_trace_X5_bodyAt : GoodIn wsX11_trace wsX5_bodyAt := goodIn_r _ [6, 7, 8, 33, 34] (by decide +kernel) (by decide +kernel)
set_option maxRecDepth 20000 in
theorem gX11_trace_X5_bodyAt : GoodIn wsX11_trace (wsV RX11 216 RX5 yX5_bodyAt wsX5_bodyAt) := goodIn_app (goodIn_of _ (by decide +kernel)) ggX11_trace_X5_bodyAt
theorem dX11_trace_0 : decode cX11_trace 0 = .ok (.aload_n 0, 1) := by decide +kernel
theorem dX11_trace_1 : decode cX11_trace 1 = .ok (.getfield 10, 3) := by decide +kernel
theorem dX11_trace_4 : decode cX11_trace 4 = .ok (.getfield 144, 3) := by decide +kernel
theorem dX11_trace_7 : decode cX11_trace 7 = .ok (.iload_n 1, 1) := by decide +kernel
theorem dX11_trace_8 : decode cX11_trace 8 = .ok (.invokevirtual 216, 3) := by decide +kernel
theorem dX11_trace_11 : decode cX11_trace 11 = .ok (.ireturn, 1) := by decide +kernel
set_option maxRecDepth 20000 in
theorem ggX11_map_X11_isMap : GoodIn wsX11_map wsX11_isMap := goodIn_r _ [5] (by decide +kernel) (by decide +kernel)
set_option maxRecDepth 20000 in
theorem gX11_map_X11_isMap : GoodIn wsX11_map (va_wsS RX11 219 yX11_isMap wsX11_isMap) := goodIn_app (goodIn_of _ (by decide +kernel)) ggX11_map_X11_isMap
set_option maxRecDepth 20000 in
theorem ggX11_map_X11_refused : GoodIn wsX11_map wsX11_refused := goodIn_r _ [9, 10, 27, 28, 29, 30, 31, 32] (by decide +kernel) (by decide +kernel)
set_option maxRecDepth 20000 in
theorem gX11_map_X11_refused : GoodIn wsX11_map (wsV RX11 57 RX11 yX11_refused wsX11_refused) := goodIn_app (goodIn_of _ (by decide +kernel)) ggX11_map_X11_refused
set_option maxRecDepth 20000 in
theorem ggX11_map_X1_make : GoodIn wsX11_map wsX1_make := goodIn_r _ [15, 16, 17, 18, 19, 20, 21, 22, 33, 34, 35] (by decide +kernel) (by decide +kernel)
set_option maxRecDepth 20000 in
theorem gX11_map_X1_make : GoodIn wsX11_map (wsV RX11 222 RX1 yX1_make wsX1_make) := goodIn_app (goodIn_of _ (by decide +kernel)) ggX11_map_X1_make
set_option maxRecDepth 20000 in
theorem ggX11_map_X11_done : GoodIn wsX11_map wsX11_done := goodIn_r _ [26, 10, 27, 28, 29, 30, 31, 32] (by decide +kernel) (by decide +kernel)
set_option maxRecDepth 20000 in
theorem gX11_map_X11_done : GoodIn wsX11_map (wsV RX11 71 RX11 yX11_done wsX11_done) := goodIn_app (goodIn_of _ (by decide +kernel)) ggX11_map_X11_done
theorem dX11_map_0 : decode cX11_map 0 = .ok (.iload_n 1, 1) := by decide +kernel
theorem dX11_map_1 : decode cX11_map 1 = .ok (.invokestatic 219, 3) := by decide +kernel
theorem dX11_map_4 : decode cX11_map 4 = .ok (.ifCond .eq 13, 3) := by decide +kernel
theorem dX11_map_7 : decode cX11_map 7 = .ok (.iload_n 2, 1) := by decide +kernel
theorem dX11_map_8 : decode cX11_map 8 = .ok (.iconst (-1), 1) := by decide +kernel
theorem dX11_map_9 : decode cX11_map 9 = .ok (.if_icmp .lt 8, 3) := by decide +kernel
theorem dX11_map_12 : decode cX11_map 12 = .ok (.iload_n 2, 1) := by decide +kernel
theorem dX11_map_13 : decode cX11_map 13 = .ok (.iconst 2, 1) := by decide +kernel
theorem dX11_map_14 : decode cX11_map 14 = .ok (.if_icmp .le 9, 3) := by decide +kernel
theorem dX11_map_17 : decode cX11_map 17 = .ok (.aload_n 0, 1) := by decide +kernel
theorem dX11_map_18 : decode cX11_map 18 = .ok (.iconst 1, 1) := by decide +kernel
theorem dX11_map_19 : decode cX11_map 19 = .ok (.invokevirtual 57, 3) := by decide +kernel
theorem dX11_map_22 : decode cX11_map 22 = .ok (.ireturn, 1) := by decide +kernel
theorem dX11_map_23 : decode cX11_map 23 = .ok (.iload_n 2, 1) := by decide +kernel
theorem dX11_map_24 : decode cX11_map 24 = .ok (.iconst (-1), 1) := by decide +kernel
theorem dX11_map_25 : decode cX11_map 25 = .ok (.if_icmp .eq 19, 3) := by decide +kernel
theorem dX11_map_28 : decode cX11_map 28 = .ok (.iload_n 3, 1) := by decide +kernel
theorem dX11_map_29 : decode cX11_map 29 = .ok (.ifCond .lt 9, 3) := by decide +kernel
theorem dX11_map_32 : decode cX11_map 32 = .ok (.iload_n 3, 1) := by decide +kernel
theorem dX11_map_33 : decode cX11_map 33 = .ok (.bipush 20, 2) := by decide +kernel
theorem dX11_map_35 : decode cX11_map 35 = .ok (.if_icmp .le 9, 3) := by decide +kernel
theorem dX11_map_38 : decode cX11_map 38 = .ok (.aload_n 0, 1) := by decide +kernel
theorem dX11_map_39 : decode cX11_map 39 = .ok (.iconst 1, 1) := by decide +kernel
theorem dX11_map_40 : decode cX11_map 40 = .ok (.invokevirtual 57, 3) := by decide +kernel
theorem dX11_map_43 : decode cX11_map 43 = .ok (.ireturn, 1) := by decide +kernel
theorem dX11_map_44 : decode cX11_map 44 = .ok (.aload_n 0, 1) := by decide +kernel
theorem dX11_map_45 : decode cX11_map 45 = .ok (.getfield 42, 3) := by decide +kernel
theorem dX11_map_48 : decode cX11_map 48 = .ok (.iload_n 1, 1) := by decide +kernel
theorem dX11_map_49 : decode cX11_map 49 = .ok (.iload_n 2, 1) := by decide +kernel
theorem dX11_map_50 : decode cX11_map 50 = .ok (.iload_n 2, 1) := by decide +kernel
theorem dX11_map_51 : decode cX11_map 51 = .ok (.iconst (-1), 1) := by decide +kernel
theorem dX11_map_52 : decode cX11_map 52 = .ok (.if_icmp .ne 7, 3) := by decide +kernel
theorem dX11_map_55 : decode cX11_map 55 = .ok (.iconst 0, 1) := by decide +kernel
theorem dX11_map_56 : decode cX11_map 56 = .ok (.goto 4, 3) := by decide +kernel
theorem dX11_map_59 : decode cX11_map 59 = .ok (.iload_n 3, 1) := by decide +kernel
theorem dX11_map_60 : decode cX11_map 60 = .ok (.invokevirtual 222, 3) := by decide +kernel
theorem dX11_map_63 : decode cX11_map 63 = .ok (.aload_n 0, 1) := by decide +kernel
theorem dX11_map_64 : decode cX11_map 64 = .ok (.iconst 1, 1) := by decide +kernel
theorem dX11_map_65 : decode cX11_map 65 = .ok (.invokevirtual 71, 3) := by decide +kernel
theorem dX11_map_68 : decode cX11_map 68 = .ok (.ireturn, 1) := by decide +kernel
set_option maxRecDepth 20000 in
theorem ggX11_cell_X11_isMap : GoodIn wsX11_cell wsX11_isMap := goodIn_r _ [5] (by decide +kernel) (by decide +kernel)
set_option maxRecDepth 20000 in
theorem gX11_cell_X11_isMap : GoodIn wsX11_cell (va_wsS RX11 219 yX11_isMap wsX11_isMap) := goodIn_app (goodIn_of _ (by decide +kernel)) ggX11_cell_X11_isMap
set_option maxRecDepth 20000 in
theorem ggX11_cell_X11_refused : GoodIn wsX11_cell wsX11_refused := goodIn_r _ [9, 10, 22, 23, 24, 25, 26, 27] (by decide +kernel) (by decide +kernel)
set_option maxRecDepth 20000 in
theorem gX11_cell_X11_refused : GoodIn wsX11_cell (wsV RX11 57 RX11 yX11_refused wsX11_refused) := goodIn_app (goodIn_of _ (by decide +kernel)) ggX11_cell_X11_refused
set_option maxRecDepth 20000 in
theorem ggX11_cell_X1_refusal : GoodIn wsX11_cell wsX1_refusal := goodIn_r _ [15, 16, 17, 28, 29, 30] (by decide +kernel) (by decide +kernel)
set_option maxRecDepth 20000 in
theorem gX11_cell_X1_refusal : GoodIn wsX11_cell (wsV RX11 229 RX1 yX1_refusal wsX1_refusal) := goodIn_app (goodIn_of _ (by decide +kernel)) ggX11_cell_X1_refusal
set_option maxRecDepth 20000 in
theorem ggX11_cell_X11_done : GoodIn wsX11_cell wsX11_done := goodIn_r _ [21, 10, 22, 23, 24, 25, 26, 27] (by decide +kernel) (by decide +kernel)
set_option maxRecDepth 20000 in
theorem gX11_cell_X11_done : GoodIn wsX11_cell (wsV RX11 71 RX11 yX11_done wsX11_done) := goodIn_app (goodIn_of _ (by decide +kernel)) ggX11_cell_X11_done
theorem dX11_cell_0 : decode cX11_cell 0 = .ok (.iload_n 1, 1) := by decide +kernel
theorem dX11_cell_1 : decode cX11_cell 1 = .ok (.invokestatic 219, 3) := by decide +kernel
theorem dX11_cell_4 : decode cX11_cell 4 = .ok (.ifCond .ne 9, 3) := by decide +kernel
theorem dX11_cell_7 : decode cX11_cell 7 = .ok (.aload_n 0, 1) := by decide +kernel
theorem dX11_cell_8 : decode cX11_cell 8 = .ok (.iconst 1, 1) := by decide +kernel
theorem dX11_cell_9 : decode cX11_cell 9 = .ok (.invokevirtual 57, 3) := by decide +kernel
theorem dX11_cell_12 : decode cX11_cell 12 = .ok (.ireturn, 1) := by decide +kernel
theorem dX11_cell_13 : decode cX11_cell 13 = .ok (.aload_n 0, 1) := by decide +kernel
theorem dX11_cell_14 : decode cX11_cell 14 = .ok (.getfield 42, 3) := by decide +kernel
theorem dX11_cell_17 : decode cX11_cell 17 = .ok (.iload_n 1, 1) := by decide +kernel
theorem dX11_cell_18 : decode cX11_cell 18 = .ok (.aload_n 0, 1) := by decide +kernel
theorem dX11_cell_19 : decode cX11_cell 19 = .ok (.getfield 42, 3) := by decide +kernel
theorem dX11_cell_22 : decode cX11_cell 22 = .ok (.getfield 226, 3) := by decide +kernel
theorem dX11_cell_25 : decode cX11_cell 25 = .ok (.iload_n 1, 1) := by decide +kernel
theorem dX11_cell_26 : decode cX11_cell 26 = .ok (.iaload, 1) := by decide +kernel
theorem dX11_cell_27 : decode cX11_cell 27 = .ok (.iload_n 2, 1) := by decide +kernel
theorem dX11_cell_28 : decode cX11_cell 28 = .ok (.iconst 1, 1) := by decide +kernel
theorem dX11_cell_29 : decode cX11_cell 29 = .ok (.invokevirtual 229, 3) := by decide +kernel
theorem dX11_cell_32 : decode cX11_cell 32 = .ok (.istore 4, 2) := by decide +kernel
theorem dX11_cell_34 : decode cX11_cell 34 = .ok (.iload 4, 2) := by decide +kernel
theorem dX11_cell_36 : decode cX11_cell 36 = .ok (.ifCond .eq 10, 3) := by decide +kernel
theorem dX11_cell_39 : decode cX11_cell 39 = .ok (.aload_n 0, 1) := by decide +kernel
theorem dX11_cell_40 : decode cX11_cell 40 = .ok (.iload 4, 2) := by decide +kernel
theorem dX11_cell_42 : decode cX11_cell 42 = .ok (.invokevirtual 57, 3) := by decide +kernel
theorem dX11_cell_45 : decode cX11_cell 45 = .ok (.ireturn, 1) := by decide +kernel
theorem dX11_cell_46 : decode cX11_cell 46 = .ok (.aload_n 0, 1) := by decide +kernel
theorem dX11_cell_47 : decode cX11_cell 47 = .ok (.getfield 42, 3) := by decide +kernel
theorem dX11_cell_50 : decode cX11_cell 50 = .ok (.getfield 233, 3) := by decide +kernel
theorem dX11_cell_53 : decode cX11_cell 53 = .ok (.iload_n 1, 1) := by decide +kernel
theorem dX11_cell_54 : decode cX11_cell 54 = .ok (.aaload, 1) := by decide +kernel
theorem dX11_cell_55 : decode cX11_cell 55 = .ok (.iload_n 2, 1) := by decide +kernel
theorem dX11_cell_56 : decode cX11_cell 56 = .ok (.aload_n 0, 1) := by decide +kernel
theorem dX11_cell_57 : decode cX11_cell 57 = .ok (.getfield 42, 3) := by decide +kernel
theorem dX11_cell_60 : decode cX11_cell 60 = .ok (.getfield 226, 3) := by decide +kernel
theorem dX11_cell_63 : decode cX11_cell 63 = .ok (.iload_n 1, 1) := by decide +kernel
theorem dX11_cell_64 : decode cX11_cell 64 = .ok (.iaload, 1) := by decide +kernel
theorem dX11_cell_65 : decode cX11_cell 65 = .ok (.ifCond .ne 8, 3) := by decide +kernel
theorem dX11_cell_68 : decode cX11_cell 68 = .ok (.iload_n 3, 1) := by decide +kernel
theorem dX11_cell_69 : decode cX11_cell 69 = .ok (.i2b, 1) := by decide +kernel
theorem dX11_cell_70 : decode cX11_cell 70 = .ok (.goto 4, 3) := by decide +kernel
theorem dX11_cell_73 : decode cX11_cell 73 = .ok (.iload_n 3, 1) := by decide +kernel
theorem dX11_cell_74 : decode cX11_cell 74 = .ok (.iastore, 1) := by decide +kernel
theorem dX11_cell_75 : decode cX11_cell 75 = .ok (.aload_n 0, 1) := by decide +kernel
theorem dX11_cell_76 : decode cX11_cell 76 = .ok (.iconst 1, 1) := by decide +kernel
theorem dX11_cell_77 : decode cX11_cell 77 = .ok (.invokevirtual 71, 3) := by decide +kernel
theorem dX11_cell_80 : decode cX11_cell 80 = .ok (.ireturn, 1) := by decide +kernel
set_option maxRecDepth 20000 in
theorem ggX11_fromMap_X11_isMap : GoodIn wsX11_fromMap wsX11_isMap := goodIn_r _ [6] (by decide +kernel) (by decide +kernel)
set_option maxRecDepth 20000 in
theorem gX11_fromMap_X11_isMap : GoodIn wsX11_fromMap (va_wsS RX11 219 yX11_isMap wsX11_isMap) := goodIn_app (goodIn_of _ (by decide +kernel)) ggX11_fromMap_X11_isMap
set_option maxRecDepth 20000 in
theorem ggX11_fromMap_X11_refused : GoodIn wsX11_fromMap wsX11_refused := goodIn_r _ [10, 11, 61, 62, 63, 64, 65, 66] (by decide +kernel) (by decide +kernel)
set_option maxRecDepth 20000 in
theorem gX11_fromMap_X11_refused : GoodIn wsX11_fromMap (wsV RX11 57 RX11 yX11_refused wsX11_refused) := goodIn_app (goodIn_of _ (by decide +kernel)) ggX11_fromMap_X11_refused
set_option maxRecDepth 20000 in
theorem ggX11_fromMap_X1_refusal : GoodIn wsX11_fromMap wsX1_refusal := goodIn_r _ [16, 17, 18, 85, 86, 87] (by decide +kernel) (by decide +kernel)
set_option maxRecDepth 20000 in
theorem gX11_fromMap_X1_refusal : GoodIn wsX11_fromMap (wsV RX11 229 RX1 yX1_refusal wsX1_refusal) := goodIn_app (goodIn_of _ (by decide +kernel)) ggX11_fromMap_X1_refusal
set_option maxRecDepth 20000 in
theorem ggX11_fromMap_X2_mayJoin : GoodIn wsX11_fromMap wsX2_mayJoin := goodIn_r _ [23, 24, 25, 26, 22, 27, 28, 29, 5, 30, 67, 68, 69, 70, 71, 72, 73, 74, 75, 76, 77, 78, 79, 80, 81, 82, 83, 84] (by decide +kernel) (by decide +kernel)
set_option maxRecDepth 20000 in
theorem gX11_fromMap_X2_mayJoin : GoodIn wsX11_fromMap (wsV RX11 74 RX2 yX2_mayJoin wsX2_mayJoin) := goodIn_app (goodIn_of _ (by decide +kernel)) ggX11_fromMap_X2_mayJoin
set_option maxRecDepth 20000 in
theorem ggX11_fromMap_X2_addStreet : GoodIn wsX11_fromMap wsX2_addStreet := goodIn_r _ [34, 35, 36, 37, 38, 39, 40, 41, 42, 22, 43, 44, 45, 46, 47, 48, 49, 50, 51, 52, 53, 54, 55, 56, 67, 68, 69, 70, 71, 72, 73, 74, 75, 76, 77, 78, 79, 80, 81, 82, 83, 84] (by decide +kernel) (by decide +kernel)
set_option maxRecDepth 20000 in
theorem gX11_fromMap_X2_addStreet : GoodIn wsX11_fromMap (wsV RX11 81 RX2 yX2_addStreet wsX2_addStreet) := goodIn_app (goodIn_of _ (by decide +kernel)) ggX11_fromMap_X2_addStreet
set_option maxRecDepth 20000 in
theorem ggX11_fromMap_X11_done : GoodIn wsX11_fromMap wsX11_done := goodIn_r _ [60, 11, 61, 62, 63, 64, 65, 66] (by decide +kernel) (by decide +kernel)
set_option maxRecDepth 20000 in
theorem gX11_fromMap_X11_done : GoodIn wsX11_fromMap (wsV RX11 71 RX11 yX11_done wsX11_done) := goodIn_app (goodIn_of _ (by decide +kernel)) ggX11_fromMap_X11_done
theorem dX11_fromMap_0 : decode cX11_fromMap 0 = .ok (.iload_n 1, 1) := by decide +kernel
theorem dX11_fromMap_1 : decode cX11_fromMap 1 = .ok (.invokestatic 219, 3) := by decide +kernel
theorem dX11_fromMap_4 : decode cX11_fromMap 4 = .ok (.ifCond .eq 12, 3) := by decide +kernel
theorem dX11_fromMap_7 : decode cX11_fromMap 7 = .ok (.iload_n 2, 1) := by decide +kernel
theorem dX11_fromMap_8 : decode cX11_fromMap 8 = .ok (.ifCond .lt 8, 3) := by decide +kernel
theorem dX11_fromMap_11 : decode cX11_fromMap 11 = .ok (.iload_n 2, 1) := by decide +kernel
theorem dX11_fromMap_12 : decode cX11_fromMap 12 = .ok (.iconst 2, 1) := by decide +kernel
theorem dX11_fromMap_13 : decode cX11_fromMap 13 = .ok (.if_icmp .le 9, 3) := by decide +kernel
theorem dX11_fromMap_16 : decode cX11_fromMap 16 = .ok (.aload_n 0, 1) := by decide +kernel
theorem dX11_fromMap_17 : decode cX11_fromMap 17 = .ok (.iconst 1, 1) := by decide +kernel
theorem dX11_fromMap_18 : decode cX11_fromMap 18 = .ok (.invokevirtual 57, 3) := by decide +kernel
theorem dX11_fromMap_21 : decode cX11_fromMap 21 = .ok (.ireturn, 1) := by decide +kernel
theorem dX11_fromMap_22 : decode cX11_fromMap 22 = .ok (.aload_n 0, 1) := by decide +kernel
theorem dX11_fromMap_23 : decode cX11_fromMap 23 = .ok (.getfield 10, 3) := by decide +kernel
theorem dX11_fromMap_26 : decode cX11_fromMap 26 = .ok (.getfield 78, 3) := by decide +kernel
theorem dX11_fromMap_29 : decode cX11_fromMap 29 = .ok (.bipush 16, 2) := by decide +kernel
theorem dX11_fromMap_31 : decode cX11_fromMap 31 = .ok (.if_icmp .lt 9, 3) := by decide +kernel
theorem dX11_fromMap_34 : decode cX11_fromMap 34 = .ok (.aload_n 0, 1) := by decide +kernel
theorem dX11_fromMap_35 : decode cX11_fromMap 35 = .ok (.iconst 2, 1) := by decide +kernel
theorem dX11_fromMap_36 : decode cX11_fromMap 36 = .ok (.invokevirtual 57, 3) := by decide +kernel
theorem dX11_fromMap_39 : decode cX11_fromMap 39 = .ok (.ireturn, 1) := by decide +kernel
theorem dX11_fromMap_40 : decode cX11_fromMap 40 = .ok (.aload_n 0, 1) := by decide +kernel
theorem dX11_fromMap_41 : decode cX11_fromMap 41 = .ok (.getfield 42, 3) := by decide +kernel
theorem dX11_fromMap_44 : decode cX11_fromMap 44 = .ok (.iload_n 1, 1) := by decide +kernel
theorem dX11_fromMap_45 : decode cX11_fromMap 45 = .ok (.iload_n 2, 1) := by decide +kernel
theorem dX11_fromMap_46 : decode cX11_fromMap 46 = .ok (.iload_n 3, 1) := by decide +kernel
theorem dX11_fromMap_47 : decode cX11_fromMap 47 = .ok (.iconst 3, 1) := by decide +kernel
theorem dX11_fromMap_48 : decode cX11_fromMap 48 = .ok (.invokevirtual 229, 3) := by decide +kernel
theorem dX11_fromMap_51 : decode cX11_fromMap 51 = .ok (.istore 4, 2) := by decide +kernel
theorem dX11_fromMap_53 : decode cX11_fromMap 53 = .ok (.iload 4, 2) := by decide +kernel
theorem dX11_fromMap_55 : decode cX11_fromMap 55 = .ok (.ifCond .eq 10, 3) := by decide +kernel
theorem dX11_fromMap_58 : decode cX11_fromMap 58 = .ok (.aload_n 0, 1) := by decide +kernel
theorem dX11_fromMap_59 : decode cX11_fromMap 59 = .ok (.iload 4, 2) := by decide +kernel
theorem dX11_fromMap_61 : decode cX11_fromMap 61 = .ok (.invokevirtual 57, 3) := by decide +kernel
theorem dX11_fromMap_64 : decode cX11_fromMap 64 = .ok (.ireturn, 1) := by decide +kernel
theorem dX11_fromMap_65 : decode cX11_fromMap 65 = .ok (.aload_n 0, 1) := by decide +kernel
theorem dX11_fromMap_66 : decode cX11_fromMap 66 = .ok (.getfield 42, 3) := by decide +kernel
theorem dX11_fromMap_69 : decode cX11_fromMap 69 = .ok (.getfield 233, 3) := by decide +kernel
theorem dX11_fromMap_72 : decode cX11_fromMap 72 = .ok (.iload_n 1, 1) := by decide +kernel
theorem dX11_fromMap_73 : decode cX11_fromMap 73 = .ok (.aaload, 1) := by decide +kernel
theorem dX11_fromMap_74 : decode cX11_fromMap 74 = .ok (.astore 5, 2) := by decide +kernel
theorem dX11_fromMap_76 : decode cX11_fromMap 76 = .ok (.aload_n 0, 1) := by decide +kernel
theorem dX11_fromMap_77 : decode cX11_fromMap 77 = .ok (.getfield 10, 3) := by decide +kernel
theorem dX11_fromMap_80 : decode cX11_fromMap 80 = .ok (.aload 5, 2) := by decide +kernel
theorem dX11_fromMap_82 : decode cX11_fromMap 82 = .ok (.iload_n 3, 1) := by decide +kernel
theorem dX11_fromMap_83 : decode cX11_fromMap 83 = .ok (.iaload, 1) := by decide +kernel
theorem dX11_fromMap_84 : decode cX11_fromMap 84 = .ok (.aload 5, 2) := by decide +kernel
theorem dX11_fromMap_86 : decode cX11_fromMap 86 = .ok (.iload_n 3, 1) := by decide +kernel
theorem dX11_fromMap_87 : decode cX11_fromMap 87 = .ok (.iconst 1, 1) := by decide +kernel
theorem dX11_fromMap_88 : decode cX11_fromMap 88 = .ok (.iadd, 1) := by decide +kernel
theorem dX11_fromMap_89 : decode cX11_fromMap 89 = .ok (.iaload, 1) := by decide +kernel
theorem dX11_fromMap_90 : decode cX11_fromMap 90 = .ok (.aload 5, 2) := by decide +kernel
theorem dX11_fromMap_92 : decode cX11_fromMap 92 = .ok (.iload_n 3, 1) := by decide +kernel
theorem dX11_fromMap_93 : decode cX11_fromMap 93 = .ok (.iconst 2, 1) := by decide +kernel
theorem dX11_fromMap_94 : decode cX11_fromMap 94 = .ok (.iadd, 1) := by decide +kernel
theorem dX11_fromMap_95 : decode cX11_fromMap 95 = .ok (.iaload, 1) := by decide +kernel
theorem dX11_fromMap_96 : decode cX11_fromMap 96 = .ok (.invokevirtual 74, 3) := by decide +kernel
theorem dX11_fromMap_99 : decode cX11_fromMap 99 = .ok (.ifCond .ne 9, 3) := by decide +kernel
theorem dX11_fromMap_102 : decode cX11_fromMap 102 = .ok (.aload_n 0, 1) := by decide +kernel
theorem dX11_fromMap_103 : decode cX11_fromMap 103 = .ok (.iconst 3, 1) := by decide +kernel
theorem dX11_fromMap_104 : decode cX11_fromMap 104 = .ok (.invokevirtual 57, 3) := by decide +kernel
theorem dX11_fromMap_107 : decode cX11_fromMap 107 = .ok (.ireturn, 1) := by decide +kernel
theorem dX11_fromMap_108 : decode cX11_fromMap 108 = .ok (.aload_n 0, 1) := by decide +kernel
theorem dX11_fromMap_109 : decode cX11_fromMap 109 = .ok (.aload_n 0, 1) := by decide +kernel
theorem dX11_fromMap_110 : decode cX11_fromMap 110 = .ok (.getfield 10, 3) := by decide +kernel
theorem dX11_fromMap_113 : decode cX11_fromMap 113 = .ok (.aload 5, 2) := by decide +kernel
theorem dX11_fromMap_115 : decode cX11_fromMap 115 = .ok (.iload_n 3, 1) := by decide +kernel
theorem dX11_fromMap_116 : decode cX11_fromMap 116 = .ok (.iaload, 1) := by decide +kernel
theorem dX11_fromMap_117 : decode cX11_fromMap 117 = .ok (.aload 5, 2) := by decide +kernel
theorem dX11_fromMap_119 : decode cX11_fromMap 119 = .ok (.iload_n 3, 1) := by decide +kernel
theorem dX11_fromMap_120 : decode cX11_fromMap 120 = .ok (.iconst 1, 1) := by decide +kernel
theorem dX11_fromMap_121 : decode cX11_fromMap 121 = .ok (.iadd, 1) := by decide +kernel
theorem dX11_fromMap_122 : decode cX11_fromMap 122 = .ok (.iaload, 1) := by decide +kernel
theorem dX11_fromMap_123 : decode cX11_fromMap 123 = .ok (.aload 5, 2) := by decide +kernel
theorem dX11_fromMap_125 : decode cX11_fromMap 125 = .ok (.iload_n 3, 1) := by decide +kernel
theorem dX11_fromMap_126 : decode cX11_fromMap 126 = .ok (.iconst 2, 1) := by decide +kernel
theorem dX11_fromMap_127 : decode cX11_fromMap 127 = .ok (.iadd, 1) := by decide +kernel
theorem dX11_fromMap_128 : decode cX11_fromMap 128 = .ok (.iaload, 1) := by decide +kernel
theorem dX11_fromMap_129 : decode cX11_fromMap 129 = .ok (.invokevirtual 81, 3) := by decide +kernel
theorem dX11_fromMap_132 : decode cX11_fromMap 132 = .ok (.invokevirtual 71, 3) := by decide +kernel
theorem dX11_fromMap_135 : decode cX11_fromMap 135 = .ok (.ireturn, 1) := by decide +kernel
set_option maxRecDepth 20000 in
theorem ggX11_forge_X11_refused : GoodIn wsX11_forge wsX11_refused := goodIn_r _ [5, 6, 82, 83, 84, 85, 86, 87] (by decide +kernel) (by decide +kernel)
set_option maxRecDepth 20000 in
theorem gX11_forge_X11_refused : GoodIn wsX11_forge (wsV RX11 57 RX11 yX11_refused wsX11_refused) := goodIn_app (goodIn_of _ (by decide +kernel)) ggX11_forge_X11_refused
set_option maxRecDepth 20000 in
theorem ggX11_forge_J9_floorMod_7cf53 : GoodIn wsX11_forge wsJ9_floorMod_7cf53 := goodIn_r _ [10] (by decide +kernel) (by decide +kernel)
set_option maxRecDepth 20000 in
theorem gX11_forge_J9_floorMod_7cf53 : GoodIn wsX11_forge (va_wsS RX11 237 yJ9_floorMod_7cf53 wsJ9_floorMod_7cf53) := goodIn_app (goodIn_of _ (by decide +kernel)) ggX11_forge_J9_floorMod_7cf53
set_option maxRecDepth 20000 in
theorem ggX11_forge_X11_takePlaceForKind : GoodIn wsX11_forge wsX11_takePlaceForKind := goodIn_r _ [14, 15, 16, 17, 18, 19, 20, 21, 22, 23, 24, 25, 26, 1, 2, 3, 4, 5, 6, 27, 28, 29, 30, 31, 32, 33, 34, 35, 36, 37, 38, 39, 40, 41, 42, 43, 44, 45, 46, 47, 48, 49, 50, 51, 52, 53, 54, 55, 56, 57, 58, 59, 60, 61, 82, 83, 84, 85, 86, 87, 88, 89, 90, 91, 92, 93, 94, 95, 96, 97, 98, 99, 100, 101, 102, 103, 104, 105] (by decide +kernel) (by decide +kernel)
set_option maxRecDepth 20000 in
theorem gX11_forge_X11_takePlaceForKind : GoodIn wsX11_forge (wsV RX11 242 RX11 yX11_takePlaceForKind wsX11_takePlaceForKind) := goodIn_app (goodIn_of _ (by decide +kernel)) ggX11_forge_X11_takePlaceForKind
set_option maxRecDepth 20000 in
theorem ggX11_forge_X11_done : GoodIn wsX11_forge wsX11_done := goodIn_r _ [61, 6, 82, 83, 84, 85, 86, 87] (by decide +kernel) (by decide +kernel)
set_option maxRecDepth 20000 in
theorem gX11_forge_X11_done : GoodIn wsX11_forge (wsV RX11 71 RX11 yX11_done wsX11_done) := goodIn_app (goodIn_of _ (by decide +kernel)) ggX11_forge_X11_done
set_option maxRecDepth 20000 in
theorem ggX11_forge_X11_readInt : GoodIn wsX11_forge wsX11_readInt := goodIn_r _ [65, 66, 67, 68, 69, 70, 71, 72, 73, 58, 59, 60, 4, 61, 6, 1, 2, 3, 5, 82, 83, 84, 85, 86, 87, 106, 107, 108] (by decide +kernel) (by decide +kernel)
set_option maxRecDepth 20000 in
theorem gX11_forge_X11_readInt : GoodIn wsX11_forge (wsV RX11 245 RX11 yX11_readInt wsX11_readInt) := goodIn_app (goodIn_of _ (by decide +kernel)) ggX11_forge_X11_readInt
set_option maxRecDepth 20000 in
theorem ggX11_forge_X11_copyBytes : GoodIn wsX11_forge wsX11_copyBytes := goodIn_r _ [77, 66, 67, 68, 69, 70, 71, 72, 73, 1, 2, 3, 4, 5, 6, 58, 59, 60, 61, 82, 83, 84, 85, 86, 87, 106, 107, 108] (by decide +kernel) (by decide +kernel)
set_option maxRecDepth 20000 in
theorem gX11_forge_X11_copyBytes : GoodIn wsX11_forge (wsV RX11 248 RX11 yX11_copyBytes wsX11_copyBytes) := goodIn_app (goodIn_of _ (by decide +kernel)) ggX11_forge_X11_copyBytes
set_option maxRecDepth 20000 in
theorem ggX11_forge_X11_putAmongTaps : GoodIn wsX11_forge wsX11_putAmongTaps := goodIn_r _ [81, 15, 30, 16, 17, 18, 19, 20, 21, 22, 23, 24, 25, 26, 58, 59, 60, 4, 61, 6, 34, 35, 36, 37, 38, 39, 40, 41, 42, 43, 44, 45, 46, 47, 48, 49, 50, 51, 52, 53, 54, 55, 56, 57, 1, 2, 3, 5, 82, 83, 84, 85, 86, 87, 88, 89, 90, 91, 92, 93, 94, 95, 96, 97, 98, 99, 100, 101, 102, 103, 104, 105] (by decide +kernel) (by decide +kernel)
set_option maxRecDepth 20000 in
theorem gX11_forge_X11_putAmongTaps : GoodIn wsX11_forge (wsV RX11 251 RX11 yX11_putAmongTaps wsX11_putAmongTaps) := goodIn_app (goodIn_of _ (by decide +kernel)) ggX11_forge_X11_putAmongTaps
theorem dX11_forge_0 : decode cX11_forge 0 = .ok (.iload_n 2, 1) := by decide +kernel
theorem dX11_forge_1 : decode cX11_forge 1 = .ok (.bipush (-100), 2) := by decide +kernel
theorem dX11_forge_3 : decode cX11_forge 3 = .ok (.if_icmp .lt 21, 3) := by decide +kernel
theorem dX11_forge_6 : decode cX11_forge 6 = .ok (.iload_n 2, 1) := by decide +kernel
theorem dX11_forge_7 : decode cX11_forge 7 = .ok (.bipush 100, 2) := by decide +kernel
theorem dX11_forge_9 : decode cX11_forge 9 = .ok (.if_icmp .gt 15, 3) := by decide +kernel
theorem dX11_forge_12 : decode cX11_forge 12 = .ok (.iload_n 3, 1) := by decide +kernel
theorem dX11_forge_13 : decode cX11_forge 13 = .ok (.bipush (-100), 2) := by decide +kernel
theorem dX11_forge_15 : decode cX11_forge 15 = .ok (.if_icmp .lt 9, 3) := by decide +kernel
theorem dX11_forge_18 : decode cX11_forge 18 = .ok (.iload_n 3, 1) := by decide +kernel
theorem dX11_forge_19 : decode cX11_forge 19 = .ok (.bipush 100, 2) := by decide +kernel
theorem dX11_forge_21 : decode cX11_forge 21 = .ok (.if_icmp .le 9, 3) := by decide +kernel
theorem dX11_forge_24 : decode cX11_forge 24 = .ok (.aload_n 0, 1) := by decide +kernel
theorem dX11_forge_25 : decode cX11_forge 25 = .ok (.iconst 1, 1) := by decide +kernel
theorem dX11_forge_26 : decode cX11_forge 26 = .ok (.invokevirtual 57, 3) := by decide +kernel
theorem dX11_forge_29 : decode cX11_forge 29 = .ok (.ireturn, 1) := by decide +kernel
theorem dX11_forge_30 : decode cX11_forge 30 = .ok (.iload_n 1, 1) := by decide +kernel
theorem dX11_forge_31 : decode cX11_forge 31 = .ok (.tableswitch 155 0 6 #[41, 57, 76, 87, 98, 109, 132], 41) := by decide +kernel
theorem dX11_forge_72 : decode cX11_forge 72 = .ok (.aload_n 0, 1) := by decide +kernel
theorem dX11_forge_73 : decode cX11_forge 73 = .ok (.iload_n 3, 1) := by decide +kernel
theorem dX11_forge_74 : decode cX11_forge 74 = .ok (.bipush 10, 2) := by decide +kernel
theorem dX11_forge_76 : decode cX11_forge 76 = .ok (.invokestatic 237, 3) := by decide +kernel
theorem dX11_forge_79 : decode cX11_forge 79 = .ok (.iload_n 2, 1) := by decide +kernel
theorem dX11_forge_80 : decode cX11_forge 80 = .ok (.iconst 5, 1) := by decide +kernel
theorem dX11_forge_81 : decode cX11_forge 81 = .ok (.invokestatic 237, 3) := by decide +kernel
theorem dX11_forge_84 : decode cX11_forge 84 = .ok (.invokevirtual 242, 3) := by decide +kernel
theorem dX11_forge_87 : decode cX11_forge 87 = .ok (.ireturn, 1) := by decide +kernel
theorem dX11_forge_88 : decode cX11_forge 88 = .ok (.iload_n 2, 1) := by decide +kernel
theorem dX11_forge_89 : decode cX11_forge 89 = .ok (.ifCond .ge 12, 3) := by decide +kernel
theorem dX11_forge_92 : decode cX11_forge 92 = .ok (.aload_n 0, 1) := by decide +kernel
theorem dX11_forge_93 : decode cX11_forge 93 = .ok (.bipush 13, 2) := by decide +kernel
theorem dX11_forge_95 : decode cX11_forge 95 = .ok (.invokevirtual 57, 3) := by decide +kernel
theorem dX11_forge_98 : decode cX11_forge 98 = .ok (.goto 8, 3) := by decide +kernel
theorem dX11_forge_101 : decode cX11_forge 101 = .ok (.aload_n 0, 1) := by decide +kernel
theorem dX11_forge_102 : decode cX11_forge 102 = .ok (.iload_n 2, 1) := by decide +kernel
theorem dX11_forge_103 : decode cX11_forge 103 = .ok (.invokevirtual 71, 3) := by decide +kernel
theorem dX11_forge_106 : decode cX11_forge 106 = .ok (.ireturn, 1) := by decide +kernel
theorem dX11_forge_107 : decode cX11_forge 107 = .ok (.aload_n 0, 1) := by decide +kernel
theorem dX11_forge_108 : decode cX11_forge 108 = .ok (.iload_n 3, 1) := by decide +kernel
theorem dX11_forge_109 : decode cX11_forge 109 = .ok (.iconst 5, 1) := by decide +kernel
theorem dX11_forge_110 : decode cX11_forge 110 = .ok (.invokestatic 237, 3) := by decide +kernel
theorem dX11_forge_113 : decode cX11_forge 113 = .ok (.iload_n 2, 1) := by decide +kernel
theorem dX11_forge_114 : decode cX11_forge 114 = .ok (.invokevirtual 245, 3) := by decide +kernel
theorem dX11_forge_117 : decode cX11_forge 117 = .ok (.ireturn, 1) := by decide +kernel
theorem dX11_forge_118 : decode cX11_forge 118 = .ok (.aload_n 0, 1) := by decide +kernel
theorem dX11_forge_119 : decode cX11_forge 119 = .ok (.iload_n 3, 1) := by decide +kernel
theorem dX11_forge_120 : decode cX11_forge 120 = .ok (.iconst 5, 1) := by decide +kernel
theorem dX11_forge_121 : decode cX11_forge 121 = .ok (.invokestatic 237, 3) := by decide +kernel
theorem dX11_forge_124 : decode cX11_forge 124 = .ok (.iload_n 2, 1) := by decide +kernel
theorem dX11_forge_125 : decode cX11_forge 125 = .ok (.invokevirtual 248, 3) := by decide +kernel
theorem dX11_forge_128 : decode cX11_forge 128 = .ok (.ireturn, 1) := by decide +kernel
theorem dX11_forge_129 : decode cX11_forge 129 = .ok (.aload_n 0, 1) := by decide +kernel
theorem dX11_forge_130 : decode cX11_forge 130 = .ok (.iload_n 3, 1) := by decide +kernel
theorem dX11_forge_131 : decode cX11_forge 131 = .ok (.bipush 10, 2) := by decide +kernel
theorem dX11_forge_133 : decode cX11_forge 133 = .ok (.invokestatic 237, 3) := by decide +kernel
theorem dX11_forge_136 : decode cX11_forge 136 = .ok (.invokevirtual 251, 3) := by decide +kernel
theorem dX11_forge_139 : decode cX11_forge 139 = .ok (.ireturn, 1) := by decide +kernel
theorem dX11_forge_140 : decode cX11_forge 140 = .ok (.iload_n 2, 1) := by decide +kernel
theorem dX11_forge_141 : decode cX11_forge 141 = .ok (.ifCond .ne 12, 3) := by decide +kernel
theorem dX11_forge_144 : decode cX11_forge 144 = .ok (.aload_n 0, 1) := by decide +kernel
theorem dX11_forge_145 : decode cX11_forge 145 = .ok (.bipush 15, 2) := by decide +kernel
theorem dX11_forge_147 : decode cX11_forge 147 = .ok (.invokevirtual 57, 3) := by decide +kernel
theorem dX11_forge_150 : decode cX11_forge 150 = .ok (.goto 12, 3) := by decide +kernel
theorem dX11_forge_153 : decode cX11_forge 153 = .ok (.aload_n 0, 1) := by decide +kernel
theorem dX11_forge_154 : decode cX11_forge 154 = .ok (.sipush 1000, 3) := by decide +kernel
theorem dX11_forge_157 : decode cX11_forge 157 = .ok (.iload_n 2, 1) := by decide +kernel
theorem dX11_forge_158 : decode cX11_forge 158 = .ok (.idiv, 1) := by decide +kernel
theorem dX11_forge_159 : decode cX11_forge 159 = .ok (.invokevirtual 71, 3) := by decide +kernel
theorem dX11_forge_162 : decode cX11_forge 162 = .ok (.ireturn, 1) := by decide +kernel
theorem dX11_forge_163 : decode cX11_forge 163 = .ok (.iload_n 2, 1) := by decide +kernel
theorem dX11_forge_164 : decode cX11_forge 164 = .ok (.iconst 2, 1) := by decide +kernel
theorem dX11_forge_165 : decode cX11_forge 165 = .ok (.invokestatic 237, 3) := by decide +kernel
theorem dX11_forge_168 : decode cX11_forge 168 = .ok (.ifCond .ne 12, 3) := by decide +kernel
theorem dX11_forge_171 : decode cX11_forge 171 = .ok (.aload_n 0, 1) := by decide +kernel
theorem dX11_forge_172 : decode cX11_forge 172 = .ok (.bipush 10, 2) := by decide +kernel
theorem dX11_forge_174 : decode cX11_forge 174 = .ok (.invokevirtual 57, 3) := by decide +kernel
theorem dX11_forge_177 : decode cX11_forge 177 = .ok (.goto 8, 3) := by decide +kernel
theorem dX11_forge_180 : decode cX11_forge 180 = .ok (.aload_n 0, 1) := by decide +kernel
theorem dX11_forge_181 : decode cX11_forge 181 = .ok (.iconst 1, 1) := by decide +kernel
theorem dX11_forge_182 : decode cX11_forge 182 = .ok (.invokevirtual 71, 3) := by decide +kernel
theorem dX11_forge_185 : decode cX11_forge 185 = .ok (.ireturn, 1) := by decide +kernel
theorem dX11_forge_186 : decode cX11_forge 186 = .ok (.aload_n 0, 1) := by decide +kernel
theorem dX11_forge_187 : decode cX11_forge 187 = .ok (.iconst 1, 1) := by decide +kernel
theorem dX11_forge_188 : decode cX11_forge 188 = .ok (.invokevirtual 57, 3) := by decide +kernel
theorem dX11_forge_191 : decode cX11_forge 191 = .ok (.ireturn, 1) := by decide +kernel
theorem dX11_status_0 : decode cX11_status 0 = .ok (.aload_n 0, 1) := by decide +kernel
theorem dX11_status_1 : decode cX11_status 1 = .ok (.getfield 46, 3) := by decide +kernel
theorem dX11_status_4 : decode cX11_status 4 = .ok (.ireturn, 1) := by decide +kernel
set_option maxRecDepth 20000 in
theorem ggX11_takePlaceForKind_X2_placeAt : GoodIn wsX11_takePlaceForKind wsX2_placeAt := goodIn_r _ [6, 7, 8, 9, 10, 5, 11, 12, 60, 61, 62, 63, 64, 65, 66, 67, 68, 69, 70, 71, 72, 73, 74, 75, 76, 77] (by decide +kernel) (by decide +kernel)
set_option maxRecDepth 20000 in
theorem gX11_takePlaceForKind_X2_placeAt : GoodIn wsX11_takePlaceForKind (wsV RX11 101 RX2 yX2_placeAt wsX2_placeAt) := goodIn_app (goodIn_of _ (by decide +kernel)) ggX11_takePlaceForKind_X2_placeAt
set_option maxRecDepth 20000 in
theorem ggX11_takePlaceForKind_X11_refused : GoodIn wsX11_takePlaceForKind wsX11_refused := goodIn_r _ [17, 18, 54, 55, 56, 57, 58, 59] (by decide +kernel) (by decide +kernel)
set_option maxRecDepth 20000 in
theorem gX11_takePlaceForKind_X11_refused : GoodIn wsX11_takePlaceForKind (wsV RX11 57 RX11 yX11_refused wsX11_refused) := goodIn_app (goodIn_of _ (by decide +kernel)) ggX11_takePlaceForKind_X11_refused
set_option maxRecDepth 20000 in
theorem ggX11_takePlaceForKind_X11_isOfKind : GoodIn wsX11_takePlaceForKind wsX11_isOfKind := goodIn_r _ [21, 22, 23, 24, 25] (by decide +kernel) (by decide +kernel)
set_option maxRecDepth 20000 in
theorem gX11_takePlaceForKind_X11_isOfKind : GoodIn wsX11_takePlaceForKind (va_wsS RX11 254 yX11_isOfKind wsX11_isOfKind) := goodIn_app (goodIn_of _ (by decide +kernel)) ggX11_takePlaceForKind_X11_isOfKind
set_option maxRecDepth 20000 in
theorem ggX11_takePlaceForKind_X0_kind : GoodIn wsX11_takePlaceForKind wsX0_kind := goodIn_r _ [32] (by decide +kernel) (by decide +kernel)
set_option maxRecDepth 20000 in
theorem gX11_takePlaceForKind_X0_kind_u105X0 : GoodIn wsX11_takePlaceForKind (va_wsO RX11 105 RX0 "DripLines$Place" ⟨"DripLines$Place", "kind", "()I"⟩ yX0_kind wsX0_kind) := goodIn_app (goodIn_of _ (by decide +kernel)) ggX11_takePlaceForKind_X0_kind
set_option maxRecDepth 20000 in
theorem ggX11_takePlaceForKind_X3_kind : GoodIn wsX11_takePlaceForKind wsX3_kind := goodIn_r _ [33] (by decide +kernel) (by decide +kernel)
set_option maxRecDepth 20000 in
theorem gX11_takePlaceForKind_X3_kind : GoodIn wsX11_takePlaceForKind (wsV RX11 105 RX3 yX3_kind wsX3_kind) := goodIn_app (goodIn_of _ (by decide +kernel)) ggX11_takePlaceForKind_X3_kind
set_option maxRecDepth 20000 in
theorem ggX11_takePlaceForKind_X4_kind : GoodIn wsX11_takePlaceForKind wsX4_kind := goodIn_r _ [41] (by decide +kernel) (by decide +kernel)
set_option maxRecDepth 20000 in
theorem gX11_takePlaceForKind_X4_kind_u105X4 : GoodIn wsX11_takePlaceForKind (va_wsO RX11 105 RX4 "DripLines$Place" ⟨"DripLines$Place", "kind", "()I"⟩ yX4_kind wsX4_kind) := goodIn_app (goodIn_of _ (by decide +kernel)) ggX11_takePlaceForKind_X4_kind
set_option maxRecDepth 20000 in
theorem ggX11_takePlaceForKind_X9_kind : GoodIn wsX11_takePlaceForKind wsX9_kind := goodIn_r _ [45] (by decide +kernel) (by decide +kernel)
set_option maxRecDepth 20000 in
theorem gX11_takePlaceForKind_X9_kind_u105X9 : GoodIn wsX11_takePlaceForKind (va_wsO RX11 105 RX9 "DripLines$Place" ⟨"DripLines$Place", "kind", "()I"⟩ yX9_kind wsX9_kind) := goodIn_app (goodIn_of _ (by decide +kernel)) ggX11_takePlaceForKind_X9_kind
set_option maxRecDepth 20000 in
theorem ggX11_takePlaceForKind_X10_kind : GoodIn wsX11_takePlaceForKind wsX10_kind := goodIn_r _ [49] (by decide +kernel) (by decide +kernel)
set_option maxRecDepth 20000 in
theorem gX11_takePlaceForKind_X10_kind_u105X10 : GoodIn wsX11_takePlaceForKind (va_wsO RX11 105 RX10 "DripLines$Place" ⟨"DripLines$Place", "kind", "()I"⟩ yX10_kind wsX10_kind) := goodIn_app (goodIn_of _ (by decide +kernel)) ggX11_takePlaceForKind_X10_kind
set_option maxRecDepth 20000 in
theorem ggX11_takePlaceForKind_X11_done : GoodIn wsX11_takePlaceForKind wsX11_done := goodIn_r _ [53, 18, 54, 55, 56, 57, 58, 59] (by decide +kernel) (by decide +kernel)
set_option maxRecDepth 20000 in
theorem gX11_takePlaceForKind_X11_done : GoodIn wsX11_takePlaceForKind (wsV RX11 71 RX11 yX11_done wsX11_done) := goodIn_app (goodIn_of _ (by decide +kernel)) ggX11_takePlaceForKind_X11_done
theorem dX11_takePlaceForKind_0 : decode cX11_takePlaceForKind 0 = .ok (.aload_n 0, 1) := by decide +kernel
theorem dX11_takePlaceForKind_1 : decode cX11_takePlaceForKind 1 = .ok (.getfield 10, 3) := by decide +kernel
theorem dX11_takePlaceForKind_4 : decode cX11_takePlaceForKind 4 = .ok (.iload_n 1, 1) := by decide +kernel
theorem dX11_takePlaceForKind_5 : decode cX11_takePlaceForKind 5 = .ok (.invokevirtual 101, 3) := by decide +kernel
theorem dX11_takePlaceForKind_8 : decode cX11_takePlaceForKind 8 = .ok (.astore_n 3, 1) := by decide +kernel
theorem dX11_takePlaceForKind_9 : decode cX11_takePlaceForKind 9 = .ok (.aload_n 3, 1) := by decide +kernel
theorem dX11_takePlaceForKind_10 : decode cX11_takePlaceForKind 10 = .ok (.ifnonnull 10, 3) := by decide +kernel
theorem dX11_takePlaceForKind_13 : decode cX11_takePlaceForKind 13 = .ok (.aload_n 0, 1) := by decide +kernel
theorem dX11_takePlaceForKind_14 : decode cX11_takePlaceForKind 14 = .ok (.bipush 10, 2) := by decide +kernel
theorem dX11_takePlaceForKind_16 : decode cX11_takePlaceForKind 16 = .ok (.invokevirtual 57, 3) := by decide +kernel
theorem dX11_takePlaceForKind_19 : decode cX11_takePlaceForKind 19 = .ok (.ireturn, 1) := by decide +kernel
theorem dX11_takePlaceForKind_20 : decode cX11_takePlaceForKind 20 = .ok (.aload_n 3, 1) := by decide +kernel
theorem dX11_takePlaceForKind_21 : decode cX11_takePlaceForKind 21 = .ok (.iload_n 2, 1) := by decide +kernel
theorem dX11_takePlaceForKind_22 : decode cX11_takePlaceForKind 22 = .ok (.invokestatic 254, 3) := by decide +kernel
theorem dX11_takePlaceForKind_25 : decode cX11_takePlaceForKind 25 = .ok (.ifCond .eq 14, 3) := by decide +kernel
theorem dX11_takePlaceForKind_28 : decode cX11_takePlaceForKind 28 = .ok (.aload_n 0, 1) := by decide +kernel
theorem dX11_takePlaceForKind_29 : decode cX11_takePlaceForKind 29 = .ok (.aload_n 3, 1) := by decide +kernel
theorem dX11_takePlaceForKind_30 : decode cX11_takePlaceForKind 30 = .ok (.invokevirtual 105, 3) := by decide +kernel
theorem dX11_takePlaceForKind_33 : decode cX11_takePlaceForKind 33 = .ok (.invokevirtual 71, 3) := by decide +kernel
theorem dX11_takePlaceForKind_36 : decode cX11_takePlaceForKind 36 = .ok (.goto 9, 3) := by decide +kernel
theorem dX11_takePlaceForKind_39 : decode cX11_takePlaceForKind 39 = .ok (.aload_n 0, 1) := by decide +kernel
theorem dX11_takePlaceForKind_40 : decode cX11_takePlaceForKind 40 = .ok (.bipush 11, 2) := by decide +kernel
theorem dX11_takePlaceForKind_42 : decode cX11_takePlaceForKind 42 = .ok (.invokevirtual 57, 3) := by decide +kernel
theorem dX11_takePlaceForKind_45 : decode cX11_takePlaceForKind 45 = .ok (.ireturn, 1) := by decide +kernel
set_option maxRecDepth 20000 in
theorem ggX11_readInt_X1_refusal : GoodIn wsX11_readInt wsX1_refusal := goodIn_r _ [6, 7, 8, 25, 26, 27] (by decide +kernel) (by decide +kernel)
set_option maxRecDepth 20000 in
theorem gX11_readInt_X1_refusal : GoodIn wsX11_readInt (wsV RX11 229 RX1 yX1_refusal wsX1_refusal) := goodIn_app (goodIn_of _ (by decide +kernel)) ggX11_readInt_X1_refusal
set_option maxRecDepth 20000 in
theorem ggX11_readInt_X11_done : GoodIn wsX11_readInt wsX11_done := goodIn_r _ [13, 14, 19, 20, 21, 22, 23, 24] (by decide +kernel) (by decide +kernel)
set_option maxRecDepth 20000 in
theorem gX11_readInt_X11_done : GoodIn wsX11_readInt (wsV RX11 71 RX11 yX11_done wsX11_done) := goodIn_app (goodIn_of _ (by decide +kernel)) ggX11_readInt_X11_done
set_option maxRecDepth 20000 in
theorem ggX11_readInt_X11_refused : GoodIn wsX11_readInt wsX11_refused := goodIn_r _ [18, 14, 19, 20, 21, 22, 23, 24] (by decide +kernel) (by decide +kernel)
set_option maxRecDepth 20000 in
theorem gX11_readInt_X11_refused : GoodIn wsX11_readInt (wsV RX11 57 RX11 yX11_refused wsX11_refused) := goodIn_app (goodIn_of _ (by decide +kernel)) ggX11_readInt_X11_refused
theorem dX11_readInt_0 : decode cX11_readInt 0 = .ok (.aload_n 0, 1) := by decide +kernel
theorem dX11_readInt_1 : decode cX11_readInt 1 = .ok (.getfield 42, 3) := by decide +kernel
theorem dX11_readInt_4 : decode cX11_readInt 4 = .ok (.iload_n 1, 1) := by decide +kernel
theorem dX11_readInt_5 : decode cX11_readInt 5 = .ok (.iconst 1, 1) := by decide +kernel
theorem dX11_readInt_6 : decode cX11_readInt 6 = .ok (.iload_n 2, 1) := by decide +kernel
theorem dX11_readInt_7 : decode cX11_readInt 7 = .ok (.iconst 1, 1) := by decide +kernel
theorem dX11_readInt_8 : decode cX11_readInt 8 = .ok (.invokevirtual 229, 3) := by decide +kernel
theorem dX11_readInt_11 : decode cX11_readInt 11 = .ok (.istore_n 3, 1) := by decide +kernel
theorem dX11_readInt_12 : decode cX11_readInt 12 = .ok (.iload_n 3, 1) := by decide +kernel
theorem dX11_readInt_13 : decode cX11_readInt 13 = .ok (.ifCond .ne 21, 3) := by decide +kernel
theorem dX11_readInt_16 : decode cX11_readInt 16 = .ok (.aload_n 0, 1) := by decide +kernel
theorem dX11_readInt_17 : decode cX11_readInt 17 = .ok (.aload_n 0, 1) := by decide +kernel
theorem dX11_readInt_18 : decode cX11_readInt 18 = .ok (.getfield 42, 3) := by decide +kernel
theorem dX11_readInt_21 : decode cX11_readInt 21 = .ok (.getfield 233, 3) := by decide +kernel
theorem dX11_readInt_24 : decode cX11_readInt 24 = .ok (.iload_n 1, 1) := by decide +kernel
theorem dX11_readInt_25 : decode cX11_readInt 25 = .ok (.aaload, 1) := by decide +kernel
theorem dX11_readInt_26 : decode cX11_readInt 26 = .ok (.iload_n 2, 1) := by decide +kernel
theorem dX11_readInt_27 : decode cX11_readInt 27 = .ok (.iaload, 1) := by decide +kernel
theorem dX11_readInt_28 : decode cX11_readInt 28 = .ok (.invokevirtual 71, 3) := by decide +kernel
theorem dX11_readInt_31 : decode cX11_readInt 31 = .ok (.goto 8, 3) := by decide +kernel
theorem dX11_readInt_34 : decode cX11_readInt 34 = .ok (.aload_n 0, 1) := by decide +kernel
theorem dX11_readInt_35 : decode cX11_readInt 35 = .ok (.iload_n 3, 1) := by decide +kernel
theorem dX11_readInt_36 : decode cX11_readInt 36 = .ok (.invokevirtual 57, 3) := by decide +kernel
theorem dX11_readInt_39 : decode cX11_readInt 39 = .ok (.ireturn, 1) := by decide +kernel
set_option maxRecDepth 20000 in
theorem ggX11_copyBytes_X1_refusal : GoodIn wsX11_copyBytes wsX1_refusal := goodIn_r _ [6, 7, 8, 25, 26, 27] (by decide +kernel) (by decide +kernel)
set_option maxRecDepth 20000 in
theorem gX11_copyBytes_X1_refusal : GoodIn wsX11_copyBytes (wsV RX11 229 RX1 yX1_refusal wsX1_refusal) := goodIn_app (goodIn_of _ (by decide +kernel)) ggX11_copyBytes_X1_refusal
set_option maxRecDepth 20000 in
theorem ggX11_copyBytes_X11_refused : GoodIn wsX11_copyBytes wsX11_refused := goodIn_r _ [13, 14, 19, 20, 21, 22, 23, 24] (by decide +kernel) (by decide +kernel)
set_option maxRecDepth 20000 in
theorem gX11_copyBytes_X11_refused : GoodIn wsX11_copyBytes (wsV RX11 57 RX11 yX11_refused wsX11_refused) := goodIn_app (goodIn_of _ (by decide +kernel)) ggX11_copyBytes_X11_refused
set_option maxRecDepth 20000 in
theorem ggX11_copyBytes_X11_done : GoodIn wsX11_copyBytes wsX11_done := goodIn_r _ [18, 14, 19, 20, 21, 22, 23, 24] (by decide +kernel) (by decide +kernel)
set_option maxRecDepth 20000 in
theorem gX11_copyBytes_X11_done : GoodIn wsX11_copyBytes (wsV RX11 71 RX11 yX11_done wsX11_done) := goodIn_app (goodIn_of _ (by decide +kernel)) ggX11_copyBytes_X11_done
theorem dX11_copyBytes_0 : decode cX11_copyBytes 0 = .ok (.aload_n 0, 1) := by decide +kernel
theorem dX11_copyBytes_1 : decode cX11_copyBytes 1 = .ok (.getfield 42, 3) := by decide +kernel
theorem dX11_copyBytes_4 : decode cX11_copyBytes 4 = .ok (.iload_n 1, 1) := by decide +kernel
theorem dX11_copyBytes_5 : decode cX11_copyBytes 5 = .ok (.iconst 0, 1) := by decide +kernel
theorem dX11_copyBytes_6 : decode cX11_copyBytes 6 = .ok (.iconst 1, 1) := by decide +kernel
theorem dX11_copyBytes_7 : decode cX11_copyBytes 7 = .ok (.iload_n 2, 1) := by decide +kernel
theorem dX11_copyBytes_8 : decode cX11_copyBytes 8 = .ok (.invokevirtual 229, 3) := by decide +kernel
theorem dX11_copyBytes_11 : decode cX11_copyBytes 11 = .ok (.istore_n 3, 1) := by decide +kernel
theorem dX11_copyBytes_12 : decode cX11_copyBytes 12 = .ok (.iload_n 3, 1) := by decide +kernel
theorem dX11_copyBytes_13 : decode cX11_copyBytes 13 = .ok (.ifCond .eq 9, 3) := by decide +kernel
theorem dX11_copyBytes_16 : decode cX11_copyBytes 16 = .ok (.aload_n 0, 1) := by decide +kernel
theorem dX11_copyBytes_17 : decode cX11_copyBytes 17 = .ok (.iload_n 3, 1) := by decide +kernel
theorem dX11_copyBytes_18 : decode cX11_copyBytes 18 = .ok (.invokevirtual 57, 3) := by decide +kernel
theorem dX11_copyBytes_21 : decode cX11_copyBytes 21 = .ok (.ireturn, 1) := by decide +kernel
theorem dX11_copyBytes_22 : decode cX11_copyBytes 22 = .ok (.iload_n 2, 1) := by decide +kernel
theorem dX11_copyBytes_23 : decode cX11_copyBytes 23 = .ok (.iload_n 2, 1) := by decide +kernel
theorem dX11_copyBytes_24 : decode cX11_copyBytes 24 = .ok (.iadd, 1) := by decide +kernel
theorem dX11_copyBytes_25 : decode cX11_copyBytes 25 = .ok (.bipush 6, 2) := by decide +kernel
theorem dX11_copyBytes_27 : decode cX11_copyBytes 27 = .ok (.if_icmp .le 10, 3) := by decide +kernel
theorem dX11_copyBytes_30 : decode cX11_copyBytes 30 = .ok (.aload_n 0, 1) := by decide +kernel
theorem dX11_copyBytes_31 : decode cX11_copyBytes 31 = .ok (.bipush 12, 2) := by decide +kernel
theorem dX11_copyBytes_33 : decode cX11_copyBytes 33 = .ok (.invokevirtual 57, 3) := by decide +kernel
theorem dX11_copyBytes_36 : decode cX11_copyBytes 36 = .ok (.ireturn, 1) := by decide +kernel
theorem dX11_copyBytes_37 : decode cX11_copyBytes 37 = .ok (.iconst 0, 1) := by decide +kernel
theorem dX11_copyBytes_38 : decode cX11_copyBytes 38 = .ok (.istore 4, 2) := by decide +kernel
theorem dX11_copyBytes_40 : decode cX11_copyBytes 40 = .ok (.iconst 1, 1) := by decide +kernel
theorem dX11_copyBytes_41 : decode cX11_copyBytes 41 = .ok (.istore 5, 2) := by decide +kernel
theorem dX11_copyBytes_43 : decode cX11_copyBytes 43 = .ok (.iload 5, 2) := by decide +kernel
theorem dX11_copyBytes_45 : decode cX11_copyBytes 45 = .ok (.iload_n 2, 1) := by decide +kernel
theorem dX11_copyBytes_46 : decode cX11_copyBytes 46 = .ok (.if_icmp .gt 26, 3) := by decide +kernel
theorem dX11_copyBytes_49 : decode cX11_copyBytes 49 = .ok (.iload 4, 2) := by decide +kernel
theorem dX11_copyBytes_51 : decode cX11_copyBytes 51 = .ok (.aload_n 0, 1) := by decide +kernel
theorem dX11_copyBytes_52 : decode cX11_copyBytes 52 = .ok (.getfield 42, 3) := by decide +kernel
theorem dX11_copyBytes_55 : decode cX11_copyBytes 55 = .ok (.getfield 233, 3) := by decide +kernel
theorem dX11_copyBytes_58 : decode cX11_copyBytes 58 = .ok (.iload_n 1, 1) := by decide +kernel
theorem dX11_copyBytes_59 : decode cX11_copyBytes 59 = .ok (.aaload, 1) := by decide +kernel
theorem dX11_copyBytes_60 : decode cX11_copyBytes 60 = .ok (.iload 5, 2) := by decide +kernel
theorem dX11_copyBytes_62 : decode cX11_copyBytes 62 = .ok (.iaload, 1) := by decide +kernel
theorem dX11_copyBytes_63 : decode cX11_copyBytes 63 = .ok (.iadd, 1) := by decide +kernel
theorem dX11_copyBytes_64 : decode cX11_copyBytes 64 = .ok (.istore 4, 2) := by decide +kernel
theorem dX11_copyBytes_66 : decode cX11_copyBytes 66 = .ok (.iinc 5 1, 3) := by decide +kernel
theorem dX11_copyBytes_69 : decode cX11_copyBytes 69 = .ok (.goto (-26), 3) := by decide +kernel
theorem dX11_copyBytes_72 : decode cX11_copyBytes 72 = .ok (.aload_n 0, 1) := by decide +kernel
theorem dX11_copyBytes_73 : decode cX11_copyBytes 73 = .ok (.iload 4, 2) := by decide +kernel
theorem dX11_copyBytes_75 : decode cX11_copyBytes 75 = .ok (.invokevirtual 71, 3) := by decide +kernel
theorem dX11_copyBytes_78 : decode cX11_copyBytes 78 = .ok (.ireturn, 1) := by decide +kernel
set_option maxRecDepth 20000 in
theorem ggX11_putAmongTaps_X2_placeAt : GoodIn wsX11_putAmongTaps wsX2_placeAt := goodIn_r _ [7, 8, 9, 10, 11, 6, 12, 13, 54, 55, 56, 57, 58, 59, 60, 61, 62, 63, 64, 65, 66, 67, 68, 69, 70, 71] (by decide +kernel) (by decide +kernel)
set_option maxRecDepth 20000 in
theorem gX11_putAmongTaps_X2_placeAt : GoodIn wsX11_putAmongTaps (wsV RX11 101 RX2 yX2_placeAt wsX2_placeAt) := goodIn_app (goodIn_of _ (by decide +kernel)) ggX11_putAmongTaps_X2_placeAt
set_option maxRecDepth 20000 in
theorem ggX11_putAmongTaps_X11_done : GoodIn wsX11_putAmongTaps wsX11_done := goodIn_r _ [18, 19, 48, 49, 50, 51, 52, 53] (by decide +kernel) (by decide +kernel)
set_option maxRecDepth 20000 in
theorem gX11_putAmongTaps_X11_done : GoodIn wsX11_putAmongTaps (wsV RX11 71 RX11 yX11_done wsX11_done) := goodIn_app (goodIn_of _ (by decide +kernel)) ggX11_putAmongTaps_X11_done
set_option maxRecDepth 20000 in
theorem ggX11_putAmongTaps_X0_kind : GoodIn wsX11_putAmongTaps wsX0_kind := goodIn_r _ [26] (by decide +kernel) (by decide +kernel)
set_option maxRecDepth 20000 in
theorem gX11_putAmongTaps_X0_kind_u105X0 : GoodIn wsX11_putAmongTaps (va_wsO RX11 105 RX0 "DripLines$Place" ⟨"DripLines$Place", "kind", "()I"⟩ yX0_kind wsX0_kind) := goodIn_app (goodIn_of _ (by decide +kernel)) ggX11_putAmongTaps_X0_kind
set_option maxRecDepth 20000 in
theorem ggX11_putAmongTaps_X3_kind : GoodIn wsX11_putAmongTaps wsX3_kind := goodIn_r _ [27] (by decide +kernel) (by decide +kernel)
set_option maxRecDepth 20000 in
theorem gX11_putAmongTaps_X3_kind : GoodIn wsX11_putAmongTaps (wsV RX11 105 RX3 yX3_kind wsX3_kind) := goodIn_app (goodIn_of _ (by decide +kernel)) ggX11_putAmongTaps_X3_kind
set_option maxRecDepth 20000 in
theorem ggX11_putAmongTaps_X4_kind : GoodIn wsX11_putAmongTaps wsX4_kind := goodIn_r _ [35] (by decide +kernel) (by decide +kernel)
set_option maxRecDepth 20000 in
theorem gX11_putAmongTaps_X4_kind_u105X4 : GoodIn wsX11_putAmongTaps (va_wsO RX11 105 RX4 "DripLines$Place" ⟨"DripLines$Place", "kind", "()I"⟩ yX4_kind wsX4_kind) := goodIn_app (goodIn_of _ (by decide +kernel)) ggX11_putAmongTaps_X4_kind
set_option maxRecDepth 20000 in
theorem ggX11_putAmongTaps_X9_kind : GoodIn wsX11_putAmongTaps wsX9_kind := goodIn_r _ [39] (by decide +kernel) (by decide +kernel)
set_option maxRecDepth 20000 in
theorem gX11_putAmongTaps_X9_kind_u105X9 : GoodIn wsX11_putAmongTaps (va_wsO RX11 105 RX9 "DripLines$Place" ⟨"DripLines$Place", "kind", "()I"⟩ yX9_kind wsX9_kind) := goodIn_app (goodIn_of _ (by decide +kernel)) ggX11_putAmongTaps_X9_kind
set_option maxRecDepth 20000 in
theorem ggX11_putAmongTaps_X10_kind : GoodIn wsX11_putAmongTaps wsX10_kind := goodIn_r _ [43] (by decide +kernel) (by decide +kernel)
set_option maxRecDepth 20000 in
theorem gX11_putAmongTaps_X10_kind_u105X10 : GoodIn wsX11_putAmongTaps (va_wsO RX11 105 RX10 "DripLines$Place" ⟨"DripLines$Place", "kind", "()I"⟩ yX10_kind wsX10_kind) := goodIn_app (goodIn_of _ (by decide +kernel)) ggX11_putAmongTaps_X10_kind
set_option maxRecDepth 20000 in
theorem ggX11_putAmongTaps_X11_refused : GoodIn wsX11_putAmongTaps wsX11_refused := goodIn_r _ [47, 19, 48, 49, 50, 51, 52, 53] (by decide +kernel) (by decide +kernel)
set_option maxRecDepth 20000 in
theorem gX11_putAmongTaps_X11_refused : GoodIn wsX11_putAmongTaps (wsV RX11 57 RX11 yX11_refused wsX11_refused) := goodIn_app (goodIn_of _ (by decide +kernel)) ggX11_putAmongTaps_X11_refused
theorem dX11_putAmongTaps_0 : decode cX11_putAmongTaps 0 = .ok (.aload_n 0, 1) := by decide +kernel
theorem dX11_putAmongTaps_1 : decode cX11_putAmongTaps 1 = .ok (.getfield 10, 3) := by decide +kernel
theorem dX11_putAmongTaps_4 : decode cX11_putAmongTaps 4 = .ok (.iload_n 1, 1) := by decide +kernel
theorem dX11_putAmongTaps_5 : decode cX11_putAmongTaps 5 = .ok (.invokevirtual 101, 3) := by decide +kernel
theorem dX11_putAmongTaps_8 : decode cX11_putAmongTaps 8 = .ok (.astore_n 2, 1) := by decide +kernel
theorem dX11_putAmongTaps_9 : decode cX11_putAmongTaps 9 = .ok (.aload_n 2, 1) := by decide +kernel
theorem dX11_putAmongTaps_10 : decode cX11_putAmongTaps 10 = .ok (.ifnonnull 9, 3) := by decide +kernel
theorem dX11_putAmongTaps_13 : decode cX11_putAmongTaps 13 = .ok (.aload_n 0, 1) := by decide +kernel
theorem dX11_putAmongTaps_14 : decode cX11_putAmongTaps 14 = .ok (.iconst 0, 1) := by decide +kernel
theorem dX11_putAmongTaps_15 : decode cX11_putAmongTaps 15 = .ok (.invokevirtual 71, 3) := by decide +kernel
theorem dX11_putAmongTaps_18 : decode cX11_putAmongTaps 18 = .ok (.ireturn, 1) := by decide +kernel
theorem dX11_putAmongTaps_19 : decode cX11_putAmongTaps 19 = .ok (.aload_n 2, 1) := by decide +kernel
theorem dX11_putAmongTaps_20 : decode cX11_putAmongTaps 20 = .ok (.instanceof 258, 3) := by decide +kernel
theorem dX11_putAmongTaps_23 : decode cX11_putAmongTaps 23 = .ok (.ifCond .eq 14, 3) := by decide +kernel
theorem dX11_putAmongTaps_26 : decode cX11_putAmongTaps 26 = .ok (.aload_n 0, 1) := by decide +kernel
theorem dX11_putAmongTaps_27 : decode cX11_putAmongTaps 27 = .ok (.aload_n 2, 1) := by decide +kernel
theorem dX11_putAmongTaps_28 : decode cX11_putAmongTaps 28 = .ok (.invokevirtual 105, 3) := by decide +kernel
theorem dX11_putAmongTaps_31 : decode cX11_putAmongTaps 31 = .ok (.invokevirtual 71, 3) := by decide +kernel
theorem dX11_putAmongTaps_34 : decode cX11_putAmongTaps 34 = .ok (.goto 9, 3) := by decide +kernel
theorem dX11_putAmongTaps_37 : decode cX11_putAmongTaps 37 = .ok (.aload_n 0, 1) := by decide +kernel
theorem dX11_putAmongTaps_38 : decode cX11_putAmongTaps 38 = .ok (.bipush 14, 2) := by decide +kernel
theorem dX11_putAmongTaps_40 : decode cX11_putAmongTaps 40 = .ok (.invokevirtual 57, 3) := by decide +kernel
theorem dX11_putAmongTaps_43 : decode cX11_putAmongTaps 43 = .ok (.ireturn, 1) := by decide +kernel
theorem dX11_done_0 : decode cX11_done 0 = .ok (.aload_n 0, 1) := by decide +kernel
theorem dX11_done_1 : decode cX11_done 1 = .ok (.iconst 0, 1) := by decide +kernel
theorem dX11_done_2 : decode cX11_done 2 = .ok (.putfield 46, 3) := by decide +kernel
theorem dX11_done_5 : decode cX11_done 5 = .ok (.iload_n 1, 1) := by decide +kernel
theorem dX11_done_6 : decode cX11_done 6 = .ok (.ireturn, 1) := by decide +kernel
theorem dX11_refused_0 : decode cX11_refused 0 = .ok (.aload_n 0, 1) := by decide +kernel
theorem dX11_refused_1 : decode cX11_refused 1 = .ok (.iload_n 1, 1) := by decide +kernel
theorem dX11_refused_2 : decode cX11_refused 2 = .ok (.putfield 46, 3) := by decide +kernel
theorem dX11_refused_5 : decode cX11_refused 5 = .ok (.iconst (-1), 1) := by decide +kernel
theorem dX11_refused_6 : decode cX11_refused 6 = .ok (.ireturn, 1) := by decide +kernel
theorem dX11_isOfKind_0 : decode cX11_isOfKind 0 = .ok (.iload_n 1, 1) := by decide +kernel
theorem dX11_isOfKind_1 : decode cX11_isOfKind 1 = .ok (.tableswitch 51 1 4 #[31, 36, 41, 46], 31) := by decide +kernel
theorem dX11_isOfKind_32 : decode cX11_isOfKind 32 = .ok (.aload_n 0, 1) := by decide +kernel
theorem dX11_isOfKind_33 : decode cX11_isOfKind 33 = .ok (.instanceof 258, 3) := by decide +kernel
theorem dX11_isOfKind_36 : decode cX11_isOfKind 36 = .ok (.ireturn, 1) := by decide +kernel
theorem dX11_isOfKind_37 : decode cX11_isOfKind 37 = .ok (.aload_n 0, 1) := by decide +kernel
theorem dX11_isOfKind_38 : decode cX11_isOfKind 38 = .ok (.instanceof 260, 3) := by decide +kernel
theorem dX11_isOfKind_41 : decode cX11_isOfKind 41 = .ok (.ireturn, 1) := by decide +kernel
theorem dX11_isOfKind_42 : decode cX11_isOfKind 42 = .ok (.aload_n 0, 1) := by decide +kernel
theorem dX11_isOfKind_43 : decode cX11_isOfKind 43 = .ok (.instanceof 262, 3) := by decide +kernel
theorem dX11_isOfKind_46 : decode cX11_isOfKind 46 = .ok (.ireturn, 1) := by decide +kernel
theorem dX11_isOfKind_47 : decode cX11_isOfKind 47 = .ok (.aload_n 0, 1) := by decide +kernel
theorem dX11_isOfKind_48 : decode cX11_isOfKind 48 = .ok (.instanceof 264, 3) := by decide +kernel
theorem dX11_isOfKind_51 : decode cX11_isOfKind 51 = .ok (.ireturn, 1) := by decide +kernel
theorem dX11_isOfKind_52 : decode cX11_isOfKind 52 = .ok (.iconst 1, 1) := by decide +kernel
theorem dX11_isOfKind_53 : decode cX11_isOfKind 53 = .ok (.ireturn, 1) := by decide +kernel
theorem dX11_isMap_0 : decode cX11_isMap 0 = .ok (.iload_n 0, 1) := by decide +kernel
theorem dX11_isMap_1 : decode cX11_isMap 1 = .ok (.ifCond .lt 12, 3) := by decide +kernel
theorem dX11_isMap_4 : decode cX11_isMap 4 = .ok (.iload_n 0, 1) := by decide +kernel
theorem dX11_isMap_5 : decode cX11_isMap 5 = .ok (.iconst 5, 1) := by decide +kernel
theorem dX11_isMap_6 : decode cX11_isMap 6 = .ok (.if_icmp .ge 7, 3) := by decide +kernel
theorem dX11_isMap_9 : decode cX11_isMap 9 = .ok (.iconst 1, 1) := by decide +kernel
theorem dX11_isMap_10 : decode cX11_isMap 10 = .ok (.goto 4, 3) := by decide +kernel
theorem dX11_isMap_13 : decode cX11_isMap 13 = .ok (.iconst 0, 1) := by decide +kernel
theorem dX11_isMap_14 : decode cX11_isMap 14 = .ok (.ireturn, 1) := by decide +kernel
theorem dX11_hasWorth_0 : decode cX11_hasWorth 0 = .ok (.iload_n 0, 1) := by decide +kernel
theorem dX11_hasWorth_1 : decode cX11_hasWorth 1 = .ok (.iconst 2, 1) := by decide +kernel
theorem dX11_hasWorth_2 : decode cX11_hasWorth 2 = .ok (.if_icmp .eq 8, 3) := by decide +kernel
theorem dX11_hasWorth_5 : decode cX11_hasWorth 5 = .ok (.iload_n 0, 1) := by decide +kernel
theorem dX11_hasWorth_6 : decode cX11_hasWorth 6 = .ok (.iconst 4, 1) := by decide +kernel
theorem dX11_hasWorth_7 : decode cX11_hasWorth 7 = .ok (.if_icmp .ne 7, 3) := by decide +kernel
theorem dX11_hasWorth_10 : decode cX11_hasWorth 10 = .ok (.iconst 1, 1) := by decide +kernel
theorem dX11_hasWorth_11 : decode cX11_hasWorth 11 = .ok (.goto 4, 3) := by decide +kernel
theorem dX11_hasWorth_14 : decode cX11_hasWorth 14 = .ok (.iconst 0, 1) := by decide +kernel
theorem dX11_hasWorth_15 : decode cX11_hasWorth 15 = .ok (.ireturn, 1) := by decide +kernel
theorem dX11_isAmount_0 : decode cX11_isAmount 0 = .ok (.iload_n 0, 1) := by decide +kernel
theorem dX11_isAmount_1 : decode cX11_isAmount 1 = .ok (.iconst 1, 1) := by decide +kernel
theorem dX11_isAmount_2 : decode cX11_isAmount 2 = .ok (.if_icmp .lt 13, 3) := by decide +kernel
theorem dX11_isAmount_5 : decode cX11_isAmount 5 = .ok (.iload_n 0, 1) := by decide +kernel
theorem dX11_isAmount_6 : decode cX11_isAmount 6 = .ok (.bipush 100, 2) := by decide +kernel
theorem dX11_isAmount_8 : decode cX11_isAmount 8 = .ok (.if_icmp .gt 7, 3) := by decide +kernel
theorem dX11_isAmount_11 : decode cX11_isAmount 11 = .ok (.iconst 1, 1) := by decide +kernel
theorem dX11_isAmount_12 : decode cX11_isAmount 12 = .ok (.goto 4, 3) := by decide +kernel
theorem dX11_isAmount_15 : decode cX11_isAmount 15 = .ok (.iconst 0, 1) := by decide +kernel
theorem dX11_isAmount_16 : decode cX11_isAmount 16 = .ok (.ireturn, 1) := by decide +kernel
theorem dX11_bitAt_0 : decode cX11_bitAt 0 = .ok (.iload_n 0, 1) := by decide +kernel
theorem dX11_bitAt_1 : decode cX11_bitAt 1 = .ok (.iload_n 1, 1) := by decide +kernel
theorem dX11_bitAt_2 : decode cX11_bitAt 2 = .ok (.ishr, 1) := by decide +kernel
theorem dX11_bitAt_3 : decode cX11_bitAt 3 = .ok (.iconst 1, 1) := by decide +kernel
theorem dX11_bitAt_4 : decode cX11_bitAt 4 = .ok (.iand, 1) := by decide +kernel
theorem dX11_bitAt_5 : decode cX11_bitAt 5 = .ok (.ireturn, 1) := by decide +kernel
