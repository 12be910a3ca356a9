set_option maxRecDepth 20000 in
theorem ggX0_init_X3_init : GoodIn wsX0_init wsX3_init := goodIn_r _ [4, 5, 6, 7, 8, 9, 10, 11, 12, 13, 14, 15, 16, 17, 18, 19, 20, 21, 22, 23, 24, 25, 26, 27, 28, 29, 30] (by decide +kernel) (by decide +kernel)
set_option maxRecDepth 20000 in
theorem gX0_init_X3_init : GoodIn wsX0_init (wsX3_init) := ggX0_init_X3_init
theorem dX0_init_0 : decode cX0_init 0 = .ok (.aload_n 0, 1) := by decide +kernel
theorem dX0_init_1 : decode cX0_init 1 = .ok (.iload_n 1, 1) := by decide +kernel
theorem dX0_init_2 : decode cX0_init 2 = .ok (.iload_n 2, 1) := by decide +kernel
theorem dX0_init_3 : decode cX0_init 3 = .ok (.aload_n 3, 1) := by decide +kernel
theorem dX0_init_4 : decode cX0_init 4 = .ok (.invokespecial 3, 3) := by decide +kernel
theorem dX0_init_7 : decode cX0_init 7 = .ok (.return_, 1) := by decide +kernel
theorem dX0_kind_0 : decode cX0_kind 0 = .ok (.iconst 4, 1) := by decide +kernel
theorem dX0_kind_1 : decode cX0_kind 1 = .ok (.ireturn, 1) := by decide +kernel
set_option maxRecDepth 20000 in
theorem ggX0_cost_X5_ran : GoodIn wsX0_cost wsX5_ran := goodIn_r _ [9, 10, 11, 58, 59] (by decide +kernel) (by decide +kernel)
set_option maxRecDepth 20000 in
theorem gX0_cost_X5_ran : GoodIn wsX0_cost (wsV RX0 15 RX5 yX5_ran wsX5_ran) := goodIn_app (goodIn_of _ (by decide +kernel)) ggX0_cost_X5_ran
set_option maxRecDepth 20000 in
theorem ggX0_cost_X3_cost : GoodIn wsX0_cost wsX3_cost := goodIn_r _ [17, 18, 19, 6, 7, 8, 9, 10, 11, 20, 21, 22, 23, 16, 24, 25, 26, 27, 28, 29, 30, 31, 32, 33, 34, 35, 36, 37, 38, 39, 40, 41, 42, 43, 44, 45, 46, 47, 48, 49, 50, 51, 52, 53, 54, 55, 56, 57, 58, 59] (by decide +kernel) (by decide +kernel)
set_option maxRecDepth 20000 in
theorem gX0_cost_X3_cost_s21 : GoodIn wsX0_cost (va_wsSU RX0 21 yX3_cost wsX3_cost) := goodIn_app (goodIn_of _ (by decide +kernel)) ggX0_cost_X3_cost
theorem dX0_cost_0 : decode cX0_cost 0 = .ok (.aload_n 0, 1) := by decide +kernel
theorem dX0_cost_1 : decode cX0_cost 1 = .ok (.getfield 9, 3) := by decide +kernel
theorem dX0_cost_4 : decode cX0_cost 4 = .ok (.bipush 50, 2) := by decide +kernel
theorem dX0_cost_6 : decode cX0_cost 6 = .ok (.invokevirtual 15, 3) := by decide +kernel
theorem dX0_cost_9 : decode cX0_cost 9 = .ok (.aload_n 0, 1) := by decide +kernel
theorem dX0_cost_10 : decode cX0_cost 10 = .ok (.iload_n 1, 1) := by decide +kernel
theorem dX0_cost_11 : decode cX0_cost 11 = .ok (.invokespecial 21, 3) := by decide +kernel
theorem dX0_cost_14 : decode cX0_cost 14 = .ok (.aload_n 0, 1) := by decide +kernel
theorem dX0_cost_15 : decode cX0_cost 15 = .ok (.getfield 25, 3) := by decide +kernel
theorem dX0_cost_18 : decode cX0_cost 18 = .ok (.iadd, 1) := by decide +kernel
theorem dX0_cost_19 : decode cX0_cost 19 = .ok (.ireturn, 1) := by decide +kernel
set_option maxRecDepth 20000 in
theorem ggX0_tell_X5_ran : GoodIn wsX0_tell wsX5_ran := goodIn_r _ [7, 8, 9, 108, 109] (by decide +kernel) (by decide +kernel)
set_option maxRecDepth 20000 in
theorem gX0_tell_X5_ran : GoodIn wsX0_tell (wsV RX0 15 RX5 yX5_ran wsX5_ran) := goodIn_app (goodIn_of _ (by decide +kernel)) ggX0_tell_X5_ran
set_option maxRecDepth 20000 in
theorem ggX0_tell_X3_ask : GoodIn wsX0_tell wsX3_ask := goodIn_r _ [15, 16, 17, 18, 4, 5, 6, 7, 8, 9, 88, 89, 90, 91, 92, 93, 94, 95, 96, 97, 98, 99, 100, 101, 102, 103, 104, 105, 106, 107, 108, 109] (by decide +kernel) (by decide +kernel)
set_option maxRecDepth 20000 in
theorem gX0_tell_X3_ask_u29X0 : GoodIn wsX0_tell (va_wsU RX0 29 RX0 "DripLines$Place" ⟨"DripLines$Gate", "ask", "(I)I"⟩ yX3_ask wsX3_ask) := goodIn_app (goodIn_of _ (by decide +kernel)) ggX0_tell_X3_ask
set_option maxRecDepth 20000 in
theorem ggX0_tell_X3_tell : GoodIn wsX0_tell wsX3_tell := goodIn_r _ [23, 16, 18, 4, 5, 6, 7, 8, 9, 24, 25, 26, 27, 28, 29, 30, 1, 2, 31, 32, 3, 33, 21, 34, 14, 35, 36, 37, 38, 39, 40, 41, 42, 43, 44, 45, 46, 47, 48, 49, 50, 51, 52, 53, 54, 55, 56, 57, 58, 59, 60, 61, 62, 63, 64, 65, 66, 67, 68, 69, 13, 15, 17, 70, 71, 72, 73, 74, 75, 76, 77, 78, 79, 80, 81, 82, 83, 84, 85, 86, 87, 88, 89, 90, 91, 92, 93, 94, 95, 96, 97, 98, 99, 100, 101, 102, 103, 104, 105, 106, 107, 108, 109] (by decide +kernel) (by decide +kernel)
set_option maxRecDepth 20000 in
theorem gX0_tell_X3_tell_s32 : GoodIn wsX0_tell (va_wsSU RX0 32 yX3_tell wsX3_tell) := goodIn_app (goodIn_of _ (by decide +kernel)) ggX0_tell_X3_tell
theorem dX0_tell_0 : decode cX0_tell 0 = .ok (.aload_n 0, 1) := by decide +kernel
theorem dX0_tell_1 : decode cX0_tell 1 = .ok (.getfield 9, 3) := by decide +kernel
theorem dX0_tell_4 : decode cX0_tell 4 = .ok (.bipush 51, 2) := by decide +kernel
theorem dX0_tell_6 : decode cX0_tell 6 = .ok (.invokevirtual 15, 3) := by decide +kernel
theorem dX0_tell_9 : decode cX0_tell 9 = .ok (.aload_n 0, 1) := by decide +kernel
theorem dX0_tell_10 : decode cX0_tell 10 = .ok (.iload_n 1, 1) := by decide +kernel
theorem dX0_tell_11 : decode cX0_tell 11 = .ok (.invokevirtual 29, 3) := by decide +kernel
theorem dX0_tell_14 : decode cX0_tell 14 = .ok (.aload_n 0, 1) := by decide +kernel
theorem dX0_tell_15 : decode cX0_tell 15 = .ok (.iload_n 1, 1) := by decide +kernel
theorem dX0_tell_16 : decode cX0_tell 16 = .ok (.invokespecial 32, 3) := by decide +kernel
theorem dX0_tell_19 : decode cX0_tell 19 = .ok (.iadd, 1) := by decide +kernel
theorem dX0_tell_20 : decode cX0_tell 20 = .ok (.ireturn, 1) := by decide +kernel
theorem dX1_init_0 : decode cX1_init 0 = .ok (.aload_n 0, 1) := by decide +kernel
theorem dX1_init_1 : decode cX1_init 1 = .ok (.invokespecial 3, 3) := by decide +kernel
theorem dX1_init_4 : decode cX1_init 4 = .ok (.aload_n 0, 1) := by decide +kernel
theorem dX1_init_5 : decode cX1_init 5 = .ok (.iconst 5, 1) := by decide +kernel
theorem dX1_init_6 : decode cX1_init 6 = .ok (.newarray .int, 2) := by decide +kernel
theorem dX1_init_8 : decode cX1_init 8 = .ok (.dup, 1) := by decide +kernel
theorem dX1_init_9 : decode cX1_init 9 = .ok (.iconst 0, 1) := by decide +kernel
theorem dX1_init_10 : decode cX1_init 10 = .ok (.iconst (-1), 1) := by decide +kernel
theorem dX1_init_11 : decode cX1_init 11 = .ok (.iastore, 1) := by decide +kernel
theorem dX1_init_12 : decode cX1_init 12 = .ok (.dup, 1) := by decide +kernel
theorem dX1_init_13 : decode cX1_init 13 = .ok (.iconst 1, 1) := by decide +kernel
theorem dX1_init_14 : decode cX1_init 14 = .ok (.iconst (-1), 1) := by decide +kernel
theorem dX1_init_15 : decode cX1_init 15 = .ok (.iastore, 1) := by decide +kernel
theorem dX1_init_16 : decode cX1_init 16 = .ok (.dup, 1) := by decide +kernel
theorem dX1_init_17 : decode cX1_init 17 = .ok (.iconst 2, 1) := by decide +kernel
theorem dX1_init_18 : decode cX1_init 18 = .ok (.iconst (-1), 1) := by decide +kernel
theorem dX1_init_19 : decode cX1_init 19 = .ok (.iastore, 1) := by decide +kernel
theorem dX1_init_20 : decode cX1_init 20 = .ok (.dup, 1) := by decide +kernel
theorem dX1_init_21 : decode cX1_init 21 = .ok (.iconst 3, 1) := by decide +kernel
theorem dX1_init_22 : decode cX1_init 22 = .ok (.iconst (-1), 1) := by decide +kernel
theorem dX1_init_23 : decode cX1_init 23 = .ok (.iastore, 1) := by decide +kernel
theorem dX1_init_24 : decode cX1_init 24 = .ok (.dup, 1) := by decide +kernel
theorem dX1_init_25 : decode cX1_init 25 = .ok (.iconst 4, 1) := by decide +kernel
theorem dX1_init_26 : decode cX1_init 26 = .ok (.iconst (-1), 1) := by decide +kernel
theorem dX1_init_27 : decode cX1_init 27 = .ok (.iastore, 1) := by decide +kernel
theorem dX1_init_28 : decode cX1_init 28 = .ok (.putfield 9, 3) := by decide +kernel
theorem dX1_init_31 : decode cX1_init 31 = .ok (.aload_n 0, 1) := by decide +kernel
theorem dX1_init_32 : decode cX1_init 32 = .ok (.iconst 5, 1) := by decide +kernel
theorem dX1_init_33 : decode cX1_init 33 = .ok (.newarray .int, 2) := by decide +kernel
theorem dX1_init_35 : decode cX1_init 35 = .ok (.putfield 15, 3) := by decide +kernel
theorem dX1_init_38 : decode cX1_init 38 = .ok (.aload_n 0, 1) := by decide +kernel
theorem dX1_init_39 : decode cX1_init 39 = .ok (.iconst 5, 1) := by decide +kernel
theorem dX1_init_40 : decode cX1_init 40 = .ok (.bipush 20, 2) := by decide +kernel
theorem dX1_init_42 : decode cX1_init 42 = .ok (.multianewarray 18 2, 4) := by decide +kernel
theorem dX1_init_46 : decode cX1_init 46 = .ok (.putfield 20, 3) := by decide +kernel
theorem dX1_init_49 : decode cX1_init 49 = .ok (.return_, 1) := by decide +kernel
set_option maxRecDepth 20000 in
theorem ggX1_make_J7_fill_53178 : GoodIn wsX1_make wsJ7_fill_53178 := goodIn_r _ [7] (by decide +kernel) (by decide +kernel)
set_option maxRecDepth 20000 in
theorem gX1_make_J7_fill_53178 : GoodIn wsX1_make (va_wsS RX1 23 yJ7_fill_53178 wsJ7_fill_53178) := goodIn_app (goodIn_of _ (by decide +kernel)) ggX1_make_J7_fill_53178
theorem dX1_make_0 : decode cX1_make 0 = .ok (.aload_n 0, 1) := by decide +kernel
theorem dX1_make_1 : decode cX1_make 1 = .ok (.getfield 9, 3) := by decide +kernel
theorem dX1_make_4 : decode cX1_make 4 = .ok (.iload_n 1, 1) := by decide +kernel
theorem dX1_make_5 : decode cX1_make 5 = .ok (.iload_n 2, 1) := by decide +kernel
theorem dX1_make_6 : decode cX1_make 6 = .ok (.iastore, 1) := by decide +kernel
theorem dX1_make_7 : decode cX1_make 7 = .ok (.aload_n 0, 1) := by decide +kernel
theorem dX1_make_8 : decode cX1_make 8 = .ok (.getfield 15, 3) := by decide +kernel
theorem dX1_make_11 : decode cX1_make 11 = .ok (.iload_n 1, 1) := by decide +kernel
theorem dX1_make_12 : decode cX1_make 12 = .ok (.iload_n 3, 1) := by decide +kernel
theorem dX1_make_13 : decode cX1_make 13 = .ok (.iastore, 1) := by decide +kernel
theorem dX1_make_14 : decode cX1_make 14 = .ok (.aload_n 0, 1) := by decide +kernel
theorem dX1_make_15 : decode cX1_make 15 = .ok (.getfield 20, 3) := by decide +kernel
theorem dX1_make_18 : decode cX1_make 18 = .ok (.iload_n 1, 1) := by decide +kernel
theorem dX1_make_19 : decode cX1_make 19 = .ok (.aaload, 1) := by decide +kernel
theorem dX1_make_20 : decode cX1_make 20 = .ok (.iconst 0, 1) := by decide +kernel
theorem dX1_make_21 : decode cX1_make 21 = .ok (.invokestatic 23, 3) := by decide +kernel
theorem dX1_make_24 : decode cX1_make 24 = .ok (.return_, 1) := by decide +kernel
theorem dX1_refusal_0 : decode cX1_refusal 0 = .ok (.aload_n 0, 1) := by decide +kernel
theorem dX1_refusal_1 : decode cX1_refusal 1 = .ok (.getfield 9, 3) := by decide +kernel
theorem dX1_refusal_4 : decode cX1_refusal 4 = .ok (.iload_n 1, 1) := by decide +kernel
theorem dX1_refusal_5 : decode cX1_refusal 5 = .ok (.iaload, 1) := by decide +kernel
theorem dX1_refusal_6 : decode cX1_refusal 6 = .ok (.iconst (-1), 1) := by decide +kernel
theorem dX1_refusal_7 : decode cX1_refusal 7 = .ok (.if_icmp .ne 6, 3) := by decide +kernel
theorem dX1_refusal_10 : decode cX1_refusal 10 = .ok (.bipush 10, 2) := by decide +kernel
theorem dX1_refusal_12 : decode cX1_refusal 12 = .ok (.ireturn, 1) := by decide +kernel
theorem dX1_refusal_13 : decode cX1_refusal 13 = .ok (.aload_n 0, 1) := by decide +kernel
theorem dX1_refusal_14 : decode cX1_refusal 14 = .ok (.getfield 9, 3) := by decide +kernel
theorem dX1_refusal_17 : decode cX1_refusal 17 = .ok (.iload_n 1, 1) := by decide +kernel
theorem dX1_refusal_18 : decode cX1_refusal 18 = .ok (.iaload, 1) := by decide +kernel
theorem dX1_refusal_19 : decode cX1_refusal 19 = .ok (.iload_n 2, 1) := by decide +kernel
theorem dX1_refusal_20 : decode cX1_refusal 20 = .ok (.if_icmp .eq 6, 3) := by decide +kernel
theorem dX1_refusal_23 : decode cX1_refusal 23 = .ok (.bipush 11, 2) := by decide +kernel
theorem dX1_refusal_25 : decode cX1_refusal 25 = .ok (.ireturn, 1) := by decide +kernel
theorem dX1_refusal_26 : decode cX1_refusal 26 = .ok (.iload_n 3, 1) := by decide +kernel
theorem dX1_refusal_27 : decode cX1_refusal 27 = .ok (.ifCond .lt 21, 3) := by decide +kernel
theorem dX1_refusal_30 : decode cX1_refusal 30 = .ok (.iload 4, 2) := by decide +kernel
theorem dX1_refusal_32 : decode cX1_refusal 32 = .ok (.ifCond .lt 16, 3) := by decide +kernel
theorem dX1_refusal_35 : decode cX1_refusal 35 = .ok (.iload_n 3, 1) := by decide +kernel
theorem dX1_refusal_36 : decode cX1_refusal 36 = .ok (.aload_n 0, 1) := by decide +kernel
theorem dX1_refusal_37 : decode cX1_refusal 37 = .ok (.getfield 15, 3) := by decide +kernel
theorem dX1_refusal_40 : decode cX1_refusal 40 = .ok (.iload_n 1, 1) := by decide +kernel
theorem dX1_refusal_41 : decode cX1_refusal 41 = .ok (.iaload, 1) := by decide +kernel
theorem dX1_refusal_42 : decode cX1_refusal 42 = .ok (.iload 4, 2) := by decide +kernel
theorem dX1_refusal_44 : decode cX1_refusal 44 = .ok (.isub, 1) := by decide +kernel
theorem dX1_refusal_45 : decode cX1_refusal 45 = .ok (.if_icmp .le 6, 3) := by decide +kernel
theorem dX1_refusal_48 : decode cX1_refusal 48 = .ok (.bipush 12, 2) := by decide +kernel
theorem dX1_refusal_50 : decode cX1_refusal 50 = .ok (.ireturn, 1) := by decide +kernel
theorem dX1_refusal_51 : decode cX1_refusal 51 = .ok (.iconst 0, 1) := by decide +kernel
theorem dX1_refusal_52 : decode cX1_refusal 52 = .ok (.ireturn, 1) := by decide +kernel
set_option maxRecDepth 20000 in
theorem ggX2_init_X5_init : GoodIn wsX2_init wsX5_init := goodIn_r _ [21, 22, 2, 3, 6, 23, 42, 43] (by decide +kernel) (by decide +kernel)
set_option maxRecDepth 20000 in
theorem gX2_init_X5_init_n44 : GoodIn wsX2_init (wsX5_init) := ggX2_init_X5_init
theorem dX2_init_0 : decode cX2_init 0 = .ok (.aload_n 0, 1) := by decide +kernel
theorem dX2_init_1 : decode cX2_init 1 = .ok (.invokespecial 3, 3) := by decide +kernel
theorem dX2_init_4 : decode cX2_init 4 = .ok (.aload_n 0, 1) := by decide +kernel
theorem dX2_init_5 : decode cX2_init 5 = .ok (.bipush 10, 2) := by decide +kernel
theorem dX2_init_7 : decode cX2_init 7 = .ok (.anewarray 9, 3) := by decide +kernel
theorem dX2_init_10 : decode cX2_init 10 = .ok (.putfield 11, 3) := by decide +kernel
theorem dX2_init_13 : decode cX2_init 13 = .ok (.aload_n 0, 1) := by decide +kernel
theorem dX2_init_14 : decode cX2_init 14 = .ok (.bipush 10, 2) := by decide +kernel
theorem dX2_init_16 : decode cX2_init 16 = .ok (.newarray .int, 2) := by decide +kernel
theorem dX2_init_18 : decode cX2_init 18 = .ok (.putfield 17, 3) := by decide +kernel
theorem dX2_init_21 : decode cX2_init 21 = .ok (.aload_n 0, 1) := by decide +kernel
theorem dX2_init_22 : decode cX2_init 22 = .ok (.bipush 10, 2) := by decide +kernel
theorem dX2_init_24 : decode cX2_init 24 = .ok (.newarray .int, 2) := by decide +kernel
theorem dX2_init_26 : decode cX2_init 26 = .ok (.putfield 21, 3) := by decide +kernel
theorem dX2_init_29 : decode cX2_init 29 = .ok (.aload_n 0, 1) := by decide +kernel
theorem dX2_init_30 : decode cX2_init 30 = .ok (.bipush 10, 2) := by decide +kernel
theorem dX2_init_32 : decode cX2_init 32 = .ok (.newarray .int, 2) := by decide +kernel
theorem dX2_init_34 : decode cX2_init 34 = .ok (.putfield 24, 3) := by decide +kernel
theorem dX2_init_37 : decode cX2_init 37 = .ok (.aload_n 0, 1) := by decide +kernel
theorem dX2_init_38 : decode cX2_init 38 = .ok (.bipush 16, 2) := by decide +kernel
theorem dX2_init_40 : decode cX2_init 40 = .ok (.newarray .int, 2) := by decide +kernel
theorem dX2_init_42 : decode cX2_init 42 = .ok (.putfield 27, 3) := by decide +kernel
theorem dX2_init_45 : decode cX2_init 45 = .ok (.aload_n 0, 1) := by decide +kernel
theorem dX2_init_46 : decode cX2_init 46 = .ok (.bipush 16, 2) := by decide +kernel
theorem dX2_init_48 : decode cX2_init 48 = .ok (.newarray .int, 2) := by decide +kernel
theorem dX2_init_50 : decode cX2_init 50 = .ok (.putfield 30, 3) := by decide +kernel
theorem dX2_init_53 : decode cX2_init 53 = .ok (.aload_n 0, 1) := by decide +kernel
theorem dX2_init_54 : decode cX2_init 54 = .ok (.bipush 16, 2) := by decide +kernel
theorem dX2_init_56 : decode cX2_init 56 = .ok (.newarray .int, 2) := by decide +kernel
theorem dX2_init_58 : decode cX2_init 58 = .ok (.putfield 33, 3) := by decide +kernel
theorem dX2_init_61 : decode cX2_init 61 = .ok (.aload_n 0, 1) := by decide +kernel
theorem dX2_init_62 : decode cX2_init 62 = .ok (.bipush 16, 2) := by decide +kernel
theorem dX2_init_64 : decode cX2_init 64 = .ok (.newarray .int, 2) := by decide +kernel
theorem dX2_init_66 : decode cX2_init 66 = .ok (.putfield 36, 3) := by decide +kernel
theorem dX2_init_69 : decode cX2_init 69 = .ok (.aload_n 0, 1) := by decide +kernel
theorem dX2_init_70 : decode cX2_init 70 = .ok (.bipush 10, 2) := by decide +kernel
theorem dX2_init_72 : decode cX2_init 72 = .ok (.newarray .int, 2) := by decide +kernel
theorem dX2_init_74 : decode cX2_init 74 = .ok (.putfield 39, 3) := by decide +kernel
theorem dX2_init_77 : decode cX2_init 77 = .ok (.aload_n 0, 1) := by decide +kernel
theorem dX2_init_78 : decode cX2_init 78 = .ok (.new 42, 3) := by decide +kernel
theorem dX2_init_81 : decode cX2_init 81 = .ok (.dup, 1) := by decide +kernel
theorem dX2_init_82 : decode cX2_init 82 = .ok (.invokespecial 44, 3) := by decide +kernel
theorem dX2_init_85 : decode cX2_init 85 = .ok (.putfield 45, 3) := by decide +kernel
theorem dX2_init_88 : decode cX2_init 88 = .ok (.aload_n 0, 1) := by decide +kernel
theorem dX2_init_89 : decode cX2_init 89 = .ok (.iconst (-1), 1) := by decide +kernel
theorem dX2_init_90 : decode cX2_init 90 = .ok (.putfield 49, 3) := by decide +kernel
theorem dX2_init_93 : decode cX2_init 93 = .ok (.return_, 1) := by decide +kernel
theorem dX2_hasPlace_0 : decode cX2_hasPlace 0 = .ok (.iload_n 1, 1) := by decide +kernel
theorem dX2_hasPlace_1 : decode cX2_hasPlace 1 = .ok (.ifCond .lt 15, 3) := by decide +kernel
theorem dX2_hasPlace_4 : decode cX2_hasPlace 4 = .ok (.iload_n 1, 1) := by decide +kernel
theorem dX2_hasPlace_5 : decode cX2_hasPlace 5 = .ok (.aload_n 0, 1) := by decide +kernel
theorem dX2_hasPlace_6 : decode cX2_hasPlace 6 = .ok (.getfield 53, 3) := by decide +kernel
theorem dX2_hasPlace_9 : decode cX2_hasPlace 9 = .ok (.if_icmp .ge 7, 3) := by decide +kernel
theorem dX2_hasPlace_12 : decode cX2_hasPlace 12 = .ok (.iconst 1, 1) := by decide +kernel
theorem dX2_hasPlace_13 : decode cX2_hasPlace 13 = .ok (.goto 4, 3) := by decide +kernel
theorem dX2_hasPlace_16 : decode cX2_hasPlace 16 = .ok (.iconst 0, 1) := by decide +kernel
theorem dX2_hasPlace_17 : decode cX2_hasPlace 17 = .ok (.ireturn, 1) := by decide +kernel
theorem dX2_hasStreet_0 : decode cX2_hasStreet 0 = .ok (.iload_n 1, 1) := by decide +kernel
theorem dX2_hasStreet_1 : decode cX2_hasStreet 1 = .ok (.ifCond .lt 15, 3) := by decide +kernel
theorem dX2_hasStreet_4 : decode cX2_hasStreet 4 = .ok (.iload_n 1, 1) := by decide +kernel
theorem dX2_hasStreet_5 : decode cX2_hasStreet 5 = .ok (.aload_n 0, 1) := by decide +kernel
theorem dX2_hasStreet_6 : decode cX2_hasStreet 6 = .ok (.getfield 56, 3) := by decide +kernel
theorem dX2_hasStreet_9 : decode cX2_hasStreet 9 = .ok (.if_icmp .ge 7, 3) := by decide +kernel
theorem dX2_hasStreet_12 : decode cX2_hasStreet 12 = .ok (.iconst 1, 1) := by decide +kernel
theorem dX2_hasStreet_13 : decode cX2_hasStreet 13 = .ok (.goto 4, 3) := by decide +kernel
theorem dX2_hasStreet_16 : decode cX2_hasStreet 16 = .ok (.iconst 0, 1) := by decide +kernel
theorem dX2_hasStreet_17 : decode cX2_hasStreet 17 = .ok (.ireturn, 1) := by decide +kernel
set_option maxRecDepth 20000 in
theorem ggX2_isThere_X11_bitAt : GoodIn wsX2_isThere wsX11_bitAt := goodIn_r _ [4] (by decide +kernel) (by decide +kernel)
set_option maxRecDepth 20000 in
theorem gX2_isThere_X11_bitAt_n62 : GoodIn wsX2_isThere (wsX11_bitAt) := ggX2_isThere_X11_bitAt
theorem dX2_isThere_0 : decode cX2_isThere 0 = .ok (.aload_n 0, 1) := by decide +kernel
theorem dX2_isThere_1 : decode cX2_isThere 1 = .ok (.getfield 59, 3) := by decide +kernel
theorem dX2_isThere_4 : decode cX2_isThere 4 = .ok (.iload_n 1, 1) := by decide +kernel
theorem dX2_isThere_5 : decode cX2_isThere 5 = .ok (.invokestatic 62, 3) := by decide +kernel
theorem dX2_isThere_8 : decode cX2_isThere 8 = .ok (.iconst 1, 1) := by decide +kernel
theorem dX2_isThere_9 : decode cX2_isThere 9 = .ok (.if_icmp .ne 7, 3) := by decide +kernel
theorem dX2_isThere_12 : decode cX2_isThere 12 = .ok (.iconst 1, 1) := by decide +kernel
theorem dX2_isThere_13 : decode cX2_isThere 13 = .ok (.goto 4, 3) := by decide +kernel
theorem dX2_isThere_16 : decode cX2_isThere 16 = .ok (.iconst 0, 1) := by decide +kernel
theorem dX2_isThere_17 : decode cX2_isThere 17 = .ok (.ireturn, 1) := by decide +kernel
set_option maxRecDepth 20000 in
theorem ggX2_isTap_X11_bitAt : GoodIn wsX2_isTap wsX11_bitAt := goodIn_r _ [4] (by decide +kernel) (by decide +kernel)
set_option maxRecDepth 20000 in
theorem gX2_isTap_X11_bitAt_n62 : GoodIn wsX2_isTap (wsX11_bitAt) := ggX2_isTap_X11_bitAt
theorem dX2_isTap_0 : decode cX2_isTap 0 = .ok (.aload_n 0, 1) := by decide +kernel
theorem dX2_isTap_1 : decode cX2_isTap 1 = .ok (.getfield 66, 3) := by decide +kernel
theorem dX2_isTap_4 : decode cX2_isTap 4 = .ok (.iload_n 1, 1) := by decide +kernel
theorem dX2_isTap_5 : decode cX2_isTap 5 = .ok (.invokestatic 62, 3) := by decide +kernel
theorem dX2_isTap_8 : decode cX2_isTap 8 = .ok (.iconst 1, 1) := by decide +kernel
theorem dX2_isTap_9 : decode cX2_isTap 9 = .ok (.if_icmp .ne 7, 3) := by decide +kernel
theorem dX2_isTap_12 : decode cX2_isTap 12 = .ok (.iconst 1, 1) := by decide +kernel
theorem dX2_isTap_13 : decode cX2_isTap 13 = .ok (.goto 4, 3) := by decide +kernel
theorem dX2_isTap_16 : decode cX2_isTap 16 = .ok (.iconst 0, 1) := by decide +kernel
theorem dX2_isTap_17 : decode cX2_isTap 17 = .ok (.ireturn, 1) := by decide +kernel
set_option maxRecDepth 20000 in
theorem ggX2_placeAt_X2_hasPlace : GoodIn wsX2_placeAt wsX2_hasPlace := goodIn_r _ [6, 7, 8, 9, 10, 11, 12, 13, 14, 15, 16, 17, 18, 19, 20, 21, 22, 23, 24, 25] (by decide +kernel) (by decide +kernel)
set_option maxRecDepth 20000 in
theorem gX2_placeAt_X2_hasPlace : GoodIn wsX2_placeAt (wsV RX2 69 RX2 yX2_hasPlace wsX2_hasPlace) := goodIn_app (goodIn_of _ (by decide +kernel)) ggX2_placeAt_X2_hasPlace
theorem dX2_placeAt_0 : decode cX2_placeAt 0 = .ok (.aload_n 0, 1) := by decide +kernel
theorem dX2_placeAt_1 : decode cX2_placeAt 1 = .ok (.iload_n 1, 1) := by decide +kernel
theorem dX2_placeAt_2 : decode cX2_placeAt 2 = .ok (.invokevirtual 69, 3) := by decide +kernel
theorem dX2_placeAt_5 : decode cX2_placeAt 5 = .ok (.ifCond .eq 12, 3) := by decide +kernel
theorem dX2_placeAt_8 : decode cX2_placeAt 8 = .ok (.aload_n 0, 1) := by decide +kernel
theorem dX2_placeAt_9 : decode cX2_placeAt 9 = .ok (.getfield 11, 3) := by decide +kernel
theorem dX2_placeAt_12 : decode cX2_placeAt 12 = .ok (.iload_n 1, 1) := by decide +kernel
theorem dX2_placeAt_13 : decode cX2_placeAt 13 = .ok (.aaload, 1) := by decide +kernel
theorem dX2_placeAt_14 : decode cX2_placeAt 14 = .ok (.goto 4, 3) := by decide +kernel
theorem dX2_placeAt_17 : decode cX2_placeAt 17 = .ok (.aconst_null, 1) := by decide +kernel
theorem dX2_placeAt_18 : decode cX2_placeAt 18 = .ok (.areturn, 1) := by decide +kernel
set_option maxRecDepth 20000 in
theorem ggX2_streetsAt_J6_bitCount_0f7a4 : GoodIn wsX2_streetsAt wsJ6_bitCount_0f7a4 := goodIn_r _ [5, 6, 7, 8] (by decide +kernel) (by decide +kernel)
set_option maxRecDepth 20000 in
theorem gX2_streetsAt_J6_bitCount_0f7a4 : GoodIn wsX2_streetsAt (va_wsS RX2 73 yJ6_bitCount_0f7a4 wsJ6_bitCount_0f7a4) := goodIn_app (goodIn_of _ (by decide +kernel)) ggX2_streetsAt_J6_bitCount_0f7a4
theorem dX2_streetsAt_0 : decode cX2_streetsAt 0 = .ok (.aload_n 0, 1) := by decide +kernel
theorem dX2_streetsAt_1 : decode cX2_streetsAt 1 = .ok (.getfield 24, 3) := by decide +kernel
theorem dX2_streetsAt_4 : decode cX2_streetsAt 4 = .ok (.iload_n 1, 1) := by decide +kernel
theorem dX2_streetsAt_5 : decode cX2_streetsAt 5 = .ok (.iaload, 1) := by decide +kernel
theorem dX2_streetsAt_6 : decode cX2_streetsAt 6 = .ok (.invokestatic 73, 3) := by decide +kernel
theorem dX2_streetsAt_9 : decode cX2_streetsAt 9 = .ok (.ireturn, 1) := by decide +kernel
set_option maxRecDepth 20000 in
theorem ggX2_mayJoin_X2_hasPlace : GoodIn wsX2_mayJoin wsX2_hasPlace := goodIn_r _ [5, 6, 10, 11, 12, 13, 14, 15, 16, 17, 18, 19, 20, 21, 22, 23, 24, 25, 26, 27] (by decide +kernel) (by decide +kernel)
set_option maxRecDepth 20000 in
theorem gX2_mayJoin_X2_hasPlace : GoodIn wsX2_mayJoin (wsV RX2 69 RX2 yX2_hasPlace wsX2_hasPlace) := goodIn_app (goodIn_of _ (by decide +kernel)) ggX2_mayJoin_X2_hasPlace
set_option maxRecDepth 20000 in
theorem ggX2_mayJoin_X11_isAmount : GoodIn wsX2_mayJoin wsX11_isAmount := goodIn_r _ [9] (by decide +kernel) (by decide +kernel)
set_option maxRecDepth 20000 in
theorem gX2_mayJoin_X11_isAmount_n79 : GoodIn wsX2_mayJoin (wsX11_isAmount) := ggX2_mayJoin_X11_isAmount
theorem dX2_mayJoin_0 : decode cX2_mayJoin 0 = .ok (.aload_n 0, 1) := by decide +kernel
theorem dX2_mayJoin_1 : decode cX2_mayJoin 1 = .ok (.iload_n 1, 1) := by decide +kernel
theorem dX2_mayJoin_2 : decode cX2_mayJoin 2 = .ok (.invokevirtual 69, 3) := by decide +kernel
theorem dX2_mayJoin_5 : decode cX2_mayJoin 5 = .ok (.ifCond .eq 27, 3) := by decide +kernel
theorem dX2_mayJoin_8 : decode cX2_mayJoin 8 = .ok (.aload_n 0, 1) := by decide +kernel
theorem dX2_mayJoin_9 : decode cX2_mayJoin 9 = .ok (.iload_n 2, 1) := by decide +kernel
theorem dX2_mayJoin_10 : decode cX2_mayJoin 10 = .ok (.invokevirtual 69, 3) := by decide +kernel
theorem dX2_mayJoin_13 : decode cX2_mayJoin 13 = .ok (.ifCond .eq 19, 3) := by decide +kernel
theorem dX2_mayJoin_16 : decode cX2_mayJoin 16 = .ok (.iload_n 1, 1) := by decide +kernel
theorem dX2_mayJoin_17 : decode cX2_mayJoin 17 = .ok (.iload_n 2, 1) := by decide +kernel
theorem dX2_mayJoin_18 : decode cX2_mayJoin 18 = .ok (.if_icmp .eq 14, 3) := by decide +kernel
theorem dX2_mayJoin_21 : decode cX2_mayJoin 21 = .ok (.iload_n 3, 1) := by decide +kernel
theorem dX2_mayJoin_22 : decode cX2_mayJoin 22 = .ok (.invokestatic 79, 3) := by decide +kernel
theorem dX2_mayJoin_25 : decode cX2_mayJoin 25 = .ok (.ifCond .eq 7, 3) := by decide +kernel
theorem dX2_mayJoin_28 : decode cX2_mayJoin 28 = .ok (.iconst 1, 1) := by decide +kernel
theorem dX2_mayJoin_29 : decode cX2_mayJoin 29 = .ok (.goto 4, 3) := by decide +kernel
theorem dX2_mayJoin_32 : decode cX2_mayJoin 32 = .ok (.iconst 0, 1) := by decide +kernel
theorem dX2_mayJoin_33 : decode cX2_mayJoin 33 = .ok (.ireturn, 1) := by decide +kernel
set_option maxRecDepth 20000 in
theorem ggX2_addPlace_X2_newPlace : GoodIn wsX2_addPlace wsX2_newPlace := goodIn_r _ [11, 12, 13, 14, 15, 16, 17, 18, 19, 20, 21, 22, 23, 24, 25, 26, 27, 28, 29, 30, 31, 32, 33, 34, 35, 36, 37, 38, 39, 40, 41, 42, 43, 44, 45, 46, 47, 48, 49, 50, 51, 52, 82, 83, 84, 85, 64, 65, 66, 67, 68, 69, 70, 71, 72, 73, 74, 75, 76, 77, 78, 79, 80, 81, 86, 87, 88, 89, 90, 91, 92, 93, 94, 95, 96, 97, 98, 99, 100, 101] (by decide +kernel) (by decide +kernel)
set_option maxRecDepth 20000 in
theorem gX2_addPlace_X2_newPlace : GoodIn wsX2_addPlace (wsV RX2 82 RX2 yX2_newPlace wsX2_newPlace) := goodIn_app (goodIn_of _ (by decide +kernel)) ggX2_addPlace_X2_newPlace
set_option maxRecDepth 20000 in
theorem ggX2_addPlace_X2_note : GoodIn wsX2_addPlace wsX2_note := goodIn_r _ [56, 57, 58, 59, 60, 61, 62, 63, 64, 65, 66, 67, 68, 69, 70, 71, 72, 73, 74, 75, 76, 77, 78, 79, 80, 81] (by decide +kernel) (by decide +kernel)
set_option maxRecDepth 20000 in
theorem gX2_addPlace_X2_note : GoodIn wsX2_addPlace (wsV RX2 86 RX2 yX2_note wsX2_note) := goodIn_app (goodIn_of _ (by decide +kernel)) ggX2_addPlace_X2_note
theorem dX2_addPlace_0 : decode cX2_addPlace 0 = .ok (.aload_n 0, 1) := by decide +kernel
theorem dX2_addPlace_1 : decode cX2_addPlace 1 = .ok (.getfield 53, 3) := by decide +kernel
theorem dX2_addPlace_4 : decode cX2_addPlace 4 = .ok (.istore_n 3, 1) := by decide +kernel
theorem dX2_addPlace_5 : decode cX2_addPlace 5 = .ok (.aload_n 0, 1) := by decide +kernel
theorem dX2_addPlace_6 : decode cX2_addPlace 6 = .ok (.getfield 11, 3) := by decide +kernel
theorem dX2_addPlace_9 : decode cX2_addPlace 9 = .ok (.iload_n 3, 1) := by decide +kernel
theorem dX2_addPlace_10 : decode cX2_addPlace 10 = .ok (.aload_n 0, 1) := by decide +kernel
theorem dX2_addPlace_11 : decode cX2_addPlace 11 = .ok (.iload_n 1, 1) := by decide +kernel
theorem dX2_addPlace_12 : decode cX2_addPlace 12 = .ok (.iload_n 3, 1) := by decide +kernel
theorem dX2_addPlace_13 : decode cX2_addPlace 13 = .ok (.iload_n 2, 1) := by decide +kernel
theorem dX2_addPlace_14 : decode cX2_addPlace 14 = .ok (.invokevirtual 82, 3) := by decide +kernel
theorem dX2_addPlace_17 : decode cX2_addPlace 17 = .ok (.aastore, 1) := by decide +kernel
theorem dX2_addPlace_18 : decode cX2_addPlace 18 = .ok (.aload_n 0, 1) := by decide +kernel
theorem dX2_addPlace_19 : decode cX2_addPlace 19 = .ok (.getfield 17, 3) := by decide +kernel
theorem dX2_addPlace_22 : decode cX2_addPlace 22 = .ok (.iload_n 3, 1) := by decide +kernel
theorem dX2_addPlace_23 : decode cX2_addPlace 23 = .ok (.iload_n 1, 1) := by decide +kernel
theorem dX2_addPlace_24 : decode cX2_addPlace 24 = .ok (.iconst 4, 1) := by decide +kernel
theorem dX2_addPlace_25 : decode cX2_addPlace 25 = .ok (.if_icmp .ne 7, 3) := by decide +kernel
theorem dX2_addPlace_28 : decode cX2_addPlace 28 = .ok (.iload_n 2, 1) := by decide +kernel
theorem dX2_addPlace_29 : decode cX2_addPlace 29 = .ok (.goto 4, 3) := by decide +kernel
theorem dX2_addPlace_32 : decode cX2_addPlace 32 = .ok (.iconst 0, 1) := by decide +kernel
theorem dX2_addPlace_33 : decode cX2_addPlace 33 = .ok (.iastore, 1) := by decide +kernel
theorem dX2_addPlace_34 : decode cX2_addPlace 34 = .ok (.aload_n 0, 1) := by decide +kernel
theorem dX2_addPlace_35 : decode cX2_addPlace 35 = .ok (.getfield 21, 3) := by decide +kernel
theorem dX2_addPlace_38 : decode cX2_addPlace 38 = .ok (.iload_n 3, 1) := by decide +kernel
theorem dX2_addPlace_39 : decode cX2_addPlace 39 = .ok (.iload_n 1, 1) := by decide +kernel
theorem dX2_addPlace_40 : decode cX2_addPlace 40 = .ok (.iconst 2, 1) := by decide +kernel
theorem dX2_addPlace_41 : decode cX2_addPlace 41 = .ok (.if_icmp .ne 7, 3) := by decide +kernel
theorem dX2_addPlace_44 : decode cX2_addPlace 44 = .ok (.iload_n 2, 1) := by decide +kernel
theorem dX2_addPlace_45 : decode cX2_addPlace 45 = .ok (.goto 4, 3) := by decide +kernel
theorem dX2_addPlace_48 : decode cX2_addPlace 48 = .ok (.iconst 0, 1) := by decide +kernel
theorem dX2_addPlace_49 : decode cX2_addPlace 49 = .ok (.iastore, 1) := by decide +kernel
theorem dX2_addPlace_50 : decode cX2_addPlace 50 = .ok (.iload_n 1, 1) := by decide +kernel
theorem dX2_addPlace_51 : decode cX2_addPlace 51 = .ok (.iconst 1, 1) := by decide +kernel
theorem dX2_addPlace_52 : decode cX2_addPlace 52 = .ok (.if_icmp .eq 8, 3) := by decide +kernel
theorem dX2_addPlace_55 : decode cX2_addPlace 55 = .ok (.iload_n 1, 1) := by decide +kernel
theorem dX2_addPlace_56 : decode cX2_addPlace 56 = .ok (.iconst 3, 1) := by decide +kernel
theorem dX2_addPlace_57 : decode cX2_addPlace 57 = .ok (.if_icmp .ne 15, 3) := by decide +kernel
theorem dX2_addPlace_60 : decode cX2_addPlace 60 = .ok (.aload_n 0, 1) := by decide +kernel
theorem dX2_addPlace_61 : decode cX2_addPlace 61 = .ok (.dup, 1) := by decide +kernel
theorem dX2_addPlace_62 : decode cX2_addPlace 62 = .ok (.getfield 66, 3) := by decide +kernel
theorem dX2_addPlace_65 : decode cX2_addPlace 65 = .ok (.iconst 1, 1) := by decide +kernel
theorem dX2_addPlace_66 : decode cX2_addPlace 66 = .ok (.iload_n 3, 1) := by decide +kernel
theorem dX2_addPlace_67 : decode cX2_addPlace 67 = .ok (.ishl, 1) := by decide +kernel
theorem dX2_addPlace_68 : decode cX2_addPlace 68 = .ok (.ior, 1) := by decide +kernel
theorem dX2_addPlace_69 : decode cX2_addPlace 69 = .ok (.putfield 66, 3) := by decide +kernel
theorem dX2_addPlace_72 : decode cX2_addPlace 72 = .ok (.iload_n 1, 1) := by decide +kernel
theorem dX2_addPlace_73 : decode cX2_addPlace 73 = .ok (.iconst 3, 1) := by decide +kernel
theorem dX2_addPlace_74 : decode cX2_addPlace 74 = .ok (.if_icmp .ne 8, 3) := by decide +kernel
theorem dX2_addPlace_77 : decode cX2_addPlace 77 = .ok (.aload_n 0, 1) := by decide +kernel
theorem dX2_addPlace_78 : decode cX2_addPlace 78 = .ok (.iload_n 3, 1) := by decide +kernel
theorem dX2_addPlace_79 : decode cX2_addPlace 79 = .ok (.putfield 49, 3) := by decide +kernel
theorem dX2_addPlace_82 : decode cX2_addPlace 82 = .ok (.aload_n 0, 1) := by decide +kernel
theorem dX2_addPlace_83 : decode cX2_addPlace 83 = .ok (.dup, 1) := by decide +kernel
theorem dX2_addPlace_84 : decode cX2_addPlace 84 = .ok (.getfield 53, 3) := by decide +kernel
theorem dX2_addPlace_87 : decode cX2_addPlace 87 = .ok (.iconst 1, 1) := by decide +kernel
theorem dX2_addPlace_88 : decode cX2_addPlace 88 = .ok (.iadd, 1) := by decide +kernel
theorem dX2_addPlace_89 : decode cX2_addPlace 89 = .ok (.putfield 53, 3) := by decide +kernel
theorem dX2_addPlace_92 : decode cX2_addPlace 92 = .ok (.aload_n 0, 1) := by decide +kernel
theorem dX2_addPlace_93 : decode cX2_addPlace 93 = .ok (.iconst (-1), 1) := by decide +kernel
theorem dX2_addPlace_94 : decode cX2_addPlace 94 = .ok (.invokevirtual 86, 3) := by decide +kernel
theorem dX2_addPlace_97 : decode cX2_addPlace 97 = .ok (.iload_n 3, 1) := by decide +kernel
theorem dX2_addPlace_98 : decode cX2_addPlace 98 = .ok (.ireturn, 1) := by decide +kernel
set_option maxRecDepth 20000 in
theorem ggX2_newPlace_X4_init : GoodIn wsX2_newPlace wsX4_init := goodIn_r _ [19, 20, 21, 16, 22, 23, 24, 25, 26, 27, 28, 72, 73, 74, 75, 76, 77, 78, 79, 42, 43, 44, 45, 68, 69, 70, 71, 64, 65, 66, 67] (by decide +kernel) (by decide +kernel)
set_option maxRecDepth 20000 in
theorem gX2_newPlace_X4_init : GoodIn wsX2_newPlace (wsX4_init) := ggX2_newPlace_X4_init
set_option maxRecDepth 20000 in
theorem ggX2_newPlace_X10_init : GoodIn wsX2_newPlace wsX10_init := goodIn_r _ [31, 32, 21, 16, 22, 23, 24, 25, 26, 27, 28, 72, 73, 74, 75, 76, 77, 78, 79, 42, 43, 44, 45, 68, 69, 70, 71, 64, 65, 66, 67] (by decide +kernel) (by decide +kernel)
set_option maxRecDepth 20000 in
theorem gX2_newPlace_X10_init : GoodIn wsX2_newPlace (wsX10_init) := ggX2_newPlace_X10_init
set_option maxRecDepth 20000 in
theorem ggX2_newPlace_X9_init : GoodIn wsX2_newPlace wsX9_init := goodIn_r _ [35, 36, 18, 3, 19, 20, 21, 16, 22, 23, 24, 25, 26, 27, 28, 72, 73, 74, 75, 76, 77, 78, 79, 42, 43, 44, 45, 68, 69, 70, 71, 64, 65, 66, 67] (by decide +kernel) (by decide +kernel)
set_option maxRecDepth 20000 in
theorem gX2_newPlace_X9_init : GoodIn wsX2_newPlace (wsX9_init) := ggX2_newPlace_X9_init
set_option maxRecDepth 20000 in
theorem ggX2_newPlace_X0_init : GoodIn wsX2_newPlace wsX0_init := goodIn_r _ [39, 40, 21, 16, 22, 23, 24, 25, 26, 27, 28, 72, 73, 74, 75, 76, 77, 78, 79, 42, 43, 44, 45, 68, 69, 70, 71, 64, 65, 66, 67] (by decide +kernel) (by decide +kernel)
set_option maxRecDepth 20000 in
theorem gX2_newPlace_X0_init : GoodIn wsX2_newPlace (wsX0_init) := ggX2_newPlace_X0_init
set_option maxRecDepth 20000 in
theorem ggX2_newPlace_X3_init : GoodIn wsX2_newPlace wsX3_init := goodIn_r _ [22, 23, 24, 25, 26, 27, 28, 72, 73, 74, 75, 76, 77, 78, 79, 42, 43, 44, 45, 68, 69, 70, 71, 64, 65, 66, 67] (by decide +kernel) (by decide +kernel)
set_option maxRecDepth 20000 in
theorem gX2_newPlace_X3_init : GoodIn wsX2_newPlace (wsX3_init) := ggX2_newPlace_X3_init
theorem dX2_newPlace_0 : decode cX2_newPlace 0 = .ok (.iload_n 1, 1) := by decide +kernel
theorem dX2_newPlace_1 : decode cX2_newPlace 1 = .ok (.tableswitch 87 1 4 #[31, 45, 59, 73], 31) := by decide +kernel
theorem dX2_newPlace_32 : decode cX2_newPlace 32 = .ok (.new 90, 3) := by decide +kernel
theorem dX2_newPlace_35 : decode cX2_newPlace 35 = .ok (.dup, 1) := by decide +kernel
theorem dX2_newPlace_36 : decode cX2_newPlace 36 = .ok (.iload_n 2, 1) := by decide +kernel
theorem dX2_newPlace_37 : decode cX2_newPlace 37 = .ok (.iload_n 3, 1) := by decide +kernel
theorem dX2_newPlace_38 : decode cX2_newPlace 38 = .ok (.aload_n 0, 1) := by decide +kernel
theorem dX2_newPlace_39 : decode cX2_newPlace 39 = .ok (.getfield 45, 3) := by decide +kernel
theorem dX2_newPlace_42 : decode cX2_newPlace 42 = .ok (.invokespecial 92, 3) := by decide +kernel
theorem dX2_newPlace_45 : decode cX2_newPlace 45 = .ok (.areturn, 1) := by decide +kernel
theorem dX2_newPlace_46 : decode cX2_newPlace 46 = .ok (.new 95, 3) := by decide +kernel
theorem dX2_newPlace_49 : decode cX2_newPlace 49 = .ok (.dup, 1) := by decide +kernel
theorem dX2_newPlace_50 : decode cX2_newPlace 50 = .ok (.iload_n 2, 1) := by decide +kernel
theorem dX2_newPlace_51 : decode cX2_newPlace 51 = .ok (.iload_n 3, 1) := by decide +kernel
theorem dX2_newPlace_52 : decode cX2_newPlace 52 = .ok (.aload_n 0, 1) := by decide +kernel
theorem dX2_newPlace_53 : decode cX2_newPlace 53 = .ok (.getfield 45, 3) := by decide +kernel
theorem dX2_newPlace_56 : decode cX2_newPlace 56 = .ok (.invokespecial 97, 3) := by decide +kernel
theorem dX2_newPlace_59 : decode cX2_newPlace 59 = .ok (.areturn, 1) := by decide +kernel
theorem dX2_newPlace_60 : decode cX2_newPlace 60 = .ok (.new 98, 3) := by decide +kernel
theorem dX2_newPlace_63 : decode cX2_newPlace 63 = .ok (.dup, 1) := by decide +kernel
theorem dX2_newPlace_64 : decode cX2_newPlace 64 = .ok (.iload_n 2, 1) := by decide +kernel
theorem dX2_newPlace_65 : decode cX2_newPlace 65 = .ok (.iload_n 3, 1) := by decide +kernel
theorem dX2_newPlace_66 : decode cX2_newPlace 66 = .ok (.aload_n 0, 1) := by decide +kernel
theorem dX2_newPlace_67 : decode cX2_newPlace 67 = .ok (.getfield 45, 3) := by decide +kernel
theorem dX2_newPlace_70 : decode cX2_newPlace 70 = .ok (.invokespecial 100, 3) := by decide +kernel
theorem dX2_newPlace_73 : decode cX2_newPlace 73 = .ok (.areturn, 1) := by decide +kernel
theorem dX2_newPlace_74 : decode cX2_newPlace 74 = .ok (.new 101, 3) := by decide +kernel
theorem dX2_newPlace_77 : decode cX2_newPlace 77 = .ok (.dup, 1) := by decide +kernel
theorem dX2_newPlace_78 : decode cX2_newPlace 78 = .ok (.iload_n 2, 1) := by decide +kernel
theorem dX2_newPlace_79 : decode cX2_newPlace 79 = .ok (.iload_n 3, 1) := by decide +kernel
theorem dX2_newPlace_80 : decode cX2_newPlace 80 = .ok (.aload_n 0, 1) := by decide +kernel
theorem dX2_newPlace_81 : decode cX2_newPlace 81 = .ok (.getfield 45, 3) := by decide +kernel
theorem dX2_newPlace_84 : decode cX2_newPlace 84 = .ok (.invokespecial 103, 3) := by decide +kernel
theorem dX2_newPlace_87 : decode cX2_newPlace 87 = .ok (.areturn, 1) := by decide +kernel
theorem dX2_newPlace_88 : decode cX2_newPlace 88 = .ok (.new 9, 3) := by decide +kernel
theorem dX2_newPlace_91 : decode cX2_newPlace 91 = .ok (.dup, 1) := by decide +kernel
theorem dX2_newPlace_92 : decode cX2_newPlace 92 = .ok (.iload_n 2, 1) := by decide +kernel
theorem dX2_newPlace_93 : decode cX2_newPlace 93 = .ok (.iload_n 3, 1) := by decide +kernel
theorem dX2_newPlace_94 : decode cX2_newPlace 94 = .ok (.aload_n 0, 1) := by decide +kernel
theorem dX2_newPlace_95 : decode cX2_newPlace 95 = .ok (.getfield 45, 3) := by decide +kernel
theorem dX2_newPlace_98 : decode cX2_newPlace 98 = .ok (.invokespecial 104, 3) := by decide +kernel
theorem dX2_newPlace_101 : decode cX2_newPlace 101 = .ok (.areturn, 1) := by decide +kernel
set_option maxRecDepth 20000 in
theorem ggX2_addStreet_X2_open : GoodIn wsX2_addStreet wsX2_open := goodIn_r _ [10, 11, 12, 2, 3, 24, 25, 26, 27, 28, 29, 30, 31, 32, 33, 34, 35, 36, 37, 38, 39, 40, 41] (by decide +kernel) (by decide +kernel)
set_option maxRecDepth 20000 in
theorem gX2_addStreet_X2_open : GoodIn wsX2_addStreet (wsV RX2 105 RX2 yX2_open wsX2_open) := goodIn_app (goodIn_of _ (by decide +kernel)) ggX2_addStreet_X2_open
set_option maxRecDepth 20000 in
theorem ggX2_addStreet_X2_note : GoodIn wsX2_addStreet wsX2_note := goodIn_r _ [16, 17, 18, 19, 20, 21, 22, 23, 24, 25, 26, 27, 28, 29, 30, 31, 32, 33, 34, 35, 36, 37, 38, 39, 40, 41] (by decide +kernel) (by decide +kernel)
set_option maxRecDepth 20000 in
theorem gX2_addStreet_X2_note : GoodIn wsX2_addStreet (wsV RX2 86 RX2 yX2_note wsX2_note) := goodIn_app (goodIn_of _ (by decide +kernel)) ggX2_addStreet_X2_note
theorem dX2_addStreet_0 : decode cX2_addStreet 0 = .ok (.aload_n 0, 1) := by decide +kernel
theorem dX2_addStreet_1 : decode cX2_addStreet 1 = .ok (.getfield 56, 3) := by decide +kernel
theorem dX2_addStreet_4 : decode cX2_addStreet 4 = .ok (.istore 4, 2) := by decide +kernel
theorem dX2_addStreet_6 : decode cX2_addStreet 6 = .ok (.aload_n 0, 1) := by decide +kernel
theorem dX2_addStreet_7 : decode cX2_addStreet 7 = .ok (.getfield 27, 3) := by decide +kernel
theorem dX2_addStreet_10 : decode cX2_addStreet 10 = .ok (.iload 4, 2) := by decide +kernel
theorem dX2_addStreet_12 : decode cX2_addStreet 12 = .ok (.iload_n 1, 1) := by decide +kernel
theorem dX2_addStreet_13 : decode cX2_addStreet 13 = .ok (.iastore, 1) := by decide +kernel
theorem dX2_addStreet_14 : decode cX2_addStreet 14 = .ok (.aload_n 0, 1) := by decide +kernel
theorem dX2_addStreet_15 : decode cX2_addStreet 15 = .ok (.getfield 30, 3) := by decide +kernel
theorem dX2_addStreet_18 : decode cX2_addStreet 18 = .ok (.iload 4, 2) := by decide +kernel
theorem dX2_addStreet_20 : decode cX2_addStreet 20 = .ok (.iload_n 2, 1) := by decide +kernel
theorem dX2_addStreet_21 : decode cX2_addStreet 21 = .ok (.iastore, 1) := by decide +kernel
theorem dX2_addStreet_22 : decode cX2_addStreet 22 = .ok (.aload_n 0, 1) := by decide +kernel
theorem dX2_addStreet_23 : decode cX2_addStreet 23 = .ok (.getfield 33, 3) := by decide +kernel
theorem dX2_addStreet_26 : decode cX2_addStreet 26 = .ok (.iload 4, 2) := by decide +kernel
theorem dX2_addStreet_28 : decode cX2_addStreet 28 = .ok (.iload_n 3, 1) := by decide +kernel
theorem dX2_addStreet_29 : decode cX2_addStreet 29 = .ok (.iastore, 1) := by decide +kernel
theorem dX2_addStreet_30 : decode cX2_addStreet 30 = .ok (.aload_n 0, 1) := by decide +kernel
theorem dX2_addStreet_31 : decode cX2_addStreet 31 = .ok (.getfield 36, 3) := by decide +kernel
theorem dX2_addStreet_34 : decode cX2_addStreet 34 = .ok (.iload 4, 2) := by decide +kernel
theorem dX2_addStreet_36 : decode cX2_addStreet 36 = .ok (.iconst 1, 1) := by decide +kernel
theorem dX2_addStreet_37 : decode cX2_addStreet 37 = .ok (.iload_n 1, 1) := by decide +kernel
theorem dX2_addStreet_38 : decode cX2_addStreet 38 = .ok (.ishl, 1) := by decide +kernel
theorem dX2_addStreet_39 : decode cX2_addStreet 39 = .ok (.iconst 1, 1) := by decide +kernel
theorem dX2_addStreet_40 : decode cX2_addStreet 40 = .ok (.iload_n 2, 1) := by decide +kernel
theorem dX2_addStreet_41 : decode cX2_addStreet 41 = .ok (.ishl, 1) := by decide +kernel
theorem dX2_addStreet_42 : decode cX2_addStreet 42 = .ok (.ior, 1) := by decide +kernel
theorem dX2_addStreet_43 : decode cX2_addStreet 43 = .ok (.iastore, 1) := by decide +kernel
theorem dX2_addStreet_44 : decode cX2_addStreet 44 = .ok (.aload_n 0, 1) := by decide +kernel
theorem dX2_addStreet_45 : decode cX2_addStreet 45 = .ok (.iload 4, 2) := by decide +kernel
theorem dX2_addStreet_47 : decode cX2_addStreet 47 = .ok (.invokevirtual 105, 3) := by decide +kernel
theorem dX2_addStreet_50 : decode cX2_addStreet 50 = .ok (.aload_n 0, 1) := by decide +kernel
theorem dX2_addStreet_51 : decode cX2_addStreet 51 = .ok (.dup, 1) := by decide +kernel
theorem dX2_addStreet_52 : decode cX2_addStreet 52 = .ok (.getfield 56, 3) := by decide +kernel
theorem dX2_addStreet_55 : decode cX2_addStreet 55 = .ok (.iconst 1, 1) := by decide +kernel
theorem dX2_addStreet_56 : decode cX2_addStreet 56 = .ok (.iadd, 1) := by decide +kernel
theorem dX2_addStreet_57 : decode cX2_addStreet 57 = .ok (.putfield 56, 3) := by decide +kernel
theorem dX2_addStreet_60 : decode cX2_addStreet 60 = .ok (.aload_n 0, 1) := by decide +kernel
theorem dX2_addStreet_61 : decode cX2_addStreet 61 = .ok (.bipush (-2), 2) := by decide +kernel
theorem dX2_addStreet_63 : decode cX2_addStreet 63 = .ok (.invokevirtual 86, 3) := by decide +kernel
theorem dX2_addStreet_66 : decode cX2_addStreet 66 = .ok (.iload 4, 2) := by decide +kernel
theorem dX2_addStreet_68 : decode cX2_addStreet 68 = .ok (.ireturn, 1) := by decide +kernel
set_option maxRecDepth 20000 in
theorem ggX2_dropStreet_X2_close : GoodIn wsX2_dropStreet wsX2_close := goodIn_r _ [6, 7, 8, 9, 10, 22, 23, 24, 25, 26, 27, 28, 29, 30, 31, 32, 33, 34, 35, 36, 37, 38, 39] (by decide +kernel) (by decide +kernel)
set_option maxRecDepth 20000 in
theorem gX2_dropStreet_X2_close : GoodIn wsX2_dropStreet (wsV RX2 108 RX2 yX2_close wsX2_close) := goodIn_app (goodIn_of _ (by decide +kernel)) ggX2_dropStreet_X2_close
set_option maxRecDepth 20000 in
theorem ggX2_dropStreet_X2_note : GoodIn wsX2_dropStreet wsX2_note := goodIn_r _ [14, 15, 16, 17, 18, 19, 20, 21, 22, 23, 24, 25, 26, 27, 28, 29, 30, 31, 32, 33, 34, 35, 36, 37, 38, 39] (by decide +kernel) (by decide +kernel)
set_option maxRecDepth 20000 in
theorem gX2_dropStreet_X2_note : GoodIn wsX2_dropStreet (wsV RX2 86 RX2 yX2_note wsX2_note) := goodIn_app (goodIn_of _ (by decide +kernel)) ggX2_dropStreet_X2_note
theorem dX2_dropStreet_0 : decode cX2_dropStreet 0 = .ok (.aload_n 0, 1) := by decide +kernel
theorem dX2_dropStreet_1 : decode cX2_dropStreet 1 = .ok (.iload_n 1, 1) := by decide +kernel
theorem dX2_dropStreet_2 : decode cX2_dropStreet 2 = .ok (.invokevirtual 108, 3) := by decide +kernel
theorem dX2_dropStreet_5 : decode cX2_dropStreet 5 = .ok (.aload_n 0, 1) := by decide +kernel
theorem dX2_dropStreet_6 : decode cX2_dropStreet 6 = .ok (.dup, 1) := by decide +kernel
theorem dX2_dropStreet_7 : decode cX2_dropStreet 7 = .ok (.getfield 111, 3) := by decide +kernel
theorem dX2_dropStreet_10 : decode cX2_dropStreet 10 = .ok (.iconst 1, 1) := by decide +kernel
theorem dX2_dropStreet_11 : decode cX2_dropStreet 11 = .ok (.iload_n 1, 1) := by decide +kernel
theorem dX2_dropStreet_12 : decode cX2_dropStreet 12 = .ok (.ishl, 1) := by decide +kernel
theorem dX2_dropStreet_13 : decode cX2_dropStreet 13 = .ok (.iconst (-1), 1) := by decide +kernel
theorem dX2_dropStreet_14 : decode cX2_dropStreet 14 = .ok (.ixor, 1) := by decide +kernel
theorem dX2_dropStreet_15 : decode cX2_dropStreet 15 = .ok (.iand, 1) := by decide +kernel
theorem dX2_dropStreet_16 : decode cX2_dropStreet 16 = .ok (.putfield 111, 3) := by decide +kernel
theorem dX2_dropStreet_19 : decode cX2_dropStreet 19 = .ok (.aload_n 0, 1) := by decide +kernel
theorem dX2_dropStreet_20 : decode cX2_dropStreet 20 = .ok (.iload_n 1, 1) := by decide +kernel
theorem dX2_dropStreet_21 : decode cX2_dropStreet 21 = .ok (.invokevirtual 86, 3) := by decide +kernel
theorem dX2_dropStreet_24 : decode cX2_dropStreet 24 = .ok (.return_, 1) := by decide +kernel
set_option maxRecDepth 20000 in
theorem ggX2_takeBack_X2_removeLastPlace : GoodIn wsX2_takeBack wsX2_removeLastPlace := goodIn_r _ [10, 11, 12, 13, 14, 27, 28, 29, 30, 31, 32, 33, 34, 35, 36, 37, 38, 39, 40, 41, 42, 43, 44] (by decide +kernel) (by decide +kernel)
set_option maxRecDepth 20000 in
theorem gX2_takeBack_X2_removeLastPlace : GoodIn wsX2_takeBack (wsV RX2 117 RX2 yX2_removeLastPlace wsX2_removeLastPlace) := goodIn_app (goodIn_of _ (by decide +kernel)) ggX2_takeBack_X2_removeLastPlace
set_option maxRecDepth 20000 in
theorem ggX2_takeBack_X2_close : GoodIn wsX2_takeBack wsX2_close := goodIn_r _ [18, 19, 20, 21, 22, 27, 28, 29, 30, 31, 32, 33, 34, 35, 36, 37, 38, 39, 40, 41, 42, 43, 44] (by decide +kernel) (by decide +kernel)
set_option maxRecDepth 20000 in
theorem gX2_takeBack_X2_close : GoodIn wsX2_takeBack (wsV RX2 108 RX2 yX2_close wsX2_close) := goodIn_app (goodIn_of _ (by decide +kernel)) ggX2_takeBack_X2_close
set_option maxRecDepth 20000 in
theorem ggX2_takeBack_X2_open : GoodIn wsX2_takeBack wsX2_open := goodIn_r _ [26, 19, 20, 21, 22, 27, 28, 29, 30, 31, 32, 33, 34, 35, 36, 37, 38, 39, 40, 41, 42, 43, 44] (by decide +kernel) (by decide +kernel)
set_option maxRecDepth 20000 in
theorem gX2_takeBack_X2_open : GoodIn wsX2_takeBack (wsV RX2 105 RX2 yX2_open wsX2_open) := goodIn_app (goodIn_of _ (by decide +kernel)) ggX2_takeBack_X2_open
theorem dX2_takeBack_0 : decode cX2_takeBack 0 = .ok (.aload_n 0, 1) := by decide +kernel
theorem dX2_takeBack_1 : decode cX2_takeBack 1 = .ok (.dup, 1) := by decide +kernel
theorem dX2_takeBack_2 : decode cX2_takeBack 2 = .ok (.getfield 114, 3) := by decide +kernel
theorem dX2_takeBack_5 : decode cX2_takeBack 5 = .ok (.iconst 1, 1) := by decide +kernel
theorem dX2_takeBack_6 : decode cX2_takeBack 6 = .ok (.isub, 1) := by decide +kernel
theorem dX2_takeBack_7 : decode cX2_takeBack 7 = .ok (.putfield 114, 3) := by decide +kernel
theorem dX2_takeBack_10 : decode cX2_takeBack 10 = .ok (.aload_n 0, 1) := by decide +kernel
theorem dX2_takeBack_11 : decode cX2_takeBack 11 = .ok (.getfield 39, 3) := by decide +kernel
theorem dX2_takeBack_14 : decode cX2_takeBack 14 = .ok (.aload_n 0, 1) := by decide +kernel
theorem dX2_takeBack_15 : decode cX2_takeBack 15 = .ok (.getfield 114, 3) := by decide +kernel
theorem dX2_takeBack_18 : decode cX2_takeBack 18 = .ok (.iaload, 1) := by decide +kernel
theorem dX2_takeBack_19 : decode cX2_takeBack 19 = .ok (.istore_n 1, 1) := by decide +kernel
theorem dX2_takeBack_20 : decode cX2_takeBack 20 = .ok (.iload_n 1, 1) := by decide +kernel
theorem dX2_takeBack_21 : decode cX2_takeBack 21 = .ok (.iconst (-1), 1) := by decide +kernel
theorem dX2_takeBack_22 : decode cX2_takeBack 22 = .ok (.if_icmp .ne 10, 3) := by decide +kernel
theorem dX2_takeBack_25 : decode cX2_takeBack 25 = .ok (.aload_n 0, 1) := by decide +kernel
theorem dX2_takeBack_26 : decode cX2_takeBack 26 = .ok (.invokevirtual 117, 3) := by decide +kernel
theorem dX2_takeBack_29 : decode cX2_takeBack 29 = .ok (.goto 35, 3) := by decide +kernel
theorem dX2_takeBack_32 : decode cX2_takeBack 32 = .ok (.iload_n 1, 1) := by decide +kernel
theorem dX2_takeBack_33 : decode cX2_takeBack 33 = .ok (.bipush (-2), 2) := by decide +kernel
theorem dX2_takeBack_35 : decode cX2_takeBack 35 = .ok (.if_icmp .ne 24, 3) := by decide +kernel
theorem dX2_takeBack_38 : decode cX2_takeBack 38 = .ok (.aload_n 0, 1) := by decide +kernel
theorem dX2_takeBack_39 : decode cX2_takeBack 39 = .ok (.dup, 1) := by decide +kernel
theorem dX2_takeBack_40 : decode cX2_takeBack 40 = .ok (.getfield 56, 3) := by decide +kernel
theorem dX2_takeBack_43 : decode cX2_takeBack 43 = .ok (.iconst 1, 1) := by decide +kernel
theorem dX2_takeBack_44 : decode cX2_takeBack 44 = .ok (.isub, 1) := by decide +kernel
theorem dX2_takeBack_45 : decode cX2_takeBack 45 = .ok (.putfield 56, 3) := by decide +kernel
theorem dX2_takeBack_48 : decode cX2_takeBack 48 = .ok (.aload_n 0, 1) := by decide +kernel
theorem dX2_takeBack_49 : decode cX2_takeBack 49 = .ok (.aload_n 0, 1) := by decide +kernel
theorem dX2_takeBack_50 : decode cX2_takeBack 50 = .ok (.getfield 56, 3) := by decide +kernel
theorem dX2_takeBack_53 : decode cX2_takeBack 53 = .ok (.invokevirtual 108, 3) := by decide +kernel
theorem dX2_takeBack_56 : decode cX2_takeBack 56 = .ok (.goto 8, 3) := by decide +kernel
theorem dX2_takeBack_59 : decode cX2_takeBack 59 = .ok (.aload_n 0, 1) := by decide +kernel
theorem dX2_takeBack_60 : decode cX2_takeBack 60 = .ok (.iload_n 1, 1) := by decide +kernel
theorem dX2_takeBack_61 : decode cX2_takeBack 61 = .ok (.invokevirtual 105, 3) := by decide +kernel
theorem dX2_takeBack_64 : decode cX2_takeBack 64 = .ok (.aload_n 0, 1) := by decide +kernel
theorem dX2_takeBack_65 : decode cX2_takeBack 65 = .ok (.iconst 0, 1) := by decide +kernel
theorem dX2_takeBack_66 : decode cX2_takeBack 66 = .ok (.putfield 111, 3) := by decide +kernel
theorem dX2_takeBack_69 : decode cX2_takeBack 69 = .ok (.aload_n 0, 1) := by decide +kernel
theorem dX2_takeBack_70 : decode cX2_takeBack 70 = .ok (.dup, 1) := by decide +kernel
theorem dX2_takeBack_71 : decode cX2_takeBack 71 = .ok (.getfield 120, 3) := by decide +kernel
theorem dX2_takeBack_74 : decode cX2_takeBack 74 = .ok (.iconst 1, 1) := by decide +kernel
theorem dX2_takeBack_75 : decode cX2_takeBack 75 = .ok (.iadd, 1) := by decide +kernel
theorem dX2_takeBack_76 : decode cX2_takeBack 76 = .ok (.putfield 120, 3) := by decide +kernel
theorem dX2_takeBack_79 : decode cX2_takeBack 79 = .ok (.return_, 1) := by decide +kernel
theorem dX2_removeLastPlace_0 : decode cX2_removeLastPlace 0 = .ok (.aload_n 0, 1) := by decide +kernel
theorem dX2_removeLastPlace_1 : decode cX2_removeLastPlace 1 = .ok (.dup, 1) := by decide +kernel
theorem dX2_removeLastPlace_2 : decode cX2_removeLastPlace 2 = .ok (.getfield 53, 3) := by decide +kernel
theorem dX2_removeLastPlace_5 : decode cX2_removeLastPlace 5 = .ok (.iconst 1, 1) := by decide +kernel
theorem dX2_removeLastPlace_6 : decode cX2_removeLastPlace 6 = .ok (.isub, 1) := by decide +kernel
theorem dX2_removeLastPlace_7 : decode cX2_removeLastPlace 7 = .ok (.putfield 53, 3) := by decide +kernel
theorem dX2_removeLastPlace_10 : decode cX2_removeLastPlace 10 = .ok (.aload_n 0, 1) := by decide +kernel
theorem dX2_removeLastPlace_11 : decode cX2_removeLastPlace 11 = .ok (.getfield 11, 3) := by decide +kernel
theorem dX2_removeLastPlace_14 : decode cX2_removeLastPlace 14 = .ok (.aload_n 0, 1) := by decide +kernel
theorem dX2_removeLastPlace_15 : decode cX2_removeLastPlace 15 = .ok (.getfield 53, 3) := by decide +kernel
theorem dX2_removeLastPlace_18 : decode cX2_removeLastPlace 18 = .ok (.aconst_null, 1) := by decide +kernel
theorem dX2_removeLastPlace_19 : decode cX2_removeLastPlace 19 = .ok (.aastore, 1) := by decide +kernel
theorem dX2_removeLastPlace_20 : decode cX2_removeLastPlace 20 = .ok (.aload_n 0, 1) := by decide +kernel
theorem dX2_removeLastPlace_21 : decode cX2_removeLastPlace 21 = .ok (.dup, 1) := by decide +kernel
theorem dX2_removeLastPlace_22 : decode cX2_removeLastPlace 22 = .ok (.getfield 66, 3) := by decide +kernel
theorem dX2_removeLastPlace_25 : decode cX2_removeLastPlace 25 = .ok (.iconst 1, 1) := by decide +kernel
theorem dX2_removeLastPlace_26 : decode cX2_removeLastPlace 26 = .ok (.aload_n 0, 1) := by decide +kernel
theorem dX2_removeLastPlace_27 : decode cX2_removeLastPlace 27 = .ok (.getfield 53, 3) := by decide +kernel
theorem dX2_removeLastPlace_30 : decode cX2_removeLastPlace 30 = .ok (.ishl, 1) := by decide +kernel
theorem dX2_removeLastPlace_31 : decode cX2_removeLastPlace 31 = .ok (.iconst (-1), 1) := by decide +kernel
theorem dX2_removeLastPlace_32 : decode cX2_removeLastPlace 32 = .ok (.ixor, 1) := by decide +kernel
theorem dX2_removeLastPlace_33 : decode cX2_removeLastPlace 33 = .ok (.iand, 1) := by decide +kernel
theorem dX2_removeLastPlace_34 : decode cX2_removeLastPlace 34 = .ok (.putfield 66, 3) := by decide +kernel
theorem dX2_removeLastPlace_37 : decode cX2_removeLastPlace 37 = .ok (.aload_n 0, 1) := by decide +kernel
theorem dX2_removeLastPlace_38 : decode cX2_removeLastPlace 38 = .ok (.getfield 49, 3) := by decide +kernel
theorem dX2_removeLastPlace_41 : decode cX2_removeLastPlace 41 = .ok (.aload_n 0, 1) := by decide +kernel
theorem dX2_removeLastPlace_42 : decode cX2_removeLastPlace 42 = .ok (.getfield 53, 3) := by decide +kernel
theorem dX2_removeLastPlace_45 : decode cX2_removeLastPlace 45 = .ok (.if_icmp .ne 8, 3) := by decide +kernel
theorem dX2_removeLastPlace_48 : decode cX2_removeLastPlace 48 = .ok (.aload_n 0, 1) := by decide +kernel
theorem dX2_removeLastPlace_49 : decode cX2_removeLastPlace 49 = .ok (.iconst (-1), 1) := by decide +kernel
theorem dX2_removeLastPlace_50 : decode cX2_removeLastPlace 50 = .ok (.putfield 49, 3) := by decide +kernel
theorem dX2_removeLastPlace_53 : decode cX2_removeLastPlace 53 = .ok (.return_, 1) := by decide +kernel
theorem dX2_open_0 : decode cX2_open 0 = .ok (.aload_n 0, 1) := by decide +kernel
theorem dX2_open_1 : decode cX2_open 1 = .ok (.dup, 1) := by decide +kernel
theorem dX2_open_2 : decode cX2_open 2 = .ok (.getfield 59, 3) := by decide +kernel
theorem dX2_open_5 : decode cX2_open 5 = .ok (.iconst 1, 1) := by decide +kernel
theorem dX2_open_6 : decode cX2_open 6 = .ok (.iload_n 1, 1) := by decide +kernel
theorem dX2_open_7 : decode cX2_open 7 = .ok (.ishl, 1) := by decide +kernel
theorem dX2_open_8 : decode cX2_open 8 = .ok (.ior, 1) := by decide +kernel
theorem dX2_open_9 : decode cX2_open 9 = .ok (.putfield 59, 3) := by decide +kernel
theorem dX2_open_12 : decode cX2_open 12 = .ok (.aload_n 0, 1) := by decide +kernel
theorem dX2_open_13 : decode cX2_open 13 = .ok (.getfield 24, 3) := by decide +kernel
theorem dX2_open_16 : decode cX2_open 16 = .ok (.aload_n 0, 1) := by decide +kernel
theorem dX2_open_17 : decode cX2_open 17 = .ok (.getfield 27, 3) := by decide +kernel
theorem dX2_open_20 : decode cX2_open 20 = .ok (.iload_n 1, 1) := by decide +kernel
theorem dX2_open_21 : decode cX2_open 21 = .ok (.iaload, 1) := by decide +kernel
theorem dX2_open_22 : decode cX2_open 22 = .ok (.dup2, 1) := by decide +kernel
theorem dX2_open_23 : decode cX2_open 23 = .ok (.iaload, 1) := by decide +kernel
theorem dX2_open_24 : decode cX2_open 24 = .ok (.iconst 1, 1) := by decide +kernel
theorem dX2_open_25 : decode cX2_open 25 = .ok (.iload_n 1, 1) := by decide +kernel
theorem dX2_open_26 : decode cX2_open 26 = .ok (.ishl, 1) := by decide +kernel
theorem dX2_open_27 : decode cX2_open 27 = .ok (.ior, 1) := by decide +kernel
theorem dX2_open_28 : decode cX2_open 28 = .ok (.iastore, 1) := by decide +kernel
theorem dX2_open_29 : decode cX2_open 29 = .ok (.aload_n 0, 1) := by decide +kernel
theorem dX2_open_30 : decode cX2_open 30 = .ok (.getfield 24, 3) := by decide +kernel
theorem dX2_open_33 : decode cX2_open 33 = .ok (.aload_n 0, 1) := by decide +kernel
theorem dX2_open_34 : decode cX2_open 34 = .ok (.getfield 30, 3) := by decide +kernel
theorem dX2_open_37 : decode cX2_open 37 = .ok (.iload_n 1, 1) := by decide +kernel
theorem dX2_open_38 : decode cX2_open 38 = .ok (.iaload, 1) := by decide +kernel
theorem dX2_open_39 : decode cX2_open 39 = .ok (.dup2, 1) := by decide +kernel
theorem dX2_open_40 : decode cX2_open 40 = .ok (.iaload, 1) := by decide +kernel
theorem dX2_open_41 : decode cX2_open 41 = .ok (.iconst 1, 1) := by decide +kernel
theorem dX2_open_42 : decode cX2_open 42 = .ok (.iload_n 1, 1) := by decide +kernel
theorem dX2_open_43 : decode cX2_open 43 = .ok (.ishl, 1) := by decide +kernel
theorem dX2_open_44 : decode cX2_open 44 = .ok (.ior, 1) := by decide +kernel
theorem dX2_open_45 : decode cX2_open 45 = .ok (.iastore, 1) := by decide +kernel
theorem dX2_open_46 : decode cX2_open 46 = .ok (.return_, 1) := by decide +kernel
theorem dX2_close_0 : decode cX2_close 0 = .ok (.aload_n 0, 1) := by decide +kernel
theorem dX2_close_1 : decode cX2_close 1 = .ok (.dup, 1) := by decide +kernel
theorem dX2_close_2 : decode cX2_close 2 = .ok (.getfield 59, 3) := by decide +kernel
theorem dX2_close_5 : decode cX2_close 5 = .ok (.iconst 1, 1) := by decide +kernel
theorem dX2_close_6 : decode cX2_close 6 = .ok (.iload_n 1, 1) := by decide +kernel
theorem dX2_close_7 : decode cX2_close 7 = .ok (.ishl, 1) := by decide +kernel
theorem dX2_close_8 : decode cX2_close 8 = .ok (.iconst (-1), 1) := by decide +kernel
theorem dX2_close_9 : decode cX2_close 9 = .ok (.ixor, 1) := by decide +kernel
theorem dX2_close_10 : decode cX2_close 10 = .ok (.iand, 1) := by decide +kernel
theorem dX2_close_11 : decode cX2_close 11 = .ok (.putfield 59, 3) := by decide +kernel
theorem dX2_close_14 : decode cX2_close 14 = .ok (.aload_n 0, 1) := by decide +kernel
theorem dX2_close_15 : decode cX2_close 15 = .ok (.getfield 24, 3) := by decide +kernel
theorem dX2_close_18 : decode cX2_close 18 = .ok (.aload_n 0, 1) := by decide +kernel
theorem dX2_close_19 : decode cX2_close 19 = .ok (.getfield 27, 3) := by decide +kernel
theorem dX2_close_22 : decode cX2_close 22 = .ok (.iload_n 1, 1) := by decide +kernel
theorem dX2_close_23 : decode cX2_close 23 = .ok (.iaload, 1) := by decide +kernel
theorem dX2_close_24 : decode cX2_close 24 = .ok (.dup2, 1) := by decide +kernel
theorem dX2_close_25 : decode cX2_close 25 = .ok (.iaload, 1) := by decide +kernel
theorem dX2_close_26 : decode cX2_close 26 = .ok (.iconst 1, 1) := by decide +kernel
theorem dX2_close_27 : decode cX2_close 27 = .ok (.iload_n 1, 1) := by decide +kernel
theorem dX2_close_28 : decode cX2_close 28 = .ok (.ishl, 1) := by decide +kernel
theorem dX2_close_29 : decode cX2_close 29 = .ok (.iconst (-1), 1) := by decide +kernel
theorem dX2_close_30 : decode cX2_close 30 = .ok (.ixor, 1) := by decide +kernel
theorem dX2_close_31 : decode cX2_close 31 = .ok (.iand, 1) := by decide +kernel
theorem dX2_close_32 : decode cX2_close 32 = .ok (.iastore, 1) := by decide +kernel
theorem dX2_close_33 : decode cX2_close 33 = .ok (.aload_n 0, 1) := by decide +kernel
theorem dX2_close_34 : decode cX2_close 34 = .ok (.getfield 24, 3) := by decide +kernel
theorem dX2_close_37 : decode cX2_close 37 = .ok (.aload_n 0, 1) := by decide +kernel
theorem dX2_close_38 : decode cX2_close 38 = .ok (.getfield 30, 3) := by decide +kernel
theorem dX2_close_41 : decode cX2_close 41 = .ok (.iload_n 1, 1) := by decide +kernel
theorem dX2_close_42 : decode cX2_close 42 = .ok (.iaload, 1) := by decide +kernel
theorem dX2_close_43 : decode cX2_close 43 = .ok (.dup2, 1) := by decide +kernel
theorem dX2_close_44 : decode cX2_close 44 = .ok (.iaload, 1) := by decide +kernel
theorem dX2_close_45 : decode cX2_close 45 = .ok (.iconst 1, 1) := by decide +kernel
theorem dX2_close_46 : decode cX2_close 46 = .ok (.iload_n 1, 1) := by decide +kernel
theorem dX2_close_47 : decode cX2_close 47 = .ok (.ishl, 1) := by decide +kernel
theorem dX2_close_48 : decode cX2_close 48 = .ok (.iconst (-1), 1) := by decide +kernel
theorem dX2_close_49 : decode cX2_close 49 = .ok (.ixor, 1) := by decide +kernel
theorem dX2_close_50 : decode cX2_close 50 = .ok (.iand, 1) := by decide +kernel
theorem dX2_close_51 : decode cX2_close 51 = .ok (.iastore, 1) := by decide +kernel
theorem dX2_close_52 : decode cX2_close 52 = .ok (.return_, 1) := by decide +kernel
theorem dX2_note_0 : decode cX2_note 0 = .ok (.aload_n 0, 1) := by decide +kernel
theorem dX2_note_1 : decode cX2_note 1 = .ok (.getfield 114, 3) := by decide +kernel
theorem dX2_note_4 : decode cX2_note 4 = .ok (.bipush 10, 2) := by decide +kernel
theorem dX2_note_6 : decode cX2_note 6 = .ok (.if_icmp .lt 24, 3) := by decide +kernel
theorem dX2_note_9 : decode cX2_note 9 = .ok (.aload_n 0, 1) := by decide +kernel
theorem dX2_note_10 : decode cX2_note 10 = .ok (.getfield 39, 3) := by decide +kernel
theorem dX2_note_13 : decode cX2_note 13 = .ok (.iconst 1, 1) := by decide +kernel
theorem dX2_note_14 : decode cX2_note 14 = .ok (.aload_n 0, 1) := by decide +kernel
theorem dX2_note_15 : decode cX2_note 15 = .ok (.getfield 39, 3) := by decide +kernel
theorem dX2_note_18 : decode cX2_note 18 = .ok (.iconst 0, 1) := by decide +kernel
theorem dX2_note_19 : decode cX2_note 19 = .ok (.bipush 9, 2) := by decide +kernel
theorem dX2_note_21 : decode cX2_note 21 = .ok (.invokestatic 123, 3) := by decide +kernel
theorem dX2_note_24 : decode cX2_note 24 = .ok (.aload_n 0, 1) := by decide +kernel
theorem dX2_note_25 : decode cX2_note 25 = .ok (.bipush 9, 2) := by decide +kernel
theorem dX2_note_27 : decode cX2_note 27 = .ok (.putfield 114, 3) := by decide +kernel
theorem dX2_note_30 : decode cX2_note 30 = .ok (.aload_n 0, 1) := by decide +kernel
theorem dX2_note_31 : decode cX2_note 31 = .ok (.getfield 39, 3) := by decide +kernel
theorem dX2_note_34 : decode cX2_note 34 = .ok (.aload_n 0, 1) := by decide +kernel
theorem dX2_note_35 : decode cX2_note 35 = .ok (.getfield 114, 3) := by decide +kernel
theorem dX2_note_38 : decode cX2_note 38 = .ok (.iload_n 1, 1) := by decide +kernel
theorem dX2_note_39 : decode cX2_note 39 = .ok (.iastore, 1) := by decide +kernel
theorem dX2_note_40 : decode cX2_note 40 = .ok (.aload_n 0, 1) := by decide +kernel
theorem dX2_note_41 : decode cX2_note 41 = .ok (.dup, 1) := by decide +kernel
theorem dX2_note_42 : decode cX2_note 42 = .ok (.getfield 114, 3) := by decide +kernel
theorem dX2_note_45 : decode cX2_note 45 = .ok (.iconst 1, 1) := by decide +kernel
theorem dX2_note_46 : decode cX2_note 46 = .ok (.iadd, 1) := by decide +kernel
theorem dX2_note_47 : decode cX2_note 47 = .ok (.putfield 114, 3) := by decide +kernel
theorem dX2_note_50 : decode cX2_note 50 = .ok (.aload_n 0, 1) := by decide +kernel
theorem dX2_note_51 : decode cX2_note 51 = .ok (.dup, 1) := by decide +kernel
theorem dX2_note_52 : decode cX2_note 52 = .ok (.getfield 120, 3) := by decide +kernel
theorem dX2_note_55 : decode cX2_note 55 = .ok (.iconst 1, 1) := by decide +kernel
theorem dX2_note_56 : decode cX2_note 56 = .ok (.iadd, 1) := by decide +kernel
theorem dX2_note_57 : decode cX2_note 57 = .ok (.putfield 120, 3) := by decide +kernel
theorem dX2_note_60 : decode cX2_note 60 = .ok (.return_, 1) := by decide +kernel
theorem dX3_init_0 : decode cX3_init 0 = .ok (.aload_n 0, 1) := by decide +kernel
theorem dX3_init_1 : decode cX3_init 1 = .ok (.invokespecial 3, 3) := by decide +kernel
theorem dX3_init_4 : decode cX3_init 4 = .ok (.aload_n 0, 1) := by decide +kernel
theorem dX3_init_5 : decode cX3_init 5 = .ok (.iload_n 1, 1) := by decide +kernel
theorem dX3_init_6 : decode cX3_init 6 = .ok (.putfield 9, 3) := by decide +kernel
theorem dX3_init_9 : decode cX3_init 9 = .ok (.aload_n 0, 1) := by decide +kernel
theorem dX3_init_10 : decode cX3_init 10 = .ok (.iload_n 2, 1) := by decide +kernel
theorem dX3_init_11 : decode cX3_init 11 = .ok (.putfield 15, 3) := by decide +kernel
theorem dX3_init_14 : decode cX3_init 14 = .ok (.aload_n 0, 1) := by decide +kernel
theorem dX3_init_15 : decode cX3_init 15 = .ok (.aload_n 3, 1) := by decide +kernel
theorem dX3_init_16 : decode cX3_init 16 = .ok (.putfield 18, 3) := by decide +kernel
theorem dX3_init_19 : decode cX3_init 19 = .ok (.return_, 1) := by decide +kernel
theorem dX3_kind_0 : decode cX3_kind 0 = .ok (.iconst 0, 1) := by decide +kernel
theorem dX3_kind_1 : decode cX3_kind 1 = .ok (.ireturn, 1) := by decide +kernel
set_option maxRecDepth 20000 in
theorem ggX3_join_X5_ran : GoodIn wsX3_join wsX5_ran := goodIn_r _ [7, 8, 9, 30, 31] (by decide +kernel) (by decide +kernel)
set_option maxRecDepth 20000 in
theorem gX3_join_X5_ran : GoodIn wsX3_join (wsV RX3 22 RX5 yX5_ran wsX5_ran) := goodIn_app (goodIn_of _ (by decide +kernel)) ggX3_join_X5_ran
theorem dX3_join_0 : decode cX3_join 0 = .ok (.aload_n 0, 1) := by decide +kernel
theorem dX3_join_1 : decode cX3_join 1 = .ok (.getfield 18, 3) := by decide +kernel
theorem dX3_join_4 : decode cX3_join 4 = .ok (.bipush 10, 2) := by decide +kernel
theorem dX3_join_6 : decode cX3_join 6 = .ok (.invokevirtual 22, 3) := by decide +kernel
theorem dX3_join_9 : decode cX3_join 9 = .ok (.iload_n 1, 1) := by decide +kernel
theorem dX3_join_10 : decode cX3_join 10 = .ok (.aload_n 0, 1) := by decide +kernel
theorem dX3_join_11 : decode cX3_join 11 = .ok (.getfield 28, 3) := by decide +kernel
theorem dX3_join_14 : decode cX3_join 14 = .ok (.iadd, 1) := by decide +kernel
theorem dX3_join_15 : decode cX3_join 15 = .ok (.ireturn, 1) := by decide +kernel
set_option maxRecDepth 20000 in
theorem ggX3_cost_X5_ran : GoodIn wsX3_cost wsX5_ran := goodIn_r _ [6, 7, 8, 48, 49] (by decide +kernel) (by decide +kernel)
set_option maxRecDepth 20000 in
theorem gX3_cost_X5_ran : GoodIn wsX3_cost (wsV RX3 22 RX5 yX5_ran wsX5_ran) := goodIn_app (goodIn_of _ (by decide +kernel)) ggX3_cost_X5_ran
set_option maxRecDepth 20000 in
theorem ggX3_cost_X3_join : GoodIn wsX3_cost wsX3_join := goodIn_r _ [14, 1, 15, 2, 3, 4, 5, 6, 7, 8, 28, 29, 30, 31, 32, 33, 34, 35, 36, 37, 38, 39, 40, 41, 42, 43, 44, 45, 46, 47, 48, 49] (by decide +kernel) (by decide +kernel)
set_option maxRecDepth 20000 in
theorem gX3_cost_X3_join_u31X0 : GoodIn wsX3_cost (va_wsU RX3 31 RX0 "DripLines$Place" ⟨"DripLines$Place", "join", "(I)I"⟩ yX3_join wsX3_join) := goodIn_app (goodIn_of _ (by decide +kernel)) ggX3_cost_X3_join
set_option maxRecDepth 20000 in
theorem gX3_cost_X3_join : GoodIn wsX3_cost (wsV RX3 31 RX3 yX3_join wsX3_join) := goodIn_app (goodIn_of _ (by decide +kernel)) ggX3_cost_X3_join
set_option maxRecDepth 20000 in
theorem gX3_cost_X3_join_u31X4 : GoodIn wsX3_cost (va_wsU RX3 31 RX4 "DripLines$Place" ⟨"DripLines$Place", "join", "(I)I"⟩ yX3_join wsX3_join) := goodIn_app (goodIn_of _ (by decide +kernel)) ggX3_cost_X3_join
set_option maxRecDepth 20000 in
theorem ggX3_cost_X9_join : GoodIn wsX3_cost wsX9_join := goodIn_r _ [23, 24, 25, 26, 3, 4, 5, 6, 7, 8, 28, 29, 30, 31, 32, 33, 34, 35, 36, 37, 38, 39, 40, 41, 42, 43, 44, 45, 46, 47, 48, 49] (by decide +kernel) (by decide +kernel)
set_option maxRecDepth 20000 in
theorem gX3_cost_X9_join_u31X9 : GoodIn wsX3_cost (va_wsO RX3 31 RX9 "DripLines$Place" ⟨"DripLines$Place", "join", "(I)I"⟩ yX9_join wsX9_join) := goodIn_app (goodIn_of _ (by decide +kernel)) ggX3_cost_X9_join
set_option maxRecDepth 20000 in
theorem gX3_cost_X3_join_u31X10 : GoodIn wsX3_cost (va_wsU RX3 31 RX10 "DripLines$Place" ⟨"DripLines$Place", "join", "(I)I"⟩ yX3_join wsX3_join) := goodIn_app (goodIn_of _ (by decide +kernel)) ggX3_cost_X3_join
theorem dX3_cost_0 : decode cX3_cost 0 = .ok (.aload_n 0, 1) := by decide +kernel
theorem dX3_cost_1 : decode cX3_cost 1 = .ok (.getfield 18, 3) := by decide +kernel
theorem dX3_cost_4 : decode cX3_cost 4 = .ok (.bipush 11, 2) := by decide +kernel
theorem dX3_cost_6 : decode cX3_cost 6 = .ok (.invokevirtual 22, 3) := by decide +kernel
theorem dX3_cost_9 : decode cX3_cost 9 = .ok (.aload_n 0, 1) := by decide +kernel
theorem dX3_cost_10 : decode cX3_cost 10 = .ok (.iload_n 1, 1) := by decide +kernel
theorem dX3_cost_11 : decode cX3_cost 11 = .ok (.invokevirtual 31, 3) := by decide +kernel
theorem dX3_cost_14 : decode cX3_cost 14 = .ok (.iconst 2, 1) := by decide +kernel
theorem dX3_cost_15 : decode cX3_cost 15 = .ok (.imul, 1) := by decide +kernel
theorem dX3_cost_16 : decode cX3_cost 16 = .ok (.ireturn, 1) := by decide +kernel
set_option maxRecDepth 20000 in
theorem ggX3_ask_X5_ran : GoodIn wsX3_ask wsX5_ran := goodIn_r _ [7, 8, 9, 30, 31] (by decide +kernel) (by decide +kernel)
set_option maxRecDepth 20000 in
theorem gX3_ask_X5_ran : GoodIn wsX3_ask (wsV RX3 22 RX5 yX5_ran wsX5_ran) := goodIn_app (goodIn_of _ (by decide +kernel)) ggX3_ask_X5_ran
theorem dX3_ask_0 : decode cX3_ask 0 = .ok (.aload_n 0, 1) := by decide +kernel
theorem dX3_ask_1 : decode cX3_ask 1 = .ok (.getfield 18, 3) := by decide +kernel
theorem dX3_ask_4 : decode cX3_ask 4 = .ok (.bipush 12, 2) := by decide +kernel
theorem dX3_ask_6 : decode cX3_ask 6 = .ok (.invokevirtual 22, 3) := by decide +kernel
theorem dX3_ask_9 : decode cX3_ask 9 = .ok (.iload_n 1, 1) := by decide +kernel
theorem dX3_ask_10 : decode cX3_ask 10 = .ok (.aload_n 0, 1) := by decide +kernel
theorem dX3_ask_11 : decode cX3_ask 11 = .ok (.getfield 9, 3) := by decide +kernel
theorem dX3_ask_14 : decode cX3_ask 14 = .ok (.isub, 1) := by decide +kernel
theorem dX3_ask_15 : decode cX3_ask 15 = .ok (.ireturn, 1) := by decide +kernel
set_option maxRecDepth 20000 in
theorem ggX3_tell_X5_ran : GoodIn wsX3_tell wsX5_ran := goodIn_r _ [6, 7, 8, 101, 102] (by decide +kernel) (by decide +kernel)
set_option maxRecDepth 20000 in
theorem gX3_tell_X5_ran : GoodIn wsX3_tell (wsV RX3 22 RX5 yX5_ran wsX5_ran) := goodIn_app (goodIn_of _ (by decide +kernel)) ggX3_tell_X5_ran
set_option maxRecDepth 20000 in
theorem ggX3_tell_X0_cost : GoodIn wsX3_tell wsX0_cost := goodIn_r _ [15, 16, 17, 18, 19, 20, 3, 4, 5, 6, 7, 8, 21, 10, 22, 23, 24, 25, 1, 2, 26, 27, 28, 29, 30, 31, 32, 33, 34, 35, 36, 37, 38, 39, 40, 41, 42, 43, 81, 82, 83, 84, 85, 86, 87, 88, 89, 90, 91, 92, 93, 94, 95, 96, 97, 98, 99, 100, 101, 102] (by decide +kernel) (by decide +kernel)
set_option maxRecDepth 20000 in
theorem gX3_tell_X0_cost_u35X0 : GoodIn wsX3_tell (va_wsO RX3 35 RX0 "DripLines$Place" ⟨"DripLines$Place", "cost", "(I)I"⟩ yX0_cost wsX0_cost) := goodIn_app (goodIn_of _ (by decide +kernel)) ggX3_tell_X0_cost
set_option maxRecDepth 20000 in
theorem ggX3_tell_X3_cost : GoodIn wsX3_tell wsX3_cost := goodIn_r _ [25, 1, 2, 3, 4, 5, 6, 7, 8, 26, 27, 28, 29, 24, 30, 31, 32, 33, 34, 35, 36, 37, 38, 39, 40, 41, 42, 43, 81, 82, 83, 84, 85, 86, 87, 88, 89, 90, 91, 92, 93, 94, 95, 96, 97, 98, 99, 100, 101, 102] (by decide +kernel) (by decide +kernel)
set_option maxRecDepth 20000 in
theorem gX3_tell_X3_cost : GoodIn wsX3_tell (wsV RX3 35 RX3 yX3_cost wsX3_cost) := goodIn_app (goodIn_of _ (by decide +kernel)) ggX3_tell_X3_cost
set_option maxRecDepth 20000 in
theorem ggX3_tell_X4_cost : GoodIn wsX3_tell wsX4_cost := goodIn_r _ [49, 50, 51, 52, 3, 4, 5, 6, 7, 8, 53, 10, 54, 23, 24, 25, 1, 2, 26, 27, 28, 29, 30, 31, 32, 33, 34, 35, 36, 37, 38, 39, 40, 41, 42, 43, 81, 82, 83, 84, 85, 86, 87, 88, 89, 90, 91, 92, 93, 94, 95, 96, 97, 98, 99, 100, 101, 102] (by decide +kernel) (by decide +kernel)
set_option maxRecDepth 20000 in
theorem gX3_tell_X4_cost_u35X4 : GoodIn wsX3_tell (va_wsO RX3 35 RX4 "DripLines$Place" ⟨"DripLines$Place", "cost", "(I)I"⟩ yX4_cost wsX4_cost) := goodIn_app (goodIn_of _ (by decide +kernel)) ggX3_tell_X4_cost
set_option maxRecDepth 20000 in
theorem gX3_tell_X4_cost_u35X9 : GoodIn wsX3_tell (va_wsO RX3 35 RX9 "DripLines$Place" ⟨"DripLines$Place", "cost", "(I)I"⟩ yX4_cost wsX4_cost) := goodIn_app (goodIn_of _ (by decide +kernel)) ggX3_tell_X4_cost
set_option maxRecDepth 20000 in
theorem gX3_tell_X3_cost_u35X10 : GoodIn wsX3_tell (va_wsU RX3 35 RX10 "DripLines$Place" ⟨"DripLines$Place", "cost", "(I)I"⟩ yX3_cost wsX3_cost) := goodIn_app (goodIn_of _ (by decide +kernel)) ggX3_tell_X3_cost
set_option maxRecDepth 20000 in
theorem ggX3_tell_X3_ask : GoodIn wsX3_tell wsX3_ask := goodIn_r _ [61, 1, 62, 2, 3, 4, 5, 6, 7, 8, 81, 82, 83, 84, 85, 86, 87, 88, 89, 90, 91, 92, 93, 94, 95, 96, 97, 98, 99, 100, 101, 102] (by decide +kernel) (by decide +kernel)
set_option maxRecDepth 20000 in
theorem gX3_tell_X3_ask_u38X0 : GoodIn wsX3_tell (va_wsU RX3 38 RX0 "DripLines$Place" ⟨"DripLines$Place", "ask", "(I)I"⟩ yX3_ask wsX3_ask) := goodIn_app (goodIn_of _ (by decide +kernel)) ggX3_tell_X3_ask
set_option maxRecDepth 20000 in
theorem gX3_tell_X3_ask : GoodIn wsX3_tell (wsV RX3 38 RX3 yX3_ask wsX3_ask) := goodIn_app (goodIn_of _ (by decide +kernel)) ggX3_tell_X3_ask
set_option maxRecDepth 20000 in
theorem gX3_tell_X3_ask_u38X4 : GoodIn wsX3_tell (va_wsU RX3 38 RX4 "DripLines$Place" ⟨"DripLines$Place", "ask", "(I)I"⟩ yX3_ask wsX3_ask) := goodIn_app (goodIn_of _ (by decide +kernel)) ggX3_tell_X3_ask
set_option maxRecDepth 20000 in
theorem ggX3_tell_X9_ask : GoodIn wsX3_tell wsX9_ask := goodIn_r _ [69, 40, 41, 42, 3, 4, 5, 6, 7, 8, 81, 82, 83, 84, 85, 86, 87, 88, 89, 90, 91, 92, 93, 94, 95, 96, 97, 98, 99, 100, 101, 102] (by decide +kernel) (by decide +kernel)
set_option maxRecDepth 20000 in
theorem gX3_tell_X9_ask_u38X9 : GoodIn wsX3_tell (va_wsO RX3 38 RX9 "DripLines$Place" ⟨"DripLines$Place", "ask", "(I)I"⟩ yX9_ask wsX9_ask) := goodIn_app (goodIn_of _ (by decide +kernel)) ggX3_tell_X9_ask
set_option maxRecDepth 20000 in
theorem ggX3_tell_X10_ask : GoodIn wsX3_tell wsX10_ask := goodIn_r _ [73, 74, 75, 76, 77, 78, 3, 4, 5, 6, 7, 8, 79, 58, 80, 60, 24, 61, 1, 62, 2, 81, 82, 83, 84, 85, 86, 87, 88, 89, 90, 91, 92, 93, 94, 95, 96, 97, 98, 99, 100, 101, 102] (by decide +kernel) (by decide +kernel)
set_option maxRecDepth 20000 in
theorem gX3_tell_X10_ask_u38X10 : GoodIn wsX3_tell (va_wsO RX3 38 RX10 "DripLines$Place" ⟨"DripLines$Place", "ask", "(I)I"⟩ yX10_ask wsX10_ask) := goodIn_app (goodIn_of _ (by decide +kernel)) ggX3_tell_X10_ask
theorem dX3_tell_0 : decode cX3_tell 0 = .ok (.aload_n 0, 1) := by decide +kernel
theorem dX3_tell_1 : decode cX3_tell 1 = .ok (.getfield 18, 3) := by decide +kernel
theorem dX3_tell_4 : decode cX3_tell 4 = .ok (.bipush 13, 2) := by decide +kernel
theorem dX3_tell_6 : decode cX3_tell 6 = .ok (.invokevirtual 22, 3) := by decide +kernel
theorem dX3_tell_9 : decode cX3_tell 9 = .ok (.aload_n 0, 1) := by decide +kernel
theorem dX3_tell_10 : decode cX3_tell 10 = .ok (.iload_n 1, 1) := by decide +kernel
theorem dX3_tell_11 : decode cX3_tell 11 = .ok (.invokevirtual 35, 3) := by decide +kernel
theorem dX3_tell_14 : decode cX3_tell 14 = .ok (.aload_n 0, 1) := by decide +kernel
theorem dX3_tell_15 : decode cX3_tell 15 = .ok (.iload_n 1, 1) := by decide +kernel
theorem dX3_tell_16 : decode cX3_tell 16 = .ok (.invokevirtual 38, 3) := by decide +kernel
theorem dX3_tell_19 : decode cX3_tell 19 = .ok (.ixor, 1) := by decide +kernel
theorem dX3_tell_20 : decode cX3_tell 20 = .ok (.ireturn, 1) := by decide +kernel
set_option maxRecDepth 20000 in
theorem ggX4_init_X3_init : GoodIn wsX4_init wsX3_init := goodIn_r _ [4, 5, 6, 7, 8, 9, 10, 11, 12, 13, 14, 15, 16, 17, 18, 19, 20, 21, 22, 23, 24, 25, 26, 27, 28, 29, 30] (by decide +kernel) (by decide +kernel)
set_option maxRecDepth 20000 in
theorem gX4_init_X3_init : GoodIn wsX4_init (wsX3_init) := ggX4_init_X3_init
theorem dX4_init_0 : decode cX4_init 0 = .ok (.aload_n 0, 1) := by decide +kernel
theorem dX4_init_1 : decode cX4_init 1 = .ok (.iload_n 1, 1) := by decide +kernel
theorem dX4_init_2 : decode cX4_init 2 = .ok (.iload_n 2, 1) := by decide +kernel
theorem dX4_init_3 : decode cX4_init 3 = .ok (.aload_n 3, 1) := by decide +kernel
theorem dX4_init_4 : decode cX4_init 4 = .ok (.invokespecial 3, 3) := by decide +kernel
theorem dX4_init_7 : decode cX4_init 7 = .ok (.return_, 1) := by decide +kernel
theorem dX4_kind_0 : decode cX4_kind 0 = .ok (.iconst 1, 1) := by decide +kernel
theorem dX4_kind_1 : decode cX4_kind 1 = .ok (.ireturn, 1) := by decide +kernel
set_option maxRecDepth 20000 in
theorem ggX4_cost_X5_ran : GoodIn wsX4_cost wsX5_ran := goodIn_r _ [7, 8, 9, 56, 57] (by decide +kernel) (by decide +kernel)
set_option maxRecDepth 20000 in
theorem gX4_cost_X5_ran : GoodIn wsX4_cost (wsV RX4 15 RX5 yX5_ran wsX5_ran) := goodIn_app (goodIn_of _ (by decide +kernel)) ggX4_cost_X5_ran
set_option maxRecDepth 20000 in
theorem ggX4_cost_X3_cost : GoodIn wsX4_cost wsX3_cost := goodIn_r _ [15, 16, 17, 4, 5, 6, 7, 8, 9, 18, 19, 20, 21, 14, 22, 23, 24, 25, 26, 27, 28, 29, 30, 31, 32, 33, 34, 35, 36, 37, 38, 39, 40, 41, 42, 43, 44, 45, 46, 47, 48, 49, 50, 51, 52, 53, 54, 55, 56, 57] (by decide +kernel) (by decide +kernel)
set_option maxRecDepth 20000 in
theorem gX4_cost_X3_cost_s21 : GoodIn wsX4_cost (va_wsSU RX4 21 yX3_cost wsX3_cost) := goodIn_app (goodIn_of _ (by decide +kernel)) ggX4_cost_X3_cost
theorem dX4_cost_0 : decode cX4_cost 0 = .ok (.aload_n 0, 1) := by decide +kernel
theorem dX4_cost_1 : decode cX4_cost 1 = .ok (.getfield 9, 3) := by decide +kernel
theorem dX4_cost_4 : decode cX4_cost 4 = .ok (.bipush 20, 2) := by decide +kernel
theorem dX4_cost_6 : decode cX4_cost 6 = .ok (.invokevirtual 15, 3) := by decide +kernel
theorem dX4_cost_9 : decode cX4_cost 9 = .ok (.aload_n 0, 1) := by decide +kernel
theorem dX4_cost_10 : decode cX4_cost 10 = .ok (.iload_n 1, 1) := by decide +kernel
theorem dX4_cost_11 : decode cX4_cost 11 = .ok (.invokespecial 21, 3) := by decide +kernel
theorem dX4_cost_14 : decode cX4_cost 14 = .ok (.iconst 1, 1) := by decide +kernel
theorem dX4_cost_15 : decode cX4_cost 15 = .ok (.iadd, 1) := by decide +kernel
theorem dX4_cost_16 : decode cX4_cost 16 = .ok (.ireturn, 1) := by decide +kernel
set_option maxRecDepth 20000 in
theorem ggX4_tell_X5_ran : GoodIn wsX4_tell wsX5_ran := goodIn_r _ [7, 8, 9, 105, 106] (by decide +kernel) (by decide +kernel)
set_option maxRecDepth 20000 in
theorem gX4_tell_X5_ran : GoodIn wsX4_tell (wsV RX4 15 RX5 yX5_ran wsX5_ran) := goodIn_app (goodIn_of _ (by decide +kernel)) ggX4_tell_X5_ran
set_option maxRecDepth 20000 in
theorem ggX4_tell_X3_tell : GoodIn wsX4_tell wsX3_tell := goodIn_r _ [15, 16, 17, 4, 5, 6, 7, 8, 9, 18, 19, 20, 21, 22, 23, 24, 25, 26, 27, 28, 29, 30, 31, 32, 14, 33, 34, 35, 36, 37, 38, 39, 40, 41, 42, 43, 44, 45, 46, 47, 48, 49, 50, 51, 52, 53, 54, 55, 56, 57, 1, 2, 3, 58, 12, 59, 60, 61, 62, 63, 64, 65, 66, 67, 68, 69, 70, 71, 72, 73, 74, 75, 76, 77, 78, 79, 80, 81, 82, 83, 84, 85, 86, 87, 88, 89, 90, 91, 92, 93, 94, 95, 96, 97, 98, 99, 100, 101, 102, 103, 104, 105, 106] (by decide +kernel) (by decide +kernel)
set_option maxRecDepth 20000 in
theorem gX4_tell_X3_tell_s25 : GoodIn wsX4_tell (va_wsSU RX4 25 yX3_tell wsX3_tell) := goodIn_app (goodIn_of _ (by decide +kernel)) ggX4_tell_X3_tell
theorem dX4_tell_0 : decode cX4_tell 0 = .ok (.aload_n 0, 1) := by decide +kernel
theorem dX4_tell_1 : decode cX4_tell 1 = .ok (.getfield 9, 3) := by decide +kernel
theorem dX4_tell_4 : decode cX4_tell 4 = .ok (.bipush 21, 2) := by decide +kernel
theorem dX4_tell_6 : decode cX4_tell 6 = .ok (.invokevirtual 15, 3) := by decide +kernel
theorem dX4_tell_9 : decode cX4_tell 9 = .ok (.aload_n 0, 1) := by decide +kernel
theorem dX4_tell_10 : decode cX4_tell 10 = .ok (.iload_n 1, 1) := by decide +kernel
theorem dX4_tell_11 : decode cX4_tell 11 = .ok (.iconst 1, 1) := by decide +kernel
theorem dX4_tell_12 : decode cX4_tell 12 = .ok (.isub, 1) := by decide +kernel
theorem dX4_tell_13 : decode cX4_tell 13 = .ok (.invokespecial 25, 3) := by decide +kernel
theorem dX4_tell_16 : decode cX4_tell 16 = .ok (.ireturn, 1) := by decide +kernel
theorem dX5_init_0 : decode cX5_init 0 = .ok (.aload_n 0, 1) := by decide +kernel
theorem dX5_init_1 : decode cX5_init 1 = .ok (.invokespecial 3, 3) := by decide +kernel
theorem dX5_init_4 : decode cX5_init 4 = .ok (.aload_n 0, 1) := by decide +kernel
theorem dX5_init_5 : decode cX5_init 5 = .ok (.bipush 50, 2) := by decide +kernel
theorem dX5_init_7 : decode cX5_init 7 = .ok (.newarray .int, 2) := by decide +kernel
theorem dX5_init_9 : decode cX5_init 9 = .ok (.putfield 9, 3) := by decide +kernel
theorem dX5_init_12 : decode cX5_init 12 = .ok (.return_, 1) := by decide +kernel
theorem dX5_ran_0 : decode cX5_ran 0 = .ok (.aload_n 0, 1) := by decide +kernel
theorem dX5_ran_1 : decode cX5_ran 1 = .ok (.getfield 15, 3) := by decide +kernel
theorem dX5_ran_4 : decode cX5_ran 4 = .ok (.bipush 50, 2) := by decide +kernel
theorem dX5_ran_6 : decode cX5_ran 6 = .ok (.if_icmp .ge 23, 3) := by decide +kernel
theorem dX5_ran_9 : decode cX5_ran 9 = .ok (.aload_n 0, 1) := by decide +kernel
theorem dX5_ran_10 : decode cX5_ran 10 = .ok (.getfield 9, 3) := by decide +kernel
theorem dX5_ran_13 : decode cX5_ran 13 = .ok (.aload_n 0, 1) := by decide +kernel
theorem dX5_ran_14 : decode cX5_ran 14 = .ok (.getfield 15, 3) := by decide +kernel
theorem dX5_ran_17 : decode cX5_ran 17 = .ok (.iload_n 1, 1) := by decide +kernel
theorem dX5_ran_18 : decode cX5_ran 18 = .ok (.iastore, 1) := by decide +kernel
theorem dX5_ran_19 : decode cX5_ran 19 = .ok (.aload_n 0, 1) := by decide +kernel
theorem dX5_ran_20 : decode cX5_ran 20 = .ok (.dup, 1) := by decide +kernel
theorem dX5_ran_21 : decode cX5_ran 21 = .ok (.getfield 15, 3) := by decide +kernel
theorem dX5_ran_24 : decode cX5_ran 24 = .ok (.iconst 1, 1) := by decide +kernel
theorem dX5_ran_25 : decode cX5_ran 25 = .ok (.iadd, 1) := by decide +kernel
theorem dX5_ran_26 : decode cX5_ran 26 = .ok (.putfield 15, 3) := by decide +kernel
theorem dX5_ran_29 : decode cX5_ran 29 = .ok (.return_, 1) := by decide +kernel
theorem dX5_bodyAt_0 : decode cX5_bodyAt 0 = .ok (.iload_n 1, 1) := by decide +kernel
theorem dX5_bodyAt_1 : decode cX5_bodyAt 1 = .ok (.ifCond .lt 20, 3) := by decide +kernel
theorem dX5_bodyAt_4 : decode cX5_bodyAt 4 = .ok (.iload_n 1, 1) := by decide +kernel
theorem dX5_bodyAt_5 : decode cX5_bodyAt 5 = .ok (.aload_n 0, 1) := by decide +kernel
theorem dX5_bodyAt_6 : decode cX5_bodyAt 6 = .ok (.getfield 15, 3) := by decide +kernel
theorem dX5_bodyAt_9 : decode cX5_bodyAt 9 = .ok (.if_icmp .ge 12, 3) := by decide +kernel
theorem dX5_bodyAt_12 : decode cX5_bodyAt 12 = .ok (.aload_n 0, 1) := by decide +kernel
theorem dX5_bodyAt_13 : decode cX5_bodyAt 13 = .ok (.getfield 9, 3) := by decide +kernel
theorem dX5_bodyAt_16 : decode cX5_bodyAt 16 = .ok (.iload_n 1, 1) := by decide +kernel
theorem dX5_bodyAt_17 : decode cX5_bodyAt 17 = .ok (.iaload, 1) := by decide +kernel
theorem dX5_bodyAt_18 : decode cX5_bodyAt 18 = .ok (.goto 4, 3) := by decide +kernel
theorem dX5_bodyAt_21 : decode cX5_bodyAt 21 = .ok (.iconst (-1), 1) := by decide +kernel
theorem dX5_bodyAt_22 : decode cX5_bodyAt 22 = .ok (.ireturn, 1) := by decide +kernel
theorem dX6_init_0 : decode cX6_init 0 = .ok (.aload_n 0, 1) := by decide +kernel
theorem dX6_init_1 : decode cX6_init 1 = .ok (.invokespecial 3, 3) := by decide +kernel
theorem dX6_init_4 : decode cX6_init 4 = .ok (.aload_n 0, 1) := by decide +kernel
theorem dX6_init_5 : decode cX6_init 5 = .ok (.bipush 10, 2) := by decide +kernel
theorem dX6_init_7 : decode cX6_init 7 = .ok (.newarray .int, 2) := by decide +kernel
theorem dX6_init_9 : decode cX6_init 9 = .ok (.putfield 9, 3) := by decide +kernel
theorem dX6_init_12 : decode cX6_init 12 = .ok (.aload_n 0, 1) := by decide +kernel
theorem dX6_init_13 : decode cX6_init 13 = .ok (.sipush 1001, 3) := by decide +kernel
theorem dX6_init_16 : decode cX6_init 16 = .ok (.newarray .int, 2) := by decide +kernel
theorem dX6_init_18 : decode cX6_init 18 = .ok (.putfield 15, 3) := by decide +kernel
theorem dX6_init_21 : decode cX6_init 21 = .ok (.aload_n 0, 1) := by decide +kernel
theorem dX6_init_22 : decode cX6_init 22 = .ok (.bipush 64, 2) := by decide +kernel
theorem dX6_init_24 : decode cX6_init 24 = .ok (.newarray .int, 2) := by decide +kernel
theorem dX6_init_26 : decode cX6_init 26 = .ok (.putfield 18, 3) := by decide +kernel
theorem dX6_init_29 : decode cX6_init 29 = .ok (.aload_n 0, 1) := by decide +kernel
theorem dX6_init_30 : decode cX6_init 30 = .ok (.iconst (-1), 1) := by decide +kernel
theorem dX6_init_31 : decode cX6_init 31 = .ok (.putfield 21, 3) := by decide +kernel
theorem dX6_init_34 : decode cX6_init 34 = .ok (.aload_n 0, 1) := by decide +kernel
theorem dX6_init_35 : decode cX6_init 35 = .ok (.aload_n 1, 1) := by decide +kernel
theorem dX6_init_36 : decode cX6_init 36 = .ok (.putfield 25, 3) := by decide +kernel
theorem dX6_init_39 : decode cX6_init 39 = .ok (.return_, 1) := by decide +kernel
set_option maxRecDepth 20000 in
theorem ggX6_flawOf_X11_bitAt : GoodIn wsX6_flawOf wsX11_bitAt := goodIn_r _ [5] (by decide +kernel) (by decide +kernel)
set_option maxRecDepth 20000 in
theorem gX6_flawOf_X11_bitAt_n37 : GoodIn wsX6_flawOf (wsX11_bitAt) := ggX6_flawOf_X11_bitAt
set_option maxRecDepth 20000 in
theorem ggX6_flawOf_X6_joinGroups : GoodIn wsX6_flawOf wsX6_joinGroups := goodIn_r _ [10, 1, 2, 3, 4, 5, 26, 27, 28, 29, 30, 31, 32, 33, 34, 35, 36, 37, 38, 39, 40, 41, 42, 43, 44, 45, 46, 47, 48, 49, 50, 51, 52] (by decide +kernel) (by decide +kernel)
set_option maxRecDepth 20000 in
theorem gX6_flawOf_X6_joinGroups : GoodIn wsX6_flawOf (wsV RX6 47 RX6 yX6_joinGroups wsX6_joinGroups) := goodIn_app (goodIn_of _ (by decide +kernel)) ggX6_flawOf_X6_joinGroups
set_option maxRecDepth 20000 in
theorem ggX6_flawOf_X6_endsOf : GoodIn wsX6_flawOf wsX6_endsOf := goodIn_r _ [14, 1, 3, 4, 5, 26, 27, 28, 29, 30, 31, 32, 33, 34, 35, 36, 37, 38, 39, 40, 41, 42, 43, 44, 45, 46, 47, 48, 49, 50, 51, 52] (by decide +kernel) (by decide +kernel)
set_option maxRecDepth 20000 in
theorem gX6_flawOf_X6_endsOf : GoodIn wsX6_flawOf (wsV RX6 51 RX6 yX6_endsOf wsX6_endsOf) := goodIn_app (goodIn_of _ (by decide +kernel)) ggX6_flawOf_X6_endsOf
set_option maxRecDepth 20000 in
theorem ggX6_flawOf_X6_placesOf : GoodIn wsX6_flawOf wsX6_placesOf := goodIn_r _ [18, 1, 19, 20, 21, 22, 23, 24, 25, 26, 27, 28, 29, 30, 31, 32, 33, 34, 35, 36, 37, 38, 39, 40, 41, 42, 43, 44, 45, 46, 47, 48, 49, 50, 51, 52] (by decide +kernel) (by decide +kernel)
set_option maxRecDepth 20000 in
theorem gX6_flawOf_X6_placesOf : GoodIn wsX6_flawOf (wsV RX6 58 RX6 yX6_placesOf wsX6_placesOf) := goodIn_app (goodIn_of _ (by decide +kernel)) ggX6_flawOf_X6_placesOf
theorem dX6_flawOf_0 : decode cX6_flawOf 0 = .ok (.iconst 0, 1) := by decide +kernel
theorem dX6_flawOf_1 : decode cX6_flawOf 1 = .ok (.istore_n 2, 1) := by decide +kernel
theorem dX6_flawOf_2 : decode cX6_flawOf 2 = .ok (.iload_n 2, 1) := by decide +kernel
theorem dX6_flawOf_3 : decode cX6_flawOf 3 = .ok (.aload_n 0, 1) := by decide +kernel
theorem dX6_flawOf_4 : decode cX6_flawOf 4 = .ok (.getfield 25, 3) := by decide +kernel
theorem dX6_flawOf_7 : decode cX6_flawOf 7 = .ok (.getfield 29, 3) := by decide +kernel
theorem dX6_flawOf_10 : decode cX6_flawOf 10 = .ok (.if_icmp .ge 18, 3) := by decide +kernel
theorem dX6_flawOf_13 : decode cX6_flawOf 13 = .ok (.aload_n 0, 1) := by decide +kernel
theorem dX6_flawOf_14 : decode cX6_flawOf 14 = .ok (.getfield 9, 3) := by decide +kernel
theorem dX6_flawOf_17 : decode cX6_flawOf 17 = .ok (.iload_n 2, 1) := by decide +kernel
theorem dX6_flawOf_18 : decode cX6_flawOf 18 = .ok (.iconst 1, 1) := by decide +kernel
theorem dX6_flawOf_19 : decode cX6_flawOf 19 = .ok (.iload_n 2, 1) := by decide +kernel
theorem dX6_flawOf_20 : decode cX6_flawOf 20 = .ok (.ishl, 1) := by decide +kernel
theorem dX6_flawOf_21 : decode cX6_flawOf 21 = .ok (.iastore, 1) := by decide +kernel
theorem dX6_flawOf_22 : decode cX6_flawOf 22 = .ok (.iinc 2 1, 3) := by decide +kernel
theorem dX6_flawOf_25 : decode cX6_flawOf 25 = .ok (.goto (-23), 3) := by decide +kernel
theorem dX6_flawOf_28 : decode cX6_flawOf 28 = .ok (.iconst 0, 1) := by decide +kernel
theorem dX6_flawOf_29 : decode cX6_flawOf 29 = .ok (.istore_n 2, 1) := by decide +kernel
theorem dX6_flawOf_30 : decode cX6_flawOf 30 = .ok (.iconst 0, 1) := by decide +kernel
theorem dX6_flawOf_31 : decode cX6_flawOf 31 = .ok (.istore_n 3, 1) := by decide +kernel
theorem dX6_flawOf_32 : decode cX6_flawOf 32 = .ok (.iload_n 3, 1) := by decide +kernel
theorem dX6_flawOf_33 : decode cX6_flawOf 33 = .ok (.aload_n 0, 1) := by decide +kernel
theorem dX6_flawOf_34 : decode cX6_flawOf 34 = .ok (.getfield 25, 3) := by decide +kernel
theorem dX6_flawOf_37 : decode cX6_flawOf 37 = .ok (.getfield 34, 3) := by decide +kernel
theorem dX6_flawOf_40 : decode cX6_flawOf 40 = .ok (.if_icmp .ge 70, 3) := by decide +kernel
theorem dX6_flawOf_43 : decode cX6_flawOf 43 = .ok (.iload_n 1, 1) := by decide +kernel
theorem dX6_flawOf_44 : decode cX6_flawOf 44 = .ok (.iload_n 3, 1) := by decide +kernel
theorem dX6_flawOf_45 : decode cX6_flawOf 45 = .ok (.invokestatic 37, 3) := by decide +kernel
theorem dX6_flawOf_48 : decode cX6_flawOf 48 = .ok (.iconst 1, 1) := by decide +kernel
theorem dX6_flawOf_49 : decode cX6_flawOf 49 = .ok (.if_icmp .ne 55, 3) := by decide +kernel
theorem dX6_flawOf_52 : decode cX6_flawOf 52 = .ok (.aload_n 0, 1) := by decide +kernel
theorem dX6_flawOf_53 : decode cX6_flawOf 53 = .ok (.getfield 9, 3) := by decide +kernel
theorem dX6_flawOf_56 : decode cX6_flawOf 56 = .ok (.aload_n 0, 1) := by decide +kernel
theorem dX6_flawOf_57 : decode cX6_flawOf 57 = .ok (.getfield 25, 3) := by decide +kernel
theorem dX6_flawOf_60 : decode cX6_flawOf 60 = .ok (.getfield 41, 3) := by decide +kernel
theorem dX6_flawOf_63 : decode cX6_flawOf 63 = .ok (.iload_n 3, 1) := by decide +kernel
theorem dX6_flawOf_64 : decode cX6_flawOf 64 = .ok (.iaload, 1) := by decide +kernel
theorem dX6_flawOf_65 : decode cX6_flawOf 65 = .ok (.iaload, 1) := by decide +kernel
theorem dX6_flawOf_66 : decode cX6_flawOf 66 = .ok (.istore 4, 2) := by decide +kernel
theorem dX6_flawOf_68 : decode cX6_flawOf 68 = .ok (.aload_n 0, 1) := by decide +kernel
theorem dX6_flawOf_69 : decode cX6_flawOf 69 = .ok (.getfield 9, 3) := by decide +kernel
theorem dX6_flawOf_72 : decode cX6_flawOf 72 = .ok (.aload_n 0, 1) := by decide +kernel
theorem dX6_flawOf_73 : decode cX6_flawOf 73 = .ok (.getfield 25, 3) := by decide +kernel
theorem dX6_flawOf_76 : decode cX6_flawOf 76 = .ok (.getfield 44, 3) := by decide +kernel
theorem dX6_flawOf_79 : decode cX6_flawOf 79 = .ok (.iload_n 3, 1) := by decide +kernel
theorem dX6_flawOf_80 : decode cX6_flawOf 80 = .ok (.iaload, 1) := by decide +kernel
theorem dX6_flawOf_81 : decode cX6_flawOf 81 = .ok (.iaload, 1) := by decide +kernel
theorem dX6_flawOf_82 : decode cX6_flawOf 82 = .ok (.istore 5, 2) := by decide +kernel
theorem dX6_flawOf_84 : decode cX6_flawOf 84 = .ok (.iload 4, 2) := by decide +kernel
theorem dX6_flawOf_86 : decode cX6_flawOf 86 = .ok (.iload 5, 2) := by decide +kernel
theorem dX6_flawOf_88 : decode cX6_flawOf 88 = .ok (.if_icmp .ne 5, 3) := by decide +kernel
theorem dX6_flawOf_91 : decode cX6_flawOf 91 = .ok (.iconst 1, 1) := by decide +kernel
theorem dX6_flawOf_92 : decode cX6_flawOf 92 = .ok (.ireturn, 1) := by decide +kernel
theorem dX6_flawOf_93 : decode cX6_flawOf 93 = .ok (.iload 4, 2) := by decide +kernel
theorem dX6_flawOf_95 : decode cX6_flawOf 95 = .ok (.iload 5, 2) := by decide +kernel
theorem dX6_flawOf_97 : decode cX6_flawOf 97 = .ok (.ior, 1) := by decide +kernel
theorem dX6_flawOf_98 : decode cX6_flawOf 98 = .ok (.istore_n 2, 1) := by decide +kernel
theorem dX6_flawOf_99 : decode cX6_flawOf 99 = .ok (.aload_n 0, 1) := by decide +kernel
theorem dX6_flawOf_100 : decode cX6_flawOf 100 = .ok (.iload_n 2, 1) := by decide +kernel
theorem dX6_flawOf_101 : decode cX6_flawOf 101 = .ok (.invokevirtual 47, 3) := by decide +kernel
theorem dX6_flawOf_104 : decode cX6_flawOf 104 = .ok (.iinc 3 1, 3) := by decide +kernel
theorem dX6_flawOf_107 : decode cX6_flawOf 107 = .ok (.goto (-75), 3) := by decide +kernel
theorem dX6_flawOf_110 : decode cX6_flawOf 110 = .ok (.aload_n 0, 1) := by decide +kernel
theorem dX6_flawOf_111 : decode cX6_flawOf 111 = .ok (.iload_n 1, 1) := by decide +kernel
theorem dX6_flawOf_112 : decode cX6_flawOf 112 = .ok (.invokevirtual 51, 3) := by decide +kernel
theorem dX6_flawOf_115 : decode cX6_flawOf 115 = .ok (.istore_n 3, 1) := by decide +kernel
theorem dX6_flawOf_116 : decode cX6_flawOf 116 = .ok (.iload_n 1, 1) := by decide +kernel
theorem dX6_flawOf_117 : decode cX6_flawOf 117 = .ok (.ifCond .eq 10, 3) := by decide +kernel
theorem dX6_flawOf_120 : decode cX6_flawOf 120 = .ok (.iload_n 2, 1) := by decide +kernel
theorem dX6_flawOf_121 : decode cX6_flawOf 121 = .ok (.iload_n 3, 1) := by decide +kernel
theorem dX6_flawOf_122 : decode cX6_flawOf 122 = .ok (.if_icmp .eq 5, 3) := by decide +kernel
theorem dX6_flawOf_125 : decode cX6_flawOf 125 = .ok (.iconst 2, 1) := by decide +kernel
theorem dX6_flawOf_126 : decode cX6_flawOf 126 = .ok (.ireturn, 1) := by decide +kernel
theorem dX6_flawOf_127 : decode cX6_flawOf 127 = .ok (.aload_n 0, 1) := by decide +kernel
theorem dX6_flawOf_128 : decode cX6_flawOf 128 = .ok (.getfield 25, 3) := by decide +kernel
theorem dX6_flawOf_131 : decode cX6_flawOf 131 = .ok (.getfield 55, 3) := by decide +kernel
theorem dX6_flawOf_134 : decode cX6_flawOf 134 = .ok (.ifCond .eq 26, 3) := by decide +kernel
theorem dX6_flawOf_137 : decode cX6_flawOf 137 = .ok (.aload_n 0, 1) := by decide +kernel
theorem dX6_flawOf_138 : decode cX6_flawOf 138 = .ok (.getfield 25, 3) := by decide +kernel
theorem dX6_flawOf_141 : decode cX6_flawOf 141 = .ok (.getfield 55, 3) := by decide +kernel
theorem dX6_flawOf_144 : decode cX6_flawOf 144 = .ok (.aload_n 0, 1) := by decide +kernel
theorem dX6_flawOf_145 : decode cX6_flawOf 145 = .ok (.iload_n 1, 1) := by decide +kernel
theorem dX6_flawOf_146 : decode cX6_flawOf 146 = .ok (.iload_n 3, 1) := by decide +kernel
theorem dX6_flawOf_147 : decode cX6_flawOf 147 = .ok (.invokevirtual 58, 3) := by decide +kernel
theorem dX6_flawOf_150 : decode cX6_flawOf 150 = .ok (.iconst (-1), 1) := by decide +kernel
theorem dX6_flawOf_151 : decode cX6_flawOf 151 = .ok (.ixor, 1) := by decide +kernel
theorem dX6_flawOf_152 : decode cX6_flawOf 152 = .ok (.iand, 1) := by decide +kernel
theorem dX6_flawOf_153 : decode cX6_flawOf 153 = .ok (.ifCond .ne 7, 3) := by decide +kernel
theorem dX6_flawOf_156 : decode cX6_flawOf 156 = .ok (.iconst 1, 1) := by decide +kernel
theorem dX6_flawOf_157 : decode cX6_flawOf 157 = .ok (.goto 4, 3) := by decide +kernel
theorem dX6_flawOf_160 : decode cX6_flawOf 160 = .ok (.iconst 0, 1) := by decide +kernel
theorem dX6_flawOf_161 : decode cX6_flawOf 161 = .ok (.istore 4, 2) := by decide +kernel
theorem dX6_flawOf_163 : decode cX6_flawOf 163 = .ok (.iload 4, 2) := by decide +kernel
theorem dX6_flawOf_165 : decode cX6_flawOf 165 = .ok (.ifCond .eq 7, 3) := by decide +kernel
theorem dX6_flawOf_168 : decode cX6_flawOf 168 = .ok (.iconst 0, 1) := by decide +kernel
theorem dX6_flawOf_169 : decode cX6_flawOf 169 = .ok (.goto 4, 3) := by decide +kernel
theorem dX6_flawOf_172 : decode cX6_flawOf 172 = .ok (.iconst 3, 1) := by decide +kernel
theorem dX6_flawOf_173 : decode cX6_flawOf 173 = .ok (.ireturn, 1) := by decide +kernel
set_option maxRecDepth 20000 in
theorem ggX6_joinGroups_X11_bitAt : GoodIn wsX6_joinGroups wsX11_bitAt := goodIn_r _ [5] (by decide +kernel) (by decide +kernel)
set_option maxRecDepth 20000 in
theorem gX6_joinGroups_X11_bitAt_n37 : GoodIn wsX6_joinGroups (wsX11_bitAt) := ggX6_joinGroups_X11_bitAt
theorem dX6_joinGroups_0 : decode cX6_joinGroups 0 = .ok (.iconst 0, 1) := by decide +kernel
theorem dX6_joinGroups_1 : decode cX6_joinGroups 1 = .ok (.istore_n 2, 1) := by decide +kernel
theorem dX6_joinGroups_2 : decode cX6_joinGroups 2 = .ok (.iload_n 2, 1) := by decide +kernel
theorem dX6_joinGroups_3 : decode cX6_joinGroups 3 = .ok (.aload_n 0, 1) := by decide +kernel
theorem dX6_joinGroups_4 : decode cX6_joinGroups 4 = .ok (.getfield 25, 3) := by decide +kernel
theorem dX6_joinGroups_7 : decode cX6_joinGroups 7 = .ok (.getfield 29, 3) := by decide +kernel
theorem dX6_joinGroups_10 : decode cX6_joinGroups 10 = .ok (.if_icmp .ge 25, 3) := by decide +kernel
theorem dX6_joinGroups_13 : decode cX6_joinGroups 13 = .ok (.iload_n 1, 1) := by decide +kernel
theorem dX6_joinGroups_14 : decode cX6_joinGroups 14 = .ok (.iload_n 2, 1) := by decide +kernel
theorem dX6_joinGroups_15 : decode cX6_joinGroups 15 = .ok (.invokestatic 37, 3) := by decide +kernel
theorem dX6_joinGroups_18 : decode cX6_joinGroups 18 = .ok (.iconst 1, 1) := by decide +kernel
theorem dX6_joinGroups_19 : decode cX6_joinGroups 19 = .ok (.if_icmp .ne 10, 3) := by decide +kernel
theorem dX6_joinGroups_22 : decode cX6_joinGroups 22 = .ok (.aload_n 0, 1) := by decide +kernel
theorem dX6_joinGroups_23 : decode cX6_joinGroups 23 = .ok (.getfield 9, 3) := by decide +kernel
theorem dX6_joinGroups_26 : decode cX6_joinGroups 26 = .ok (.iload_n 2, 1) := by decide +kernel
theorem dX6_joinGroups_27 : decode cX6_joinGroups 27 = .ok (.iload_n 1, 1) := by decide +kernel
theorem dX6_joinGroups_28 : decode cX6_joinGroups 28 = .ok (.iastore, 1) := by decide +kernel
theorem dX6_joinGroups_29 : decode cX6_joinGroups 29 = .ok (.iinc 2 1, 3) := by decide +kernel
theorem dX6_joinGroups_32 : decode cX6_joinGroups 32 = .ok (.goto (-30), 3) := by decide +kernel
theorem dX6_joinGroups_35 : decode cX6_joinGroups 35 = .ok (.return_, 1) := by decide +kernel
set_option maxRecDepth 20000 in
theorem ggX6_endsOf_X11_bitAt : GoodIn wsX6_endsOf wsX11_bitAt := goodIn_r _ [4] (by decide +kernel) (by decide +kernel)
set_option maxRecDepth 20000 in
theorem gX6_endsOf_X11_bitAt_n37 : GoodIn wsX6_endsOf (wsX11_bitAt) := ggX6_endsOf_X11_bitAt
theorem dX6_endsOf_0 : decode cX6_endsOf 0 = .ok (.iconst 0, 1) := by decide +kernel
theorem dX6_endsOf_1 : decode cX6_endsOf 1 = .ok (.istore_n 2, 1) := by decide +kernel
theorem dX6_endsOf_2 : decode cX6_endsOf 2 = .ok (.iconst 0, 1) := by decide +kernel
theorem dX6_endsOf_3 : decode cX6_endsOf 3 = .ok (.istore_n 3, 1) := by decide +kernel
theorem dX6_endsOf_4 : decode cX6_endsOf 4 = .ok (.iload_n 3, 1) := by decide +kernel
theorem dX6_endsOf_5 : decode cX6_endsOf 5 = .ok (.aload_n 0, 1) := by decide +kernel
theorem dX6_endsOf_6 : decode cX6_endsOf 6 = .ok (.getfield 25, 3) := by decide +kernel
theorem dX6_endsOf_9 : decode cX6_endsOf 9 = .ok (.getfield 34, 3) := by decide +kernel
theorem dX6_endsOf_12 : decode cX6_endsOf 12 = .ok (.if_icmp .ge 30, 3) := by decide +kernel
theorem dX6_endsOf_15 : decode cX6_endsOf 15 = .ok (.iload_n 1, 1) := by decide +kernel
theorem dX6_endsOf_16 : decode cX6_endsOf 16 = .ok (.iload_n 3, 1) := by decide +kernel
theorem dX6_endsOf_17 : decode cX6_endsOf 17 = .ok (.invokestatic 37, 3) := by decide +kernel
theorem dX6_endsOf_20 : decode cX6_endsOf 20 = .ok (.iconst 1, 1) := by decide +kernel
theorem dX6_endsOf_21 : decode cX6_endsOf 21 = .ok (.if_icmp .ne 15, 3) := by decide +kernel
theorem dX6_endsOf_24 : decode cX6_endsOf 24 = .ok (.iload_n 2, 1) := by decide +kernel
theorem dX6_endsOf_25 : decode cX6_endsOf 25 = .ok (.aload_n 0, 1) := by decide +kernel
theorem dX6_endsOf_26 : decode cX6_endsOf 26 = .ok (.getfield 25, 3) := by decide +kernel
theorem dX6_endsOf_29 : decode cX6_endsOf 29 = .ok (.getfield 61, 3) := by decide +kernel
theorem dX6_endsOf_32 : decode cX6_endsOf 32 = .ok (.iload_n 3, 1) := by decide +kernel
theorem dX6_endsOf_33 : decode cX6_endsOf 33 = .ok (.iaload, 1) := by decide +kernel
theorem dX6_endsOf_34 : decode cX6_endsOf 34 = .ok (.ior, 1) := by decide +kernel
theorem dX6_endsOf_35 : decode cX6_endsOf 35 = .ok (.istore_n 2, 1) := by decide +kernel
theorem dX6_endsOf_36 : decode cX6_endsOf 36 = .ok (.iinc 3 1, 3) := by decide +kernel
theorem dX6_endsOf_39 : decode cX6_endsOf 39 = .ok (.goto (-35), 3) := by decide +kernel
theorem dX6_endsOf_42 : decode cX6_endsOf 42 = .ok (.iload_n 2, 1) := by decide +kernel
theorem dX6_endsOf_43 : decode cX6_endsOf 43 = .ok (.ireturn, 1) := by decide +kernel
set_option maxRecDepth 20000 in
theorem ggX6_placesOf_J6_bitCount_0f7a4 : GoodIn wsX6_placesOf wsJ6_bitCount_0f7a4 := goodIn_r _ [5, 6, 7, 8] (by decide +kernel) (by decide +kernel)
set_option maxRecDepth 20000 in
theorem gX6_placesOf_J6_bitCount_0f7a4 : GoodIn wsX6_placesOf (va_wsS RX6 64 yJ6_bitCount_0f7a4 wsJ6_bitCount_0f7a4) := goodIn_app (goodIn_of _ (by decide +kernel)) ggX6_placesOf_J6_bitCount_0f7a4
theorem dX6_placesOf_0 : decode cX6_placesOf 0 = .ok (.iload_n 1, 1) := by decide +kernel
theorem dX6_placesOf_1 : decode cX6_placesOf 1 = .ok (.ifCond .ne 21, 3) := by decide +kernel
theorem dX6_placesOf_4 : decode cX6_placesOf 4 = .ok (.aload_n 0, 1) := by decide +kernel
theorem dX6_placesOf_5 : decode cX6_placesOf 5 = .ok (.getfield 25, 3) := by decide +kernel
theorem dX6_placesOf_8 : decode cX6_placesOf 8 = .ok (.getfield 55, 3) := by decide +kernel
theorem dX6_placesOf_11 : decode cX6_placesOf 11 = .ok (.invokestatic 64, 3) := by decide +kernel
theorem dX6_placesOf_14 : decode cX6_placesOf 14 = .ok (.iconst 1, 1) := by decide +kernel
theorem dX6_placesOf_15 : decode cX6_placesOf 15 = .ok (.if_icmp .ne 7, 3) := by decide +kernel
theorem dX6_placesOf_18 : decode cX6_placesOf 18 = .ok (.iconst 1, 1) := by decide +kernel
theorem dX6_placesOf_19 : decode cX6_placesOf 19 = .ok (.goto 4, 3) := by decide +kernel
theorem dX6_placesOf_22 : decode cX6_placesOf 22 = .ok (.iconst 0, 1) := by decide +kernel
theorem dX6_placesOf_23 : decode cX6_placesOf 23 = .ok (.istore_n 3, 1) := by decide +kernel
theorem dX6_placesOf_24 : decode cX6_placesOf 24 = .ok (.iload_n 3, 1) := by decide +kernel
theorem dX6_placesOf_25 : decode cX6_placesOf 25 = .ok (.ifCond .eq 13, 3) := by decide +kernel
theorem dX6_placesOf_28 : decode cX6_placesOf 28 = .ok (.aload_n 0, 1) := by decide +kernel
theorem dX6_placesOf_29 : decode cX6_placesOf 29 = .ok (.getfield 25, 3) := by decide +kernel
theorem dX6_placesOf_32 : decode cX6_placesOf 32 = .ok (.getfield 55, 3) := by decide +kernel
theorem dX6_placesOf_35 : decode cX6_placesOf 35 = .ok (.goto 4, 3) := by decide +kernel
theorem dX6_placesOf_38 : decode cX6_placesOf 38 = .ok (.iload_n 2, 1) := by decide +kernel
theorem dX6_placesOf_39 : decode cX6_placesOf 39 = .ok (.ireturn, 1) := by decide +kernel
set_option maxRecDepth 20000 in
theorem ggX6_tagOf_X6_endsOf : GoodIn wsX6_tagOf wsX6_endsOf := goodIn_r _ [6, 1, 7, 8, 9, 10, 11, 12, 13, 14, 15, 16, 17, 18, 19, 20, 21, 22, 23, 24, 25, 26, 27, 28, 29, 30, 31, 32, 33, 34, 35, 36] (by decide +kernel) (by decide +kernel)
set_option maxRecDepth 20000 in
theorem gX6_tagOf_X6_endsOf : GoodIn wsX6_tagOf (wsV RX6 51 RX6 yX6_endsOf wsX6_endsOf) := goodIn_app (goodIn_of _ (by decide +kernel)) ggX6_tagOf_X6_endsOf
set_option maxRecDepth 20000 in
theorem ggX6_tagOf_X11_bitAt : GoodIn wsX6_tagOf wsX11_bitAt := goodIn_r _ [9] (by decide +kernel) (by decide +kernel)
set_option maxRecDepth 20000 in
theorem gX6_tagOf_X11_bitAt_n37 : GoodIn wsX6_tagOf (wsX11_bitAt) := ggX6_tagOf_X11_bitAt
theorem dX6_tagOf_0 : decode cX6_tagOf 0 = .ok (.aload_n 0, 1) := by decide +kernel
theorem dX6_tagOf_1 : decode cX6_tagOf 1 = .ok (.iload_n 1, 1) := by decide +kernel
theorem dX6_tagOf_2 : decode cX6_tagOf 2 = .ok (.invokevirtual 51, 3) := by decide +kernel
theorem dX6_tagOf_5 : decode cX6_tagOf 5 = .ok (.istore_n 2, 1) := by decide +kernel
theorem dX6_tagOf_6 : decode cX6_tagOf 6 = .ok (.iconst 0, 1) := by decide +kernel
theorem dX6_tagOf_7 : decode cX6_tagOf 7 = .ok (.istore_n 3, 1) := by decide +kernel
theorem dX6_tagOf_8 : decode cX6_tagOf 8 = .ok (.iconst 0, 1) := by decide +kernel
theorem dX6_tagOf_9 : decode cX6_tagOf 9 = .ok (.istore 4, 2) := by decide +kernel
theorem dX6_tagOf_11 : decode cX6_tagOf 11 = .ok (.iload 4, 2) := by decide +kernel
theorem dX6_tagOf_13 : decode cX6_tagOf 13 = .ok (.aload_n 0, 1) := by decide +kernel
theorem dX6_tagOf_14 : decode cX6_tagOf 14 = .ok (.getfield 25, 3) := by decide +kernel
theorem dX6_tagOf_17 : decode cX6_tagOf 17 = .ok (.getfield 34, 3) := by decide +kernel
theorem dX6_tagOf_20 : decode cX6_tagOf 20 = .ok (.if_icmp .ge 29, 3) := by decide +kernel
theorem dX6_tagOf_23 : decode cX6_tagOf 23 = .ok (.iload_n 3, 1) := by decide +kernel
theorem dX6_tagOf_24 : decode cX6_tagOf 24 = .ok (.iload_n 1, 1) := by decide +kernel
theorem dX6_tagOf_25 : decode cX6_tagOf 25 = .ok (.iload 4, 2) := by decide +kernel
theorem dX6_tagOf_27 : decode cX6_tagOf 27 = .ok (.invokestatic 37, 3) := by decide +kernel
theorem dX6_tagOf_30 : decode cX6_tagOf 30 = .ok (.aload_n 0, 1) := by decide +kernel
theorem dX6_tagOf_31 : decode cX6_tagOf 31 = .ok (.getfield 25, 3) := by decide +kernel
theorem dX6_tagOf_34 : decode cX6_tagOf 34 = .ok (.getfield 69, 3) := by decide +kernel
theorem dX6_tagOf_37 : decode cX6_tagOf 37 = .ok (.iload 4, 2) := by decide +kernel
theorem dX6_tagOf_39 : decode cX6_tagOf 39 = .ok (.iaload, 1) := by decide +kernel
theorem dX6_tagOf_40 : decode cX6_tagOf 40 = .ok (.imul, 1) := by decide +kernel
theorem dX6_tagOf_41 : decode cX6_tagOf 41 = .ok (.iadd, 1) := by decide +kernel
theorem dX6_tagOf_42 : decode cX6_tagOf 42 = .ok (.istore_n 3, 1) := by decide +kernel
theorem dX6_tagOf_43 : decode cX6_tagOf 43 = .ok (.iinc 4 1, 3) := by decide +kernel
theorem dX6_tagOf_46 : decode cX6_tagOf 46 = .ok (.goto (-35), 3) := by decide +kernel
theorem dX6_tagOf_49 : decode cX6_tagOf 49 = .ok (.iconst 0, 1) := by decide +kernel
theorem dX6_tagOf_50 : decode cX6_tagOf 50 = .ok (.istore 4, 2) := by decide +kernel
theorem dX6_tagOf_52 : decode cX6_tagOf 52 = .ok (.iload 4, 2) := by decide +kernel
theorem dX6_tagOf_54 : decode cX6_tagOf 54 = .ok (.aload_n 0, 1) := by decide +kernel
theorem dX6_tagOf_55 : decode cX6_tagOf 55 = .ok (.getfield 25, 3) := by decide +kernel
theorem dX6_tagOf_58 : decode cX6_tagOf 58 = .ok (.getfield 29, 3) := by decide +kernel
theorem dX6_tagOf_61 : decode cX6_tagOf 61 = .ok (.if_icmp .ge 40, 3) := by decide +kernel
theorem dX6_tagOf_64 : decode cX6_tagOf 64 = .ok (.iload_n 3, 1) := by decide +kernel
theorem dX6_tagOf_65 : decode cX6_tagOf 65 = .ok (.iload_n 2, 1) := by decide +kernel
theorem dX6_tagOf_66 : decode cX6_tagOf 66 = .ok (.iload 4, 2) := by decide +kernel
theorem dX6_tagOf_68 : decode cX6_tagOf 68 = .ok (.invokestatic 37, 3) := by decide +kernel
theorem dX6_tagOf_71 : decode cX6_tagOf 71 = .ok (.aload_n 0, 1) := by decide +kernel
theorem dX6_tagOf_72 : decode cX6_tagOf 72 = .ok (.getfield 25, 3) := by decide +kernel
theorem dX6_tagOf_75 : decode cX6_tagOf 75 = .ok (.getfield 72, 3) := by decide +kernel
theorem dX6_tagOf_78 : decode cX6_tagOf 78 = .ok (.iload 4, 2) := by decide +kernel
theorem dX6_tagOf_80 : decode cX6_tagOf 80 = .ok (.iaload, 1) := by decide +kernel
theorem dX6_tagOf_81 : decode cX6_tagOf 81 = .ok (.aload_n 0, 1) := by decide +kernel
theorem dX6_tagOf_82 : decode cX6_tagOf 82 = .ok (.getfield 25, 3) := by decide +kernel
theorem dX6_tagOf_85 : decode cX6_tagOf 85 = .ok (.getfield 75, 3) := by decide +kernel
theorem dX6_tagOf_88 : decode cX6_tagOf 88 = .ok (.iload 4, 2) := by decide +kernel
theorem dX6_tagOf_90 : decode cX6_tagOf 90 = .ok (.iaload, 1) := by decide +kernel
theorem dX6_tagOf_91 : decode cX6_tagOf 91 = .ok (.isub, 1) := by decide +kernel
theorem dX6_tagOf_92 : decode cX6_tagOf 92 = .ok (.imul, 1) := by decide +kernel
theorem dX6_tagOf_93 : decode cX6_tagOf 93 = .ok (.iadd, 1) := by decide +kernel
theorem dX6_tagOf_94 : decode cX6_tagOf 94 = .ok (.istore_n 3, 1) := by decide +kernel
theorem dX6_tagOf_95 : decode cX6_tagOf 95 = .ok (.iinc 4 1, 3) := by decide +kernel
theorem dX6_tagOf_98 : decode cX6_tagOf 98 = .ok (.goto (-46), 3) := by decide +kernel
theorem dX6_tagOf_101 : decode cX6_tagOf 101 = .ok (.iload_n 3, 1) := by decide +kernel
theorem dX6_tagOf_102 : decode cX6_tagOf 102 = .ok (.ireturn, 1) := by decide +kernel
set_option maxRecDepth 20000 in
theorem ggX6_trimmed_X6_spareStreetOf : GoodIn wsX6_trimmed wsX6_spareStreetOf := goodIn_r _ [5, 6, 7, 8, 9, 10, 11, 12, 13, 14, 15, 16, 17, 18, 19, 20, 21, 22, 23, 24, 25, 26, 27, 28, 29, 30, 31, 32, 33, 34, 35, 36, 37, 38, 39, 40, 41, 42, 43, 44, 45, 46, 47, 48, 49, 50, 51, 52, 53] (by decide +kernel) (by decide +kernel)
set_option maxRecDepth 20000 in
theorem gX6_trimmed_X6_spareStreetOf : GoodIn wsX6_trimmed (wsV RX6 78 RX6 yX6_spareStreetOf wsX6_spareStreetOf) := goodIn_app (goodIn_of _ (by decide +kernel)) ggX6_trimmed_X6_spareStreetOf
theorem dX6_trimmed_0 : decode cX6_trimmed 0 = .ok (.iload_n 1, 1) := by decide +kernel
theorem dX6_trimmed_1 : decode cX6_trimmed 1 = .ok (.istore_n 2, 1) := by decide +kernel
theorem dX6_trimmed_2 : decode cX6_trimmed 2 = .ok (.iconst 0, 1) := by decide +kernel
theorem dX6_trimmed_3 : decode cX6_trimmed 3 = .ok (.istore_n 3, 1) := by decide +kernel
theorem dX6_trimmed_4 : decode cX6_trimmed 4 = .ok (.iload_n 3, 1) := by decide +kernel
theorem dX6_trimmed_5 : decode cX6_trimmed 5 = .ok (.bipush 16, 2) := by decide +kernel
theorem dX6_trimmed_7 : decode cX6_trimmed 7 = .ok (.if_icmp .ge 33, 3) := by decide +kernel
theorem dX6_trimmed_10 : decode cX6_trimmed 10 = .ok (.aload_n 0, 1) := by decide +kernel
theorem dX6_trimmed_11 : decode cX6_trimmed 11 = .ok (.iload_n 2, 1) := by decide +kernel
theorem dX6_trimmed_12 : decode cX6_trimmed 12 = .ok (.invokevirtual 78, 3) := by decide +kernel
theorem dX6_trimmed_15 : decode cX6_trimmed 15 = .ok (.istore 4, 2) := by decide +kernel
theorem dX6_trimmed_17 : decode cX6_trimmed 17 = .ok (.iload 4, 2) := by decide +kernel
theorem dX6_trimmed_19 : decode cX6_trimmed 19 = .ok (.iconst (-1), 1) := by decide +kernel
theorem dX6_trimmed_20 : decode cX6_trimmed 20 = .ok (.if_icmp .ne 5, 3) := by decide +kernel
theorem dX6_trimmed_23 : decode cX6_trimmed 23 = .ok (.iload_n 2, 1) := by decide +kernel
theorem dX6_trimmed_24 : decode cX6_trimmed 24 = .ok (.ireturn, 1) := by decide +kernel
theorem dX6_trimmed_25 : decode cX6_trimmed 25 = .ok (.iload_n 2, 1) := by decide +kernel
theorem dX6_trimmed_26 : decode cX6_trimmed 26 = .ok (.iconst 1, 1) := by decide +kernel
theorem dX6_trimmed_27 : decode cX6_trimmed 27 = .ok (.iload 4, 2) := by decide +kernel
theorem dX6_trimmed_29 : decode cX6_trimmed 29 = .ok (.ishl, 1) := by decide +kernel
theorem dX6_trimmed_30 : decode cX6_trimmed 30 = .ok (.iconst (-1), 1) := by decide +kernel
theorem dX6_trimmed_31 : decode cX6_trimmed 31 = .ok (.ixor, 1) := by decide +kernel
theorem dX6_trimmed_32 : decode cX6_trimmed 32 = .ok (.iand, 1) := by decide +kernel
theorem dX6_trimmed_33 : decode cX6_trimmed 33 = .ok (.istore_n 2, 1) := by decide +kernel
theorem dX6_trimmed_34 : decode cX6_trimmed 34 = .ok (.iinc 3 1, 3) := by decide +kernel
theorem dX6_trimmed_37 : decode cX6_trimmed 37 = .ok (.goto (-33), 3) := by decide +kernel
theorem dX6_trimmed_40 : decode cX6_trimmed 40 = .ok (.iload_n 2, 1) := by decide +kernel
theorem dX6_trimmed_41 : decode cX6_trimmed 41 = .ok (.ireturn, 1) := by decide +kernel
set_option maxRecDepth 20000 in
theorem ggX6_spareStreetOf_X2_isTap : GoodIn wsX6_spareStreetOf wsX2_isTap := goodIn_r _ [6, 7, 8, 9, 10, 31, 32, 33, 34, 35, 36, 37, 38, 39, 40, 41, 42, 43, 44, 45, 46, 47, 48] (by decide +kernel) (by decide +kernel)
set_option maxRecDepth 20000 in
theorem gX6_spareStreetOf_X2_isTap : GoodIn wsX6_spareStreetOf (wsV RX6 84 RX2 yX2_isTap wsX2_isTap) := goodIn_app (goodIn_of _ (by decide +kernel)) ggX6_spareStreetOf_X2_isTap
set_option maxRecDepth 20000 in
theorem ggX6_spareStreetOf_J6_bitCount_0f7a4 : GoodIn wsX6_spareStreetOf wsJ6_bitCount_0f7a4 := goodIn_r _ [14, 15, 16, 17] (by decide +kernel) (by decide +kernel)
set_option maxRecDepth 20000 in
theorem gX6_spareStreetOf_J6_bitCount_0f7a4 : GoodIn wsX6_spareStreetOf (va_wsS RX6 64 yJ6_bitCount_0f7a4 wsJ6_bitCount_0f7a4) := goodIn_app (goodIn_of _ (by decide +kernel)) ggX6_spareStreetOf_J6_bitCount_0f7a4
set_option maxRecDepth 20000 in
theorem ggX6_spareStreetOf_J6_numberOfTrailingZeros_0f7a4 : GoodIn wsX6_spareStreetOf wsJ6_numberOfTrailingZeros_0f7a4 := goodIn_r _ [20, 21] (by decide +kernel) (by decide +kernel)
set_option maxRecDepth 20000 in
theorem gX6_spareStreetOf_J6_numberOfTrailingZeros_0f7a4 : GoodIn wsX6_spareStreetOf (va_wsS RX6 88 yJ6_numberOfTrailingZeros_0f7a4 wsJ6_numberOfTrailingZeros_0f7a4) := goodIn_app (goodIn_of _ (by decide +kernel)) ggX6_spareStreetOf_J6_numberOfTrailingZeros_0f7a4
theorem dX6_spareStreetOf_0 : decode cX6_spareStreetOf 0 = .ok (.iconst 0, 1) := by decide +kernel
theorem dX6_spareStreetOf_1 : decode cX6_spareStreetOf 1 = .ok (.istore_n 2, 1) := by decide +kernel
theorem dX6_spareStreetOf_2 : decode cX6_spareStreetOf 2 = .ok (.iload_n 2, 1) := by decide +kernel
theorem dX6_spareStreetOf_3 : decode cX6_spareStreetOf 3 = .ok (.aload_n 0, 1) := by decide +kernel
theorem dX6_spareStreetOf_4 : decode cX6_spareStreetOf 4 = .ok (.getfield 25, 3) := by decide +kernel
theorem dX6_spareStreetOf_7 : decode cX6_spareStreetOf 7 = .ok (.getfield 29, 3) := by decide +kernel
theorem dX6_spareStreetOf_10 : decode cX6_spareStreetOf 10 = .ok (.if_icmp .ge 81, 3) := by decide +kernel
theorem dX6_spareStreetOf_13 : decode cX6_spareStreetOf 13 = .ok (.aload_n 0, 1) := by decide +kernel
theorem dX6_spareStreetOf_14 : decode cX6_spareStreetOf 14 = .ok (.getfield 25, 3) := by decide +kernel
theorem dX6_spareStreetOf_17 : decode cX6_spareStreetOf 17 = .ok (.getfield 81, 3) := by decide +kernel
theorem dX6_spareStreetOf_20 : decode cX6_spareStreetOf 20 = .ok (.iload_n 2, 1) := by decide +kernel
theorem dX6_spareStreetOf_21 : decode cX6_spareStreetOf 21 = .ok (.iaload, 1) := by decide +kernel
theorem dX6_spareStreetOf_22 : decode cX6_spareStreetOf 22 = .ok (.iload_n 1, 1) := by decide +kernel
theorem dX6_spareStreetOf_23 : decode cX6_spareStreetOf 23 = .ok (.iand, 1) := by decide +kernel
theorem dX6_spareStreetOf_24 : decode cX6_spareStreetOf 24 = .ok (.istore_n 3, 1) := by decide +kernel
theorem dX6_spareStreetOf_25 : decode cX6_spareStreetOf 25 = .ok (.aload_n 0, 1) := by decide +kernel
theorem dX6_spareStreetOf_26 : decode cX6_spareStreetOf 26 = .ok (.getfield 25, 3) := by decide +kernel
theorem dX6_spareStreetOf_29 : decode cX6_spareStreetOf 29 = .ok (.iload_n 2, 1) := by decide +kernel
theorem dX6_spareStreetOf_30 : decode cX6_spareStreetOf 30 = .ok (.invokevirtual 84, 3) := by decide +kernel
theorem dX6_spareStreetOf_33 : decode cX6_spareStreetOf 33 = .ok (.ifCond .ne 52, 3) := by decide +kernel
theorem dX6_spareStreetOf_36 : decode cX6_spareStreetOf 36 = .ok (.iload_n 3, 1) := by decide +kernel
theorem dX6_spareStreetOf_37 : decode cX6_spareStreetOf 37 = .ok (.invokestatic 64, 3) := by decide +kernel
theorem dX6_spareStreetOf_40 : decode cX6_spareStreetOf 40 = .ok (.iconst 1, 1) := by decide +kernel
theorem dX6_spareStreetOf_41 : decode cX6_spareStreetOf 41 = .ok (.if_icmp .ne 44, 3) := by decide +kernel
theorem dX6_spareStreetOf_44 : decode cX6_spareStreetOf 44 = .ok (.iload_n 3, 1) := by decide +kernel
theorem dX6_spareStreetOf_45 : decode cX6_spareStreetOf 45 = .ok (.invokestatic 88, 3) := by decide +kernel
theorem dX6_spareStreetOf_48 : decode cX6_spareStreetOf 48 = .ok (.istore 4, 2) := by decide +kernel
theorem dX6_spareStreetOf_50 : decode cX6_spareStreetOf 50 = .ok (.aload_n 0, 1) := by decide +kernel
theorem dX6_spareStreetOf_51 : decode cX6_spareStreetOf 51 = .ok (.getfield 25, 3) := by decide +kernel
theorem dX6_spareStreetOf_54 : decode cX6_spareStreetOf 54 = .ok (.getfield 69, 3) := by decide +kernel
theorem dX6_spareStreetOf_57 : decode cX6_spareStreetOf 57 = .ok (.iload 4, 2) := by decide +kernel
theorem dX6_spareStreetOf_59 : decode cX6_spareStreetOf 59 = .ok (.iaload, 1) := by decide +kernel
theorem dX6_spareStreetOf_60 : decode cX6_spareStreetOf 60 = .ok (.aload_n 0, 1) := by decide +kernel
theorem dX6_spareStreetOf_61 : decode cX6_spareStreetOf 61 = .ok (.getfield 25, 3) := by decide +kernel
theorem dX6_spareStreetOf_64 : decode cX6_spareStreetOf 64 = .ok (.getfield 72, 3) := by decide +kernel
theorem dX6_spareStreetOf_67 : decode cX6_spareStreetOf 67 = .ok (.iload_n 2, 1) := by decide +kernel
theorem dX6_spareStreetOf_68 : decode cX6_spareStreetOf 68 = .ok (.iaload, 1) := by decide +kernel
theorem dX6_spareStreetOf_69 : decode cX6_spareStreetOf 69 = .ok (.iadd, 1) := by decide +kernel
theorem dX6_spareStreetOf_70 : decode cX6_spareStreetOf 70 = .ok (.aload_n 0, 1) := by decide +kernel
theorem dX6_spareStreetOf_71 : decode cX6_spareStreetOf 71 = .ok (.getfield 25, 3) := by decide +kernel
theorem dX6_spareStreetOf_74 : decode cX6_spareStreetOf 74 = .ok (.getfield 75, 3) := by decide +kernel
theorem dX6_spareStreetOf_77 : decode cX6_spareStreetOf 77 = .ok (.iload_n 2, 1) := by decide +kernel
theorem dX6_spareStreetOf_78 : decode cX6_spareStreetOf 78 = .ok (.iaload, 1) := by decide +kernel
theorem dX6_spareStreetOf_79 : decode cX6_spareStreetOf 79 = .ok (.if_icmp .lt 6, 3) := by decide +kernel
theorem dX6_spareStreetOf_82 : decode cX6_spareStreetOf 82 = .ok (.iload 4, 2) := by decide +kernel
theorem dX6_spareStreetOf_84 : decode cX6_spareStreetOf 84 = .ok (.ireturn, 1) := by decide +kernel
theorem dX6_spareStreetOf_85 : decode cX6_spareStreetOf 85 = .ok (.iinc 2 1, 3) := by decide +kernel
theorem dX6_spareStreetOf_88 : decode cX6_spareStreetOf 88 = .ok (.goto (-86), 3) := by decide +kernel
theorem dX6_spareStreetOf_91 : decode cX6_spareStreetOf 91 = .ok (.iconst (-1), 1) := by decide +kernel
theorem dX6_spareStreetOf_92 : decode cX6_spareStreetOf 92 = .ok (.ireturn, 1) := by decide +kernel
set_option maxRecDepth 20000 in
theorem ggX6_swapped_X6_tagOf : GoodIn wsX6_swapped wsX6_tagOf := goodIn_r _ [6, 1, 7, 8, 9, 5, 10, 11, 12, 13, 40, 41, 42, 43, 44, 45, 46, 47, 48, 49, 50, 51, 52, 53, 54, 55, 56, 57, 58, 59, 60, 61, 62, 63, 64, 65, 66] (by decide +kernel) (by decide +kernel)
set_option maxRecDepth 20000 in
theorem gX6_swapped_X6_tagOf : GoodIn wsX6_swapped (wsV RX6 91 RX6 yX6_tagOf wsX6_tagOf) := goodIn_app (goodIn_of _ (by decide +kernel)) ggX6_swapped_X6_tagOf
set_option maxRecDepth 20000 in
theorem ggX6_swapped_X2_isThere : GoodIn wsX6_swapped wsX2_isThere := goodIn_r _ [18, 19, 11, 12, 13, 49, 50, 51, 52, 53, 54, 55, 56, 57, 58, 59, 60, 61, 62, 63, 64, 65, 66] (by decide +kernel) (by decide +kernel)
set_option maxRecDepth 20000 in
theorem gX6_swapped_X2_isThere : GoodIn wsX6_swapped (wsV RX6 94 RX2 yX2_isThere wsX2_isThere) := goodIn_app (goodIn_of _ (by decide +kernel)) ggX6_swapped_X2_isThere
set_option maxRecDepth 20000 in
theorem ggX6_swapped_X11_bitAt : GoodIn wsX6_swapped wsX11_bitAt := goodIn_r _ [13] (by decide +kernel) (by decide +kernel)
set_option maxRecDepth 20000 in
theorem gX6_swapped_X11_bitAt_n37 : GoodIn wsX6_swapped (wsX11_bitAt) := ggX6_swapped_X11_bitAt
set_option maxRecDepth 20000 in
theorem ggX6_swapped_X6_flawOf : GoodIn wsX6_swapped wsX6_flawOf := goodIn_r _ [23, 1, 24, 11, 12, 13, 25, 26, 27, 5, 28, 7, 8, 9, 10, 29, 30, 31, 32, 33, 34, 35, 36, 37, 38, 39, 40, 41, 42, 43, 44, 45, 46, 47, 48, 49, 50, 51, 52, 53, 54, 55, 56, 57, 58, 59, 60, 61, 62, 63, 64, 65, 66] (by decide +kernel) (by decide +kernel)
set_option maxRecDepth 20000 in
theorem gX6_swapped_X6_flawOf : GoodIn wsX6_swapped (wsV RX6 97 RX6 yX6_flawOf wsX6_flawOf) := goodIn_app (goodIn_of _ (by decide +kernel)) ggX6_swapped_X6_flawOf
theorem dX6_swapped_0 : decode cX6_swapped 0 = .ok (.aload_n 0, 1) := by decide +kernel
theorem dX6_swapped_1 : decode cX6_swapped 1 = .ok (.iload_n 1, 1) := by decide +kernel
theorem dX6_swapped_2 : decode cX6_swapped 2 = .ok (.invokevirtual 91, 3) := by decide +kernel
theorem dX6_swapped_5 : decode cX6_swapped 5 = .ok (.istore_n 2, 1) := by decide +kernel
theorem dX6_swapped_6 : decode cX6_swapped 6 = .ok (.iconst 0, 1) := by decide +kernel
theorem dX6_swapped_7 : decode cX6_swapped 7 = .ok (.istore_n 3, 1) := by decide +kernel
theorem dX6_swapped_8 : decode cX6_swapped 8 = .ok (.iload_n 3, 1) := by decide +kernel
theorem dX6_swapped_9 : decode cX6_swapped 9 = .ok (.aload_n 0, 1) := by decide +kernel
theorem dX6_swapped_10 : decode cX6_swapped 10 = .ok (.getfield 25, 3) := by decide +kernel
theorem dX6_swapped_13 : decode cX6_swapped 13 = .ok (.getfield 34, 3) := by decide +kernel
theorem dX6_swapped_16 : decode cX6_swapped 16 = .ok (.if_icmp .ge 95, 3) := by decide +kernel
theorem dX6_swapped_19 : decode cX6_swapped 19 = .ok (.aload_n 0, 1) := by decide +kernel
theorem dX6_swapped_20 : decode cX6_swapped 20 = .ok (.getfield 25, 3) := by decide +kernel
theorem dX6_swapped_23 : decode cX6_swapped 23 = .ok (.iload_n 3, 1) := by decide +kernel
theorem dX6_swapped_24 : decode cX6_swapped 24 = .ok (.invokevirtual 94, 3) := by decide +kernel
theorem dX6_swapped_27 : decode cX6_swapped 27 = .ok (.ifCond .eq 78, 3) := by decide +kernel
theorem dX6_swapped_30 : decode cX6_swapped 30 = .ok (.iload_n 1, 1) := by decide +kernel
theorem dX6_swapped_31 : decode cX6_swapped 31 = .ok (.iload_n 3, 1) := by decide +kernel
theorem dX6_swapped_32 : decode cX6_swapped 32 = .ok (.invokestatic 37, 3) := by decide +kernel
theorem dX6_swapped_35 : decode cX6_swapped 35 = .ok (.ifCond .ne 70, 3) := by decide +kernel
theorem dX6_swapped_38 : decode cX6_swapped 38 = .ok (.iconst 0, 1) := by decide +kernel
theorem dX6_swapped_39 : decode cX6_swapped 39 = .ok (.istore 4, 2) := by decide +kernel
theorem dX6_swapped_41 : decode cX6_swapped 41 = .ok (.iload 4, 2) := by decide +kernel
theorem dX6_swapped_43 : decode cX6_swapped 43 = .ok (.aload_n 0, 1) := by decide +kernel
theorem dX6_swapped_44 : decode cX6_swapped 44 = .ok (.getfield 25, 3) := by decide +kernel
theorem dX6_swapped_47 : decode cX6_swapped 47 = .ok (.getfield 34, 3) := by decide +kernel
theorem dX6_swapped_50 : decode cX6_swapped 50 = .ok (.if_icmp .ge 55, 3) := by decide +kernel
theorem dX6_swapped_53 : decode cX6_swapped 53 = .ok (.iload_n 1, 1) := by decide +kernel
theorem dX6_swapped_54 : decode cX6_swapped 54 = .ok (.iconst 1, 1) := by decide +kernel
theorem dX6_swapped_55 : decode cX6_swapped 55 = .ok (.iload 4, 2) := by decide +kernel
theorem dX6_swapped_57 : decode cX6_swapped 57 = .ok (.ishl, 1) := by decide +kernel
theorem dX6_swapped_58 : decode cX6_swapped 58 = .ok (.iconst (-1), 1) := by decide +kernel
theorem dX6_swapped_59 : decode cX6_swapped 59 = .ok (.ixor, 1) := by decide +kernel
theorem dX6_swapped_60 : decode cX6_swapped 60 = .ok (.iand, 1) := by decide +kernel
theorem dX6_swapped_61 : decode cX6_swapped 61 = .ok (.iconst 1, 1) := by decide +kernel
theorem dX6_swapped_62 : decode cX6_swapped 62 = .ok (.iload_n 3, 1) := by decide +kernel
theorem dX6_swapped_63 : decode cX6_swapped 63 = .ok (.ishl, 1) := by decide +kernel
theorem dX6_swapped_64 : decode cX6_swapped 64 = .ok (.ior, 1) := by decide +kernel
theorem dX6_swapped_65 : decode cX6_swapped 65 = .ok (.istore 5, 2) := by decide +kernel
theorem dX6_swapped_67 : decode cX6_swapped 67 = .ok (.iload_n 1, 1) := by decide +kernel
theorem dX6_swapped_68 : decode cX6_swapped 68 = .ok (.iload 4, 2) := by decide +kernel
theorem dX6_swapped_70 : decode cX6_swapped 70 = .ok (.invokestatic 37, 3) := by decide +kernel
theorem dX6_swapped_73 : decode cX6_swapped 73 = .ok (.iconst 1, 1) := by decide +kernel
theorem dX6_swapped_74 : decode cX6_swapped 74 = .ok (.if_icmp .ne 25, 3) := by decide +kernel
theorem dX6_swapped_77 : decode cX6_swapped 77 = .ok (.aload_n 0, 1) := by decide +kernel
theorem dX6_swapped_78 : decode cX6_swapped 78 = .ok (.iload 5, 2) := by decide +kernel
theorem dX6_swapped_80 : decode cX6_swapped 80 = .ok (.invokevirtual 91, 3) := by decide +kernel
theorem dX6_swapped_83 : decode cX6_swapped 83 = .ok (.iload_n 2, 1) := by decide +kernel
theorem dX6_swapped_84 : decode cX6_swapped 84 = .ok (.if_icmp .ge 15, 3) := by decide +kernel
theorem dX6_swapped_87 : decode cX6_swapped 87 = .ok (.aload_n 0, 1) := by decide +kernel
theorem dX6_swapped_88 : decode cX6_swapped 88 = .ok (.iload 5, 2) := by decide +kernel
theorem dX6_swapped_90 : decode cX6_swapped 90 = .ok (.invokevirtual 97, 3) := by decide +kernel
theorem dX6_swapped_93 : decode cX6_swapped 93 = .ok (.ifCond .ne 6, 3) := by decide +kernel
theorem dX6_swapped_96 : decode cX6_swapped 96 = .ok (.iload 5, 2) := by decide +kernel
theorem dX6_swapped_98 : decode cX6_swapped 98 = .ok (.ireturn, 1) := by decide +kernel
theorem dX6_swapped_99 : decode cX6_swapped 99 = .ok (.iinc 4 1, 3) := by decide +kernel
theorem dX6_swapped_102 : decode cX6_swapped 102 = .ok (.goto (-61), 3) := by decide +kernel
theorem dX6_swapped_105 : decode cX6_swapped 105 = .ok (.iinc 3 1, 3) := by decide +kernel
theorem dX6_swapped_108 : decode cX6_swapped 108 = .ok (.goto (-100), 3) := by decide +kernel
theorem dX6_swapped_111 : decode cX6_swapped 111 = .ok (.iload_n 1, 1) := by decide +kernel
theorem dX6_swapped_112 : decode cX6_swapped 112 = .ok (.ireturn, 1) := by decide +kernel
set_option maxRecDepth 20000 in
theorem ggX6_leastTag_X6_refresh : GoodIn wsX6_leastTag wsX6_refresh := goodIn_r _ [8, 9, 10, 1, 11, 12, 13, 14, 15, 16, 17, 18, 19, 20, 21, 22, 23, 7, 24, 25, 26, 27, 28, 3, 29, 30, 31, 32, 33, 34, 35, 36, 37, 38, 39, 40, 41, 42, 43, 44, 45, 46, 47, 48, 49, 50, 51, 52, 53, 54, 55, 56, 57, 58, 59, 60, 61, 62, 63, 64, 65, 66, 67, 68, 69, 70, 71, 72, 73, 74, 75, 76, 77, 78, 79, 80, 81, 82, 83, 84, 85, 86, 87] (by decide +kernel) (by decide +kernel)
set_option maxRecDepth 20000 in
theorem gX6_leastTag_X6_refresh : GoodIn wsX6_leastTag (wsV RX6 100 RX6 yX6_refresh wsX6_refresh) := goodIn_app (goodIn_of _ (by decide +kernel)) ggX6_leastTag_X6_refresh
theorem dX6_leastTag_0 : decode cX6_leastTag 0 = .ok (.aload_n 0, 1) := by decide +kernel
theorem dX6_leastTag_1 : decode cX6_leastTag 1 = .ok (.invokevirtual 100, 3) := by decide +kernel
theorem dX6_leastTag_4 : decode cX6_leastTag 4 = .ok (.aload_n 0, 1) := by decide +kernel
theorem dX6_leastTag_5 : decode cX6_leastTag 5 = .ok (.getfield 103, 3) := by decide +kernel
theorem dX6_leastTag_8 : decode cX6_leastTag 8 = .ok (.ifCond .ne 8, 3) := by decide +kernel
theorem dX6_leastTag_11 : decode cX6_leastTag 11 = .ok (.ldc 106, 2) := by decide +kernel
theorem dX6_leastTag_13 : decode cX6_leastTag 13 = .ok (.goto 7, 3) := by decide +kernel
theorem dX6_leastTag_16 : decode cX6_leastTag 16 = .ok (.aload_n 0, 1) := by decide +kernel
theorem dX6_leastTag_17 : decode cX6_leastTag 17 = .ok (.getfield 107, 3) := by decide +kernel
theorem dX6_leastTag_20 : decode cX6_leastTag 20 = .ok (.ireturn, 1) := by decide +kernel
set_option maxRecDepth 20000 in
theorem ggX6_howManyBest_X6_refresh : GoodIn wsX6_howManyBest wsX6_refresh := goodIn_r _ [6, 7, 8, 1, 9, 10, 11, 12, 13, 14, 15, 16, 17, 18, 19, 20, 21, 5, 22, 23, 24, 25, 26, 27, 28, 29, 30, 31, 32, 33, 34, 35, 36, 37, 38, 39, 40, 41, 42, 43, 44, 45, 46, 47, 48, 49, 50, 51, 52, 53, 54, 55, 56, 57, 58, 59, 60, 61, 62, 63, 64, 65, 66, 67, 68, 69, 70, 71, 72, 73, 74, 75, 76, 77, 78, 79, 80, 81, 82, 83, 84, 85, 86] (by decide +kernel) (by decide +kernel)
set_option maxRecDepth 20000 in
theorem gX6_howManyBest_X6_refresh : GoodIn wsX6_howManyBest (wsV RX6 100 RX6 yX6_refresh wsX6_refresh) := goodIn_app (goodIn_of _ (by decide +kernel)) ggX6_howManyBest_X6_refresh
theorem dX6_howManyBest_0 : decode cX6_howManyBest 0 = .ok (.aload_n 0, 1) := by decide +kernel
theorem dX6_howManyBest_1 : decode cX6_howManyBest 1 = .ok (.invokevirtual 100, 3) := by decide +kernel
theorem dX6_howManyBest_4 : decode cX6_howManyBest 4 = .ok (.aload_n 0, 1) := by decide +kernel
theorem dX6_howManyBest_5 : decode cX6_howManyBest 5 = .ok (.getfield 103, 3) := by decide +kernel
theorem dX6_howManyBest_8 : decode cX6_howManyBest 8 = .ok (.ireturn, 1) := by decide +kernel
set_option maxRecDepth 20000 in
theorem ggX6_streetOfBest_X6_refresh : GoodIn wsX6_streetOfBest wsX6_refresh := goodIn_r _ [8, 9, 2, 1, 10, 11, 12, 13, 14, 15, 16, 17, 18, 19, 20, 21, 22, 7, 23, 24, 25, 26, 27, 28, 29, 30, 31, 32, 33, 34, 3, 35, 36, 37, 38, 39, 40, 41, 42, 43, 44, 45, 46, 47, 48, 49, 50, 51, 52, 53, 54, 55, 56, 57, 58, 59, 60, 61, 62, 63, 64, 65, 66, 67, 68, 69, 70, 71, 72, 73, 74, 75, 76, 77, 78, 79, 80, 81, 82, 83, 84, 85, 86] (by decide +kernel) (by decide +kernel)
set_option maxRecDepth 20000 in
theorem gX6_streetOfBest_X6_refresh : GoodIn wsX6_streetOfBest (wsV RX6 100 RX6 yX6_refresh wsX6_refresh) := goodIn_app (goodIn_of _ (by decide +kernel)) ggX6_streetOfBest_X6_refresh
set_option maxRecDepth 20000 in
theorem ggX6_streetOfBest_X11_bitAt : GoodIn wsX6_streetOfBest wsX11_bitAt := goodIn_r _ [59] (by decide +kernel) (by decide +kernel)
set_option maxRecDepth 20000 in
theorem gX6_streetOfBest_X11_bitAt_n37 : GoodIn wsX6_streetOfBest (wsX11_bitAt) := ggX6_streetOfBest_X11_bitAt
theorem dX6_streetOfBest_0 : decode cX6_streetOfBest 0 = .ok (.aload_n 0, 1) := by decide +kernel
theorem dX6_streetOfBest_1 : decode cX6_streetOfBest 1 = .ok (.invokevirtual 100, 3) := by decide +kernel
theorem dX6_streetOfBest_4 : decode cX6_streetOfBest 4 = .ok (.iload_n 1, 1) := by decide +kernel
theorem dX6_streetOfBest_5 : decode cX6_streetOfBest 5 = .ok (.ifCond .lt 21, 3) := by decide +kernel
theorem dX6_streetOfBest_8 : decode cX6_streetOfBest 8 = .ok (.iload_n 1, 1) := by decide +kernel
theorem dX6_streetOfBest_9 : decode cX6_streetOfBest 9 = .ok (.aload_n 0, 1) := by decide +kernel
theorem dX6_streetOfBest_10 : decode cX6_streetOfBest 10 = .ok (.getfield 103, 3) := by decide +kernel
theorem dX6_streetOfBest_13 : decode cX6_streetOfBest 13 = .ok (.if_icmp .ge 13, 3) := by decide +kernel
theorem dX6_streetOfBest_16 : decode cX6_streetOfBest 16 = .ok (.iload_n 2, 1) := by decide +kernel
theorem dX6_streetOfBest_17 : decode cX6_streetOfBest 17 = .ok (.ifCond .lt 9, 3) := by decide +kernel
theorem dX6_streetOfBest_20 : decode cX6_streetOfBest 20 = .ok (.iload_n 2, 1) := by decide +kernel
theorem dX6_streetOfBest_21 : decode cX6_streetOfBest 21 = .ok (.bipush 16, 2) := by decide +kernel
theorem dX6_streetOfBest_23 : decode cX6_streetOfBest 23 = .ok (.if_icmp .lt 5, 3) := by decide +kernel
theorem dX6_streetOfBest_26 : decode cX6_streetOfBest 26 = .ok (.iconst (-1), 1) := by decide +kernel
theorem dX6_streetOfBest_27 : decode cX6_streetOfBest 27 = .ok (.ireturn, 1) := by decide +kernel
theorem dX6_streetOfBest_28 : decode cX6_streetOfBest 28 = .ok (.iconst 0, 1) := by decide +kernel
theorem dX6_streetOfBest_29 : decode cX6_streetOfBest 29 = .ok (.istore_n 3, 1) := by decide +kernel
theorem dX6_streetOfBest_30 : decode cX6_streetOfBest 30 = .ok (.iconst 0, 1) := by decide +kernel
theorem dX6_streetOfBest_31 : decode cX6_streetOfBest 31 = .ok (.istore 4, 2) := by decide +kernel
theorem dX6_streetOfBest_33 : decode cX6_streetOfBest 33 = .ok (.iload 4, 2) := by decide +kernel
theorem dX6_streetOfBest_35 : decode cX6_streetOfBest 35 = .ok (.aload_n 0, 1) := by decide +kernel
theorem dX6_streetOfBest_36 : decode cX6_streetOfBest 36 = .ok (.getfield 25, 3) := by decide +kernel
theorem dX6_streetOfBest_39 : decode cX6_streetOfBest 39 = .ok (.getfield 34, 3) := by decide +kernel
theorem dX6_streetOfBest_42 : decode cX6_streetOfBest 42 = .ok (.if_icmp .ge 35, 3) := by decide +kernel
theorem dX6_streetOfBest_45 : decode cX6_streetOfBest 45 = .ok (.aload_n 0, 1) := by decide +kernel
theorem dX6_streetOfBest_46 : decode cX6_streetOfBest 46 = .ok (.getfield 18, 3) := by decide +kernel
theorem dX6_streetOfBest_49 : decode cX6_streetOfBest 49 = .ok (.iload_n 1, 1) := by decide +kernel
theorem dX6_streetOfBest_50 : decode cX6_streetOfBest 50 = .ok (.iaload, 1) := by decide +kernel
theorem dX6_streetOfBest_51 : decode cX6_streetOfBest 51 = .ok (.iload 4, 2) := by decide +kernel
theorem dX6_streetOfBest_53 : decode cX6_streetOfBest 53 = .ok (.invokestatic 37, 3) := by decide +kernel
theorem dX6_streetOfBest_56 : decode cX6_streetOfBest 56 = .ok (.iconst 1, 1) := by decide +kernel
theorem dX6_streetOfBest_57 : decode cX6_streetOfBest 57 = .ok (.if_icmp .ne 14, 3) := by decide +kernel
theorem dX6_streetOfBest_60 : decode cX6_streetOfBest 60 = .ok (.iload_n 3, 1) := by decide +kernel
theorem dX6_streetOfBest_61 : decode cX6_streetOfBest 61 = .ok (.iload_n 2, 1) := by decide +kernel
theorem dX6_streetOfBest_62 : decode cX6_streetOfBest 62 = .ok (.if_icmp .ne 6, 3) := by decide +kernel
theorem dX6_streetOfBest_65 : decode cX6_streetOfBest 65 = .ok (.iload 4, 2) := by decide +kernel
theorem dX6_streetOfBest_67 : decode cX6_streetOfBest 67 = .ok (.ireturn, 1) := by decide +kernel
theorem dX6_streetOfBest_68 : decode cX6_streetOfBest 68 = .ok (.iinc 3 1, 3) := by decide +kernel
theorem dX6_streetOfBest_71 : decode cX6_streetOfBest 71 = .ok (.iinc 4 1, 3) := by decide +kernel
theorem dX6_streetOfBest_74 : decode cX6_streetOfBest 74 = .ok (.goto (-41), 3) := by decide +kernel
theorem dX6_streetOfBest_77 : decode cX6_streetOfBest 77 = .ok (.iconst (-1), 1) := by decide +kernel
theorem dX6_streetOfBest_78 : decode cX6_streetOfBest 78 = .ok (.ireturn, 1) := by decide +kernel
set_option maxRecDepth 20000 in
theorem ggX6_useInBest_X6_refresh : GoodIn wsX6_useInBest wsX6_refresh := goodIn_r _ [8, 9, 10, 1, 11, 12, 13, 14, 15, 16, 17, 18, 19, 20, 21, 22, 23, 7, 24, 25, 26, 27, 28, 29, 2, 3, 30, 31, 32, 33, 34, 35, 36, 37, 38, 39, 40, 41, 42, 43, 44, 45, 46, 47, 48, 49, 50, 51, 52, 53, 54, 55, 56, 57, 58, 59, 60, 61, 62, 63, 64, 65, 66, 67, 68, 69, 70, 71, 72, 73, 74, 75, 76, 77, 78, 79, 80, 81, 82, 83, 84, 85, 86] (by decide +kernel) (by decide +kernel)
