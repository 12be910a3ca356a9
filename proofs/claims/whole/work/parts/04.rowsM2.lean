theorem dX12_span_167 : decode cX12_span 167 = .ok (.istore_n 3, 1) := by decide +kernel
theorem dX12_span_168 : decode cX12_span 168 = .ok (.goto (-149), 3) := by decide +kernel
theorem dX12_span_171 : decode cX12_span 171 = .ok (.iload_n 3, 1) := by decide +kernel
theorem dX12_span_172 : decode cX12_span 172 = .ok (.ireturn, 1) := by decide +kernel
set_option maxRecDepth 20000 in
theorem ggX12_isActive_X12_taps : GoodIn wsX12_isActive wsX12_taps := goodIn_r _ [7, 8, 9, 10, 11, 6, 12, 13, 17, 18, 19, 20, 21, 22, 23, 24, 25, 26, 27, 28, 29, 30, 31, 32, 33, 34, 35, 36, 37, 38, 39, 40, 41, 42, 43, 44, 45, 46, 47, 48] (by decide +kernel) (by decide +kernel)
set_option maxRecDepth 20000 in
theorem gX12_isActive_X12_taps : GoodIn wsX12_isActive (wsV RX12 131 RX12 yX12_taps wsX12_taps) := goodIn_app (goodIn_of _ (by decide +kernel)) ggX12_isActive_X12_taps
set_option maxRecDepth 20000 in
theorem ggX12_isActive_X12_has : GoodIn wsX12_isActive wsX12_has := goodIn_r _ [16] (by decide +kernel) (by decide +kernel)
set_option maxRecDepth 20000 in
theorem gX12_isActive_X12_has : GoodIn wsX12_isActive (va_wsS RX12 117 yX12_has wsX12_has) := goodIn_app (goodIn_of _ (by decide +kernel)) ggX12_isActive_X12_has
theorem dX12_isActive_0 : decode cX12_isActive 0 = .ok (.aload_n 0, 1) := by decide +kernel
theorem dX12_isActive_1 : decode cX12_isActive 1 = .ok (.getfield 56, 3) := by decide +kernel
theorem dX12_isActive_4 : decode cX12_isActive 4 = .ok (.iload_n 1, 1) := by decide +kernel
theorem dX12_isActive_5 : decode cX12_isActive 5 = .ok (.iaload, 1) := by decide +kernel
theorem dX12_isActive_6 : decode cX12_isActive 6 = .ok (.aload_n 0, 1) := by decide +kernel
theorem dX12_isActive_7 : decode cX12_isActive 7 = .ok (.invokevirtual 131, 3) := by decide +kernel
theorem dX12_isActive_10 : decode cX12_isActive 10 = .ok (.iand, 1) := by decide +kernel
theorem dX12_isActive_11 : decode cX12_isActive 11 = .ok (.ifCond .eq 23, 3) := by decide +kernel
theorem dX12_isActive_14 : decode cX12_isActive 14 = .ok (.aload_n 0, 1) := by decide +kernel
theorem dX12_isActive_15 : decode cX12_isActive 15 = .ok (.getfield 56, 3) := by decide +kernel
theorem dX12_isActive_18 : decode cX12_isActive 18 = .ok (.iload_n 1, 1) := by decide +kernel
theorem dX12_isActive_19 : decode cX12_isActive 19 = .ok (.iaload, 1) := by decide +kernel
theorem dX12_isActive_20 : decode cX12_isActive 20 = .ok (.aload_n 0, 1) := by decide +kernel
theorem dX12_isActive_21 : decode cX12_isActive 21 = .ok (.getfield 186, 3) := by decide +kernel
theorem dX12_isActive_24 : decode cX12_isActive 24 = .ok (.invokestatic 117, 3) := by decide +kernel
theorem dX12_isActive_27 : decode cX12_isActive 27 = .ok (.ifCond .ne 7, 3) := by decide +kernel
theorem dX12_isActive_30 : decode cX12_isActive 30 = .ok (.iconst 1, 1) := by decide +kernel
theorem dX12_isActive_31 : decode cX12_isActive 31 = .ok (.goto 4, 3) := by decide +kernel
theorem dX12_isActive_34 : decode cX12_isActive 34 = .ok (.iconst 0, 1) := by decide +kernel
theorem dX12_isActive_35 : decode cX12_isActive 35 = .ok (.ireturn, 1) := by decide +kernel
set_option maxRecDepth 20000 in
theorem ggX12_room_X12_has : GoodIn wsX12_room wsX12_has := goodIn_r _ [10] (by decide +kernel) (by decide +kernel)
set_option maxRecDepth 20000 in
theorem gX12_room_X12_has : GoodIn wsX12_room (va_wsS RX12 117 yX12_has wsX12_has) := goodIn_app (goodIn_of _ (by decide +kernel)) ggX12_room_X12_has
theorem dX12_room_0 : decode cX12_room 0 = .ok (.sipush 1024, 3) := by decide +kernel
theorem dX12_room_3 : decode cX12_room 3 = .ok (.aload_n 0, 1) := by decide +kernel
theorem dX12_room_4 : decode cX12_room 4 = .ok (.getfield 22, 3) := by decide +kernel
theorem dX12_room_7 : decode cX12_room 7 = .ok (.iload_n 1, 1) := by decide +kernel
theorem dX12_room_8 : decode cX12_room 8 = .ok (.iaload, 1) := by decide +kernel
theorem dX12_room_9 : decode cX12_room 9 = .ok (.imul, 1) := by decide +kernel
theorem dX12_room_10 : decode cX12_room 10 = .ok (.istore_n 2, 1) := by decide +kernel
theorem dX12_room_11 : decode cX12_room 11 = .ok (.iconst 0, 1) := by decide +kernel
theorem dX12_room_12 : decode cX12_room 12 = .ok (.istore_n 3, 1) := by decide +kernel
theorem dX12_room_13 : decode cX12_room 13 = .ok (.iload_n 3, 1) := by decide +kernel
theorem dX12_room_14 : decode cX12_room 14 = .ok (.aload_n 0, 1) := by decide +kernel
theorem dX12_room_15 : decode cX12_room 15 = .ok (.getfield 189, 3) := by decide +kernel
theorem dX12_room_18 : decode cX12_room 18 = .ok (.if_icmp .ge 55, 3) := by decide +kernel
theorem dX12_room_21 : decode cX12_room 21 = .ok (.iload_n 2, 1) := by decide +kernel
theorem dX12_room_22 : decode cX12_room 22 = .ok (.aload_n 0, 1) := by decide +kernel
theorem dX12_room_23 : decode cX12_room 23 = .ok (.getfield 56, 3) := by decide +kernel
theorem dX12_room_26 : decode cX12_room 26 = .ok (.iload_n 3, 1) := by decide +kernel
theorem dX12_room_27 : decode cX12_room 27 = .ok (.iaload, 1) := by decide +kernel
theorem dX12_room_28 : decode cX12_room 28 = .ok (.aload_n 0, 1) := by decide +kernel
theorem dX12_room_29 : decode cX12_room 29 = .ok (.getfield 16, 3) := by decide +kernel
theorem dX12_room_32 : decode cX12_room 32 = .ok (.iload_n 1, 1) := by decide +kernel
theorem dX12_room_33 : decode cX12_room 33 = .ok (.iaload, 1) := by decide +kernel
theorem dX12_room_34 : decode cX12_room 34 = .ok (.invokestatic 117, 3) := by decide +kernel
theorem dX12_room_37 : decode cX12_room 37 = .ok (.aload_n 0, 1) := by decide +kernel
theorem dX12_room_38 : decode cX12_room 38 = .ok (.getfield 56, 3) := by decide +kernel
theorem dX12_room_41 : decode cX12_room 41 = .ok (.iload_n 3, 1) := by decide +kernel
theorem dX12_room_42 : decode cX12_room 42 = .ok (.iaload, 1) := by decide +kernel
theorem dX12_room_43 : decode cX12_room 43 = .ok (.aload_n 0, 1) := by decide +kernel
theorem dX12_room_44 : decode cX12_room 44 = .ok (.getfield 19, 3) := by decide +kernel
theorem dX12_room_47 : decode cX12_room 47 = .ok (.iload_n 1, 1) := by decide +kernel
theorem dX12_room_48 : decode cX12_room 48 = .ok (.iaload, 1) := by decide +kernel
theorem dX12_room_49 : decode cX12_room 49 = .ok (.invokestatic 117, 3) := by decide +kernel
theorem dX12_room_52 : decode cX12_room 52 = .ok (.if_icmp .eq 12, 3) := by decide +kernel
theorem dX12_room_55 : decode cX12_room 55 = .ok (.aload_n 0, 1) := by decide +kernel
theorem dX12_room_56 : decode cX12_room 56 = .ok (.getfield 59, 3) := by decide +kernel
theorem dX12_room_59 : decode cX12_room 59 = .ok (.iload_n 3, 1) := by decide +kernel
theorem dX12_room_60 : decode cX12_room 60 = .ok (.iaload, 1) := by decide +kernel
theorem dX12_room_61 : decode cX12_room 61 = .ok (.goto 4, 3) := by decide +kernel
theorem dX12_room_64 : decode cX12_room 64 = .ok (.iconst 0, 1) := by decide +kernel
theorem dX12_room_65 : decode cX12_room 65 = .ok (.isub, 1) := by decide +kernel
theorem dX12_room_66 : decode cX12_room 66 = .ok (.istore_n 2, 1) := by decide +kernel
theorem dX12_room_67 : decode cX12_room 67 = .ok (.iinc 3 1, 3) := by decide +kernel
theorem dX12_room_70 : decode cX12_room 70 = .ok (.goto (-57), 3) := by decide +kernel
theorem dX12_room_73 : decode cX12_room 73 = .ok (.iload_n 2, 1) := by decide +kernel
theorem dX12_room_74 : decode cX12_room 74 = .ok (.ireturn, 1) := by decide +kernel
set_option maxRecDepth 20000 in
theorem ggX12_sides_X12_has : GoodIn wsX12_sides wsX12_has := goodIn_r _ [8] (by decide +kernel) (by decide +kernel)
set_option maxRecDepth 20000 in
theorem gX12_sides_X12_has : GoodIn wsX12_sides (va_wsS RX12 117 yX12_has wsX12_has) := goodIn_app (goodIn_of _ (by decide +kernel)) ggX12_sides_X12_has
set_option maxRecDepth 20000 in
theorem ggX12_sides_X12_isActive : GoodIn wsX12_sides wsX12_isActive := goodIn_r _ [12, 13, 14, 15, 16, 17, 7, 18, 19, 20, 21, 22, 23, 24, 5, 6, 8, 25, 26, 27, 28, 29, 30, 31, 32, 33, 34, 35, 36, 37, 38, 39, 40, 41, 42, 43, 44, 45, 46, 47, 48, 49, 50, 51, 52, 53, 54, 55, 56] (by decide +kernel) (by decide +kernel)
set_option maxRecDepth 20000 in
theorem gX12_sides_X12_isActive : GoodIn wsX12_sides (wsV RX12 192 RX12 yX12_isActive wsX12_isActive) := goodIn_app (goodIn_of _ (by decide +kernel)) ggX12_sides_X12_isActive
theorem dX12_sides_0 : decode cX12_sides 0 = .ok (.aload_n 0, 1) := by decide +kernel
theorem dX12_sides_1 : decode cX12_sides 1 = .ok (.getfield 62, 3) := by decide +kernel
theorem dX12_sides_4 : decode cX12_sides 4 = .ok (.aload_n 0, 1) := by decide +kernel
theorem dX12_sides_5 : decode cX12_sides 5 = .ok (.getfield 16, 3) := by decide +kernel
theorem dX12_sides_8 : decode cX12_sides 8 = .ok (.iload_n 1, 1) := by decide +kernel
theorem dX12_sides_9 : decode cX12_sides 9 = .ok (.iaload, 1) := by decide +kernel
theorem dX12_sides_10 : decode cX12_sides 10 = .ok (.iaload, 1) := by decide +kernel
theorem dX12_sides_11 : decode cX12_sides 11 = .ok (.istore_n 2, 1) := by decide +kernel
theorem dX12_sides_12 : decode cX12_sides 12 = .ok (.aload_n 0, 1) := by decide +kernel
theorem dX12_sides_13 : decode cX12_sides 13 = .ok (.getfield 62, 3) := by decide +kernel
theorem dX12_sides_16 : decode cX12_sides 16 = .ok (.aload_n 0, 1) := by decide +kernel
theorem dX12_sides_17 : decode cX12_sides 17 = .ok (.getfield 19, 3) := by decide +kernel
theorem dX12_sides_20 : decode cX12_sides 20 = .ok (.iload_n 1, 1) := by decide +kernel
theorem dX12_sides_21 : decode cX12_sides 21 = .ok (.iaload, 1) := by decide +kernel
theorem dX12_sides_22 : decode cX12_sides 22 = .ok (.iaload, 1) := by decide +kernel
theorem dX12_sides_23 : decode cX12_sides 23 = .ok (.istore_n 3, 1) := by decide +kernel
theorem dX12_sides_24 : decode cX12_sides 24 = .ok (.aload_n 0, 1) := by decide +kernel
theorem dX12_sides_25 : decode cX12_sides 25 = .ok (.getfield 101, 3) := by decide +kernel
theorem dX12_sides_28 : decode cX12_sides 28 = .ok (.iload_n 1, 1) := by decide +kernel
theorem dX12_sides_29 : decode cX12_sides 29 = .ok (.invokestatic 117, 3) := by decide +kernel
theorem dX12_sides_32 : decode cX12_sides 32 = .ok (.ifCond .eq 8, 3) := by decide +kernel
theorem dX12_sides_35 : decode cX12_sides 35 = .ok (.iload_n 2, 1) := by decide +kernel
theorem dX12_sides_36 : decode cX12_sides 36 = .ok (.iload_n 3, 1) := by decide +kernel
theorem dX12_sides_37 : decode cX12_sides 37 = .ok (.if_icmp .ne 7, 3) := by decide +kernel
theorem dX12_sides_40 : decode cX12_sides 40 = .ok (.iconst 0, 1) := by decide +kernel
theorem dX12_sides_41 : decode cX12_sides 41 = .ok (.goto 30, 3) := by decide +kernel
theorem dX12_sides_44 : decode cX12_sides 44 = .ok (.aload_n 0, 1) := by decide +kernel
theorem dX12_sides_45 : decode cX12_sides 45 = .ok (.iload_n 2, 1) := by decide +kernel
theorem dX12_sides_46 : decode cX12_sides 46 = .ok (.invokevirtual 192, 3) := by decide +kernel
theorem dX12_sides_49 : decode cX12_sides 49 = .ok (.ifCond .eq 7, 3) := by decide +kernel
theorem dX12_sides_52 : decode cX12_sides 52 = .ok (.iconst 1, 1) := by decide +kernel
theorem dX12_sides_53 : decode cX12_sides 53 = .ok (.goto 4, 3) := by decide +kernel
theorem dX12_sides_56 : decode cX12_sides 56 = .ok (.iconst 0, 1) := by decide +kernel
theorem dX12_sides_57 : decode cX12_sides 57 = .ok (.aload_n 0, 1) := by decide +kernel
theorem dX12_sides_58 : decode cX12_sides 58 = .ok (.iload_n 3, 1) := by decide +kernel
theorem dX12_sides_59 : decode cX12_sides 59 = .ok (.invokevirtual 192, 3) := by decide +kernel
theorem dX12_sides_62 : decode cX12_sides 62 = .ok (.ifCond .eq 7, 3) := by decide +kernel
theorem dX12_sides_65 : decode cX12_sides 65 = .ok (.iconst 1, 1) := by decide +kernel
theorem dX12_sides_66 : decode cX12_sides 66 = .ok (.goto 4, 3) := by decide +kernel
theorem dX12_sides_69 : decode cX12_sides 69 = .ok (.iconst 0, 1) := by decide +kernel
theorem dX12_sides_70 : decode cX12_sides 70 = .ok (.iadd, 1) := by decide +kernel
theorem dX12_sides_71 : decode cX12_sides 71 = .ok (.ireturn, 1) := by decide +kernel
theorem dX12_joins_0 : decode cX12_joins 0 = .ok (.aload_n 0, 1) := by decide +kernel
theorem dX12_joins_1 : decode cX12_joins 1 = .ok (.getfield 62, 3) := by decide +kernel
theorem dX12_joins_4 : decode cX12_joins 4 = .ok (.aload_n 0, 1) := by decide +kernel
theorem dX12_joins_5 : decode cX12_joins 5 = .ok (.getfield 16, 3) := by decide +kernel
theorem dX12_joins_8 : decode cX12_joins 8 = .ok (.iload_n 1, 1) := by decide +kernel
theorem dX12_joins_9 : decode cX12_joins 9 = .ok (.iaload, 1) := by decide +kernel
theorem dX12_joins_10 : decode cX12_joins 10 = .ok (.iaload, 1) := by decide +kernel
theorem dX12_joins_11 : decode cX12_joins 11 = .ok (.istore_n 2, 1) := by decide +kernel
theorem dX12_joins_12 : decode cX12_joins 12 = .ok (.aload_n 0, 1) := by decide +kernel
theorem dX12_joins_13 : decode cX12_joins 13 = .ok (.getfield 62, 3) := by decide +kernel
theorem dX12_joins_16 : decode cX12_joins 16 = .ok (.aload_n 0, 1) := by decide +kernel
theorem dX12_joins_17 : decode cX12_joins 17 = .ok (.getfield 19, 3) := by decide +kernel
theorem dX12_joins_20 : decode cX12_joins 20 = .ok (.iload_n 1, 1) := by decide +kernel
theorem dX12_joins_21 : decode cX12_joins 21 = .ok (.iaload, 1) := by decide +kernel
theorem dX12_joins_22 : decode cX12_joins 22 = .ok (.iaload, 1) := by decide +kernel
theorem dX12_joins_23 : decode cX12_joins 23 = .ok (.istore_n 3, 1) := by decide +kernel
theorem dX12_joins_24 : decode cX12_joins 24 = .ok (.aload_n 0, 1) := by decide +kernel
theorem dX12_joins_25 : decode cX12_joins 25 = .ok (.getfield 56, 3) := by decide +kernel
theorem dX12_joins_28 : decode cX12_joins 28 = .ok (.aload_n 0, 1) := by decide +kernel
theorem dX12_joins_29 : decode cX12_joins 29 = .ok (.getfield 189, 3) := by decide +kernel
theorem dX12_joins_32 : decode cX12_joins 32 = .ok (.aload_n 0, 1) := by decide +kernel
theorem dX12_joins_33 : decode cX12_joins 33 = .ok (.getfield 56, 3) := by decide +kernel
theorem dX12_joins_36 : decode cX12_joins 36 = .ok (.iload_n 2, 1) := by decide +kernel
theorem dX12_joins_37 : decode cX12_joins 37 = .ok (.iaload, 1) := by decide +kernel
theorem dX12_joins_38 : decode cX12_joins 38 = .ok (.aload_n 0, 1) := by decide +kernel
theorem dX12_joins_39 : decode cX12_joins 39 = .ok (.getfield 56, 3) := by decide +kernel
theorem dX12_joins_42 : decode cX12_joins 42 = .ok (.iload_n 3, 1) := by decide +kernel
theorem dX12_joins_43 : decode cX12_joins 43 = .ok (.iaload, 1) := by decide +kernel
theorem dX12_joins_44 : decode cX12_joins 44 = .ok (.ior, 1) := by decide +kernel
theorem dX12_joins_45 : decode cX12_joins 45 = .ok (.iastore, 1) := by decide +kernel
theorem dX12_joins_46 : decode cX12_joins 46 = .ok (.aload_n 0, 1) := by decide +kernel
theorem dX12_joins_47 : decode cX12_joins 47 = .ok (.getfield 59, 3) := by decide +kernel
theorem dX12_joins_50 : decode cX12_joins 50 = .ok (.aload_n 0, 1) := by decide +kernel
theorem dX12_joins_51 : decode cX12_joins 51 = .ok (.getfield 189, 3) := by decide +kernel
theorem dX12_joins_54 : decode cX12_joins 54 = .ok (.iconst 0, 1) := by decide +kernel
theorem dX12_joins_55 : decode cX12_joins 55 = .ok (.iastore, 1) := by decide +kernel
theorem dX12_joins_56 : decode cX12_joins 56 = .ok (.iconst 0, 1) := by decide +kernel
theorem dX12_joins_57 : decode cX12_joins 57 = .ok (.istore 4, 2) := by decide +kernel
theorem dX12_joins_59 : decode cX12_joins 59 = .ok (.iload 4, 2) := by decide +kernel
theorem dX12_joins_61 : decode cX12_joins 61 = .ok (.aload_n 0, 1) := by decide +kernel
theorem dX12_joins_62 : decode cX12_joins 62 = .ok (.getfield 69, 3) := by decide +kernel
theorem dX12_joins_65 : decode cX12_joins 65 = .ok (.if_icmp .ge 52, 3) := by decide +kernel
theorem dX12_joins_68 : decode cX12_joins 68 = .ok (.aload_n 0, 1) := by decide +kernel
theorem dX12_joins_69 : decode cX12_joins 69 = .ok (.getfield 62, 3) := by decide +kernel
theorem dX12_joins_72 : decode cX12_joins 72 = .ok (.iload 4, 2) := by decide +kernel
theorem dX12_joins_74 : decode cX12_joins 74 = .ok (.aload_n 0, 1) := by decide +kernel
theorem dX12_joins_75 : decode cX12_joins 75 = .ok (.getfield 62, 3) := by decide +kernel
theorem dX12_joins_78 : decode cX12_joins 78 = .ok (.iload 4, 2) := by decide +kernel
theorem dX12_joins_80 : decode cX12_joins 80 = .ok (.iaload, 1) := by decide +kernel
theorem dX12_joins_81 : decode cX12_joins 81 = .ok (.iload_n 2, 1) := by decide +kernel
theorem dX12_joins_82 : decode cX12_joins 82 = .ok (.if_icmp .eq 14, 3) := by decide +kernel
theorem dX12_joins_85 : decode cX12_joins 85 = .ok (.aload_n 0, 1) := by decide +kernel
theorem dX12_joins_86 : decode cX12_joins 86 = .ok (.getfield 62, 3) := by decide +kernel
theorem dX12_joins_89 : decode cX12_joins 89 = .ok (.iload 4, 2) := by decide +kernel
theorem dX12_joins_91 : decode cX12_joins 91 = .ok (.iaload, 1) := by decide +kernel
theorem dX12_joins_92 : decode cX12_joins 92 = .ok (.iload_n 3, 1) := by decide +kernel
theorem dX12_joins_93 : decode cX12_joins 93 = .ok (.if_icmp .ne 10, 3) := by decide +kernel
theorem dX12_joins_96 : decode cX12_joins 96 = .ok (.aload_n 0, 1) := by decide +kernel
theorem dX12_joins_97 : decode cX12_joins 97 = .ok (.getfield 189, 3) := by decide +kernel
theorem dX12_joins_100 : decode cX12_joins 100 = .ok (.goto 10, 3) := by decide +kernel
theorem dX12_joins_103 : decode cX12_joins 103 = .ok (.aload_n 0, 1) := by decide +kernel
theorem dX12_joins_104 : decode cX12_joins 104 = .ok (.getfield 62, 3) := by decide +kernel
theorem dX12_joins_107 : decode cX12_joins 107 = .ok (.iload 4, 2) := by decide +kernel
theorem dX12_joins_109 : decode cX12_joins 109 = .ok (.iaload, 1) := by decide +kernel
theorem dX12_joins_110 : decode cX12_joins 110 = .ok (.iastore, 1) := by decide +kernel
theorem dX12_joins_111 : decode cX12_joins 111 = .ok (.iinc 4 1, 3) := by decide +kernel
theorem dX12_joins_114 : decode cX12_joins 114 = .ok (.goto (-55), 3) := by decide +kernel
theorem dX12_joins_117 : decode cX12_joins 117 = .ok (.aload_n 0, 1) := by decide +kernel
theorem dX12_joins_118 : decode cX12_joins 118 = .ok (.dup, 1) := by decide +kernel
theorem dX12_joins_119 : decode cX12_joins 119 = .ok (.getfield 189, 3) := by decide +kernel
theorem dX12_joins_122 : decode cX12_joins 122 = .ok (.iconst 1, 1) := by decide +kernel
theorem dX12_joins_123 : decode cX12_joins 123 = .ok (.iadd, 1) := by decide +kernel
theorem dX12_joins_124 : decode cX12_joins 124 = .ok (.putfield 189, 3) := by decide +kernel
theorem dX12_joins_127 : decode cX12_joins 127 = .ok (.return_, 1) := by decide +kernel
set_option maxRecDepth 20000 in
theorem ggX12_begin_X12_isTap : GoodIn wsX12_begin wsX12_isTap := goodIn_r _ [12, 7, 13, 14, 15, 16, 17, 18, 19, 20, 21, 22, 23, 24, 25, 26, 27, 28, 29, 30, 31, 32, 33, 34, 35, 36, 37, 38, 39, 40, 41, 42, 43, 44] (by decide +kernel) (by decide +kernel)
set_option maxRecDepth 20000 in
theorem gX12_begin_X12_isTap : GoodIn wsX12_begin (wsV RX12 79 RX12 yX12_isTap wsX12_isTap) := goodIn_app (goodIn_of _ (by decide +kernel)) ggX12_begin_X12_isTap
theorem dX12_begin_0 : decode cX12_begin 0 = .ok (.aload_n 0, 1) := by decide +kernel
theorem dX12_begin_1 : decode cX12_begin 1 = .ok (.aload_n 0, 1) := by decide +kernel
theorem dX12_begin_2 : decode cX12_begin 2 = .ok (.getfield 69, 3) := by decide +kernel
theorem dX12_begin_5 : decode cX12_begin 5 = .ok (.putfield 189, 3) := by decide +kernel
theorem dX12_begin_8 : decode cX12_begin 8 = .ok (.aload_n 0, 1) := by decide +kernel
theorem dX12_begin_9 : decode cX12_begin 9 = .ok (.iconst (-1), 1) := by decide +kernel
theorem dX12_begin_10 : decode cX12_begin 10 = .ok (.putfield 186, 3) := by decide +kernel
theorem dX12_begin_13 : decode cX12_begin 13 = .ok (.aload_n 0, 1) := by decide +kernel
theorem dX12_begin_14 : decode cX12_begin 14 = .ok (.getfield 69, 3) := by decide +kernel
theorem dX12_begin_17 : decode cX12_begin 17 = .ok (.iconst 1, 1) := by decide +kernel
theorem dX12_begin_18 : decode cX12_begin 18 = .ok (.isub, 1) := by decide +kernel
theorem dX12_begin_19 : decode cX12_begin 19 = .ok (.istore_n 1, 1) := by decide +kernel
theorem dX12_begin_20 : decode cX12_begin 20 = .ok (.iload_n 1, 1) := by decide +kernel
theorem dX12_begin_21 : decode cX12_begin 21 = .ok (.ifCond .lt 73, 3) := by decide +kernel
theorem dX12_begin_24 : decode cX12_begin 24 = .ok (.aload_n 0, 1) := by decide +kernel
theorem dX12_begin_25 : decode cX12_begin 25 = .ok (.getfield 56, 3) := by decide +kernel
theorem dX12_begin_28 : decode cX12_begin 28 = .ok (.iload_n 1, 1) := by decide +kernel
theorem dX12_begin_29 : decode cX12_begin 29 = .ok (.iconst 1, 1) := by decide +kernel
theorem dX12_begin_30 : decode cX12_begin 30 = .ok (.iload_n 1, 1) := by decide +kernel
theorem dX12_begin_31 : decode cX12_begin 31 = .ok (.ishl, 1) := by decide +kernel
theorem dX12_begin_32 : decode cX12_begin 32 = .ok (.iastore, 1) := by decide +kernel
theorem dX12_begin_33 : decode cX12_begin 33 = .ok (.aload_n 0, 1) := by decide +kernel
theorem dX12_begin_34 : decode cX12_begin 34 = .ok (.getfield 59, 3) := by decide +kernel
theorem dX12_begin_37 : decode cX12_begin 37 = .ok (.iload_n 1, 1) := by decide +kernel
theorem dX12_begin_38 : decode cX12_begin 38 = .ok (.iconst 0, 1) := by decide +kernel
theorem dX12_begin_39 : decode cX12_begin 39 = .ok (.iastore, 1) := by decide +kernel
theorem dX12_begin_40 : decode cX12_begin 40 = .ok (.aload_n 0, 1) := by decide +kernel
theorem dX12_begin_41 : decode cX12_begin 41 = .ok (.getfield 62, 3) := by decide +kernel
theorem dX12_begin_44 : decode cX12_begin 44 = .ok (.iload_n 1, 1) := by decide +kernel
theorem dX12_begin_45 : decode cX12_begin 45 = .ok (.iload_n 1, 1) := by decide +kernel
theorem dX12_begin_46 : decode cX12_begin 46 = .ok (.iastore, 1) := by decide +kernel
theorem dX12_begin_47 : decode cX12_begin 47 = .ok (.aload_n 0, 1) := by decide +kernel
theorem dX12_begin_48 : decode cX12_begin 48 = .ok (.aload_n 0, 1) := by decide +kernel
theorem dX12_begin_49 : decode cX12_begin 49 = .ok (.iload_n 1, 1) := by decide +kernel
theorem dX12_begin_50 : decode cX12_begin 50 = .ok (.invokevirtual 79, 3) := by decide +kernel
theorem dX12_begin_53 : decode cX12_begin 53 = .ok (.ifCond .eq 28, 3) := by decide +kernel
theorem dX12_begin_56 : decode cX12_begin 56 = .ok (.aload_n 0, 1) := by decide +kernel
theorem dX12_begin_57 : decode cX12_begin 57 = .ok (.getfield 186, 3) := by decide +kernel
theorem dX12_begin_60 : decode cX12_begin 60 = .ok (.iconst (-1), 1) := by decide +kernel
theorem dX12_begin_61 : decode cX12_begin 61 = .ok (.if_icmp .eq 16, 3) := by decide +kernel
theorem dX12_begin_64 : decode cX12_begin 64 = .ok (.aload_n 0, 1) := by decide +kernel
theorem dX12_begin_65 : decode cX12_begin 65 = .ok (.getfield 7, 3) := by decide +kernel
theorem dX12_begin_68 : decode cX12_begin 68 = .ok (.aload_n 0, 1) := by decide +kernel
theorem dX12_begin_69 : decode cX12_begin 69 = .ok (.getfield 186, 3) := by decide +kernel
theorem dX12_begin_72 : decode cX12_begin 72 = .ok (.iaload, 1) := by decide +kernel
theorem dX12_begin_73 : decode cX12_begin 73 = .ok (.iconst 3, 1) := by decide +kernel
theorem dX12_begin_74 : decode cX12_begin 74 = .ok (.if_icmp .eq 7, 3) := by decide +kernel
theorem dX12_begin_77 : decode cX12_begin 77 = .ok (.iload_n 1, 1) := by decide +kernel
theorem dX12_begin_78 : decode cX12_begin 78 = .ok (.goto 7, 3) := by decide +kernel
theorem dX12_begin_81 : decode cX12_begin 81 = .ok (.aload_n 0, 1) := by decide +kernel
theorem dX12_begin_82 : decode cX12_begin 82 = .ok (.getfield 186, 3) := by decide +kernel
theorem dX12_begin_85 : decode cX12_begin 85 = .ok (.putfield 186, 3) := by decide +kernel
theorem dX12_begin_88 : decode cX12_begin 88 = .ok (.iinc 1 (-1), 3) := by decide +kernel
theorem dX12_begin_91 : decode cX12_begin 91 = .ok (.goto (-71), 3) := by decide +kernel
theorem dX12_begin_94 : decode cX12_begin 94 = .ok (.return_, 1) := by decide +kernel
set_option maxRecDepth 20000 in
theorem ggX12_someActive_X12_isActive : GoodIn wsX12_someActive wsX12_isActive := goodIn_r _ [7, 8, 9, 10, 11, 12, 6, 13, 1, 14, 15, 16, 17, 18, 19, 20, 21, 22, 23, 24, 25, 26, 27, 28, 29, 30, 31, 32, 33, 34, 35, 36, 37, 38, 39, 40, 41, 42, 43, 44, 45, 46, 47, 48, 49, 50, 51, 52, 53] (by decide +kernel) (by decide +kernel)
set_option maxRecDepth 20000 in
theorem gX12_someActive_X12_isActive : GoodIn wsX12_someActive (wsV RX12 192 RX12 yX12_isActive wsX12_isActive) := goodIn_app (goodIn_of _ (by decide +kernel)) ggX12_someActive_X12_isActive
theorem dX12_someActive_0 : decode cX12_someActive 0 = .ok (.iconst 0, 1) := by decide +kernel
theorem dX12_someActive_1 : decode cX12_someActive 1 = .ok (.istore_n 1, 1) := by decide +kernel
theorem dX12_someActive_2 : decode cX12_someActive 2 = .ok (.iconst 0, 1) := by decide +kernel
theorem dX12_someActive_3 : decode cX12_someActive 3 = .ok (.istore_n 2, 1) := by decide +kernel
theorem dX12_someActive_4 : decode cX12_someActive 4 = .ok (.iload_n 2, 1) := by decide +kernel
theorem dX12_someActive_5 : decode cX12_someActive 5 = .ok (.aload_n 0, 1) := by decide +kernel
theorem dX12_someActive_6 : decode cX12_someActive 6 = .ok (.getfield 69, 3) := by decide +kernel
theorem dX12_someActive_9 : decode cX12_someActive 9 = .ok (.if_icmp .ge 32, 3) := by decide +kernel
theorem dX12_someActive_12 : decode cX12_someActive 12 = .ok (.iload_n 1, 1) := by decide +kernel
theorem dX12_someActive_13 : decode cX12_someActive 13 = .ok (.ifCond .ne 16, 3) := by decide +kernel
theorem dX12_someActive_16 : decode cX12_someActive 16 = .ok (.aload_n 0, 1) := by decide +kernel
theorem dX12_someActive_17 : decode cX12_someActive 17 = .ok (.aload_n 0, 1) := by decide +kernel
theorem dX12_someActive_18 : decode cX12_someActive 18 = .ok (.getfield 62, 3) := by decide +kernel
theorem dX12_someActive_21 : decode cX12_someActive 21 = .ok (.iload_n 2, 1) := by decide +kernel
theorem dX12_someActive_22 : decode cX12_someActive 22 = .ok (.iaload, 1) := by decide +kernel
theorem dX12_someActive_23 : decode cX12_someActive 23 = .ok (.invokevirtual 192, 3) := by decide +kernel
theorem dX12_someActive_26 : decode cX12_someActive 26 = .ok (.ifCond .eq 7, 3) := by decide +kernel
theorem dX12_someActive_29 : decode cX12_someActive 29 = .ok (.iconst 1, 1) := by decide +kernel
theorem dX12_someActive_30 : decode cX12_someActive 30 = .ok (.goto 4, 3) := by decide +kernel
theorem dX12_someActive_33 : decode cX12_someActive 33 = .ok (.iconst 0, 1) := by decide +kernel
theorem dX12_someActive_34 : decode cX12_someActive 34 = .ok (.istore_n 1, 1) := by decide +kernel
theorem dX12_someActive_35 : decode cX12_someActive 35 = .ok (.iinc 2 1, 3) := by decide +kernel
theorem dX12_someActive_38 : decode cX12_someActive 38 = .ok (.goto (-34), 3) := by decide +kernel
theorem dX12_someActive_41 : decode cX12_someActive 41 = .ok (.iload_n 1, 1) := by decide +kernel
theorem dX12_someActive_42 : decode cX12_someActive 42 = .ok (.ireturn, 1) := by decide +kernel
set_option maxRecDepth 20000 in
theorem ggX12_raise_X12_sides : GoodIn wsX12_raise wsX12_sides := goodIn_r _ [9, 10, 11, 12, 13, 14, 15, 8, 16, 17, 18, 19, 20, 21, 22, 23, 24, 25, 26, 27, 28, 29, 30, 31, 32, 46, 47, 48, 49, 50, 51, 52, 53, 54, 55, 56, 57, 58, 59, 60, 61, 62, 63, 64, 65, 66, 67, 68, 69, 70, 71, 72, 73, 74, 75, 76, 77] (by decide +kernel) (by decide +kernel)
set_option maxRecDepth 20000 in
theorem gX12_raise_X12_sides : GoodIn wsX12_raise (wsV RX12 195 RX12 yX12_sides wsX12_sides) := goodIn_app (goodIn_of _ (by decide +kernel)) ggX12_raise_X12_sides
set_option maxRecDepth 20000 in
theorem ggX12_raise_X12_room : GoodIn wsX12_raise wsX12_room := goodIn_r _ [36, 37, 3, 21, 11, 12, 4, 14, 15, 8, 16, 46, 47, 48, 49, 50, 51, 52, 53, 54, 55, 56, 57, 58, 59, 60, 61, 62, 63, 64, 65, 66, 67, 68, 69, 70, 71, 72, 73, 74, 75, 76, 77] (by decide +kernel) (by decide +kernel)
set_option maxRecDepth 20000 in
theorem gX12_raise_X12_room : GoodIn wsX12_raise (wsV RX12 198 RX12 yX12_room wsX12_room) := goodIn_app (goodIn_of _ (by decide +kernel)) ggX12_raise_X12_room
set_option maxRecDepth 20000 in
theorem ggX12_raise_X12_joins : GoodIn wsX12_raise wsX12_joins := goodIn_r _ [41, 10, 11, 12, 21, 3, 4, 27, 46, 47, 48, 49, 50, 51, 52, 53, 54, 55, 56, 57, 58, 59, 60, 61, 62, 63, 64, 65, 66, 67, 68, 69, 70, 71, 72, 73, 74, 75, 76, 77] (by decide +kernel) (by decide +kernel)
set_option maxRecDepth 20000 in
theorem gX12_raise_X12_joins : GoodIn wsX12_raise (wsV RX12 201 RX12 yX12_joins wsX12_joins) := goodIn_app (goodIn_of _ (by decide +kernel)) ggX12_raise_X12_joins
set_option maxRecDepth 20000 in
theorem ggX12_raise_X12_isNow : GoodIn wsX12_raise wsX12_isNow := goodIn_r _ [45, 27, 10, 46, 47, 48, 49, 50, 51, 52, 53, 54, 55, 56, 57, 58, 59, 60, 61, 62, 63, 64, 65, 66, 67, 68, 69, 70, 71, 72, 73, 74, 75, 76, 77] (by decide +kernel) (by decide +kernel)
set_option maxRecDepth 20000 in
theorem gX12_raise_X12_isNow : GoodIn wsX12_raise (wsV RX12 204 RX12 yX12_isNow wsX12_isNow) := goodIn_app (goodIn_of _ (by decide +kernel)) ggX12_raise_X12_isNow
set_option maxRecDepth 20000 in
theorem ggX12_raise_X12_isActive : GoodIn wsX12_raise wsX12_isActive := goodIn_r _ [20, 21, 22, 23, 24, 25, 8, 26, 27, 28, 29, 30, 31, 32, 14, 15, 16, 46, 47, 48, 49, 50, 51, 52, 53, 54, 55, 56, 57, 58, 59, 60, 61, 62, 63, 64, 65, 66, 67, 68, 69, 70, 71, 72, 73, 74, 75, 76, 77] (by decide +kernel) (by decide +kernel)
set_option maxRecDepth 20000 in
theorem gX12_raise_X12_isActive : GoodIn wsX12_raise (wsV RX12 192 RX12 yX12_isActive wsX12_isActive) := goodIn_app (goodIn_of _ (by decide +kernel)) ggX12_raise_X12_isActive
theorem dX12_raise_0 : decode cX12_raise 0 = .ok (.ldc 173, 2) := by decide +kernel
theorem dX12_raise_2 : decode cX12_raise 2 = .ok (.istore_n 1, 1) := by decide +kernel
theorem dX12_raise_3 : decode cX12_raise 3 = .ok (.iconst 0, 1) := by decide +kernel
theorem dX12_raise_4 : decode cX12_raise 4 = .ok (.istore_n 2, 1) := by decide +kernel
theorem dX12_raise_5 : decode cX12_raise 5 = .ok (.iload_n 2, 1) := by decide +kernel
theorem dX12_raise_6 : decode cX12_raise 6 = .ok (.aload_n 0, 1) := by decide +kernel
theorem dX12_raise_7 : decode cX12_raise 7 = .ok (.getfield 76, 3) := by decide +kernel
theorem dX12_raise_10 : decode cX12_raise 10 = .ok (.if_icmp .ge 56, 3) := by decide +kernel
theorem dX12_raise_13 : decode cX12_raise 13 = .ok (.aload_n 0, 1) := by decide +kernel
theorem dX12_raise_14 : decode cX12_raise 14 = .ok (.iload_n 2, 1) := by decide +kernel
theorem dX12_raise_15 : decode cX12_raise 15 = .ok (.invokevirtual 195, 3) := by decide +kernel
theorem dX12_raise_18 : decode cX12_raise 18 = .ok (.istore_n 3, 1) := by decide +kernel
theorem dX12_raise_19 : decode cX12_raise 19 = .ok (.iload_n 3, 1) := by decide +kernel
theorem dX12_raise_20 : decode cX12_raise 20 = .ok (.ifCond .le 40, 3) := by decide +kernel
theorem dX12_raise_23 : decode cX12_raise 23 = .ok (.aload_n 0, 1) := by decide +kernel
theorem dX12_raise_24 : decode cX12_raise 24 = .ok (.iload_n 2, 1) := by decide +kernel
theorem dX12_raise_25 : decode cX12_raise 25 = .ok (.invokevirtual 198, 3) := by decide +kernel
theorem dX12_raise_28 : decode cX12_raise 28 = .ok (.istore 4, 2) := by decide +kernel
theorem dX12_raise_30 : decode cX12_raise 30 = .ok (.iload 4, 2) := by decide +kernel
theorem dX12_raise_32 : decode cX12_raise 32 = .ok (.iload_n 3, 1) := by decide +kernel
theorem dX12_raise_33 : decode cX12_raise 33 = .ok (.if_icmp .ge 10, 3) := by decide +kernel
theorem dX12_raise_36 : decode cX12_raise 36 = .ok (.aload_n 0, 1) := by decide +kernel
theorem dX12_raise_37 : decode cX12_raise 37 = .ok (.iload_n 2, 1) := by decide +kernel
theorem dX12_raise_38 : decode cX12_raise 38 = .ok (.invokevirtual 201, 3) := by decide +kernel
theorem dX12_raise_41 : decode cX12_raise 41 = .ok (.iconst 1, 1) := by decide +kernel
theorem dX12_raise_42 : decode cX12_raise 42 = .ok (.ireturn, 1) := by decide +kernel
theorem dX12_raise_43 : decode cX12_raise 43 = .ok (.iload 4, 2) := by decide +kernel
theorem dX12_raise_45 : decode cX12_raise 45 = .ok (.iload_n 3, 1) := by decide +kernel
theorem dX12_raise_46 : decode cX12_raise 46 = .ok (.idiv, 1) := by decide +kernel
theorem dX12_raise_47 : decode cX12_raise 47 = .ok (.iload_n 1, 1) := by decide +kernel
theorem dX12_raise_48 : decode cX12_raise 48 = .ok (.if_icmp .ge 10, 3) := by decide +kernel
theorem dX12_raise_51 : decode cX12_raise 51 = .ok (.iload 4, 2) := by decide +kernel
theorem dX12_raise_53 : decode cX12_raise 53 = .ok (.iload_n 3, 1) := by decide +kernel
theorem dX12_raise_54 : decode cX12_raise 54 = .ok (.idiv, 1) := by decide +kernel
theorem dX12_raise_55 : decode cX12_raise 55 = .ok (.goto 4, 3) := by decide +kernel
theorem dX12_raise_58 : decode cX12_raise 58 = .ok (.iload_n 1, 1) := by decide +kernel
theorem dX12_raise_59 : decode cX12_raise 59 = .ok (.istore_n 1, 1) := by decide +kernel
theorem dX12_raise_60 : decode cX12_raise 60 = .ok (.iinc 2 1, 3) := by decide +kernel
theorem dX12_raise_63 : decode cX12_raise 63 = .ok (.goto (-58), 3) := by decide +kernel
theorem dX12_raise_66 : decode cX12_raise 66 = .ok (.iconst 0, 1) := by decide +kernel
theorem dX12_raise_67 : decode cX12_raise 67 = .ok (.istore_n 2, 1) := by decide +kernel
theorem dX12_raise_68 : decode cX12_raise 68 = .ok (.iload_n 2, 1) := by decide +kernel
theorem dX12_raise_69 : decode cX12_raise 69 = .ok (.aload_n 0, 1) := by decide +kernel
theorem dX12_raise_70 : decode cX12_raise 70 = .ok (.getfield 189, 3) := by decide +kernel
theorem dX12_raise_73 : decode cX12_raise 73 = .ok (.if_icmp .ge 45, 3) := by decide +kernel
theorem dX12_raise_76 : decode cX12_raise 76 = .ok (.iload_n 1, 1) := by decide +kernel
theorem dX12_raise_77 : decode cX12_raise 77 = .ok (.ldc 173, 2) := by decide +kernel
theorem dX12_raise_79 : decode cX12_raise 79 = .ok (.if_icmp .ge 39, 3) := by decide +kernel
theorem dX12_raise_82 : decode cX12_raise 82 = .ok (.aload_n 0, 1) := by decide +kernel
theorem dX12_raise_83 : decode cX12_raise 83 = .ok (.getfield 59, 3) := by decide +kernel
theorem dX12_raise_86 : decode cX12_raise 86 = .ok (.iload_n 2, 1) := by decide +kernel
theorem dX12_raise_87 : decode cX12_raise 87 = .ok (.dup2, 1) := by decide +kernel
theorem dX12_raise_88 : decode cX12_raise 88 = .ok (.iaload, 1) := by decide +kernel
theorem dX12_raise_89 : decode cX12_raise 89 = .ok (.aload_n 0, 1) := by decide +kernel
theorem dX12_raise_90 : decode cX12_raise 90 = .ok (.iload_n 2, 1) := by decide +kernel
theorem dX12_raise_91 : decode cX12_raise 91 = .ok (.invokevirtual 204, 3) := by decide +kernel
theorem dX12_raise_94 : decode cX12_raise 94 = .ok (.ifCond .eq 15, 3) := by decide +kernel
theorem dX12_raise_97 : decode cX12_raise 97 = .ok (.aload_n 0, 1) := by decide +kernel
theorem dX12_raise_98 : decode cX12_raise 98 = .ok (.iload_n 2, 1) := by decide +kernel
theorem dX12_raise_99 : decode cX12_raise 99 = .ok (.invokevirtual 192, 3) := by decide +kernel
theorem dX12_raise_102 : decode cX12_raise 102 = .ok (.ifCond .eq 7, 3) := by decide +kernel
theorem dX12_raise_105 : decode cX12_raise 105 = .ok (.iload_n 1, 1) := by decide +kernel
theorem dX12_raise_106 : decode cX12_raise 106 = .ok (.goto 4, 3) := by decide +kernel
theorem dX12_raise_109 : decode cX12_raise 109 = .ok (.iconst 0, 1) := by decide +kernel
theorem dX12_raise_110 : decode cX12_raise 110 = .ok (.iadd, 1) := by decide +kernel
theorem dX12_raise_111 : decode cX12_raise 111 = .ok (.iastore, 1) := by decide +kernel
theorem dX12_raise_112 : decode cX12_raise 112 = .ok (.iinc 2 1, 3) := by decide +kernel
theorem dX12_raise_115 : decode cX12_raise 115 = .ok (.goto (-47), 3) := by decide +kernel
theorem dX12_raise_118 : decode cX12_raise 118 = .ok (.iload_n 1, 1) := by decide +kernel
theorem dX12_raise_119 : decode cX12_raise 119 = .ok (.ldc 173, 2) := by decide +kernel
theorem dX12_raise_121 : decode cX12_raise 121 = .ok (.if_icmp .ge 7, 3) := by decide +kernel
theorem dX12_raise_124 : decode cX12_raise 124 = .ok (.iconst 1, 1) := by decide +kernel
theorem dX12_raise_125 : decode cX12_raise 125 = .ok (.goto 4, 3) := by decide +kernel
theorem dX12_raise_128 : decode cX12_raise 128 = .ok (.iconst 0, 1) := by decide +kernel
theorem dX12_raise_129 : decode cX12_raise 129 = .ok (.ireturn, 1) := by decide +kernel
theorem dX12_isNow_0 : decode cX12_isNow 0 = .ok (.iconst 0, 1) := by decide +kernel
theorem dX12_isNow_1 : decode cX12_isNow 1 = .ok (.istore_n 2, 1) := by decide +kernel
theorem dX12_isNow_2 : decode cX12_isNow 2 = .ok (.iconst 0, 1) := by decide +kernel
theorem dX12_isNow_3 : decode cX12_isNow 3 = .ok (.istore_n 3, 1) := by decide +kernel
theorem dX12_isNow_4 : decode cX12_isNow 4 = .ok (.iload_n 3, 1) := by decide +kernel
theorem dX12_isNow_5 : decode cX12_isNow 5 = .ok (.aload_n 0, 1) := by decide +kernel
theorem dX12_isNow_6 : decode cX12_isNow 6 = .ok (.getfield 69, 3) := by decide +kernel
theorem dX12_isNow_9 : decode cX12_isNow 9 = .ok (.if_icmp .ge 29, 3) := by decide +kernel
theorem dX12_isNow_12 : decode cX12_isNow 12 = .ok (.iload_n 2, 1) := by decide +kernel
theorem dX12_isNow_13 : decode cX12_isNow 13 = .ok (.ifCond .ne 13, 3) := by decide +kernel
theorem dX12_isNow_16 : decode cX12_isNow 16 = .ok (.aload_n 0, 1) := by decide +kernel
theorem dX12_isNow_17 : decode cX12_isNow 17 = .ok (.getfield 62, 3) := by decide +kernel
theorem dX12_isNow_20 : decode cX12_isNow 20 = .ok (.iload_n 3, 1) := by decide +kernel
theorem dX12_isNow_21 : decode cX12_isNow 21 = .ok (.iaload, 1) := by decide +kernel
theorem dX12_isNow_22 : decode cX12_isNow 22 = .ok (.iload_n 1, 1) := by decide +kernel
theorem dX12_isNow_23 : decode cX12_isNow 23 = .ok (.if_icmp .ne 7, 3) := by decide +kernel
theorem dX12_isNow_26 : decode cX12_isNow 26 = .ok (.iconst 1, 1) := by decide +kernel
theorem dX12_isNow_27 : decode cX12_isNow 27 = .ok (.goto 4, 3) := by decide +kernel
theorem dX12_isNow_30 : decode cX12_isNow 30 = .ok (.iconst 0, 1) := by decide +kernel
theorem dX12_isNow_31 : decode cX12_isNow 31 = .ok (.istore_n 2, 1) := by decide +kernel
theorem dX12_isNow_32 : decode cX12_isNow 32 = .ok (.iinc 3 1, 3) := by decide +kernel
theorem dX12_isNow_35 : decode cX12_isNow 35 = .ok (.goto (-31), 3) := by decide +kernel
theorem dX12_isNow_38 : decode cX12_isNow 38 = .ok (.iload_n 2, 1) := by decide +kernel
theorem dX12_isNow_39 : decode cX12_isNow 39 = .ok (.ireturn, 1) := by decide +kernel
set_option maxRecDepth 20000 in
theorem ggX12_raiseAll_X12_begin : GoodIn wsX12_raiseAll wsX12_begin := goodIn_r _ [6, 7, 8, 1, 9, 10, 11, 12, 13, 14, 15, 5, 16, 58, 59, 60, 61, 62, 63, 64, 65, 66, 67, 68, 69, 70, 71, 72, 73, 74, 75, 76, 77, 78, 79, 80, 81, 82, 83, 84, 85, 86, 87, 88, 89] (by decide +kernel) (by decide +kernel)
set_option maxRecDepth 20000 in
theorem gX12_raiseAll_X12_begin : GoodIn wsX12_raiseAll (wsV RX12 207 RX12 yX12_begin wsX12_begin) := goodIn_app (goodIn_of _ (by decide +kernel)) ggX12_raiseAll_X12_begin
set_option maxRecDepth 20000 in
theorem ggX12_raiseAll_X12_someActive : GoodIn wsX12_raiseAll wsX12_someActive := goodIn_r _ [20, 7, 11, 21, 22, 23, 5, 24, 9, 1, 25, 26, 27, 28, 13, 14, 15, 16, 12, 29, 30, 31, 58, 59, 60, 61, 62, 63, 64, 65, 66, 67, 68, 69, 70, 71, 72, 73, 74, 75, 76, 77, 78, 79, 80, 81, 82, 83, 84, 85, 86, 87, 88, 89] (by decide +kernel) (by decide +kernel)
set_option maxRecDepth 20000 in
theorem gX12_raiseAll_X12_someActive : GoodIn wsX12_raiseAll (wsV RX12 210 RX12 yX12_someActive wsX12_someActive) := goodIn_app (goodIn_of _ (by decide +kernel)) ggX12_raiseAll_X12_someActive
set_option maxRecDepth 20000 in
theorem ggX12_raiseAll_X12_raise : GoodIn wsX12_raiseAll wsX12_raise := goodIn_r _ [35, 36, 37, 8, 10, 38, 39, 40, 5, 41, 11, 42, 43, 44, 29, 30, 31, 21, 22, 23, 24, 9, 1, 25, 26, 27, 28, 7, 13, 14, 15, 16, 12, 45, 46, 47, 48, 49, 50, 51, 52, 53, 54, 55, 56, 57, 58, 59, 60, 61, 62, 63, 64, 65, 66, 67, 68, 69, 70, 71, 72, 73, 74, 75, 76, 77, 78, 79, 80, 81, 82, 83, 84, 85, 86, 87, 88, 89] (by decide +kernel) (by decide +kernel)
set_option maxRecDepth 20000 in
theorem gX12_raiseAll_X12_raise : GoodIn wsX12_raiseAll (wsV RX12 214 RX12 yX12_raise wsX12_raise) := goodIn_app (goodIn_of _ (by decide +kernel)) ggX12_raiseAll_X12_raise
theorem dX12_raiseAll_0 : decode cX12_raiseAll 0 = .ok (.aload_n 0, 1) := by decide +kernel
theorem dX12_raiseAll_1 : decode cX12_raiseAll 1 = .ok (.invokevirtual 207, 3) := by decide +kernel
theorem dX12_raiseAll_4 : decode cX12_raiseAll 4 = .ok (.aload_n 0, 1) := by decide +kernel
theorem dX12_raiseAll_5 : decode cX12_raiseAll 5 = .ok (.getfield 186, 3) := by decide +kernel
theorem dX12_raiseAll_8 : decode cX12_raiseAll 8 = .ok (.iconst (-1), 1) := by decide +kernel
theorem dX12_raiseAll_9 : decode cX12_raiseAll 9 = .ok (.if_icmp .ne 5, 3) := by decide +kernel
theorem dX12_raiseAll_12 : decode cX12_raiseAll 12 = .ok (.iconst (-1), 1) := by decide +kernel
theorem dX12_raiseAll_13 : decode cX12_raiseAll 13 = .ok (.ireturn, 1) := by decide +kernel
theorem dX12_raiseAll_14 : decode cX12_raiseAll 14 = .ok (.aload_n 0, 1) := by decide +kernel
theorem dX12_raiseAll_15 : decode cX12_raiseAll 15 = .ok (.invokevirtual 210, 3) := by decide +kernel
theorem dX12_raiseAll_18 : decode cX12_raiseAll 18 = .ok (.ifCond .eq 13, 3) := by decide +kernel
theorem dX12_raiseAll_21 : decode cX12_raiseAll 21 = .ok (.aload_n 0, 1) := by decide +kernel
theorem dX12_raiseAll_22 : decode cX12_raiseAll 22 = .ok (.invokevirtual 214, 3) := by decide +kernel
theorem dX12_raiseAll_25 : decode cX12_raiseAll 25 = .ok (.ifCond .ne (-11), 3) := by decide +kernel
theorem dX12_raiseAll_28 : decode cX12_raiseAll 28 = .ok (.bipush (-2), 2) := by decide +kernel
theorem dX12_raiseAll_30 : decode cX12_raiseAll 30 = .ok (.ireturn, 1) := by decide +kernel
theorem dX12_raiseAll_31 : decode cX12_raiseAll 31 = .ok (.iconst 0, 1) := by decide +kernel
theorem dX12_raiseAll_32 : decode cX12_raiseAll 32 = .ok (.ireturn, 1) := by decide +kernel
set_option maxRecDepth 20000 in
theorem ggX12_walls_X12_raiseAll : GoodIn wsX12_walls wsX12_raiseAll := goodIn_r _ [7, 8, 9, 10, 11, 6, 12, 13, 1, 14, 2, 15, 16, 17, 18, 19, 20, 21, 22, 23, 24, 25, 26, 27, 28, 29, 30, 31, 32, 33, 34, 35, 36, 37, 38, 39, 40, 41, 42, 43, 44, 45, 46, 47, 48, 49, 50, 51, 52, 53, 54, 55, 56, 57, 58, 59, 60, 61, 62, 63, 64, 65, 66, 67, 68, 69, 70, 71, 72, 73, 74, 75, 76, 77, 78, 79, 80, 81, 82, 83, 84, 85, 86, 87, 88, 89, 90, 91, 92, 93] (by decide +kernel) (by decide +kernel)
set_option maxRecDepth 20000 in
theorem gX12_walls_X12_raiseAll : GoodIn wsX12_walls (wsV RX12 217 RX12 yX12_raiseAll wsX12_raiseAll) := goodIn_app (goodIn_of _ (by decide +kernel)) ggX12_walls_X12_raiseAll
theorem dX12_walls_0 : decode cX12_walls 0 = .ok (.aload_n 0, 1) := by decide +kernel
theorem dX12_walls_1 : decode cX12_walls 1 = .ok (.invokevirtual 217, 3) := by decide +kernel
theorem dX12_walls_4 : decode cX12_walls 4 = .ok (.istore_n 1, 1) := by decide +kernel
theorem dX12_walls_5 : decode cX12_walls 5 = .ok (.iconst 0, 1) := by decide +kernel
theorem dX12_walls_6 : decode cX12_walls 6 = .ok (.istore_n 2, 1) := by decide +kernel
theorem dX12_walls_7 : decode cX12_walls 7 = .ok (.iconst 0, 1) := by decide +kernel
theorem dX12_walls_8 : decode cX12_walls 8 = .ok (.istore_n 3, 1) := by decide +kernel
theorem dX12_walls_9 : decode cX12_walls 9 = .ok (.iload_n 3, 1) := by decide +kernel
theorem dX12_walls_10 : decode cX12_walls 10 = .ok (.aload_n 0, 1) := by decide +kernel
theorem dX12_walls_11 : decode cX12_walls 11 = .ok (.getfield 189, 3) := by decide +kernel
theorem dX12_walls_14 : decode cX12_walls 14 = .ok (.if_icmp .ge 26, 3) := by decide +kernel
theorem dX12_walls_17 : decode cX12_walls 17 = .ok (.iload_n 2, 1) := by decide +kernel
theorem dX12_walls_18 : decode cX12_walls 18 = .ok (.aload_n 0, 1) := by decide +kernel
theorem dX12_walls_19 : decode cX12_walls 19 = .ok (.getfield 59, 3) := by decide +kernel
theorem dX12_walls_22 : decode cX12_walls 22 = .ok (.iload_n 3, 1) := by decide +kernel
theorem dX12_walls_23 : decode cX12_walls 23 = .ok (.iaload, 1) := by decide +kernel
theorem dX12_walls_24 : decode cX12_walls 24 = .ok (.ifCond .le 7, 3) := by decide +kernel
theorem dX12_walls_27 : decode cX12_walls 27 = .ok (.iconst 1, 1) := by decide +kernel
theorem dX12_walls_28 : decode cX12_walls 28 = .ok (.goto 4, 3) := by decide +kernel
theorem dX12_walls_31 : decode cX12_walls 31 = .ok (.iconst 0, 1) := by decide +kernel
theorem dX12_walls_32 : decode cX12_walls 32 = .ok (.iadd, 1) := by decide +kernel
theorem dX12_walls_33 : decode cX12_walls 33 = .ok (.istore_n 2, 1) := by decide +kernel
theorem dX12_walls_34 : decode cX12_walls 34 = .ok (.iinc 3 1, 3) := by decide +kernel
theorem dX12_walls_37 : decode cX12_walls 37 = .ok (.goto (-28), 3) := by decide +kernel
theorem dX12_walls_40 : decode cX12_walls 40 = .ok (.iload_n 1, 1) := by decide +kernel
theorem dX12_walls_41 : decode cX12_walls 41 = .ok (.ifCond .eq 7, 3) := by decide +kernel
theorem dX12_walls_44 : decode cX12_walls 44 = .ok (.iload_n 1, 1) := by decide +kernel
theorem dX12_walls_45 : decode cX12_walls 45 = .ok (.goto 4, 3) := by decide +kernel
theorem dX12_walls_48 : decode cX12_walls 48 = .ok (.iload_n 2, 1) := by decide +kernel
theorem dX12_walls_49 : decode cX12_walls 49 = .ok (.ireturn, 1) := by decide +kernel
set_option maxRecDepth 20000 in
theorem ggX12_wall_X12_raiseAll : GoodIn wsX12_wall wsX12_raiseAll := goodIn_r _ [8, 9, 10, 11, 12, 7, 13, 14, 1, 3, 2, 15, 16, 17, 18, 19, 20, 21, 22, 23, 24, 25, 26, 27, 28, 29, 30, 31, 32, 33, 34, 35, 36, 37, 38, 39, 40, 41, 42, 43, 44, 45, 46, 47, 48, 49, 50, 51, 52, 53, 54, 55, 56, 57, 58, 59, 60, 61, 65, 66, 67, 68, 69, 70, 71, 72, 73, 74, 75, 76, 77, 78, 79, 80, 81, 82, 83, 84, 85, 86, 87, 88, 89, 90, 91, 92, 93, 94, 95, 96] (by decide +kernel) (by decide +kernel)
set_option maxRecDepth 20000 in
theorem gX12_wall_X12_raiseAll : GoodIn wsX12_wall (wsV RX12 217 RX12 yX12_raiseAll wsX12_raiseAll) := goodIn_app (goodIn_of _ (by decide +kernel)) ggX12_wall_X12_raiseAll
set_option maxRecDepth 20000 in
theorem ggX12_wall_X12_in : GoodIn wsX12_wall wsX12_in := goodIn_r _ [64] (by decide +kernel) (by decide +kernel)
set_option maxRecDepth 20000 in
theorem gX12_wall_X12_in : GoodIn wsX12_wall (va_wsS RX12 72 yX12_in wsX12_in) := goodIn_app (goodIn_of _ (by decide +kernel)) ggX12_wall_X12_in
theorem dX12_wall_0 : decode cX12_wall 0 = .ok (.aload_n 0, 1) := by decide +kernel
theorem dX12_wall_1 : decode cX12_wall 1 = .ok (.invokevirtual 217, 3) := by decide +kernel
theorem dX12_wall_4 : decode cX12_wall 4 = .ok (.ifCond .ne 12, 3) := by decide +kernel
theorem dX12_wall_7 : decode cX12_wall 7 = .ok (.iload_n 2, 1) := by decide +kernel
theorem dX12_wall_8 : decode cX12_wall 8 = .ok (.iconst 0, 1) := by decide +kernel
theorem dX12_wall_9 : decode cX12_wall 9 = .ok (.iconst 1, 1) := by decide +kernel
theorem dX12_wall_10 : decode cX12_wall 10 = .ok (.invokestatic 72, 3) := by decide +kernel
theorem dX12_wall_13 : decode cX12_wall 13 = .ok (.ifCond .ne 5, 3) := by decide +kernel
theorem dX12_wall_16 : decode cX12_wall 16 = .ok (.iconst (-1), 1) := by decide +kernel
theorem dX12_wall_17 : decode cX12_wall 17 = .ok (.ireturn, 1) := by decide +kernel
theorem dX12_wall_18 : decode cX12_wall 18 = .ok (.iload_n 1, 1) := by decide +kernel
theorem dX12_wall_19 : decode cX12_wall 19 = .ok (.istore_n 3, 1) := by decide +kernel
theorem dX12_wall_20 : decode cX12_wall 20 = .ok (.iconst 0, 1) := by decide +kernel
theorem dX12_wall_21 : decode cX12_wall 21 = .ok (.istore 4, 2) := by decide +kernel
theorem dX12_wall_23 : decode cX12_wall 23 = .ok (.iload 4, 2) := by decide +kernel
theorem dX12_wall_25 : decode cX12_wall 25 = .ok (.aload_n 0, 1) := by decide +kernel
theorem dX12_wall_26 : decode cX12_wall 26 = .ok (.getfield 189, 3) := by decide +kernel
theorem dX12_wall_29 : decode cX12_wall 29 = .ok (.if_icmp .ge 52, 3) := by decide +kernel
theorem dX12_wall_32 : decode cX12_wall 32 = .ok (.iload_n 3, 1) := by decide +kernel
theorem dX12_wall_33 : decode cX12_wall 33 = .ok (.ifCond .lt 48, 3) := by decide +kernel
theorem dX12_wall_36 : decode cX12_wall 36 = .ok (.aload_n 0, 1) := by decide +kernel
theorem dX12_wall_37 : decode cX12_wall 37 = .ok (.getfield 59, 3) := by decide +kernel
theorem dX12_wall_40 : decode cX12_wall 40 = .ok (.iload 4, 2) := by decide +kernel
theorem dX12_wall_42 : decode cX12_wall 42 = .ok (.iaload, 1) := by decide +kernel
theorem dX12_wall_43 : decode cX12_wall 43 = .ok (.ifCond .le 32, 3) := by decide +kernel
theorem dX12_wall_46 : decode cX12_wall 46 = .ok (.iload_n 3, 1) := by decide +kernel
theorem dX12_wall_47 : decode cX12_wall 47 = .ok (.ifCond .ne 25, 3) := by decide +kernel
theorem dX12_wall_50 : decode cX12_wall 50 = .ok (.iload_n 2, 1) := by decide +kernel
theorem dX12_wall_51 : decode cX12_wall 51 = .ok (.ifCond .ne 13, 3) := by decide +kernel
theorem dX12_wall_54 : decode cX12_wall 54 = .ok (.aload_n 0, 1) := by decide +kernel
theorem dX12_wall_55 : decode cX12_wall 55 = .ok (.getfield 56, 3) := by decide +kernel
theorem dX12_wall_58 : decode cX12_wall 58 = .ok (.iload 4, 2) := by decide +kernel
theorem dX12_wall_60 : decode cX12_wall 60 = .ok (.iaload, 1) := by decide +kernel
theorem dX12_wall_61 : decode cX12_wall 61 = .ok (.goto 10, 3) := by decide +kernel
theorem dX12_wall_64 : decode cX12_wall 64 = .ok (.aload_n 0, 1) := by decide +kernel
theorem dX12_wall_65 : decode cX12_wall 65 = .ok (.getfield 59, 3) := by decide +kernel
theorem dX12_wall_68 : decode cX12_wall 68 = .ok (.iload 4, 2) := by decide +kernel
theorem dX12_wall_70 : decode cX12_wall 70 = .ok (.iaload, 1) := by decide +kernel
theorem dX12_wall_71 : decode cX12_wall 71 = .ok (.ireturn, 1) := by decide +kernel
theorem dX12_wall_72 : decode cX12_wall 72 = .ok (.iinc 3 (-1), 3) := by decide +kernel
theorem dX12_wall_75 : decode cX12_wall 75 = .ok (.iinc 4 1, 3) := by decide +kernel
theorem dX12_wall_78 : decode cX12_wall 78 = .ok (.goto (-55), 3) := by decide +kernel
theorem dX12_wall_81 : decode cX12_wall 81 = .ok (.iconst (-1), 1) := by decide +kernel
theorem dX12_wall_82 : decode cX12_wall 82 = .ok (.ireturn, 1) := by decide +kernel
set_option maxRecDepth 20000 in
theorem ggX12_bound_X12_raiseAll : GoodIn wsX12_bound wsX12_raiseAll := goodIn_r _ [8, 9, 10, 11, 12, 7, 13, 14, 2, 15, 3, 16, 17, 18, 19, 20, 21, 22, 23, 24, 25, 26, 27, 28, 29, 30, 31, 32, 33, 34, 35, 36, 37, 38, 39, 40, 41, 42, 43, 44, 45, 46, 47, 48, 49, 50, 51, 52, 53, 54, 55, 56, 57, 58, 59, 60, 61, 62, 63, 64, 65, 66, 67, 68, 69, 70, 71, 72, 73, 74, 75, 76, 77, 78, 79, 80, 81, 82, 83, 84, 85, 86, 87, 88, 89, 90, 91, 92, 93, 94] (by decide +kernel) (by decide +kernel)
set_option maxRecDepth 20000 in
theorem gX12_bound_X12_raiseAll : GoodIn wsX12_bound (wsV RX12 217 RX12 yX12_raiseAll wsX12_raiseAll) := goodIn_app (goodIn_of _ (by decide +kernel)) ggX12_bound_X12_raiseAll
theorem dX12_bound_0 : decode cX12_bound 0 = .ok (.aload_n 0, 1) := by decide +kernel
theorem dX12_bound_1 : decode cX12_bound 1 = .ok (.invokevirtual 217, 3) := by decide +kernel
theorem dX12_bound_4 : decode cX12_bound 4 = .ok (.ifCond .eq 6, 3) := by decide +kernel
theorem dX12_bound_7 : decode cX12_bound 7 = .ok (.ldc 157, 2) := by decide +kernel
theorem dX12_bound_9 : decode cX12_bound 9 = .ok (.ireturn, 1) := by decide +kernel
theorem dX12_bound_10 : decode cX12_bound 10 = .ok (.iconst 0, 1) := by decide +kernel
theorem dX12_bound_11 : decode cX12_bound 11 = .ok (.istore_n 1, 1) := by decide +kernel
theorem dX12_bound_12 : decode cX12_bound 12 = .ok (.iconst 0, 1) := by decide +kernel
theorem dX12_bound_13 : decode cX12_bound 13 = .ok (.istore_n 2, 1) := by decide +kernel
theorem dX12_bound_14 : decode cX12_bound 14 = .ok (.iload_n 2, 1) := by decide +kernel
theorem dX12_bound_15 : decode cX12_bound 15 = .ok (.aload_n 0, 1) := by decide +kernel
theorem dX12_bound_16 : decode cX12_bound 16 = .ok (.getfield 189, 3) := by decide +kernel
theorem dX12_bound_19 : decode cX12_bound 19 = .ok (.if_icmp .ge 18, 3) := by decide +kernel
theorem dX12_bound_22 : decode cX12_bound 22 = .ok (.iload_n 1, 1) := by decide +kernel
theorem dX12_bound_23 : decode cX12_bound 23 = .ok (.aload_n 0, 1) := by decide +kernel
theorem dX12_bound_24 : decode cX12_bound 24 = .ok (.getfield 59, 3) := by decide +kernel
theorem dX12_bound_27 : decode cX12_bound 27 = .ok (.iload_n 2, 1) := by decide +kernel
theorem dX12_bound_28 : decode cX12_bound 28 = .ok (.iaload, 1) := by decide +kernel
theorem dX12_bound_29 : decode cX12_bound 29 = .ok (.iadd, 1) := by decide +kernel
theorem dX12_bound_30 : decode cX12_bound 30 = .ok (.istore_n 1, 1) := by decide +kernel
theorem dX12_bound_31 : decode cX12_bound 31 = .ok (.iinc 2 1, 3) := by decide +kernel
theorem dX12_bound_34 : decode cX12_bound 34 = .ok (.goto (-20), 3) := by decide +kernel
theorem dX12_bound_37 : decode cX12_bound 37 = .ok (.iload_n 1, 1) := by decide +kernel
theorem dX12_bound_38 : decode cX12_bound 38 = .ok (.ireturn, 1) := by decide +kernel
set_option maxRecDepth 20000 in
theorem ggX12_lay_X12_isStreet : GoodIn wsX12_lay wsX12_isStreet := goodIn_r _ [7, 8, 9, 10, 6, 11, 24, 25, 26, 27, 28, 29, 30, 31, 32, 33, 34, 35, 36, 37, 38, 39, 40, 41, 42, 43, 44, 45, 46, 47, 48, 49, 50, 51, 52, 53, 54, 55] (by decide +kernel) (by decide +kernel)
set_option maxRecDepth 20000 in
theorem gX12_lay_X12_isStreet : GoodIn wsX12_lay (wsV RX12 114 RX12 yX12_isStreet wsX12_isStreet) := goodIn_app (goodIn_of _ (by decide +kernel)) ggX12_lay_X12_isStreet
set_option maxRecDepth 20000 in
theorem ggX12_lay_X12_has : GoodIn wsX12_lay wsX12_has := goodIn_r _ [14] (by decide +kernel) (by decide +kernel)
set_option maxRecDepth 20000 in
theorem gX12_lay_X12_has : GoodIn wsX12_lay (va_wsS RX12 117 yX12_has wsX12_has) := goodIn_app (goodIn_of _ (by decide +kernel)) ggX12_lay_X12_has
set_option maxRecDepth 20000 in
theorem ggX12_lay_X12_refused : GoodIn wsX12_lay wsX12_refused := goodIn_r _ [18, 19, 24, 25, 26, 27, 28, 29, 30, 31, 32, 33, 34, 35, 36, 37, 38, 39, 40, 41, 42, 43, 44, 45, 46, 47, 48, 49, 50, 51, 52, 53, 54, 55] (by decide +kernel) (by decide +kernel)
set_option maxRecDepth 20000 in
theorem gX12_lay_X12_refused : GoodIn wsX12_lay (wsV RX12 90 RX12 yX12_refused wsX12_refused) := goodIn_app (goodIn_of _ (by decide +kernel)) ggX12_lay_X12_refused
set_option maxRecDepth 20000 in
theorem ggX12_lay_X12_done : GoodIn wsX12_lay wsX12_done := goodIn_r _ [23, 19, 24, 25, 26, 27, 28, 29, 30, 31, 32, 33, 34, 35, 36, 37, 38, 39, 40, 41, 42, 43, 44, 45, 46, 47, 48, 49, 50, 51, 52, 53, 54, 55] (by decide +kernel) (by decide +kernel)
set_option maxRecDepth 20000 in
theorem gX12_lay_X12_done : GoodIn wsX12_lay (wsV RX12 98 RX12 yX12_done wsX12_done) := goodIn_app (goodIn_of _ (by decide +kernel)) ggX12_lay_X12_done
theorem dX12_lay_0 : decode cX12_lay 0 = .ok (.aload_n 0, 1) := by decide +kernel
theorem dX12_lay_1 : decode cX12_lay 1 = .ok (.iload_n 1, 1) := by decide +kernel
theorem dX12_lay_2 : decode cX12_lay 2 = .ok (.invokevirtual 114, 3) := by decide +kernel
theorem dX12_lay_5 : decode cX12_lay 5 = .ok (.ifCond .eq 14, 3) := by decide +kernel
theorem dX12_lay_8 : decode cX12_lay 8 = .ok (.aload_n 0, 1) := by decide +kernel
theorem dX12_lay_9 : decode cX12_lay 9 = .ok (.getfield 101, 3) := by decide +kernel
theorem dX12_lay_12 : decode cX12_lay 12 = .ok (.iload_n 1, 1) := by decide +kernel
theorem dX12_lay_13 : decode cX12_lay 13 = .ok (.invokestatic 117, 3) := by decide +kernel
theorem dX12_lay_16 : decode cX12_lay 16 = .ok (.ifCond .ne 9, 3) := by decide +kernel
theorem dX12_lay_19 : decode cX12_lay 19 = .ok (.aload_n 0, 1) := by decide +kernel
theorem dX12_lay_20 : decode cX12_lay 20 = .ok (.iconst 1, 1) := by decide +kernel
theorem dX12_lay_21 : decode cX12_lay 21 = .ok (.invokevirtual 90, 3) := by decide +kernel
theorem dX12_lay_24 : decode cX12_lay 24 = .ok (.ireturn, 1) := by decide +kernel
theorem dX12_lay_25 : decode cX12_lay 25 = .ok (.aload_n 0, 1) := by decide +kernel
theorem dX12_lay_26 : decode cX12_lay 26 = .ok (.dup, 1) := by decide +kernel
theorem dX12_lay_27 : decode cX12_lay 27 = .ok (.getfield 121, 3) := by decide +kernel
theorem dX12_lay_30 : decode cX12_lay 30 = .ok (.iconst 1, 1) := by decide +kernel
theorem dX12_lay_31 : decode cX12_lay 31 = .ok (.iload_n 1, 1) := by decide +kernel
theorem dX12_lay_32 : decode cX12_lay 32 = .ok (.ishl, 1) := by decide +kernel
theorem dX12_lay_33 : decode cX12_lay 33 = .ok (.ixor, 1) := by decide +kernel
theorem dX12_lay_34 : decode cX12_lay 34 = .ok (.putfield 121, 3) := by decide +kernel
theorem dX12_lay_37 : decode cX12_lay 37 = .ok (.aload_n 0, 1) := by decide +kernel
theorem dX12_lay_38 : decode cX12_lay 38 = .ok (.aload_n 0, 1) := by decide +kernel
theorem dX12_lay_39 : decode cX12_lay 39 = .ok (.getfield 121, 3) := by decide +kernel
theorem dX12_lay_42 : decode cX12_lay 42 = .ok (.iload_n 1, 1) := by decide +kernel
theorem dX12_lay_43 : decode cX12_lay 43 = .ok (.ishr, 1) := by decide +kernel
theorem dX12_lay_44 : decode cX12_lay 44 = .ok (.iconst 1, 1) := by decide +kernel
theorem dX12_lay_45 : decode cX12_lay 45 = .ok (.iand, 1) := by decide +kernel
theorem dX12_lay_46 : decode cX12_lay 46 = .ok (.invokevirtual 98, 3) := by decide +kernel
theorem dX12_lay_49 : decode cX12_lay 49 = .ok (.ireturn, 1) := by decide +kernel
set_option maxRecDepth 20000 in
theorem ggX12_clear_X12_bits : GoodIn wsX12_clear wsX12_bits := goodIn_r _ [5] (by decide +kernel) (by decide +kernel)
set_option maxRecDepth 20000 in
theorem gX12_clear_X12_bits : GoodIn wsX12_clear (va_wsS RX12 128 yX12_bits wsX12_bits) := goodIn_app (goodIn_of _ (by decide +kernel)) ggX12_clear_X12_bits
set_option maxRecDepth 20000 in
theorem ggX12_clear_X12_done : GoodIn wsX12_clear wsX12_done := goodIn_r _ [9, 10, 11, 12, 13, 14, 15, 16, 17, 18, 19, 20, 21, 22, 23, 24, 25, 26, 27, 28, 29, 30, 31, 32, 33, 34, 35, 36, 37, 38, 39, 40, 41, 42] (by decide +kernel) (by decide +kernel)
set_option maxRecDepth 20000 in
theorem gX12_clear_X12_done : GoodIn wsX12_clear (wsV RX12 98 RX12 yX12_done wsX12_done) := goodIn_app (goodIn_of _ (by decide +kernel)) ggX12_clear_X12_done
theorem dX12_clear_0 : decode cX12_clear 0 = .ok (.aload_n 0, 1) := by decide +kernel
theorem dX12_clear_1 : decode cX12_clear 1 = .ok (.getfield 121, 3) := by decide +kernel
theorem dX12_clear_4 : decode cX12_clear 4 = .ok (.invokestatic 128, 3) := by decide +kernel
theorem dX12_clear_7 : decode cX12_clear 7 = .ok (.istore_n 1, 1) := by decide +kernel
theorem dX12_clear_8 : decode cX12_clear 8 = .ok (.aload_n 0, 1) := by decide +kernel
theorem dX12_clear_9 : decode cX12_clear 9 = .ok (.iconst 0, 1) := by decide +kernel
theorem dX12_clear_10 : decode cX12_clear 10 = .ok (.putfield 121, 3) := by decide +kernel
theorem dX12_clear_13 : decode cX12_clear 13 = .ok (.aload_n 0, 1) := by decide +kernel
theorem dX12_clear_14 : decode cX12_clear 14 = .ok (.iload_n 1, 1) := by decide +kernel
theorem dX12_clear_15 : decode cX12_clear 15 = .ok (.invokevirtual 98, 3) := by decide +kernel
theorem dX12_clear_18 : decode cX12_clear 18 = .ok (.ireturn, 1) := by decide +kernel
set_option maxRecDepth 20000 in
theorem ggX12_why_X12_treeOf : GoodIn wsX12_why wsX12_treeOf := goodIn_r _ [6, 7, 8, 9, 10, 11, 12, 13, 14, 5, 15, 16, 17, 18, 19, 20, 21, 22, 23, 24, 25, 26, 27, 28, 29, 30, 31, 32, 33, 34, 35, 36, 37, 38, 39, 40, 41, 42, 43, 44, 45, 46, 47, 48, 49, 50, 51, 52, 53, 54, 55, 56, 57, 58, 59] (by decide +kernel) (by decide +kernel)
set_option maxRecDepth 20000 in
theorem gX12_why_X12_treeOf : GoodIn wsX12_why (wsV RX12 148 RX12 yX12_treeOf wsX12_treeOf) := goodIn_app (goodIn_of _ (by decide +kernel)) ggX12_why_X12_treeOf
theorem dX12_why_0 : decode cX12_why 0 = .ok (.aload_n 0, 1) := by decide +kernel
theorem dX12_why_1 : decode cX12_why 1 = .ok (.aload_n 0, 1) := by decide +kernel
theorem dX12_why_2 : decode cX12_why 2 = .ok (.getfield 121, 3) := by decide +kernel
theorem dX12_why_5 : decode cX12_why 5 = .ok (.invokevirtual 148, 3) := by decide +kernel
theorem dX12_why_8 : decode cX12_why 8 = .ok (.ireturn, 1) := by decide +kernel
set_option maxRecDepth 20000 in
theorem ggX12_tagOf_X12_treeOf : GoodIn wsX12_tagOf wsX12_treeOf := goodIn_r _ [6, 7, 8, 9, 10, 11, 12, 13, 14, 5, 15, 16, 17, 18, 19, 20, 21, 22, 23, 24, 25, 26, 27, 38, 39, 40, 41, 42, 43, 44, 45, 46, 47, 48, 49, 50, 51, 52, 53, 54, 55, 56, 57, 58, 59, 60, 61, 62, 63, 64, 65, 66, 67, 68, 69] (by decide +kernel) (by decide +kernel)
set_option maxRecDepth 20000 in
theorem gX12_tagOf_X12_treeOf : GoodIn wsX12_tagOf (wsV RX12 148 RX12 yX12_treeOf wsX12_treeOf) := goodIn_app (goodIn_of _ (by decide +kernel)) ggX12_tagOf_X12_treeOf
set_option maxRecDepth 20000 in
theorem ggX12_tagOf_X12_costOf : GoodIn wsX12_tagOf wsX12_costOf := goodIn_r _ [31, 10, 32, 7, 9, 24, 33, 13, 14, 5, 15, 38, 39, 40, 41, 42, 43, 44, 45, 46, 47, 48, 49, 50, 51, 52, 53, 54, 55, 56, 57, 58, 59, 60, 61, 62, 63, 64, 65, 66, 67, 68, 69] (by decide +kernel) (by decide +kernel)
set_option maxRecDepth 20000 in
theorem gX12_tagOf_X12_costOf : GoodIn wsX12_tagOf (wsV RX12 151 RX12 yX12_costOf wsX12_costOf) := goodIn_app (goodIn_of _ (by decide +kernel)) ggX12_tagOf_X12_costOf
set_option maxRecDepth 20000 in
theorem ggX12_tagOf_X12_worthOf : GoodIn wsX12_tagOf wsX12_worthOf := goodIn_r _ [37, 7, 9, 24, 33, 13, 14, 5, 15, 38, 39, 40, 41, 42, 43, 44, 45, 46, 47, 48, 49, 50, 51, 52, 53, 54, 55, 56, 57, 58, 59, 60, 61, 62, 63, 64, 65, 66, 67, 68, 69] (by decide +kernel) (by decide +kernel)
set_option maxRecDepth 20000 in
theorem gX12_tagOf_X12_worthOf : GoodIn wsX12_tagOf (wsV RX12 154 RX12 yX12_worthOf wsX12_worthOf) := goodIn_app (goodIn_of _ (by decide +kernel)) ggX12_tagOf_X12_worthOf
theorem dX12_tagOf_0 : decode cX12_tagOf 0 = .ok (.aload_n 0, 1) := by decide +kernel
theorem dX12_tagOf_1 : decode cX12_tagOf 1 = .ok (.iload_n 1, 1) := by decide +kernel
theorem dX12_tagOf_2 : decode cX12_tagOf 2 = .ok (.invokevirtual 148, 3) := by decide +kernel
theorem dX12_tagOf_5 : decode cX12_tagOf 5 = .ok (.ifCond .eq 8, 3) := by decide +kernel
theorem dX12_tagOf_8 : decode cX12_tagOf 8 = .ok (.ldc 157, 2) := by decide +kernel
theorem dX12_tagOf_10 : decode cX12_tagOf 10 = .ok (.goto 13, 3) := by decide +kernel
theorem dX12_tagOf_13 : decode cX12_tagOf 13 = .ok (.aload_n 0, 1) := by decide +kernel
theorem dX12_tagOf_14 : decode cX12_tagOf 14 = .ok (.iload_n 1, 1) := by decide +kernel
theorem dX12_tagOf_15 : decode cX12_tagOf 15 = .ok (.invokevirtual 151, 3) := by decide +kernel
theorem dX12_tagOf_18 : decode cX12_tagOf 18 = .ok (.aload_n 0, 1) := by decide +kernel
theorem dX12_tagOf_19 : decode cX12_tagOf 19 = .ok (.invokevirtual 154, 3) := by decide +kernel
theorem dX12_tagOf_22 : decode cX12_tagOf 22 = .ok (.isub, 1) := by decide +kernel
theorem dX12_tagOf_23 : decode cX12_tagOf 23 = .ok (.ireturn, 1) := by decide +kernel
set_option maxRecDepth 20000 in
theorem ggX12_tag_X12_tagOf : GoodIn wsX12_tag wsX12_tagOf := goodIn_r _ [6, 7, 8, 9, 10, 5, 11, 12, 13, 14, 15, 16, 17, 18, 19, 20, 21, 22, 23, 24, 25, 26, 27, 28, 29, 30, 31, 32, 33, 34, 35, 36, 37, 38, 39, 40, 41, 42, 43, 44, 45, 46, 47, 48, 49, 50, 51, 52, 53, 54, 55, 56, 57, 58, 59, 60, 61, 62, 63, 64, 65, 66, 67, 68, 69, 70, 71, 72, 73, 74] (by decide +kernel) (by decide +kernel)
set_option maxRecDepth 20000 in
theorem gX12_tag_X12_tagOf : GoodIn wsX12_tag (wsV RX12 220 RX12 yX12_tagOf wsX12_tagOf) := goodIn_app (goodIn_of _ (by decide +kernel)) ggX12_tag_X12_tagOf
theorem dX12_tag_0 : decode cX12_tag 0 = .ok (.aload_n 0, 1) := by decide +kernel
theorem dX12_tag_1 : decode cX12_tag 1 = .ok (.aload_n 0, 1) := by decide +kernel
theorem dX12_tag_2 : decode cX12_tag 2 = .ok (.getfield 121, 3) := by decide +kernel
theorem dX12_tag_5 : decode cX12_tag 5 = .ok (.invokevirtual 220, 3) := by decide +kernel
theorem dX12_tag_8 : decode cX12_tag 8 = .ok (.ireturn, 1) := by decide +kernel
set_option maxRecDepth 20000 in
theorem ggX12_trimmed_X12_degree : GoodIn wsX12_trimmed wsX12_degree := goodIn_r _ [11, 12, 2, 3, 13, 14, 10, 15, 20, 21, 22, 23, 24, 25, 26, 27, 28, 29, 30, 31, 32, 33, 34, 35, 36, 37, 38, 39, 40, 41, 42, 43, 44, 45, 46, 47, 48, 49, 50, 51] (by decide +kernel) (by decide +kernel)
set_option maxRecDepth 20000 in
theorem gX12_trimmed_X12_degree : GoodIn wsX12_trimmed (wsV RX12 124 RX12 yX12_degree wsX12_degree) := goodIn_app (goodIn_of _ (by decide +kernel)) ggX12_trimmed_X12_degree
set_option maxRecDepth 20000 in
theorem ggX12_trimmed_X12_isTap : GoodIn wsX12_trimmed wsX12_isTap := goodIn_r _ [19, 5, 20, 21, 22, 23, 24, 25, 26, 27, 28, 29, 30, 31, 32, 33, 34, 35, 36, 37, 38, 39, 40, 41, 42, 43, 44, 45, 46, 47, 48, 49, 50, 51] (by decide +kernel) (by decide +kernel)
set_option maxRecDepth 20000 in
theorem gX12_trimmed_X12_isTap : GoodIn wsX12_trimmed (wsV RX12 79 RX12 yX12_isTap wsX12_isTap) := goodIn_app (goodIn_of _ (by decide +kernel)) ggX12_trimmed_X12_isTap
set_option maxRecDepth 20000 in
theorem ggX12_trimmed_X12_has : GoodIn wsX12_trimmed wsX12_has := goodIn_r _ [15] (by decide +kernel) (by decide +kernel)
set_option maxRecDepth 20000 in
theorem gX12_trimmed_X12_has : GoodIn wsX12_trimmed (va_wsS RX12 117 yX12_has wsX12_has) := goodIn_app (goodIn_of _ (by decide +kernel)) ggX12_trimmed_X12_has
theorem dX12_trimmed_0 : decode cX12_trimmed 0 = .ok (.aload_n 0, 1) := by decide +kernel
theorem dX12_trimmed_1 : decode cX12_trimmed 1 = .ok (.iload_n 1, 1) := by decide +kernel
theorem dX12_trimmed_2 : decode cX12_trimmed 2 = .ok (.aload_n 0, 1) := by decide +kernel
theorem dX12_trimmed_3 : decode cX12_trimmed 3 = .ok (.getfield 121, 3) := by decide +kernel
theorem dX12_trimmed_6 : decode cX12_trimmed 6 = .ok (.invokevirtual 124, 3) := by decide +kernel
theorem dX12_trimmed_9 : decode cX12_trimmed 9 = .ok (.iconst 1, 1) := by decide +kernel
theorem dX12_trimmed_10 : decode cX12_trimmed 10 = .ok (.if_icmp .ne 11, 3) := by decide +kernel
theorem dX12_trimmed_13 : decode cX12_trimmed 13 = .ok (.aload_n 0, 1) := by decide +kernel
theorem dX12_trimmed_14 : decode cX12_trimmed 14 = .ok (.iload_n 1, 1) := by decide +kernel
theorem dX12_trimmed_15 : decode cX12_trimmed 15 = .ok (.invokevirtual 79, 3) := by decide +kernel
theorem dX12_trimmed_18 : decode cX12_trimmed 18 = .ok (.ifCond .eq 5, 3) := by decide +kernel
theorem dX12_trimmed_21 : decode cX12_trimmed 21 = .ok (.iconst (-1), 1) := by decide +kernel
theorem dX12_trimmed_22 : decode cX12_trimmed 22 = .ok (.ireturn, 1) := by decide +kernel
theorem dX12_trimmed_23 : decode cX12_trimmed 23 = .ok (.iconst 0, 1) := by decide +kernel
theorem dX12_trimmed_24 : decode cX12_trimmed 24 = .ok (.istore_n 2, 1) := by decide +kernel
theorem dX12_trimmed_25 : decode cX12_trimmed 25 = .ok (.aload_n 0, 1) := by decide +kernel
theorem dX12_trimmed_26 : decode cX12_trimmed 26 = .ok (.getfield 121, 3) := by decide +kernel
theorem dX12_trimmed_29 : decode cX12_trimmed 29 = .ok (.iload_n 2, 1) := by decide +kernel
theorem dX12_trimmed_30 : decode cX12_trimmed 30 = .ok (.invokestatic 117, 3) := by decide +kernel
theorem dX12_trimmed_33 : decode cX12_trimmed 33 = .ok (.ifCond .eq 23, 3) := by decide +kernel
theorem dX12_trimmed_36 : decode cX12_trimmed 36 = .ok (.aload_n 0, 1) := by decide +kernel
theorem dX12_trimmed_37 : decode cX12_trimmed 37 = .ok (.getfield 16, 3) := by decide +kernel
theorem dX12_trimmed_40 : decode cX12_trimmed 40 = .ok (.iload_n 2, 1) := by decide +kernel
theorem dX12_trimmed_41 : decode cX12_trimmed 41 = .ok (.iaload, 1) := by decide +kernel
theorem dX12_trimmed_42 : decode cX12_trimmed 42 = .ok (.iload_n 1, 1) := by decide +kernel
theorem dX12_trimmed_43 : decode cX12_trimmed 43 = .ok (.if_icmp .eq 19, 3) := by decide +kernel
theorem dX12_trimmed_46 : decode cX12_trimmed 46 = .ok (.aload_n 0, 1) := by decide +kernel
theorem dX12_trimmed_47 : decode cX12_trimmed 47 = .ok (.getfield 19, 3) := by decide +kernel
theorem dX12_trimmed_50 : decode cX12_trimmed 50 = .ok (.iload_n 2, 1) := by decide +kernel
theorem dX12_trimmed_51 : decode cX12_trimmed 51 = .ok (.iaload, 1) := by decide +kernel
theorem dX12_trimmed_52 : decode cX12_trimmed 52 = .ok (.iload_n 1, 1) := by decide +kernel
theorem dX12_trimmed_53 : decode cX12_trimmed 53 = .ok (.if_icmp .eq 9, 3) := by decide +kernel
theorem dX12_trimmed_56 : decode cX12_trimmed 56 = .ok (.iinc 2 1, 3) := by decide +kernel
theorem dX12_trimmed_59 : decode cX12_trimmed 59 = .ok (.goto (-34), 3) := by decide +kernel
theorem dX12_trimmed_62 : decode cX12_trimmed 62 = .ok (.aload_n 0, 1) := by decide +kernel
theorem dX12_trimmed_63 : decode cX12_trimmed 63 = .ok (.getfield 22, 3) := by decide +kernel
theorem dX12_trimmed_66 : decode cX12_trimmed 66 = .ok (.iload_n 2, 1) := by decide +kernel
theorem dX12_trimmed_67 : decode cX12_trimmed 67 = .ok (.iaload, 1) := by decide +kernel
theorem dX12_trimmed_68 : decode cX12_trimmed 68 = .ok (.aload_n 0, 1) := by decide +kernel
theorem dX12_trimmed_69 : decode cX12_trimmed 69 = .ok (.getfield 7, 3) := by decide +kernel
theorem dX12_trimmed_72 : decode cX12_trimmed 72 = .ok (.iload_n 1, 1) := by decide +kernel
theorem dX12_trimmed_73 : decode cX12_trimmed 73 = .ok (.iaload, 1) := by decide +kernel
theorem dX12_trimmed_74 : decode cX12_trimmed 74 = .ok (.iconst 4, 1) := by decide +kernel
theorem dX12_trimmed_75 : decode cX12_trimmed 75 = .ok (.if_icmp .ne 12, 3) := by decide +kernel
theorem dX12_trimmed_78 : decode cX12_trimmed 78 = .ok (.aload_n 0, 1) := by decide +kernel
theorem dX12_trimmed_79 : decode cX12_trimmed 79 = .ok (.getfield 13, 3) := by decide +kernel
theorem dX12_trimmed_82 : decode cX12_trimmed 82 = .ok (.iload_n 1, 1) := by decide +kernel
theorem dX12_trimmed_83 : decode cX12_trimmed 83 = .ok (.iaload, 1) := by decide +kernel
theorem dX12_trimmed_84 : decode cX12_trimmed 84 = .ok (.goto 4, 3) := by decide +kernel
theorem dX12_trimmed_87 : decode cX12_trimmed 87 = .ok (.iconst 0, 1) := by decide +kernel
theorem dX12_trimmed_88 : decode cX12_trimmed 88 = .ok (.iadd, 1) := by decide +kernel
theorem dX12_trimmed_89 : decode cX12_trimmed 89 = .ok (.istore_n 3, 1) := by decide +kernel
theorem dX12_trimmed_90 : decode cX12_trimmed 90 = .ok (.iload_n 3, 1) := by decide +kernel
theorem dX12_trimmed_91 : decode cX12_trimmed 91 = .ok (.aload_n 0, 1) := by decide +kernel
theorem dX12_trimmed_92 : decode cX12_trimmed 92 = .ok (.getfield 7, 3) := by decide +kernel
theorem dX12_trimmed_95 : decode cX12_trimmed 95 = .ok (.iload_n 1, 1) := by decide +kernel
theorem dX12_trimmed_96 : decode cX12_trimmed 96 = .ok (.iaload, 1) := by decide +kernel
theorem dX12_trimmed_97 : decode cX12_trimmed 97 = .ok (.iconst 2, 1) := by decide +kernel
theorem dX12_trimmed_98 : decode cX12_trimmed 98 = .ok (.if_icmp .ne 12, 3) := by decide +kernel
theorem dX12_trimmed_101 : decode cX12_trimmed 101 = .ok (.aload_n 0, 1) := by decide +kernel
theorem dX12_trimmed_102 : decode cX12_trimmed 102 = .ok (.getfield 13, 3) := by decide +kernel
theorem dX12_trimmed_105 : decode cX12_trimmed 105 = .ok (.iload_n 1, 1) := by decide +kernel
theorem dX12_trimmed_106 : decode cX12_trimmed 106 = .ok (.iaload, 1) := by decide +kernel
theorem dX12_trimmed_107 : decode cX12_trimmed 107 = .ok (.goto 4, 3) := by decide +kernel
theorem dX12_trimmed_110 : decode cX12_trimmed 110 = .ok (.iconst 0, 1) := by decide +kernel
theorem dX12_trimmed_111 : decode cX12_trimmed 111 = .ok (.if_icmp .lt 7, 3) := by decide +kernel
theorem dX12_trimmed_114 : decode cX12_trimmed 114 = .ok (.iload_n 2, 1) := by decide +kernel
theorem dX12_trimmed_115 : decode cX12_trimmed 115 = .ok (.goto 4, 3) := by decide +kernel
theorem dX12_trimmed_118 : decode cX12_trimmed 118 = .ok (.iconst (-1), 1) := by decide +kernel
theorem dX12_trimmed_119 : decode cX12_trimmed 119 = .ok (.ireturn, 1) := by decide +kernel
set_option maxRecDepth 20000 in
theorem ggX12_trim_X12_treeOf : GoodIn wsX12_trim wsX12_treeOf := goodIn_r _ [7, 2, 8, 9, 10, 11, 12, 13, 14, 6, 15, 16, 17, 18, 19, 20, 21, 22, 23, 24, 25, 26, 27, 47, 48, 49, 50, 51, 52, 53, 54, 55, 56, 57, 58, 59, 60, 61, 62, 63, 64, 65, 66, 67, 68, 69, 70, 71, 72, 73, 74, 75, 76, 77, 78] (by decide +kernel) (by decide +kernel)
set_option maxRecDepth 20000 in
theorem gX12_trim_X12_treeOf : GoodIn wsX12_trim (wsV RX12 148 RX12 yX12_treeOf wsX12_treeOf) := goodIn_app (goodIn_of _ (by decide +kernel)) ggX12_trim_X12_treeOf
set_option maxRecDepth 20000 in
theorem ggX12_trim_X12_refused : GoodIn wsX12_trim wsX12_refused := goodIn_r _ [31, 32, 47, 48, 49, 50, 51, 52, 53, 54, 55, 56, 57, 58, 59, 60, 61, 62, 63, 64, 65, 66, 67, 68, 69, 70, 71, 72, 73, 74, 75, 76, 77, 78] (by decide +kernel) (by decide +kernel)
set_option maxRecDepth 20000 in
theorem gX12_trim_X12_refused : GoodIn wsX12_trim (wsV RX12 90 RX12 yX12_refused wsX12_refused) := goodIn_app (goodIn_of _ (by decide +kernel)) ggX12_trim_X12_refused
set_option maxRecDepth 20000 in
theorem ggX12_trim_X12_trimmed : GoodIn wsX12_trim wsX12_trimmed := goodIn_r _ [36, 1, 11, 12, 37, 24, 38, 39, 40, 41, 6, 42, 10, 13, 14, 15, 20, 21, 22, 23, 47, 48, 49, 50, 51, 52, 53, 54, 55, 56, 57, 58, 59, 60, 61, 62, 63, 64, 65, 66, 67, 68, 69, 70, 71, 72, 73, 74, 75, 76, 77, 78] (by decide +kernel) (by decide +kernel)
set_option maxRecDepth 20000 in
theorem gX12_trim_X12_trimmed : GoodIn wsX12_trim (wsV RX12 223 RX12 yX12_trimmed wsX12_trimmed) := goodIn_app (goodIn_of _ (by decide +kernel)) ggX12_trim_X12_trimmed
set_option maxRecDepth 20000 in
theorem ggX12_trim_X12_done : GoodIn wsX12_trim wsX12_done := goodIn_r _ [46, 32, 47, 48, 49, 50, 51, 52, 53, 54, 55, 56, 57, 58, 59, 60, 61, 62, 63, 64, 65, 66, 67, 68, 69, 70, 71, 72, 73, 74, 75, 76, 77, 78] (by decide +kernel) (by decide +kernel)
set_option maxRecDepth 20000 in
theorem gX12_trim_X12_done : GoodIn wsX12_trim (wsV RX12 98 RX12 yX12_done wsX12_done) := goodIn_app (goodIn_of _ (by decide +kernel)) ggX12_trim_X12_done
theorem dX12_trim_0 : decode cX12_trim 0 = .ok (.aload_n 0, 1) := by decide +kernel
theorem dX12_trim_1 : decode cX12_trim 1 = .ok (.aload_n 0, 1) := by decide +kernel
theorem dX12_trim_2 : decode cX12_trim 2 = .ok (.getfield 121, 3) := by decide +kernel
theorem dX12_trim_5 : decode cX12_trim 5 = .ok (.invokevirtual 148, 3) := by decide +kernel
theorem dX12_trim_8 : decode cX12_trim 8 = .ok (.ifCond .eq 9, 3) := by decide +kernel
theorem dX12_trim_11 : decode cX12_trim 11 = .ok (.aload_n 0, 1) := by decide +kernel
theorem dX12_trim_12 : decode cX12_trim 12 = .ok (.iconst 3, 1) := by decide +kernel
theorem dX12_trim_13 : decode cX12_trim 13 = .ok (.invokevirtual 90, 3) := by decide +kernel
theorem dX12_trim_16 : decode cX12_trim 16 = .ok (.ireturn, 1) := by decide +kernel
theorem dX12_trim_17 : decode cX12_trim 17 = .ok (.iconst 0, 1) := by decide +kernel
theorem dX12_trim_18 : decode cX12_trim 18 = .ok (.istore_n 1, 1) := by decide +kernel
theorem dX12_trim_19 : decode cX12_trim 19 = .ok (.iconst 0, 1) := by decide +kernel
theorem dX12_trim_20 : decode cX12_trim 20 = .ok (.istore_n 2, 1) := by decide +kernel
theorem dX12_trim_21 : decode cX12_trim 21 = .ok (.iload_n 2, 1) := by decide +kernel
theorem dX12_trim_22 : decode cX12_trim 22 = .ok (.aload_n 0, 1) := by decide +kernel
theorem dX12_trim_23 : decode cX12_trim 23 = .ok (.getfield 69, 3) := by decide +kernel
theorem dX12_trim_26 : decode cX12_trim 26 = .ok (.if_icmp .ge 47, 3) := by decide +kernel
theorem dX12_trim_29 : decode cX12_trim 29 = .ok (.aload_n 0, 1) := by decide +kernel
theorem dX12_trim_30 : decode cX12_trim 30 = .ok (.iload_n 2, 1) := by decide +kernel
theorem dX12_trim_31 : decode cX12_trim 31 = .ok (.invokevirtual 223, 3) := by decide +kernel
theorem dX12_trim_34 : decode cX12_trim 34 = .ok (.istore_n 3, 1) := by decide +kernel
theorem dX12_trim_35 : decode cX12_trim 35 = .ok (.iload_n 3, 1) := by decide +kernel
theorem dX12_trim_36 : decode cX12_trim 36 = .ok (.iconst (-1), 1) := by decide +kernel
theorem dX12_trim_37 : decode cX12_trim 37 = .ok (.if_icmp .eq 20, 3) := by decide +kernel
theorem dX12_trim_40 : decode cX12_trim 40 = .ok (.aload_n 0, 1) := by decide +kernel
theorem dX12_trim_41 : decode cX12_trim 41 = .ok (.dup, 1) := by decide +kernel
theorem dX12_trim_42 : decode cX12_trim 42 = .ok (.getfield 121, 3) := by decide +kernel
theorem dX12_trim_45 : decode cX12_trim 45 = .ok (.iconst 1, 1) := by decide +kernel
theorem dX12_trim_46 : decode cX12_trim 46 = .ok (.iload_n 3, 1) := by decide +kernel
theorem dX12_trim_47 : decode cX12_trim 47 = .ok (.ishl, 1) := by decide +kernel
theorem dX12_trim_48 : decode cX12_trim 48 = .ok (.iconst (-1), 1) := by decide +kernel
theorem dX12_trim_49 : decode cX12_trim 49 = .ok (.ixor, 1) := by decide +kernel
theorem dX12_trim_50 : decode cX12_trim 50 = .ok (.iand, 1) := by decide +kernel
theorem dX12_trim_51 : decode cX12_trim 51 = .ok (.putfield 121, 3) := by decide +kernel
theorem dX12_trim_54 : decode cX12_trim 54 = .ok (.iinc 1 1, 3) := by decide +kernel
theorem dX12_trim_57 : decode cX12_trim 57 = .ok (.iload_n 3, 1) := by decide +kernel
theorem dX12_trim_58 : decode cX12_trim 58 = .ok (.iconst (-1), 1) := by decide +kernel
theorem dX12_trim_59 : decode cX12_trim 59 = .ok (.if_icmp .eq 7, 3) := by decide +kernel
theorem dX12_trim_62 : decode cX12_trim 62 = .ok (.iconst 0, 1) := by decide +kernel
theorem dX12_trim_63 : decode cX12_trim 63 = .ok (.goto 6, 3) := by decide +kernel
theorem dX12_trim_66 : decode cX12_trim 66 = .ok (.iload_n 2, 1) := by decide +kernel
theorem dX12_trim_67 : decode cX12_trim 67 = .ok (.iconst 1, 1) := by decide +kernel
theorem dX12_trim_68 : decode cX12_trim 68 = .ok (.iadd, 1) := by decide +kernel
theorem dX12_trim_69 : decode cX12_trim 69 = .ok (.istore_n 2, 1) := by decide +kernel
theorem dX12_trim_70 : decode cX12_trim 70 = .ok (.goto (-49), 3) := by decide +kernel
theorem dX12_trim_73 : decode cX12_trim 73 = .ok (.aload_n 0, 1) := by decide +kernel
theorem dX12_trim_74 : decode cX12_trim 74 = .ok (.iload_n 1, 1) := by decide +kernel
theorem dX12_trim_75 : decode cX12_trim 75 = .ok (.invokevirtual 98, 3) := by decide +kernel
theorem dX12_trim_78 : decode cX12_trim 78 = .ok (.ireturn, 1) := by decide +kernel
set_option maxRecDepth 20000 in
theorem ggX12_better_X12_tagOf : GoodIn wsX12_better wsX12_tagOf := goodIn_r _ [9, 2, 10, 11, 12, 8, 13, 14, 15, 16, 3, 17, 18, 19, 20, 21, 22, 23, 24, 25, 26, 27, 28, 29, 30, 31, 32, 33, 34, 35, 36, 37, 38, 39, 40, 41, 42, 43, 53, 54, 55, 56, 57, 58, 59, 60, 61, 62, 63, 64, 65, 66, 67, 68, 69, 70, 71, 72, 73, 74, 75, 76, 77, 78, 79, 80, 81, 82, 83, 84] (by decide +kernel) (by decide +kernel)
set_option maxRecDepth 20000 in
theorem gX12_better_X12_tagOf : GoodIn wsX12_better (wsV RX12 220 RX12 yX12_tagOf wsX12_tagOf) := goodIn_app (goodIn_of _ (by decide +kernel)) ggX12_better_X12_tagOf
set_option maxRecDepth 20000 in
theorem ggX12_better_X12_refused : GoodIn wsX12_better wsX12_refused := goodIn_r _ [47, 48, 53, 54, 55, 56, 57, 58, 59, 60, 61, 62, 63, 64, 65, 66, 67, 68, 69, 70, 71, 72, 73, 74, 75, 76, 77, 78, 79, 80, 81, 82, 83, 84] (by decide +kernel) (by decide +kernel)
set_option maxRecDepth 20000 in
theorem gX12_better_X12_refused : GoodIn wsX12_better (wsV RX12 90 RX12 yX12_refused wsX12_refused) := goodIn_app (goodIn_of _ (by decide +kernel)) ggX12_better_X12_refused
set_option maxRecDepth 20000 in
theorem ggX12_better_X12_has : GoodIn wsX12_better wsX12_has := goodIn_r _ [21] (by decide +kernel) (by decide +kernel)
set_option maxRecDepth 20000 in
theorem gX12_better_X12_has : GoodIn wsX12_better (va_wsS RX12 117 yX12_has wsX12_has) := goodIn_app (goodIn_of _ (by decide +kernel)) ggX12_better_X12_has
set_option maxRecDepth 20000 in
theorem ggX12_better_X12_done : GoodIn wsX12_better wsX12_done := goodIn_r _ [52, 48, 53, 54, 55, 56, 57, 58, 59, 60, 61, 62, 63, 64, 65, 66, 67, 68, 69, 70, 71, 72, 73, 74, 75, 76, 77, 78, 79, 80, 81, 82, 83, 84] (by decide +kernel) (by decide +kernel)
set_option maxRecDepth 20000 in
theorem gX12_better_X12_done : GoodIn wsX12_better (wsV RX12 98 RX12 yX12_done wsX12_done) := goodIn_app (goodIn_of _ (by decide +kernel)) ggX12_better_X12_done
theorem dX12_better_0 : decode cX12_better 0 = .ok (.aload_n 0, 1) := by decide +kernel
theorem dX12_better_1 : decode cX12_better 1 = .ok (.aload_n 0, 1) := by decide +kernel
theorem dX12_better_2 : decode cX12_better 2 = .ok (.getfield 121, 3) := by decide +kernel
theorem dX12_better_5 : decode cX12_better 5 = .ok (.invokevirtual 220, 3) := by decide +kernel
theorem dX12_better_8 : decode cX12_better 8 = .ok (.istore_n 1, 1) := by decide +kernel
theorem dX12_better_9 : decode cX12_better 9 = .ok (.iload_n 1, 1) := by decide +kernel
theorem dX12_better_10 : decode cX12_better 10 = .ok (.ldc 157, 2) := by decide +kernel
theorem dX12_better_12 : decode cX12_better 12 = .ok (.if_icmp .ne 9, 3) := by decide +kernel
theorem dX12_better_15 : decode cX12_better 15 = .ok (.aload_n 0, 1) := by decide +kernel
theorem dX12_better_16 : decode cX12_better 16 = .ok (.iconst 3, 1) := by decide +kernel
theorem dX12_better_17 : decode cX12_better 17 = .ok (.invokevirtual 90, 3) := by decide +kernel
theorem dX12_better_20 : decode cX12_better 20 = .ok (.ireturn, 1) := by decide +kernel
theorem dX12_better_21 : decode cX12_better 21 = .ok (.iconst 0, 1) := by decide +kernel
theorem dX12_better_22 : decode cX12_better 22 = .ok (.istore_n 2, 1) := by decide +kernel
theorem dX12_better_23 : decode cX12_better 23 = .ok (.iload_n 2, 1) := by decide +kernel
theorem dX12_better_24 : decode cX12_better 24 = .ok (.aload_n 0, 1) := by decide +kernel
theorem dX12_better_25 : decode cX12_better 25 = .ok (.getfield 76, 3) := by decide +kernel
theorem dX12_better_28 : decode cX12_better 28 = .ok (.if_icmp .ge 106, 3) := by decide +kernel
theorem dX12_better_31 : decode cX12_better 31 = .ok (.iconst 0, 1) := by decide +kernel
theorem dX12_better_32 : decode cX12_better 32 = .ok (.istore_n 3, 1) := by decide +kernel
theorem dX12_better_33 : decode cX12_better 33 = .ok (.iload_n 3, 1) := by decide +kernel
theorem dX12_better_34 : decode cX12_better 34 = .ok (.aload_n 0, 1) := by decide +kernel
theorem dX12_better_35 : decode cX12_better 35 = .ok (.getfield 76, 3) := by decide +kernel
theorem dX12_better_38 : decode cX12_better 38 = .ok (.if_icmp .ge 90, 3) := by decide +kernel
theorem dX12_better_41 : decode cX12_better 41 = .ok (.aload_n 0, 1) := by decide +kernel
theorem dX12_better_42 : decode cX12_better 42 = .ok (.getfield 101, 3) := by decide +kernel
theorem dX12_better_45 : decode cX12_better 45 = .ok (.aload_n 0, 1) := by decide +kernel
theorem dX12_better_46 : decode cX12_better 46 = .ok (.getfield 121, 3) := by decide +kernel
theorem dX12_better_49 : decode cX12_better 49 = .ok (.iconst (-1), 1) := by decide +kernel
theorem dX12_better_50 : decode cX12_better 50 = .ok (.ixor, 1) := by decide +kernel
theorem dX12_better_51 : decode cX12_better 51 = .ok (.iand, 1) := by decide +kernel
theorem dX12_better_52 : decode cX12_better 52 = .ok (.iload_n 2, 1) := by decide +kernel
theorem dX12_better_53 : decode cX12_better 53 = .ok (.invokestatic 117, 3) := by decide +kernel
theorem dX12_better_56 : decode cX12_better 56 = .ok (.ifCond .eq 66, 3) := by decide +kernel
theorem dX12_better_59 : decode cX12_better 59 = .ok (.aload_n 0, 1) := by decide +kernel
theorem dX12_better_60 : decode cX12_better 60 = .ok (.getfield 121, 3) := by decide +kernel
theorem dX12_better_63 : decode cX12_better 63 = .ok (.iload_n 3, 1) := by decide +kernel
theorem dX12_better_64 : decode cX12_better 64 = .ok (.invokestatic 117, 3) := by decide +kernel
theorem dX12_better_67 : decode cX12_better 67 = .ok (.ifCond .eq 55, 3) := by decide +kernel
theorem dX12_better_70 : decode cX12_better 70 = .ok (.aload_n 0, 1) := by decide +kernel
theorem dX12_better_71 : decode cX12_better 71 = .ok (.getfield 121, 3) := by decide +kernel
theorem dX12_better_74 : decode cX12_better 74 = .ok (.iconst 1, 1) := by decide +kernel
theorem dX12_better_75 : decode cX12_better 75 = .ok (.iload_n 3, 1) := by decide +kernel
theorem dX12_better_76 : decode cX12_better 76 = .ok (.ishl, 1) := by decide +kernel
theorem dX12_better_77 : decode cX12_better 77 = .ok (.iconst (-1), 1) := by decide +kernel
theorem dX12_better_78 : decode cX12_better 78 = .ok (.ixor, 1) := by decide +kernel
theorem dX12_better_79 : decode cX12_better 79 = .ok (.iand, 1) := by decide +kernel
theorem dX12_better_80 : decode cX12_better 80 = .ok (.iconst 1, 1) := by decide +kernel
theorem dX12_better_81 : decode cX12_better 81 = .ok (.iload_n 2, 1) := by decide +kernel
theorem dX12_better_82 : decode cX12_better 82 = .ok (.ishl, 1) := by decide +kernel
theorem dX12_better_83 : decode cX12_better 83 = .ok (.ior, 1) := by decide +kernel
theorem dX12_better_84 : decode cX12_better 84 = .ok (.istore 4, 2) := by decide +kernel
theorem dX12_better_86 : decode cX12_better 86 = .ok (.aload_n 0, 1) := by decide +kernel
theorem dX12_better_87 : decode cX12_better 87 = .ok (.iload 4, 2) := by decide +kernel
theorem dX12_better_89 : decode cX12_better 89 = .ok (.invokevirtual 220, 3) := by decide +kernel
theorem dX12_better_92 : decode cX12_better 92 = .ok (.istore 5, 2) := by decide +kernel
theorem dX12_better_94 : decode cX12_better 94 = .ok (.iload 5, 2) := by decide +kernel
theorem dX12_better_96 : decode cX12_better 96 = .ok (.ldc 157, 2) := by decide +kernel
theorem dX12_better_98 : decode cX12_better 98 = .ok (.if_icmp .eq 24, 3) := by decide +kernel
theorem dX12_better_101 : decode cX12_better 101 = .ok (.iload 5, 2) := by decide +kernel
theorem dX12_better_103 : decode cX12_better 103 = .ok (.iload_n 1, 1) := by decide +kernel
theorem dX12_better_104 : decode cX12_better 104 = .ok (.if_icmp .ge 18, 3) := by decide +kernel
theorem dX12_better_107 : decode cX12_better 107 = .ok (.aload_n 0, 1) := by decide +kernel
theorem dX12_better_108 : decode cX12_better 108 = .ok (.iload 4, 2) := by decide +kernel
theorem dX12_better_110 : decode cX12_better 110 = .ok (.putfield 121, 3) := by decide +kernel
theorem dX12_better_113 : decode cX12_better 113 = .ok (.aload_n 0, 1) := by decide +kernel
theorem dX12_better_114 : decode cX12_better 114 = .ok (.iload_n 1, 1) := by decide +kernel
theorem dX12_better_115 : decode cX12_better 115 = .ok (.iload 5, 2) := by decide +kernel
theorem dX12_better_117 : decode cX12_better 117 = .ok (.isub, 1) := by decide +kernel
theorem dX12_better_118 : decode cX12_better 118 = .ok (.invokevirtual 98, 3) := by decide +kernel
theorem dX12_better_121 : decode cX12_better 121 = .ok (.ireturn, 1) := by decide +kernel
theorem dX12_better_122 : decode cX12_better 122 = .ok (.iinc 3 1, 3) := by decide +kernel
theorem dX12_better_125 : decode cX12_better 125 = .ok (.goto (-92), 3) := by decide +kernel
theorem dX12_better_128 : decode cX12_better 128 = .ok (.iinc 2 1, 3) := by decide +kernel
theorem dX12_better_131 : decode cX12_better 131 = .ok (.goto (-108), 3) := by decide +kernel
theorem dX12_better_134 : decode cX12_better 134 = .ok (.aload_n 0, 1) := by decide +kernel
theorem dX12_better_135 : decode cX12_better 135 = .ok (.iconst 0, 1) := by decide +kernel
theorem dX12_better_136 : decode cX12_better 136 = .ok (.invokevirtual 98, 3) := by decide +kernel
theorem dX12_better_139 : decode cX12_better 139 = .ok (.ireturn, 1) := by decide +kernel
theorem dX12_ran_0 : decode cX12_ran 0 = .ok (.aload_n 0, 1) := by decide +kernel
theorem dX12_ran_1 : decode cX12_ran 1 = .ok (.getfield 135, 3) := by decide +kernel
theorem dX12_ran_4 : decode cX12_ran 4 = .ok (.bipush 50, 2) := by decide +kernel
theorem dX12_ran_6 : decode cX12_ran 6 = .ok (.if_icmp .ge 13, 3) := by decide +kernel
theorem dX12_ran_9 : decode cX12_ran 9 = .ok (.aload_n 0, 1) := by decide +kernel
theorem dX12_ran_10 : decode cX12_ran 10 = .ok (.getfield 37, 3) := by decide +kernel
theorem dX12_ran_13 : decode cX12_ran 13 = .ok (.aload_n 0, 1) := by decide +kernel
theorem dX12_ran_14 : decode cX12_ran 14 = .ok (.getfield 135, 3) := by decide +kernel
theorem dX12_ran_17 : decode cX12_ran 17 = .ok (.iload_n 1, 1) := by decide +kernel
theorem dX12_ran_18 : decode cX12_ran 18 = .ok (.iastore, 1) := by decide +kernel
theorem dX12_ran_19 : decode cX12_ran 19 = .ok (.aload_n 0, 1) := by decide +kernel
theorem dX12_ran_20 : decode cX12_ran 20 = .ok (.dup, 1) := by decide +kernel
theorem dX12_ran_21 : decode cX12_ran 21 = .ok (.getfield 135, 3) := by decide +kernel
theorem dX12_ran_24 : decode cX12_ran 24 = .ok (.iconst 1, 1) := by decide +kernel
theorem dX12_ran_25 : decode cX12_ran 25 = .ok (.iadd, 1) := by decide +kernel
theorem dX12_ran_26 : decode cX12_ran 26 = .ok (.putfield 135, 3) := by decide +kernel
theorem dX12_ran_29 : decode cX12_ran 29 = .ok (.return_, 1) := by decide +kernel
set_option maxRecDepth 20000 in
theorem ggX12_join0_X12_ran : GoodIn wsX12_join0 wsX12_ran := goodIn_r _ [7, 8, 9, 20, 21, 22, 23, 24, 25, 26, 27, 28, 29, 30, 31, 32, 33, 34, 35, 36, 37, 38, 39, 40, 41, 42, 43, 44, 45, 46, 47, 48, 49, 50, 51] (by decide +kernel) (by decide +kernel)
set_option maxRecDepth 20000 in
theorem gX12_join0_X12_ran : GoodIn wsX12_join0 (wsV RX12 226 RX12 yX12_ran wsX12_ran) := goodIn_app (goodIn_of _ (by decide +kernel)) ggX12_join0_X12_ran
set_option maxRecDepth 20000 in
theorem ggX12_join0_X12_degree : GoodIn wsX12_join0 wsX12_degree := goodIn_r _ [13, 14, 15, 16, 17, 18, 6, 19, 20, 21, 22, 23, 24, 25, 26, 27, 28, 29, 30, 31, 32, 33, 34, 35, 36, 37, 38, 39, 40, 41, 42, 43, 44, 45, 46, 47, 48, 49, 50, 51] (by decide +kernel) (by decide +kernel)
set_option maxRecDepth 20000 in
theorem gX12_join0_X12_degree : GoodIn wsX12_join0 (wsV RX12 124 RX12 yX12_degree wsX12_degree) := goodIn_app (goodIn_of _ (by decide +kernel)) ggX12_join0_X12_degree
theorem dX12_join0_0 : decode cX12_join0 0 = .ok (.aload_n 0, 1) := by decide +kernel
theorem dX12_join0_1 : decode cX12_join0 1 = .ok (.getfield 7, 3) := by decide +kernel
theorem dX12_join0_4 : decode cX12_join0 4 = .ok (.iload_n 1, 1) := by decide +kernel
theorem dX12_join0_5 : decode cX12_join0 5 = .ok (.iaload, 1) := by decide +kernel
theorem dX12_join0_6 : decode cX12_join0 6 = .ok (.iconst 3, 1) := by decide +kernel
theorem dX12_join0_7 : decode cX12_join0 7 = .ok (.if_icmp .ne 9, 3) := by decide +kernel
theorem dX12_join0_10 : decode cX12_join0 10 = .ok (.aload_n 0, 1) := by decide +kernel
theorem dX12_join0_11 : decode cX12_join0 11 = .ok (.bipush 40, 2) := by decide +kernel
theorem dX12_join0_13 : decode cX12_join0 13 = .ok (.invokevirtual 226, 3) := by decide +kernel
theorem dX12_join0_16 : decode cX12_join0 16 = .ok (.aload_n 0, 1) := by decide +kernel
theorem dX12_join0_17 : decode cX12_join0 17 = .ok (.bipush 10, 2) := by decide +kernel
theorem dX12_join0_19 : decode cX12_join0 19 = .ok (.invokevirtual 226, 3) := by decide +kernel
theorem dX12_join0_22 : decode cX12_join0 22 = .ok (.iload_n 2, 1) := by decide +kernel
theorem dX12_join0_23 : decode cX12_join0 23 = .ok (.aload_n 0, 1) := by decide +kernel
theorem dX12_join0_24 : decode cX12_join0 24 = .ok (.iload_n 1, 1) := by decide +kernel
theorem dX12_join0_25 : decode cX12_join0 25 = .ok (.aload_n 0, 1) := by decide +kernel
theorem dX12_join0_26 : decode cX12_join0 26 = .ok (.getfield 101, 3) := by decide +kernel
theorem dX12_join0_29 : decode cX12_join0 29 = .ok (.invokevirtual 124, 3) := by decide +kernel
theorem dX12_join0_32 : decode cX12_join0 32 = .ok (.iadd, 1) := by decide +kernel
theorem dX12_join0_33 : decode cX12_join0 33 = .ok (.aload_n 0, 1) := by decide +kernel
theorem dX12_join0_34 : decode cX12_join0 34 = .ok (.getfield 7, 3) := by decide +kernel
theorem dX12_join0_37 : decode cX12_join0 37 = .ok (.iload_n 1, 1) := by decide +kernel
theorem dX12_join0_38 : decode cX12_join0 38 = .ok (.iaload, 1) := by decide +kernel
theorem dX12_join0_39 : decode cX12_join0 39 = .ok (.iconst 3, 1) := by decide +kernel
theorem dX12_join0_40 : decode cX12_join0 40 = .ok (.if_icmp .ne 8, 3) := by decide +kernel
theorem dX12_join0_43 : decode cX12_join0 43 = .ok (.bipush 9, 2) := by decide +kernel
theorem dX12_join0_45 : decode cX12_join0 45 = .ok (.goto 4, 3) := by decide +kernel
theorem dX12_join0_48 : decode cX12_join0 48 = .ok (.iconst 0, 1) := by decide +kernel
theorem dX12_join0_49 : decode cX12_join0 49 = .ok (.iadd, 1) := by decide +kernel
theorem dX12_join0_50 : decode cX12_join0 50 = .ok (.ireturn, 1) := by decide +kernel
set_option maxRecDepth 20000 in
theorem ggX12_cost0_X12_isTap : GoodIn wsX12_cost0 wsX12_isTap := goodIn_r _ [7, 1, 29, 30, 31, 32, 33, 34, 35, 36, 37, 38, 39, 40, 41, 42, 43, 44, 45, 46, 47, 48, 49, 50, 51, 52, 53, 54, 55, 56, 57, 58, 59, 60] (by decide +kernel) (by decide +kernel)
set_option maxRecDepth 20000 in
theorem gX12_cost0_X12_isTap : GoodIn wsX12_cost0 (wsV RX12 79 RX12 yX12_isTap wsX12_isTap) := goodIn_app (goodIn_of _ (by decide +kernel)) ggX12_cost0_X12_isTap
set_option maxRecDepth 20000 in
theorem ggX12_cost0_X12_ran : GoodIn wsX12_cost0 wsX12_ran := goodIn_r _ [11, 12, 13, 29, 30, 31, 32, 33, 34, 35, 36, 37, 38, 39, 40, 41, 42, 43, 44, 45, 46, 47, 48, 49, 50, 51, 52, 53, 54, 55, 56, 57, 58, 59, 60] (by decide +kernel) (by decide +kernel)
set_option maxRecDepth 20000 in
theorem gX12_cost0_X12_ran : GoodIn wsX12_cost0 (wsV RX12 226 RX12 yX12_ran wsX12_ran) := goodIn_app (goodIn_of _ (by decide +kernel)) ggX12_cost0_X12_ran
set_option maxRecDepth 20000 in
theorem ggX12_cost0_X12_join0 : GoodIn wsX12_cost0 wsX12_join0 := goodIn_r _ [17, 1, 18, 8, 9, 10, 6, 11, 12, 13, 19, 20, 21, 22, 23, 24, 25, 26, 27, 28, 29, 30, 31, 32, 33, 34, 35, 36, 37, 38, 39, 40, 41, 42, 43, 44, 45, 46, 47, 48, 49, 50, 51, 52, 53, 54, 55, 56, 57, 58, 59, 60] (by decide +kernel) (by decide +kernel)
set_option maxRecDepth 20000 in
theorem gX12_cost0_X12_join0 : GoodIn wsX12_cost0 (wsV RX12 229 RX12 yX12_join0 wsX12_join0) := goodIn_app (goodIn_of _ (by decide +kernel)) ggX12_cost0_X12_join0
theorem dX12_cost0_0 : decode cX12_cost0 0 = .ok (.aload_n 0, 1) := by decide +kernel
theorem dX12_cost0_1 : decode cX12_cost0 1 = .ok (.iload_n 1, 1) := by decide +kernel
theorem dX12_cost0_2 : decode cX12_cost0 2 = .ok (.invokevirtual 79, 3) := by decide +kernel
theorem dX12_cost0_5 : decode cX12_cost0 5 = .ok (.ifCond .eq 9, 3) := by decide +kernel
theorem dX12_cost0_8 : decode cX12_cost0 8 = .ok (.aload_n 0, 1) := by decide +kernel
theorem dX12_cost0_9 : decode cX12_cost0 9 = .ok (.bipush 20, 2) := by decide +kernel
theorem dX12_cost0_11 : decode cX12_cost0 11 = .ok (.invokevirtual 226, 3) := by decide +kernel
theorem dX12_cost0_14 : decode cX12_cost0 14 = .ok (.aload_n 0, 1) := by decide +kernel
theorem dX12_cost0_15 : decode cX12_cost0 15 = .ok (.getfield 7, 3) := by decide +kernel
theorem dX12_cost0_18 : decode cX12_cost0 18 = .ok (.iload_n 1, 1) := by decide +kernel
theorem dX12_cost0_19 : decode cX12_cost0 19 = .ok (.iaload, 1) := by decide +kernel
theorem dX12_cost0_20 : decode cX12_cost0 20 = .ok (.iconst 4, 1) := by decide +kernel
theorem dX12_cost0_21 : decode cX12_cost0 21 = .ok (.if_icmp .ne 9, 3) := by decide +kernel
theorem dX12_cost0_24 : decode cX12_cost0 24 = .ok (.aload_n 0, 1) := by decide +kernel
theorem dX12_cost0_25 : decode cX12_cost0 25 = .ok (.bipush 50, 2) := by decide +kernel
theorem dX12_cost0_27 : decode cX12_cost0 27 = .ok (.invokevirtual 226, 3) := by decide +kernel
theorem dX12_cost0_30 : decode cX12_cost0 30 = .ok (.aload_n 0, 1) := by decide +kernel
theorem dX12_cost0_31 : decode cX12_cost0 31 = .ok (.bipush 11, 2) := by decide +kernel
theorem dX12_cost0_33 : decode cX12_cost0 33 = .ok (.invokevirtual 226, 3) := by decide +kernel
theorem dX12_cost0_36 : decode cX12_cost0 36 = .ok (.aload_n 0, 1) := by decide +kernel
theorem dX12_cost0_37 : decode cX12_cost0 37 = .ok (.iload_n 1, 1) := by decide +kernel
theorem dX12_cost0_38 : decode cX12_cost0 38 = .ok (.iload_n 2, 1) := by decide +kernel
theorem dX12_cost0_39 : decode cX12_cost0 39 = .ok (.invokevirtual 229, 3) := by decide +kernel
theorem dX12_cost0_42 : decode cX12_cost0 42 = .ok (.iconst 2, 1) := by decide +kernel
theorem dX12_cost0_43 : decode cX12_cost0 43 = .ok (.imul, 1) := by decide +kernel
theorem dX12_cost0_44 : decode cX12_cost0 44 = .ok (.aload_n 0, 1) := by decide +kernel
theorem dX12_cost0_45 : decode cX12_cost0 45 = .ok (.iload_n 1, 1) := by decide +kernel
theorem dX12_cost0_46 : decode cX12_cost0 46 = .ok (.invokevirtual 79, 3) := by decide +kernel
theorem dX12_cost0_49 : decode cX12_cost0 49 = .ok (.ifCond .eq 7, 3) := by decide +kernel
theorem dX12_cost0_52 : decode cX12_cost0 52 = .ok (.iconst 1, 1) := by decide +kernel
theorem dX12_cost0_53 : decode cX12_cost0 53 = .ok (.goto 4, 3) := by decide +kernel
theorem dX12_cost0_56 : decode cX12_cost0 56 = .ok (.iconst 0, 1) := by decide +kernel
theorem dX12_cost0_57 : decode cX12_cost0 57 = .ok (.iadd, 1) := by decide +kernel
theorem dX12_cost0_58 : decode cX12_cost0 58 = .ok (.aload_n 0, 1) := by decide +kernel
theorem dX12_cost0_59 : decode cX12_cost0 59 = .ok (.getfield 7, 3) := by decide +kernel
theorem dX12_cost0_62 : decode cX12_cost0 62 = .ok (.iload_n 1, 1) := by decide +kernel
theorem dX12_cost0_63 : decode cX12_cost0 63 = .ok (.iaload, 1) := by decide +kernel
theorem dX12_cost0_64 : decode cX12_cost0 64 = .ok (.iconst 4, 1) := by decide +kernel
theorem dX12_cost0_65 : decode cX12_cost0 65 = .ok (.if_icmp .ne 12, 3) := by decide +kernel
theorem dX12_cost0_68 : decode cX12_cost0 68 = .ok (.aload_n 0, 1) := by decide +kernel
theorem dX12_cost0_69 : decode cX12_cost0 69 = .ok (.getfield 13, 3) := by decide +kernel
theorem dX12_cost0_72 : decode cX12_cost0 72 = .ok (.iload_n 1, 1) := by decide +kernel
theorem dX12_cost0_73 : decode cX12_cost0 73 = .ok (.iaload, 1) := by decide +kernel
theorem dX12_cost0_74 : decode cX12_cost0 74 = .ok (.goto 4, 3) := by decide +kernel
theorem dX12_cost0_77 : decode cX12_cost0 77 = .ok (.iconst 0, 1) := by decide +kernel
theorem dX12_cost0_78 : decode cX12_cost0 78 = .ok (.iadd, 1) := by decide +kernel
theorem dX12_cost0_79 : decode cX12_cost0 79 = .ok (.ireturn, 1) := by decide +kernel
set_option maxRecDepth 20000 in
theorem ggX12_ask0_X12_ran : GoodIn wsX12_ask0 wsX12_ran := goodIn_r _ [7, 8, 9, 10, 11, 12, 13, 14, 15, 16, 17, 18, 19, 20, 21, 22, 23, 24, 25, 26, 27, 28, 29, 30, 31, 32, 33, 34, 35, 36, 37, 38, 39, 40, 41] (by decide +kernel) (by decide +kernel)
set_option maxRecDepth 20000 in
theorem gX12_ask0_X12_ran : GoodIn wsX12_ask0 (wsV RX12 226 RX12 yX12_ran wsX12_ran) := goodIn_app (goodIn_of _ (by decide +kernel)) ggX12_ask0_X12_ran
theorem dX12_ask0_0 : decode cX12_ask0 0 = .ok (.aload_n 0, 1) := by decide +kernel
theorem dX12_ask0_1 : decode cX12_ask0 1 = .ok (.getfield 7, 3) := by decide +kernel
theorem dX12_ask0_4 : decode cX12_ask0 4 = .ok (.iload_n 1, 1) := by decide +kernel
theorem dX12_ask0_5 : decode cX12_ask0 5 = .ok (.iaload, 1) := by decide +kernel
theorem dX12_ask0_6 : decode cX12_ask0 6 = .ok (.iconst 2, 1) := by decide +kernel
theorem dX12_ask0_7 : decode cX12_ask0 7 = .ok (.if_icmp .ne 9, 3) := by decide +kernel
theorem dX12_ask0_10 : decode cX12_ask0 10 = .ok (.aload_n 0, 1) := by decide +kernel
theorem dX12_ask0_11 : decode cX12_ask0 11 = .ok (.bipush 30, 2) := by decide +kernel
theorem dX12_ask0_13 : decode cX12_ask0 13 = .ok (.invokevirtual 226, 3) := by decide +kernel
theorem dX12_ask0_16 : decode cX12_ask0 16 = .ok (.aload_n 0, 1) := by decide +kernel
theorem dX12_ask0_17 : decode cX12_ask0 17 = .ok (.getfield 7, 3) := by decide +kernel
theorem dX12_ask0_20 : decode cX12_ask0 20 = .ok (.iload_n 1, 1) := by decide +kernel
theorem dX12_ask0_21 : decode cX12_ask0 21 = .ok (.iaload, 1) := by decide +kernel
theorem dX12_ask0_22 : decode cX12_ask0 22 = .ok (.iconst 3, 1) := by decide +kernel
theorem dX12_ask0_23 : decode cX12_ask0 23 = .ok (.if_icmp .ne 9, 3) := by decide +kernel
theorem dX12_ask0_26 : decode cX12_ask0 26 = .ok (.aload_n 0, 1) := by decide +kernel
theorem dX12_ask0_27 : decode cX12_ask0 27 = .ok (.bipush 41, 2) := by decide +kernel
theorem dX12_ask0_29 : decode cX12_ask0 29 = .ok (.invokevirtual 226, 3) := by decide +kernel
theorem dX12_ask0_32 : decode cX12_ask0 32 = .ok (.aload_n 0, 1) := by decide +kernel
theorem dX12_ask0_33 : decode cX12_ask0 33 = .ok (.bipush 12, 2) := by decide +kernel
theorem dX12_ask0_35 : decode cX12_ask0 35 = .ok (.invokevirtual 226, 3) := by decide +kernel
theorem dX12_ask0_38 : decode cX12_ask0 38 = .ok (.aload_n 0, 1) := by decide +kernel
theorem dX12_ask0_39 : decode cX12_ask0 39 = .ok (.getfield 7, 3) := by decide +kernel
theorem dX12_ask0_42 : decode cX12_ask0 42 = .ok (.iload_n 1, 1) := by decide +kernel
theorem dX12_ask0_43 : decode cX12_ask0 43 = .ok (.iaload, 1) := by decide +kernel
theorem dX12_ask0_44 : decode cX12_ask0 44 = .ok (.iconst 3, 1) := by decide +kernel
theorem dX12_ask0_45 : decode cX12_ask0 45 = .ok (.if_icmp .ne 11, 3) := by decide +kernel
theorem dX12_ask0_48 : decode cX12_ask0 48 = .ok (.iload_n 2, 1) := by decide +kernel
theorem dX12_ask0_49 : decode cX12_ask0 49 = .ok (.iconst 3, 1) := by decide +kernel
theorem dX12_ask0_50 : decode cX12_ask0 50 = .ok (.imul, 1) := by decide +kernel
theorem dX12_ask0_51 : decode cX12_ask0 51 = .ok (.iload_n 1, 1) := by decide +kernel
theorem dX12_ask0_52 : decode cX12_ask0 52 = .ok (.isub, 1) := by decide +kernel
theorem dX12_ask0_53 : decode cX12_ask0 53 = .ok (.goto 29, 3) := by decide +kernel
theorem dX12_ask0_56 : decode cX12_ask0 56 = .ok (.aload_n 0, 1) := by decide +kernel
theorem dX12_ask0_57 : decode cX12_ask0 57 = .ok (.getfield 7, 3) := by decide +kernel
theorem dX12_ask0_60 : decode cX12_ask0 60 = .ok (.iload_n 1, 1) := by decide +kernel
theorem dX12_ask0_61 : decode cX12_ask0 61 = .ok (.iaload, 1) := by decide +kernel
theorem dX12_ask0_62 : decode cX12_ask0 62 = .ok (.iconst 2, 1) := by decide +kernel
theorem dX12_ask0_63 : decode cX12_ask0 63 = .ok (.if_icmp .ne 16, 3) := by decide +kernel
theorem dX12_ask0_66 : decode cX12_ask0 66 = .ok (.iload_n 2, 1) := by decide +kernel
theorem dX12_ask0_67 : decode cX12_ask0 67 = .ok (.iload_n 1, 1) := by decide +kernel
theorem dX12_ask0_68 : decode cX12_ask0 68 = .ok (.isub, 1) := by decide +kernel
theorem dX12_ask0_69 : decode cX12_ask0 69 = .ok (.aload_n 0, 1) := by decide +kernel
theorem dX12_ask0_70 : decode cX12_ask0 70 = .ok (.getfield 13, 3) := by decide +kernel
theorem dX12_ask0_73 : decode cX12_ask0 73 = .ok (.iload_n 1, 1) := by decide +kernel
theorem dX12_ask0_74 : decode cX12_ask0 74 = .ok (.iaload, 1) := by decide +kernel
theorem dX12_ask0_75 : decode cX12_ask0 75 = .ok (.imul, 1) := by decide +kernel
theorem dX12_ask0_76 : decode cX12_ask0 76 = .ok (.goto 6, 3) := by decide +kernel
theorem dX12_ask0_79 : decode cX12_ask0 79 = .ok (.iload_n 2, 1) := by decide +kernel
theorem dX12_ask0_80 : decode cX12_ask0 80 = .ok (.iload_n 1, 1) := by decide +kernel
theorem dX12_ask0_81 : decode cX12_ask0 81 = .ok (.isub, 1) := by decide +kernel
theorem dX12_ask0_82 : decode cX12_ask0 82 = .ok (.ireturn, 1) := by decide +kernel
set_option maxRecDepth 20000 in
theorem ggX12_placeTell_X12_ran : GoodIn wsX12_placeTell wsX12_ran := goodIn_r _ [5, 6, 7, 37, 38, 39, 40, 41, 42, 43, 44, 45, 46, 47, 48, 49, 50, 51, 52, 53, 54, 55, 56, 57, 58, 59, 60, 61, 62, 63, 64, 65, 66, 67, 68] (by decide +kernel) (by decide +kernel)
set_option maxRecDepth 20000 in
theorem gX12_placeTell_X12_ran : GoodIn wsX12_placeTell (wsV RX12 226 RX12 yX12_ran wsX12_ran) := goodIn_app (goodIn_of _ (by decide +kernel)) ggX12_placeTell_X12_ran
set_option maxRecDepth 20000 in
theorem ggX12_placeTell_X12_cost0 : GoodIn wsX12_placeTell wsX12_cost0 := goodIn_r _ [11, 12, 13, 14, 15, 16, 4, 17, 1, 2, 3, 5, 6, 7, 18, 19, 20, 21, 22, 23, 24, 25, 26, 27, 28, 29, 30, 31, 32, 37, 38, 39, 40, 41, 42, 43, 44, 45, 46, 47, 48, 49, 50, 51, 52, 53, 54, 55, 56, 57, 58, 59, 60, 61, 62, 63, 64, 65, 66, 67, 68] (by decide +kernel) (by decide +kernel)
set_option maxRecDepth 20000 in
theorem gX12_placeTell_X12_cost0 : GoodIn wsX12_placeTell (wsV RX12 232 RX12 yX12_cost0 wsX12_cost0) := goodIn_app (goodIn_of _ (by decide +kernel)) ggX12_placeTell_X12_cost0
set_option maxRecDepth 20000 in
theorem ggX12_placeTell_X12_ask0 : GoodIn wsX12_placeTell wsX12_ask0 := goodIn_r _ [36, 12, 13, 1, 2, 3, 4, 5, 6, 7, 37, 38, 39, 40, 41, 42, 43, 44, 45, 46, 47, 48, 49, 50, 51, 52, 53, 54, 55, 56, 57, 58, 59, 60, 61, 62, 63, 64, 65, 66, 67, 68] (by decide +kernel) (by decide +kernel)
set_option maxRecDepth 20000 in
theorem gX12_placeTell_X12_ask0 : GoodIn wsX12_placeTell (wsV RX12 235 RX12 yX12_ask0 wsX12_ask0) := goodIn_app (goodIn_of _ (by decide +kernel)) ggX12_placeTell_X12_ask0
theorem dX12_placeTell_0 : decode cX12_placeTell 0 = .ok (.aload_n 0, 1) := by decide +kernel
theorem dX12_placeTell_1 : decode cX12_placeTell 1 = .ok (.bipush 13, 2) := by decide +kernel
theorem dX12_placeTell_3 : decode cX12_placeTell 3 = .ok (.invokevirtual 226, 3) := by decide +kernel
theorem dX12_placeTell_6 : decode cX12_placeTell 6 = .ok (.aload_n 0, 1) := by decide +kernel
theorem dX12_placeTell_7 : decode cX12_placeTell 7 = .ok (.iload_n 1, 1) := by decide +kernel
theorem dX12_placeTell_8 : decode cX12_placeTell 8 = .ok (.iload_n 2, 1) := by decide +kernel
theorem dX12_placeTell_9 : decode cX12_placeTell 9 = .ok (.invokevirtual 232, 3) := by decide +kernel
theorem dX12_placeTell_12 : decode cX12_placeTell 12 = .ok (.istore_n 3, 1) := by decide +kernel
theorem dX12_placeTell_13 : decode cX12_placeTell 13 = .ok (.iload_n 3, 1) := by decide +kernel
theorem dX12_placeTell_14 : decode cX12_placeTell 14 = .ok (.aload_n 0, 1) := by decide +kernel
theorem dX12_placeTell_15 : decode cX12_placeTell 15 = .ok (.iload_n 1, 1) := by decide +kernel
theorem dX12_placeTell_16 : decode cX12_placeTell 16 = .ok (.iload_n 2, 1) := by decide +kernel
theorem dX12_placeTell_17 : decode cX12_placeTell 17 = .ok (.invokevirtual 235, 3) := by decide +kernel
theorem dX12_placeTell_20 : decode cX12_placeTell 20 = .ok (.ixor, 1) := by decide +kernel
theorem dX12_placeTell_21 : decode cX12_placeTell 21 = .ok (.ireturn, 1) := by decide +kernel
set_option maxRecDepth 20000 in
theorem ggX12_tell0_X12_isTap : GoodIn wsX12_tell0 wsX12_isTap := goodIn_r _ [6, 1, 41, 42, 43, 44, 45, 46, 47, 48, 49, 50, 51, 52, 53, 54, 55, 56, 57, 58, 59, 60, 61, 62, 63, 64, 65, 66, 67, 68, 69, 70, 71, 72] (by decide +kernel) (by decide +kernel)
set_option maxRecDepth 20000 in
theorem gX12_tell0_X12_isTap : GoodIn wsX12_tell0 (wsV RX12 79 RX12 yX12_isTap wsX12_isTap) := goodIn_app (goodIn_of _ (by decide +kernel)) ggX12_tell0_X12_isTap
set_option maxRecDepth 20000 in
theorem ggX12_tell0_X12_ran : GoodIn wsX12_tell0 wsX12_ran := goodIn_r _ [10, 11, 12, 41, 42, 43, 44, 45, 46, 47, 48, 49, 50, 51, 52, 53, 54, 55, 56, 57, 58, 59, 60, 61, 62, 63, 64, 65, 66, 67, 68, 69, 70, 71, 72] (by decide +kernel) (by decide +kernel)
set_option maxRecDepth 20000 in
theorem gX12_tell0_X12_ran : GoodIn wsX12_tell0 (wsV RX12 226 RX12 yX12_ran wsX12_ran) := goodIn_app (goodIn_of _ (by decide +kernel)) ggX12_tell0_X12_ran
set_option maxRecDepth 20000 in
theorem ggX12_tell0_X12_placeTell : GoodIn wsX12_tell0 wsX12_placeTell := goodIn_r _ [16, 7, 8, 9, 5, 10, 11, 12, 17, 18, 19, 20, 1, 21, 2, 3, 4, 6, 22, 23, 24, 25, 26, 27, 28, 29, 30, 31, 32, 33, 34, 35, 36, 37, 38, 39, 40, 41, 42, 43, 44, 45, 46, 47, 48, 49, 50, 51, 52, 53, 54, 55, 56, 57, 58, 59, 60, 61, 62, 63, 64, 65, 66, 67, 68, 69, 70, 71, 72] (by decide +kernel) (by decide +kernel)
set_option maxRecDepth 20000 in
theorem gX12_tell0_X12_placeTell : GoodIn wsX12_tell0 (wsV RX12 238 RX12 yX12_placeTell wsX12_placeTell) := goodIn_app (goodIn_of _ (by decide +kernel)) ggX12_tell0_X12_placeTell
set_option maxRecDepth 20000 in
theorem ggX12_tell0_X12_ask0 : GoodIn wsX12_tell0 wsX12_ask0 := goodIn_r _ [40, 1, 21, 7, 8, 9, 5, 10, 11, 12, 41, 42, 43, 44, 45, 46, 47, 48, 49, 50, 51, 52, 53, 54, 55, 56, 57, 58, 59, 60, 61, 62, 63, 64, 65, 66, 67, 68, 69, 70, 71, 72] (by decide +kernel) (by decide +kernel)
set_option maxRecDepth 20000 in
theorem gX12_tell0_X12_ask0 : GoodIn wsX12_tell0 (wsV RX12 235 RX12 yX12_ask0 wsX12_ask0) := goodIn_app (goodIn_of _ (by decide +kernel)) ggX12_tell0_X12_ask0
theorem dX12_tell0_0 : decode cX12_tell0 0 = .ok (.aload_n 0, 1) := by decide +kernel
theorem dX12_tell0_1 : decode cX12_tell0 1 = .ok (.iload_n 1, 1) := by decide +kernel
theorem dX12_tell0_2 : decode cX12_tell0 2 = .ok (.invokevirtual 79, 3) := by decide +kernel
theorem dX12_tell0_5 : decode cX12_tell0 5 = .ok (.ifCond .eq 18, 3) := by decide +kernel
theorem dX12_tell0_8 : decode cX12_tell0 8 = .ok (.aload_n 0, 1) := by decide +kernel
theorem dX12_tell0_9 : decode cX12_tell0 9 = .ok (.bipush 21, 2) := by decide +kernel
theorem dX12_tell0_11 : decode cX12_tell0 11 = .ok (.invokevirtual 226, 3) := by decide +kernel
theorem dX12_tell0_14 : decode cX12_tell0 14 = .ok (.aload_n 0, 1) := by decide +kernel
theorem dX12_tell0_15 : decode cX12_tell0 15 = .ok (.iload_n 1, 1) := by decide +kernel
theorem dX12_tell0_16 : decode cX12_tell0 16 = .ok (.iload_n 2, 1) := by decide +kernel
theorem dX12_tell0_17 : decode cX12_tell0 17 = .ok (.iconst 1, 1) := by decide +kernel
theorem dX12_tell0_18 : decode cX12_tell0 18 = .ok (.isub, 1) := by decide +kernel
theorem dX12_tell0_19 : decode cX12_tell0 19 = .ok (.invokevirtual 238, 3) := by decide +kernel
theorem dX12_tell0_22 : decode cX12_tell0 22 = .ok (.ireturn, 1) := by decide +kernel
theorem dX12_tell0_23 : decode cX12_tell0 23 = .ok (.aload_n 0, 1) := by decide +kernel
theorem dX12_tell0_24 : decode cX12_tell0 24 = .ok (.getfield 7, 3) := by decide +kernel
theorem dX12_tell0_27 : decode cX12_tell0 27 = .ok (.iload_n 1, 1) := by decide +kernel
theorem dX12_tell0_28 : decode cX12_tell0 28 = .ok (.iaload, 1) := by decide +kernel
theorem dX12_tell0_29 : decode cX12_tell0 29 = .ok (.iconst 4, 1) := by decide +kernel
theorem dX12_tell0_30 : decode cX12_tell0 30 = .ok (.if_icmp .ne 25, 3) := by decide +kernel
theorem dX12_tell0_33 : decode cX12_tell0 33 = .ok (.aload_n 0, 1) := by decide +kernel
theorem dX12_tell0_34 : decode cX12_tell0 34 = .ok (.bipush 51, 2) := by decide +kernel
theorem dX12_tell0_36 : decode cX12_tell0 36 = .ok (.invokevirtual 226, 3) := by decide +kernel
theorem dX12_tell0_39 : decode cX12_tell0 39 = .ok (.aload_n 0, 1) := by decide +kernel
theorem dX12_tell0_40 : decode cX12_tell0 40 = .ok (.iload_n 1, 1) := by decide +kernel
theorem dX12_tell0_41 : decode cX12_tell0 41 = .ok (.iload_n 2, 1) := by decide +kernel
theorem dX12_tell0_42 : decode cX12_tell0 42 = .ok (.invokevirtual 235, 3) := by decide +kernel
theorem dX12_tell0_45 : decode cX12_tell0 45 = .ok (.istore_n 3, 1) := by decide +kernel
theorem dX12_tell0_46 : decode cX12_tell0 46 = .ok (.iload_n 3, 1) := by decide +kernel
theorem dX12_tell0_47 : decode cX12_tell0 47 = .ok (.aload_n 0, 1) := by decide +kernel
theorem dX12_tell0_48 : decode cX12_tell0 48 = .ok (.iload_n 1, 1) := by decide +kernel
theorem dX12_tell0_49 : decode cX12_tell0 49 = .ok (.iload_n 2, 1) := by decide +kernel
theorem dX12_tell0_50 : decode cX12_tell0 50 = .ok (.invokevirtual 238, 3) := by decide +kernel
theorem dX12_tell0_53 : decode cX12_tell0 53 = .ok (.iadd, 1) := by decide +kernel
theorem dX12_tell0_54 : decode cX12_tell0 54 = .ok (.ireturn, 1) := by decide +kernel
theorem dX12_tell0_55 : decode cX12_tell0 55 = .ok (.aload_n 0, 1) := by decide +kernel
theorem dX12_tell0_56 : decode cX12_tell0 56 = .ok (.iload_n 1, 1) := by decide +kernel
theorem dX12_tell0_57 : decode cX12_tell0 57 = .ok (.iload_n 2, 1) := by decide +kernel
theorem dX12_tell0_58 : decode cX12_tell0 58 = .ok (.invokevirtual 238, 3) := by decide +kernel
theorem dX12_tell0_61 : decode cX12_tell0 61 = .ok (.ireturn, 1) := by decide +kernel
set_option maxRecDepth 20000 in
theorem ggX12_act_X12_isPlace : GoodIn wsX12_act wsX12_isPlace := goodIn_r _ [6, 7, 8, 9, 5, 10, 62, 63, 64, 65, 66, 67, 68, 69, 70, 71, 72, 73, 74, 75, 76, 77, 78, 79, 80, 81, 82, 83, 84, 85, 86, 87, 88, 89, 90, 91, 92, 93] (by decide +kernel) (by decide +kernel)
set_option maxRecDepth 20000 in
theorem gX12_act_X12_isPlace : GoodIn wsX12_act (wsV RX12 104 RX12 yX12_isPlace wsX12_isPlace) := goodIn_app (goodIn_of _ (by decide +kernel)) ggX12_act_X12_isPlace
set_option maxRecDepth 20000 in
theorem ggX12_act_X12_in : GoodIn wsX12_act wsX12_in := goodIn_r _ [10] (by decide +kernel) (by decide +kernel)
set_option maxRecDepth 20000 in
theorem gX12_act_X12_in : GoodIn wsX12_act (va_wsS RX12 72 yX12_in wsX12_in) := goodIn_app (goodIn_of _ (by decide +kernel)) ggX12_act_X12_in
set_option maxRecDepth 20000 in
theorem ggX12_act_X12_refused : GoodIn wsX12_act wsX12_refused := goodIn_r _ [14, 15, 62, 63, 64, 65, 66, 67, 68, 69, 70, 71, 72, 73, 74, 75, 76, 77, 78, 79, 80, 81, 82, 83, 84, 85, 86, 87, 88, 89, 90, 91, 92, 93] (by decide +kernel) (by decide +kernel)
set_option maxRecDepth 20000 in
theorem gX12_act_X12_refused : GoodIn wsX12_act (wsV RX12 90 RX12 yX12_refused wsX12_refused) := goodIn_app (goodIn_of _ (by decide +kernel)) ggX12_act_X12_refused
set_option maxRecDepth 20000 in
theorem ggX12_act_X12_join0 : GoodIn wsX12_act wsX12_join0 := goodIn_r _ [19, 20, 21, 22, 23, 24, 5, 25, 1, 26, 27, 28, 29, 30, 31, 32, 33, 34, 35, 36, 62, 63, 64, 65, 66, 67, 68, 69, 70, 71, 72, 73, 74, 75, 76, 77, 78, 79, 80, 81, 82, 83, 84, 85, 86, 87, 88, 89, 90, 91, 92, 93] (by decide +kernel) (by decide +kernel)
set_option maxRecDepth 20000 in
theorem gX12_act_X12_join0 : GoodIn wsX12_act (wsV RX12 229 RX12 yX12_join0 wsX12_join0) := goodIn_app (goodIn_of _ (by decide +kernel)) ggX12_act_X12_join0
set_option maxRecDepth 20000 in
theorem ggX12_act_X12_cost0 : GoodIn wsX12_act wsX12_cost0 := goodIn_r _ [40, 20, 41, 42, 43, 44, 5, 45, 22, 23, 24, 25, 1, 26, 16, 17, 18, 19, 21, 27, 28, 29, 30, 31, 32, 33, 34, 35, 36, 62, 63, 64, 65, 66, 67, 68, 69, 70, 71, 72, 73, 74, 75, 76, 77, 78, 79, 80, 81, 82, 83, 84, 85, 86, 87, 88, 89, 90, 91, 92, 93] (by decide +kernel) (by decide +kernel)
set_option maxRecDepth 20000 in
theorem gX12_act_X12_cost0 : GoodIn wsX12_act (wsV RX12 232 RX12 yX12_cost0 wsX12_cost0) := goodIn_app (goodIn_of _ (by decide +kernel)) ggX12_act_X12_cost0
set_option maxRecDepth 20000 in
theorem ggX12_act_X12_ask0 : GoodIn wsX12_act wsX12_ask0 := goodIn_r _ [49, 20, 41, 22, 23, 24, 5, 25, 1, 26, 62, 63, 64, 65, 66, 67, 68, 69, 70, 71, 72, 73, 74, 75, 76, 77, 78, 79, 80, 81, 82, 83, 84, 85, 86, 87, 88, 89, 90, 91, 92, 93] (by decide +kernel) (by decide +kernel)
set_option maxRecDepth 20000 in
theorem gX12_act_X12_ask0 : GoodIn wsX12_act (wsV RX12 235 RX12 yX12_ask0 wsX12_ask0) := goodIn_app (goodIn_of _ (by decide +kernel)) ggX12_act_X12_ask0
set_option maxRecDepth 20000 in
theorem ggX12_act_X12_tell0 : GoodIn wsX12_act wsX12_tell0 := goodIn_r _ [53, 20, 42, 43, 44, 5, 45, 22, 23, 24, 25, 1, 26, 54, 55, 56, 57, 37, 38, 39, 40, 41, 16, 17, 18, 19, 21, 27, 28, 29, 30, 31, 32, 33, 34, 35, 36, 46, 47, 48, 49, 62, 63, 64, 65, 66, 67, 68, 69, 70, 71, 72, 73, 74, 75, 76, 77, 78, 79, 80, 81, 82, 83, 84, 85, 86, 87, 88, 89, 90, 91, 92, 93] (by decide +kernel) (by decide +kernel)
set_option maxRecDepth 20000 in
theorem gX12_act_X12_tell0 : GoodIn wsX12_act (wsV RX12 241 RX12 yX12_tell0 wsX12_tell0) := goodIn_app (goodIn_of _ (by decide +kernel)) ggX12_act_X12_tell0
set_option maxRecDepth 20000 in
theorem ggX12_act_X12_done : GoodIn wsX12_act wsX12_done := goodIn_r _ [61, 15, 62, 63, 64, 65, 66, 67, 68, 69, 70, 71, 72, 73, 74, 75, 76, 77, 78, 79, 80, 81, 82, 83, 84, 85, 86, 87, 88, 89, 90, 91, 92, 93] (by decide +kernel) (by decide +kernel)
set_option maxRecDepth 20000 in
theorem gX12_act_X12_done : GoodIn wsX12_act (wsV RX12 98 RX12 yX12_done wsX12_done) := goodIn_app (goodIn_of _ (by decide +kernel)) ggX12_act_X12_done
theorem dX12_act_0 : decode cX12_act 0 = .ok (.aload_n 0, 1) := by decide +kernel
theorem dX12_act_1 : decode cX12_act 1 = .ok (.iload_n 1, 1) := by decide +kernel
theorem dX12_act_2 : decode cX12_act 2 = .ok (.invokevirtual 104, 3) := by decide +kernel
theorem dX12_act_5 : decode cX12_act 5 = .ok (.ifCond .eq 12, 3) := by decide +kernel
theorem dX12_act_8 : decode cX12_act 8 = .ok (.iload_n 2, 1) := by decide +kernel
theorem dX12_act_9 : decode cX12_act 9 = .ok (.iconst 0, 1) := by decide +kernel
theorem dX12_act_10 : decode cX12_act 10 = .ok (.iconst 3, 1) := by decide +kernel
theorem dX12_act_11 : decode cX12_act 11 = .ok (.invokestatic 72, 3) := by decide +kernel
theorem dX12_act_14 : decode cX12_act 14 = .ok (.ifCond .ne 9, 3) := by decide +kernel
theorem dX12_act_17 : decode cX12_act 17 = .ok (.aload_n 0, 1) := by decide +kernel
theorem dX12_act_18 : decode cX12_act 18 = .ok (.iconst 1, 1) := by decide +kernel
theorem dX12_act_19 : decode cX12_act 19 = .ok (.invokevirtual 90, 3) := by decide +kernel
theorem dX12_act_22 : decode cX12_act 22 = .ok (.ireturn, 1) := by decide +kernel
theorem dX12_act_23 : decode cX12_act 23 = .ok (.aload_n 0, 1) := by decide +kernel
theorem dX12_act_24 : decode cX12_act 24 = .ok (.iconst 0, 1) := by decide +kernel
theorem dX12_act_25 : decode cX12_act 25 = .ok (.putfield 135, 3) := by decide +kernel
theorem dX12_act_28 : decode cX12_act 28 = .ok (.aload_n 0, 1) := by decide +kernel
theorem dX12_act_29 : decode cX12_act 29 = .ok (.iload_n 2, 1) := by decide +kernel
theorem dX12_act_30 : decode cX12_act 30 = .ok (.ifCond .ne 12, 3) := by decide +kernel
theorem dX12_act_33 : decode cX12_act 33 = .ok (.aload_n 0, 1) := by decide +kernel
theorem dX12_act_34 : decode cX12_act 34 = .ok (.iload_n 1, 1) := by decide +kernel
theorem dX12_act_35 : decode cX12_act 35 = .ok (.iload_n 3, 1) := by decide +kernel
theorem dX12_act_36 : decode cX12_act 36 = .ok (.invokevirtual 229, 3) := by decide +kernel
theorem dX12_act_39 : decode cX12_act 39 = .ok (.goto 37, 3) := by decide +kernel
theorem dX12_act_42 : decode cX12_act 42 = .ok (.iload_n 2, 1) := by decide +kernel
theorem dX12_act_43 : decode cX12_act 43 = .ok (.iconst 1, 1) := by decide +kernel
theorem dX12_act_44 : decode cX12_act 44 = .ok (.if_icmp .ne 12, 3) := by decide +kernel
theorem dX12_act_47 : decode cX12_act 47 = .ok (.aload_n 0, 1) := by decide +kernel
theorem dX12_act_48 : decode cX12_act 48 = .ok (.iload_n 1, 1) := by decide +kernel
theorem dX12_act_49 : decode cX12_act 49 = .ok (.iload_n 3, 1) := by decide +kernel
theorem dX12_act_50 : decode cX12_act 50 = .ok (.invokevirtual 232, 3) := by decide +kernel
theorem dX12_act_53 : decode cX12_act 53 = .ok (.goto 23, 3) := by decide +kernel
theorem dX12_act_56 : decode cX12_act 56 = .ok (.iload_n 2, 1) := by decide +kernel
theorem dX12_act_57 : decode cX12_act 57 = .ok (.iconst 2, 1) := by decide +kernel
theorem dX12_act_58 : decode cX12_act 58 = .ok (.if_icmp .ne 12, 3) := by decide +kernel
theorem dX12_act_61 : decode cX12_act 61 = .ok (.aload_n 0, 1) := by decide +kernel
theorem dX12_act_62 : decode cX12_act 62 = .ok (.iload_n 1, 1) := by decide +kernel
theorem dX12_act_63 : decode cX12_act 63 = .ok (.iload_n 3, 1) := by decide +kernel
theorem dX12_act_64 : decode cX12_act 64 = .ok (.invokevirtual 235, 3) := by decide +kernel
theorem dX12_act_67 : decode cX12_act 67 = .ok (.goto 9, 3) := by decide +kernel
theorem dX12_act_70 : decode cX12_act 70 = .ok (.aload_n 0, 1) := by decide +kernel
theorem dX12_act_71 : decode cX12_act 71 = .ok (.iload_n 1, 1) := by decide +kernel
theorem dX12_act_72 : decode cX12_act 72 = .ok (.iload_n 3, 1) := by decide +kernel
theorem dX12_act_73 : decode cX12_act 73 = .ok (.invokevirtual 241, 3) := by decide +kernel
theorem dX12_act_76 : decode cX12_act 76 = .ok (.invokevirtual 98, 3) := by decide +kernel
theorem dX12_act_79 : decode cX12_act 79 = .ok (.ireturn, 1) := by decide +kernel
set_option maxRecDepth 20000 in
theorem ggX12_trace_X12_in : GoodIn wsX12_trace wsX12_in := goodIn_r _ [6] (by decide +kernel) (by decide +kernel)
set_option maxRecDepth 20000 in
theorem gX12_trace_X12_in : GoodIn wsX12_trace (va_wsS RX12 72 yX12_in wsX12_in) := goodIn_app (goodIn_of _ (by decide +kernel)) ggX12_trace_X12_in
theorem dX12_trace_0 : decode cX12_trace 0 = .ok (.iload_n 1, 1) := by decide +kernel
theorem dX12_trace_1 : decode cX12_trace 1 = .ok (.iconst 0, 1) := by decide +kernel
theorem dX12_trace_2 : decode cX12_trace 2 = .ok (.aload_n 0, 1) := by decide +kernel
theorem dX12_trace_3 : decode cX12_trace 3 = .ok (.getfield 135, 3) := by decide +kernel
theorem dX12_trace_6 : decode cX12_trace 6 = .ok (.bipush 50, 2) := by decide +kernel
theorem dX12_trace_8 : decode cX12_trace 8 = .ok (.if_icmp .ge 10, 3) := by decide +kernel
theorem dX12_trace_11 : decode cX12_trace 11 = .ok (.aload_n 0, 1) := by decide +kernel
theorem dX12_trace_12 : decode cX12_trace 12 = .ok (.getfield 135, 3) := by decide +kernel
theorem dX12_trace_15 : decode cX12_trace 15 = .ok (.goto 5, 3) := by decide +kernel
theorem dX12_trace_18 : decode cX12_trace 18 = .ok (.bipush 50, 2) := by decide +kernel
theorem dX12_trace_20 : decode cX12_trace 20 = .ok (.iconst 1, 1) := by decide +kernel
theorem dX12_trace_21 : decode cX12_trace 21 = .ok (.isub, 1) := by decide +kernel
theorem dX12_trace_22 : decode cX12_trace 22 = .ok (.invokestatic 72, 3) := by decide +kernel
theorem dX12_trace_25 : decode cX12_trace 25 = .ok (.ifCond .eq 12, 3) := by decide +kernel
theorem dX12_trace_28 : decode cX12_trace 28 = .ok (.aload_n 0, 1) := by decide +kernel
theorem dX12_trace_29 : decode cX12_trace 29 = .ok (.getfield 37, 3) := by decide +kernel
theorem dX12_trace_32 : decode cX12_trace 32 = .ok (.iload_n 1, 1) := by decide +kernel
theorem dX12_trace_33 : decode cX12_trace 33 = .ok (.iaload, 1) := by decide +kernel
theorem dX12_trace_34 : decode cX12_trace 34 = .ok (.goto 4, 3) := by decide +kernel
theorem dX12_trace_37 : decode cX12_trace 37 = .ok (.iconst (-1), 1) := by decide +kernel
theorem dX12_trace_38 : decode cX12_trace 38 = .ok (.ireturn, 1) := by decide +kernel
set_option maxRecDepth 20000 in
theorem ggX12_map_X12_in : GoodIn wsX12_map wsX12_in := goodIn_r _ [7] (by decide +kernel) (by decide +kernel)
set_option maxRecDepth 20000 in
theorem gX12_map_X12_in : GoodIn wsX12_map (va_wsS RX12 72 yX12_in wsX12_in) := goodIn_app (goodIn_of _ (by decide +kernel)) ggX12_map_X12_in
set_option maxRecDepth 20000 in
theorem ggX12_map_X12_refused : GoodIn wsX12_map wsX12_refused := goodIn_r _ [11, 12, 17, 18, 19, 20, 21, 22, 23, 24, 25, 26, 27, 28, 29, 30, 31, 32, 33, 34, 35, 36, 37, 38, 39, 40, 41, 42, 43, 44, 45, 46, 47, 48] (by decide +kernel) (by decide +kernel)
set_option maxRecDepth 20000 in
theorem gX12_map_X12_refused : GoodIn wsX12_map (wsV RX12 90 RX12 yX12_refused wsX12_refused) := goodIn_app (goodIn_of _ (by decide +kernel)) ggX12_map_X12_refused
set_option maxRecDepth 20000 in
theorem ggX12_map_X12_done : GoodIn wsX12_map wsX12_done := goodIn_r _ [16, 12, 17, 18, 19, 20, 21, 22, 23, 24, 25, 26, 27, 28, 29, 30, 31, 32, 33, 34, 35, 36, 37, 38, 39, 40, 41, 42, 43, 44, 45, 46, 47, 48] (by decide +kernel) (by decide +kernel)
set_option maxRecDepth 20000 in
theorem gX12_map_X12_done : GoodIn wsX12_map (wsV RX12 98 RX12 yX12_done wsX12_done) := goodIn_app (goodIn_of _ (by decide +kernel)) ggX12_map_X12_done
theorem dX12_map_0 : decode cX12_map 0 = .ok (.iload_n 1, 1) := by decide +kernel
theorem dX12_map_1 : decode cX12_map 1 = .ok (.iconst 0, 1) := by decide +kernel
theorem dX12_map_2 : decode cX12_map 2 = .ok (.iconst 4, 1) := by decide +kernel
theorem dX12_map_3 : decode cX12_map 3 = .ok (.invokestatic 72, 3) := by decide +kernel
theorem dX12_map_6 : decode cX12_map 6 = .ok (.ifCond .eq 27, 3) := by decide +kernel
theorem dX12_map_9 : decode cX12_map 9 = .ok (.iload_n 2, 1) := by decide +kernel
theorem dX12_map_10 : decode cX12_map 10 = .ok (.iconst (-1), 1) := by decide +kernel
theorem dX12_map_11 : decode cX12_map 11 = .ok (.iconst 2, 1) := by decide +kernel
theorem dX12_map_12 : decode cX12_map 12 = .ok (.invokestatic 72, 3) := by decide +kernel
theorem dX12_map_15 : decode cX12_map 15 = .ok (.ifCond .eq 18, 3) := by decide +kernel
theorem dX12_map_18 : decode cX12_map 18 = .ok (.iload_n 2, 1) := by decide +kernel
theorem dX12_map_19 : decode cX12_map 19 = .ok (.iconst (-1), 1) := by decide +kernel
theorem dX12_map_20 : decode cX12_map 20 = .ok (.if_icmp .eq 19, 3) := by decide +kernel
theorem dX12_map_23 : decode cX12_map 23 = .ok (.iload_n 3, 1) := by decide +kernel
theorem dX12_map_24 : decode cX12_map 24 = .ok (.iconst 0, 1) := by decide +kernel
theorem dX12_map_25 : decode cX12_map 25 = .ok (.bipush 20, 2) := by decide +kernel
theorem dX12_map_27 : decode cX12_map 27 = .ok (.invokestatic 72, 3) := by decide +kernel
theorem dX12_map_30 : decode cX12_map 30 = .ok (.ifCond .ne 9, 3) := by decide +kernel
theorem dX12_map_33 : decode cX12_map 33 = .ok (.aload_n 0, 1) := by decide +kernel
theorem dX12_map_34 : decode cX12_map 34 = .ok (.iconst 1, 1) := by decide +kernel
theorem dX12_map_35 : decode cX12_map 35 = .ok (.invokevirtual 90, 3) := by decide +kernel
theorem dX12_map_38 : decode cX12_map 38 = .ok (.ireturn, 1) := by decide +kernel
theorem dX12_map_39 : decode cX12_map 39 = .ok (.aload_n 0, 1) := by decide +kernel
theorem dX12_map_40 : decode cX12_map 40 = .ok (.getfield 28, 3) := by decide +kernel
theorem dX12_map_43 : decode cX12_map 43 = .ok (.iload_n 1, 1) := by decide +kernel
theorem dX12_map_44 : decode cX12_map 44 = .ok (.iload_n 2, 1) := by decide +kernel
theorem dX12_map_45 : decode cX12_map 45 = .ok (.iastore, 1) := by decide +kernel
theorem dX12_map_46 : decode cX12_map 46 = .ok (.aload_n 0, 1) := by decide +kernel
theorem dX12_map_47 : decode cX12_map 47 = .ok (.getfield 31, 3) := by decide +kernel
theorem dX12_map_50 : decode cX12_map 50 = .ok (.iload_n 1, 1) := by decide +kernel
theorem dX12_map_51 : decode cX12_map 51 = .ok (.iload_n 2, 1) := by decide +kernel
theorem dX12_map_52 : decode cX12_map 52 = .ok (.iconst (-1), 1) := by decide +kernel
theorem dX12_map_53 : decode cX12_map 53 = .ok (.if_icmp .ne 7, 3) := by decide +kernel
theorem dX12_map_56 : decode cX12_map 56 = .ok (.iconst 0, 1) := by decide +kernel
theorem dX12_map_57 : decode cX12_map 57 = .ok (.goto 4, 3) := by decide +kernel
theorem dX12_map_60 : decode cX12_map 60 = .ok (.iload_n 3, 1) := by decide +kernel
theorem dX12_map_61 : decode cX12_map 61 = .ok (.iastore, 1) := by decide +kernel
theorem dX12_map_62 : decode cX12_map 62 = .ok (.iconst 0, 1) := by decide +kernel
theorem dX12_map_63 : decode cX12_map 63 = .ok (.istore 4, 2) := by decide +kernel
theorem dX12_map_65 : decode cX12_map 65 = .ok (.iload 4, 2) := by decide +kernel
theorem dX12_map_67 : decode cX12_map 67 = .ok (.bipush 20, 2) := by decide +kernel
theorem dX12_map_69 : decode cX12_map 69 = .ok (.if_icmp .ge 22, 3) := by decide +kernel
theorem dX12_map_72 : decode cX12_map 72 = .ok (.aload_n 0, 1) := by decide +kernel
theorem dX12_map_73 : decode cX12_map 73 = .ok (.getfield 34, 3) := by decide +kernel
theorem dX12_map_76 : decode cX12_map 76 = .ok (.bipush 20, 2) := by decide +kernel
theorem dX12_map_78 : decode cX12_map 78 = .ok (.iload_n 1, 1) := by decide +kernel
theorem dX12_map_79 : decode cX12_map 79 = .ok (.imul, 1) := by decide +kernel
theorem dX12_map_80 : decode cX12_map 80 = .ok (.iload 4, 2) := by decide +kernel
theorem dX12_map_82 : decode cX12_map 82 = .ok (.iadd, 1) := by decide +kernel
theorem dX12_map_83 : decode cX12_map 83 = .ok (.iconst 0, 1) := by decide +kernel
theorem dX12_map_84 : decode cX12_map 84 = .ok (.iastore, 1) := by decide +kernel
theorem dX12_map_85 : decode cX12_map 85 = .ok (.iinc 4 1, 3) := by decide +kernel
theorem dX12_map_88 : decode cX12_map 88 = .ok (.goto (-23), 3) := by decide +kernel
theorem dX12_map_91 : decode cX12_map 91 = .ok (.aload_n 0, 1) := by decide +kernel
theorem dX12_map_92 : decode cX12_map 92 = .ok (.iconst 1, 1) := by decide +kernel
theorem dX12_map_93 : decode cX12_map 93 = .ok (.invokevirtual 98, 3) := by decide +kernel
theorem dX12_map_96 : decode cX12_map 96 = .ok (.ireturn, 1) := by decide +kernel
set_option maxRecDepth 20000 in
theorem ggX12_cell_X12_in : GoodIn wsX12_cell wsX12_in := goodIn_r _ [7] (by decide +kernel) (by decide +kernel)
set_option maxRecDepth 20000 in
theorem gX12_cell_X12_in : GoodIn wsX12_cell (va_wsS RX12 72 yX12_in wsX12_in) := goodIn_app (goodIn_of _ (by decide +kernel)) ggX12_cell_X12_in
set_option maxRecDepth 20000 in
theorem ggX12_cell_X12_refused : GoodIn wsX12_cell wsX12_refused := goodIn_r _ [11, 12, 17, 18, 19, 20, 21, 22, 23, 24, 25, 26, 27, 28, 29, 30, 31, 32, 33, 34, 35, 36, 37, 38, 39, 40, 41, 42, 43, 44, 45, 46, 47, 48] (by decide +kernel) (by decide +kernel)
set_option maxRecDepth 20000 in
theorem gX12_cell_X12_refused : GoodIn wsX12_cell (wsV RX12 90 RX12 yX12_refused wsX12_refused) := goodIn_app (goodIn_of _ (by decide +kernel)) ggX12_cell_X12_refused
set_option maxRecDepth 20000 in
theorem ggX12_cell_X12_done : GoodIn wsX12_cell wsX12_done := goodIn_r _ [16, 12, 17, 18, 19, 20, 21, 22, 23, 24, 25, 26, 27, 28, 29, 30, 31, 32, 33, 34, 35, 36, 37, 38, 39, 40, 41, 42, 43, 44, 45, 46, 47, 48] (by decide +kernel) (by decide +kernel)
set_option maxRecDepth 20000 in
theorem gX12_cell_X12_done : GoodIn wsX12_cell (wsV RX12 98 RX12 yX12_done wsX12_done) := goodIn_app (goodIn_of _ (by decide +kernel)) ggX12_cell_X12_done
theorem dX12_cell_0 : decode cX12_cell 0 = .ok (.iload_n 1, 1) := by decide +kernel
theorem dX12_cell_1 : decode cX12_cell 1 = .ok (.iconst 0, 1) := by decide +kernel
theorem dX12_cell_2 : decode cX12_cell 2 = .ok (.iconst 4, 1) := by decide +kernel
theorem dX12_cell_3 : decode cX12_cell 3 = .ok (.invokestatic 72, 3) := by decide +kernel
theorem dX12_cell_6 : decode cX12_cell 6 = .ok (.ifCond .ne 9, 3) := by decide +kernel
theorem dX12_cell_9 : decode cX12_cell 9 = .ok (.aload_n 0, 1) := by decide +kernel
theorem dX12_cell_10 : decode cX12_cell 10 = .ok (.iconst 1, 1) := by decide +kernel
theorem dX12_cell_11 : decode cX12_cell 11 = .ok (.invokevirtual 90, 3) := by decide +kernel
theorem dX12_cell_14 : decode cX12_cell 14 = .ok (.ireturn, 1) := by decide +kernel
theorem dX12_cell_15 : decode cX12_cell 15 = .ok (.aload_n 0, 1) := by decide +kernel
theorem dX12_cell_16 : decode cX12_cell 16 = .ok (.getfield 28, 3) := by decide +kernel
theorem dX12_cell_19 : decode cX12_cell 19 = .ok (.iload_n 1, 1) := by decide +kernel
theorem dX12_cell_20 : decode cX12_cell 20 = .ok (.iaload, 1) := by decide +kernel
theorem dX12_cell_21 : decode cX12_cell 21 = .ok (.iconst (-1), 1) := by decide +kernel
theorem dX12_cell_22 : decode cX12_cell 22 = .ok (.if_icmp .ne 10, 3) := by decide +kernel
theorem dX12_cell_25 : decode cX12_cell 25 = .ok (.aload_n 0, 1) := by decide +kernel
theorem dX12_cell_26 : decode cX12_cell 26 = .ok (.bipush 10, 2) := by decide +kernel
theorem dX12_cell_28 : decode cX12_cell 28 = .ok (.invokevirtual 90, 3) := by decide +kernel
theorem dX12_cell_31 : decode cX12_cell 31 = .ok (.ireturn, 1) := by decide +kernel
theorem dX12_cell_32 : decode cX12_cell 32 = .ok (.iload_n 2, 1) := by decide +kernel
theorem dX12_cell_33 : decode cX12_cell 33 = .ok (.iconst 0, 1) := by decide +kernel
theorem dX12_cell_34 : decode cX12_cell 34 = .ok (.aload_n 0, 1) := by decide +kernel
theorem dX12_cell_35 : decode cX12_cell 35 = .ok (.getfield 31, 3) := by decide +kernel
theorem dX12_cell_38 : decode cX12_cell 38 = .ok (.iload_n 1, 1) := by decide +kernel
theorem dX12_cell_39 : decode cX12_cell 39 = .ok (.iaload, 1) := by decide +kernel
theorem dX12_cell_40 : decode cX12_cell 40 = .ok (.iconst 1, 1) := by decide +kernel
theorem dX12_cell_41 : decode cX12_cell 41 = .ok (.isub, 1) := by decide +kernel
theorem dX12_cell_42 : decode cX12_cell 42 = .ok (.invokestatic 72, 3) := by decide +kernel
theorem dX12_cell_45 : decode cX12_cell 45 = .ok (.ifCond .ne 10, 3) := by decide +kernel
theorem dX12_cell_48 : decode cX12_cell 48 = .ok (.aload_n 0, 1) := by decide +kernel
theorem dX12_cell_49 : decode cX12_cell 49 = .ok (.bipush 12, 2) := by decide +kernel
theorem dX12_cell_51 : decode cX12_cell 51 = .ok (.invokevirtual 90, 3) := by decide +kernel
theorem dX12_cell_54 : decode cX12_cell 54 = .ok (.ireturn, 1) := by decide +kernel
theorem dX12_cell_55 : decode cX12_cell 55 = .ok (.aload_n 0, 1) := by decide +kernel
theorem dX12_cell_56 : decode cX12_cell 56 = .ok (.getfield 34, 3) := by decide +kernel
theorem dX12_cell_59 : decode cX12_cell 59 = .ok (.bipush 20, 2) := by decide +kernel
theorem dX12_cell_61 : decode cX12_cell 61 = .ok (.iload_n 1, 1) := by decide +kernel
theorem dX12_cell_62 : decode cX12_cell 62 = .ok (.imul, 1) := by decide +kernel
theorem dX12_cell_63 : decode cX12_cell 63 = .ok (.iload_n 2, 1) := by decide +kernel
theorem dX12_cell_64 : decode cX12_cell 64 = .ok (.iadd, 1) := by decide +kernel
theorem dX12_cell_65 : decode cX12_cell 65 = .ok (.aload_n 0, 1) := by decide +kernel
theorem dX12_cell_66 : decode cX12_cell 66 = .ok (.getfield 28, 3) := by decide +kernel
theorem dX12_cell_69 : decode cX12_cell 69 = .ok (.iload_n 1, 1) := by decide +kernel
theorem dX12_cell_70 : decode cX12_cell 70 = .ok (.iaload, 1) := by decide +kernel
theorem dX12_cell_71 : decode cX12_cell 71 = .ok (.ifCond .ne 8, 3) := by decide +kernel
theorem dX12_cell_74 : decode cX12_cell 74 = .ok (.iload_n 3, 1) := by decide +kernel
theorem dX12_cell_75 : decode cX12_cell 75 = .ok (.i2b, 1) := by decide +kernel
theorem dX12_cell_76 : decode cX12_cell 76 = .ok (.goto 4, 3) := by decide +kernel
theorem dX12_cell_79 : decode cX12_cell 79 = .ok (.iload_n 3, 1) := by decide +kernel
theorem dX12_cell_80 : decode cX12_cell 80 = .ok (.iastore, 1) := by decide +kernel
theorem dX12_cell_81 : decode cX12_cell 81 = .ok (.aload_n 0, 1) := by decide +kernel
theorem dX12_cell_82 : decode cX12_cell 82 = .ok (.iconst 1, 1) := by decide +kernel
theorem dX12_cell_83 : decode cX12_cell 83 = .ok (.invokevirtual 98, 3) := by decide +kernel
theorem dX12_cell_86 : decode cX12_cell 86 = .ok (.ireturn, 1) := by decide +kernel
set_option maxRecDepth 20000 in
theorem ggX12_fromMap_X12_in : GoodIn wsX12_fromMap wsX12_in := goodIn_r _ [8] (by decide +kernel) (by decide +kernel)
set_option maxRecDepth 20000 in
theorem gX12_fromMap_X12_in : GoodIn wsX12_fromMap (va_wsS RX12 72 yX12_in wsX12_in) := goodIn_app (goodIn_of _ (by decide +kernel)) ggX12_fromMap_X12_in
set_option maxRecDepth 20000 in
theorem ggX12_fromMap_X12_refused : GoodIn wsX12_fromMap wsX12_refused := goodIn_r _ [12, 13, 42, 43, 44, 45, 46, 47, 48, 49, 50, 51, 52, 53, 54, 55, 56, 57, 58, 59, 60, 61, 62, 63, 64, 65, 66, 67, 68, 69, 70, 71, 72, 73] (by decide +kernel) (by decide +kernel)
set_option maxRecDepth 20000 in
theorem gX12_fromMap_X12_refused : GoodIn wsX12_fromMap (wsV RX12 90 RX12 yX12_refused wsX12_refused) := goodIn_app (goodIn_of _ (by decide +kernel)) ggX12_fromMap_X12_refused
set_option maxRecDepth 20000 in
theorem ggX12_fromMap_X12_isGood : GoodIn wsX12_fromMap wsX12_isGood := goodIn_r _ [17, 18, 19, 20, 7, 21, 22, 5, 6, 8, 42, 43, 44, 45, 46, 47, 48, 49, 50, 51, 52, 53, 54, 55, 56, 57, 58, 59, 60, 61, 62, 63, 64, 65, 66, 67, 68, 69, 70, 71, 72, 73] (by decide +kernel) (by decide +kernel)
set_option maxRecDepth 20000 in
theorem gX12_fromMap_X12_isGood : GoodIn wsX12_fromMap (wsV RX12 107 RX12 yX12_isGood wsX12_isGood) := goodIn_app (goodIn_of _ (by decide +kernel)) ggX12_fromMap_X12_isGood
set_option maxRecDepth 20000 in
theorem ggX12_fromMap_X12_made : GoodIn wsX12_fromMap wsX12_made := goodIn_r _ [26, 27, 1, 28, 29, 30, 31, 32, 33, 7, 34, 35, 36, 37, 38, 39, 40, 41, 13, 42, 43, 44, 45, 46, 47, 48, 49, 50, 51, 52, 53, 54, 55, 56, 57, 58, 59, 60, 61, 62, 63, 64, 65, 66, 67, 68, 69, 70, 71, 72, 73] (by decide +kernel) (by decide +kernel)
set_option maxRecDepth 20000 in
theorem gX12_fromMap_X12_made : GoodIn wsX12_fromMap (wsV RX12 110 RX12 yX12_made wsX12_made) := goodIn_app (goodIn_of _ (by decide +kernel)) ggX12_fromMap_X12_made
theorem dX12_fromMap_0 : decode cX12_fromMap 0 = .ok (.iload_n 1, 1) := by decide +kernel
theorem dX12_fromMap_1 : decode cX12_fromMap 1 = .ok (.iconst 0, 1) := by decide +kernel
theorem dX12_fromMap_2 : decode cX12_fromMap 2 = .ok (.iconst 4, 1) := by decide +kernel
theorem dX12_fromMap_3 : decode cX12_fromMap 3 = .ok (.invokestatic 72, 3) := by decide +kernel
theorem dX12_fromMap_6 : decode cX12_fromMap 6 = .ok (.ifCond .eq 12, 3) := by decide +kernel
theorem dX12_fromMap_9 : decode cX12_fromMap 9 = .ok (.iload_n 2, 1) := by decide +kernel
theorem dX12_fromMap_10 : decode cX12_fromMap 10 = .ok (.iconst 0, 1) := by decide +kernel
theorem dX12_fromMap_11 : decode cX12_fromMap 11 = .ok (.iconst 2, 1) := by decide +kernel
theorem dX12_fromMap_12 : decode cX12_fromMap 12 = .ok (.invokestatic 72, 3) := by decide +kernel
theorem dX12_fromMap_15 : decode cX12_fromMap 15 = .ok (.ifCond .ne 9, 3) := by decide +kernel
theorem dX12_fromMap_18 : decode cX12_fromMap 18 = .ok (.aload_n 0, 1) := by decide +kernel
theorem dX12_fromMap_19 : decode cX12_fromMap 19 = .ok (.iconst 1, 1) := by decide +kernel
theorem dX12_fromMap_20 : decode cX12_fromMap 20 = .ok (.invokevirtual 90, 3) := by decide +kernel
theorem dX12_fromMap_23 : decode cX12_fromMap 23 = .ok (.ireturn, 1) := by decide +kernel
theorem dX12_fromMap_24 : decode cX12_fromMap 24 = .ok (.aload_n 0, 1) := by decide +kernel
theorem dX12_fromMap_25 : decode cX12_fromMap 25 = .ok (.getfield 76, 3) := by decide +kernel
theorem dX12_fromMap_28 : decode cX12_fromMap 28 = .ok (.bipush 16, 2) := by decide +kernel
theorem dX12_fromMap_30 : decode cX12_fromMap 30 = .ok (.if_icmp .ne 9, 3) := by decide +kernel
theorem dX12_fromMap_33 : decode cX12_fromMap 33 = .ok (.aload_n 0, 1) := by decide +kernel
theorem dX12_fromMap_34 : decode cX12_fromMap 34 = .ok (.iconst 2, 1) := by decide +kernel
theorem dX12_fromMap_35 : decode cX12_fromMap 35 = .ok (.invokevirtual 90, 3) := by decide +kernel
theorem dX12_fromMap_38 : decode cX12_fromMap 38 = .ok (.ireturn, 1) := by decide +kernel
theorem dX12_fromMap_39 : decode cX12_fromMap 39 = .ok (.aload_n 0, 1) := by decide +kernel
theorem dX12_fromMap_40 : decode cX12_fromMap 40 = .ok (.getfield 28, 3) := by decide +kernel
theorem dX12_fromMap_43 : decode cX12_fromMap 43 = .ok (.iload_n 1, 1) := by decide +kernel
theorem dX12_fromMap_44 : decode cX12_fromMap 44 = .ok (.iaload, 1) := by decide +kernel
theorem dX12_fromMap_45 : decode cX12_fromMap 45 = .ok (.iconst (-1), 1) := by decide +kernel
theorem dX12_fromMap_46 : decode cX12_fromMap 46 = .ok (.if_icmp .ne 10, 3) := by decide +kernel
theorem dX12_fromMap_49 : decode cX12_fromMap 49 = .ok (.aload_n 0, 1) := by decide +kernel
theorem dX12_fromMap_50 : decode cX12_fromMap 50 = .ok (.bipush 10, 2) := by decide +kernel
theorem dX12_fromMap_52 : decode cX12_fromMap 52 = .ok (.invokevirtual 90, 3) := by decide +kernel
theorem dX12_fromMap_55 : decode cX12_fromMap 55 = .ok (.ireturn, 1) := by decide +kernel
theorem dX12_fromMap_56 : decode cX12_fromMap 56 = .ok (.aload_n 0, 1) := by decide +kernel
theorem dX12_fromMap_57 : decode cX12_fromMap 57 = .ok (.getfield 28, 3) := by decide +kernel
theorem dX12_fromMap_60 : decode cX12_fromMap 60 = .ok (.iload_n 1, 1) := by decide +kernel
theorem dX12_fromMap_61 : decode cX12_fromMap 61 = .ok (.iaload, 1) := by decide +kernel
theorem dX12_fromMap_62 : decode cX12_fromMap 62 = .ok (.iload_n 2, 1) := by decide +kernel
theorem dX12_fromMap_63 : decode cX12_fromMap 63 = .ok (.if_icmp .eq 10, 3) := by decide +kernel
theorem dX12_fromMap_66 : decode cX12_fromMap 66 = .ok (.aload_n 0, 1) := by decide +kernel
theorem dX12_fromMap_67 : decode cX12_fromMap 67 = .ok (.bipush 11, 2) := by decide +kernel
theorem dX12_fromMap_69 : decode cX12_fromMap 69 = .ok (.invokevirtual 90, 3) := by decide +kernel
theorem dX12_fromMap_72 : decode cX12_fromMap 72 = .ok (.ireturn, 1) := by decide +kernel
theorem dX12_fromMap_73 : decode cX12_fromMap 73 = .ok (.iload_n 3, 1) := by decide +kernel
theorem dX12_fromMap_74 : decode cX12_fromMap 74 = .ok (.ifCond .lt 15, 3) := by decide +kernel
theorem dX12_fromMap_77 : decode cX12_fromMap 77 = .ok (.iload_n 3, 1) := by decide +kernel
theorem dX12_fromMap_78 : decode cX12_fromMap 78 = .ok (.aload_n 0, 1) := by decide +kernel
theorem dX12_fromMap_79 : decode cX12_fromMap 79 = .ok (.getfield 31, 3) := by decide +kernel
theorem dX12_fromMap_82 : decode cX12_fromMap 82 = .ok (.iload_n 1, 1) := by decide +kernel
theorem dX12_fromMap_83 : decode cX12_fromMap 83 = .ok (.iaload, 1) := by decide +kernel
theorem dX12_fromMap_84 : decode cX12_fromMap 84 = .ok (.iconst 3, 1) := by decide +kernel
theorem dX12_fromMap_85 : decode cX12_fromMap 85 = .ok (.isub, 1) := by decide +kernel
theorem dX12_fromMap_86 : decode cX12_fromMap 86 = .ok (.if_icmp .le 10, 3) := by decide +kernel
theorem dX12_fromMap_89 : decode cX12_fromMap 89 = .ok (.aload_n 0, 1) := by decide +kernel
theorem dX12_fromMap_90 : decode cX12_fromMap 90 = .ok (.bipush 12, 2) := by decide +kernel
theorem dX12_fromMap_92 : decode cX12_fromMap 92 = .ok (.invokevirtual 90, 3) := by decide +kernel
theorem dX12_fromMap_95 : decode cX12_fromMap 95 = .ok (.ireturn, 1) := by decide +kernel
theorem dX12_fromMap_96 : decode cX12_fromMap 96 = .ok (.bipush 20, 2) := by decide +kernel
theorem dX12_fromMap_98 : decode cX12_fromMap 98 = .ok (.iload_n 1, 1) := by decide +kernel
theorem dX12_fromMap_99 : decode cX12_fromMap 99 = .ok (.imul, 1) := by decide +kernel
theorem dX12_fromMap_100 : decode cX12_fromMap 100 = .ok (.iload_n 3, 1) := by decide +kernel
theorem dX12_fromMap_101 : decode cX12_fromMap 101 = .ok (.iadd, 1) := by decide +kernel
theorem dX12_fromMap_102 : decode cX12_fromMap 102 = .ok (.istore 4, 2) := by decide +kernel
theorem dX12_fromMap_104 : decode cX12_fromMap 104 = .ok (.aload_n 0, 1) := by decide +kernel
theorem dX12_fromMap_105 : decode cX12_fromMap 105 = .ok (.aload_n 0, 1) := by decide +kernel
theorem dX12_fromMap_106 : decode cX12_fromMap 106 = .ok (.getfield 34, 3) := by decide +kernel
theorem dX12_fromMap_109 : decode cX12_fromMap 109 = .ok (.iload 4, 2) := by decide +kernel
theorem dX12_fromMap_111 : decode cX12_fromMap 111 = .ok (.iaload, 1) := by decide +kernel
theorem dX12_fromMap_112 : decode cX12_fromMap 112 = .ok (.aload_n 0, 1) := by decide +kernel
theorem dX12_fromMap_113 : decode cX12_fromMap 113 = .ok (.getfield 34, 3) := by decide +kernel
theorem dX12_fromMap_116 : decode cX12_fromMap 116 = .ok (.iload 4, 2) := by decide +kernel
theorem dX12_fromMap_118 : decode cX12_fromMap 118 = .ok (.iconst 1, 1) := by decide +kernel
theorem dX12_fromMap_119 : decode cX12_fromMap 119 = .ok (.iadd, 1) := by decide +kernel
theorem dX12_fromMap_120 : decode cX12_fromMap 120 = .ok (.iaload, 1) := by decide +kernel
theorem dX12_fromMap_121 : decode cX12_fromMap 121 = .ok (.aload_n 0, 1) := by decide +kernel
theorem dX12_fromMap_122 : decode cX12_fromMap 122 = .ok (.getfield 34, 3) := by decide +kernel
theorem dX12_fromMap_125 : decode cX12_fromMap 125 = .ok (.iload 4, 2) := by decide +kernel
theorem dX12_fromMap_127 : decode cX12_fromMap 127 = .ok (.iconst 2, 1) := by decide +kernel
theorem dX12_fromMap_128 : decode cX12_fromMap 128 = .ok (.iadd, 1) := by decide +kernel
theorem dX12_fromMap_129 : decode cX12_fromMap 129 = .ok (.iaload, 1) := by decide +kernel
theorem dX12_fromMap_130 : decode cX12_fromMap 130 = .ok (.invokevirtual 107, 3) := by decide +kernel
theorem dX12_fromMap_133 : decode cX12_fromMap 133 = .ok (.ifCond .eq 35, 3) := by decide +kernel
theorem dX12_fromMap_136 : decode cX12_fromMap 136 = .ok (.aload_n 0, 1) := by decide +kernel
theorem dX12_fromMap_137 : decode cX12_fromMap 137 = .ok (.aload_n 0, 1) := by decide +kernel
theorem dX12_fromMap_138 : decode cX12_fromMap 138 = .ok (.getfield 34, 3) := by decide +kernel
theorem dX12_fromMap_141 : decode cX12_fromMap 141 = .ok (.iload 4, 2) := by decide +kernel
theorem dX12_fromMap_143 : decode cX12_fromMap 143 = .ok (.iaload, 1) := by decide +kernel
theorem dX12_fromMap_144 : decode cX12_fromMap 144 = .ok (.aload_n 0, 1) := by decide +kernel
theorem dX12_fromMap_145 : decode cX12_fromMap 145 = .ok (.getfield 34, 3) := by decide +kernel
theorem dX12_fromMap_148 : decode cX12_fromMap 148 = .ok (.iload 4, 2) := by decide +kernel
theorem dX12_fromMap_150 : decode cX12_fromMap 150 = .ok (.iconst 1, 1) := by decide +kernel
theorem dX12_fromMap_151 : decode cX12_fromMap 151 = .ok (.iadd, 1) := by decide +kernel
theorem dX12_fromMap_152 : decode cX12_fromMap 152 = .ok (.iaload, 1) := by decide +kernel
theorem dX12_fromMap_153 : decode cX12_fromMap 153 = .ok (.aload_n 0, 1) := by decide +kernel
theorem dX12_fromMap_154 : decode cX12_fromMap 154 = .ok (.getfield 34, 3) := by decide +kernel
theorem dX12_fromMap_157 : decode cX12_fromMap 157 = .ok (.iload 4, 2) := by decide +kernel
theorem dX12_fromMap_159 : decode cX12_fromMap 159 = .ok (.iconst 2, 1) := by decide +kernel
theorem dX12_fromMap_160 : decode cX12_fromMap 160 = .ok (.iadd, 1) := by decide +kernel
theorem dX12_fromMap_161 : decode cX12_fromMap 161 = .ok (.iaload, 1) := by decide +kernel
theorem dX12_fromMap_162 : decode cX12_fromMap 162 = .ok (.invokevirtual 110, 3) := by decide +kernel
theorem dX12_fromMap_165 : decode cX12_fromMap 165 = .ok (.goto 8, 3) := by decide +kernel
theorem dX12_fromMap_168 : decode cX12_fromMap 168 = .ok (.aload_n 0, 1) := by decide +kernel
theorem dX12_fromMap_169 : decode cX12_fromMap 169 = .ok (.iconst 3, 1) := by decide +kernel
theorem dX12_fromMap_170 : decode cX12_fromMap 170 = .ok (.invokevirtual 90, 3) := by decide +kernel
theorem dX12_fromMap_173 : decode cX12_fromMap 173 = .ok (.ireturn, 1) := by decide +kernel
theorem dX12_modulo_0 : decode cX12_modulo 0 = .ok (.iload_n 0, 1) := by decide +kernel
theorem dX12_modulo_1 : decode cX12_modulo 1 = .ok (.iload_n 1, 1) := by decide +kernel
theorem dX12_modulo_2 : decode cX12_modulo 2 = .ok (.irem, 1) := by decide +kernel
theorem dX12_modulo_3 : decode cX12_modulo 3 = .ok (.iload_n 1, 1) := by decide +kernel
theorem dX12_modulo_4 : decode cX12_modulo 4 = .ok (.iadd, 1) := by decide +kernel
theorem dX12_modulo_5 : decode cX12_modulo 5 = .ok (.iload_n 1, 1) := by decide +kernel
theorem dX12_modulo_6 : decode cX12_modulo 6 = .ok (.irem, 1) := by decide +kernel
theorem dX12_modulo_7 : decode cX12_modulo 7 = .ok (.ireturn, 1) := by decide +kernel
set_option maxRecDepth 20000 in
theorem ggX12_placeTaken_X12_isPlace : GoodIn wsX12_placeTaken wsX12_isPlace := goodIn_r _ [6, 7, 8, 9, 5, 10, 20, 21, 22, 23, 24, 25, 26, 27, 28, 29, 30, 31, 32, 33, 34, 35, 36, 37, 38, 39, 40, 41, 42, 43, 44, 45, 46, 47, 48, 49, 50, 51] (by decide +kernel) (by decide +kernel)
set_option maxRecDepth 20000 in
theorem gX12_placeTaken_X12_isPlace : GoodIn wsX12_placeTaken (wsV RX12 104 RX12 yX12_isPlace wsX12_isPlace) := goodIn_app (goodIn_of _ (by decide +kernel)) ggX12_placeTaken_X12_isPlace
set_option maxRecDepth 20000 in
theorem ggX12_placeTaken_X12_refused : GoodIn wsX12_placeTaken wsX12_refused := goodIn_r _ [14, 15, 20, 21, 22, 23, 24, 25, 26, 27, 28, 29, 30, 31, 32, 33, 34, 35, 36, 37, 38, 39, 40, 41, 42, 43, 44, 45, 46, 47, 48, 49, 50, 51] (by decide +kernel) (by decide +kernel)
set_option maxRecDepth 20000 in
theorem gX12_placeTaken_X12_refused : GoodIn wsX12_placeTaken (wsV RX12 90 RX12 yX12_refused wsX12_refused) := goodIn_app (goodIn_of _ (by decide +kernel)) ggX12_placeTaken_X12_refused
set_option maxRecDepth 20000 in
theorem ggX12_placeTaken_X12_done : GoodIn wsX12_placeTaken wsX12_done := goodIn_r _ [19, 15, 20, 21, 22, 23, 24, 25, 26, 27, 28, 29, 30, 31, 32, 33, 34, 35, 36, 37, 38, 39, 40, 41, 42, 43, 44, 45, 46, 47, 48, 49, 50, 51] (by decide +kernel) (by decide +kernel)
set_option maxRecDepth 20000 in
theorem gX12_placeTaken_X12_done : GoodIn wsX12_placeTaken (wsV RX12 98 RX12 yX12_done wsX12_done) := goodIn_app (goodIn_of _ (by decide +kernel)) ggX12_placeTaken_X12_done
theorem dX12_placeTaken_0 : decode cX12_placeTaken 0 = .ok (.aload_n 0, 1) := by decide +kernel
theorem dX12_placeTaken_1 : decode cX12_placeTaken 1 = .ok (.iload_n 1, 1) := by decide +kernel
theorem dX12_placeTaken_2 : decode cX12_placeTaken 2 = .ok (.invokevirtual 104, 3) := by decide +kernel
theorem dX12_placeTaken_5 : decode cX12_placeTaken 5 = .ok (.ifCond .ne 10, 3) := by decide +kernel
theorem dX12_placeTaken_8 : decode cX12_placeTaken 8 = .ok (.aload_n 0, 1) := by decide +kernel
theorem dX12_placeTaken_9 : decode cX12_placeTaken 9 = .ok (.bipush 10, 2) := by decide +kernel
theorem dX12_placeTaken_11 : decode cX12_placeTaken 11 = .ok (.invokevirtual 90, 3) := by decide +kernel
theorem dX12_placeTaken_14 : decode cX12_placeTaken 14 = .ok (.ireturn, 1) := by decide +kernel
theorem dX12_placeTaken_15 : decode cX12_placeTaken 15 = .ok (.iload_n 2, 1) := by decide +kernel
theorem dX12_placeTaken_16 : decode cX12_placeTaken 16 = .ok (.ifCond .eq 28, 3) := by decide +kernel
theorem dX12_placeTaken_19 : decode cX12_placeTaken 19 = .ok (.iload_n 2, 1) := by decide +kernel
theorem dX12_placeTaken_20 : decode cX12_placeTaken 20 = .ok (.aload_n 0, 1) := by decide +kernel
theorem dX12_placeTaken_21 : decode cX12_placeTaken 21 = .ok (.getfield 7, 3) := by decide +kernel
theorem dX12_placeTaken_24 : decode cX12_placeTaken 24 = .ok (.iload_n 1, 1) := by decide +kernel
theorem dX12_placeTaken_25 : decode cX12_placeTaken 25 = .ok (.iaload, 1) := by decide +kernel
theorem dX12_placeTaken_26 : decode cX12_placeTaken 26 = .ok (.if_icmp .eq 18, 3) := by decide +kernel
theorem dX12_placeTaken_29 : decode cX12_placeTaken 29 = .ok (.iload_n 2, 1) := by decide +kernel
theorem dX12_placeTaken_30 : decode cX12_placeTaken 30 = .ok (.iconst 1, 1) := by decide +kernel
theorem dX12_placeTaken_31 : decode cX12_placeTaken 31 = .ok (.if_icmp .ne 17, 3) := by decide +kernel
theorem dX12_placeTaken_34 : decode cX12_placeTaken 34 = .ok (.aload_n 0, 1) := by decide +kernel
theorem dX12_placeTaken_35 : decode cX12_placeTaken 35 = .ok (.getfield 7, 3) := by decide +kernel
theorem dX12_placeTaken_38 : decode cX12_placeTaken 38 = .ok (.iload_n 1, 1) := by decide +kernel
theorem dX12_placeTaken_39 : decode cX12_placeTaken 39 = .ok (.iaload, 1) := by decide +kernel
theorem dX12_placeTaken_40 : decode cX12_placeTaken 40 = .ok (.iconst 3, 1) := by decide +kernel
theorem dX12_placeTaken_41 : decode cX12_placeTaken 41 = .ok (.if_icmp .ne 7, 3) := by decide +kernel
theorem dX12_placeTaken_44 : decode cX12_placeTaken 44 = .ok (.iconst 1, 1) := by decide +kernel
theorem dX12_placeTaken_45 : decode cX12_placeTaken 45 = .ok (.goto 4, 3) := by decide +kernel
theorem dX12_placeTaken_48 : decode cX12_placeTaken 48 = .ok (.iconst 0, 1) := by decide +kernel
theorem dX12_placeTaken_49 : decode cX12_placeTaken 49 = .ok (.istore_n 3, 1) := by decide +kernel
theorem dX12_placeTaken_50 : decode cX12_placeTaken 50 = .ok (.iload_n 3, 1) := by decide +kernel
theorem dX12_placeTaken_51 : decode cX12_placeTaken 51 = .ok (.ifCond .eq 16, 3) := by decide +kernel
theorem dX12_placeTaken_54 : decode cX12_placeTaken 54 = .ok (.aload_n 0, 1) := by decide +kernel
theorem dX12_placeTaken_55 : decode cX12_placeTaken 55 = .ok (.aload_n 0, 1) := by decide +kernel
theorem dX12_placeTaken_56 : decode cX12_placeTaken 56 = .ok (.getfield 7, 3) := by decide +kernel
theorem dX12_placeTaken_59 : decode cX12_placeTaken 59 = .ok (.iload_n 1, 1) := by decide +kernel
theorem dX12_placeTaken_60 : decode cX12_placeTaken 60 = .ok (.iaload, 1) := by decide +kernel
theorem dX12_placeTaken_61 : decode cX12_placeTaken 61 = .ok (.invokevirtual 98, 3) := by decide +kernel
theorem dX12_placeTaken_64 : decode cX12_placeTaken 64 = .ok (.goto 9, 3) := by decide +kernel
theorem dX12_placeTaken_67 : decode cX12_placeTaken 67 = .ok (.aload_n 0, 1) := by decide +kernel
theorem dX12_placeTaken_68 : decode cX12_placeTaken 68 = .ok (.bipush 11, 2) := by decide +kernel
theorem dX12_placeTaken_70 : decode cX12_placeTaken 70 = .ok (.invokevirtual 90, 3) := by decide +kernel
theorem dX12_placeTaken_73 : decode cX12_placeTaken 73 = .ok (.ireturn, 1) := by decide +kernel
theorem dX12_copied_0 : decode cX12_copied 0 = .ok (.iconst 0, 1) := by decide +kernel
theorem dX12_copied_1 : decode cX12_copied 1 = .ok (.istore_n 3, 1) := by decide +kernel
theorem dX12_copied_2 : decode cX12_copied 2 = .ok (.iconst 1, 1) := by decide +kernel
theorem dX12_copied_3 : decode cX12_copied 3 = .ok (.istore 4, 2) := by decide +kernel
theorem dX12_copied_5 : decode cX12_copied 5 = .ok (.iload 4, 2) := by decide +kernel
theorem dX12_copied_7 : decode cX12_copied 7 = .ok (.iload_n 2, 1) := by decide +kernel
theorem dX12_copied_8 : decode cX12_copied 8 = .ok (.if_icmp .gt 24, 3) := by decide +kernel
theorem dX12_copied_11 : decode cX12_copied 11 = .ok (.iload_n 3, 1) := by decide +kernel
theorem dX12_copied_12 : decode cX12_copied 12 = .ok (.aload_n 0, 1) := by decide +kernel
theorem dX12_copied_13 : decode cX12_copied 13 = .ok (.getfield 34, 3) := by decide +kernel
theorem dX12_copied_16 : decode cX12_copied 16 = .ok (.bipush 20, 2) := by decide +kernel
theorem dX12_copied_18 : decode cX12_copied 18 = .ok (.iload_n 1, 1) := by decide +kernel
theorem dX12_copied_19 : decode cX12_copied 19 = .ok (.imul, 1) := by decide +kernel
theorem dX12_copied_20 : decode cX12_copied 20 = .ok (.iload 4, 2) := by decide +kernel
theorem dX12_copied_22 : decode cX12_copied 22 = .ok (.iadd, 1) := by decide +kernel
theorem dX12_copied_23 : decode cX12_copied 23 = .ok (.iaload, 1) := by decide +kernel
theorem dX12_copied_24 : decode cX12_copied 24 = .ok (.iadd, 1) := by decide +kernel
theorem dX12_copied_25 : decode cX12_copied 25 = .ok (.istore_n 3, 1) := by decide +kernel
theorem dX12_copied_26 : decode cX12_copied 26 = .ok (.iinc 4 1, 3) := by decide +kernel
theorem dX12_copied_29 : decode cX12_copied 29 = .ok (.goto (-24), 3) := by decide +kernel
theorem dX12_copied_32 : decode cX12_copied 32 = .ok (.iload_n 3, 1) := by decide +kernel
theorem dX12_copied_33 : decode cX12_copied 33 = .ok (.ireturn, 1) := by decide +kernel
set_option maxRecDepth 20000 in
theorem ggX12_forge_X12_in : GoodIn wsX12_forge wsX12_in := goodIn_r _ [8] (by decide +kernel) (by decide +kernel)
set_option maxRecDepth 20000 in
theorem gX12_forge_X12_in : GoodIn wsX12_forge (va_wsS RX12 72 yX12_in wsX12_in) := goodIn_app (goodIn_of _ (by decide +kernel)) ggX12_forge_X12_in
set_option maxRecDepth 20000 in
theorem ggX12_forge_X12_refused : GoodIn wsX12_forge wsX12_refused := goodIn_r _ [12, 13, 38, 39, 40, 41, 42, 43, 44, 45, 46, 47, 48, 49, 50, 51, 52, 53, 54, 55, 56, 57, 58, 59, 60, 61, 62, 63, 64, 65, 66, 67, 68, 69] (by decide +kernel) (by decide +kernel)
set_option maxRecDepth 20000 in
theorem gX12_forge_X12_refused : GoodIn wsX12_forge (wsV RX12 90 RX12 yX12_refused wsX12_refused) := goodIn_app (goodIn_of _ (by decide +kernel)) ggX12_forge_X12_refused
set_option maxRecDepth 20000 in
theorem ggX12_forge_X12_modulo : GoodIn wsX12_forge wsX12_modulo := goodIn_r _ [16] (by decide +kernel) (by decide +kernel)
set_option maxRecDepth 20000 in
theorem gX12_forge_X12_modulo : GoodIn wsX12_forge (va_wsS RX12 244 yX12_modulo wsX12_modulo) := goodIn_app (goodIn_of _ (by decide +kernel)) ggX12_forge_X12_modulo
set_option maxRecDepth 20000 in
theorem ggX12_forge_X12_placeTaken : GoodIn wsX12_forge wsX12_placeTaken := goodIn_r _ [20, 4, 21, 22, 23, 7, 24, 25, 5, 6, 8, 9, 10, 11, 12, 13, 26, 27, 28, 29, 38, 39, 40, 41, 42, 43, 44, 45, 46, 47, 48, 49, 50, 51, 52, 53, 54, 55, 56, 57, 58, 59, 60, 61, 62, 63, 64, 65, 66, 67, 68, 69] (by decide +kernel) (by decide +kernel)
set_option maxRecDepth 20000 in
theorem gX12_forge_X12_placeTaken : GoodIn wsX12_forge (wsV RX12 247 RX12 yX12_placeTaken wsX12_placeTaken) := goodIn_app (goodIn_of _ (by decide +kernel)) ggX12_forge_X12_placeTaken
set_option maxRecDepth 20000 in
theorem ggX12_forge_X12_done : GoodIn wsX12_forge wsX12_done := goodIn_r _ [29, 13, 38, 39, 40, 41, 42, 43, 44, 45, 46, 47, 48, 49, 50, 51, 52, 53, 54, 55, 56, 57, 58, 59, 60, 61, 62, 63, 64, 65, 66, 67, 68, 69] (by decide +kernel) (by decide +kernel)
set_option maxRecDepth 20000 in
theorem gX12_forge_X12_done : GoodIn wsX12_forge (wsV RX12 98 RX12 yX12_done wsX12_done) := goodIn_app (goodIn_of _ (by decide +kernel)) ggX12_forge_X12_done
set_option maxRecDepth 20000 in
theorem ggX12_forge_X12_copied : GoodIn wsX12_forge wsX12_copied := goodIn_r _ [33, 3, 38, 39, 40, 41, 42, 43, 44, 45, 46, 47, 48, 49, 50, 51, 52, 53, 54, 55, 56, 57, 58, 59, 60, 61, 62, 63, 64, 65, 66, 67, 68, 69] (by decide +kernel) (by decide +kernel)
set_option maxRecDepth 20000 in
theorem gX12_forge_X12_copied : GoodIn wsX12_forge (wsV RX12 250 RX12 yX12_copied wsX12_copied) := goodIn_app (goodIn_of _ (by decide +kernel)) ggX12_forge_X12_copied
set_option maxRecDepth 20000 in
theorem ggX12_forge_X12_isPlace : GoodIn wsX12_forge wsX12_isPlace := goodIn_r _ [24, 25, 5, 6, 7, 8, 38, 39, 40, 41, 42, 43, 44, 45, 46, 47, 48, 49, 50, 51, 52, 53, 54, 55, 56, 57, 58, 59, 60, 61, 62, 63, 64, 65, 66, 67, 68, 69] (by decide +kernel) (by decide +kernel)
set_option maxRecDepth 20000 in
theorem gX12_forge_X12_isPlace : GoodIn wsX12_forge (wsV RX12 104 RX12 yX12_isPlace wsX12_isPlace) := goodIn_app (goodIn_of _ (by decide +kernel)) ggX12_forge_X12_isPlace
set_option maxRecDepth 20000 in
theorem ggX12_forge_X12_isTap : GoodIn wsX12_forge wsX12_isTap := goodIn_r _ [37, 4, 38, 39, 40, 41, 42, 43, 44, 45, 46, 47, 48, 49, 50, 51, 52, 53, 54, 55, 56, 57, 58, 59, 60, 61, 62, 63, 64, 65, 66, 67, 68, 69] (by decide +kernel) (by decide +kernel)
set_option maxRecDepth 20000 in
theorem gX12_forge_X12_isTap : GoodIn wsX12_forge (wsV RX12 79 RX12 yX12_isTap wsX12_isTap) := goodIn_app (goodIn_of _ (by decide +kernel)) ggX12_forge_X12_isTap
theorem dX12_forge_0 : decode cX12_forge 0 = .ok (.iload_n 1, 1) := by decide +kernel
theorem dX12_forge_1 : decode cX12_forge 1 = .ok (.iconst 0, 1) := by decide +kernel
theorem dX12_forge_2 : decode cX12_forge 2 = .ok (.bipush 6, 2) := by decide +kernel
theorem dX12_forge_4 : decode cX12_forge 4 = .ok (.invokestatic 72, 3) := by decide +kernel
theorem dX12_forge_7 : decode cX12_forge 7 = .ok (.ifCond .eq 25, 3) := by decide +kernel
theorem dX12_forge_10 : decode cX12_forge 10 = .ok (.iload_n 2, 1) := by decide +kernel
theorem dX12_forge_11 : decode cX12_forge 11 = .ok (.bipush (-100), 2) := by decide +kernel
theorem dX12_forge_13 : decode cX12_forge 13 = .ok (.bipush 100, 2) := by decide +kernel
theorem dX12_forge_15 : decode cX12_forge 15 = .ok (.invokestatic 72, 3) := by decide +kernel
theorem dX12_forge_18 : decode cX12_forge 18 = .ok (.ifCond .eq 14, 3) := by decide +kernel
theorem dX12_forge_21 : decode cX12_forge 21 = .ok (.iload_n 3, 1) := by decide +kernel
theorem dX12_forge_22 : decode cX12_forge 22 = .ok (.bipush (-100), 2) := by decide +kernel
theorem dX12_forge_24 : decode cX12_forge 24 = .ok (.bipush 100, 2) := by decide +kernel
theorem dX12_forge_26 : decode cX12_forge 26 = .ok (.invokestatic 72, 3) := by decide +kernel
theorem dX12_forge_29 : decode cX12_forge 29 = .ok (.ifCond .ne 9, 3) := by decide +kernel
theorem dX12_forge_32 : decode cX12_forge 32 = .ok (.aload_n 0, 1) := by decide +kernel
theorem dX12_forge_33 : decode cX12_forge 33 = .ok (.iconst 1, 1) := by decide +kernel
theorem dX12_forge_34 : decode cX12_forge 34 = .ok (.invokevirtual 90, 3) := by decide +kernel
theorem dX12_forge_37 : decode cX12_forge 37 = .ok (.ireturn, 1) := by decide +kernel
theorem dX12_forge_38 : decode cX12_forge 38 = .ok (.iload_n 3, 1) := by decide +kernel
theorem dX12_forge_39 : decode cX12_forge 39 = .ok (.iconst 5, 1) := by decide +kernel
theorem dX12_forge_40 : decode cX12_forge 40 = .ok (.invokestatic 244, 3) := by decide +kernel
theorem dX12_forge_43 : decode cX12_forge 43 = .ok (.istore 4, 2) := by decide +kernel
theorem dX12_forge_45 : decode cX12_forge 45 = .ok (.iload_n 3, 1) := by decide +kernel
theorem dX12_forge_46 : decode cX12_forge 46 = .ok (.bipush 10, 2) := by decide +kernel
theorem dX12_forge_48 : decode cX12_forge 48 = .ok (.invokestatic 244, 3) := by decide +kernel
theorem dX12_forge_51 : decode cX12_forge 51 = .ok (.istore 5, 2) := by decide +kernel
theorem dX12_forge_53 : decode cX12_forge 53 = .ok (.iload_n 1, 1) := by decide +kernel
theorem dX12_forge_54 : decode cX12_forge 54 = .ok (.tableswitch 304 0 5 #[38, 50, 69, 152, 234, 281], 38) := by decide +kernel
theorem dX12_forge_92 : decode cX12_forge 92 = .ok (.aload_n 0, 1) := by decide +kernel
theorem dX12_forge_93 : decode cX12_forge 93 = .ok (.iload 5, 2) := by decide +kernel
theorem dX12_forge_95 : decode cX12_forge 95 = .ok (.iload_n 2, 1) := by decide +kernel
theorem dX12_forge_96 : decode cX12_forge 96 = .ok (.iconst 5, 1) := by decide +kernel
theorem dX12_forge_97 : decode cX12_forge 97 = .ok (.invokestatic 244, 3) := by decide +kernel
theorem dX12_forge_100 : decode cX12_forge 100 = .ok (.invokevirtual 247, 3) := by decide +kernel
theorem dX12_forge_103 : decode cX12_forge 103 = .ok (.ireturn, 1) := by decide +kernel
theorem dX12_forge_104 : decode cX12_forge 104 = .ok (.iload_n 2, 1) := by decide +kernel
theorem dX12_forge_105 : decode cX12_forge 105 = .ok (.ifCond .ge 12, 3) := by decide +kernel
theorem dX12_forge_108 : decode cX12_forge 108 = .ok (.aload_n 0, 1) := by decide +kernel
theorem dX12_forge_109 : decode cX12_forge 109 = .ok (.bipush 13, 2) := by decide +kernel
theorem dX12_forge_111 : decode cX12_forge 111 = .ok (.invokevirtual 90, 3) := by decide +kernel
theorem dX12_forge_114 : decode cX12_forge 114 = .ok (.goto 8, 3) := by decide +kernel
theorem dX12_forge_117 : decode cX12_forge 117 = .ok (.aload_n 0, 1) := by decide +kernel
theorem dX12_forge_118 : decode cX12_forge 118 = .ok (.iload_n 2, 1) := by decide +kernel
theorem dX12_forge_119 : decode cX12_forge 119 = .ok (.invokevirtual 98, 3) := by decide +kernel
theorem dX12_forge_122 : decode cX12_forge 122 = .ok (.ireturn, 1) := by decide +kernel
theorem dX12_forge_123 : decode cX12_forge 123 = .ok (.aload_n 0, 1) := by decide +kernel
theorem dX12_forge_124 : decode cX12_forge 124 = .ok (.getfield 28, 3) := by decide +kernel
theorem dX12_forge_127 : decode cX12_forge 127 = .ok (.iload 4, 2) := by decide +kernel
theorem dX12_forge_129 : decode cX12_forge 129 = .ok (.iaload, 1) := by decide +kernel
theorem dX12_forge_130 : decode cX12_forge 130 = .ok (.iconst (-1), 1) := by decide +kernel
theorem dX12_forge_131 : decode cX12_forge 131 = .ok (.if_icmp .ne 12, 3) := by decide +kernel
theorem dX12_forge_134 : decode cX12_forge 134 = .ok (.aload_n 0, 1) := by decide +kernel
theorem dX12_forge_135 : decode cX12_forge 135 = .ok (.bipush 10, 2) := by decide +kernel
theorem dX12_forge_137 : decode cX12_forge 137 = .ok (.invokevirtual 90, 3) := by decide +kernel
theorem dX12_forge_140 : decode cX12_forge 140 = .ok (.goto 65, 3) := by decide +kernel
theorem dX12_forge_143 : decode cX12_forge 143 = .ok (.aload_n 0, 1) := by decide +kernel
theorem dX12_forge_144 : decode cX12_forge 144 = .ok (.getfield 28, 3) := by decide +kernel
theorem dX12_forge_147 : decode cX12_forge 147 = .ok (.iload 4, 2) := by decide +kernel
theorem dX12_forge_149 : decode cX12_forge 149 = .ok (.iaload, 1) := by decide +kernel
theorem dX12_forge_150 : decode cX12_forge 150 = .ok (.iconst 1, 1) := by decide +kernel
theorem dX12_forge_151 : decode cX12_forge 151 = .ok (.if_icmp .eq 12, 3) := by decide +kernel
theorem dX12_forge_154 : decode cX12_forge 154 = .ok (.aload_n 0, 1) := by decide +kernel
theorem dX12_forge_155 : decode cX12_forge 155 = .ok (.bipush 11, 2) := by decide +kernel
theorem dX12_forge_157 : decode cX12_forge 157 = .ok (.invokevirtual 90, 3) := by decide +kernel
theorem dX12_forge_160 : decode cX12_forge 160 = .ok (.goto 45, 3) := by decide +kernel
theorem dX12_forge_163 : decode cX12_forge 163 = .ok (.iload_n 2, 1) := by decide +kernel
theorem dX12_forge_164 : decode cX12_forge 164 = .ok (.iconst 0, 1) := by decide +kernel
theorem dX12_forge_165 : decode cX12_forge 165 = .ok (.aload_n 0, 1) := by decide +kernel
theorem dX12_forge_166 : decode cX12_forge 166 = .ok (.getfield 31, 3) := by decide +kernel
theorem dX12_forge_169 : decode cX12_forge 169 = .ok (.iload 4, 2) := by decide +kernel
theorem dX12_forge_171 : decode cX12_forge 171 = .ok (.iaload, 1) := by decide +kernel
theorem dX12_forge_172 : decode cX12_forge 172 = .ok (.iconst 1, 1) := by decide +kernel
theorem dX12_forge_173 : decode cX12_forge 173 = .ok (.isub, 1) := by decide +kernel
theorem dX12_forge_174 : decode cX12_forge 174 = .ok (.invokestatic 72, 3) := by decide +kernel
theorem dX12_forge_177 : decode cX12_forge 177 = .ok (.ifCond .eq 22, 3) := by decide +kernel
theorem dX12_forge_180 : decode cX12_forge 180 = .ok (.aload_n 0, 1) := by decide +kernel
theorem dX12_forge_181 : decode cX12_forge 181 = .ok (.aload_n 0, 1) := by decide +kernel
theorem dX12_forge_182 : decode cX12_forge 182 = .ok (.getfield 34, 3) := by decide +kernel
theorem dX12_forge_185 : decode cX12_forge 185 = .ok (.bipush 20, 2) := by decide +kernel
theorem dX12_forge_187 : decode cX12_forge 187 = .ok (.iload 4, 2) := by decide +kernel
theorem dX12_forge_189 : decode cX12_forge 189 = .ok (.imul, 1) := by decide +kernel
theorem dX12_forge_190 : decode cX12_forge 190 = .ok (.iload_n 2, 1) := by decide +kernel
theorem dX12_forge_191 : decode cX12_forge 191 = .ok (.iadd, 1) := by decide +kernel
theorem dX12_forge_192 : decode cX12_forge 192 = .ok (.iaload, 1) := by decide +kernel
theorem dX12_forge_193 : decode cX12_forge 193 = .ok (.invokevirtual 98, 3) := by decide +kernel
theorem dX12_forge_196 : decode cX12_forge 196 = .ok (.goto 9, 3) := by decide +kernel
theorem dX12_forge_199 : decode cX12_forge 199 = .ok (.aload_n 0, 1) := by decide +kernel
theorem dX12_forge_200 : decode cX12_forge 200 = .ok (.bipush 12, 2) := by decide +kernel
theorem dX12_forge_202 : decode cX12_forge 202 = .ok (.invokevirtual 90, 3) := by decide +kernel
theorem dX12_forge_205 : decode cX12_forge 205 = .ok (.ireturn, 1) := by decide +kernel
theorem dX12_forge_206 : decode cX12_forge 206 = .ok (.aload_n 0, 1) := by decide +kernel
theorem dX12_forge_207 : decode cX12_forge 207 = .ok (.getfield 28, 3) := by decide +kernel
theorem dX12_forge_210 : decode cX12_forge 210 = .ok (.iload 4, 2) := by decide +kernel
theorem dX12_forge_212 : decode cX12_forge 212 = .ok (.iaload, 1) := by decide +kernel
theorem dX12_forge_213 : decode cX12_forge 213 = .ok (.iconst (-1), 1) := by decide +kernel
theorem dX12_forge_214 : decode cX12_forge 214 = .ok (.if_icmp .ne 12, 3) := by decide +kernel
theorem dX12_forge_217 : decode cX12_forge 217 = .ok (.aload_n 0, 1) := by decide +kernel
theorem dX12_forge_218 : decode cX12_forge 218 = .ok (.bipush 10, 2) := by decide +kernel
theorem dX12_forge_220 : decode cX12_forge 220 = .ok (.invokevirtual 90, 3) := by decide +kernel
theorem dX12_forge_223 : decode cX12_forge 223 = .ok (.goto 64, 3) := by decide +kernel
theorem dX12_forge_226 : decode cX12_forge 226 = .ok (.aload_n 0, 1) := by decide +kernel
theorem dX12_forge_227 : decode cX12_forge 227 = .ok (.getfield 28, 3) := by decide +kernel
theorem dX12_forge_230 : decode cX12_forge 230 = .ok (.iload 4, 2) := by decide +kernel
theorem dX12_forge_232 : decode cX12_forge 232 = .ok (.iaload, 1) := by decide +kernel
theorem dX12_forge_233 : decode cX12_forge 233 = .ok (.ifCond .eq 12, 3) := by decide +kernel
theorem dX12_forge_236 : decode cX12_forge 236 = .ok (.aload_n 0, 1) := by decide +kernel
theorem dX12_forge_237 : decode cX12_forge 237 = .ok (.bipush 11, 2) := by decide +kernel
theorem dX12_forge_239 : decode cX12_forge 239 = .ok (.invokevirtual 90, 3) := by decide +kernel
theorem dX12_forge_242 : decode cX12_forge 242 = .ok (.goto 45, 3) := by decide +kernel
theorem dX12_forge_245 : decode cX12_forge 245 = .ok (.iload_n 2, 1) := by decide +kernel
theorem dX12_forge_246 : decode cX12_forge 246 = .ok (.iconst 0, 1) := by decide +kernel
theorem dX12_forge_247 : decode cX12_forge 247 = .ok (.iconst 3, 1) := by decide +kernel
theorem dX12_forge_248 : decode cX12_forge 248 = .ok (.invokestatic 72, 3) := by decide +kernel
theorem dX12_forge_251 : decode cX12_forge 251 = .ok (.ifCond .eq 30, 3) := by decide +kernel
theorem dX12_forge_254 : decode cX12_forge 254 = .ok (.iconst 1, 1) := by decide +kernel
theorem dX12_forge_255 : decode cX12_forge 255 = .ok (.iload_n 2, 1) := by decide +kernel
theorem dX12_forge_256 : decode cX12_forge 256 = .ok (.iadd, 1) := by decide +kernel
theorem dX12_forge_257 : decode cX12_forge 257 = .ok (.aload_n 0, 1) := by decide +kernel
theorem dX12_forge_258 : decode cX12_forge 258 = .ok (.getfield 31, 3) := by decide +kernel
theorem dX12_forge_261 : decode cX12_forge 261 = .ok (.iload 4, 2) := by decide +kernel
theorem dX12_forge_263 : decode cX12_forge 263 = .ok (.iaload, 1) := by decide +kernel
theorem dX12_forge_264 : decode cX12_forge 264 = .ok (.if_icmp .gt 17, 3) := by decide +kernel
theorem dX12_forge_267 : decode cX12_forge 267 = .ok (.aload_n 0, 1) := by decide +kernel
theorem dX12_forge_268 : decode cX12_forge 268 = .ok (.aload_n 0, 1) := by decide +kernel
theorem dX12_forge_269 : decode cX12_forge 269 = .ok (.iload 4, 2) := by decide +kernel
theorem dX12_forge_271 : decode cX12_forge 271 = .ok (.iload_n 2, 1) := by decide +kernel
theorem dX12_forge_272 : decode cX12_forge 272 = .ok (.invokevirtual 250, 3) := by decide +kernel
theorem dX12_forge_275 : decode cX12_forge 275 = .ok (.invokevirtual 98, 3) := by decide +kernel
theorem dX12_forge_278 : decode cX12_forge 278 = .ok (.goto 9, 3) := by decide +kernel
theorem dX12_forge_281 : decode cX12_forge 281 = .ok (.aload_n 0, 1) := by decide +kernel
theorem dX12_forge_282 : decode cX12_forge 282 = .ok (.bipush 12, 2) := by decide +kernel
theorem dX12_forge_284 : decode cX12_forge 284 = .ok (.invokevirtual 90, 3) := by decide +kernel
theorem dX12_forge_287 : decode cX12_forge 287 = .ok (.ireturn, 1) := by decide +kernel
theorem dX12_forge_288 : decode cX12_forge 288 = .ok (.aload_n 0, 1) := by decide +kernel
theorem dX12_forge_289 : decode cX12_forge 289 = .ok (.iload 5, 2) := by decide +kernel
theorem dX12_forge_291 : decode cX12_forge 291 = .ok (.invokevirtual 104, 3) := by decide +kernel
theorem dX12_forge_294 : decode cX12_forge 294 = .ok (.ifCond .ne 11, 3) := by decide +kernel
theorem dX12_forge_297 : decode cX12_forge 297 = .ok (.aload_n 0, 1) := by decide +kernel
theorem dX12_forge_298 : decode cX12_forge 298 = .ok (.iconst 0, 1) := by decide +kernel
theorem dX12_forge_299 : decode cX12_forge 299 = .ok (.invokevirtual 98, 3) := by decide +kernel
theorem dX12_forge_302 : decode cX12_forge 302 = .ok (.goto 32, 3) := by decide +kernel
theorem dX12_forge_305 : decode cX12_forge 305 = .ok (.aload_n 0, 1) := by decide +kernel
theorem dX12_forge_306 : decode cX12_forge 306 = .ok (.iload 5, 2) := by decide +kernel
theorem dX12_forge_308 : decode cX12_forge 308 = .ok (.invokevirtual 79, 3) := by decide +kernel
theorem dX12_forge_311 : decode cX12_forge 311 = .ok (.ifCond .eq 17, 3) := by decide +kernel
theorem dX12_forge_314 : decode cX12_forge 314 = .ok (.aload_n 0, 1) := by decide +kernel
theorem dX12_forge_315 : decode cX12_forge 315 = .ok (.aload_n 0, 1) := by decide +kernel
theorem dX12_forge_316 : decode cX12_forge 316 = .ok (.getfield 7, 3) := by decide +kernel
theorem dX12_forge_319 : decode cX12_forge 319 = .ok (.iload 5, 2) := by decide +kernel
theorem dX12_forge_321 : decode cX12_forge 321 = .ok (.iaload, 1) := by decide +kernel
theorem dX12_forge_322 : decode cX12_forge 322 = .ok (.invokevirtual 98, 3) := by decide +kernel
theorem dX12_forge_325 : decode cX12_forge 325 = .ok (.goto 9, 3) := by decide +kernel
theorem dX12_forge_328 : decode cX12_forge 328 = .ok (.aload_n 0, 1) := by decide +kernel
theorem dX12_forge_329 : decode cX12_forge 329 = .ok (.bipush 14, 2) := by decide +kernel
theorem dX12_forge_331 : decode cX12_forge 331 = .ok (.invokevirtual 90, 3) := by decide +kernel
theorem dX12_forge_334 : decode cX12_forge 334 = .ok (.ireturn, 1) := by decide +kernel
theorem dX12_forge_335 : decode cX12_forge 335 = .ok (.iload_n 2, 1) := by decide +kernel
theorem dX12_forge_336 : decode cX12_forge 336 = .ok (.ifCond .ne 12, 3) := by decide +kernel
theorem dX12_forge_339 : decode cX12_forge 339 = .ok (.aload_n 0, 1) := by decide +kernel
theorem dX12_forge_340 : decode cX12_forge 340 = .ok (.bipush 15, 2) := by decide +kernel
theorem dX12_forge_342 : decode cX12_forge 342 = .ok (.invokevirtual 90, 3) := by decide +kernel
theorem dX12_forge_345 : decode cX12_forge 345 = .ok (.goto 12, 3) := by decide +kernel
theorem dX12_forge_348 : decode cX12_forge 348 = .ok (.aload_n 0, 1) := by decide +kernel
theorem dX12_forge_349 : decode cX12_forge 349 = .ok (.sipush 1000, 3) := by decide +kernel
theorem dX12_forge_352 : decode cX12_forge 352 = .ok (.iload_n 2, 1) := by decide +kernel
theorem dX12_forge_353 : decode cX12_forge 353 = .ok (.idiv, 1) := by decide +kernel
theorem dX12_forge_354 : decode cX12_forge 354 = .ok (.invokevirtual 98, 3) := by decide +kernel
theorem dX12_forge_357 : decode cX12_forge 357 = .ok (.ireturn, 1) := by decide +kernel
theorem dX12_forge_358 : decode cX12_forge 358 = .ok (.iload_n 2, 1) := by decide +kernel
theorem dX12_forge_359 : decode cX12_forge 359 = .ok (.iconst 1, 1) := by decide +kernel
theorem dX12_forge_360 : decode cX12_forge 360 = .ok (.iand, 1) := by decide +kernel
theorem dX12_forge_361 : decode cX12_forge 361 = .ok (.ifCond .ne 12, 3) := by decide +kernel
theorem dX12_forge_364 : decode cX12_forge 364 = .ok (.aload_n 0, 1) := by decide +kernel
theorem dX12_forge_365 : decode cX12_forge 365 = .ok (.bipush 10, 2) := by decide +kernel
theorem dX12_forge_367 : decode cX12_forge 367 = .ok (.invokevirtual 90, 3) := by decide +kernel
theorem dX12_forge_370 : decode cX12_forge 370 = .ok (.goto 8, 3) := by decide +kernel
theorem dX12_forge_373 : decode cX12_forge 373 = .ok (.aload_n 0, 1) := by decide +kernel
theorem dX12_forge_374 : decode cX12_forge 374 = .ok (.iconst 1, 1) := by decide +kernel
theorem dX12_forge_375 : decode cX12_forge 375 = .ok (.invokevirtual 98, 3) := by decide +kernel
theorem dX12_forge_378 : decode cX12_forge 378 = .ok (.ireturn, 1) := by decide +kernel
theorem dX12_status_0 : decode cX12_status 0 = .ok (.aload_n 0, 1) := by decide +kernel
theorem dX12_status_1 : decode cX12_status 1 = .ok (.getfield 65, 3) := by decide +kernel
theorem dX12_status_4 : decode cX12_status 4 = .ok (.ireturn, 1) := by decide +kernel
