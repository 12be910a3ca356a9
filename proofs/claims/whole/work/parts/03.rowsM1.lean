theorem dX12_init_0 : decode cX12_init 0 = .ok (.aload_n 0, 1) := by decide +kernel
theorem dX12_init_1 : decode cX12_init 1 = .ok (.invokespecial 1, 3) := by decide +kernel
theorem dX12_init_4 : decode cX12_init 4 = .ok (.aload_n 0, 1) := by decide +kernel
theorem dX12_init_5 : decode cX12_init 5 = .ok (.bipush 10, 2) := by decide +kernel
theorem dX12_init_7 : decode cX12_init 7 = .ok (.newarray .int, 2) := by decide +kernel
theorem dX12_init_9 : decode cX12_init 9 = .ok (.putfield 7, 3) := by decide +kernel
theorem dX12_init_12 : decode cX12_init 12 = .ok (.aload_n 0, 1) := by decide +kernel
theorem dX12_init_13 : decode cX12_init 13 = .ok (.bipush 10, 2) := by decide +kernel
theorem dX12_init_15 : decode cX12_init 15 = .ok (.newarray .int, 2) := by decide +kernel
theorem dX12_init_17 : decode cX12_init 17 = .ok (.putfield 13, 3) := by decide +kernel
theorem dX12_init_20 : decode cX12_init 20 = .ok (.aload_n 0, 1) := by decide +kernel
theorem dX12_init_21 : decode cX12_init 21 = .ok (.bipush 16, 2) := by decide +kernel
theorem dX12_init_23 : decode cX12_init 23 = .ok (.newarray .int, 2) := by decide +kernel
theorem dX12_init_25 : decode cX12_init 25 = .ok (.putfield 16, 3) := by decide +kernel
theorem dX12_init_28 : decode cX12_init 28 = .ok (.aload_n 0, 1) := by decide +kernel
theorem dX12_init_29 : decode cX12_init 29 = .ok (.bipush 16, 2) := by decide +kernel
theorem dX12_init_31 : decode cX12_init 31 = .ok (.newarray .int, 2) := by decide +kernel
theorem dX12_init_33 : decode cX12_init 33 = .ok (.putfield 19, 3) := by decide +kernel
theorem dX12_init_36 : decode cX12_init 36 = .ok (.aload_n 0, 1) := by decide +kernel
theorem dX12_init_37 : decode cX12_init 37 = .ok (.bipush 16, 2) := by decide +kernel
theorem dX12_init_39 : decode cX12_init 39 = .ok (.newarray .int, 2) := by decide +kernel
theorem dX12_init_41 : decode cX12_init 41 = .ok (.putfield 22, 3) := by decide +kernel
theorem dX12_init_44 : decode cX12_init 44 = .ok (.aload_n 0, 1) := by decide +kernel
theorem dX12_init_45 : decode cX12_init 45 = .ok (.bipush 10, 2) := by decide +kernel
theorem dX12_init_47 : decode cX12_init 47 = .ok (.newarray .int, 2) := by decide +kernel
theorem dX12_init_49 : decode cX12_init 49 = .ok (.putfield 25, 3) := by decide +kernel
theorem dX12_init_52 : decode cX12_init 52 = .ok (.aload_n 0, 1) := by decide +kernel
theorem dX12_init_53 : decode cX12_init 53 = .ok (.iconst 5, 1) := by decide +kernel
theorem dX12_init_54 : decode cX12_init 54 = .ok (.newarray .int, 2) := by decide +kernel
theorem dX12_init_56 : decode cX12_init 56 = .ok (.putfield 28, 3) := by decide +kernel
theorem dX12_init_59 : decode cX12_init 59 = .ok (.aload_n 0, 1) := by decide +kernel
theorem dX12_init_60 : decode cX12_init 60 = .ok (.iconst 5, 1) := by decide +kernel
theorem dX12_init_61 : decode cX12_init 61 = .ok (.newarray .int, 2) := by decide +kernel
theorem dX12_init_63 : decode cX12_init 63 = .ok (.putfield 31, 3) := by decide +kernel
theorem dX12_init_66 : decode cX12_init 66 = .ok (.aload_n 0, 1) := by decide +kernel
theorem dX12_init_67 : decode cX12_init 67 = .ok (.bipush 100, 2) := by decide +kernel
theorem dX12_init_69 : decode cX12_init 69 = .ok (.newarray .int, 2) := by decide +kernel
theorem dX12_init_71 : decode cX12_init 71 = .ok (.putfield 34, 3) := by decide +kernel
theorem dX12_init_74 : decode cX12_init 74 = .ok (.aload_n 0, 1) := by decide +kernel
theorem dX12_init_75 : decode cX12_init 75 = .ok (.bipush 50, 2) := by decide +kernel
theorem dX12_init_77 : decode cX12_init 77 = .ok (.newarray .int, 2) := by decide +kernel
theorem dX12_init_79 : decode cX12_init 79 = .ok (.putfield 37, 3) := by decide +kernel
theorem dX12_init_82 : decode cX12_init 82 = .ok (.aload_n 0, 1) := by decide +kernel
theorem dX12_init_83 : decode cX12_init 83 = .ok (.bipush 10, 2) := by decide +kernel
theorem dX12_init_85 : decode cX12_init 85 = .ok (.newarray .int, 2) := by decide +kernel
theorem dX12_init_87 : decode cX12_init 87 = .ok (.putfield 40, 3) := by decide +kernel
theorem dX12_init_90 : decode cX12_init 90 = .ok (.aload_n 0, 1) := by decide +kernel
theorem dX12_init_91 : decode cX12_init 91 = .ok (.ldc 43, 2) := by decide +kernel
theorem dX12_init_93 : decode cX12_init 93 = .ok (.newarray .int, 2) := by decide +kernel
theorem dX12_init_95 : decode cX12_init 95 = .ok (.putfield 44, 3) := by decide +kernel
theorem dX12_init_98 : decode cX12_init 98 = .ok (.aload_n 0, 1) := by decide +kernel
theorem dX12_init_99 : decode cX12_init 99 = .ok (.ldc 43, 2) := by decide +kernel
theorem dX12_init_101 : decode cX12_init 101 = .ok (.newarray .int, 2) := by decide +kernel
theorem dX12_init_103 : decode cX12_init 103 = .ok (.putfield 47, 3) := by decide +kernel
theorem dX12_init_106 : decode cX12_init 106 = .ok (.aload_n 0, 1) := by decide +kernel
theorem dX12_init_107 : decode cX12_init 107 = .ok (.ldc 43, 2) := by decide +kernel
theorem dX12_init_109 : decode cX12_init 109 = .ok (.newarray .int, 2) := by decide +kernel
theorem dX12_init_111 : decode cX12_init 111 = .ok (.putfield 50, 3) := by decide +kernel
theorem dX12_init_114 : decode cX12_init 114 = .ok (.aload_n 0, 1) := by decide +kernel
theorem dX12_init_115 : decode cX12_init 115 = .ok (.bipush 10, 2) := by decide +kernel
theorem dX12_init_117 : decode cX12_init 117 = .ok (.newarray .int, 2) := by decide +kernel
theorem dX12_init_119 : decode cX12_init 119 = .ok (.putfield 53, 3) := by decide +kernel
theorem dX12_init_122 : decode cX12_init 122 = .ok (.aload_n 0, 1) := by decide +kernel
theorem dX12_init_123 : decode cX12_init 123 = .ok (.bipush 20, 2) := by decide +kernel
theorem dX12_init_125 : decode cX12_init 125 = .ok (.newarray .int, 2) := by decide +kernel
theorem dX12_init_127 : decode cX12_init 127 = .ok (.putfield 56, 3) := by decide +kernel
theorem dX12_init_130 : decode cX12_init 130 = .ok (.aload_n 0, 1) := by decide +kernel
theorem dX12_init_131 : decode cX12_init 131 = .ok (.bipush 20, 2) := by decide +kernel
theorem dX12_init_133 : decode cX12_init 133 = .ok (.newarray .int, 2) := by decide +kernel
theorem dX12_init_135 : decode cX12_init 135 = .ok (.putfield 59, 3) := by decide +kernel
theorem dX12_init_138 : decode cX12_init 138 = .ok (.aload_n 0, 1) := by decide +kernel
theorem dX12_init_139 : decode cX12_init 139 = .ok (.bipush 10, 2) := by decide +kernel
theorem dX12_init_141 : decode cX12_init 141 = .ok (.newarray .int, 2) := by decide +kernel
theorem dX12_init_143 : decode cX12_init 143 = .ok (.putfield 62, 3) := by decide +kernel
theorem dX12_init_146 : decode cX12_init 146 = .ok (.iconst 0, 1) := by decide +kernel
theorem dX12_init_147 : decode cX12_init 147 = .ok (.istore_n 1, 1) := by decide +kernel
theorem dX12_init_148 : decode cX12_init 148 = .ok (.iload_n 1, 1) := by decide +kernel
theorem dX12_init_149 : decode cX12_init 149 = .ok (.iconst 5, 1) := by decide +kernel
theorem dX12_init_150 : decode cX12_init 150 = .ok (.if_icmp .ge 16, 3) := by decide +kernel
theorem dX12_init_153 : decode cX12_init 153 = .ok (.aload_n 0, 1) := by decide +kernel
theorem dX12_init_154 : decode cX12_init 154 = .ok (.getfield 28, 3) := by decide +kernel
theorem dX12_init_157 : decode cX12_init 157 = .ok (.iload_n 1, 1) := by decide +kernel
theorem dX12_init_158 : decode cX12_init 158 = .ok (.iconst (-1), 1) := by decide +kernel
theorem dX12_init_159 : decode cX12_init 159 = .ok (.iastore, 1) := by decide +kernel
theorem dX12_init_160 : decode cX12_init 160 = .ok (.iinc 1 1, 3) := by decide +kernel
theorem dX12_init_163 : decode cX12_init 163 = .ok (.goto (-15), 3) := by decide +kernel
theorem dX12_init_166 : decode cX12_init 166 = .ok (.return_, 1) := by decide +kernel
theorem dX12_in_0 : decode cX12_in 0 = .ok (.iload_n 0, 1) := by decide +kernel
theorem dX12_in_1 : decode cX12_in 1 = .ok (.iload_n 1, 1) := by decide +kernel
theorem dX12_in_2 : decode cX12_in 2 = .ok (.if_icmp .lt 12, 3) := by decide +kernel
theorem dX12_in_5 : decode cX12_in 5 = .ok (.iload_n 0, 1) := by decide +kernel
theorem dX12_in_6 : decode cX12_in 6 = .ok (.iload_n 2, 1) := by decide +kernel
theorem dX12_in_7 : decode cX12_in 7 = .ok (.if_icmp .gt 7, 3) := by decide +kernel
theorem dX12_in_10 : decode cX12_in 10 = .ok (.iconst 1, 1) := by decide +kernel
theorem dX12_in_11 : decode cX12_in 11 = .ok (.goto 4, 3) := by decide +kernel
theorem dX12_in_14 : decode cX12_in 14 = .ok (.iconst 0, 1) := by decide +kernel
theorem dX12_in_15 : decode cX12_in 15 = .ok (.ireturn, 1) := by decide +kernel
theorem dX12_refused_0 : decode cX12_refused 0 = .ok (.aload_n 0, 1) := by decide +kernel
theorem dX12_refused_1 : decode cX12_refused 1 = .ok (.iload_n 1, 1) := by decide +kernel
theorem dX12_refused_2 : decode cX12_refused 2 = .ok (.putfield 65, 3) := by decide +kernel
theorem dX12_refused_5 : decode cX12_refused 5 = .ok (.iconst (-1), 1) := by decide +kernel
theorem dX12_refused_6 : decode cX12_refused 6 = .ok (.ireturn, 1) := by decide +kernel
theorem dX12_done_0 : decode cX12_done 0 = .ok (.aload_n 0, 1) := by decide +kernel
theorem dX12_done_1 : decode cX12_done 1 = .ok (.iconst 0, 1) := by decide +kernel
theorem dX12_done_2 : decode cX12_done 2 = .ok (.putfield 65, 3) := by decide +kernel
theorem dX12_done_5 : decode cX12_done 5 = .ok (.iload_n 1, 1) := by decide +kernel
theorem dX12_done_6 : decode cX12_done 6 = .ok (.ireturn, 1) := by decide +kernel
set_option maxRecDepth 20000 in
theorem ggX12_isPlace_X12_in : GoodIn wsX12_isPlace wsX12_in := goodIn_r _ [5] (by decide +kernel) (by decide +kernel)
set_option maxRecDepth 20000 in
theorem gX12_isPlace_X12_in : GoodIn wsX12_isPlace (va_wsS RX12 72 yX12_in wsX12_in) := goodIn_app (goodIn_of _ (by decide +kernel)) ggX12_isPlace_X12_in
theorem dX12_isPlace_0 : decode cX12_isPlace 0 = .ok (.iload_n 1, 1) := by decide +kernel
theorem dX12_isPlace_1 : decode cX12_isPlace 1 = .ok (.iconst 0, 1) := by decide +kernel
theorem dX12_isPlace_2 : decode cX12_isPlace 2 = .ok (.aload_n 0, 1) := by decide +kernel
theorem dX12_isPlace_3 : decode cX12_isPlace 3 = .ok (.getfield 69, 3) := by decide +kernel
theorem dX12_isPlace_6 : decode cX12_isPlace 6 = .ok (.iconst 1, 1) := by decide +kernel
theorem dX12_isPlace_7 : decode cX12_isPlace 7 = .ok (.isub, 1) := by decide +kernel
theorem dX12_isPlace_8 : decode cX12_isPlace 8 = .ok (.invokestatic 72, 3) := by decide +kernel
theorem dX12_isPlace_11 : decode cX12_isPlace 11 = .ok (.ireturn, 1) := by decide +kernel
set_option maxRecDepth 20000 in
theorem ggX12_isStreet_X12_in : GoodIn wsX12_isStreet wsX12_in := goodIn_r _ [5] (by decide +kernel) (by decide +kernel)
set_option maxRecDepth 20000 in
theorem gX12_isStreet_X12_in : GoodIn wsX12_isStreet (va_wsS RX12 72 yX12_in wsX12_in) := goodIn_app (goodIn_of _ (by decide +kernel)) ggX12_isStreet_X12_in
theorem dX12_isStreet_0 : decode cX12_isStreet 0 = .ok (.iload_n 1, 1) := by decide +kernel
theorem dX12_isStreet_1 : decode cX12_isStreet 1 = .ok (.iconst 0, 1) := by decide +kernel
theorem dX12_isStreet_2 : decode cX12_isStreet 2 = .ok (.aload_n 0, 1) := by decide +kernel
theorem dX12_isStreet_3 : decode cX12_isStreet 3 = .ok (.getfield 76, 3) := by decide +kernel
theorem dX12_isStreet_6 : decode cX12_isStreet 6 = .ok (.iconst 1, 1) := by decide +kernel
theorem dX12_isStreet_7 : decode cX12_isStreet 7 = .ok (.isub, 1) := by decide +kernel
theorem dX12_isStreet_8 : decode cX12_isStreet 8 = .ok (.invokestatic 72, 3) := by decide +kernel
theorem dX12_isStreet_11 : decode cX12_isStreet 11 = .ok (.ireturn, 1) := by decide +kernel
theorem dX12_has_0 : decode cX12_has 0 = .ok (.iload_n 0, 1) := by decide +kernel
theorem dX12_has_1 : decode cX12_has 1 = .ok (.iload_n 1, 1) := by decide +kernel
theorem dX12_has_2 : decode cX12_has 2 = .ok (.ishr, 1) := by decide +kernel
theorem dX12_has_3 : decode cX12_has 3 = .ok (.iconst 1, 1) := by decide +kernel
theorem dX12_has_4 : decode cX12_has 4 = .ok (.iand, 1) := by decide +kernel
theorem dX12_has_5 : decode cX12_has 5 = .ok (.iconst 1, 1) := by decide +kernel
theorem dX12_has_6 : decode cX12_has 6 = .ok (.if_icmp .ne 7, 3) := by decide +kernel
theorem dX12_has_9 : decode cX12_has 9 = .ok (.iconst 1, 1) := by decide +kernel
theorem dX12_has_10 : decode cX12_has 10 = .ok (.goto 4, 3) := by decide +kernel
theorem dX12_has_13 : decode cX12_has 13 = .ok (.iconst 0, 1) := by decide +kernel
theorem dX12_has_14 : decode cX12_has 14 = .ok (.ireturn, 1) := by decide +kernel
theorem dX12_isTap_0 : decode cX12_isTap 0 = .ok (.aload_n 0, 1) := by decide +kernel
theorem dX12_isTap_1 : decode cX12_isTap 1 = .ok (.getfield 7, 3) := by decide +kernel
theorem dX12_isTap_4 : decode cX12_isTap 4 = .ok (.iload_n 1, 1) := by decide +kernel
theorem dX12_isTap_5 : decode cX12_isTap 5 = .ok (.iaload, 1) := by decide +kernel
theorem dX12_isTap_6 : decode cX12_isTap 6 = .ok (.iconst 1, 1) := by decide +kernel
theorem dX12_isTap_7 : decode cX12_isTap 7 = .ok (.if_icmp .eq 13, 3) := by decide +kernel
theorem dX12_isTap_10 : decode cX12_isTap 10 = .ok (.aload_n 0, 1) := by decide +kernel
theorem dX12_isTap_11 : decode cX12_isTap 11 = .ok (.getfield 7, 3) := by decide +kernel
theorem dX12_isTap_14 : decode cX12_isTap 14 = .ok (.iload_n 1, 1) := by decide +kernel
theorem dX12_isTap_15 : decode cX12_isTap 15 = .ok (.iaload, 1) := by decide +kernel
theorem dX12_isTap_16 : decode cX12_isTap 16 = .ok (.iconst 3, 1) := by decide +kernel
theorem dX12_isTap_17 : decode cX12_isTap 17 = .ok (.if_icmp .ne 7, 3) := by decide +kernel
theorem dX12_isTap_20 : decode cX12_isTap 20 = .ok (.iconst 1, 1) := by decide +kernel
theorem dX12_isTap_21 : decode cX12_isTap 21 = .ok (.goto 4, 3) := by decide +kernel
theorem dX12_isTap_24 : decode cX12_isTap 24 = .ok (.iconst 0, 1) := by decide +kernel
theorem dX12_isTap_25 : decode cX12_isTap 25 = .ok (.ireturn, 1) := by decide +kernel
set_option maxRecDepth 20000 in
theorem ggX12_taps_X12_isTap : GoodIn wsX12_taps wsX12_isTap := goodIn_r _ [6, 7, 8, 9, 10, 11, 12, 13, 14, 15, 16, 17, 18, 19, 20, 21, 22, 23, 24, 25, 26, 27, 28, 29, 30, 31, 32, 33, 34, 35, 36, 37, 38, 39] (by decide +kernel) (by decide +kernel)
set_option maxRecDepth 20000 in
theorem gX12_taps_X12_isTap : GoodIn wsX12_taps (wsV RX12 79 RX12 yX12_isTap wsX12_isTap) := goodIn_app (goodIn_of _ (by decide +kernel)) ggX12_taps_X12_isTap
theorem dX12_taps_0 : decode cX12_taps 0 = .ok (.iconst 0, 1) := by decide +kernel
theorem dX12_taps_1 : decode cX12_taps 1 = .ok (.istore_n 1, 1) := by decide +kernel
theorem dX12_taps_2 : decode cX12_taps 2 = .ok (.iconst 0, 1) := by decide +kernel
theorem dX12_taps_3 : decode cX12_taps 3 = .ok (.istore_n 2, 1) := by decide +kernel
theorem dX12_taps_4 : decode cX12_taps 4 = .ok (.iload_n 2, 1) := by decide +kernel
theorem dX12_taps_5 : decode cX12_taps 5 = .ok (.aload_n 0, 1) := by decide +kernel
theorem dX12_taps_6 : decode cX12_taps 6 = .ok (.getfield 69, 3) := by decide +kernel
theorem dX12_taps_9 : decode cX12_taps 9 = .ok (.if_icmp .ge 27, 3) := by decide +kernel
theorem dX12_taps_12 : decode cX12_taps 12 = .ok (.iload_n 1, 1) := by decide +kernel
theorem dX12_taps_13 : decode cX12_taps 13 = .ok (.aload_n 0, 1) := by decide +kernel
theorem dX12_taps_14 : decode cX12_taps 14 = .ok (.iload_n 2, 1) := by decide +kernel
theorem dX12_taps_15 : decode cX12_taps 15 = .ok (.invokevirtual 79, 3) := by decide +kernel
theorem dX12_taps_18 : decode cX12_taps 18 = .ok (.ifCond .eq 9, 3) := by decide +kernel
theorem dX12_taps_21 : decode cX12_taps 21 = .ok (.iconst 1, 1) := by decide +kernel
theorem dX12_taps_22 : decode cX12_taps 22 = .ok (.iload_n 2, 1) := by decide +kernel
theorem dX12_taps_23 : decode cX12_taps 23 = .ok (.ishl, 1) := by decide +kernel
theorem dX12_taps_24 : decode cX12_taps 24 = .ok (.goto 4, 3) := by decide +kernel
theorem dX12_taps_27 : decode cX12_taps 27 = .ok (.iconst 0, 1) := by decide +kernel
theorem dX12_taps_28 : decode cX12_taps 28 = .ok (.ior, 1) := by decide +kernel
theorem dX12_taps_29 : decode cX12_taps 29 = .ok (.istore_n 1, 1) := by decide +kernel
theorem dX12_taps_30 : decode cX12_taps 30 = .ok (.iinc 2 1, 3) := by decide +kernel
theorem dX12_taps_33 : decode cX12_taps 33 = .ok (.goto (-29), 3) := by decide +kernel
theorem dX12_taps_36 : decode cX12_taps 36 = .ok (.iload_n 1, 1) := by decide +kernel
theorem dX12_taps_37 : decode cX12_taps 37 = .ok (.ireturn, 1) := by decide +kernel
theorem dX12_bits_0 : decode cX12_bits 0 = .ok (.iconst 0, 1) := by decide +kernel
theorem dX12_bits_1 : decode cX12_bits 1 = .ok (.istore_n 1, 1) := by decide +kernel
theorem dX12_bits_2 : decode cX12_bits 2 = .ok (.iconst 0, 1) := by decide +kernel
theorem dX12_bits_3 : decode cX12_bits 3 = .ok (.istore_n 2, 1) := by decide +kernel
theorem dX12_bits_4 : decode cX12_bits 4 = .ok (.iload_n 2, 1) := by decide +kernel
theorem dX12_bits_5 : decode cX12_bits 5 = .ok (.bipush 16, 2) := by decide +kernel
theorem dX12_bits_7 : decode cX12_bits 7 = .ok (.if_icmp .ge 17, 3) := by decide +kernel
theorem dX12_bits_10 : decode cX12_bits 10 = .ok (.iload_n 1, 1) := by decide +kernel
theorem dX12_bits_11 : decode cX12_bits 11 = .ok (.iload_n 0, 1) := by decide +kernel
theorem dX12_bits_12 : decode cX12_bits 12 = .ok (.iload_n 2, 1) := by decide +kernel
theorem dX12_bits_13 : decode cX12_bits 13 = .ok (.ishr, 1) := by decide +kernel
theorem dX12_bits_14 : decode cX12_bits 14 = .ok (.iconst 1, 1) := by decide +kernel
theorem dX12_bits_15 : decode cX12_bits 15 = .ok (.iand, 1) := by decide +kernel
theorem dX12_bits_16 : decode cX12_bits 16 = .ok (.iadd, 1) := by decide +kernel
theorem dX12_bits_17 : decode cX12_bits 17 = .ok (.istore_n 1, 1) := by decide +kernel
theorem dX12_bits_18 : decode cX12_bits 18 = .ok (.iinc 2 1, 3) := by decide +kernel
theorem dX12_bits_21 : decode cX12_bits 21 = .ok (.goto (-17), 3) := by decide +kernel
theorem dX12_bits_24 : decode cX12_bits 24 = .ok (.iload_n 1, 1) := by decide +kernel
theorem dX12_bits_25 : decode cX12_bits 25 = .ok (.ireturn, 1) := by decide +kernel
theorem dX12_changed_0 : decode cX12_changed 0 = .ok (.aload_n 0, 1) := by decide +kernel
theorem dX12_changed_1 : decode cX12_changed 1 = .ok (.getfield 83, 3) := by decide +kernel
theorem dX12_changed_4 : decode cX12_changed 4 = .ok (.bipush 10, 2) := by decide +kernel
theorem dX12_changed_6 : decode cX12_changed 6 = .ok (.if_icmp .ne 43, 3) := by decide +kernel
theorem dX12_changed_9 : decode cX12_changed 9 = .ok (.aload_n 0, 1) := by decide +kernel
theorem dX12_changed_10 : decode cX12_changed 10 = .ok (.dup, 1) := by decide +kernel
theorem dX12_changed_11 : decode cX12_changed 11 = .ok (.getfield 83, 3) := by decide +kernel
theorem dX12_changed_14 : decode cX12_changed 14 = .ok (.iconst 1, 1) := by decide +kernel
theorem dX12_changed_15 : decode cX12_changed 15 = .ok (.isub, 1) := by decide +kernel
theorem dX12_changed_16 : decode cX12_changed 16 = .ok (.putfield 83, 3) := by decide +kernel
theorem dX12_changed_19 : decode cX12_changed 19 = .ok (.iconst 0, 1) := by decide +kernel
theorem dX12_changed_20 : decode cX12_changed 20 = .ok (.istore_n 2, 1) := by decide +kernel
theorem dX12_changed_21 : decode cX12_changed 21 = .ok (.iload_n 2, 1) := by decide +kernel
theorem dX12_changed_22 : decode cX12_changed 22 = .ok (.aload_n 0, 1) := by decide +kernel
theorem dX12_changed_23 : decode cX12_changed 23 = .ok (.getfield 83, 3) := by decide +kernel
theorem dX12_changed_26 : decode cX12_changed 26 = .ok (.if_icmp .ge 23, 3) := by decide +kernel
theorem dX12_changed_29 : decode cX12_changed 29 = .ok (.aload_n 0, 1) := by decide +kernel
theorem dX12_changed_30 : decode cX12_changed 30 = .ok (.getfield 25, 3) := by decide +kernel
theorem dX12_changed_33 : decode cX12_changed 33 = .ok (.iload_n 2, 1) := by decide +kernel
theorem dX12_changed_34 : decode cX12_changed 34 = .ok (.aload_n 0, 1) := by decide +kernel
theorem dX12_changed_35 : decode cX12_changed 35 = .ok (.getfield 25, 3) := by decide +kernel
theorem dX12_changed_38 : decode cX12_changed 38 = .ok (.iload_n 2, 1) := by decide +kernel
theorem dX12_changed_39 : decode cX12_changed 39 = .ok (.iconst 1, 1) := by decide +kernel
theorem dX12_changed_40 : decode cX12_changed 40 = .ok (.iadd, 1) := by decide +kernel
theorem dX12_changed_41 : decode cX12_changed 41 = .ok (.iaload, 1) := by decide +kernel
theorem dX12_changed_42 : decode cX12_changed 42 = .ok (.iastore, 1) := by decide +kernel
theorem dX12_changed_43 : decode cX12_changed 43 = .ok (.iinc 2 1, 3) := by decide +kernel
theorem dX12_changed_46 : decode cX12_changed 46 = .ok (.goto (-25), 3) := by decide +kernel
theorem dX12_changed_49 : decode cX12_changed 49 = .ok (.aload_n 0, 1) := by decide +kernel
theorem dX12_changed_50 : decode cX12_changed 50 = .ok (.getfield 25, 3) := by decide +kernel
theorem dX12_changed_53 : decode cX12_changed 53 = .ok (.aload_n 0, 1) := by decide +kernel
theorem dX12_changed_54 : decode cX12_changed 54 = .ok (.getfield 83, 3) := by decide +kernel
theorem dX12_changed_57 : decode cX12_changed 57 = .ok (.iload_n 1, 1) := by decide +kernel
theorem dX12_changed_58 : decode cX12_changed 58 = .ok (.iastore, 1) := by decide +kernel
theorem dX12_changed_59 : decode cX12_changed 59 = .ok (.aload_n 0, 1) := by decide +kernel
theorem dX12_changed_60 : decode cX12_changed 60 = .ok (.dup, 1) := by decide +kernel
theorem dX12_changed_61 : decode cX12_changed 61 = .ok (.getfield 83, 3) := by decide +kernel
theorem dX12_changed_64 : decode cX12_changed 64 = .ok (.iconst 1, 1) := by decide +kernel
theorem dX12_changed_65 : decode cX12_changed 65 = .ok (.iadd, 1) := by decide +kernel
theorem dX12_changed_66 : decode cX12_changed 66 = .ok (.putfield 83, 3) := by decide +kernel
theorem dX12_changed_69 : decode cX12_changed 69 = .ok (.aload_n 0, 1) := by decide +kernel
theorem dX12_changed_70 : decode cX12_changed 70 = .ok (.iconst 0, 1) := by decide +kernel
theorem dX12_changed_71 : decode cX12_changed 71 = .ok (.putfield 86, 3) := by decide +kernel
theorem dX12_changed_74 : decode cX12_changed 74 = .ok (.return_, 1) := by decide +kernel
set_option maxRecDepth 20000 in
theorem ggX12_place_X12_in : GoodIn wsX12_place wsX12_in := goodIn_r _ [7] (by decide +kernel) (by decide +kernel)
set_option maxRecDepth 20000 in
theorem gX12_place_X12_in : GoodIn wsX12_place (va_wsS RX12 72 yX12_in wsX12_in) := goodIn_app (goodIn_of _ (by decide +kernel)) ggX12_place_X12_in
set_option maxRecDepth 20000 in
theorem ggX12_place_X12_refused : GoodIn wsX12_place wsX12_refused := goodIn_r _ [11, 12, 24, 25, 26, 27, 28, 29, 30, 31, 32, 33, 34, 35, 36, 37, 38, 39, 40, 41, 42, 43, 44, 45, 46, 47, 48, 49, 50, 51, 52, 53, 54, 55] (by decide +kernel) (by decide +kernel)
set_option maxRecDepth 20000 in
theorem gX12_place_X12_refused : GoodIn wsX12_place (wsV RX12 90 RX12 yX12_refused wsX12_refused) := goodIn_app (goodIn_of _ (by decide +kernel)) ggX12_place_X12_refused
set_option maxRecDepth 20000 in
theorem ggX12_place_X12_changed : GoodIn wsX12_place wsX12_changed := goodIn_r _ [16, 17, 18, 19, 24, 25, 26, 27, 28, 29, 30, 31, 32, 33, 34, 35, 36, 37, 38, 39, 40, 41, 42, 43, 44, 45, 46, 47, 48, 49, 50, 51, 52, 53, 54, 55] (by decide +kernel) (by decide +kernel)
set_option maxRecDepth 20000 in
theorem gX12_place_X12_changed : GoodIn wsX12_place (wsV RX12 94 RX12 yX12_changed wsX12_changed) := goodIn_app (goodIn_of _ (by decide +kernel)) ggX12_place_X12_changed
set_option maxRecDepth 20000 in
theorem ggX12_place_X12_done : GoodIn wsX12_place wsX12_done := goodIn_r _ [23, 12, 24, 25, 26, 27, 28, 29, 30, 31, 32, 33, 34, 35, 36, 37, 38, 39, 40, 41, 42, 43, 44, 45, 46, 47, 48, 49, 50, 51, 52, 53, 54, 55] (by decide +kernel) (by decide +kernel)
set_option maxRecDepth 20000 in
theorem gX12_place_X12_done : GoodIn wsX12_place (wsV RX12 98 RX12 yX12_done wsX12_done) := goodIn_app (goodIn_of _ (by decide +kernel)) ggX12_place_X12_done
theorem dX12_place_0 : decode cX12_place 0 = .ok (.iload_n 1, 1) := by decide +kernel
theorem dX12_place_1 : decode cX12_place 1 = .ok (.iconst 2, 1) := by decide +kernel
theorem dX12_place_2 : decode cX12_place 2 = .ok (.if_icmp .eq 8, 3) := by decide +kernel
theorem dX12_place_5 : decode cX12_place 5 = .ok (.iload_n 1, 1) := by decide +kernel
theorem dX12_place_6 : decode cX12_place 6 = .ok (.iconst 4, 1) := by decide +kernel
theorem dX12_place_7 : decode cX12_place 7 = .ok (.if_icmp .ne 7, 3) := by decide +kernel
theorem dX12_place_10 : decode cX12_place 10 = .ok (.iconst 1, 1) := by decide +kernel
theorem dX12_place_11 : decode cX12_place 11 = .ok (.goto 4, 3) := by decide +kernel
theorem dX12_place_14 : decode cX12_place 14 = .ok (.iconst 0, 1) := by decide +kernel
theorem dX12_place_15 : decode cX12_place 15 = .ok (.istore_n 3, 1) := by decide +kernel
theorem dX12_place_16 : decode cX12_place 16 = .ok (.iload_n 1, 1) := by decide +kernel
theorem dX12_place_17 : decode cX12_place 17 = .ok (.iconst 0, 1) := by decide +kernel
theorem dX12_place_18 : decode cX12_place 18 = .ok (.iconst 4, 1) := by decide +kernel
theorem dX12_place_19 : decode cX12_place 19 = .ok (.invokestatic 72, 3) := by decide +kernel
theorem dX12_place_22 : decode cX12_place 22 = .ok (.ifCond .eq 17, 3) := by decide +kernel
theorem dX12_place_25 : decode cX12_place 25 = .ok (.iload_n 3, 1) := by decide +kernel
theorem dX12_place_26 : decode cX12_place 26 = .ok (.ifCond .eq 19, 3) := by decide +kernel
theorem dX12_place_29 : decode cX12_place 29 = .ok (.iload_n 2, 1) := by decide +kernel
theorem dX12_place_30 : decode cX12_place 30 = .ok (.iconst 1, 1) := by decide +kernel
theorem dX12_place_31 : decode cX12_place 31 = .ok (.bipush 100, 2) := by decide +kernel
theorem dX12_place_33 : decode cX12_place 33 = .ok (.invokestatic 72, 3) := by decide +kernel
theorem dX12_place_36 : decode cX12_place 36 = .ok (.ifCond .ne 9, 3) := by decide +kernel
theorem dX12_place_39 : decode cX12_place 39 = .ok (.aload_n 0, 1) := by decide +kernel
theorem dX12_place_40 : decode cX12_place 40 = .ok (.iconst 1, 1) := by decide +kernel
theorem dX12_place_41 : decode cX12_place 41 = .ok (.invokevirtual 90, 3) := by decide +kernel
theorem dX12_place_44 : decode cX12_place 44 = .ok (.ireturn, 1) := by decide +kernel
theorem dX12_place_45 : decode cX12_place 45 = .ok (.aload_n 0, 1) := by decide +kernel
theorem dX12_place_46 : decode cX12_place 46 = .ok (.getfield 69, 3) := by decide +kernel
theorem dX12_place_49 : decode cX12_place 49 = .ok (.bipush 10, 2) := by decide +kernel
theorem dX12_place_51 : decode cX12_place 51 = .ok (.if_icmp .ne 9, 3) := by decide +kernel
theorem dX12_place_54 : decode cX12_place 54 = .ok (.aload_n 0, 1) := by decide +kernel
theorem dX12_place_55 : decode cX12_place 55 = .ok (.iconst 2, 1) := by decide +kernel
theorem dX12_place_56 : decode cX12_place 56 = .ok (.invokevirtual 90, 3) := by decide +kernel
theorem dX12_place_59 : decode cX12_place 59 = .ok (.ireturn, 1) := by decide +kernel
theorem dX12_place_60 : decode cX12_place 60 = .ok (.iconst 0, 1) := by decide +kernel
theorem dX12_place_61 : decode cX12_place 61 = .ok (.istore 4, 2) := by decide +kernel
theorem dX12_place_63 : decode cX12_place 63 = .ok (.iload 4, 2) := by decide +kernel
theorem dX12_place_65 : decode cX12_place 65 = .ok (.aload_n 0, 1) := by decide +kernel
theorem dX12_place_66 : decode cX12_place 66 = .ok (.getfield 69, 3) := by decide +kernel
theorem dX12_place_69 : decode cX12_place 69 = .ok (.if_icmp .ge 31, 3) := by decide +kernel
theorem dX12_place_72 : decode cX12_place 72 = .ok (.iload_n 1, 1) := by decide +kernel
theorem dX12_place_73 : decode cX12_place 73 = .ok (.iconst 3, 1) := by decide +kernel
theorem dX12_place_74 : decode cX12_place 74 = .ok (.if_icmp .ne 20, 3) := by decide +kernel
theorem dX12_place_77 : decode cX12_place 77 = .ok (.aload_n 0, 1) := by decide +kernel
theorem dX12_place_78 : decode cX12_place 78 = .ok (.getfield 7, 3) := by decide +kernel
theorem dX12_place_81 : decode cX12_place 81 = .ok (.iload 4, 2) := by decide +kernel
theorem dX12_place_83 : decode cX12_place 83 = .ok (.iaload, 1) := by decide +kernel
theorem dX12_place_84 : decode cX12_place 84 = .ok (.iconst 3, 1) := by decide +kernel
theorem dX12_place_85 : decode cX12_place 85 = .ok (.if_icmp .ne 9, 3) := by decide +kernel
theorem dX12_place_88 : decode cX12_place 88 = .ok (.aload_n 0, 1) := by decide +kernel
theorem dX12_place_89 : decode cX12_place 89 = .ok (.iconst 3, 1) := by decide +kernel
theorem dX12_place_90 : decode cX12_place 90 = .ok (.invokevirtual 90, 3) := by decide +kernel
theorem dX12_place_93 : decode cX12_place 93 = .ok (.ireturn, 1) := by decide +kernel
theorem dX12_place_94 : decode cX12_place 94 = .ok (.iinc 4 1, 3) := by decide +kernel
theorem dX12_place_97 : decode cX12_place 97 = .ok (.goto (-34), 3) := by decide +kernel
theorem dX12_place_100 : decode cX12_place 100 = .ok (.aload_n 0, 1) := by decide +kernel
theorem dX12_place_101 : decode cX12_place 101 = .ok (.getfield 7, 3) := by decide +kernel
theorem dX12_place_104 : decode cX12_place 104 = .ok (.aload_n 0, 1) := by decide +kernel
theorem dX12_place_105 : decode cX12_place 105 = .ok (.getfield 69, 3) := by decide +kernel
theorem dX12_place_108 : decode cX12_place 108 = .ok (.iload_n 1, 1) := by decide +kernel
theorem dX12_place_109 : decode cX12_place 109 = .ok (.iastore, 1) := by decide +kernel
theorem dX12_place_110 : decode cX12_place 110 = .ok (.aload_n 0, 1) := by decide +kernel
theorem dX12_place_111 : decode cX12_place 111 = .ok (.getfield 13, 3) := by decide +kernel
theorem dX12_place_114 : decode cX12_place 114 = .ok (.aload_n 0, 1) := by decide +kernel
theorem dX12_place_115 : decode cX12_place 115 = .ok (.getfield 69, 3) := by decide +kernel
theorem dX12_place_118 : decode cX12_place 118 = .ok (.iload_n 3, 1) := by decide +kernel
theorem dX12_place_119 : decode cX12_place 119 = .ok (.ifCond .eq 7, 3) := by decide +kernel
theorem dX12_place_122 : decode cX12_place 122 = .ok (.iload_n 2, 1) := by decide +kernel
theorem dX12_place_123 : decode cX12_place 123 = .ok (.goto 4, 3) := by decide +kernel
theorem dX12_place_126 : decode cX12_place 126 = .ok (.iconst 0, 1) := by decide +kernel
theorem dX12_place_127 : decode cX12_place 127 = .ok (.iastore, 1) := by decide +kernel
theorem dX12_place_128 : decode cX12_place 128 = .ok (.aload_n 0, 1) := by decide +kernel
theorem dX12_place_129 : decode cX12_place 129 = .ok (.dup, 1) := by decide +kernel
theorem dX12_place_130 : decode cX12_place 130 = .ok (.getfield 69, 3) := by decide +kernel
theorem dX12_place_133 : decode cX12_place 133 = .ok (.iconst 1, 1) := by decide +kernel
theorem dX12_place_134 : decode cX12_place 134 = .ok (.iadd, 1) := by decide +kernel
theorem dX12_place_135 : decode cX12_place 135 = .ok (.putfield 69, 3) := by decide +kernel
theorem dX12_place_138 : decode cX12_place 138 = .ok (.aload_n 0, 1) := by decide +kernel
theorem dX12_place_139 : decode cX12_place 139 = .ok (.iconst 1, 1) := by decide +kernel
theorem dX12_place_140 : decode cX12_place 140 = .ok (.invokevirtual 94, 3) := by decide +kernel
theorem dX12_place_143 : decode cX12_place 143 = .ok (.aload_n 0, 1) := by decide +kernel
theorem dX12_place_144 : decode cX12_place 144 = .ok (.aload_n 0, 1) := by decide +kernel
theorem dX12_place_145 : decode cX12_place 145 = .ok (.getfield 69, 3) := by decide +kernel
theorem dX12_place_148 : decode cX12_place 148 = .ok (.iconst 1, 1) := by decide +kernel
theorem dX12_place_149 : decode cX12_place 149 = .ok (.isub, 1) := by decide +kernel
theorem dX12_place_150 : decode cX12_place 150 = .ok (.invokevirtual 98, 3) := by decide +kernel
theorem dX12_place_153 : decode cX12_place 153 = .ok (.ireturn, 1) := by decide +kernel
set_option maxRecDepth 20000 in
theorem ggX12_made_X12_changed : GoodIn wsX12_made wsX12_changed := goodIn_r _ [10, 11, 12, 13, 19, 20, 21, 22, 23, 24, 25, 26, 27, 28, 29, 30, 31, 32, 33, 34, 35, 36, 37, 38, 39, 40, 41, 42, 43, 44, 45, 46, 47, 48, 49, 50] (by decide +kernel) (by decide +kernel)
set_option maxRecDepth 20000 in
theorem gX12_made_X12_changed : GoodIn wsX12_made (wsV RX12 94 RX12 yX12_changed wsX12_changed) := goodIn_app (goodIn_of _ (by decide +kernel)) ggX12_made_X12_changed
set_option maxRecDepth 20000 in
theorem ggX12_made_X12_done : GoodIn wsX12_made wsX12_done := goodIn_r _ [17, 18, 19, 20, 21, 22, 23, 24, 25, 26, 27, 28, 29, 30, 31, 32, 33, 34, 35, 36, 37, 38, 39, 40, 41, 42, 43, 44, 45, 46, 47, 48, 49, 50] (by decide +kernel) (by decide +kernel)
set_option maxRecDepth 20000 in
theorem gX12_made_X12_done : GoodIn wsX12_made (wsV RX12 98 RX12 yX12_done wsX12_done) := goodIn_app (goodIn_of _ (by decide +kernel)) ggX12_made_X12_done
theorem dX12_made_0 : decode cX12_made 0 = .ok (.aload_n 0, 1) := by decide +kernel
theorem dX12_made_1 : decode cX12_made 1 = .ok (.getfield 16, 3) := by decide +kernel
theorem dX12_made_4 : decode cX12_made 4 = .ok (.aload_n 0, 1) := by decide +kernel
theorem dX12_made_5 : decode cX12_made 5 = .ok (.getfield 76, 3) := by decide +kernel
theorem dX12_made_8 : decode cX12_made 8 = .ok (.iload_n 1, 1) := by decide +kernel
theorem dX12_made_9 : decode cX12_made 9 = .ok (.iastore, 1) := by decide +kernel
theorem dX12_made_10 : decode cX12_made 10 = .ok (.aload_n 0, 1) := by decide +kernel
theorem dX12_made_11 : decode cX12_made 11 = .ok (.getfield 19, 3) := by decide +kernel
theorem dX12_made_14 : decode cX12_made 14 = .ok (.aload_n 0, 1) := by decide +kernel
theorem dX12_made_15 : decode cX12_made 15 = .ok (.getfield 76, 3) := by decide +kernel
theorem dX12_made_18 : decode cX12_made 18 = .ok (.iload_n 2, 1) := by decide +kernel
theorem dX12_made_19 : decode cX12_made 19 = .ok (.iastore, 1) := by decide +kernel
theorem dX12_made_20 : decode cX12_made 20 = .ok (.aload_n 0, 1) := by decide +kernel
theorem dX12_made_21 : decode cX12_made 21 = .ok (.getfield 22, 3) := by decide +kernel
theorem dX12_made_24 : decode cX12_made 24 = .ok (.aload_n 0, 1) := by decide +kernel
theorem dX12_made_25 : decode cX12_made 25 = .ok (.getfield 76, 3) := by decide +kernel
theorem dX12_made_28 : decode cX12_made 28 = .ok (.iload_n 3, 1) := by decide +kernel
theorem dX12_made_29 : decode cX12_made 29 = .ok (.iastore, 1) := by decide +kernel
theorem dX12_made_30 : decode cX12_made 30 = .ok (.aload_n 0, 1) := by decide +kernel
theorem dX12_made_31 : decode cX12_made 31 = .ok (.dup, 1) := by decide +kernel
theorem dX12_made_32 : decode cX12_made 32 = .ok (.getfield 101, 3) := by decide +kernel
theorem dX12_made_35 : decode cX12_made 35 = .ok (.iconst 1, 1) := by decide +kernel
theorem dX12_made_36 : decode cX12_made 36 = .ok (.aload_n 0, 1) := by decide +kernel
theorem dX12_made_37 : decode cX12_made 37 = .ok (.getfield 76, 3) := by decide +kernel
theorem dX12_made_40 : decode cX12_made 40 = .ok (.ishl, 1) := by decide +kernel
theorem dX12_made_41 : decode cX12_made 41 = .ok (.ior, 1) := by decide +kernel
theorem dX12_made_42 : decode cX12_made 42 = .ok (.putfield 101, 3) := by decide +kernel
theorem dX12_made_45 : decode cX12_made 45 = .ok (.aload_n 0, 1) := by decide +kernel
theorem dX12_made_46 : decode cX12_made 46 = .ok (.dup, 1) := by decide +kernel
theorem dX12_made_47 : decode cX12_made 47 = .ok (.getfield 76, 3) := by decide +kernel
theorem dX12_made_50 : decode cX12_made 50 = .ok (.iconst 1, 1) := by decide +kernel
theorem dX12_made_51 : decode cX12_made 51 = .ok (.iadd, 1) := by decide +kernel
theorem dX12_made_52 : decode cX12_made 52 = .ok (.putfield 76, 3) := by decide +kernel
theorem dX12_made_55 : decode cX12_made 55 = .ok (.aload_n 0, 1) := by decide +kernel
theorem dX12_made_56 : decode cX12_made 56 = .ok (.iconst 2, 1) := by decide +kernel
theorem dX12_made_57 : decode cX12_made 57 = .ok (.invokevirtual 94, 3) := by decide +kernel
theorem dX12_made_60 : decode cX12_made 60 = .ok (.aload_n 0, 1) := by decide +kernel
theorem dX12_made_61 : decode cX12_made 61 = .ok (.aload_n 0, 1) := by decide +kernel
theorem dX12_made_62 : decode cX12_made 62 = .ok (.getfield 76, 3) := by decide +kernel
theorem dX12_made_65 : decode cX12_made 65 = .ok (.iconst 1, 1) := by decide +kernel
theorem dX12_made_66 : decode cX12_made 66 = .ok (.isub, 1) := by decide +kernel
theorem dX12_made_67 : decode cX12_made 67 = .ok (.invokevirtual 98, 3) := by decide +kernel
theorem dX12_made_70 : decode cX12_made 70 = .ok (.ireturn, 1) := by decide +kernel
set_option maxRecDepth 20000 in
theorem ggX12_isGood_X12_isPlace : GoodIn wsX12_isGood wsX12_isPlace := goodIn_r _ [5, 6, 7, 8, 4, 9, 10, 11, 12, 13, 14, 15, 16, 17, 18, 19, 20, 21, 22, 23, 24, 25, 26, 27, 28, 29, 30, 31, 32, 33, 34, 35, 36, 37, 38, 39, 40, 41] (by decide +kernel) (by decide +kernel)
set_option maxRecDepth 20000 in
theorem gX12_isGood_X12_isPlace : GoodIn wsX12_isGood (wsV RX12 104 RX12 yX12_isPlace wsX12_isPlace) := goodIn_app (goodIn_of _ (by decide +kernel)) ggX12_isGood_X12_isPlace
set_option maxRecDepth 20000 in
theorem ggX12_isGood_X12_in : GoodIn wsX12_isGood wsX12_in := goodIn_r _ [9] (by decide +kernel) (by decide +kernel)
set_option maxRecDepth 20000 in
theorem gX12_isGood_X12_in : GoodIn wsX12_isGood (va_wsS RX12 72 yX12_in wsX12_in) := goodIn_app (goodIn_of _ (by decide +kernel)) ggX12_isGood_X12_in
theorem dX12_isGood_0 : decode cX12_isGood 0 = .ok (.aload_n 0, 1) := by decide +kernel
theorem dX12_isGood_1 : decode cX12_isGood 1 = .ok (.iload_n 1, 1) := by decide +kernel
theorem dX12_isGood_2 : decode cX12_isGood 2 = .ok (.invokevirtual 104, 3) := by decide +kernel
theorem dX12_isGood_5 : decode cX12_isGood 5 = .ok (.ifCond .eq 30, 3) := by decide +kernel
theorem dX12_isGood_8 : decode cX12_isGood 8 = .ok (.aload_n 0, 1) := by decide +kernel
theorem dX12_isGood_9 : decode cX12_isGood 9 = .ok (.iload_n 2, 1) := by decide +kernel
theorem dX12_isGood_10 : decode cX12_isGood 10 = .ok (.invokevirtual 104, 3) := by decide +kernel
theorem dX12_isGood_13 : decode cX12_isGood 13 = .ok (.ifCond .eq 22, 3) := by decide +kernel
theorem dX12_isGood_16 : decode cX12_isGood 16 = .ok (.iload_n 1, 1) := by decide +kernel
theorem dX12_isGood_17 : decode cX12_isGood 17 = .ok (.iload_n 2, 1) := by decide +kernel
theorem dX12_isGood_18 : decode cX12_isGood 18 = .ok (.if_icmp .eq 17, 3) := by decide +kernel
theorem dX12_isGood_21 : decode cX12_isGood 21 = .ok (.iload_n 3, 1) := by decide +kernel
theorem dX12_isGood_22 : decode cX12_isGood 22 = .ok (.iconst 1, 1) := by decide +kernel
theorem dX12_isGood_23 : decode cX12_isGood 23 = .ok (.bipush 100, 2) := by decide +kernel
theorem dX12_isGood_25 : decode cX12_isGood 25 = .ok (.invokestatic 72, 3) := by decide +kernel
theorem dX12_isGood_28 : decode cX12_isGood 28 = .ok (.ifCond .eq 7, 3) := by decide +kernel
theorem dX12_isGood_31 : decode cX12_isGood 31 = .ok (.iconst 1, 1) := by decide +kernel
theorem dX12_isGood_32 : decode cX12_isGood 32 = .ok (.goto 4, 3) := by decide +kernel
theorem dX12_isGood_35 : decode cX12_isGood 35 = .ok (.iconst 0, 1) := by decide +kernel
theorem dX12_isGood_36 : decode cX12_isGood 36 = .ok (.ireturn, 1) := by decide +kernel
set_option maxRecDepth 20000 in
theorem ggX12_street_X12_isGood : GoodIn wsX12_street wsX12_isGood := goodIn_r _ [6, 7, 8, 9, 5, 10, 11, 12, 13, 14, 39, 40, 41, 42, 43, 44, 45, 46, 47, 48, 49, 50, 51, 52, 53, 54, 55, 56, 57, 58, 59, 60, 61, 62, 63, 64, 65, 66, 67, 68, 69, 70] (by decide +kernel) (by decide +kernel)
set_option maxRecDepth 20000 in
theorem gX12_street_X12_isGood : GoodIn wsX12_street (wsV RX12 107 RX12 yX12_isGood wsX12_isGood) := goodIn_app (goodIn_of _ (by decide +kernel)) ggX12_street_X12_isGood
set_option maxRecDepth 20000 in
theorem ggX12_street_X12_refused : GoodIn wsX12_street wsX12_refused := goodIn_r _ [18, 19, 39, 40, 41, 42, 43, 44, 45, 46, 47, 48, 49, 50, 51, 52, 53, 54, 55, 56, 57, 58, 59, 60, 61, 62, 63, 64, 65, 66, 67, 68, 69, 70] (by decide +kernel) (by decide +kernel)
set_option maxRecDepth 20000 in
theorem gX12_street_X12_refused : GoodIn wsX12_street (wsV RX12 90 RX12 yX12_refused wsX12_refused) := goodIn_app (goodIn_of _ (by decide +kernel)) ggX12_street_X12_refused
set_option maxRecDepth 20000 in
theorem ggX12_street_X12_made : GoodIn wsX12_street wsX12_made := goodIn_r _ [23, 24, 1, 25, 26, 27, 28, 29, 30, 5, 31, 32, 33, 34, 35, 36, 37, 38, 19, 39, 40, 41, 42, 43, 44, 45, 46, 47, 48, 49, 50, 51, 52, 53, 54, 55, 56, 57, 58, 59, 60, 61, 62, 63, 64, 65, 66, 67, 68, 69, 70] (by decide +kernel) (by decide +kernel)
set_option maxRecDepth 20000 in
theorem gX12_street_X12_made : GoodIn wsX12_street (wsV RX12 110 RX12 yX12_made wsX12_made) := goodIn_app (goodIn_of _ (by decide +kernel)) ggX12_street_X12_made
theorem dX12_street_0 : decode cX12_street 0 = .ok (.aload_n 0, 1) := by decide +kernel
theorem dX12_street_1 : decode cX12_street 1 = .ok (.iload_n 1, 1) := by decide +kernel
theorem dX12_street_2 : decode cX12_street 2 = .ok (.iload_n 2, 1) := by decide +kernel
theorem dX12_street_3 : decode cX12_street 3 = .ok (.iload_n 3, 1) := by decide +kernel
theorem dX12_street_4 : decode cX12_street 4 = .ok (.invokevirtual 107, 3) := by decide +kernel
theorem dX12_street_7 : decode cX12_street 7 = .ok (.ifCond .ne 11, 3) := by decide +kernel
theorem dX12_street_10 : decode cX12_street 10 = .ok (.aload_n 0, 1) := by decide +kernel
theorem dX12_street_11 : decode cX12_street 11 = .ok (.iconst 1, 1) := by decide +kernel
theorem dX12_street_12 : decode cX12_street 12 = .ok (.invokevirtual 90, 3) := by decide +kernel
theorem dX12_street_15 : decode cX12_street 15 = .ok (.goto 27, 3) := by decide +kernel
theorem dX12_street_18 : decode cX12_street 18 = .ok (.aload_n 0, 1) := by decide +kernel
theorem dX12_street_19 : decode cX12_street 19 = .ok (.getfield 76, 3) := by decide +kernel
theorem dX12_street_22 : decode cX12_street 22 = .ok (.bipush 16, 2) := by decide +kernel
theorem dX12_street_24 : decode cX12_street 24 = .ok (.if_icmp .ne 11, 3) := by decide +kernel
theorem dX12_street_27 : decode cX12_street 27 = .ok (.aload_n 0, 1) := by decide +kernel
theorem dX12_street_28 : decode cX12_street 28 = .ok (.iconst 2, 1) := by decide +kernel
theorem dX12_street_29 : decode cX12_street 29 = .ok (.invokevirtual 90, 3) := by decide +kernel
theorem dX12_street_32 : decode cX12_street 32 = .ok (.goto 10, 3) := by decide +kernel
theorem dX12_street_35 : decode cX12_street 35 = .ok (.aload_n 0, 1) := by decide +kernel
theorem dX12_street_36 : decode cX12_street 36 = .ok (.iload_n 1, 1) := by decide +kernel
theorem dX12_street_37 : decode cX12_street 37 = .ok (.iload_n 2, 1) := by decide +kernel
theorem dX12_street_38 : decode cX12_street 38 = .ok (.iload_n 3, 1) := by decide +kernel
theorem dX12_street_39 : decode cX12_street 39 = .ok (.invokevirtual 110, 3) := by decide +kernel
theorem dX12_street_42 : decode cX12_street 42 = .ok (.ireturn, 1) := by decide +kernel
set_option maxRecDepth 20000 in
theorem ggX12_drop_X12_isStreet : GoodIn wsX12_drop wsX12_isStreet := goodIn_r _ [7, 8, 9, 10, 6, 11, 31, 32, 33, 34, 35, 36, 37, 38, 39, 40, 41, 42, 43, 44, 45, 46, 47, 48, 49, 50, 51, 52, 53, 54, 55, 56, 57, 58, 59, 60, 61, 62] (by decide +kernel) (by decide +kernel)
set_option maxRecDepth 20000 in
theorem gX12_drop_X12_isStreet : GoodIn wsX12_drop (wsV RX12 114 RX12 yX12_isStreet wsX12_isStreet) := goodIn_app (goodIn_of _ (by decide +kernel)) ggX12_drop_X12_isStreet
set_option maxRecDepth 20000 in
theorem ggX12_drop_X12_refused : GoodIn wsX12_drop wsX12_refused := goodIn_r _ [15, 16, 31, 32, 33, 34, 35, 36, 37, 38, 39, 40, 41, 42, 43, 44, 45, 46, 47, 48, 49, 50, 51, 52, 53, 54, 55, 56, 57, 58, 59, 60, 61, 62] (by decide +kernel) (by decide +kernel)
set_option maxRecDepth 20000 in
theorem gX12_drop_X12_refused : GoodIn wsX12_drop (wsV RX12 90 RX12 yX12_refused wsX12_refused) := goodIn_app (goodIn_of _ (by decide +kernel)) ggX12_drop_X12_refused
set_option maxRecDepth 20000 in
theorem ggX12_drop_X12_has : GoodIn wsX12_drop wsX12_has := goodIn_r _ [19] (by decide +kernel) (by decide +kernel)
set_option maxRecDepth 20000 in
theorem gX12_drop_X12_has : GoodIn wsX12_drop (va_wsS RX12 117 yX12_has wsX12_has) := goodIn_app (goodIn_of _ (by decide +kernel)) ggX12_drop_X12_has
set_option maxRecDepth 20000 in
theorem ggX12_drop_X12_changed : GoodIn wsX12_drop wsX12_changed := goodIn_r _ [23, 24, 25, 26, 31, 32, 33, 34, 35, 36, 37, 38, 39, 40, 41, 42, 43, 44, 45, 46, 47, 48, 49, 50, 51, 52, 53, 54, 55, 56, 57, 58, 59, 60, 61, 62] (by decide +kernel) (by decide +kernel)
set_option maxRecDepth 20000 in
theorem gX12_drop_X12_changed : GoodIn wsX12_drop (wsV RX12 94 RX12 yX12_changed wsX12_changed) := goodIn_app (goodIn_of _ (by decide +kernel)) ggX12_drop_X12_changed
set_option maxRecDepth 20000 in
theorem ggX12_drop_X12_done : GoodIn wsX12_drop wsX12_done := goodIn_r _ [30, 16, 31, 32, 33, 34, 35, 36, 37, 38, 39, 40, 41, 42, 43, 44, 45, 46, 47, 48, 49, 50, 51, 52, 53, 54, 55, 56, 57, 58, 59, 60, 61, 62] (by decide +kernel) (by decide +kernel)
set_option maxRecDepth 20000 in
theorem gX12_drop_X12_done : GoodIn wsX12_drop (wsV RX12 98 RX12 yX12_done wsX12_done) := goodIn_app (goodIn_of _ (by decide +kernel)) ggX12_drop_X12_done
theorem dX12_drop_0 : decode cX12_drop 0 = .ok (.aload_n 0, 1) := by decide +kernel
theorem dX12_drop_1 : decode cX12_drop 1 = .ok (.iload_n 1, 1) := by decide +kernel
theorem dX12_drop_2 : decode cX12_drop 2 = .ok (.invokevirtual 114, 3) := by decide +kernel
theorem dX12_drop_5 : decode cX12_drop 5 = .ok (.ifCond .ne 9, 3) := by decide +kernel
theorem dX12_drop_8 : decode cX12_drop 8 = .ok (.aload_n 0, 1) := by decide +kernel
theorem dX12_drop_9 : decode cX12_drop 9 = .ok (.iconst 1, 1) := by decide +kernel
theorem dX12_drop_10 : decode cX12_drop 10 = .ok (.invokevirtual 90, 3) := by decide +kernel
theorem dX12_drop_13 : decode cX12_drop 13 = .ok (.ireturn, 1) := by decide +kernel
theorem dX12_drop_14 : decode cX12_drop 14 = .ok (.aload_n 0, 1) := by decide +kernel
theorem dX12_drop_15 : decode cX12_drop 15 = .ok (.getfield 101, 3) := by decide +kernel
theorem dX12_drop_18 : decode cX12_drop 18 = .ok (.iload_n 1, 1) := by decide +kernel
theorem dX12_drop_19 : decode cX12_drop 19 = .ok (.invokestatic 117, 3) := by decide +kernel
theorem dX12_drop_22 : decode cX12_drop 22 = .ok (.ifCond .ne 9, 3) := by decide +kernel
theorem dX12_drop_25 : decode cX12_drop 25 = .ok (.aload_n 0, 1) := by decide +kernel
theorem dX12_drop_26 : decode cX12_drop 26 = .ok (.iconst 3, 1) := by decide +kernel
theorem dX12_drop_27 : decode cX12_drop 27 = .ok (.invokevirtual 90, 3) := by decide +kernel
theorem dX12_drop_30 : decode cX12_drop 30 = .ok (.ireturn, 1) := by decide +kernel
theorem dX12_drop_31 : decode cX12_drop 31 = .ok (.aload_n 0, 1) := by decide +kernel
theorem dX12_drop_32 : decode cX12_drop 32 = .ok (.dup, 1) := by decide +kernel
theorem dX12_drop_33 : decode cX12_drop 33 = .ok (.getfield 101, 3) := by decide +kernel
theorem dX12_drop_36 : decode cX12_drop 36 = .ok (.iconst 1, 1) := by decide +kernel
theorem dX12_drop_37 : decode cX12_drop 37 = .ok (.iload_n 1, 1) := by decide +kernel
theorem dX12_drop_38 : decode cX12_drop 38 = .ok (.ishl, 1) := by decide +kernel
theorem dX12_drop_39 : decode cX12_drop 39 = .ok (.iconst (-1), 1) := by decide +kernel
theorem dX12_drop_40 : decode cX12_drop 40 = .ok (.ixor, 1) := by decide +kernel
theorem dX12_drop_41 : decode cX12_drop 41 = .ok (.iand, 1) := by decide +kernel
theorem dX12_drop_42 : decode cX12_drop 42 = .ok (.putfield 101, 3) := by decide +kernel
theorem dX12_drop_45 : decode cX12_drop 45 = .ok (.aload_n 0, 1) := by decide +kernel
theorem dX12_drop_46 : decode cX12_drop 46 = .ok (.dup, 1) := by decide +kernel
theorem dX12_drop_47 : decode cX12_drop 47 = .ok (.getfield 121, 3) := by decide +kernel
theorem dX12_drop_50 : decode cX12_drop 50 = .ok (.iconst 1, 1) := by decide +kernel
theorem dX12_drop_51 : decode cX12_drop 51 = .ok (.iload_n 1, 1) := by decide +kernel
theorem dX12_drop_52 : decode cX12_drop 52 = .ok (.ishl, 1) := by decide +kernel
theorem dX12_drop_53 : decode cX12_drop 53 = .ok (.iconst (-1), 1) := by decide +kernel
theorem dX12_drop_54 : decode cX12_drop 54 = .ok (.ixor, 1) := by decide +kernel
theorem dX12_drop_55 : decode cX12_drop 55 = .ok (.iand, 1) := by decide +kernel
theorem dX12_drop_56 : decode cX12_drop 56 = .ok (.putfield 121, 3) := by decide +kernel
theorem dX12_drop_59 : decode cX12_drop 59 = .ok (.aload_n 0, 1) := by decide +kernel
theorem dX12_drop_60 : decode cX12_drop 60 = .ok (.iconst 3, 1) := by decide +kernel
theorem dX12_drop_61 : decode cX12_drop 61 = .ok (.iload_n 1, 1) := by decide +kernel
theorem dX12_drop_62 : decode cX12_drop 62 = .ok (.iadd, 1) := by decide +kernel
theorem dX12_drop_63 : decode cX12_drop 63 = .ok (.invokevirtual 94, 3) := by decide +kernel
theorem dX12_drop_66 : decode cX12_drop 66 = .ok (.aload_n 0, 1) := by decide +kernel
theorem dX12_drop_67 : decode cX12_drop 67 = .ok (.iconst 1, 1) := by decide +kernel
theorem dX12_drop_68 : decode cX12_drop 68 = .ok (.invokevirtual 98, 3) := by decide +kernel
theorem dX12_drop_71 : decode cX12_drop 71 = .ok (.ireturn, 1) := by decide +kernel
set_option maxRecDepth 20000 in
theorem ggX12_undo_X12_refused : GoodIn wsX12_undo wsX12_refused := goodIn_r _ [12, 13, 18, 19, 20, 21, 22, 23, 24, 25, 26, 27, 28, 29, 30, 31, 32, 33, 34, 35, 36, 37, 38, 39, 40, 41, 42, 43, 44, 45, 46, 47, 48, 49] (by decide +kernel) (by decide +kernel)
set_option maxRecDepth 20000 in
theorem gX12_undo_X12_refused : GoodIn wsX12_undo (wsV RX12 90 RX12 yX12_refused wsX12_refused) := goodIn_app (goodIn_of _ (by decide +kernel)) ggX12_undo_X12_refused
set_option maxRecDepth 20000 in
theorem ggX12_undo_X12_done : GoodIn wsX12_undo wsX12_done := goodIn_r _ [17, 13, 18, 19, 20, 21, 22, 23, 24, 25, 26, 27, 28, 29, 30, 31, 32, 33, 34, 35, 36, 37, 38, 39, 40, 41, 42, 43, 44, 45, 46, 47, 48, 49] (by decide +kernel) (by decide +kernel)
set_option maxRecDepth 20000 in
theorem gX12_undo_X12_done : GoodIn wsX12_undo (wsV RX12 98 RX12 yX12_done wsX12_done) := goodIn_app (goodIn_of _ (by decide +kernel)) ggX12_undo_X12_done
theorem dX12_undo_0 : decode cX12_undo 0 = .ok (.aload_n 0, 1) := by decide +kernel
theorem dX12_undo_1 : decode cX12_undo 1 = .ok (.getfield 83, 3) := by decide +kernel
theorem dX12_undo_4 : decode cX12_undo 4 = .ok (.ifCond .ne 9, 3) := by decide +kernel
theorem dX12_undo_7 : decode cX12_undo 7 = .ok (.aload_n 0, 1) := by decide +kernel
theorem dX12_undo_8 : decode cX12_undo 8 = .ok (.iconst 3, 1) := by decide +kernel
theorem dX12_undo_9 : decode cX12_undo 9 = .ok (.invokevirtual 90, 3) := by decide +kernel
theorem dX12_undo_12 : decode cX12_undo 12 = .ok (.ireturn, 1) := by decide +kernel
theorem dX12_undo_13 : decode cX12_undo 13 = .ok (.aload_n 0, 1) := by decide +kernel
theorem dX12_undo_14 : decode cX12_undo 14 = .ok (.dup, 1) := by decide +kernel
theorem dX12_undo_15 : decode cX12_undo 15 = .ok (.getfield 83, 3) := by decide +kernel
theorem dX12_undo_18 : decode cX12_undo 18 = .ok (.iconst 1, 1) := by decide +kernel
theorem dX12_undo_19 : decode cX12_undo 19 = .ok (.isub, 1) := by decide +kernel
theorem dX12_undo_20 : decode cX12_undo 20 = .ok (.putfield 83, 3) := by decide +kernel
theorem dX12_undo_23 : decode cX12_undo 23 = .ok (.aload_n 0, 1) := by decide +kernel
theorem dX12_undo_24 : decode cX12_undo 24 = .ok (.getfield 25, 3) := by decide +kernel
theorem dX12_undo_27 : decode cX12_undo 27 = .ok (.aload_n 0, 1) := by decide +kernel
theorem dX12_undo_28 : decode cX12_undo 28 = .ok (.getfield 83, 3) := by decide +kernel
theorem dX12_undo_31 : decode cX12_undo 31 = .ok (.iaload, 1) := by decide +kernel
theorem dX12_undo_32 : decode cX12_undo 32 = .ok (.istore_n 1, 1) := by decide +kernel
theorem dX12_undo_33 : decode cX12_undo 33 = .ok (.iload_n 1, 1) := by decide +kernel
theorem dX12_undo_34 : decode cX12_undo 34 = .ok (.iconst 1, 1) := by decide +kernel
theorem dX12_undo_35 : decode cX12_undo 35 = .ok (.if_icmp .ne 16, 3) := by decide +kernel
theorem dX12_undo_38 : decode cX12_undo 38 = .ok (.aload_n 0, 1) := by decide +kernel
theorem dX12_undo_39 : decode cX12_undo 39 = .ok (.dup, 1) := by decide +kernel
theorem dX12_undo_40 : decode cX12_undo 40 = .ok (.getfield 69, 3) := by decide +kernel
theorem dX12_undo_43 : decode cX12_undo 43 = .ok (.iconst 1, 1) := by decide +kernel
theorem dX12_undo_44 : decode cX12_undo 44 = .ok (.isub, 1) := by decide +kernel
theorem dX12_undo_45 : decode cX12_undo 45 = .ok (.putfield 69, 3) := by decide +kernel
theorem dX12_undo_48 : decode cX12_undo 48 = .ok (.goto 52, 3) := by decide +kernel
theorem dX12_undo_51 : decode cX12_undo 51 = .ok (.iload_n 1, 1) := by decide +kernel
theorem dX12_undo_52 : decode cX12_undo 52 = .ok (.iconst 2, 1) := by decide +kernel
theorem dX12_undo_53 : decode cX12_undo 53 = .ok (.if_icmp .ne 33, 3) := by decide +kernel
theorem dX12_undo_56 : decode cX12_undo 56 = .ok (.aload_n 0, 1) := by decide +kernel
theorem dX12_undo_57 : decode cX12_undo 57 = .ok (.dup, 1) := by decide +kernel
theorem dX12_undo_58 : decode cX12_undo 58 = .ok (.getfield 76, 3) := by decide +kernel
theorem dX12_undo_61 : decode cX12_undo 61 = .ok (.iconst 1, 1) := by decide +kernel
theorem dX12_undo_62 : decode cX12_undo 62 = .ok (.isub, 1) := by decide +kernel
theorem dX12_undo_63 : decode cX12_undo 63 = .ok (.putfield 76, 3) := by decide +kernel
theorem dX12_undo_66 : decode cX12_undo 66 = .ok (.aload_n 0, 1) := by decide +kernel
theorem dX12_undo_67 : decode cX12_undo 67 = .ok (.dup, 1) := by decide +kernel
theorem dX12_undo_68 : decode cX12_undo 68 = .ok (.getfield 101, 3) := by decide +kernel
theorem dX12_undo_71 : decode cX12_undo 71 = .ok (.iconst 1, 1) := by decide +kernel
theorem dX12_undo_72 : decode cX12_undo 72 = .ok (.aload_n 0, 1) := by decide +kernel
theorem dX12_undo_73 : decode cX12_undo 73 = .ok (.getfield 76, 3) := by decide +kernel
theorem dX12_undo_76 : decode cX12_undo 76 = .ok (.ishl, 1) := by decide +kernel
theorem dX12_undo_77 : decode cX12_undo 77 = .ok (.iconst (-1), 1) := by decide +kernel
theorem dX12_undo_78 : decode cX12_undo 78 = .ok (.ixor, 1) := by decide +kernel
theorem dX12_undo_79 : decode cX12_undo 79 = .ok (.iand, 1) := by decide +kernel
theorem dX12_undo_80 : decode cX12_undo 80 = .ok (.putfield 101, 3) := by decide +kernel
theorem dX12_undo_83 : decode cX12_undo 83 = .ok (.goto 17, 3) := by decide +kernel
theorem dX12_undo_86 : decode cX12_undo 86 = .ok (.aload_n 0, 1) := by decide +kernel
theorem dX12_undo_87 : decode cX12_undo 87 = .ok (.dup, 1) := by decide +kernel
theorem dX12_undo_88 : decode cX12_undo 88 = .ok (.getfield 101, 3) := by decide +kernel
theorem dX12_undo_91 : decode cX12_undo 91 = .ok (.iconst 1, 1) := by decide +kernel
theorem dX12_undo_92 : decode cX12_undo 92 = .ok (.iload_n 1, 1) := by decide +kernel
theorem dX12_undo_93 : decode cX12_undo 93 = .ok (.iconst 3, 1) := by decide +kernel
theorem dX12_undo_94 : decode cX12_undo 94 = .ok (.isub, 1) := by decide +kernel
theorem dX12_undo_95 : decode cX12_undo 95 = .ok (.ishl, 1) := by decide +kernel
theorem dX12_undo_96 : decode cX12_undo 96 = .ok (.ior, 1) := by decide +kernel
theorem dX12_undo_97 : decode cX12_undo 97 = .ok (.putfield 101, 3) := by decide +kernel
theorem dX12_undo_100 : decode cX12_undo 100 = .ok (.aload_n 0, 1) := by decide +kernel
theorem dX12_undo_101 : decode cX12_undo 101 = .ok (.iconst 0, 1) := by decide +kernel
theorem dX12_undo_102 : decode cX12_undo 102 = .ok (.putfield 121, 3) := by decide +kernel
theorem dX12_undo_105 : decode cX12_undo 105 = .ok (.aload_n 0, 1) := by decide +kernel
theorem dX12_undo_106 : decode cX12_undo 106 = .ok (.iconst 0, 1) := by decide +kernel
theorem dX12_undo_107 : decode cX12_undo 107 = .ok (.putfield 86, 3) := by decide +kernel
theorem dX12_undo_110 : decode cX12_undo 110 = .ok (.aload_n 0, 1) := by decide +kernel
theorem dX12_undo_111 : decode cX12_undo 111 = .ok (.iconst 1, 1) := by decide +kernel
theorem dX12_undo_112 : decode cX12_undo 112 = .ok (.invokevirtual 98, 3) := by decide +kernel
theorem dX12_undo_115 : decode cX12_undo 115 = .ok (.ireturn, 1) := by decide +kernel
set_option maxRecDepth 20000 in
theorem ggX12_degree_X12_has : GoodIn wsX12_degree wsX12_has := goodIn_r _ [7] (by decide +kernel) (by decide +kernel)
set_option maxRecDepth 20000 in
theorem gX12_degree_X12_has : GoodIn wsX12_degree (va_wsS RX12 117 yX12_has wsX12_has) := goodIn_app (goodIn_of _ (by decide +kernel)) ggX12_degree_X12_has
theorem dX12_degree_0 : decode cX12_degree 0 = .ok (.iconst 0, 1) := by decide +kernel
theorem dX12_degree_1 : decode cX12_degree 1 = .ok (.istore_n 3, 1) := by decide +kernel
theorem dX12_degree_2 : decode cX12_degree 2 = .ok (.iconst 0, 1) := by decide +kernel
theorem dX12_degree_3 : decode cX12_degree 3 = .ok (.istore 4, 2) := by decide +kernel
theorem dX12_degree_5 : decode cX12_degree 5 = .ok (.iload 4, 2) := by decide +kernel
theorem dX12_degree_7 : decode cX12_degree 7 = .ok (.aload_n 0, 1) := by decide +kernel
theorem dX12_degree_8 : decode cX12_degree 8 = .ok (.getfield 76, 3) := by decide +kernel
theorem dX12_degree_11 : decode cX12_degree 11 = .ok (.if_icmp .ge 48, 3) := by decide +kernel
theorem dX12_degree_14 : decode cX12_degree 14 = .ok (.iload_n 3, 1) := by decide +kernel
theorem dX12_degree_15 : decode cX12_degree 15 = .ok (.iload_n 2, 1) := by decide +kernel
theorem dX12_degree_16 : decode cX12_degree 16 = .ok (.iload 4, 2) := by decide +kernel
theorem dX12_degree_18 : decode cX12_degree 18 = .ok (.invokestatic 117, 3) := by decide +kernel
theorem dX12_degree_21 : decode cX12_degree 21 = .ok (.ifCond .eq 29, 3) := by decide +kernel
theorem dX12_degree_24 : decode cX12_degree 24 = .ok (.aload_n 0, 1) := by decide +kernel
theorem dX12_degree_25 : decode cX12_degree 25 = .ok (.getfield 16, 3) := by decide +kernel
theorem dX12_degree_28 : decode cX12_degree 28 = .ok (.iload 4, 2) := by decide +kernel
theorem dX12_degree_30 : decode cX12_degree 30 = .ok (.iaload, 1) := by decide +kernel
theorem dX12_degree_31 : decode cX12_degree 31 = .ok (.iload_n 1, 1) := by decide +kernel
theorem dX12_degree_32 : decode cX12_degree 32 = .ok (.if_icmp .eq 14, 3) := by decide +kernel
theorem dX12_degree_35 : decode cX12_degree 35 = .ok (.aload_n 0, 1) := by decide +kernel
theorem dX12_degree_36 : decode cX12_degree 36 = .ok (.getfield 19, 3) := by decide +kernel
theorem dX12_degree_39 : decode cX12_degree 39 = .ok (.iload 4, 2) := by decide +kernel
theorem dX12_degree_41 : decode cX12_degree 41 = .ok (.iaload, 1) := by decide +kernel
theorem dX12_degree_42 : decode cX12_degree 42 = .ok (.iload_n 1, 1) := by decide +kernel
theorem dX12_degree_43 : decode cX12_degree 43 = .ok (.if_icmp .ne 7, 3) := by decide +kernel
theorem dX12_degree_46 : decode cX12_degree 46 = .ok (.iconst 1, 1) := by decide +kernel
theorem dX12_degree_47 : decode cX12_degree 47 = .ok (.goto 4, 3) := by decide +kernel
theorem dX12_degree_50 : decode cX12_degree 50 = .ok (.iconst 0, 1) := by decide +kernel
theorem dX12_degree_51 : decode cX12_degree 51 = .ok (.iadd, 1) := by decide +kernel
theorem dX12_degree_52 : decode cX12_degree 52 = .ok (.istore_n 3, 1) := by decide +kernel
theorem dX12_degree_53 : decode cX12_degree 53 = .ok (.iinc 4 1, 3) := by decide +kernel
theorem dX12_degree_56 : decode cX12_degree 56 = .ok (.goto (-51), 3) := by decide +kernel
theorem dX12_degree_59 : decode cX12_degree 59 = .ok (.iload_n 3, 1) := by decide +kernel
theorem dX12_degree_60 : decode cX12_degree 60 = .ok (.ireturn, 1) := by decide +kernel
set_option maxRecDepth 20000 in
theorem ggX12_told_X12_isPlace : GoodIn wsX12_told wsX12_isPlace := goodIn_r _ [8, 9, 10, 11, 7, 12, 23, 24, 25, 26, 27, 28, 29, 30, 31, 32, 33, 34, 35, 36, 37, 38, 39, 40, 41, 42, 43, 44, 45, 46, 47, 48, 49, 50, 51, 52, 53, 54] (by decide +kernel) (by decide +kernel)
set_option maxRecDepth 20000 in
theorem gX12_told_X12_isPlace : GoodIn wsX12_told (wsV RX12 104 RX12 yX12_isPlace wsX12_isPlace) := goodIn_app (goodIn_of _ (by decide +kernel)) ggX12_told_X12_isPlace
set_option maxRecDepth 20000 in
theorem ggX12_told_X12_degree : GoodIn wsX12_told wsX12_degree := goodIn_r _ [16, 17, 18, 19, 20, 21, 7, 22, 23, 24, 25, 26, 27, 28, 29, 30, 31, 32, 33, 34, 35, 36, 37, 38, 39, 40, 41, 42, 43, 44, 45, 46, 47, 48, 49, 50, 51, 52, 53, 54] (by decide +kernel) (by decide +kernel)
set_option maxRecDepth 20000 in
theorem gX12_told_X12_degree : GoodIn wsX12_told (wsV RX12 124 RX12 yX12_degree wsX12_degree) := goodIn_app (goodIn_of _ (by decide +kernel)) ggX12_told_X12_degree
theorem dX12_told_0 : decode cX12_told 0 = .ok (.aload_n 0, 1) := by decide +kernel
theorem dX12_told_1 : decode cX12_told 1 = .ok (.iload_n 1, 1) := by decide +kernel
theorem dX12_told_2 : decode cX12_told 2 = .ok (.invokevirtual 104, 3) := by decide +kernel
theorem dX12_told_5 : decode cX12_told 5 = .ok (.ifCond .ne 5, 3) := by decide +kernel
theorem dX12_told_8 : decode cX12_told 8 = .ok (.iconst (-1), 1) := by decide +kernel
theorem dX12_told_9 : decode cX12_told 9 = .ok (.ireturn, 1) := by decide +kernel
theorem dX12_told_10 : decode cX12_told 10 = .ok (.iload_n 2, 1) := by decide +kernel
theorem dX12_told_11 : decode cX12_told 11 = .ok (.ifCond .ne 12, 3) := by decide +kernel
theorem dX12_told_14 : decode cX12_told 14 = .ok (.aload_n 0, 1) := by decide +kernel
theorem dX12_told_15 : decode cX12_told 15 = .ok (.getfield 7, 3) := by decide +kernel
theorem dX12_told_18 : decode cX12_told 18 = .ok (.iload_n 1, 1) := by decide +kernel
theorem dX12_told_19 : decode cX12_told 19 = .ok (.iaload, 1) := by decide +kernel
theorem dX12_told_20 : decode cX12_told 20 = .ok (.goto 35, 3) := by decide +kernel
theorem dX12_told_23 : decode cX12_told 23 = .ok (.iload_n 2, 1) := by decide +kernel
theorem dX12_told_24 : decode cX12_told 24 = .ok (.iconst 1, 1) := by decide +kernel
theorem dX12_told_25 : decode cX12_told 25 = .ok (.if_icmp .ne 12, 3) := by decide +kernel
theorem dX12_told_28 : decode cX12_told 28 = .ok (.aload_n 0, 1) := by decide +kernel
theorem dX12_told_29 : decode cX12_told 29 = .ok (.getfield 13, 3) := by decide +kernel
theorem dX12_told_32 : decode cX12_told 32 = .ok (.iload_n 1, 1) := by decide +kernel
theorem dX12_told_33 : decode cX12_told 33 = .ok (.iaload, 1) := by decide +kernel
theorem dX12_told_34 : decode cX12_told 34 = .ok (.goto 21, 3) := by decide +kernel
theorem dX12_told_37 : decode cX12_told 37 = .ok (.iload_n 2, 1) := by decide +kernel
theorem dX12_told_38 : decode cX12_told 38 = .ok (.iconst 2, 1) := by decide +kernel
theorem dX12_told_39 : decode cX12_told 39 = .ok (.if_icmp .ne 15, 3) := by decide +kernel
theorem dX12_told_42 : decode cX12_told 42 = .ok (.aload_n 0, 1) := by decide +kernel
theorem dX12_told_43 : decode cX12_told 43 = .ok (.iload_n 1, 1) := by decide +kernel
theorem dX12_told_44 : decode cX12_told 44 = .ok (.aload_n 0, 1) := by decide +kernel
theorem dX12_told_45 : decode cX12_told 45 = .ok (.getfield 101, 3) := by decide +kernel
theorem dX12_told_48 : decode cX12_told 48 = .ok (.invokevirtual 124, 3) := by decide +kernel
theorem dX12_told_51 : decode cX12_told 51 = .ok (.goto 4, 3) := by decide +kernel
theorem dX12_told_54 : decode cX12_told 54 = .ok (.iconst (-1), 1) := by decide +kernel
theorem dX12_told_55 : decode cX12_told 55 = .ok (.ireturn, 1) := by decide +kernel
set_option maxRecDepth 20000 in
theorem ggX12_streetTold_X12_isStreet : GoodIn wsX12_streetTold wsX12_isStreet := goodIn_r _ [10, 11, 12, 13, 9, 14, 15, 16, 17, 18, 19, 20, 21, 22, 23, 24, 25, 26, 27, 28, 29, 30, 31, 32, 33, 34, 35, 36, 37, 38, 39, 40, 41, 42, 43, 44, 45, 46] (by decide +kernel) (by decide +kernel)
set_option maxRecDepth 20000 in
theorem gX12_streetTold_X12_isStreet : GoodIn wsX12_streetTold (wsV RX12 114 RX12 yX12_isStreet wsX12_isStreet) := goodIn_app (goodIn_of _ (by decide +kernel)) ggX12_streetTold_X12_isStreet
theorem dX12_streetTold_0 : decode cX12_streetTold 0 = .ok (.aload_n 0, 1) := by decide +kernel
theorem dX12_streetTold_1 : decode cX12_streetTold 1 = .ok (.iload_n 1, 1) := by decide +kernel
theorem dX12_streetTold_2 : decode cX12_streetTold 2 = .ok (.invokevirtual 114, 3) := by decide +kernel
theorem dX12_streetTold_5 : decode cX12_streetTold 5 = .ok (.ifCond .ne 5, 3) := by decide +kernel
theorem dX12_streetTold_8 : decode cX12_streetTold 8 = .ok (.iconst (-1), 1) := by decide +kernel
theorem dX12_streetTold_9 : decode cX12_streetTold 9 = .ok (.ireturn, 1) := by decide +kernel
theorem dX12_streetTold_10 : decode cX12_streetTold 10 = .ok (.iload_n 2, 1) := by decide +kernel
theorem dX12_streetTold_11 : decode cX12_streetTold 11 = .ok (.tableswitch 72 0 4 #[33, 40, 47, 54, 63], 33) := by decide +kernel
theorem dX12_streetTold_44 : decode cX12_streetTold 44 = .ok (.aload_n 0, 1) := by decide +kernel
theorem dX12_streetTold_45 : decode cX12_streetTold 45 = .ok (.getfield 16, 3) := by decide +kernel
theorem dX12_streetTold_48 : decode cX12_streetTold 48 = .ok (.iload_n 1, 1) := by decide +kernel
theorem dX12_streetTold_49 : decode cX12_streetTold 49 = .ok (.iaload, 1) := by decide +kernel
theorem dX12_streetTold_50 : decode cX12_streetTold 50 = .ok (.ireturn, 1) := by decide +kernel
theorem dX12_streetTold_51 : decode cX12_streetTold 51 = .ok (.aload_n 0, 1) := by decide +kernel
theorem dX12_streetTold_52 : decode cX12_streetTold 52 = .ok (.getfield 19, 3) := by decide +kernel
theorem dX12_streetTold_55 : decode cX12_streetTold 55 = .ok (.iload_n 1, 1) := by decide +kernel
theorem dX12_streetTold_56 : decode cX12_streetTold 56 = .ok (.iaload, 1) := by decide +kernel
theorem dX12_streetTold_57 : decode cX12_streetTold 57 = .ok (.ireturn, 1) := by decide +kernel
theorem dX12_streetTold_58 : decode cX12_streetTold 58 = .ok (.aload_n 0, 1) := by decide +kernel
theorem dX12_streetTold_59 : decode cX12_streetTold 59 = .ok (.getfield 22, 3) := by decide +kernel
theorem dX12_streetTold_62 : decode cX12_streetTold 62 = .ok (.iload_n 1, 1) := by decide +kernel
theorem dX12_streetTold_63 : decode cX12_streetTold 63 = .ok (.iaload, 1) := by decide +kernel
theorem dX12_streetTold_64 : decode cX12_streetTold 64 = .ok (.ireturn, 1) := by decide +kernel
theorem dX12_streetTold_65 : decode cX12_streetTold 65 = .ok (.aload_n 0, 1) := by decide +kernel
theorem dX12_streetTold_66 : decode cX12_streetTold 66 = .ok (.getfield 101, 3) := by decide +kernel
theorem dX12_streetTold_69 : decode cX12_streetTold 69 = .ok (.iload_n 1, 1) := by decide +kernel
theorem dX12_streetTold_70 : decode cX12_streetTold 70 = .ok (.ishr, 1) := by decide +kernel
theorem dX12_streetTold_71 : decode cX12_streetTold 71 = .ok (.iconst 1, 1) := by decide +kernel
theorem dX12_streetTold_72 : decode cX12_streetTold 72 = .ok (.iand, 1) := by decide +kernel
theorem dX12_streetTold_73 : decode cX12_streetTold 73 = .ok (.ireturn, 1) := by decide +kernel
theorem dX12_streetTold_74 : decode cX12_streetTold 74 = .ok (.aload_n 0, 1) := by decide +kernel
theorem dX12_streetTold_75 : decode cX12_streetTold 75 = .ok (.getfield 121, 3) := by decide +kernel
theorem dX12_streetTold_78 : decode cX12_streetTold 78 = .ok (.iload_n 1, 1) := by decide +kernel
theorem dX12_streetTold_79 : decode cX12_streetTold 79 = .ok (.ishr, 1) := by decide +kernel
theorem dX12_streetTold_80 : decode cX12_streetTold 80 = .ok (.iconst 1, 1) := by decide +kernel
theorem dX12_streetTold_81 : decode cX12_streetTold 81 = .ok (.iand, 1) := by decide +kernel
theorem dX12_streetTold_82 : decode cX12_streetTold 82 = .ok (.ireturn, 1) := by decide +kernel
theorem dX12_streetTold_83 : decode cX12_streetTold 83 = .ok (.iconst (-1), 1) := by decide +kernel
theorem dX12_streetTold_84 : decode cX12_streetTold 84 = .ok (.ireturn, 1) := by decide +kernel
set_option maxRecDepth 20000 in
theorem ggX12_count_X12_bits : GoodIn wsX12_count wsX12_bits := goodIn_r _ [10] (by decide +kernel) (by decide +kernel)
set_option maxRecDepth 20000 in
theorem gX12_count_X12_bits : GoodIn wsX12_count (va_wsS RX12 128 yX12_bits wsX12_bits) := goodIn_app (goodIn_of _ (by decide +kernel)) ggX12_count_X12_bits
set_option maxRecDepth 20000 in
theorem ggX12_count_X12_taps : GoodIn wsX12_count wsX12_taps := goodIn_r _ [14, 1, 15, 16, 17, 9, 18, 19, 20, 21, 22, 23, 24, 25, 26, 27, 28, 29, 30, 31, 32, 33, 34, 35, 36, 37, 38, 39, 40, 41, 42, 43, 44, 45, 46, 47, 48, 49, 50, 51] (by decide +kernel) (by decide +kernel)
set_option maxRecDepth 20000 in
theorem gX12_count_X12_taps : GoodIn wsX12_count (wsV RX12 131 RX12 yX12_taps wsX12_taps) := goodIn_app (goodIn_of _ (by decide +kernel)) ggX12_count_X12_taps
theorem dX12_count_0 : decode cX12_count 0 = .ok (.iload_n 1, 1) := by decide +kernel
theorem dX12_count_1 : decode cX12_count 1 = .ok (.tableswitch 87 0 6 #[43, 48, 53, 61, 69, 77, 82], 43) := by decide +kernel
theorem dX12_count_44 : decode cX12_count 44 = .ok (.aload_n 0, 1) := by decide +kernel
theorem dX12_count_45 : decode cX12_count 45 = .ok (.getfield 69, 3) := by decide +kernel
theorem dX12_count_48 : decode cX12_count 48 = .ok (.ireturn, 1) := by decide +kernel
theorem dX12_count_49 : decode cX12_count 49 = .ok (.aload_n 0, 1) := by decide +kernel
theorem dX12_count_50 : decode cX12_count 50 = .ok (.getfield 76, 3) := by decide +kernel
theorem dX12_count_53 : decode cX12_count 53 = .ok (.ireturn, 1) := by decide +kernel
theorem dX12_count_54 : decode cX12_count 54 = .ok (.aload_n 0, 1) := by decide +kernel
theorem dX12_count_55 : decode cX12_count 55 = .ok (.getfield 101, 3) := by decide +kernel
theorem dX12_count_58 : decode cX12_count 58 = .ok (.invokestatic 128, 3) := by decide +kernel
theorem dX12_count_61 : decode cX12_count 61 = .ok (.ireturn, 1) := by decide +kernel
theorem dX12_count_62 : decode cX12_count 62 = .ok (.aload_n 0, 1) := by decide +kernel
theorem dX12_count_63 : decode cX12_count 63 = .ok (.invokevirtual 131, 3) := by decide +kernel
theorem dX12_count_66 : decode cX12_count 66 = .ok (.invokestatic 128, 3) := by decide +kernel
theorem dX12_count_69 : decode cX12_count 69 = .ok (.ireturn, 1) := by decide +kernel
theorem dX12_count_70 : decode cX12_count 70 = .ok (.aload_n 0, 1) := by decide +kernel
theorem dX12_count_71 : decode cX12_count 71 = .ok (.getfield 121, 3) := by decide +kernel
theorem dX12_count_74 : decode cX12_count 74 = .ok (.invokestatic 128, 3) := by decide +kernel
theorem dX12_count_77 : decode cX12_count 77 = .ok (.ireturn, 1) := by decide +kernel
theorem dX12_count_78 : decode cX12_count 78 = .ok (.aload_n 0, 1) := by decide +kernel
theorem dX12_count_79 : decode cX12_count 79 = .ok (.getfield 135, 3) := by decide +kernel
theorem dX12_count_82 : decode cX12_count 82 = .ok (.ireturn, 1) := by decide +kernel
theorem dX12_count_83 : decode cX12_count 83 = .ok (.aload_n 0, 1) := by decide +kernel
theorem dX12_count_84 : decode cX12_count 84 = .ok (.getfield 83, 3) := by decide +kernel
theorem dX12_count_87 : decode cX12_count 87 = .ok (.ireturn, 1) := by decide +kernel
theorem dX12_count_88 : decode cX12_count 88 = .ok (.iconst (-1), 1) := by decide +kernel
theorem dX12_count_89 : decode cX12_count 89 = .ok (.ireturn, 1) := by decide +kernel
set_option maxRecDepth 20000 in
theorem ggX12_treeOf_X12_has : GoodIn wsX12_treeOf wsX12_has := goodIn_r _ [10] (by decide +kernel) (by decide +kernel)
set_option maxRecDepth 20000 in
theorem gX12_treeOf_X12_has : GoodIn wsX12_treeOf (va_wsS RX12 117 yX12_has wsX12_has) := goodIn_app (goodIn_of _ (by decide +kernel)) ggX12_treeOf_X12_has
set_option maxRecDepth 20000 in
theorem ggX12_treeOf_X12_taps : GoodIn wsX12_treeOf wsX12_taps := goodIn_r _ [14, 1, 15, 16, 17, 9, 18, 19, 23, 24, 25, 26, 27, 28, 29, 30, 31, 32, 33, 34, 35, 36, 37, 38, 39, 40, 41, 42, 43, 44, 45, 46, 47, 48, 49, 50, 51, 52, 53, 54] (by decide +kernel) (by decide +kernel)
set_option maxRecDepth 20000 in
theorem gX12_treeOf_X12_taps : GoodIn wsX12_treeOf (wsV RX12 131 RX12 yX12_taps wsX12_taps) := goodIn_app (goodIn_of _ (by decide +kernel)) ggX12_treeOf_X12_taps
set_option maxRecDepth 20000 in
theorem ggX12_treeOf_X12_bits : GoodIn wsX12_treeOf wsX12_bits := goodIn_r _ [22] (by decide +kernel) (by decide +kernel)
set_option maxRecDepth 20000 in
theorem gX12_treeOf_X12_bits : GoodIn wsX12_treeOf (va_wsS RX12 128 yX12_bits wsX12_bits) := goodIn_app (goodIn_of _ (by decide +kernel)) ggX12_treeOf_X12_bits
theorem dX12_treeOf_0 : decode cX12_treeOf 0 = .ok (.iconst 0, 1) := by decide +kernel
theorem dX12_treeOf_1 : decode cX12_treeOf 1 = .ok (.istore_n 2, 1) := by decide +kernel
theorem dX12_treeOf_2 : decode cX12_treeOf 2 = .ok (.iload_n 2, 1) := by decide +kernel
theorem dX12_treeOf_3 : decode cX12_treeOf 3 = .ok (.aload_n 0, 1) := by decide +kernel
theorem dX12_treeOf_4 : decode cX12_treeOf 4 = .ok (.getfield 69, 3) := by decide +kernel
theorem dX12_treeOf_7 : decode cX12_treeOf 7 = .ok (.if_icmp .ge 16, 3) := by decide +kernel
theorem dX12_treeOf_10 : decode cX12_treeOf 10 = .ok (.aload_n 0, 1) := by decide +kernel
theorem dX12_treeOf_11 : decode cX12_treeOf 11 = .ok (.getfield 40, 3) := by decide +kernel
theorem dX12_treeOf_14 : decode cX12_treeOf 14 = .ok (.iload_n 2, 1) := by decide +kernel
theorem dX12_treeOf_15 : decode cX12_treeOf 15 = .ok (.iload_n 2, 1) := by decide +kernel
theorem dX12_treeOf_16 : decode cX12_treeOf 16 = .ok (.iastore, 1) := by decide +kernel
theorem dX12_treeOf_17 : decode cX12_treeOf 17 = .ok (.iinc 2 1, 3) := by decide +kernel
theorem dX12_treeOf_20 : decode cX12_treeOf 20 = .ok (.goto (-18), 3) := by decide +kernel
theorem dX12_treeOf_23 : decode cX12_treeOf 23 = .ok (.aload_n 0, 1) := by decide +kernel
theorem dX12_treeOf_24 : decode cX12_treeOf 24 = .ok (.iconst 0, 1) := by decide +kernel
theorem dX12_treeOf_25 : decode cX12_treeOf 25 = .ok (.putfield 138, 3) := by decide +kernel
theorem dX12_treeOf_28 : decode cX12_treeOf 28 = .ok (.iconst 0, 1) := by decide +kernel
theorem dX12_treeOf_29 : decode cX12_treeOf 29 = .ok (.istore_n 2, 1) := by decide +kernel
theorem dX12_treeOf_30 : decode cX12_treeOf 30 = .ok (.iconst 0, 1) := by decide +kernel
theorem dX12_treeOf_31 : decode cX12_treeOf 31 = .ok (.istore_n 3, 1) := by decide +kernel
theorem dX12_treeOf_32 : decode cX12_treeOf 32 = .ok (.iload_n 3, 1) := by decide +kernel
theorem dX12_treeOf_33 : decode cX12_treeOf 33 = .ok (.aload_n 0, 1) := by decide +kernel
theorem dX12_treeOf_34 : decode cX12_treeOf 34 = .ok (.getfield 76, 3) := by decide +kernel
theorem dX12_treeOf_37 : decode cX12_treeOf 37 = .ok (.if_icmp .ge 130, 3) := by decide +kernel
theorem dX12_treeOf_40 : decode cX12_treeOf 40 = .ok (.iload_n 1, 1) := by decide +kernel
theorem dX12_treeOf_41 : decode cX12_treeOf 41 = .ok (.iload_n 3, 1) := by decide +kernel
theorem dX12_treeOf_42 : decode cX12_treeOf 42 = .ok (.invokestatic 117, 3) := by decide +kernel
theorem dX12_treeOf_45 : decode cX12_treeOf 45 = .ok (.ifCond .eq 116, 3) := by decide +kernel
theorem dX12_treeOf_48 : decode cX12_treeOf 48 = .ok (.aload_n 0, 1) := by decide +kernel
theorem dX12_treeOf_49 : decode cX12_treeOf 49 = .ok (.getfield 40, 3) := by decide +kernel
theorem dX12_treeOf_52 : decode cX12_treeOf 52 = .ok (.aload_n 0, 1) := by decide +kernel
theorem dX12_treeOf_53 : decode cX12_treeOf 53 = .ok (.getfield 16, 3) := by decide +kernel
theorem dX12_treeOf_56 : decode cX12_treeOf 56 = .ok (.iload_n 3, 1) := by decide +kernel
theorem dX12_treeOf_57 : decode cX12_treeOf 57 = .ok (.iaload, 1) := by decide +kernel
theorem dX12_treeOf_58 : decode cX12_treeOf 58 = .ok (.iaload, 1) := by decide +kernel
theorem dX12_treeOf_59 : decode cX12_treeOf 59 = .ok (.istore 4, 2) := by decide +kernel
theorem dX12_treeOf_61 : decode cX12_treeOf 61 = .ok (.aload_n 0, 1) := by decide +kernel
theorem dX12_treeOf_62 : decode cX12_treeOf 62 = .ok (.getfield 40, 3) := by decide +kernel
theorem dX12_treeOf_65 : decode cX12_treeOf 65 = .ok (.aload_n 0, 1) := by decide +kernel
theorem dX12_treeOf_66 : decode cX12_treeOf 66 = .ok (.getfield 19, 3) := by decide +kernel
theorem dX12_treeOf_69 : decode cX12_treeOf 69 = .ok (.iload_n 3, 1) := by decide +kernel
theorem dX12_treeOf_70 : decode cX12_treeOf 70 = .ok (.iaload, 1) := by decide +kernel
theorem dX12_treeOf_71 : decode cX12_treeOf 71 = .ok (.iaload, 1) := by decide +kernel
theorem dX12_treeOf_72 : decode cX12_treeOf 72 = .ok (.istore 5, 2) := by decide +kernel
theorem dX12_treeOf_74 : decode cX12_treeOf 74 = .ok (.iload 4, 2) := by decide +kernel
theorem dX12_treeOf_76 : decode cX12_treeOf 76 = .ok (.iload 5, 2) := by decide +kernel
theorem dX12_treeOf_78 : decode cX12_treeOf 78 = .ok (.if_icmp .ne 5, 3) := by decide +kernel
theorem dX12_treeOf_81 : decode cX12_treeOf 81 = .ok (.iconst 1, 1) := by decide +kernel
theorem dX12_treeOf_82 : decode cX12_treeOf 82 = .ok (.ireturn, 1) := by decide +kernel
theorem dX12_treeOf_83 : decode cX12_treeOf 83 = .ok (.iconst 0, 1) := by decide +kernel
theorem dX12_treeOf_84 : decode cX12_treeOf 84 = .ok (.istore 6, 2) := by decide +kernel
theorem dX12_treeOf_86 : decode cX12_treeOf 86 = .ok (.iload 6, 2) := by decide +kernel
theorem dX12_treeOf_88 : decode cX12_treeOf 88 = .ok (.aload_n 0, 1) := by decide +kernel
theorem dX12_treeOf_89 : decode cX12_treeOf 89 = .ok (.getfield 69, 3) := by decide +kernel
theorem dX12_treeOf_92 : decode cX12_treeOf 92 = .ok (.if_icmp .ge 40, 3) := by decide +kernel
theorem dX12_treeOf_95 : decode cX12_treeOf 95 = .ok (.aload_n 0, 1) := by decide +kernel
theorem dX12_treeOf_96 : decode cX12_treeOf 96 = .ok (.getfield 40, 3) := by decide +kernel
theorem dX12_treeOf_99 : decode cX12_treeOf 99 = .ok (.iload 6, 2) := by decide +kernel
theorem dX12_treeOf_101 : decode cX12_treeOf 101 = .ok (.aload_n 0, 1) := by decide +kernel
theorem dX12_treeOf_102 : decode cX12_treeOf 102 = .ok (.getfield 40, 3) := by decide +kernel
theorem dX12_treeOf_105 : decode cX12_treeOf 105 = .ok (.iload 6, 2) := by decide +kernel
theorem dX12_treeOf_107 : decode cX12_treeOf 107 = .ok (.iaload, 1) := by decide +kernel
theorem dX12_treeOf_108 : decode cX12_treeOf 108 = .ok (.iload 4, 2) := by decide +kernel
theorem dX12_treeOf_110 : decode cX12_treeOf 110 = .ok (.if_icmp .ne 8, 3) := by decide +kernel
theorem dX12_treeOf_113 : decode cX12_treeOf 113 = .ok (.iload 5, 2) := by decide +kernel
theorem dX12_treeOf_115 : decode cX12_treeOf 115 = .ok (.goto 10, 3) := by decide +kernel
theorem dX12_treeOf_118 : decode cX12_treeOf 118 = .ok (.aload_n 0, 1) := by decide +kernel
theorem dX12_treeOf_119 : decode cX12_treeOf 119 = .ok (.getfield 40, 3) := by decide +kernel
theorem dX12_treeOf_122 : decode cX12_treeOf 122 = .ok (.iload 6, 2) := by decide +kernel
theorem dX12_treeOf_124 : decode cX12_treeOf 124 = .ok (.iaload, 1) := by decide +kernel
theorem dX12_treeOf_125 : decode cX12_treeOf 125 = .ok (.iastore, 1) := by decide +kernel
theorem dX12_treeOf_126 : decode cX12_treeOf 126 = .ok (.iinc 6 1, 3) := by decide +kernel
theorem dX12_treeOf_129 : decode cX12_treeOf 129 = .ok (.goto (-43), 3) := by decide +kernel
theorem dX12_treeOf_132 : decode cX12_treeOf 132 = .ok (.aload_n 0, 1) := by decide +kernel
theorem dX12_treeOf_133 : decode cX12_treeOf 133 = .ok (.dup, 1) := by decide +kernel
theorem dX12_treeOf_134 : decode cX12_treeOf 134 = .ok (.getfield 138, 3) := by decide +kernel
theorem dX12_treeOf_137 : decode cX12_treeOf 137 = .ok (.iconst 1, 1) := by decide +kernel
theorem dX12_treeOf_138 : decode cX12_treeOf 138 = .ok (.aload_n 0, 1) := by decide +kernel
theorem dX12_treeOf_139 : decode cX12_treeOf 139 = .ok (.getfield 16, 3) := by decide +kernel
theorem dX12_treeOf_142 : decode cX12_treeOf 142 = .ok (.iload_n 3, 1) := by decide +kernel
theorem dX12_treeOf_143 : decode cX12_treeOf 143 = .ok (.iaload, 1) := by decide +kernel
theorem dX12_treeOf_144 : decode cX12_treeOf 144 = .ok (.ishl, 1) := by decide +kernel
theorem dX12_treeOf_145 : decode cX12_treeOf 145 = .ok (.iconst 1, 1) := by decide +kernel
theorem dX12_treeOf_146 : decode cX12_treeOf 146 = .ok (.aload_n 0, 1) := by decide +kernel
theorem dX12_treeOf_147 : decode cX12_treeOf 147 = .ok (.getfield 19, 3) := by decide +kernel
theorem dX12_treeOf_150 : decode cX12_treeOf 150 = .ok (.iload_n 3, 1) := by decide +kernel
theorem dX12_treeOf_151 : decode cX12_treeOf 151 = .ok (.iaload, 1) := by decide +kernel
theorem dX12_treeOf_152 : decode cX12_treeOf 152 = .ok (.ishl, 1) := by decide +kernel
theorem dX12_treeOf_153 : decode cX12_treeOf 153 = .ok (.ior, 1) := by decide +kernel
theorem dX12_treeOf_154 : decode cX12_treeOf 154 = .ok (.ior, 1) := by decide +kernel
theorem dX12_treeOf_155 : decode cX12_treeOf 155 = .ok (.putfield 138, 3) := by decide +kernel
theorem dX12_treeOf_158 : decode cX12_treeOf 158 = .ok (.iinc 2 1, 3) := by decide +kernel
theorem dX12_treeOf_161 : decode cX12_treeOf 161 = .ok (.iinc 3 1, 3) := by decide +kernel
theorem dX12_treeOf_164 : decode cX12_treeOf 164 = .ok (.goto (-132), 3) := by decide +kernel
theorem dX12_treeOf_167 : decode cX12_treeOf 167 = .ok (.aload_n 0, 1) := by decide +kernel
theorem dX12_treeOf_168 : decode cX12_treeOf 168 = .ok (.invokevirtual 131, 3) := by decide +kernel
theorem dX12_treeOf_171 : decode cX12_treeOf 171 = .ok (.istore_n 3, 1) := by decide +kernel
theorem dX12_treeOf_172 : decode cX12_treeOf 172 = .ok (.iload_n 2, 1) := by decide +kernel
theorem dX12_treeOf_173 : decode cX12_treeOf 173 = .ok (.ifCond .ne 23, 3) := by decide +kernel
theorem dX12_treeOf_176 : decode cX12_treeOf 176 = .ok (.aload_n 0, 1) := by decide +kernel
theorem dX12_treeOf_177 : decode cX12_treeOf 177 = .ok (.iload_n 3, 1) := by decide +kernel
theorem dX12_treeOf_178 : decode cX12_treeOf 178 = .ok (.invokestatic 128, 3) := by decide +kernel
theorem dX12_treeOf_181 : decode cX12_treeOf 181 = .ok (.iconst 1, 1) := by decide +kernel
theorem dX12_treeOf_182 : decode cX12_treeOf 182 = .ok (.if_icmp .ne 7, 3) := by decide +kernel
theorem dX12_treeOf_185 : decode cX12_treeOf 185 = .ok (.iload_n 3, 1) := by decide +kernel
theorem dX12_treeOf_186 : decode cX12_treeOf 186 = .ok (.goto 4, 3) := by decide +kernel
theorem dX12_treeOf_189 : decode cX12_treeOf 189 = .ok (.iconst 0, 1) := by decide +kernel
theorem dX12_treeOf_190 : decode cX12_treeOf 190 = .ok (.putfield 138, 3) := by decide +kernel
theorem dX12_treeOf_193 : decode cX12_treeOf 193 = .ok (.goto 18, 3) := by decide +kernel
theorem dX12_treeOf_196 : decode cX12_treeOf 196 = .ok (.aload_n 0, 1) := by decide +kernel
theorem dX12_treeOf_197 : decode cX12_treeOf 197 = .ok (.getfield 138, 3) := by decide +kernel
theorem dX12_treeOf_200 : decode cX12_treeOf 200 = .ok (.invokestatic 128, 3) := by decide +kernel
theorem dX12_treeOf_203 : decode cX12_treeOf 203 = .ok (.iload_n 2, 1) := by decide +kernel
theorem dX12_treeOf_204 : decode cX12_treeOf 204 = .ok (.iconst 1, 1) := by decide +kernel
theorem dX12_treeOf_205 : decode cX12_treeOf 205 = .ok (.iadd, 1) := by decide +kernel
theorem dX12_treeOf_206 : decode cX12_treeOf 206 = .ok (.if_icmp .eq 5, 3) := by decide +kernel
theorem dX12_treeOf_209 : decode cX12_treeOf 209 = .ok (.iconst 2, 1) := by decide +kernel
theorem dX12_treeOf_210 : decode cX12_treeOf 210 = .ok (.ireturn, 1) := by decide +kernel
theorem dX12_treeOf_211 : decode cX12_treeOf 211 = .ok (.iload_n 3, 1) := by decide +kernel
theorem dX12_treeOf_212 : decode cX12_treeOf 212 = .ok (.ifCond .eq 14, 3) := by decide +kernel
theorem dX12_treeOf_215 : decode cX12_treeOf 215 = .ok (.iload_n 3, 1) := by decide +kernel
theorem dX12_treeOf_216 : decode cX12_treeOf 216 = .ok (.aload_n 0, 1) := by decide +kernel
theorem dX12_treeOf_217 : decode cX12_treeOf 217 = .ok (.getfield 138, 3) := by decide +kernel
theorem dX12_treeOf_220 : decode cX12_treeOf 220 = .ok (.iconst (-1), 1) := by decide +kernel
theorem dX12_treeOf_221 : decode cX12_treeOf 221 = .ok (.ixor, 1) := by decide +kernel
theorem dX12_treeOf_222 : decode cX12_treeOf 222 = .ok (.iand, 1) := by decide +kernel
theorem dX12_treeOf_223 : decode cX12_treeOf 223 = .ok (.ifCond .eq 7, 3) := by decide +kernel
theorem dX12_treeOf_226 : decode cX12_treeOf 226 = .ok (.iconst 3, 1) := by decide +kernel
theorem dX12_treeOf_227 : decode cX12_treeOf 227 = .ok (.goto 4, 3) := by decide +kernel
theorem dX12_treeOf_230 : decode cX12_treeOf 230 = .ok (.iconst 0, 1) := by decide +kernel
theorem dX12_treeOf_231 : decode cX12_treeOf 231 = .ok (.ireturn, 1) := by decide +kernel
set_option maxRecDepth 20000 in
theorem ggX12_costOf_X12_has : GoodIn wsX12_costOf wsX12_has := goodIn_r _ [10] (by decide +kernel) (by decide +kernel)
set_option maxRecDepth 20000 in
theorem gX12_costOf_X12_has : GoodIn wsX12_costOf (va_wsS RX12 117 yX12_has wsX12_has) := goodIn_app (goodIn_of _ (by decide +kernel)) ggX12_costOf_X12_has
theorem dX12_costOf_0 : decode cX12_costOf 0 = .ok (.iconst 0, 1) := by decide +kernel
theorem dX12_costOf_1 : decode cX12_costOf 1 = .ok (.istore_n 2, 1) := by decide +kernel
theorem dX12_costOf_2 : decode cX12_costOf 2 = .ok (.iconst 0, 1) := by decide +kernel
theorem dX12_costOf_3 : decode cX12_costOf 3 = .ok (.istore_n 3, 1) := by decide +kernel
theorem dX12_costOf_4 : decode cX12_costOf 4 = .ok (.iload_n 3, 1) := by decide +kernel
theorem dX12_costOf_5 : decode cX12_costOf 5 = .ok (.aload_n 0, 1) := by decide +kernel
theorem dX12_costOf_6 : decode cX12_costOf 6 = .ok (.getfield 76, 3) := by decide +kernel
theorem dX12_costOf_9 : decode cX12_costOf 9 = .ok (.if_icmp .ge 30, 3) := by decide +kernel
theorem dX12_costOf_12 : decode cX12_costOf 12 = .ok (.iload_n 2, 1) := by decide +kernel
theorem dX12_costOf_13 : decode cX12_costOf 13 = .ok (.iload_n 1, 1) := by decide +kernel
theorem dX12_costOf_14 : decode cX12_costOf 14 = .ok (.iload_n 3, 1) := by decide +kernel
theorem dX12_costOf_15 : decode cX12_costOf 15 = .ok (.invokestatic 117, 3) := by decide +kernel
theorem dX12_costOf_18 : decode cX12_costOf 18 = .ok (.ifCond .eq 12, 3) := by decide +kernel
theorem dX12_costOf_21 : decode cX12_costOf 21 = .ok (.aload_n 0, 1) := by decide +kernel
theorem dX12_costOf_22 : decode cX12_costOf 22 = .ok (.getfield 22, 3) := by decide +kernel
theorem dX12_costOf_25 : decode cX12_costOf 25 = .ok (.iload_n 3, 1) := by decide +kernel
theorem dX12_costOf_26 : decode cX12_costOf 26 = .ok (.iaload, 1) := by decide +kernel
theorem dX12_costOf_27 : decode cX12_costOf 27 = .ok (.goto 4, 3) := by decide +kernel
theorem dX12_costOf_30 : decode cX12_costOf 30 = .ok (.iconst 0, 1) := by decide +kernel
theorem dX12_costOf_31 : decode cX12_costOf 31 = .ok (.iadd, 1) := by decide +kernel
theorem dX12_costOf_32 : decode cX12_costOf 32 = .ok (.istore_n 2, 1) := by decide +kernel
theorem dX12_costOf_33 : decode cX12_costOf 33 = .ok (.iinc 3 1, 3) := by decide +kernel
theorem dX12_costOf_36 : decode cX12_costOf 36 = .ok (.goto (-32), 3) := by decide +kernel
theorem dX12_costOf_39 : decode cX12_costOf 39 = .ok (.iconst 0, 1) := by decide +kernel
theorem dX12_costOf_40 : decode cX12_costOf 40 = .ok (.istore_n 3, 1) := by decide +kernel
theorem dX12_costOf_41 : decode cX12_costOf 41 = .ok (.iload_n 3, 1) := by decide +kernel
theorem dX12_costOf_42 : decode cX12_costOf 42 = .ok (.aload_n 0, 1) := by decide +kernel
theorem dX12_costOf_43 : decode cX12_costOf 43 = .ok (.getfield 69, 3) := by decide +kernel
theorem dX12_costOf_46 : decode cX12_costOf 46 = .ok (.if_icmp .ge 43, 3) := by decide +kernel
theorem dX12_costOf_49 : decode cX12_costOf 49 = .ok (.iload_n 2, 1) := by decide +kernel
theorem dX12_costOf_50 : decode cX12_costOf 50 = .ok (.aload_n 0, 1) := by decide +kernel
theorem dX12_costOf_51 : decode cX12_costOf 51 = .ok (.getfield 138, 3) := by decide +kernel
theorem dX12_costOf_54 : decode cX12_costOf 54 = .ok (.iload_n 3, 1) := by decide +kernel
theorem dX12_costOf_55 : decode cX12_costOf 55 = .ok (.invokestatic 117, 3) := by decide +kernel
theorem dX12_costOf_58 : decode cX12_costOf 58 = .ok (.ifCond .eq 22, 3) := by decide +kernel
theorem dX12_costOf_61 : decode cX12_costOf 61 = .ok (.aload_n 0, 1) := by decide +kernel
theorem dX12_costOf_62 : decode cX12_costOf 62 = .ok (.getfield 7, 3) := by decide +kernel
theorem dX12_costOf_65 : decode cX12_costOf 65 = .ok (.iload_n 3, 1) := by decide +kernel
theorem dX12_costOf_66 : decode cX12_costOf 66 = .ok (.iaload, 1) := by decide +kernel
theorem dX12_costOf_67 : decode cX12_costOf 67 = .ok (.iconst 4, 1) := by decide +kernel
theorem dX12_costOf_68 : decode cX12_costOf 68 = .ok (.if_icmp .ne 12, 3) := by decide +kernel
theorem dX12_costOf_71 : decode cX12_costOf 71 = .ok (.aload_n 0, 1) := by decide +kernel
theorem dX12_costOf_72 : decode cX12_costOf 72 = .ok (.getfield 13, 3) := by decide +kernel
theorem dX12_costOf_75 : decode cX12_costOf 75 = .ok (.iload_n 3, 1) := by decide +kernel
theorem dX12_costOf_76 : decode cX12_costOf 76 = .ok (.iaload, 1) := by decide +kernel
theorem dX12_costOf_77 : decode cX12_costOf 77 = .ok (.goto 4, 3) := by decide +kernel
theorem dX12_costOf_80 : decode cX12_costOf 80 = .ok (.iconst 0, 1) := by decide +kernel
theorem dX12_costOf_81 : decode cX12_costOf 81 = .ok (.iadd, 1) := by decide +kernel
theorem dX12_costOf_82 : decode cX12_costOf 82 = .ok (.istore_n 2, 1) := by decide +kernel
theorem dX12_costOf_83 : decode cX12_costOf 83 = .ok (.iinc 3 1, 3) := by decide +kernel
theorem dX12_costOf_86 : decode cX12_costOf 86 = .ok (.goto (-45), 3) := by decide +kernel
theorem dX12_costOf_89 : decode cX12_costOf 89 = .ok (.iload_n 2, 1) := by decide +kernel
theorem dX12_costOf_90 : decode cX12_costOf 90 = .ok (.ireturn, 1) := by decide +kernel
set_option maxRecDepth 20000 in
theorem ggX12_worthOf_X12_has : GoodIn wsX12_worthOf wsX12_has := goodIn_r _ [8] (by decide +kernel) (by decide +kernel)
set_option maxRecDepth 20000 in
theorem gX12_worthOf_X12_has : GoodIn wsX12_worthOf (va_wsS RX12 117 yX12_has wsX12_has) := goodIn_app (goodIn_of _ (by decide +kernel)) ggX12_worthOf_X12_has
theorem dX12_worthOf_0 : decode cX12_worthOf 0 = .ok (.iconst 0, 1) := by decide +kernel
theorem dX12_worthOf_1 : decode cX12_worthOf 1 = .ok (.istore_n 1, 1) := by decide +kernel
theorem dX12_worthOf_2 : decode cX12_worthOf 2 = .ok (.iconst 0, 1) := by decide +kernel
theorem dX12_worthOf_3 : decode cX12_worthOf 3 = .ok (.istore_n 2, 1) := by decide +kernel
theorem dX12_worthOf_4 : decode cX12_worthOf 4 = .ok (.iload_n 2, 1) := by decide +kernel
theorem dX12_worthOf_5 : decode cX12_worthOf 5 = .ok (.aload_n 0, 1) := by decide +kernel
theorem dX12_worthOf_6 : decode cX12_worthOf 6 = .ok (.getfield 69, 3) := by decide +kernel
theorem dX12_worthOf_9 : decode cX12_worthOf 9 = .ok (.if_icmp .ge 43, 3) := by decide +kernel
theorem dX12_worthOf_12 : decode cX12_worthOf 12 = .ok (.iload_n 1, 1) := by decide +kernel
theorem dX12_worthOf_13 : decode cX12_worthOf 13 = .ok (.aload_n 0, 1) := by decide +kernel
theorem dX12_worthOf_14 : decode cX12_worthOf 14 = .ok (.getfield 138, 3) := by decide +kernel
theorem dX12_worthOf_17 : decode cX12_worthOf 17 = .ok (.iload_n 2, 1) := by decide +kernel
theorem dX12_worthOf_18 : decode cX12_worthOf 18 = .ok (.invokestatic 117, 3) := by decide +kernel
theorem dX12_worthOf_21 : decode cX12_worthOf 21 = .ok (.ifCond .eq 22, 3) := by decide +kernel
theorem dX12_worthOf_24 : decode cX12_worthOf 24 = .ok (.aload_n 0, 1) := by decide +kernel
theorem dX12_worthOf_25 : decode cX12_worthOf 25 = .ok (.getfield 7, 3) := by decide +kernel
theorem dX12_worthOf_28 : decode cX12_worthOf 28 = .ok (.iload_n 2, 1) := by decide +kernel
theorem dX12_worthOf_29 : decode cX12_worthOf 29 = .ok (.iaload, 1) := by decide +kernel
theorem dX12_worthOf_30 : decode cX12_worthOf 30 = .ok (.iconst 2, 1) := by decide +kernel
theorem dX12_worthOf_31 : decode cX12_worthOf 31 = .ok (.if_icmp .ne 12, 3) := by decide +kernel
theorem dX12_worthOf_34 : decode cX12_worthOf 34 = .ok (.aload_n 0, 1) := by decide +kernel
theorem dX12_worthOf_35 : decode cX12_worthOf 35 = .ok (.getfield 13, 3) := by decide +kernel
theorem dX12_worthOf_38 : decode cX12_worthOf 38 = .ok (.iload_n 2, 1) := by decide +kernel
theorem dX12_worthOf_39 : decode cX12_worthOf 39 = .ok (.iaload, 1) := by decide +kernel
theorem dX12_worthOf_40 : decode cX12_worthOf 40 = .ok (.goto 4, 3) := by decide +kernel
theorem dX12_worthOf_43 : decode cX12_worthOf 43 = .ok (.iconst 0, 1) := by decide +kernel
theorem dX12_worthOf_44 : decode cX12_worthOf 44 = .ok (.iadd, 1) := by decide +kernel
theorem dX12_worthOf_45 : decode cX12_worthOf 45 = .ok (.istore_n 1, 1) := by decide +kernel
theorem dX12_worthOf_46 : decode cX12_worthOf 46 = .ok (.iinc 2 1, 3) := by decide +kernel
theorem dX12_worthOf_49 : decode cX12_worthOf 49 = .ok (.goto (-45), 3) := by decide +kernel
theorem dX12_worthOf_52 : decode cX12_worthOf 52 = .ok (.iload_n 1, 1) := by decide +kernel
theorem dX12_worthOf_53 : decode cX12_worthOf 53 = .ok (.ireturn, 1) := by decide +kernel
set_option maxRecDepth 20000 in
theorem ggX12_turned_X12_has : GoodIn wsX12_turned wsX12_has := goodIn_r _ [4] (by decide +kernel) (by decide +kernel)
set_option maxRecDepth 20000 in
theorem gX12_turned_X12_has : GoodIn wsX12_turned (va_wsS RX12 117 yX12_has wsX12_has) := goodIn_app (goodIn_of _ (by decide +kernel)) ggX12_turned_X12_has
theorem dX12_turned_0 : decode cX12_turned 0 = .ok (.iconst 0, 1) := by decide +kernel
theorem dX12_turned_1 : decode cX12_turned 1 = .ok (.istore_n 1, 1) := by decide +kernel
theorem dX12_turned_2 : decode cX12_turned 2 = .ok (.iconst 0, 1) := by decide +kernel
theorem dX12_turned_3 : decode cX12_turned 3 = .ok (.istore_n 2, 1) := by decide +kernel
theorem dX12_turned_4 : decode cX12_turned 4 = .ok (.iload_n 2, 1) := by decide +kernel
theorem dX12_turned_5 : decode cX12_turned 5 = .ok (.bipush 16, 2) := by decide +kernel
theorem dX12_turned_7 : decode cX12_turned 7 = .ok (.if_icmp .ge 30, 3) := by decide +kernel
theorem dX12_turned_10 : decode cX12_turned 10 = .ok (.iload_n 1, 1) := by decide +kernel
theorem dX12_turned_11 : decode cX12_turned 11 = .ok (.iload_n 0, 1) := by decide +kernel
theorem dX12_turned_12 : decode cX12_turned 12 = .ok (.iload_n 2, 1) := by decide +kernel
theorem dX12_turned_13 : decode cX12_turned 13 = .ok (.invokestatic 117, 3) := by decide +kernel
theorem dX12_turned_16 : decode cX12_turned 16 = .ok (.ifCond .eq 12, 3) := by decide +kernel
theorem dX12_turned_19 : decode cX12_turned 19 = .ok (.iconst 1, 1) := by decide +kernel
theorem dX12_turned_20 : decode cX12_turned 20 = .ok (.bipush 15, 2) := by decide +kernel
theorem dX12_turned_22 : decode cX12_turned 22 = .ok (.iload_n 2, 1) := by decide +kernel
theorem dX12_turned_23 : decode cX12_turned 23 = .ok (.isub, 1) := by decide +kernel
theorem dX12_turned_24 : decode cX12_turned 24 = .ok (.ishl, 1) := by decide +kernel
theorem dX12_turned_25 : decode cX12_turned 25 = .ok (.goto 4, 3) := by decide +kernel
theorem dX12_turned_28 : decode cX12_turned 28 = .ok (.iconst 0, 1) := by decide +kernel
theorem dX12_turned_29 : decode cX12_turned 29 = .ok (.ior, 1) := by decide +kernel
theorem dX12_turned_30 : decode cX12_turned 30 = .ok (.istore_n 1, 1) := by decide +kernel
theorem dX12_turned_31 : decode cX12_turned 31 = .ok (.iinc 2 1, 3) := by decide +kernel
theorem dX12_turned_34 : decode cX12_turned 34 = .ok (.goto (-30), 3) := by decide +kernel
theorem dX12_turned_37 : decode cX12_turned 37 = .ok (.iload_n 1, 1) := by decide +kernel
theorem dX12_turned_38 : decode cX12_turned 38 = .ok (.ireturn, 1) := by decide +kernel
set_option maxRecDepth 20000 in
theorem ggX12_know_X12_turned : GoodIn wsX12_know wsX12_turned := goodIn_r _ [14, 15, 16, 13, 17] (by decide +kernel) (by decide +kernel)
set_option maxRecDepth 20000 in
theorem gX12_know_X12_turned : GoodIn wsX12_know (va_wsS RX12 145 yX12_turned wsX12_turned) := goodIn_app (goodIn_of _ (by decide +kernel)) ggX12_know_X12_turned
set_option maxRecDepth 20000 in
theorem ggX12_know_X12_treeOf : GoodIn wsX12_know wsX12_treeOf := goodIn_r _ [21, 22, 23, 24, 25, 26, 27, 15, 16, 13, 17, 28, 29, 30, 31, 32, 33, 34, 35, 36, 37, 38, 39, 50, 51, 52, 53, 54, 55, 56, 57, 58, 59, 60, 61, 62, 63, 64, 65, 66, 67, 68, 69, 70, 71, 72, 73, 74, 75, 76, 77, 78, 79, 80, 81] (by decide +kernel) (by decide +kernel)
set_option maxRecDepth 20000 in
theorem gX12_know_X12_treeOf : GoodIn wsX12_know (wsV RX12 148 RX12 yX12_treeOf wsX12_treeOf) := goodIn_app (goodIn_of _ (by decide +kernel)) ggX12_know_X12_treeOf
set_option maxRecDepth 20000 in
theorem ggX12_know_X12_costOf : GoodIn wsX12_know wsX12_costOf := goodIn_r _ [43, 25, 44, 22, 24, 36, 45, 15, 16, 13, 17, 50, 51, 52, 53, 54, 55, 56, 57, 58, 59, 60, 61, 62, 63, 64, 65, 66, 67, 68, 69, 70, 71, 72, 73, 74, 75, 76, 77, 78, 79, 80, 81] (by decide +kernel) (by decide +kernel)
set_option maxRecDepth 20000 in
theorem gX12_know_X12_costOf : GoodIn wsX12_know (wsV RX12 151 RX12 yX12_costOf wsX12_costOf) := goodIn_app (goodIn_of _ (by decide +kernel)) ggX12_know_X12_costOf
set_option maxRecDepth 20000 in
theorem ggX12_know_X12_worthOf : GoodIn wsX12_know wsX12_worthOf := goodIn_r _ [49, 22, 24, 36, 45, 15, 16, 13, 17, 50, 51, 52, 53, 54, 55, 56, 57, 58, 59, 60, 61, 62, 63, 64, 65, 66, 67, 68, 69, 70, 71, 72, 73, 74, 75, 76, 77, 78, 79, 80, 81] (by decide +kernel) (by decide +kernel)
set_option maxRecDepth 20000 in
theorem gX12_know_X12_worthOf : GoodIn wsX12_know (wsV RX12 154 RX12 yX12_worthOf wsX12_worthOf) := goodIn_app (goodIn_of _ (by decide +kernel)) ggX12_know_X12_worthOf
theorem dX12_know_0 : decode cX12_know 0 = .ok (.aload_n 0, 1) := by decide +kernel
theorem dX12_know_1 : decode cX12_know 1 = .ok (.getfield 86, 3) := by decide +kernel
theorem dX12_know_4 : decode cX12_know 4 = .ok (.ifCond .eq 4, 3) := by decide +kernel
theorem dX12_know_7 : decode cX12_know 7 = .ok (.return_, 1) := by decide +kernel
theorem dX12_know_8 : decode cX12_know 8 = .ok (.aload_n 0, 1) := by decide +kernel
theorem dX12_know_9 : decode cX12_know 9 = .ok (.iconst 1, 1) := by decide +kernel
theorem dX12_know_10 : decode cX12_know 10 = .ok (.putfield 86, 3) := by decide +kernel
theorem dX12_know_13 : decode cX12_know 13 = .ok (.aload_n 0, 1) := by decide +kernel
theorem dX12_know_14 : decode cX12_know 14 = .ok (.iconst 0, 1) := by decide +kernel
theorem dX12_know_15 : decode cX12_know 15 = .ok (.putfield 141, 3) := by decide +kernel
theorem dX12_know_18 : decode cX12_know 18 = .ok (.ldc 144, 2) := by decide +kernel
theorem dX12_know_20 : decode cX12_know 20 = .ok (.istore_n 1, 1) := by decide +kernel
theorem dX12_know_21 : decode cX12_know 21 = .ok (.iload_n 1, 1) := by decide +kernel
theorem dX12_know_22 : decode cX12_know 22 = .ok (.ifCond .lt 80, 3) := by decide +kernel
theorem dX12_know_25 : decode cX12_know 25 = .ok (.iload_n 1, 1) := by decide +kernel
theorem dX12_know_26 : decode cX12_know 26 = .ok (.invokestatic 145, 3) := by decide +kernel
theorem dX12_know_29 : decode cX12_know 29 = .ok (.istore_n 2, 1) := by decide +kernel
theorem dX12_know_30 : decode cX12_know 30 = .ok (.iload_n 2, 1) := by decide +kernel
theorem dX12_know_31 : decode cX12_know 31 = .ok (.aload_n 0, 1) := by decide +kernel
theorem dX12_know_32 : decode cX12_know 32 = .ok (.getfield 101, 3) := by decide +kernel
theorem dX12_know_35 : decode cX12_know 35 = .ok (.iconst (-1), 1) := by decide +kernel
theorem dX12_know_36 : decode cX12_know 36 = .ok (.ixor, 1) := by decide +kernel
theorem dX12_know_37 : decode cX12_know 37 = .ok (.iand, 1) := by decide +kernel
theorem dX12_know_38 : decode cX12_know 38 = .ok (.ifCond .ne 58, 3) := by decide +kernel
theorem dX12_know_41 : decode cX12_know 41 = .ok (.aload_n 0, 1) := by decide +kernel
theorem dX12_know_42 : decode cX12_know 42 = .ok (.iload_n 2, 1) := by decide +kernel
theorem dX12_know_43 : decode cX12_know 43 = .ok (.invokevirtual 148, 3) := by decide +kernel
theorem dX12_know_46 : decode cX12_know 46 = .ok (.ifCond .ne 50, 3) := by decide +kernel
theorem dX12_know_49 : decode cX12_know 49 = .ok (.aload_n 0, 1) := by decide +kernel
theorem dX12_know_50 : decode cX12_know 50 = .ok (.getfield 44, 3) := by decide +kernel
theorem dX12_know_53 : decode cX12_know 53 = .ok (.aload_n 0, 1) := by decide +kernel
theorem dX12_know_54 : decode cX12_know 54 = .ok (.getfield 141, 3) := by decide +kernel
theorem dX12_know_57 : decode cX12_know 57 = .ok (.iload_n 2, 1) := by decide +kernel
theorem dX12_know_58 : decode cX12_know 58 = .ok (.iastore, 1) := by decide +kernel
theorem dX12_know_59 : decode cX12_know 59 = .ok (.aload_n 0, 1) := by decide +kernel
theorem dX12_know_60 : decode cX12_know 60 = .ok (.getfield 47, 3) := by decide +kernel
theorem dX12_know_63 : decode cX12_know 63 = .ok (.aload_n 0, 1) := by decide +kernel
theorem dX12_know_64 : decode cX12_know 64 = .ok (.getfield 141, 3) := by decide +kernel
theorem dX12_know_67 : decode cX12_know 67 = .ok (.aload_n 0, 1) := by decide +kernel
theorem dX12_know_68 : decode cX12_know 68 = .ok (.iload_n 2, 1) := by decide +kernel
theorem dX12_know_69 : decode cX12_know 69 = .ok (.invokevirtual 151, 3) := by decide +kernel
theorem dX12_know_72 : decode cX12_know 72 = .ok (.iastore, 1) := by decide +kernel
theorem dX12_know_73 : decode cX12_know 73 = .ok (.aload_n 0, 1) := by decide +kernel
theorem dX12_know_74 : decode cX12_know 74 = .ok (.getfield 50, 3) := by decide +kernel
theorem dX12_know_77 : decode cX12_know 77 = .ok (.aload_n 0, 1) := by decide +kernel
theorem dX12_know_78 : decode cX12_know 78 = .ok (.getfield 141, 3) := by decide +kernel
theorem dX12_know_81 : decode cX12_know 81 = .ok (.aload_n 0, 1) := by decide +kernel
theorem dX12_know_82 : decode cX12_know 82 = .ok (.invokevirtual 154, 3) := by decide +kernel
theorem dX12_know_85 : decode cX12_know 85 = .ok (.iastore, 1) := by decide +kernel
theorem dX12_know_86 : decode cX12_know 86 = .ok (.aload_n 0, 1) := by decide +kernel
theorem dX12_know_87 : decode cX12_know 87 = .ok (.dup, 1) := by decide +kernel
theorem dX12_know_88 : decode cX12_know 88 = .ok (.getfield 141, 3) := by decide +kernel
theorem dX12_know_91 : decode cX12_know 91 = .ok (.iconst 1, 1) := by decide +kernel
theorem dX12_know_92 : decode cX12_know 92 = .ok (.iadd, 1) := by decide +kernel
theorem dX12_know_93 : decode cX12_know 93 = .ok (.putfield 141, 3) := by decide +kernel
theorem dX12_know_96 : decode cX12_know 96 = .ok (.iinc 1 (-1), 3) := by decide +kernel
theorem dX12_know_99 : decode cX12_know 99 = .ok (.goto (-78), 3) := by decide +kernel
theorem dX12_know_102 : decode cX12_know 102 = .ok (.aload_n 0, 1) := by decide +kernel
theorem dX12_know_103 : decode cX12_know 103 = .ok (.ldc 157, 2) := by decide +kernel
theorem dX12_know_105 : decode cX12_know 105 = .ok (.putfield 158, 3) := by decide +kernel
theorem dX12_know_108 : decode cX12_know 108 = .ok (.aload_n 0, 1) := by decide +kernel
theorem dX12_know_109 : decode cX12_know 109 = .ok (.iconst 0, 1) := by decide +kernel
theorem dX12_know_110 : decode cX12_know 110 = .ok (.putfield 161, 3) := by decide +kernel
theorem dX12_know_113 : decode cX12_know 113 = .ok (.iconst 0, 1) := by decide +kernel
theorem dX12_know_114 : decode cX12_know 114 = .ok (.istore_n 1, 1) := by decide +kernel
theorem dX12_know_115 : decode cX12_know 115 = .ok (.iload_n 1, 1) := by decide +kernel
theorem dX12_know_116 : decode cX12_know 116 = .ok (.aload_n 0, 1) := by decide +kernel
theorem dX12_know_117 : decode cX12_know 117 = .ok (.getfield 141, 3) := by decide +kernel
theorem dX12_know_120 : decode cX12_know 120 = .ok (.if_icmp .ge 88, 3) := by decide +kernel
theorem dX12_know_123 : decode cX12_know 123 = .ok (.aload_n 0, 1) := by decide +kernel
theorem dX12_know_124 : decode cX12_know 124 = .ok (.getfield 47, 3) := by decide +kernel
theorem dX12_know_127 : decode cX12_know 127 = .ok (.iload_n 1, 1) := by decide +kernel
theorem dX12_know_128 : decode cX12_know 128 = .ok (.iaload, 1) := by decide +kernel
theorem dX12_know_129 : decode cX12_know 129 = .ok (.aload_n 0, 1) := by decide +kernel
theorem dX12_know_130 : decode cX12_know 130 = .ok (.getfield 50, 3) := by decide +kernel
theorem dX12_know_133 : decode cX12_know 133 = .ok (.iload_n 1, 1) := by decide +kernel
theorem dX12_know_134 : decode cX12_know 134 = .ok (.iaload, 1) := by decide +kernel
theorem dX12_know_135 : decode cX12_know 135 = .ok (.isub, 1) := by decide +kernel
theorem dX12_know_136 : decode cX12_know 136 = .ok (.istore_n 2, 1) := by decide +kernel
theorem dX12_know_137 : decode cX12_know 137 = .ok (.aload_n 0, 1) := by decide +kernel
theorem dX12_know_138 : decode cX12_know 138 = .ok (.iload_n 1, 1) := by decide +kernel
theorem dX12_know_139 : decode cX12_know 139 = .ok (.ifCond .eq 11, 3) := by decide +kernel
theorem dX12_know_142 : decode cX12_know 142 = .ok (.iload_n 2, 1) := by decide +kernel
theorem dX12_know_143 : decode cX12_know 143 = .ok (.aload_n 0, 1) := by decide +kernel
theorem dX12_know_144 : decode cX12_know 144 = .ok (.getfield 158, 3) := by decide +kernel
theorem dX12_know_147 : decode cX12_know 147 = .ok (.if_icmp .ge 7, 3) := by decide +kernel
theorem dX12_know_150 : decode cX12_know 150 = .ok (.iconst 1, 1) := by decide +kernel
theorem dX12_know_151 : decode cX12_know 151 = .ok (.goto 24, 3) := by decide +kernel
theorem dX12_know_154 : decode cX12_know 154 = .ok (.iload_n 2, 1) := by decide +kernel
theorem dX12_know_155 : decode cX12_know 155 = .ok (.aload_n 0, 1) := by decide +kernel
theorem dX12_know_156 : decode cX12_know 156 = .ok (.getfield 158, 3) := by decide +kernel
theorem dX12_know_159 : decode cX12_know 159 = .ok (.if_icmp .ne 12, 3) := by decide +kernel
theorem dX12_know_162 : decode cX12_know 162 = .ok (.aload_n 0, 1) := by decide +kernel
theorem dX12_know_163 : decode cX12_know 163 = .ok (.getfield 161, 3) := by decide +kernel
theorem dX12_know_166 : decode cX12_know 166 = .ok (.iconst 1, 1) := by decide +kernel
theorem dX12_know_167 : decode cX12_know 167 = .ok (.iadd, 1) := by decide +kernel
theorem dX12_know_168 : decode cX12_know 168 = .ok (.goto 7, 3) := by decide +kernel
theorem dX12_know_171 : decode cX12_know 171 = .ok (.aload_n 0, 1) := by decide +kernel
theorem dX12_know_172 : decode cX12_know 172 = .ok (.getfield 161, 3) := by decide +kernel
theorem dX12_know_175 : decode cX12_know 175 = .ok (.putfield 161, 3) := by decide +kernel
theorem dX12_know_178 : decode cX12_know 178 = .ok (.aload_n 0, 1) := by decide +kernel
theorem dX12_know_179 : decode cX12_know 179 = .ok (.iload_n 1, 1) := by decide +kernel
theorem dX12_know_180 : decode cX12_know 180 = .ok (.ifCond .eq 11, 3) := by decide +kernel
theorem dX12_know_183 : decode cX12_know 183 = .ok (.iload_n 2, 1) := by decide +kernel
theorem dX12_know_184 : decode cX12_know 184 = .ok (.aload_n 0, 1) := by decide +kernel
theorem dX12_know_185 : decode cX12_know 185 = .ok (.getfield 158, 3) := by decide +kernel
theorem dX12_know_188 : decode cX12_know 188 = .ok (.if_icmp .ge 7, 3) := by decide +kernel
theorem dX12_know_191 : decode cX12_know 191 = .ok (.iload_n 2, 1) := by decide +kernel
theorem dX12_know_192 : decode cX12_know 192 = .ok (.goto 7, 3) := by decide +kernel
theorem dX12_know_195 : decode cX12_know 195 = .ok (.aload_n 0, 1) := by decide +kernel
theorem dX12_know_196 : decode cX12_know 196 = .ok (.getfield 158, 3) := by decide +kernel
theorem dX12_know_199 : decode cX12_know 199 = .ok (.putfield 158, 3) := by decide +kernel
theorem dX12_know_202 : decode cX12_know 202 = .ok (.iinc 1 1, 3) := by decide +kernel
theorem dX12_know_205 : decode cX12_know 205 = .ok (.goto (-90), 3) := by decide +kernel
theorem dX12_know_208 : decode cX12_know 208 = .ok (.return_, 1) := by decide +kernel
theorem dX12_isBest_0 : decode cX12_isBest 0 = .ok (.aload_n 0, 1) := by decide +kernel
theorem dX12_isBest_1 : decode cX12_isBest 1 = .ok (.getfield 47, 3) := by decide +kernel
theorem dX12_isBest_4 : decode cX12_isBest 4 = .ok (.iload_n 1, 1) := by decide +kernel
theorem dX12_isBest_5 : decode cX12_isBest 5 = .ok (.iaload, 1) := by decide +kernel
theorem dX12_isBest_6 : decode cX12_isBest 6 = .ok (.aload_n 0, 1) := by decide +kernel
theorem dX12_isBest_7 : decode cX12_isBest 7 = .ok (.getfield 50, 3) := by decide +kernel
theorem dX12_isBest_10 : decode cX12_isBest 10 = .ok (.iload_n 1, 1) := by decide +kernel
theorem dX12_isBest_11 : decode cX12_isBest 11 = .ok (.iaload, 1) := by decide +kernel
theorem dX12_isBest_12 : decode cX12_isBest 12 = .ok (.isub, 1) := by decide +kernel
theorem dX12_isBest_13 : decode cX12_isBest 13 = .ok (.aload_n 0, 1) := by decide +kernel
theorem dX12_isBest_14 : decode cX12_isBest 14 = .ok (.getfield 158, 3) := by decide +kernel
theorem dX12_isBest_17 : decode cX12_isBest 17 = .ok (.if_icmp .ne 7, 3) := by decide +kernel
theorem dX12_isBest_20 : decode cX12_isBest 20 = .ok (.iconst 1, 1) := by decide +kernel
theorem dX12_isBest_21 : decode cX12_isBest 21 = .ok (.goto 4, 3) := by decide +kernel
theorem dX12_isBest_24 : decode cX12_isBest 24 = .ok (.iconst 0, 1) := by decide +kernel
theorem dX12_isBest_25 : decode cX12_isBest 25 = .ok (.ireturn, 1) := by decide +kernel
set_option maxRecDepth 20000 in
theorem ggX12_least_X12_know : GoodIn wsX12_least wsX12_know := goodIn_r _ [8, 9, 1, 10, 11, 12, 13, 14, 2, 3, 15, 16, 17, 7, 18, 19, 20, 21, 22, 23, 24, 25, 26, 27, 28, 29, 30, 31, 32, 33, 34, 35, 36, 37, 38, 39, 40, 41, 42, 43, 44, 45, 46, 47, 48, 49, 50, 51, 52, 53, 54, 55, 56, 57, 58, 59, 60, 61, 62, 63, 64, 65, 66, 67, 68, 69, 70, 71, 72, 73, 74, 75, 76, 77, 78, 79, 80, 81, 82, 83, 84, 85] (by decide +kernel) (by decide +kernel)
set_option maxRecDepth 20000 in
theorem gX12_least_X12_know : GoodIn wsX12_least (wsV RX12 164 RX12 yX12_know wsX12_know) := goodIn_app (goodIn_of _ (by decide +kernel)) ggX12_least_X12_know
theorem dX12_least_0 : decode cX12_least 0 = .ok (.aload_n 0, 1) := by decide +kernel
theorem dX12_least_1 : decode cX12_least 1 = .ok (.invokevirtual 164, 3) := by decide +kernel
theorem dX12_least_4 : decode cX12_least 4 = .ok (.aload_n 0, 1) := by decide +kernel
theorem dX12_least_5 : decode cX12_least 5 = .ok (.getfield 141, 3) := by decide +kernel
theorem dX12_least_8 : decode cX12_least 8 = .ok (.ifCond .ne 8, 3) := by decide +kernel
theorem dX12_least_11 : decode cX12_least 11 = .ok (.ldc 157, 2) := by decide +kernel
theorem dX12_least_13 : decode cX12_least 13 = .ok (.goto 7, 3) := by decide +kernel
theorem dX12_least_16 : decode cX12_least 16 = .ok (.aload_n 0, 1) := by decide +kernel
theorem dX12_least_17 : decode cX12_least 17 = .ok (.getfield 158, 3) := by decide +kernel
theorem dX12_least_20 : decode cX12_least 20 = .ok (.ireturn, 1) := by decide +kernel
set_option maxRecDepth 20000 in
theorem ggX12_many_X12_know : GoodIn wsX12_many wsX12_know := goodIn_r _ [6, 7, 8, 9, 10, 11, 12, 13, 14, 15, 1, 16, 17, 5, 18, 19, 20, 21, 22, 23, 24, 25, 26, 27, 28, 29, 30, 31, 32, 33, 34, 35, 36, 37, 38, 39, 40, 41, 42, 43, 44, 45, 46, 47, 48, 49, 50, 51, 52, 53, 54, 55, 56, 57, 58, 59, 60, 61, 62, 63, 64, 65, 66, 67, 68, 69, 70, 71, 72, 73, 74, 75, 76, 77, 78, 79, 80, 81, 82, 83, 84, 85] (by decide +kernel) (by decide +kernel)
set_option maxRecDepth 20000 in
theorem gX12_many_X12_know : GoodIn wsX12_many (wsV RX12 164 RX12 yX12_know wsX12_know) := goodIn_app (goodIn_of _ (by decide +kernel)) ggX12_many_X12_know
theorem dX12_many_0 : decode cX12_many 0 = .ok (.aload_n 0, 1) := by decide +kernel
theorem dX12_many_1 : decode cX12_many 1 = .ok (.invokevirtual 164, 3) := by decide +kernel
theorem dX12_many_4 : decode cX12_many 4 = .ok (.aload_n 0, 1) := by decide +kernel
theorem dX12_many_5 : decode cX12_many 5 = .ok (.getfield 161, 3) := by decide +kernel
theorem dX12_many_8 : decode cX12_many 8 = .ok (.ireturn, 1) := by decide +kernel
set_option maxRecDepth 20000 in
theorem ggX12_best_X12_know : GoodIn wsX12_best wsX12_know := goodIn_r _ [7, 8, 1, 9, 10, 2, 11, 12, 13, 14, 15, 16, 17, 6, 18, 19, 20, 21, 22, 23, 24, 25, 26, 27, 28, 29, 30, 31, 32, 33, 34, 35, 36, 37, 38, 39, 40, 41, 42, 43, 44, 45, 46, 47, 48, 49, 50, 51, 52, 53, 61, 62, 63, 64, 65, 66, 67, 68, 69, 70, 71, 72, 73, 74, 75, 76, 77, 78, 79, 80, 81, 82, 83, 84, 85, 86, 87, 88, 89, 90, 91, 92] (by decide +kernel) (by decide +kernel)
set_option maxRecDepth 20000 in
theorem gX12_best_X12_know : GoodIn wsX12_best (wsV RX12 164 RX12 yX12_know wsX12_know) := goodIn_app (goodIn_of _ (by decide +kernel)) ggX12_best_X12_know
set_option maxRecDepth 20000 in
theorem ggX12_best_X12_isBest : GoodIn wsX12_best wsX12_isBest := goodIn_r _ [57, 11, 12, 14, 61, 62, 63, 64, 65, 66, 67, 68, 69, 70, 71, 72, 73, 74, 75, 76, 77, 78, 79, 80, 81, 82, 83, 84, 85, 86, 87, 88, 89, 90, 91, 92] (by decide +kernel) (by decide +kernel)
set_option maxRecDepth 20000 in
theorem gX12_best_X12_isBest : GoodIn wsX12_best (wsV RX12 167 RX12 yX12_isBest wsX12_isBest) := goodIn_app (goodIn_of _ (by decide +kernel)) ggX12_best_X12_isBest
set_option maxRecDepth 20000 in
theorem ggX12_best_X12_nth : GoodIn wsX12_best wsX12_nth := goodIn_r _ [60, 19, 20, 6, 21] (by decide +kernel) (by decide +kernel)
set_option maxRecDepth 20000 in
theorem gX12_best_X12_nth : GoodIn wsX12_best (va_wsS RX12 170 yX12_nth wsX12_nth) := goodIn_app (goodIn_of _ (by decide +kernel)) ggX12_best_X12_nth
theorem dX12_best_0 : decode cX12_best 0 = .ok (.aload_n 0, 1) := by decide +kernel
theorem dX12_best_1 : decode cX12_best 1 = .ok (.invokevirtual 164, 3) := by decide +kernel
theorem dX12_best_4 : decode cX12_best 4 = .ok (.iload_n 1, 1) := by decide +kernel
theorem dX12_best_5 : decode cX12_best 5 = .ok (.istore_n 3, 1) := by decide +kernel
theorem dX12_best_6 : decode cX12_best 6 = .ok (.iconst 0, 1) := by decide +kernel
theorem dX12_best_7 : decode cX12_best 7 = .ok (.istore 4, 2) := by decide +kernel
theorem dX12_best_9 : decode cX12_best 9 = .ok (.iload 4, 2) := by decide +kernel
theorem dX12_best_11 : decode cX12_best 11 = .ok (.aload_n 0, 1) := by decide +kernel
theorem dX12_best_12 : decode cX12_best 12 = .ok (.getfield 141, 3) := by decide +kernel
theorem dX12_best_15 : decode cX12_best 15 = .ok (.if_icmp .ge 41, 3) := by decide +kernel
theorem dX12_best_18 : decode cX12_best 18 = .ok (.iload_n 3, 1) := by decide +kernel
theorem dX12_best_19 : decode cX12_best 19 = .ok (.ifCond .lt 37, 3) := by decide +kernel
theorem dX12_best_22 : decode cX12_best 22 = .ok (.aload_n 0, 1) := by decide +kernel
theorem dX12_best_23 : decode cX12_best 23 = .ok (.iload 4, 2) := by decide +kernel
theorem dX12_best_25 : decode cX12_best 25 = .ok (.invokevirtual 167, 3) := by decide +kernel
theorem dX12_best_28 : decode cX12_best 28 = .ok (.ifCond .eq 22, 3) := by decide +kernel
theorem dX12_best_31 : decode cX12_best 31 = .ok (.iload_n 3, 1) := by decide +kernel
theorem dX12_best_32 : decode cX12_best 32 = .ok (.ifCond .ne 15, 3) := by decide +kernel
theorem dX12_best_35 : decode cX12_best 35 = .ok (.aload_n 0, 1) := by decide +kernel
theorem dX12_best_36 : decode cX12_best 36 = .ok (.getfield 44, 3) := by decide +kernel
theorem dX12_best_39 : decode cX12_best 39 = .ok (.iload 4, 2) := by decide +kernel
theorem dX12_best_41 : decode cX12_best 41 = .ok (.iaload, 1) := by decide +kernel
theorem dX12_best_42 : decode cX12_best 42 = .ok (.iload_n 2, 1) := by decide +kernel
theorem dX12_best_43 : decode cX12_best 43 = .ok (.invokestatic 170, 3) := by decide +kernel
theorem dX12_best_46 : decode cX12_best 46 = .ok (.ireturn, 1) := by decide +kernel
theorem dX12_best_47 : decode cX12_best 47 = .ok (.iinc 3 (-1), 3) := by decide +kernel
theorem dX12_best_50 : decode cX12_best 50 = .ok (.iinc 4 1, 3) := by decide +kernel
theorem dX12_best_53 : decode cX12_best 53 = .ok (.goto (-44), 3) := by decide +kernel
theorem dX12_best_56 : decode cX12_best 56 = .ok (.iconst (-1), 1) := by decide +kernel
theorem dX12_best_57 : decode cX12_best 57 = .ok (.ireturn, 1) := by decide +kernel
set_option maxRecDepth 20000 in
theorem ggX12_nth_X12_has : GoodIn wsX12_nth wsX12_has := goodIn_r _ [4] (by decide +kernel) (by decide +kernel)
set_option maxRecDepth 20000 in
theorem gX12_nth_X12_has : GoodIn wsX12_nth (va_wsS RX12 117 yX12_has wsX12_has) := goodIn_app (goodIn_of _ (by decide +kernel)) ggX12_nth_X12_has
theorem dX12_nth_0 : decode cX12_nth 0 = .ok (.iload_n 1, 1) := by decide +kernel
theorem dX12_nth_1 : decode cX12_nth 1 = .ok (.istore_n 2, 1) := by decide +kernel
theorem dX12_nth_2 : decode cX12_nth 2 = .ok (.iconst 0, 1) := by decide +kernel
theorem dX12_nth_3 : decode cX12_nth 3 = .ok (.istore_n 3, 1) := by decide +kernel
theorem dX12_nth_4 : decode cX12_nth 4 = .ok (.iload_n 3, 1) := by decide +kernel
theorem dX12_nth_5 : decode cX12_nth 5 = .ok (.bipush 16, 2) := by decide +kernel
theorem dX12_nth_7 : decode cX12_nth 7 = .ok (.if_icmp .ge 30, 3) := by decide +kernel
theorem dX12_nth_10 : decode cX12_nth 10 = .ok (.iload_n 2, 1) := by decide +kernel
theorem dX12_nth_11 : decode cX12_nth 11 = .ok (.ifCond .lt 26, 3) := by decide +kernel
theorem dX12_nth_14 : decode cX12_nth 14 = .ok (.iload_n 0, 1) := by decide +kernel
theorem dX12_nth_15 : decode cX12_nth 15 = .ok (.iload_n 3, 1) := by decide +kernel
theorem dX12_nth_16 : decode cX12_nth 16 = .ok (.invokestatic 117, 3) := by decide +kernel
theorem dX12_nth_19 : decode cX12_nth 19 = .ok (.ifCond .eq 12, 3) := by decide +kernel
theorem dX12_nth_22 : decode cX12_nth 22 = .ok (.iload_n 2, 1) := by decide +kernel
theorem dX12_nth_23 : decode cX12_nth 23 = .ok (.ifCond .ne 5, 3) := by decide +kernel
theorem dX12_nth_26 : decode cX12_nth 26 = .ok (.iload_n 3, 1) := by decide +kernel
theorem dX12_nth_27 : decode cX12_nth 27 = .ok (.ireturn, 1) := by decide +kernel
theorem dX12_nth_28 : decode cX12_nth 28 = .ok (.iinc 2 (-1), 3) := by decide +kernel
theorem dX12_nth_31 : decode cX12_nth 31 = .ok (.iinc 3 1, 3) := by decide +kernel
theorem dX12_nth_34 : decode cX12_nth 34 = .ok (.goto (-30), 3) := by decide +kernel
theorem dX12_nth_37 : decode cX12_nth 37 = .ok (.iconst (-1), 1) := by decide +kernel
theorem dX12_nth_38 : decode cX12_nth 38 = .ok (.ireturn, 1) := by decide +kernel
set_option maxRecDepth 20000 in
theorem ggX12_must_X12_know : GoodIn wsX12_must wsX12_know := goodIn_r _ [8, 9, 1, 10, 11, 2, 12, 13, 14, 15, 3, 16, 17, 7, 18, 19, 20, 21, 22, 23, 24, 25, 26, 27, 28, 29, 30, 31, 32, 33, 34, 35, 36, 37, 38, 39, 40, 41, 42, 43, 44, 45, 46, 47, 48, 49, 50, 51, 52, 53, 65, 66, 67, 68, 69, 70, 71, 72, 73, 74, 75, 76, 77, 78, 79, 80, 81, 82, 83, 84, 85, 86, 87, 88, 89, 90, 91, 92, 93, 94, 95, 96] (by decide +kernel) (by decide +kernel)
set_option maxRecDepth 20000 in
theorem gX12_must_X12_know : GoodIn wsX12_must (wsV RX12 164 RX12 yX12_know wsX12_know) := goodIn_app (goodIn_of _ (by decide +kernel)) ggX12_must_X12_know
set_option maxRecDepth 20000 in
theorem ggX12_must_X12_isStreet : GoodIn wsX12_must wsX12_isStreet := goodIn_r _ [57, 29, 58, 59, 7, 60, 65, 66, 67, 68, 69, 70, 71, 72, 73, 74, 75, 76, 77, 78, 79, 80, 81, 82, 83, 84, 85, 86, 87, 88, 89, 90, 91, 92, 93, 94, 95, 96] (by decide +kernel) (by decide +kernel)
set_option maxRecDepth 20000 in
theorem gX12_must_X12_isStreet : GoodIn wsX12_must (wsV RX12 114 RX12 yX12_isStreet wsX12_isStreet) := goodIn_app (goodIn_of _ (by decide +kernel)) ggX12_must_X12_isStreet
set_option maxRecDepth 20000 in
theorem ggX12_must_X12_isBest : GoodIn wsX12_must wsX12_isBest := goodIn_r _ [64, 12, 13, 15, 65, 66, 67, 68, 69, 70, 71, 72, 73, 74, 75, 76, 77, 78, 79, 80, 81, 82, 83, 84, 85, 86, 87, 88, 89, 90, 91, 92, 93, 94, 95, 96] (by decide +kernel) (by decide +kernel)
set_option maxRecDepth 20000 in
theorem gX12_must_X12_isBest : GoodIn wsX12_must (wsV RX12 167 RX12 yX12_isBest wsX12_isBest) := goodIn_app (goodIn_of _ (by decide +kernel)) ggX12_must_X12_isBest
set_option maxRecDepth 20000 in
theorem ggX12_must_X12_has : GoodIn wsX12_must wsX12_has := goodIn_r _ [21] (by decide +kernel) (by decide +kernel)
set_option maxRecDepth 20000 in
theorem gX12_must_X12_has : GoodIn wsX12_must (va_wsS RX12 117 yX12_has wsX12_has) := goodIn_app (goodIn_of _ (by decide +kernel)) ggX12_must_X12_has
theorem dX12_must_0 : decode cX12_must 0 = .ok (.aload_n 0, 1) := by decide +kernel
theorem dX12_must_1 : decode cX12_must 1 = .ok (.invokevirtual 164, 3) := by decide +kernel
theorem dX12_must_4 : decode cX12_must 4 = .ok (.aload_n 0, 1) := by decide +kernel
theorem dX12_must_5 : decode cX12_must 5 = .ok (.iload_n 1, 1) := by decide +kernel
theorem dX12_must_6 : decode cX12_must 6 = .ok (.invokevirtual 114, 3) := by decide +kernel
theorem dX12_must_9 : decode cX12_must 9 = .ok (.ifCond .eq 10, 3) := by decide +kernel
theorem dX12_must_12 : decode cX12_must 12 = .ok (.aload_n 0, 1) := by decide +kernel
theorem dX12_must_13 : decode cX12_must 13 = .ok (.getfield 141, 3) := by decide +kernel
theorem dX12_must_16 : decode cX12_must 16 = .ok (.ifCond .ne 5, 3) := by decide +kernel
theorem dX12_must_19 : decode cX12_must 19 = .ok (.iconst (-1), 1) := by decide +kernel
theorem dX12_must_20 : decode cX12_must 20 = .ok (.ireturn, 1) := by decide +kernel
theorem dX12_must_21 : decode cX12_must 21 = .ok (.iconst 0, 1) := by decide +kernel
theorem dX12_must_22 : decode cX12_must 22 = .ok (.istore_n 2, 1) := by decide +kernel
theorem dX12_must_23 : decode cX12_must 23 = .ok (.iconst 0, 1) := by decide +kernel
theorem dX12_must_24 : decode cX12_must 24 = .ok (.istore_n 3, 1) := by decide +kernel
theorem dX12_must_25 : decode cX12_must 25 = .ok (.iload_n 3, 1) := by decide +kernel
theorem dX12_must_26 : decode cX12_must 26 = .ok (.aload_n 0, 1) := by decide +kernel
theorem dX12_must_27 : decode cX12_must 27 = .ok (.getfield 141, 3) := by decide +kernel
theorem dX12_must_30 : decode cX12_must 30 = .ok (.if_icmp .ge 38, 3) := by decide +kernel
theorem dX12_must_33 : decode cX12_must 33 = .ok (.iload_n 2, 1) := by decide +kernel
theorem dX12_must_34 : decode cX12_must 34 = .ok (.aload_n 0, 1) := by decide +kernel
theorem dX12_must_35 : decode cX12_must 35 = .ok (.iload_n 3, 1) := by decide +kernel
theorem dX12_must_36 : decode cX12_must 36 = .ok (.invokevirtual 167, 3) := by decide +kernel
theorem dX12_must_39 : decode cX12_must 39 = .ok (.ifCond .eq 20, 3) := by decide +kernel
theorem dX12_must_42 : decode cX12_must 42 = .ok (.aload_n 0, 1) := by decide +kernel
theorem dX12_must_43 : decode cX12_must 43 = .ok (.getfield 44, 3) := by decide +kernel
theorem dX12_must_46 : decode cX12_must 46 = .ok (.iload_n 3, 1) := by decide +kernel
theorem dX12_must_47 : decode cX12_must 47 = .ok (.iaload, 1) := by decide +kernel
theorem dX12_must_48 : decode cX12_must 48 = .ok (.iload_n 1, 1) := by decide +kernel
theorem dX12_must_49 : decode cX12_must 49 = .ok (.invokestatic 117, 3) := by decide +kernel
theorem dX12_must_52 : decode cX12_must 52 = .ok (.ifCond .eq 7, 3) := by decide +kernel
theorem dX12_must_55 : decode cX12_must 55 = .ok (.iconst 1, 1) := by decide +kernel
theorem dX12_must_56 : decode cX12_must 56 = .ok (.goto 4, 3) := by decide +kernel
theorem dX12_must_59 : decode cX12_must 59 = .ok (.iconst 0, 1) := by decide +kernel
theorem dX12_must_60 : decode cX12_must 60 = .ok (.iadd, 1) := by decide +kernel
theorem dX12_must_61 : decode cX12_must 61 = .ok (.istore_n 2, 1) := by decide +kernel
theorem dX12_must_62 : decode cX12_must 62 = .ok (.iinc 3 1, 3) := by decide +kernel
theorem dX12_must_65 : decode cX12_must 65 = .ok (.goto (-40), 3) := by decide +kernel
theorem dX12_must_68 : decode cX12_must 68 = .ok (.iload_n 2, 1) := by decide +kernel
theorem dX12_must_69 : decode cX12_must 69 = .ok (.aload_n 0, 1) := by decide +kernel
theorem dX12_must_70 : decode cX12_must 70 = .ok (.getfield 161, 3) := by decide +kernel
theorem dX12_must_73 : decode cX12_must 73 = .ok (.if_icmp .ne 7, 3) := by decide +kernel
theorem dX12_must_76 : decode cX12_must 76 = .ok (.iconst 2, 1) := by decide +kernel
theorem dX12_must_77 : decode cX12_must 77 = .ok (.goto 12, 3) := by decide +kernel
theorem dX12_must_80 : decode cX12_must 80 = .ok (.iload_n 2, 1) := by decide +kernel
theorem dX12_must_81 : decode cX12_must 81 = .ok (.ifCond .le 7, 3) := by decide +kernel
theorem dX12_must_84 : decode cX12_must 84 = .ok (.iconst 1, 1) := by decide +kernel
theorem dX12_must_85 : decode cX12_must 85 = .ok (.goto 4, 3) := by decide +kernel
theorem dX12_must_88 : decode cX12_must 88 = .ok (.iconst 0, 1) := by decide +kernel
theorem dX12_must_89 : decode cX12_must 89 = .ok (.ireturn, 1) := by decide +kernel
set_option maxRecDepth 20000 in
theorem ggX12_most_X12_know : GoodIn wsX12_most wsX12_know := goodIn_r _ [9, 10, 2, 11, 12, 13, 3, 4, 1, 14, 15, 16, 17, 8, 18, 19, 20, 21, 22, 23, 24, 25, 26, 27, 28, 29, 30, 31, 32, 33, 34, 35, 36, 37, 38, 39, 40, 41, 42, 43, 44, 45, 46, 47, 48, 49, 50, 51, 52, 53, 54, 55, 56, 57, 58, 59, 60, 61, 62, 63, 64, 65, 66, 67, 68, 69, 70, 71, 72, 73, 74, 75, 76, 77, 78, 79, 80, 81, 82, 83, 84, 85] (by decide +kernel) (by decide +kernel)
set_option maxRecDepth 20000 in
theorem gX12_most_X12_know : GoodIn wsX12_most (wsV RX12 164 RX12 yX12_know wsX12_know) := goodIn_app (goodIn_of _ (by decide +kernel)) ggX12_most_X12_know
theorem dX12_most_0 : decode cX12_most 0 = .ok (.aload_n 0, 1) := by decide +kernel
theorem dX12_most_1 : decode cX12_most 1 = .ok (.invokevirtual 164, 3) := by decide +kernel
theorem dX12_most_4 : decode cX12_most 4 = .ok (.ldc 157, 2) := by decide +kernel
theorem dX12_most_6 : decode cX12_most 6 = .ok (.istore_n 2, 1) := by decide +kernel
theorem dX12_most_7 : decode cX12_most 7 = .ok (.iconst 0, 1) := by decide +kernel
theorem dX12_most_8 : decode cX12_most 8 = .ok (.istore_n 3, 1) := by decide +kernel
theorem dX12_most_9 : decode cX12_most 9 = .ok (.iload_n 3, 1) := by decide +kernel
theorem dX12_most_10 : decode cX12_most 10 = .ok (.aload_n 0, 1) := by decide +kernel
theorem dX12_most_11 : decode cX12_most 11 = .ok (.getfield 141, 3) := by decide +kernel
theorem dX12_most_14 : decode cX12_most 14 = .ok (.if_icmp .ge 40, 3) := by decide +kernel
theorem dX12_most_17 : decode cX12_most 17 = .ok (.aload_n 0, 1) := by decide +kernel
theorem dX12_most_18 : decode cX12_most 18 = .ok (.getfield 47, 3) := by decide +kernel
theorem dX12_most_21 : decode cX12_most 21 = .ok (.iload_n 3, 1) := by decide +kernel
theorem dX12_most_22 : decode cX12_most 22 = .ok (.iaload, 1) := by decide +kernel
theorem dX12_most_23 : decode cX12_most 23 = .ok (.iload_n 1, 1) := by decide +kernel
theorem dX12_most_24 : decode cX12_most 24 = .ok (.if_icmp .gt 22, 3) := by decide +kernel
theorem dX12_most_27 : decode cX12_most 27 = .ok (.aload_n 0, 1) := by decide +kernel
theorem dX12_most_28 : decode cX12_most 28 = .ok (.getfield 50, 3) := by decide +kernel
theorem dX12_most_31 : decode cX12_most 31 = .ok (.iload_n 3, 1) := by decide +kernel
theorem dX12_most_32 : decode cX12_most 32 = .ok (.iaload, 1) := by decide +kernel
theorem dX12_most_33 : decode cX12_most 33 = .ok (.iload_n 2, 1) := by decide +kernel
theorem dX12_most_34 : decode cX12_most 34 = .ok (.if_icmp .le 12, 3) := by decide +kernel
theorem dX12_most_37 : decode cX12_most 37 = .ok (.aload_n 0, 1) := by decide +kernel
theorem dX12_most_38 : decode cX12_most 38 = .ok (.getfield 50, 3) := by decide +kernel
theorem dX12_most_41 : decode cX12_most 41 = .ok (.iload_n 3, 1) := by decide +kernel
theorem dX12_most_42 : decode cX12_most 42 = .ok (.iaload, 1) := by decide +kernel
theorem dX12_most_43 : decode cX12_most 43 = .ok (.goto 4, 3) := by decide +kernel
theorem dX12_most_46 : decode cX12_most 46 = .ok (.iload_n 2, 1) := by decide +kernel
theorem dX12_most_47 : decode cX12_most 47 = .ok (.istore_n 2, 1) := by decide +kernel
theorem dX12_most_48 : decode cX12_most 48 = .ok (.iinc 3 1, 3) := by decide +kernel
theorem dX12_most_51 : decode cX12_most 51 = .ok (.goto (-42), 3) := by decide +kernel
theorem dX12_most_54 : decode cX12_most 54 = .ok (.iload_n 2, 1) := by decide +kernel
theorem dX12_most_55 : decode cX12_most 55 = .ok (.ireturn, 1) := by decide +kernel
set_option maxRecDepth 20000 in
theorem ggX12_link_X12_has : GoodIn wsX12_link wsX12_has := goodIn_r _ [10] (by decide +kernel) (by decide +kernel)
set_option maxRecDepth 20000 in
theorem gX12_link_X12_has : GoodIn wsX12_link (va_wsS RX12 117 yX12_has wsX12_has) := goodIn_app (goodIn_of _ (by decide +kernel)) ggX12_link_X12_has
theorem dX12_link_0 : decode cX12_link 0 = .ok (.ldc 173, 2) := by decide +kernel
theorem dX12_link_2 : decode cX12_link 2 = .ok (.istore_n 3, 1) := by decide +kernel
theorem dX12_link_3 : decode cX12_link 3 = .ok (.iconst 0, 1) := by decide +kernel
theorem dX12_link_4 : decode cX12_link 4 = .ok (.istore 4, 2) := by decide +kernel
theorem dX12_link_6 : decode cX12_link 6 = .ok (.iload 4, 2) := by decide +kernel
theorem dX12_link_8 : decode cX12_link 8 = .ok (.aload_n 0, 1) := by decide +kernel
theorem dX12_link_9 : decode cX12_link 9 = .ok (.getfield 76, 3) := by decide +kernel
theorem dX12_link_12 : decode cX12_link 12 = .ok (.if_icmp .ge 100, 3) := by decide +kernel
theorem dX12_link_15 : decode cX12_link 15 = .ok (.aload_n 0, 1) := by decide +kernel
theorem dX12_link_16 : decode cX12_link 16 = .ok (.getfield 101, 3) := by decide +kernel
theorem dX12_link_19 : decode cX12_link 19 = .ok (.iload 4, 2) := by decide +kernel
theorem dX12_link_21 : decode cX12_link 21 = .ok (.invokestatic 117, 3) := by decide +kernel
theorem dX12_link_24 : decode cX12_link 24 = .ok (.ifCond .eq 51, 3) := by decide +kernel
theorem dX12_link_27 : decode cX12_link 27 = .ok (.aload_n 0, 1) := by decide +kernel
theorem dX12_link_28 : decode cX12_link 28 = .ok (.getfield 16, 3) := by decide +kernel
theorem dX12_link_31 : decode cX12_link 31 = .ok (.iload 4, 2) := by decide +kernel
theorem dX12_link_33 : decode cX12_link 33 = .ok (.iaload, 1) := by decide +kernel
theorem dX12_link_34 : decode cX12_link 34 = .ok (.iload_n 1, 1) := by decide +kernel
theorem dX12_link_35 : decode cX12_link 35 = .ok (.if_icmp .ne 14, 3) := by decide +kernel
theorem dX12_link_38 : decode cX12_link 38 = .ok (.aload_n 0, 1) := by decide +kernel
theorem dX12_link_39 : decode cX12_link 39 = .ok (.getfield 19, 3) := by decide +kernel
theorem dX12_link_42 : decode cX12_link 42 = .ok (.iload 4, 2) := by decide +kernel
theorem dX12_link_44 : decode cX12_link 44 = .ok (.iaload, 1) := by decide +kernel
theorem dX12_link_45 : decode cX12_link 45 = .ok (.iload_n 2, 1) := by decide +kernel
theorem dX12_link_46 : decode cX12_link 46 = .ok (.if_icmp .eq 25, 3) := by decide +kernel
theorem dX12_link_49 : decode cX12_link 49 = .ok (.aload_n 0, 1) := by decide +kernel
theorem dX12_link_50 : decode cX12_link 50 = .ok (.getfield 16, 3) := by decide +kernel
theorem dX12_link_53 : decode cX12_link 53 = .ok (.iload 4, 2) := by decide +kernel
theorem dX12_link_55 : decode cX12_link 55 = .ok (.iaload, 1) := by decide +kernel
theorem dX12_link_56 : decode cX12_link 56 = .ok (.iload_n 2, 1) := by decide +kernel
theorem dX12_link_57 : decode cX12_link 57 = .ok (.if_icmp .ne 18, 3) := by decide +kernel
theorem dX12_link_60 : decode cX12_link 60 = .ok (.aload_n 0, 1) := by decide +kernel
theorem dX12_link_61 : decode cX12_link 61 = .ok (.getfield 19, 3) := by decide +kernel
theorem dX12_link_64 : decode cX12_link 64 = .ok (.iload 4, 2) := by decide +kernel
theorem dX12_link_66 : decode cX12_link 66 = .ok (.iaload, 1) := by decide +kernel
theorem dX12_link_67 : decode cX12_link 67 = .ok (.iload_n 1, 1) := by decide +kernel
theorem dX12_link_68 : decode cX12_link 68 = .ok (.if_icmp .ne 7, 3) := by decide +kernel
theorem dX12_link_71 : decode cX12_link 71 = .ok (.iconst 1, 1) := by decide +kernel
theorem dX12_link_72 : decode cX12_link 72 = .ok (.goto 4, 3) := by decide +kernel
theorem dX12_link_75 : decode cX12_link 75 = .ok (.iconst 0, 1) := by decide +kernel
theorem dX12_link_76 : decode cX12_link 76 = .ok (.istore 5, 2) := by decide +kernel
theorem dX12_link_78 : decode cX12_link 78 = .ok (.iload 5, 2) := by decide +kernel
theorem dX12_link_80 : decode cX12_link 80 = .ok (.ifCond .eq 24, 3) := by decide +kernel
theorem dX12_link_83 : decode cX12_link 83 = .ok (.aload_n 0, 1) := by decide +kernel
theorem dX12_link_84 : decode cX12_link 84 = .ok (.getfield 22, 3) := by decide +kernel
theorem dX12_link_87 : decode cX12_link 87 = .ok (.iload 4, 2) := by decide +kernel
theorem dX12_link_89 : decode cX12_link 89 = .ok (.iaload, 1) := by decide +kernel
theorem dX12_link_90 : decode cX12_link 90 = .ok (.iload_n 3, 1) := by decide +kernel
theorem dX12_link_91 : decode cX12_link 91 = .ok (.if_icmp .ge 13, 3) := by decide +kernel
theorem dX12_link_94 : decode cX12_link 94 = .ok (.aload_n 0, 1) := by decide +kernel
theorem dX12_link_95 : decode cX12_link 95 = .ok (.getfield 22, 3) := by decide +kernel
theorem dX12_link_98 : decode cX12_link 98 = .ok (.iload 4, 2) := by decide +kernel
theorem dX12_link_100 : decode cX12_link 100 = .ok (.iaload, 1) := by decide +kernel
theorem dX12_link_101 : decode cX12_link 101 = .ok (.goto 4, 3) := by decide +kernel
theorem dX12_link_104 : decode cX12_link 104 = .ok (.iload_n 3, 1) := by decide +kernel
theorem dX12_link_105 : decode cX12_link 105 = .ok (.istore_n 3, 1) := by decide +kernel
theorem dX12_link_106 : decode cX12_link 106 = .ok (.iinc 4 1, 3) := by decide +kernel
theorem dX12_link_109 : decode cX12_link 109 = .ok (.goto (-103), 3) := by decide +kernel
theorem dX12_link_112 : decode cX12_link 112 = .ok (.iload_n 3, 1) := by decide +kernel
theorem dX12_link_113 : decode cX12_link 113 = .ok (.ireturn, 1) := by decide +kernel
set_option maxRecDepth 20000 in
theorem ggX12_goes_X12_link : GoodIn wsX12_goes wsX12_link := goodIn_r _ [9, 1, 10, 11, 12, 13, 14, 15, 16, 8, 17, 18, 19, 20, 21, 22, 23, 24, 25, 26, 27, 28, 29, 30, 31, 32, 33, 34, 35, 36, 37, 38, 39, 40, 41, 42, 43, 44, 45, 46, 47, 48, 49] (by decide +kernel) (by decide +kernel)
set_option maxRecDepth 20000 in
theorem gX12_goes_X12_link : GoodIn wsX12_goes (wsV RX12 174 RX12 yX12_link wsX12_link) := goodIn_app (goodIn_of _ (by decide +kernel)) ggX12_goes_X12_link
theorem dX12_goes_0 : decode cX12_goes 0 = .ok (.aload_n 0, 1) := by decide +kernel
theorem dX12_goes_1 : decode cX12_goes 1 = .ok (.iload_n 1, 1) := by decide +kernel
theorem dX12_goes_2 : decode cX12_goes 2 = .ok (.iload_n 2, 1) := by decide +kernel
theorem dX12_goes_3 : decode cX12_goes 3 = .ok (.invokevirtual 174, 3) := by decide +kernel
theorem dX12_goes_6 : decode cX12_goes 6 = .ok (.istore 4, 2) := by decide +kernel
theorem dX12_goes_8 : decode cX12_goes 8 = .ok (.iload 4, 2) := by decide +kernel
theorem dX12_goes_10 : decode cX12_goes 10 = .ok (.ldc 173, 2) := by decide +kernel
theorem dX12_goes_12 : decode cX12_goes 12 = .ok (.if_icmp .eq 14, 3) := by decide +kernel
theorem dX12_goes_15 : decode cX12_goes 15 = .ok (.aload_n 0, 1) := by decide +kernel
theorem dX12_goes_16 : decode cX12_goes 16 = .ok (.getfield 53, 3) := by decide +kernel
theorem dX12_goes_19 : decode cX12_goes 19 = .ok (.iload_n 2, 1) := by decide +kernel
theorem dX12_goes_20 : decode cX12_goes 20 = .ok (.iaload, 1) := by decide +kernel
theorem dX12_goes_21 : decode cX12_goes 21 = .ok (.ldc 173, 2) := by decide +kernel
theorem dX12_goes_23 : decode cX12_goes 23 = .ok (.if_icmp .ne 8, 3) := by decide +kernel
theorem dX12_goes_26 : decode cX12_goes 26 = .ok (.ldc 173, 2) := by decide +kernel
theorem dX12_goes_28 : decode cX12_goes 28 = .ok (.goto 38, 3) := by decide +kernel
theorem dX12_goes_31 : decode cX12_goes 31 = .ok (.iload 4, 2) := by decide +kernel
theorem dX12_goes_33 : decode cX12_goes 33 = .ok (.iload_n 2, 1) := by decide +kernel
theorem dX12_goes_34 : decode cX12_goes 34 = .ok (.iload_n 3, 1) := by decide +kernel
theorem dX12_goes_35 : decode cX12_goes 35 = .ok (.if_icmp .eq 22, 3) := by decide +kernel
theorem dX12_goes_38 : decode cX12_goes 38 = .ok (.aload_n 0, 1) := by decide +kernel
theorem dX12_goes_39 : decode cX12_goes 39 = .ok (.getfield 7, 3) := by decide +kernel
theorem dX12_goes_42 : decode cX12_goes 42 = .ok (.iload_n 2, 1) := by decide +kernel
theorem dX12_goes_43 : decode cX12_goes 43 = .ok (.iaload, 1) := by decide +kernel
theorem dX12_goes_44 : decode cX12_goes 44 = .ok (.iconst 4, 1) := by decide +kernel
theorem dX12_goes_45 : decode cX12_goes 45 = .ok (.if_icmp .ne 12, 3) := by decide +kernel
theorem dX12_goes_48 : decode cX12_goes 48 = .ok (.aload_n 0, 1) := by decide +kernel
theorem dX12_goes_49 : decode cX12_goes 49 = .ok (.getfield 13, 3) := by decide +kernel
theorem dX12_goes_52 : decode cX12_goes 52 = .ok (.iload_n 2, 1) := by decide +kernel
theorem dX12_goes_53 : decode cX12_goes 53 = .ok (.iaload, 1) := by decide +kernel
theorem dX12_goes_54 : decode cX12_goes 54 = .ok (.goto 4, 3) := by decide +kernel
theorem dX12_goes_57 : decode cX12_goes 57 = .ok (.iconst 0, 1) := by decide +kernel
theorem dX12_goes_58 : decode cX12_goes 58 = .ok (.iadd, 1) := by decide +kernel
theorem dX12_goes_59 : decode cX12_goes 59 = .ok (.aload_n 0, 1) := by decide +kernel
theorem dX12_goes_60 : decode cX12_goes 60 = .ok (.getfield 53, 3) := by decide +kernel
theorem dX12_goes_63 : decode cX12_goes 63 = .ok (.iload_n 2, 1) := by decide +kernel
theorem dX12_goes_64 : decode cX12_goes 64 = .ok (.iaload, 1) := by decide +kernel
theorem dX12_goes_65 : decode cX12_goes 65 = .ok (.iadd, 1) := by decide +kernel
theorem dX12_goes_66 : decode cX12_goes 66 = .ok (.ireturn, 1) := by decide +kernel
set_option maxRecDepth 20000 in
theorem ggX12_fars_X12_goes : GoodIn wsX12_fars wsX12_goes := goodIn_r _ [8, 3, 2, 9, 10, 11, 12, 13, 7, 14, 15, 16, 17, 18, 19, 20, 21, 22, 23, 24, 25, 26, 27, 28, 29, 30, 31, 32, 33, 34, 35, 36, 37, 38, 39, 40, 41, 42, 43, 44, 45, 46, 47, 48, 49, 50, 51, 52, 53, 54] (by decide +kernel) (by decide +kernel)
set_option maxRecDepth 20000 in
theorem gX12_fars_X12_goes : GoodIn wsX12_fars (wsV RX12 177 RX12 yX12_goes wsX12_goes) := goodIn_app (goodIn_of _ (by decide +kernel)) ggX12_fars_X12_goes
theorem dX12_fars_0 : decode cX12_fars 0 = .ok (.iconst 0, 1) := by decide +kernel
theorem dX12_fars_1 : decode cX12_fars 1 = .ok (.istore_n 2, 1) := by decide +kernel
theorem dX12_fars_2 : decode cX12_fars 2 = .ok (.iload_n 2, 1) := by decide +kernel
theorem dX12_fars_3 : decode cX12_fars 3 = .ok (.aload_n 0, 1) := by decide +kernel
theorem dX12_fars_4 : decode cX12_fars 4 = .ok (.getfield 69, 3) := by decide +kernel
theorem dX12_fars_7 : decode cX12_fars 7 = .ok (.if_icmp .ge 26, 3) := by decide +kernel
theorem dX12_fars_10 : decode cX12_fars 10 = .ok (.aload_n 0, 1) := by decide +kernel
theorem dX12_fars_11 : decode cX12_fars 11 = .ok (.getfield 53, 3) := by decide +kernel
theorem dX12_fars_14 : decode cX12_fars 14 = .ok (.iload_n 2, 1) := by decide +kernel
theorem dX12_fars_15 : decode cX12_fars 15 = .ok (.iload_n 2, 1) := by decide +kernel
theorem dX12_fars_16 : decode cX12_fars 16 = .ok (.iload_n 1, 1) := by decide +kernel
theorem dX12_fars_17 : decode cX12_fars 17 = .ok (.if_icmp .ne 7, 3) := by decide +kernel
theorem dX12_fars_20 : decode cX12_fars 20 = .ok (.iconst 0, 1) := by decide +kernel
theorem dX12_fars_21 : decode cX12_fars 21 = .ok (.goto 5, 3) := by decide +kernel
theorem dX12_fars_24 : decode cX12_fars 24 = .ok (.ldc 173, 2) := by decide +kernel
theorem dX12_fars_26 : decode cX12_fars 26 = .ok (.iastore, 1) := by decide +kernel
theorem dX12_fars_27 : decode cX12_fars 27 = .ok (.iinc 2 1, 3) := by decide +kernel
theorem dX12_fars_30 : decode cX12_fars 30 = .ok (.goto (-28), 3) := by decide +kernel
theorem dX12_fars_33 : decode cX12_fars 33 = .ok (.iconst 0, 1) := by decide +kernel
theorem dX12_fars_34 : decode cX12_fars 34 = .ok (.istore_n 2, 1) := by decide +kernel
theorem dX12_fars_35 : decode cX12_fars 35 = .ok (.iload_n 2, 1) := by decide +kernel
theorem dX12_fars_36 : decode cX12_fars 36 = .ok (.aload_n 0, 1) := by decide +kernel
theorem dX12_fars_37 : decode cX12_fars 37 = .ok (.getfield 69, 3) := by decide +kernel
theorem dX12_fars_40 : decode cX12_fars 40 = .ok (.if_icmp .ge 97, 3) := by decide +kernel
theorem dX12_fars_43 : decode cX12_fars 43 = .ok (.iconst 0, 1) := by decide +kernel
theorem dX12_fars_44 : decode cX12_fars 44 = .ok (.istore_n 3, 1) := by decide +kernel
theorem dX12_fars_45 : decode cX12_fars 45 = .ok (.iload_n 3, 1) := by decide +kernel
theorem dX12_fars_46 : decode cX12_fars 46 = .ok (.aload_n 0, 1) := by decide +kernel
theorem dX12_fars_47 : decode cX12_fars 47 = .ok (.getfield 69, 3) := by decide +kernel
theorem dX12_fars_50 : decode cX12_fars 50 = .ok (.if_icmp .ge 81, 3) := by decide +kernel
theorem dX12_fars_53 : decode cX12_fars 53 = .ok (.iconst 0, 1) := by decide +kernel
theorem dX12_fars_54 : decode cX12_fars 54 = .ok (.istore 4, 2) := by decide +kernel
theorem dX12_fars_56 : decode cX12_fars 56 = .ok (.iload 4, 2) := by decide +kernel
theorem dX12_fars_58 : decode cX12_fars 58 = .ok (.aload_n 0, 1) := by decide +kernel
theorem dX12_fars_59 : decode cX12_fars 59 = .ok (.getfield 69, 3) := by decide +kernel
theorem dX12_fars_62 : decode cX12_fars 62 = .ok (.if_icmp .ge 63, 3) := by decide +kernel
theorem dX12_fars_65 : decode cX12_fars 65 = .ok (.iload 4, 2) := by decide +kernel
theorem dX12_fars_67 : decode cX12_fars 67 = .ok (.iload_n 3, 1) := by decide +kernel
theorem dX12_fars_68 : decode cX12_fars 68 = .ok (.if_icmp .eq 8, 3) := by decide +kernel
theorem dX12_fars_71 : decode cX12_fars 71 = .ok (.iload_n 3, 1) := by decide +kernel
theorem dX12_fars_72 : decode cX12_fars 72 = .ok (.iload_n 1, 1) := by decide +kernel
theorem dX12_fars_73 : decode cX12_fars 73 = .ok (.if_icmp .ne 8, 3) := by decide +kernel
theorem dX12_fars_76 : decode cX12_fars 76 = .ok (.ldc 173, 2) := by decide +kernel
theorem dX12_fars_78 : decode cX12_fars 78 = .ok (.goto 11, 3) := by decide +kernel
theorem dX12_fars_81 : decode cX12_fars 81 = .ok (.aload_n 0, 1) := by decide +kernel
theorem dX12_fars_82 : decode cX12_fars 82 = .ok (.iload_n 3, 1) := by decide +kernel
theorem dX12_fars_83 : decode cX12_fars 83 = .ok (.iload 4, 2) := by decide +kernel
theorem dX12_fars_85 : decode cX12_fars 85 = .ok (.iload_n 1, 1) := by decide +kernel
theorem dX12_fars_86 : decode cX12_fars 86 = .ok (.invokevirtual 177, 3) := by decide +kernel
theorem dX12_fars_89 : decode cX12_fars 89 = .ok (.istore 5, 2) := by decide +kernel
theorem dX12_fars_91 : decode cX12_fars 91 = .ok (.aload_n 0, 1) := by decide +kernel
theorem dX12_fars_92 : decode cX12_fars 92 = .ok (.getfield 53, 3) := by decide +kernel
theorem dX12_fars_95 : decode cX12_fars 95 = .ok (.iload_n 3, 1) := by decide +kernel
theorem dX12_fars_96 : decode cX12_fars 96 = .ok (.iload 5, 2) := by decide +kernel
theorem dX12_fars_98 : decode cX12_fars 98 = .ok (.aload_n 0, 1) := by decide +kernel
theorem dX12_fars_99 : decode cX12_fars 99 = .ok (.getfield 53, 3) := by decide +kernel
theorem dX12_fars_102 : decode cX12_fars 102 = .ok (.iload_n 3, 1) := by decide +kernel
theorem dX12_fars_103 : decode cX12_fars 103 = .ok (.iaload, 1) := by decide +kernel
theorem dX12_fars_104 : decode cX12_fars 104 = .ok (.if_icmp .ge 8, 3) := by decide +kernel
theorem dX12_fars_107 : decode cX12_fars 107 = .ok (.iload 5, 2) := by decide +kernel
theorem dX12_fars_109 : decode cX12_fars 109 = .ok (.goto 9, 3) := by decide +kernel
theorem dX12_fars_112 : decode cX12_fars 112 = .ok (.aload_n 0, 1) := by decide +kernel
theorem dX12_fars_113 : decode cX12_fars 113 = .ok (.getfield 53, 3) := by decide +kernel
theorem dX12_fars_116 : decode cX12_fars 116 = .ok (.iload_n 3, 1) := by decide +kernel
theorem dX12_fars_117 : decode cX12_fars 117 = .ok (.iaload, 1) := by decide +kernel
theorem dX12_fars_118 : decode cX12_fars 118 = .ok (.iastore, 1) := by decide +kernel
theorem dX12_fars_119 : decode cX12_fars 119 = .ok (.iinc 4 1, 3) := by decide +kernel
theorem dX12_fars_122 : decode cX12_fars 122 = .ok (.goto (-66), 3) := by decide +kernel
theorem dX12_fars_125 : decode cX12_fars 125 = .ok (.iinc 3 1, 3) := by decide +kernel
theorem dX12_fars_128 : decode cX12_fars 128 = .ok (.goto (-83), 3) := by decide +kernel
theorem dX12_fars_131 : decode cX12_fars 131 = .ok (.iinc 2 1, 3) := by decide +kernel
theorem dX12_fars_134 : decode cX12_fars 134 = .ok (.goto (-99), 3) := by decide +kernel
theorem dX12_fars_137 : decode cX12_fars 137 = .ok (.return_, 1) := by decide +kernel
set_option maxRecDepth 20000 in
theorem ggX12_apart0_X12_fars : GoodIn wsX12_apart0 wsX12_fars := goodIn_r _ [6, 7, 1, 8, 9, 10, 11, 5, 12, 13, 14, 15, 16, 17, 18, 19, 20, 21, 22, 23, 24, 25, 26, 27, 28, 29, 30, 31, 32, 33, 34, 35, 36, 37, 38, 39, 40, 41, 42, 43, 44, 45, 46, 47, 48, 49, 50, 51, 52, 53, 54, 55, 56, 57, 58] (by decide +kernel) (by decide +kernel)
set_option maxRecDepth 20000 in
theorem gX12_apart0_X12_fars : GoodIn wsX12_apart0 (wsV RX12 180 RX12 yX12_fars wsX12_fars) := goodIn_app (goodIn_of _ (by decide +kernel)) ggX12_apart0_X12_fars
theorem dX12_apart0_0 : decode cX12_apart0 0 = .ok (.aload_n 0, 1) := by decide +kernel
theorem dX12_apart0_1 : decode cX12_apart0 1 = .ok (.iload_n 2, 1) := by decide +kernel
theorem dX12_apart0_2 : decode cX12_apart0 2 = .ok (.invokevirtual 180, 3) := by decide +kernel
theorem dX12_apart0_5 : decode cX12_apart0 5 = .ok (.aload_n 0, 1) := by decide +kernel
theorem dX12_apart0_6 : decode cX12_apart0 6 = .ok (.getfield 53, 3) := by decide +kernel
theorem dX12_apart0_9 : decode cX12_apart0 9 = .ok (.iload_n 1, 1) := by decide +kernel
theorem dX12_apart0_10 : decode cX12_apart0 10 = .ok (.iaload, 1) := by decide +kernel
theorem dX12_apart0_11 : decode cX12_apart0 11 = .ok (.ireturn, 1) := by decide +kernel
set_option maxRecDepth 20000 in
theorem ggX12_apart_X12_isPlace : GoodIn wsX12_apart wsX12_isPlace := goodIn_r _ [7, 8, 9, 10, 6, 11, 39, 40, 41, 42, 43, 44, 45, 46, 47, 48, 49, 50, 51, 52, 53, 54, 55, 56, 57, 58, 59, 60, 61, 62, 63, 64, 65, 66, 67, 68, 69, 70] (by decide +kernel) (by decide +kernel)
set_option maxRecDepth 20000 in
theorem gX12_apart_X12_isPlace : GoodIn wsX12_apart (wsV RX12 104 RX12 yX12_isPlace wsX12_isPlace) := goodIn_app (goodIn_of _ (by decide +kernel)) ggX12_apart_X12_isPlace
set_option maxRecDepth 20000 in
theorem ggX12_apart_X12_apart0 : GoodIn wsX12_apart wsX12_apart0 := goodIn_r _ [15, 16, 17, 18, 19, 6, 20, 8, 2, 21, 22, 23, 24, 25, 26, 27, 28, 29, 30, 31, 32, 33, 34, 35, 36, 37, 38, 39, 40, 41, 42, 43, 44, 45, 46, 47, 48, 49, 50, 51, 52, 53, 54, 55, 56, 57, 58, 59, 60, 61, 62, 63, 64, 65, 66, 67, 68, 69, 70] (by decide +kernel) (by decide +kernel)
set_option maxRecDepth 20000 in
theorem gX12_apart_X12_apart0 : GoodIn wsX12_apart (wsV RX12 183 RX12 yX12_apart0 wsX12_apart0) := goodIn_app (goodIn_of _ (by decide +kernel)) ggX12_apart_X12_apart0
theorem dX12_apart_0 : decode cX12_apart 0 = .ok (.aload_n 0, 1) := by decide +kernel
theorem dX12_apart_1 : decode cX12_apart 1 = .ok (.iload_n 1, 1) := by decide +kernel
theorem dX12_apart_2 : decode cX12_apart 2 = .ok (.invokevirtual 104, 3) := by decide +kernel
theorem dX12_apart_5 : decode cX12_apart 5 = .ok (.ifCond .eq 11, 3) := by decide +kernel
theorem dX12_apart_8 : decode cX12_apart 8 = .ok (.aload_n 0, 1) := by decide +kernel
theorem dX12_apart_9 : decode cX12_apart 9 = .ok (.iload_n 2, 1) := by decide +kernel
theorem dX12_apart_10 : decode cX12_apart 10 = .ok (.invokevirtual 104, 3) := by decide +kernel
theorem dX12_apart_13 : decode cX12_apart 13 = .ok (.ifCond .ne 6, 3) := by decide +kernel
theorem dX12_apart_16 : decode cX12_apart 16 = .ok (.ldc 157, 2) := by decide +kernel
theorem dX12_apart_18 : decode cX12_apart 18 = .ok (.ireturn, 1) := by decide +kernel
theorem dX12_apart_19 : decode cX12_apart 19 = .ok (.aload_n 0, 1) := by decide +kernel
theorem dX12_apart_20 : decode cX12_apart 20 = .ok (.iload_n 1, 1) := by decide +kernel
theorem dX12_apart_21 : decode cX12_apart 21 = .ok (.iload_n 2, 1) := by decide +kernel
theorem dX12_apart_22 : decode cX12_apart 22 = .ok (.invokevirtual 183, 3) := by decide +kernel
theorem dX12_apart_25 : decode cX12_apart 25 = .ok (.istore_n 3, 1) := by decide +kernel
theorem dX12_apart_26 : decode cX12_apart 26 = .ok (.iload_n 3, 1) := by decide +kernel
theorem dX12_apart_27 : decode cX12_apart 27 = .ok (.ldc 173, 2) := by decide +kernel
theorem dX12_apart_29 : decode cX12_apart 29 = .ok (.if_icmp .ne 8, 3) := by decide +kernel
theorem dX12_apart_32 : decode cX12_apart 32 = .ok (.ldc 157, 2) := by decide +kernel
theorem dX12_apart_34 : decode cX12_apart 34 = .ok (.goto 4, 3) := by decide +kernel
theorem dX12_apart_37 : decode cX12_apart 37 = .ok (.iload_n 3, 1) := by decide +kernel
theorem dX12_apart_38 : decode cX12_apart 38 = .ok (.ireturn, 1) := by decide +kernel
set_option maxRecDepth 20000 in
theorem ggX12_way_X12_isPlace : GoodIn wsX12_way wsX12_isPlace := goodIn_r _ [7, 8, 9, 10, 6, 11, 38, 39, 40, 41, 42, 43, 44, 45, 46, 47, 48, 49, 50, 51, 52, 53, 54, 55, 56, 57, 58, 59, 60, 61, 62, 63, 64, 65, 66, 67, 68, 69] (by decide +kernel) (by decide +kernel)
set_option maxRecDepth 20000 in
theorem gX12_way_X12_isPlace : GoodIn wsX12_way (wsV RX12 104 RX12 yX12_isPlace wsX12_isPlace) := goodIn_app (goodIn_of _ (by decide +kernel)) ggX12_way_X12_isPlace
set_option maxRecDepth 20000 in
theorem ggX12_way_X12_apart0 : GoodIn wsX12_way wsX12_apart0 := goodIn_r _ [15, 2, 16, 17, 18, 6, 19, 8, 1, 20, 21, 22, 23, 24, 25, 26, 27, 28, 29, 30, 31, 32, 33, 34, 35, 36, 37, 38, 39, 40, 41, 42, 43, 44, 45, 46, 47, 48, 49, 50, 51, 52, 53, 54, 55, 56, 57, 58, 59, 60, 61, 62, 63, 64, 65, 66, 67, 68, 69] (by decide +kernel) (by decide +kernel)
set_option maxRecDepth 20000 in
theorem gX12_way_X12_apart0 : GoodIn wsX12_way (wsV RX12 183 RX12 yX12_apart0 wsX12_apart0) := goodIn_app (goodIn_of _ (by decide +kernel)) ggX12_way_X12_apart0
set_option maxRecDepth 20000 in
theorem ggX12_way_X12_goes : GoodIn wsX12_way wsX12_goes := goodIn_r _ [23, 1, 2, 24, 25, 26, 27, 28, 6, 29, 30, 31, 32, 33, 34, 35, 36, 37, 38, 39, 40, 41, 42, 43, 44, 45, 46, 47, 48, 49, 50, 51, 52, 53, 54, 55, 56, 57, 58, 59, 60, 61, 62, 63, 64, 65, 66, 67, 68, 69] (by decide +kernel) (by decide +kernel)
set_option maxRecDepth 20000 in
theorem gX12_way_X12_goes : GoodIn wsX12_way (wsV RX12 177 RX12 yX12_goes wsX12_goes) := goodIn_app (goodIn_of _ (by decide +kernel)) ggX12_way_X12_goes
theorem dX12_way_0 : decode cX12_way 0 = .ok (.aload_n 0, 1) := by decide +kernel
theorem dX12_way_1 : decode cX12_way 1 = .ok (.iload_n 1, 1) := by decide +kernel
theorem dX12_way_2 : decode cX12_way 2 = .ok (.invokevirtual 104, 3) := by decide +kernel
theorem dX12_way_5 : decode cX12_way 5 = .ok (.ifCond .eq 26, 3) := by decide +kernel
theorem dX12_way_8 : decode cX12_way 8 = .ok (.aload_n 0, 1) := by decide +kernel
theorem dX12_way_9 : decode cX12_way 9 = .ok (.iload_n 2, 1) := by decide +kernel
theorem dX12_way_10 : decode cX12_way 10 = .ok (.invokevirtual 104, 3) := by decide +kernel
theorem dX12_way_13 : decode cX12_way 13 = .ok (.ifCond .eq 18, 3) := by decide +kernel
theorem dX12_way_16 : decode cX12_way 16 = .ok (.iload_n 3, 1) := by decide +kernel
theorem dX12_way_17 : decode cX12_way 17 = .ok (.ifCond .lt 14, 3) := by decide +kernel
theorem dX12_way_20 : decode cX12_way 20 = .ok (.aload_n 0, 1) := by decide +kernel
theorem dX12_way_21 : decode cX12_way 21 = .ok (.iload_n 1, 1) := by decide +kernel
theorem dX12_way_22 : decode cX12_way 22 = .ok (.iload_n 2, 1) := by decide +kernel
theorem dX12_way_23 : decode cX12_way 23 = .ok (.invokevirtual 183, 3) := by decide +kernel
theorem dX12_way_26 : decode cX12_way 26 = .ok (.ldc 173, 2) := by decide +kernel
theorem dX12_way_28 : decode cX12_way 28 = .ok (.if_icmp .ne 5, 3) := by decide +kernel
theorem dX12_way_31 : decode cX12_way 31 = .ok (.iconst (-1), 1) := by decide +kernel
theorem dX12_way_32 : decode cX12_way 32 = .ok (.ireturn, 1) := by decide +kernel
theorem dX12_way_33 : decode cX12_way 33 = .ok (.iload_n 1, 1) := by decide +kernel
theorem dX12_way_34 : decode cX12_way 34 = .ok (.istore 4, 2) := by decide +kernel
theorem dX12_way_36 : decode cX12_way 36 = .ok (.iconst 0, 1) := by decide +kernel
theorem dX12_way_37 : decode cX12_way 37 = .ok (.istore 5, 2) := by decide +kernel
theorem dX12_way_39 : decode cX12_way 39 = .ok (.iload 5, 2) := by decide +kernel
theorem dX12_way_41 : decode cX12_way 41 = .ok (.iload_n 3, 1) := by decide +kernel
theorem dX12_way_42 : decode cX12_way 42 = .ok (.if_icmp .ge 56, 3) := by decide +kernel
theorem dX12_way_45 : decode cX12_way 45 = .ok (.iload 4, 2) := by decide +kernel
theorem dX12_way_47 : decode cX12_way 47 = .ok (.iload_n 2, 1) := by decide +kernel
theorem dX12_way_48 : decode cX12_way 48 = .ok (.if_icmp .ne 5, 3) := by decide +kernel
theorem dX12_way_51 : decode cX12_way 51 = .ok (.iconst (-1), 1) := by decide +kernel
theorem dX12_way_52 : decode cX12_way 52 = .ok (.ireturn, 1) := by decide +kernel
theorem dX12_way_53 : decode cX12_way 53 = .ok (.iconst 0, 1) := by decide +kernel
theorem dX12_way_54 : decode cX12_way 54 = .ok (.istore 6, 2) := by decide +kernel
theorem dX12_way_56 : decode cX12_way 56 = .ok (.iload 6, 2) := by decide +kernel
theorem dX12_way_58 : decode cX12_way 58 = .ok (.iload 4, 2) := by decide +kernel
theorem dX12_way_60 : decode cX12_way 60 = .ok (.if_icmp .eq 22, 3) := by decide +kernel
theorem dX12_way_63 : decode cX12_way 63 = .ok (.aload_n 0, 1) := by decide +kernel
theorem dX12_way_64 : decode cX12_way 64 = .ok (.iload 4, 2) := by decide +kernel
theorem dX12_way_66 : decode cX12_way 66 = .ok (.iload 6, 2) := by decide +kernel
theorem dX12_way_68 : decode cX12_way 68 = .ok (.iload_n 2, 1) := by decide +kernel
theorem dX12_way_69 : decode cX12_way 69 = .ok (.invokevirtual 177, 3) := by decide +kernel
theorem dX12_way_72 : decode cX12_way 72 = .ok (.aload_n 0, 1) := by decide +kernel
theorem dX12_way_73 : decode cX12_way 73 = .ok (.getfield 53, 3) := by decide +kernel
theorem dX12_way_76 : decode cX12_way 76 = .ok (.iload 4, 2) := by decide +kernel
theorem dX12_way_78 : decode cX12_way 78 = .ok (.iaload, 1) := by decide +kernel
theorem dX12_way_79 : decode cX12_way 79 = .ok (.if_icmp .eq 9, 3) := by decide +kernel
theorem dX12_way_82 : decode cX12_way 82 = .ok (.iinc 6 1, 3) := by decide +kernel
theorem dX12_way_85 : decode cX12_way 85 = .ok (.goto (-29), 3) := by decide +kernel
theorem dX12_way_88 : decode cX12_way 88 = .ok (.iload 6, 2) := by decide +kernel
theorem dX12_way_90 : decode cX12_way 90 = .ok (.istore 4, 2) := by decide +kernel
theorem dX12_way_92 : decode cX12_way 92 = .ok (.iinc 5 1, 3) := by decide +kernel
theorem dX12_way_95 : decode cX12_way 95 = .ok (.goto (-56), 3) := by decide +kernel
theorem dX12_way_98 : decode cX12_way 98 = .ok (.iload 4, 2) := by decide +kernel
theorem dX12_way_100 : decode cX12_way 100 = .ok (.ireturn, 1) := by decide +kernel
set_option maxRecDepth 20000 in
theorem ggX12_span_X12_taps : GoodIn wsX12_span wsX12_taps := goodIn_r _ [9, 3, 10, 11, 12, 8, 13, 14, 36, 37, 38, 39, 40, 41, 42, 43, 44, 45, 46, 47, 48, 49, 50, 51, 52, 53, 54, 55, 56, 57, 58, 59, 60, 61, 62, 63, 64, 65, 66, 67] (by decide +kernel) (by decide +kernel)
set_option maxRecDepth 20000 in
theorem gX12_span_X12_taps : GoodIn wsX12_span (wsV RX12 131 RX12 yX12_taps wsX12_taps) := goodIn_app (goodIn_of _ (by decide +kernel)) ggX12_span_X12_taps
set_option maxRecDepth 20000 in
theorem ggX12_span_X12_fars : GoodIn wsX12_span wsX12_fars := goodIn_r _ [18, 3, 4, 2, 19, 20, 21, 8, 22, 14, 23, 24, 25, 26, 27, 28, 29, 30, 31, 32, 33, 34, 35, 36, 37, 38, 39, 40, 41, 42, 43, 44, 45, 46, 47, 48, 49, 50, 51, 52, 53, 54, 55, 56, 57, 58, 59, 60, 61, 62, 63, 64, 65, 66, 67] (by decide +kernel) (by decide +kernel)
set_option maxRecDepth 20000 in
theorem gX12_span_X12_fars : GoodIn wsX12_span (wsV RX12 180 RX12 yX12_fars wsX12_fars) := goodIn_app (goodIn_of _ (by decide +kernel)) ggX12_span_X12_fars
set_option maxRecDepth 20000 in
theorem ggX12_span_X12_has : GoodIn wsX12_span wsX12_has := goodIn_r _ [35] (by decide +kernel) (by decide +kernel)
set_option maxRecDepth 20000 in
theorem gX12_span_X12_has : GoodIn wsX12_span (va_wsS RX12 117 yX12_has wsX12_has) := goodIn_app (goodIn_of _ (by decide +kernel)) ggX12_span_X12_has
theorem dX12_span_0 : decode cX12_span 0 = .ok (.aload_n 0, 1) := by decide +kernel
theorem dX12_span_1 : decode cX12_span 1 = .ok (.invokevirtual 131, 3) := by decide +kernel
theorem dX12_span_4 : decode cX12_span 4 = .ok (.istore_n 1, 1) := by decide +kernel
theorem dX12_span_5 : decode cX12_span 5 = .ok (.iload_n 1, 1) := by decide +kernel
theorem dX12_span_6 : decode cX12_span 6 = .ok (.ifCond .ne 6, 3) := by decide +kernel
theorem dX12_span_9 : decode cX12_span 9 = .ok (.ldc 157, 2) := by decide +kernel
theorem dX12_span_11 : decode cX12_span 11 = .ok (.ireturn, 1) := by decide +kernel
theorem dX12_span_12 : decode cX12_span 12 = .ok (.iload_n 1, 1) := by decide +kernel
theorem dX12_span_13 : decode cX12_span 13 = .ok (.iload_n 1, 1) := by decide +kernel
theorem dX12_span_14 : decode cX12_span 14 = .ok (.ineg, 1) := by decide +kernel
theorem dX12_span_15 : decode cX12_span 15 = .ok (.iand, 1) := by decide +kernel
theorem dX12_span_16 : decode cX12_span 16 = .ok (.istore_n 2, 1) := by decide +kernel
theorem dX12_span_17 : decode cX12_span 17 = .ok (.iconst 0, 1) := by decide +kernel
theorem dX12_span_18 : decode cX12_span 18 = .ok (.istore_n 3, 1) := by decide +kernel
theorem dX12_span_19 : decode cX12_span 19 = .ok (.iload_n 2, 1) := by decide +kernel
theorem dX12_span_20 : decode cX12_span 20 = .ok (.iload_n 1, 1) := by decide +kernel
theorem dX12_span_21 : decode cX12_span 21 = .ok (.if_icmp .eq 150, 3) := by decide +kernel
theorem dX12_span_24 : decode cX12_span 24 = .ok (.ldc 173, 2) := by decide +kernel
theorem dX12_span_26 : decode cX12_span 26 = .ok (.istore 4, 2) := by decide +kernel
theorem dX12_span_28 : decode cX12_span 28 = .ok (.iconst (-1), 1) := by decide +kernel
theorem dX12_span_29 : decode cX12_span 29 = .ok (.istore 5, 2) := by decide +kernel
theorem dX12_span_31 : decode cX12_span 31 = .ok (.iconst 0, 1) := by decide +kernel
theorem dX12_span_32 : decode cX12_span 32 = .ok (.istore 6, 2) := by decide +kernel
theorem dX12_span_34 : decode cX12_span 34 = .ok (.iload 6, 2) := by decide +kernel
theorem dX12_span_36 : decode cX12_span 36 = .ok (.aload_n 0, 1) := by decide +kernel
theorem dX12_span_37 : decode cX12_span 37 = .ok (.getfield 69, 3) := by decide +kernel
theorem dX12_span_40 : decode cX12_span 40 = .ok (.if_icmp .ge 107, 3) := by decide +kernel
theorem dX12_span_43 : decode cX12_span 43 = .ok (.aload_n 0, 1) := by decide +kernel
theorem dX12_span_44 : decode cX12_span 44 = .ok (.iload 6, 2) := by decide +kernel
theorem dX12_span_46 : decode cX12_span 46 = .ok (.invokevirtual 180, 3) := by decide +kernel
theorem dX12_span_49 : decode cX12_span 49 = .ok (.iconst 0, 1) := by decide +kernel
theorem dX12_span_50 : decode cX12_span 50 = .ok (.istore 7, 2) := by decide +kernel
theorem dX12_span_52 : decode cX12_span 52 = .ok (.iload 7, 2) := by decide +kernel
theorem dX12_span_54 : decode cX12_span 54 = .ok (.aload_n 0, 1) := by decide +kernel
theorem dX12_span_55 : decode cX12_span 55 = .ok (.getfield 69, 3) := by decide +kernel
theorem dX12_span_58 : decode cX12_span 58 = .ok (.if_icmp .ge 83, 3) := by decide +kernel
theorem dX12_span_61 : decode cX12_span 61 = .ok (.iload_n 1, 1) := by decide +kernel
theorem dX12_span_62 : decode cX12_span 62 = .ok (.iload_n 2, 1) := by decide +kernel
theorem dX12_span_63 : decode cX12_span 63 = .ok (.iconst (-1), 1) := by decide +kernel
theorem dX12_span_64 : decode cX12_span 64 = .ok (.ixor, 1) := by decide +kernel
theorem dX12_span_65 : decode cX12_span 65 = .ok (.iand, 1) := by decide +kernel
theorem dX12_span_66 : decode cX12_span 66 = .ok (.iload 7, 2) := by decide +kernel
theorem dX12_span_68 : decode cX12_span 68 = .ok (.invokestatic 117, 3) := by decide +kernel
theorem dX12_span_71 : decode cX12_span 71 = .ok (.ifCond .eq 28, 3) := by decide +kernel
theorem dX12_span_74 : decode cX12_span 74 = .ok (.iload_n 2, 1) := by decide +kernel
theorem dX12_span_75 : decode cX12_span 75 = .ok (.iload 6, 2) := by decide +kernel
theorem dX12_span_77 : decode cX12_span 77 = .ok (.invokestatic 117, 3) := by decide +kernel
theorem dX12_span_80 : decode cX12_span 80 = .ok (.ifCond .eq 19, 3) := by decide +kernel
theorem dX12_span_83 : decode cX12_span 83 = .ok (.aload_n 0, 1) := by decide +kernel
theorem dX12_span_84 : decode cX12_span 84 = .ok (.getfield 53, 3) := by decide +kernel
theorem dX12_span_87 : decode cX12_span 87 = .ok (.iload 7, 2) := by decide +kernel
theorem dX12_span_89 : decode cX12_span 89 = .ok (.iaload, 1) := by decide +kernel
theorem dX12_span_90 : decode cX12_span 90 = .ok (.iload 4, 2) := by decide +kernel
theorem dX12_span_92 : decode cX12_span 92 = .ok (.if_icmp .ge 7, 3) := by decide +kernel
theorem dX12_span_95 : decode cX12_span 95 = .ok (.iconst 1, 1) := by decide +kernel
theorem dX12_span_96 : decode cX12_span 96 = .ok (.goto 4, 3) := by decide +kernel
theorem dX12_span_99 : decode cX12_span 99 = .ok (.iconst 0, 1) := by decide +kernel
theorem dX12_span_100 : decode cX12_span 100 = .ok (.istore 8, 2) := by decide +kernel
theorem dX12_span_102 : decode cX12_span 102 = .ok (.iload 8, 2) := by decide +kernel
theorem dX12_span_104 : decode cX12_span 104 = .ok (.ifCond .eq 13, 3) := by decide +kernel
theorem dX12_span_107 : decode cX12_span 107 = .ok (.aload_n 0, 1) := by decide +kernel
theorem dX12_span_108 : decode cX12_span 108 = .ok (.getfield 53, 3) := by decide +kernel
theorem dX12_span_111 : decode cX12_span 111 = .ok (.iload 7, 2) := by decide +kernel
theorem dX12_span_113 : decode cX12_span 113 = .ok (.iaload, 1) := by decide +kernel
theorem dX12_span_114 : decode cX12_span 114 = .ok (.goto 5, 3) := by decide +kernel
theorem dX12_span_117 : decode cX12_span 117 = .ok (.iload 4, 2) := by decide +kernel
theorem dX12_span_119 : decode cX12_span 119 = .ok (.istore 4, 2) := by decide +kernel
theorem dX12_span_121 : decode cX12_span 121 = .ok (.iload 8, 2) := by decide +kernel
theorem dX12_span_123 : decode cX12_span 123 = .ok (.ifCond .eq 8, 3) := by decide +kernel
theorem dX12_span_126 : decode cX12_span 126 = .ok (.iload 7, 2) := by decide +kernel
theorem dX12_span_128 : decode cX12_span 128 = .ok (.goto 5, 3) := by decide +kernel
theorem dX12_span_131 : decode cX12_span 131 = .ok (.iload 5, 2) := by decide +kernel
theorem dX12_span_133 : decode cX12_span 133 = .ok (.istore 5, 2) := by decide +kernel
theorem dX12_span_135 : decode cX12_span 135 = .ok (.iinc 7 1, 3) := by decide +kernel
theorem dX12_span_138 : decode cX12_span 138 = .ok (.goto (-86), 3) := by decide +kernel
theorem dX12_span_141 : decode cX12_span 141 = .ok (.iinc 6 1, 3) := by decide +kernel
theorem dX12_span_144 : decode cX12_span 144 = .ok (.goto (-110), 3) := by decide +kernel
theorem dX12_span_147 : decode cX12_span 147 = .ok (.iload 5, 2) := by decide +kernel
theorem dX12_span_149 : decode cX12_span 149 = .ok (.iconst (-1), 1) := by decide +kernel
theorem dX12_span_150 : decode cX12_span 150 = .ok (.if_icmp .ne 6, 3) := by decide +kernel
theorem dX12_span_153 : decode cX12_span 153 = .ok (.ldc 157, 2) := by decide +kernel
theorem dX12_span_155 : decode cX12_span 155 = .ok (.ireturn, 1) := by decide +kernel
theorem dX12_span_156 : decode cX12_span 156 = .ok (.iload_n 2, 1) := by decide +kernel
theorem dX12_span_157 : decode cX12_span 157 = .ok (.iconst 1, 1) := by decide +kernel
theorem dX12_span_158 : decode cX12_span 158 = .ok (.iload 5, 2) := by decide +kernel
theorem dX12_span_160 : decode cX12_span 160 = .ok (.ishl, 1) := by decide +kernel
theorem dX12_span_161 : decode cX12_span 161 = .ok (.ior, 1) := by decide +kernel
theorem dX12_span_162 : decode cX12_span 162 = .ok (.istore_n 2, 1) := by decide +kernel
theorem dX12_span_163 : decode cX12_span 163 = .ok (.iload_n 3, 1) := by decide +kernel
theorem dX12_span_164 : decode cX12_span 164 = .ok (.iload 4, 2) := by decide +kernel
theorem dX12_span_166 : decode cX12_span 166 = .ok (.iadd, 1) := by decide +kernel
