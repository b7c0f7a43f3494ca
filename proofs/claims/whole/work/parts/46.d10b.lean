set_option maxRecDepth 20000 in
theorem ggX10_readSeal_X10_digit : GoodIn wsX10_readSeal wsX10_digit := goodIn_r _ [6, 7, 8, 9, 10, 5, 11, 12, 13, 14, 15, 16, 17, 18, 19, 20, 21, 40, 41, 42, 43, 44, 45, 46, 47, 48, 49, 50, 51, 52, 53, 54, 55, 56, 57] (by decide +kernel) (by decide +kernel)
set_option maxRecDepth 20000 in
theorem gX10_readSeal_X10_digit : GoodIn wsX10_readSeal (wsV RX10 168 RX10 yX10_digit wsX10_digit) := goodIn_app (goodIn_of _ (by decide +kernel)) ggX10_readSeal_X10_digit
set_option maxRecDepth 20000 in
theorem ggX10_readSeal_X10_here : GoodIn wsX10_readSeal wsX10_here := goodIn_r _ [11, 12, 13, 14, 40, 41, 42, 43, 44, 45, 46, 47, 48, 49, 50, 51, 52, 53, 54, 55, 56, 57] (by decide +kernel) (by decide +kernel)
set_option maxRecDepth 20000 in
theorem gX10_readSeal_X10_here : GoodIn wsX10_readSeal (wsV RX10 160 RX10 yX10_here wsX10_here) := goodIn_app (goodIn_of _ (by decide +kernel)) ggX10_readSeal_X10_here
set_option maxRecDepth 20000 in
theorem ggX10_readSeal_X10_eat : GoodIn wsX10_readSeal wsX10_eat := goodIn_r _ [21, 7, 12, 40, 41, 42, 43, 44, 45, 46, 47, 48, 49, 50, 51, 52, 53, 54, 55, 56, 57] (by decide +kernel) (by decide +kernel)
set_option maxRecDepth 20000 in
theorem gX10_readSeal_X10_eat : GoodIn wsX10_readSeal (wsV RX10 164 RX10 yX10_eat wsX10_eat) := goodIn_app (goodIn_of _ (by decide +kernel)) ggX10_readSeal_X10_eat
set_option maxRecDepth 20000 in
theorem ggX10_readSeal_X10_ascending : GoodIn wsX10_readSeal wsX10_ascending := goodIn_r _ [25, 7, 12, 13, 8, 9, 10, 5, 11, 14, 2, 3, 4, 6, 15, 16, 17, 18, 19, 20, 21, 40, 41, 42, 43, 44, 45, 46, 47, 48, 49, 50, 51, 52, 53, 54, 55, 56, 57] (by decide +kernel) (by decide +kernel)
set_option maxRecDepth 20000 in
theorem gX10_readSeal_X10_ascending : GoodIn wsX10_readSeal (wsV RX10 178 RX10 yX10_ascending wsX10_ascending) := goodIn_app (goodIn_of _ (by decide +kernel)) ggX10_readSeal_X10_ascending
set_option maxRecDepth 20000 in
theorem ggX10_readSeal_X10_hasDie : GoodIn wsX10_readSeal wsX10_hasDie := goodIn_r _ [28, 15, 16, 5, 17] (by decide +kernel) (by decide +kernel)
set_option maxRecDepth 20000 in
theorem gX10_readSeal_X10_hasDie : GoodIn wsX10_readSeal (va_wsS RX10 197 yX10_hasDie wsX10_hasDie) := goodIn_app (goodIn_of _ (by decide +kernel)) ggX10_readSeal_X10_hasDie
set_option maxRecDepth 20000 in
theorem ggX10_readSeal_X10_areCracks : GoodIn wsX10_readSeal wsX10_areCracks := goodIn_r _ [31, 15, 16, 5, 17] (by decide +kernel) (by decide +kernel)
set_option maxRecDepth 20000 in
theorem gX10_readSeal_X10_areCracks : GoodIn wsX10_readSeal (va_wsS RX10 207 yX10_areCracks wsX10_areCracks) := goodIn_app (goodIn_of _ (by decide +kernel)) ggX10_readSeal_X10_areCracks
set_option maxRecDepth 20000 in
theorem ggX10_readSeal_X10_goes : GoodIn wsX10_readSeal wsX10_goes := goodIn_r _ [35, 36, 7, 40, 41, 42, 43, 44, 45, 46, 47, 48, 49, 50, 51, 52, 53, 54, 55, 56, 57] (by decide +kernel) (by decide +kernel)
set_option maxRecDepth 20000 in
theorem gX10_readSeal_X10_goes : GoodIn wsX10_readSeal (wsV RX10 184 RX10 yX10_goes wsX10_goes) := goodIn_app (goodIn_of _ (by decide +kernel)) ggX10_readSeal_X10_goes
set_option maxRecDepth 20000 in
theorem ggX10_readSeal_X10_goSeal : GoodIn wsX10_readSeal wsX10_goSeal := goodIn_r _ [39] (by decide +kernel) (by decide +kernel)
set_option maxRecDepth 20000 in
theorem gX10_readSeal_X10_goSeal : GoodIn wsX10_readSeal (va_wsS RX10 210 yX10_goSeal wsX10_goSeal) := goodIn_app (goodIn_of _ (by decide +kernel)) ggX10_readSeal_X10_goSeal
theorem dX10_readSeal_0 : decode cX10_readSeal 0 = .ok (.aload_n 0, 1) := by decide +kernel
theorem dX10_readSeal_1 : decode cX10_readSeal 1 = .ok (.iconst 0, 1) := by decide +kernel
theorem dX10_readSeal_2 : decode cX10_readSeal 2 = .ok (.bipush 9, 2) := by decide +kernel
theorem dX10_readSeal_4 : decode cX10_readSeal 4 = .ok (.invokevirtual 168, 3) := by decide +kernel
theorem dX10_readSeal_7 : decode cX10_readSeal 7 = .ok (.istore_n 2, 1) := by decide +kernel
theorem dX10_readSeal_8 : decode cX10_readSeal 8 = .ok (.aload_n 0, 1) := by decide +kernel
theorem dX10_readSeal_9 : decode cX10_readSeal 9 = .ok (.invokevirtual 160, 3) := by decide +kernel
theorem dX10_readSeal_12 : decode cX10_readSeal 12 = .ok (.bipush 46, 2) := by decide +kernel
theorem dX10_readSeal_14 : decode cX10_readSeal 14 = .ok (.if_icmp .ne 7, 3) := by decide +kernel
theorem dX10_readSeal_17 : decode cX10_readSeal 17 = .ok (.iconst 1, 1) := by decide +kernel
theorem dX10_readSeal_18 : decode cX10_readSeal 18 = .ok (.goto 4, 3) := by decide +kernel
theorem dX10_readSeal_21 : decode cX10_readSeal 21 = .ok (.iconst 0, 1) := by decide +kernel
theorem dX10_readSeal_22 : decode cX10_readSeal 22 = .ok (.istore_n 3, 1) := by decide +kernel
theorem dX10_readSeal_23 : decode cX10_readSeal 23 = .ok (.iload_n 3, 1) := by decide +kernel
theorem dX10_readSeal_24 : decode cX10_readSeal 24 = .ok (.ifCond .eq 7, 3) := by decide +kernel
theorem dX10_readSeal_27 : decode cX10_readSeal 27 = .ok (.iconst (-1), 1) := by decide +kernel
theorem dX10_readSeal_28 : decode cX10_readSeal 28 = .ok (.goto 10, 3) := by decide +kernel
theorem dX10_readSeal_31 : decode cX10_readSeal 31 = .ok (.aload_n 0, 1) := by decide +kernel
theorem dX10_readSeal_32 : decode cX10_readSeal 32 = .ok (.iconst 0, 1) := by decide +kernel
theorem dX10_readSeal_33 : decode cX10_readSeal 33 = .ok (.bipush 7, 2) := by decide +kernel
theorem dX10_readSeal_35 : decode cX10_readSeal 35 = .ok (.invokevirtual 168, 3) := by decide +kernel
theorem dX10_readSeal_38 : decode cX10_readSeal 38 = .ok (.istore 4, 2) := by decide +kernel
theorem dX10_readSeal_40 : decode cX10_readSeal 40 = .ok (.iload_n 3, 1) := by decide +kernel
theorem dX10_readSeal_41 : decode cX10_readSeal 41 = .ok (.ifCond .eq 8, 3) := by decide +kernel
theorem dX10_readSeal_44 : decode cX10_readSeal 44 = .ok (.aload_n 0, 1) := by decide +kernel
theorem dX10_readSeal_45 : decode cX10_readSeal 45 = .ok (.iconst 1, 1) := by decide +kernel
theorem dX10_readSeal_46 : decode cX10_readSeal 46 = .ok (.invokevirtual 164, 3) := by decide +kernel
theorem dX10_readSeal_49 : decode cX10_readSeal 49 = .ok (.bipush 10, 2) := by decide +kernel
theorem dX10_readSeal_51 : decode cX10_readSeal 51 = .ok (.aload_n 0, 1) := by decide +kernel
theorem dX10_readSeal_52 : decode cX10_readSeal 52 = .ok (.iconst 0, 1) := by decide +kernel
theorem dX10_readSeal_53 : decode cX10_readSeal 53 = .ok (.bipush 9, 2) := by decide +kernel
theorem dX10_readSeal_55 : decode cX10_readSeal 55 = .ok (.invokevirtual 168, 3) := by decide +kernel
theorem dX10_readSeal_58 : decode cX10_readSeal 58 = .ok (.imul, 1) := by decide +kernel
theorem dX10_readSeal_59 : decode cX10_readSeal 59 = .ok (.istore 5, 2) := by decide +kernel
theorem dX10_readSeal_61 : decode cX10_readSeal 61 = .ok (.iload 5, 2) := by decide +kernel
theorem dX10_readSeal_63 : decode cX10_readSeal 63 = .ok (.aload_n 0, 1) := by decide +kernel
theorem dX10_readSeal_64 : decode cX10_readSeal 64 = .ok (.iconst 0, 1) := by decide +kernel
theorem dX10_readSeal_65 : decode cX10_readSeal 65 = .ok (.bipush 9, 2) := by decide +kernel
theorem dX10_readSeal_67 : decode cX10_readSeal 67 = .ok (.invokevirtual 168, 3) := by decide +kernel
theorem dX10_readSeal_70 : decode cX10_readSeal 70 = .ok (.iadd, 1) := by decide +kernel
theorem dX10_readSeal_71 : decode cX10_readSeal 71 = .ok (.istore 5, 2) := by decide +kernel
theorem dX10_readSeal_73 : decode cX10_readSeal 73 = .ok (.aload_n 0, 1) := by decide +kernel
theorem dX10_readSeal_74 : decode cX10_readSeal 74 = .ok (.iconst 0, 1) := by decide +kernel
theorem dX10_readSeal_75 : decode cX10_readSeal 75 = .ok (.iconst 3, 1) := by decide +kernel
theorem dX10_readSeal_76 : decode cX10_readSeal 76 = .ok (.invokevirtual 178, 3) := by decide +kernel
theorem dX10_readSeal_79 : decode cX10_readSeal 79 = .ok (.istore 6, 2) := by decide +kernel
theorem dX10_readSeal_81 : decode cX10_readSeal 81 = .ok (.aload_n 0, 1) := by decide +kernel
theorem dX10_readSeal_82 : decode cX10_readSeal 82 = .ok (.aload_n 0, 1) := by decide +kernel
theorem dX10_readSeal_83 : decode cX10_readSeal 83 = .ok (.getfield 16, 3) := by decide +kernel
theorem dX10_readSeal_86 : decode cX10_readSeal 86 = .ok (.iload_n 2, 1) := by decide +kernel
theorem dX10_readSeal_87 : decode cX10_readSeal 87 = .ok (.invokestatic 197, 3) := by decide +kernel
theorem dX10_readSeal_90 : decode cX10_readSeal 90 = .ok (.ifCond .eq 31, 3) := by decide +kernel
theorem dX10_readSeal_93 : decode cX10_readSeal 93 = .ok (.aload_n 0, 1) := by decide +kernel
theorem dX10_readSeal_94 : decode cX10_readSeal 94 = .ok (.getfield 16, 3) := by decide +kernel
theorem dX10_readSeal_97 : decode cX10_readSeal 97 = .ok (.iload_n 2, 1) := by decide +kernel
theorem dX10_readSeal_98 : decode cX10_readSeal 98 = .ok (.iload 6, 2) := by decide +kernel
theorem dX10_readSeal_100 : decode cX10_readSeal 100 = .ok (.invokestatic 207, 3) := by decide +kernel
theorem dX10_readSeal_103 : decode cX10_readSeal 103 = .ok (.ifCond .eq 18, 3) := by decide +kernel
theorem dX10_readSeal_106 : decode cX10_readSeal 106 = .ok (.aload_n 0, 1) := by decide +kernel
theorem dX10_readSeal_107 : decode cX10_readSeal 107 = .ok (.getfield 16, 3) := by decide +kernel
theorem dX10_readSeal_110 : decode cX10_readSeal 110 = .ok (.iconst 2, 1) := by decide +kernel
theorem dX10_readSeal_111 : decode cX10_readSeal 111 = .ok (.iaload, 1) := by decide +kernel
theorem dX10_readSeal_112 : decode cX10_readSeal 112 = .ok (.bipush 24, 2) := by decide +kernel
theorem dX10_readSeal_114 : decode cX10_readSeal 114 = .ok (.if_icmp .ge 7, 3) := by decide +kernel
theorem dX10_readSeal_117 : decode cX10_readSeal 117 = .ok (.iconst 1, 1) := by decide +kernel
theorem dX10_readSeal_118 : decode cX10_readSeal 118 = .ok (.goto 4, 3) := by decide +kernel
theorem dX10_readSeal_121 : decode cX10_readSeal 121 = .ok (.iconst 0, 1) := by decide +kernel
theorem dX10_readSeal_122 : decode cX10_readSeal 122 = .ok (.invokevirtual 184, 3) := by decide +kernel
theorem dX10_readSeal_125 : decode cX10_readSeal 125 = .ok (.ifCond .eq 19, 3) := by decide +kernel
theorem dX10_readSeal_128 : decode cX10_readSeal 128 = .ok (.aload_n 0, 1) := by decide +kernel
theorem dX10_readSeal_129 : decode cX10_readSeal 129 = .ok (.getfield 16, 3) := by decide +kernel
theorem dX10_readSeal_132 : decode cX10_readSeal 132 = .ok (.iload_n 2, 1) := by decide +kernel
theorem dX10_readSeal_133 : decode cX10_readSeal 133 = .ok (.iload_n 1, 1) := by decide +kernel
theorem dX10_readSeal_134 : decode cX10_readSeal 134 = .ok (.iload 4, 2) := by decide +kernel
theorem dX10_readSeal_136 : decode cX10_readSeal 136 = .ok (.iload 5, 2) := by decide +kernel
theorem dX10_readSeal_138 : decode cX10_readSeal 138 = .ok (.iload 6, 2) := by decide +kernel
theorem dX10_readSeal_140 : decode cX10_readSeal 140 = .ok (.invokestatic 210, 3) := by decide +kernel
theorem dX10_readSeal_143 : decode cX10_readSeal 143 = .ok (.pop, 1) := by decide +kernel
theorem dX10_readSeal_144 : decode cX10_readSeal 144 = .ok (.return_, 1) := by decide +kernel
set_option maxRecDepth 20000 in
theorem ggX10_readHang_X10_digit : GoodIn wsX10_readHang wsX10_digit := goodIn_r _ [6, 7, 8, 9, 10, 5, 11, 12, 13, 14, 15, 16, 17, 18, 19, 20, 21, 40, 41, 42, 43, 44, 45, 46, 47, 48, 49, 50, 51, 52, 53, 54, 55, 56, 57] (by decide +kernel) (by decide +kernel)
set_option maxRecDepth 20000 in
theorem gX10_readHang_X10_digit : GoodIn wsX10_readHang (wsV RX10 168 RX10 yX10_digit wsX10_digit) := goodIn_app (goodIn_of _ (by decide +kernel)) ggX10_readHang_X10_digit
set_option maxRecDepth 20000 in
theorem ggX10_readHang_X10_end : GoodIn wsX10_readHang wsX10_end := goodIn_r _ [25, 7, 12, 13, 8, 9, 10, 5, 11, 14, 40, 41, 42, 43, 44, 45, 46, 47, 48, 49, 50, 51, 52, 53, 54, 55, 56, 57] (by decide +kernel) (by decide +kernel)
set_option maxRecDepth 20000 in
theorem gX10_readHang_X10_end : GoodIn wsX10_readHang (wsV RX10 191 RX10 yX10_end wsX10_end) := goodIn_app (goodIn_of _ (by decide +kernel)) ggX10_readHang_X10_end
set_option maxRecDepth 20000 in
theorem ggX10_readHang_X10_hasSeal : GoodIn wsX10_readHang wsX10_hasSeal := goodIn_r _ [28, 15, 16, 5, 17] (by decide +kernel) (by decide +kernel)
set_option maxRecDepth 20000 in
theorem gX10_readHang_X10_hasSeal : GoodIn wsX10_readHang (va_wsS RX10 214 yX10_hasSeal wsX10_hasSeal) := goodIn_app (goodIn_of _ (by decide +kernel)) ggX10_readHang_X10_hasSeal
set_option maxRecDepth 20000 in
theorem ggX10_readHang_X10_goes : GoodIn wsX10_readHang wsX10_goes := goodIn_r _ [32, 33, 7, 40, 41, 42, 43, 44, 45, 46, 47, 48, 49, 50, 51, 52, 53, 54, 55, 56, 57] (by decide +kernel) (by decide +kernel)
set_option maxRecDepth 20000 in
theorem gX10_readHang_X10_goes : GoodIn wsX10_readHang (wsV RX10 184 RX10 yX10_goes wsX10_goes) := goodIn_app (goodIn_of _ (by decide +kernel)) ggX10_readHang_X10_goes
set_option maxRecDepth 20000 in
theorem ggX10_readHang_X10_goHang : GoodIn wsX10_readHang wsX10_goHang := goodIn_r _ [36, 37, 38, 5, 39] (by decide +kernel) (by decide +kernel)
set_option maxRecDepth 20000 in
theorem gX10_readHang_X10_goHang : GoodIn wsX10_readHang (va_wsS RX10 217 yX10_goHang wsX10_goHang) := goodIn_app (goodIn_of _ (by decide +kernel)) ggX10_readHang_X10_goHang
theorem dX10_readHang_0 : decode cX10_readHang 0 = .ok (.aload_n 0, 1) := by decide +kernel
theorem dX10_readHang_1 : decode cX10_readHang 1 = .ok (.iconst 0, 1) := by decide +kernel
theorem dX10_readHang_2 : decode cX10_readHang 2 = .ok (.iconst 2, 1) := by decide +kernel
theorem dX10_readHang_3 : decode cX10_readHang 3 = .ok (.invokevirtual 168, 3) := by decide +kernel
theorem dX10_readHang_6 : decode cX10_readHang 6 = .ok (.istore_n 1, 1) := by decide +kernel
theorem dX10_readHang_7 : decode cX10_readHang 7 = .ok (.bipush 10, 2) := by decide +kernel
theorem dX10_readHang_9 : decode cX10_readHang 9 = .ok (.iload_n 1, 1) := by decide +kernel
theorem dX10_readHang_10 : decode cX10_readHang 10 = .ok (.imul, 1) := by decide +kernel
theorem dX10_readHang_11 : decode cX10_readHang 11 = .ok (.aload_n 0, 1) := by decide +kernel
theorem dX10_readHang_12 : decode cX10_readHang 12 = .ok (.iconst 0, 1) := by decide +kernel
theorem dX10_readHang_13 : decode cX10_readHang 13 = .ok (.iload_n 1, 1) := by decide +kernel
theorem dX10_readHang_14 : decode cX10_readHang 14 = .ok (.iconst 2, 1) := by decide +kernel
theorem dX10_readHang_15 : decode cX10_readHang 15 = .ok (.if_icmp .ne 7, 3) := by decide +kernel
theorem dX10_readHang_18 : decode cX10_readHang 18 = .ok (.iconst 3, 1) := by decide +kernel
theorem dX10_readHang_19 : decode cX10_readHang 19 = .ok (.goto 5, 3) := by decide +kernel
theorem dX10_readHang_22 : decode cX10_readHang 22 = .ok (.bipush 9, 2) := by decide +kernel
theorem dX10_readHang_24 : decode cX10_readHang 24 = .ok (.invokevirtual 168, 3) := by decide +kernel
theorem dX10_readHang_27 : decode cX10_readHang 27 = .ok (.iadd, 1) := by decide +kernel
theorem dX10_readHang_28 : decode cX10_readHang 28 = .ok (.istore_n 2, 1) := by decide +kernel
theorem dX10_readHang_29 : decode cX10_readHang 29 = .ok (.aload_n 0, 1) := by decide +kernel
theorem dX10_readHang_30 : decode cX10_readHang 30 = .ok (.iconst 0, 1) := by decide +kernel
theorem dX10_readHang_31 : decode cX10_readHang 31 = .ok (.iconst 5, 1) := by decide +kernel
theorem dX10_readHang_32 : decode cX10_readHang 32 = .ok (.invokevirtual 168, 3) := by decide +kernel
theorem dX10_readHang_35 : decode cX10_readHang 35 = .ok (.istore_n 3, 1) := by decide +kernel
theorem dX10_readHang_36 : decode cX10_readHang 36 = .ok (.aload_n 0, 1) := by decide +kernel
theorem dX10_readHang_37 : decode cX10_readHang 37 = .ok (.invokevirtual 191, 3) := by decide +kernel
theorem dX10_readHang_40 : decode cX10_readHang 40 = .ok (.aload_n 0, 1) := by decide +kernel
theorem dX10_readHang_41 : decode cX10_readHang 41 = .ok (.aload_n 0, 1) := by decide +kernel
theorem dX10_readHang_42 : decode cX10_readHang 42 = .ok (.getfield 16, 3) := by decide +kernel
theorem dX10_readHang_45 : decode cX10_readHang 45 = .ok (.iload_n 2, 1) := by decide +kernel
theorem dX10_readHang_46 : decode cX10_readHang 46 = .ok (.invokestatic 214, 3) := by decide +kernel
theorem dX10_readHang_49 : decode cX10_readHang 49 = .ok (.invokevirtual 184, 3) := by decide +kernel
theorem dX10_readHang_52 : decode cX10_readHang 52 = .ok (.ifCond .eq 13, 3) := by decide +kernel
theorem dX10_readHang_55 : decode cX10_readHang 55 = .ok (.aload_n 0, 1) := by decide +kernel
theorem dX10_readHang_56 : decode cX10_readHang 56 = .ok (.getfield 16, 3) := by decide +kernel
theorem dX10_readHang_59 : decode cX10_readHang 59 = .ok (.iload_n 2, 1) := by decide +kernel
theorem dX10_readHang_60 : decode cX10_readHang 60 = .ok (.iload_n 3, 1) := by decide +kernel
theorem dX10_readHang_61 : decode cX10_readHang 61 = .ok (.invokestatic 217, 3) := by decide +kernel
theorem dX10_readHang_64 : decode cX10_readHang 64 = .ok (.pop, 1) := by decide +kernel
theorem dX10_readHang_65 : decode cX10_readHang 65 = .ok (.return_, 1) := by decide +kernel
set_option maxRecDepth 20000 in
theorem ggX10_end_X10_here : GoodIn wsX10_end wsX10_here := goodIn_r _ [8, 2, 3, 9, 10, 11, 12, 13, 14, 15, 16, 17, 18, 19, 20, 21, 22, 23, 24, 25, 26, 27] (by decide +kernel) (by decide +kernel)
set_option maxRecDepth 20000 in
theorem gX10_end_X10_here : GoodIn wsX10_end (wsV RX10 160 RX10 yX10_here wsX10_here) := goodIn_app (goodIn_of _ (by decide +kernel)) ggX10_end_X10_here
theorem dX10_end_0 : decode cX10_end 0 = .ok (.aload_n 0, 1) := by decide +kernel
theorem dX10_end_1 : decode cX10_end 1 = .ok (.aload_n 0, 1) := by decide +kernel
theorem dX10_end_2 : decode cX10_end 2 = .ok (.getfield 156, 3) := by decide +kernel
theorem dX10_end_5 : decode cX10_end 5 = .ok (.ifCond .eq 27, 3) := by decide +kernel
theorem dX10_end_8 : decode cX10_end 8 = .ok (.aload_n 0, 1) := by decide +kernel
theorem dX10_end_9 : decode cX10_end 9 = .ok (.getfield 153, 3) := by decide +kernel
theorem dX10_end_12 : decode cX10_end 12 = .ok (.aload_n 0, 1) := by decide +kernel
theorem dX10_end_13 : decode cX10_end 13 = .ok (.getfield 147, 3) := by decide +kernel
theorem dX10_end_16 : decode cX10_end 16 = .ok (.if_icmp .eq 12, 3) := by decide +kernel
theorem dX10_end_19 : decode cX10_end 19 = .ok (.aload_n 0, 1) := by decide +kernel
theorem dX10_end_20 : decode cX10_end 20 = .ok (.invokevirtual 160, 3) := by decide +kernel
theorem dX10_end_23 : decode cX10_end 23 = .ok (.bipush 59, 2) := by decide +kernel
theorem dX10_end_25 : decode cX10_end 25 = .ok (.if_icmp .ne 7, 3) := by decide +kernel
theorem dX10_end_28 : decode cX10_end 28 = .ok (.iconst 1, 1) := by decide +kernel
theorem dX10_end_29 : decode cX10_end 29 = .ok (.goto 4, 3) := by decide +kernel
theorem dX10_end_32 : decode cX10_end 32 = .ok (.iconst 0, 1) := by decide +kernel
theorem dX10_end_33 : decode cX10_end 33 = .ok (.putfield 156, 3) := by decide +kernel
theorem dX10_end_36 : decode cX10_end 36 = .ok (.return_, 1) := by decide +kernel
set_option maxRecDepth 20000 in
theorem ggX10_readEntry_X10_here : GoodIn wsX10_readEntry wsX10_here := goodIn_r _ [6, 7, 8, 9, 92, 93, 94, 95, 96, 97, 98, 99, 100, 101, 102, 103, 104, 105, 106, 107, 108, 109] (by decide +kernel) (by decide +kernel)
set_option maxRecDepth 20000 in
theorem gX10_readEntry_X10_here : GoodIn wsX10_readEntry (wsV RX10 160 RX10 yX10_here wsX10_here) := goodIn_app (goodIn_of _ (by decide +kernel)) ggX10_readEntry_X10_here
set_option maxRecDepth 20000 in
theorem ggX10_readEntry_X10_eat : GoodIn wsX10_readEntry wsX10_eat := goodIn_r _ [13, 1, 7, 92, 93, 94, 95, 96, 97, 98, 99, 100, 101, 102, 103, 104, 105, 106, 107, 108, 109] (by decide +kernel) (by decide +kernel)
set_option maxRecDepth 20000 in
theorem gX10_readEntry_X10_eat : GoodIn wsX10_readEntry (wsV RX10 164 RX10 yX10_eat wsX10_eat) := goodIn_app (goodIn_of _ (by decide +kernel)) ggX10_readEntry_X10_eat
set_option maxRecDepth 20000 in
theorem ggX10_readEntry_X10_readReign : GoodIn wsX10_readEntry wsX10_readReign := goodIn_r _ [17, 18, 19, 20, 21, 5, 22, 23, 24, 25, 26, 1, 2, 3, 4, 6, 7, 8, 9, 27, 28, 29, 10, 11, 12, 13, 30, 31, 32, 33, 34, 35, 36, 37, 38, 39, 40, 41, 42, 43, 44, 92, 93, 94, 95, 96, 97, 98, 99, 100, 101, 102, 103, 104, 105, 106, 107, 108, 109] (by decide +kernel) (by decide +kernel)
set_option maxRecDepth 20000 in
theorem gX10_readEntry_X10_readReign : GoodIn wsX10_readEntry (wsV RX10 220 RX10 yX10_readReign wsX10_readReign) := goodIn_app (goodIn_of _ (by decide +kernel)) ggX10_readEntry_X10_readReign
set_option maxRecDepth 20000 in
theorem ggX10_readEntry_X10_readDie : GoodIn wsX10_readEntry wsX10_readDie := goodIn_r _ [48, 18, 23, 24, 25, 5, 26, 1, 2, 3, 4, 6, 7, 8, 9, 27, 28, 29, 10, 11, 12, 13, 19, 20, 21, 22, 49, 50, 51, 52, 37, 38, 39, 40, 41, 53, 54, 55, 92, 93, 94, 95, 96, 97, 98, 99, 100, 101, 102, 103, 104, 105, 106, 107, 108, 109] (by decide +kernel) (by decide +kernel)
set_option maxRecDepth 20000 in
theorem gX10_readEntry_X10_readDie : GoodIn wsX10_readEntry (wsV RX10 223 RX10 yX10_readDie wsX10_readDie) := goodIn_app (goodIn_of _ (by decide +kernel)) ggX10_readEntry_X10_readDie
set_option maxRecDepth 20000 in
theorem ggX10_readEntry_X10_readCrack : GoodIn wsX10_readEntry wsX10_readCrack := goodIn_r _ [59, 18, 23, 24, 25, 5, 26, 1, 2, 3, 4, 6, 7, 8, 9, 27, 28, 29, 10, 11, 12, 13, 19, 20, 21, 22, 49, 50, 51, 52, 60, 61, 62, 63, 64, 65, 37, 38, 39, 40, 41, 66, 67, 68, 92, 93, 94, 95, 96, 97, 98, 99, 100, 101, 102, 103, 104, 105, 106, 107, 108, 109] (by decide +kernel) (by decide +kernel)
set_option maxRecDepth 20000 in
theorem gX10_readEntry_X10_readCrack : GoodIn wsX10_readEntry (wsV RX10 226 RX10 yX10_readCrack wsX10_readCrack) := goodIn_app (goodIn_of _ (by decide +kernel)) ggX10_readEntry_X10_readCrack
set_option maxRecDepth 20000 in
theorem ggX10_readEntry_X10_readHang : GoodIn wsX10_readEntry wsX10_readHang := goodIn_r _ [72, 18, 23, 24, 25, 5, 26, 1, 2, 3, 4, 6, 7, 8, 9, 27, 28, 29, 10, 11, 12, 13, 49, 50, 51, 52, 73, 74, 75, 37, 38, 39, 40, 41, 76, 77, 78, 79, 80, 81, 92, 93, 94, 95, 96, 97, 98, 99, 100, 101, 102, 103, 104, 105, 106, 107, 108, 109] (by decide +kernel) (by decide +kernel)
set_option maxRecDepth 20000 in
theorem gX10_readEntry_X10_readHang : GoodIn wsX10_readEntry (wsV RX10 229 RX10 yX10_readHang wsX10_readHang) := goodIn_app (goodIn_of _ (by decide +kernel)) ggX10_readEntry_X10_readHang
set_option maxRecDepth 20000 in
theorem ggX10_readEntry_X10_readSeal : GoodIn wsX10_readEntry wsX10_readSeal := goodIn_r _ [85, 18, 23, 24, 25, 5, 26, 1, 2, 3, 4, 6, 7, 8, 9, 27, 28, 29, 10, 11, 12, 13, 30, 31, 32, 33, 60, 61, 62, 86, 87, 88, 37, 38, 39, 40, 41, 89, 90, 91, 92, 93, 94, 95, 96, 97, 98, 99, 100, 101, 102, 103, 104, 105, 106, 107, 108, 109] (by decide +kernel) (by decide +kernel)
set_option maxRecDepth 20000 in
theorem gX10_readEntry_X10_readSeal : GoodIn wsX10_readEntry (wsV RX10 232 RX10 yX10_readSeal wsX10_readSeal) := goodIn_app (goodIn_of _ (by decide +kernel)) ggX10_readEntry_X10_readSeal
theorem dX10_readEntry_0 : decode cX10_readEntry 0 = .ok (.aload_n 0, 1) := by decide +kernel
theorem dX10_readEntry_1 : decode cX10_readEntry 1 = .ok (.invokevirtual 160, 3) := by decide +kernel
theorem dX10_readEntry_4 : decode cX10_readEntry 4 = .ok (.istore_n 1, 1) := by decide +kernel
theorem dX10_readEntry_5 : decode cX10_readEntry 5 = .ok (.aload_n 0, 1) := by decide +kernel
theorem dX10_readEntry_6 : decode cX10_readEntry 6 = .ok (.iload_n 1, 1) := by decide +kernel
theorem dX10_readEntry_7 : decode cX10_readEntry 7 = .ok (.bipush 114, 2) := by decide +kernel
theorem dX10_readEntry_9 : decode cX10_readEntry 9 = .ok (.if_icmp .eq 33, 3) := by decide +kernel
theorem dX10_readEntry_12 : decode cX10_readEntry 12 = .ok (.iload_n 1, 1) := by decide +kernel
theorem dX10_readEntry_13 : decode cX10_readEntry 13 = .ok (.bipush 100, 2) := by decide +kernel
theorem dX10_readEntry_15 : decode cX10_readEntry 15 = .ok (.if_icmp .eq 27, 3) := by decide +kernel
theorem dX10_readEntry_18 : decode cX10_readEntry 18 = .ok (.iload_n 1, 1) := by decide +kernel
theorem dX10_readEntry_19 : decode cX10_readEntry 19 = .ok (.bipush 107, 2) := by decide +kernel
theorem dX10_readEntry_21 : decode cX10_readEntry 21 = .ok (.if_icmp .eq 21, 3) := by decide +kernel
theorem dX10_readEntry_24 : decode cX10_readEntry 24 = .ok (.iload_n 1, 1) := by decide +kernel
theorem dX10_readEntry_25 : decode cX10_readEntry 25 = .ok (.bipush 119, 2) := by decide +kernel
theorem dX10_readEntry_27 : decode cX10_readEntry 27 = .ok (.if_icmp .eq 15, 3) := by decide +kernel
theorem dX10_readEntry_30 : decode cX10_readEntry 30 = .ok (.iload_n 1, 1) := by decide +kernel
theorem dX10_readEntry_31 : decode cX10_readEntry 31 = .ok (.bipush 98, 2) := by decide +kernel
theorem dX10_readEntry_33 : decode cX10_readEntry 33 = .ok (.if_icmp .eq 9, 3) := by decide +kernel
theorem dX10_readEntry_36 : decode cX10_readEntry 36 = .ok (.iload_n 1, 1) := by decide +kernel
theorem dX10_readEntry_37 : decode cX10_readEntry 37 = .ok (.bipush 104, 2) := by decide +kernel
theorem dX10_readEntry_39 : decode cX10_readEntry 39 = .ok (.if_icmp .ne 7, 3) := by decide +kernel
theorem dX10_readEntry_42 : decode cX10_readEntry 42 = .ok (.iconst 1, 1) := by decide +kernel
theorem dX10_readEntry_43 : decode cX10_readEntry 43 = .ok (.goto 4, 3) := by decide +kernel
theorem dX10_readEntry_46 : decode cX10_readEntry 46 = .ok (.iconst 0, 1) := by decide +kernel
theorem dX10_readEntry_47 : decode cX10_readEntry 47 = .ok (.invokevirtual 164, 3) := by decide +kernel
theorem dX10_readEntry_50 : decode cX10_readEntry 50 = .ok (.aload_n 0, 1) := by decide +kernel
theorem dX10_readEntry_51 : decode cX10_readEntry 51 = .ok (.getfield 156, 3) := by decide +kernel
theorem dX10_readEntry_54 : decode cX10_readEntry 54 = .ok (.ifCond .eq 89, 3) := by decide +kernel
theorem dX10_readEntry_57 : decode cX10_readEntry 57 = .ok (.iload_n 1, 1) := by decide +kernel
theorem dX10_readEntry_58 : decode cX10_readEntry 58 = .ok (.lookupswitch 70 #[(100, 49), (104, 63), (107, 56), (114, 42)], 42) := by decide +kernel
theorem dX10_readEntry_100 : decode cX10_readEntry 100 = .ok (.aload_n 0, 1) := by decide +kernel
theorem dX10_readEntry_101 : decode cX10_readEntry 101 = .ok (.invokevirtual 220, 3) := by decide +kernel
theorem dX10_readEntry_104 : decode cX10_readEntry 104 = .ok (.goto 39, 3) := by decide +kernel
theorem dX10_readEntry_107 : decode cX10_readEntry 107 = .ok (.aload_n 0, 1) := by decide +kernel
theorem dX10_readEntry_108 : decode cX10_readEntry 108 = .ok (.invokevirtual 223, 3) := by decide +kernel
theorem dX10_readEntry_111 : decode cX10_readEntry 111 = .ok (.goto 32, 3) := by decide +kernel
theorem dX10_readEntry_114 : decode cX10_readEntry 114 = .ok (.aload_n 0, 1) := by decide +kernel
theorem dX10_readEntry_115 : decode cX10_readEntry 115 = .ok (.invokevirtual 226, 3) := by decide +kernel
theorem dX10_readEntry_118 : decode cX10_readEntry 118 = .ok (.goto 25, 3) := by decide +kernel
theorem dX10_readEntry_121 : decode cX10_readEntry 121 = .ok (.aload_n 0, 1) := by decide +kernel
theorem dX10_readEntry_122 : decode cX10_readEntry 122 = .ok (.invokevirtual 229, 3) := by decide +kernel
theorem dX10_readEntry_125 : decode cX10_readEntry 125 = .ok (.goto 18, 3) := by decide +kernel
theorem dX10_readEntry_128 : decode cX10_readEntry 128 = .ok (.aload_n 0, 1) := by decide +kernel
theorem dX10_readEntry_129 : decode cX10_readEntry 129 = .ok (.iload_n 1, 1) := by decide +kernel
theorem dX10_readEntry_130 : decode cX10_readEntry 130 = .ok (.bipush 119, 2) := by decide +kernel
theorem dX10_readEntry_132 : decode cX10_readEntry 132 = .ok (.if_icmp .ne 7, 3) := by decide +kernel
theorem dX10_readEntry_135 : decode cX10_readEntry 135 = .ok (.iconst 0, 1) := by decide +kernel
theorem dX10_readEntry_136 : decode cX10_readEntry 136 = .ok (.goto 4, 3) := by decide +kernel
theorem dX10_readEntry_139 : decode cX10_readEntry 139 = .ok (.iconst 1, 1) := by decide +kernel
theorem dX10_readEntry_140 : decode cX10_readEntry 140 = .ok (.invokevirtual 232, 3) := by decide +kernel
theorem dX10_readEntry_143 : decode cX10_readEntry 143 = .ok (.return_, 1) := by decide +kernel
set_option maxRecDepth 20000 in
theorem ggX10_readAll_X10_fresh : GoodIn wsX10_readAll wsX10_fresh := goodIn_r _ [9] (by decide +kernel) (by decide +kernel)
set_option maxRecDepth 20000 in
theorem gX10_readAll_X10_fresh : GoodIn wsX10_readAll (va_wsS RX10 35 yX10_fresh wsX10_fresh) := goodIn_app (goodIn_of _ (by decide +kernel)) ggX10_readAll_X10_fresh
set_option maxRecDepth 20000 in
theorem ggX10_readAll_X10_readEntry : GoodIn wsX10_readAll wsX10_readEntry := goodIn_r _ [13, 2, 14, 15, 16, 8, 17, 1, 5, 18, 19, 20, 21, 22, 23, 24, 25, 26, 4, 27, 28, 29, 30, 31, 32, 33, 34, 35, 36, 37, 38, 39, 40, 41, 42, 43, 44, 45, 46, 47, 48, 3, 49, 50, 51, 52, 53, 54, 55, 56, 57, 58, 59, 60, 61, 62, 63, 64, 65, 66, 67, 68, 69, 70, 71, 72, 73, 74, 75, 76, 77, 78, 79, 80, 81, 82, 83, 84, 85, 86, 87, 88, 89, 90, 91, 92, 93, 94, 95, 96, 97, 98, 99, 100, 101, 102, 103, 104, 105, 106, 107, 108, 109, 110, 111, 112, 113, 114, 115, 116] (by decide +kernel) (by decide +kernel)
set_option maxRecDepth 20000 in
theorem gX10_readAll_X10_readEntry : GoodIn wsX10_readAll (wsV RX10 236 RX10 yX10_readEntry wsX10_readEntry) := goodIn_app (goodIn_of _ (by decide +kernel)) ggX10_readAll_X10_readEntry
set_option maxRecDepth 20000 in
theorem ggX10_readAll_X10_here : GoodIn wsX10_readAll wsX10_here := goodIn_r _ [17, 1, 5, 18, 99, 100, 101, 102, 103, 104, 105, 106, 107, 108, 109, 110, 111, 112, 113, 114, 115, 116] (by decide +kernel) (by decide +kernel)
set_option maxRecDepth 20000 in
theorem gX10_readAll_X10_here : GoodIn wsX10_readAll (wsV RX10 160 RX10 yX10_here wsX10_here) := goodIn_app (goodIn_of _ (by decide +kernel)) ggX10_readAll_X10_here
set_option maxRecDepth 20000 in
theorem ggX10_readAll_X10_eat : GoodIn wsX10_readAll wsX10_eat := goodIn_r _ [22, 2, 1, 99, 100, 101, 102, 103, 104, 105, 106, 107, 108, 109, 110, 111, 112, 113, 114, 115, 116] (by decide +kernel) (by decide +kernel)
set_option maxRecDepth 20000 in
theorem gX10_readAll_X10_eat : GoodIn wsX10_readAll (wsV RX10 164 RX10 yX10_eat wsX10_eat) := goodIn_app (goodIn_of _ (by decide +kernel)) ggX10_readAll_X10_eat
theorem dX10_readAll_0 : decode cX10_readAll 0 = .ok (.aload_n 0, 1) := by decide +kernel
theorem dX10_readAll_1 : decode cX10_readAll 1 = .ok (.iconst 0, 1) := by decide +kernel
theorem dX10_readAll_2 : decode cX10_readAll 2 = .ok (.putfield 153, 3) := by decide +kernel
theorem dX10_readAll_5 : decode cX10_readAll 5 = .ok (.aload_n 0, 1) := by decide +kernel
theorem dX10_readAll_6 : decode cX10_readAll 6 = .ok (.iconst 1, 1) := by decide +kernel
theorem dX10_readAll_7 : decode cX10_readAll 7 = .ok (.putfield 156, 3) := by decide +kernel
theorem dX10_readAll_10 : decode cX10_readAll 10 = .ok (.aload_n 0, 1) := by decide +kernel
theorem dX10_readAll_11 : decode cX10_readAll 11 = .ok (.iconst 0, 1) := by decide +kernel
theorem dX10_readAll_12 : decode cX10_readAll 12 = .ok (.putfield 172, 3) := by decide +kernel
theorem dX10_readAll_15 : decode cX10_readAll 15 = .ok (.aload_n 0, 1) := by decide +kernel
theorem dX10_readAll_16 : decode cX10_readAll 16 = .ok (.getfield 16, 3) := by decide +kernel
theorem dX10_readAll_19 : decode cX10_readAll 19 = .ok (.invokestatic 35, 3) := by decide +kernel
theorem dX10_readAll_22 : decode cX10_readAll 22 = .ok (.aload_n 0, 1) := by decide +kernel
theorem dX10_readAll_23 : decode cX10_readAll 23 = .ok (.invokevirtual 236, 3) := by decide +kernel
theorem dX10_readAll_26 : decode cX10_readAll 26 = .ok (.aload_n 0, 1) := by decide +kernel
theorem dX10_readAll_27 : decode cX10_readAll 27 = .ok (.getfield 156, 3) := by decide +kernel
theorem dX10_readAll_30 : decode cX10_readAll 30 = .ok (.ifCond .eq 39, 3) := by decide +kernel
theorem dX10_readAll_33 : decode cX10_readAll 33 = .ok (.aload_n 0, 1) := by decide +kernel
theorem dX10_readAll_34 : decode cX10_readAll 34 = .ok (.getfield 153, 3) := by decide +kernel
theorem dX10_readAll_37 : decode cX10_readAll 37 = .ok (.aload_n 0, 1) := by decide +kernel
theorem dX10_readAll_38 : decode cX10_readAll 38 = .ok (.getfield 147, 3) := by decide +kernel
theorem dX10_readAll_41 : decode cX10_readAll 41 = .ok (.if_icmp .ge 28, 3) := by decide +kernel
theorem dX10_readAll_44 : decode cX10_readAll 44 = .ok (.aload_n 0, 1) := by decide +kernel
theorem dX10_readAll_45 : decode cX10_readAll 45 = .ok (.aload_n 0, 1) := by decide +kernel
theorem dX10_readAll_46 : decode cX10_readAll 46 = .ok (.invokevirtual 160, 3) := by decide +kernel
theorem dX10_readAll_49 : decode cX10_readAll 49 = .ok (.bipush 59, 2) := by decide +kernel
theorem dX10_readAll_51 : decode cX10_readAll 51 = .ok (.if_icmp .ne 7, 3) := by decide +kernel
theorem dX10_readAll_54 : decode cX10_readAll 54 = .ok (.iconst 1, 1) := by decide +kernel
theorem dX10_readAll_55 : decode cX10_readAll 55 = .ok (.goto 4, 3) := by decide +kernel
theorem dX10_readAll_58 : decode cX10_readAll 58 = .ok (.iconst 0, 1) := by decide +kernel
theorem dX10_readAll_59 : decode cX10_readAll 59 = .ok (.invokevirtual 164, 3) := by decide +kernel
theorem dX10_readAll_62 : decode cX10_readAll 62 = .ok (.aload_n 0, 1) := by decide +kernel
theorem dX10_readAll_63 : decode cX10_readAll 63 = .ok (.invokevirtual 236, 3) := by decide +kernel
theorem dX10_readAll_66 : decode cX10_readAll 66 = .ok (.goto (-40), 3) := by decide +kernel
theorem dX10_readAll_69 : decode cX10_readAll 69 = .ok (.aload_n 0, 1) := by decide +kernel
theorem dX10_readAll_70 : decode cX10_readAll 70 = .ok (.getfield 156, 3) := by decide +kernel
theorem dX10_readAll_73 : decode cX10_readAll 73 = .ok (.ifCond .eq 7, 3) := by decide +kernel
theorem dX10_readAll_76 : decode cX10_readAll 76 = .ok (.iconst (-1), 1) := by decide +kernel
theorem dX10_readAll_77 : decode cX10_readAll 77 = .ok (.goto 7, 3) := by decide +kernel
theorem dX10_readAll_80 : decode cX10_readAll 80 = .ok (.aload_n 0, 1) := by decide +kernel
theorem dX10_readAll_81 : decode cX10_readAll 81 = .ok (.getfield 153, 3) := by decide +kernel
theorem dX10_readAll_84 : decode cX10_readAll 84 = .ok (.ireturn, 1) := by decide +kernel
set_option maxRecDepth 20000 in
theorem ggX10_errorPosition_X10_readAll : GoodIn wsX10_errorPosition wsX10_readAll := goodIn_r _ [6, 7, 8, 9, 10, 11, 12, 13, 5, 14, 15, 16, 17, 18, 19, 20, 21, 22, 23, 24, 25, 26, 27, 28, 29, 30, 31, 32, 33, 34, 35, 36, 37, 38, 39, 40, 41, 42, 43, 44, 45, 46, 47, 48, 49, 50, 51, 52, 53, 54, 55, 56, 57, 58, 59, 60, 61, 62, 63, 64, 65, 66, 67, 68, 69, 70, 71, 72, 73, 74, 75, 76, 77, 78, 79, 80, 81, 82, 83, 84, 85, 86, 87, 88, 89, 90, 91, 92, 93, 94, 95, 96, 97, 98, 99, 100, 101, 102, 103, 104, 105, 106, 107, 108, 109, 110, 111, 112, 113, 114, 115, 116, 117, 118, 119, 120, 121] (by decide +kernel) (by decide +kernel)
set_option maxRecDepth 20000 in
theorem gX10_errorPosition_X10_readAll : GoodIn wsX10_errorPosition (wsV RX10 239 RX10 yX10_readAll wsX10_readAll) := goodIn_app (goodIn_of _ (by decide +kernel)) ggX10_errorPosition_X10_readAll
theorem dX10_errorPosition_0 : decode cX10_errorPosition 0 = .ok (.aload_n 0, 1) := by decide +kernel
theorem dX10_errorPosition_1 : decode cX10_errorPosition 1 = .ok (.iconst 0, 1) := by decide +kernel
theorem dX10_errorPosition_2 : decode cX10_errorPosition 2 = .ok (.putfield 39, 3) := by decide +kernel
theorem dX10_errorPosition_5 : decode cX10_errorPosition 5 = .ok (.aload_n 0, 1) := by decide +kernel
theorem dX10_errorPosition_6 : decode cX10_errorPosition 6 = .ok (.invokevirtual 239, 3) := by decide +kernel
theorem dX10_errorPosition_9 : decode cX10_errorPosition 9 = .ok (.ireturn, 1) := by decide +kernel
set_option maxRecDepth 20000 in
theorem ggX10_load_X10_readAll : GoodIn wsX10_load wsX10_readAll := goodIn_r _ [10, 11, 12, 5, 1, 13, 14, 15, 9, 16, 17, 18, 19, 20, 21, 22, 23, 24, 25, 26, 27, 28, 29, 30, 31, 32, 33, 34, 35, 36, 37, 38, 39, 40, 41, 42, 43, 44, 45, 46, 47, 48, 49, 50, 51, 52, 53, 54, 55, 56, 57, 58, 59, 60, 61, 62, 63, 64, 65, 66, 67, 68, 69, 70, 71, 72, 73, 74, 75, 76, 77, 78, 79, 80, 81, 82, 83, 84, 85, 86, 87, 88, 89, 90, 91, 92, 93, 94, 95, 96, 97, 98, 99, 100, 101, 102, 103, 104, 105, 114, 115, 116, 117, 118, 119, 120, 121, 122, 123, 124, 125, 126, 127, 128, 129, 130, 131] (by decide +kernel) (by decide +kernel)
set_option maxRecDepth 20000 in
theorem gX10_load_X10_readAll : GoodIn wsX10_load (wsV RX10 239 RX10 yX10_readAll wsX10_readAll) := goodIn_app (goodIn_of _ (by decide +kernel)) ggX10_load_X10_readAll
set_option maxRecDepth 20000 in
theorem ggX10_load_X10_refused : GoodIn wsX10_load wsX10_refused := goodIn_r _ [109, 110, 114, 115, 116, 117, 118, 119, 120, 121, 122, 123, 124, 125, 126, 127, 128, 129, 130, 131] (by decide +kernel) (by decide +kernel)
set_option maxRecDepth 20000 in
theorem gX10_load_X10_refused : GoodIn wsX10_load (wsV RX10 150 RX10 yX10_refused wsX10_refused) := goodIn_app (goodIn_of _ (by decide +kernel)) ggX10_load_X10_refused
set_option maxRecDepth 20000 in
theorem ggX10_load_X10_copy : GoodIn wsX10_load wsX10_copy := goodIn_r _ [113] (by decide +kernel) (by decide +kernel)
set_option maxRecDepth 20000 in
theorem gX10_load_X10_copy : GoodIn wsX10_load (va_wsS RX10 242 yX10_copy wsX10_copy) := goodIn_app (goodIn_of _ (by decide +kernel)) ggX10_load_X10_copy
theorem dX10_load_0 : decode cX10_load 0 = .ok (.aload_n 0, 1) := by decide +kernel
theorem dX10_load_1 : decode cX10_load 1 = .ok (.aload_n 0, 1) := by decide +kernel
theorem dX10_load_2 : decode cX10_load 2 = .ok (.invokevirtual 239, 3) := by decide +kernel
theorem dX10_load_5 : decode cX10_load 5 = .ok (.iconst (-1), 1) := by decide +kernel
theorem dX10_load_6 : decode cX10_load 6 = .ok (.if_icmp .ne 7, 3) := by decide +kernel
theorem dX10_load_9 : decode cX10_load 9 = .ok (.iconst 0, 1) := by decide +kernel
theorem dX10_load_10 : decode cX10_load 10 = .ok (.goto 4, 3) := by decide +kernel
theorem dX10_load_13 : decode cX10_load 13 = .ok (.iconst 1, 1) := by decide +kernel
theorem dX10_load_14 : decode cX10_load 14 = .ok (.invokevirtual 150, 3) := by decide +kernel
theorem dX10_load_17 : decode cX10_load 17 = .ok (.ifCond .eq 5, 3) := by decide +kernel
theorem dX10_load_20 : decode cX10_load 20 = .ok (.iconst 0, 1) := by decide +kernel
theorem dX10_load_21 : decode cX10_load 21 = .ok (.ireturn, 1) := by decide +kernel
theorem dX10_load_22 : decode cX10_load 22 = .ok (.aload_n 0, 1) := by decide +kernel
theorem dX10_load_23 : decode cX10_load 23 = .ok (.getfield 16, 3) := by decide +kernel
theorem dX10_load_26 : decode cX10_load 26 = .ok (.aload_n 0, 1) := by decide +kernel
theorem dX10_load_27 : decode cX10_load 27 = .ok (.getfield 7, 3) := by decide +kernel
theorem dX10_load_30 : decode cX10_load 30 = .ok (.invokestatic 242, 3) := by decide +kernel
theorem dX10_load_33 : decode cX10_load 33 = .ok (.aload_n 0, 1) := by decide +kernel
theorem dX10_load_34 : decode cX10_load 34 = .ok (.iconst 0, 1) := by decide +kernel
theorem dX10_load_35 : decode cX10_load 35 = .ok (.putfield 142, 3) := by decide +kernel
theorem dX10_load_38 : decode cX10_load 38 = .ok (.aload_n 0, 1) := by decide +kernel
theorem dX10_load_39 : decode cX10_load 39 = .ok (.getfield 25, 3) := by decide +kernel
theorem dX10_load_42 : decode cX10_load 42 = .ok (.iconst 0, 1) := by decide +kernel
theorem dX10_load_43 : decode cX10_load 43 = .ok (.iconst 0, 1) := by decide +kernel
theorem dX10_load_44 : decode cX10_load 44 = .ok (.bastore, 1) := by decide +kernel
theorem dX10_load_45 : decode cX10_load 45 = .ok (.aload_n 0, 1) := by decide +kernel
theorem dX10_load_46 : decode cX10_load 46 = .ok (.getfield 25, 3) := by decide +kernel
theorem dX10_load_49 : decode cX10_load 49 = .ok (.iconst 1, 1) := by decide +kernel
theorem dX10_load_50 : decode cX10_load 50 = .ok (.iconst 0, 1) := by decide +kernel
theorem dX10_load_51 : decode cX10_load 51 = .ok (.bastore, 1) := by decide +kernel
theorem dX10_load_52 : decode cX10_load 52 = .ok (.aload_n 0, 1) := by decide +kernel
theorem dX10_load_53 : decode cX10_load 53 = .ok (.getfield 172, 3) := by decide +kernel
theorem dX10_load_56 : decode cX10_load 56 = .ok (.ireturn, 1) := by decide +kernel
set_option maxRecDepth 20000 in
theorem ggX10_countOf_X10_isCast : GoodIn wsX10_countOf wsX10_isCast := goodIn_r _ [5] (by decide +kernel) (by decide +kernel)
set_option maxRecDepth 20000 in
theorem gX10_countOf_X10_isCast : GoodIn wsX10_countOf (va_wsS RX10 76 yX10_isCast wsX10_isCast) := goodIn_app (goodIn_of _ (by decide +kernel)) ggX10_countOf_X10_isCast
set_option maxRecDepth 20000 in
theorem ggX10_countOf_X10_shelfOf : GoodIn wsX10_countOf wsX10_shelfOf := goodIn_r _ [8, 9, 10, 4, 11] (by decide +kernel) (by decide +kernel)
set_option maxRecDepth 20000 in
theorem gX10_countOf_X10_shelfOf : GoodIn wsX10_countOf (va_wsS RX10 113 yX10_shelfOf wsX10_shelfOf) := goodIn_app (goodIn_of _ (by decide +kernel)) ggX10_countOf_X10_shelfOf
theorem dX10_countOf_0 : decode cX10_countOf 0 = .ok (.iconst 0, 1) := by decide +kernel
theorem dX10_countOf_1 : decode cX10_countOf 1 = .ok (.istore_n 2, 1) := by decide +kernel
theorem dX10_countOf_2 : decode cX10_countOf 2 = .ok (.iconst 0, 1) := by decide +kernel
theorem dX10_countOf_3 : decode cX10_countOf 3 = .ok (.istore_n 3, 1) := by decide +kernel
theorem dX10_countOf_4 : decode cX10_countOf 4 = .ok (.iload_n 3, 1) := by decide +kernel
theorem dX10_countOf_5 : decode cX10_countOf 5 = .ok (.aload_n 0, 1) := by decide +kernel
theorem dX10_countOf_6 : decode cX10_countOf 6 = .ok (.getfield 7, 3) := by decide +kernel
theorem dX10_countOf_9 : decode cX10_countOf 9 = .ok (.iconst 2, 1) := by decide +kernel
theorem dX10_countOf_10 : decode cX10_countOf 10 = .ok (.iaload, 1) := by decide +kernel
theorem dX10_countOf_11 : decode cX10_countOf 11 = .ok (.if_icmp .ge 84, 3) := by decide +kernel
theorem dX10_countOf_14 : decode cX10_countOf 14 = .ok (.iload_n 1, 1) := by decide +kernel
theorem dX10_countOf_15 : decode cX10_countOf 15 = .ok (.iconst 4, 1) := by decide +kernel
theorem dX10_countOf_16 : decode cX10_countOf 16 = .ok (.if_icmp .ne 14, 3) := by decide +kernel
theorem dX10_countOf_19 : decode cX10_countOf 19 = .ok (.aload_n 0, 1) := by decide +kernel
theorem dX10_countOf_20 : decode cX10_countOf 20 = .ok (.getfield 7, 3) := by decide +kernel
theorem dX10_countOf_23 : decode cX10_countOf 23 = .ok (.iload_n 3, 1) := by decide +kernel
theorem dX10_countOf_24 : decode cX10_countOf 24 = .ok (.invokestatic 76, 3) := by decide +kernel
theorem dX10_countOf_27 : decode cX10_countOf 27 = .ok (.goto 47, 3) := by decide +kernel
theorem dX10_countOf_30 : decode cX10_countOf 30 = .ok (.iload_n 1, 1) := by decide +kernel
theorem dX10_countOf_31 : decode cX10_countOf 31 = .ok (.iconst 5, 1) := by decide +kernel
theorem dX10_countOf_32 : decode cX10_countOf 32 = .ok (.if_icmp .ne 25, 3) := by decide +kernel
theorem dX10_countOf_35 : decode cX10_countOf 35 = .ok (.aload_n 0, 1) := by decide +kernel
theorem dX10_countOf_36 : decode cX10_countOf 36 = .ok (.getfield 7, 3) := by decide +kernel
theorem dX10_countOf_39 : decode cX10_countOf 39 = .ok (.sipush 225, 3) := by decide +kernel
theorem dX10_countOf_42 : decode cX10_countOf 42 = .ok (.iload_n 3, 1) := by decide +kernel
theorem dX10_countOf_43 : decode cX10_countOf 43 = .ok (.iadd, 1) := by decide +kernel
theorem dX10_countOf_44 : decode cX10_countOf 44 = .ok (.iaload, 1) := by decide +kernel
theorem dX10_countOf_45 : decode cX10_countOf 45 = .ok (.iconst (-1), 1) := by decide +kernel
theorem dX10_countOf_46 : decode cX10_countOf 46 = .ok (.if_icmp .eq 7, 3) := by decide +kernel
theorem dX10_countOf_49 : decode cX10_countOf 49 = .ok (.iconst 1, 1) := by decide +kernel
theorem dX10_countOf_50 : decode cX10_countOf 50 = .ok (.goto 24, 3) := by decide +kernel
theorem dX10_countOf_53 : decode cX10_countOf 53 = .ok (.iconst 0, 1) := by decide +kernel
theorem dX10_countOf_54 : decode cX10_countOf 54 = .ok (.goto 20, 3) := by decide +kernel
theorem dX10_countOf_57 : decode cX10_countOf 57 = .ok (.aload_n 0, 1) := by decide +kernel
theorem dX10_countOf_58 : decode cX10_countOf 58 = .ok (.getfield 7, 3) := by decide +kernel
theorem dX10_countOf_61 : decode cX10_countOf 61 = .ok (.iload_n 3, 1) := by decide +kernel
theorem dX10_countOf_62 : decode cX10_countOf 62 = .ok (.invokestatic 113, 3) := by decide +kernel
theorem dX10_countOf_65 : decode cX10_countOf 65 = .ok (.iconst (-1), 1) := by decide +kernel
theorem dX10_countOf_66 : decode cX10_countOf 66 = .ok (.if_icmp .eq 7, 3) := by decide +kernel
theorem dX10_countOf_69 : decode cX10_countOf 69 = .ok (.iconst 1, 1) := by decide +kernel
theorem dX10_countOf_70 : decode cX10_countOf 70 = .ok (.goto 4, 3) := by decide +kernel
theorem dX10_countOf_73 : decode cX10_countOf 73 = .ok (.iconst 0, 1) := by decide +kernel
theorem dX10_countOf_74 : decode cX10_countOf 74 = .ok (.istore 4, 2) := by decide +kernel
theorem dX10_countOf_76 : decode cX10_countOf 76 = .ok (.iload_n 2, 1) := by decide +kernel
theorem dX10_countOf_77 : decode cX10_countOf 77 = .ok (.iload 4, 2) := by decide +kernel
theorem dX10_countOf_79 : decode cX10_countOf 79 = .ok (.ifCond .eq 7, 3) := by decide +kernel
theorem dX10_countOf_82 : decode cX10_countOf 82 = .ok (.iconst 1, 1) := by decide +kernel
theorem dX10_countOf_83 : decode cX10_countOf 83 = .ok (.goto 4, 3) := by decide +kernel
theorem dX10_countOf_86 : decode cX10_countOf 86 = .ok (.iconst 0, 1) := by decide +kernel
theorem dX10_countOf_87 : decode cX10_countOf 87 = .ok (.iadd, 1) := by decide +kernel
theorem dX10_countOf_88 : decode cX10_countOf 88 = .ok (.istore_n 2, 1) := by decide +kernel
theorem dX10_countOf_89 : decode cX10_countOf 89 = .ok (.iinc 3 1, 3) := by decide +kernel
theorem dX10_countOf_92 : decode cX10_countOf 92 = .ok (.goto (-88), 3) := by decide +kernel
theorem dX10_countOf_95 : decode cX10_countOf 95 = .ok (.iload_n 2, 1) := by decide +kernel
theorem dX10_countOf_96 : decode cX10_countOf 96 = .ok (.ireturn, 1) := by decide +kernel
set_option maxRecDepth 20000 in
theorem ggX10_fakesOn_X10_fake : GoodIn wsX10_fakesOn wsX10_fake := goodIn_r _ [6, 7, 8, 5, 9, 10, 11, 12, 13, 14, 15, 16, 17, 18, 19, 20, 21, 22, 23, 24, 25, 26, 27, 28, 29, 30, 31, 32, 33, 34, 35, 36, 37, 38, 39, 40, 41, 42, 43, 44, 45, 46, 47, 48, 49, 50, 51, 52, 53, 54, 55, 56, 57, 58, 59, 60, 61, 62, 63] (by decide +kernel) (by decide +kernel)
set_option maxRecDepth 20000 in
theorem gX10_fakesOn_X10_fake : GoodIn wsX10_fakesOn (wsV RX10 107 RX10 yX10_fake wsX10_fake) := goodIn_app (goodIn_of _ (by decide +kernel)) ggX10_fakesOn_X10_fake
theorem dX10_fakesOn_0 : decode cX10_fakesOn 0 = .ok (.iconst 0, 1) := by decide +kernel
theorem dX10_fakesOn_1 : decode cX10_fakesOn 1 = .ok (.istore_n 2, 1) := by decide +kernel
theorem dX10_fakesOn_2 : decode cX10_fakesOn 2 = .ok (.iconst 0, 1) := by decide +kernel
theorem dX10_fakesOn_3 : decode cX10_fakesOn 3 = .ok (.istore_n 3, 1) := by decide +kernel
theorem dX10_fakesOn_4 : decode cX10_fakesOn 4 = .ok (.iload_n 3, 1) := by decide +kernel
theorem dX10_fakesOn_5 : decode cX10_fakesOn 5 = .ok (.aload_n 0, 1) := by decide +kernel
theorem dX10_fakesOn_6 : decode cX10_fakesOn 6 = .ok (.getfield 7, 3) := by decide +kernel
theorem dX10_fakesOn_9 : decode cX10_fakesOn 9 = .ok (.iconst 2, 1) := by decide +kernel
theorem dX10_fakesOn_10 : decode cX10_fakesOn 10 = .ok (.iaload, 1) := by decide +kernel
theorem dX10_fakesOn_11 : decode cX10_fakesOn 11 = .ok (.if_icmp .ge 43, 3) := by decide +kernel
theorem dX10_fakesOn_14 : decode cX10_fakesOn 14 = .ok (.iload_n 2, 1) := by decide +kernel
theorem dX10_fakesOn_15 : decode cX10_fakesOn 15 = .ok (.aload_n 0, 1) := by decide +kernel
theorem dX10_fakesOn_16 : decode cX10_fakesOn 16 = .ok (.getfield 7, 3) := by decide +kernel
theorem dX10_fakesOn_19 : decode cX10_fakesOn 19 = .ok (.sipush 225, 3) := by decide +kernel
theorem dX10_fakesOn_22 : decode cX10_fakesOn 22 = .ok (.iload_n 3, 1) := by decide +kernel
theorem dX10_fakesOn_23 : decode cX10_fakesOn 23 = .ok (.iadd, 1) := by decide +kernel
theorem dX10_fakesOn_24 : decode cX10_fakesOn 24 = .ok (.iaload, 1) := by decide +kernel
theorem dX10_fakesOn_25 : decode cX10_fakesOn 25 = .ok (.iload_n 1, 1) := by decide +kernel
theorem dX10_fakesOn_26 : decode cX10_fakesOn 26 = .ok (.if_icmp .ne 19, 3) := by decide +kernel
theorem dX10_fakesOn_29 : decode cX10_fakesOn 29 = .ok (.aload_n 0, 1) := by decide +kernel
theorem dX10_fakesOn_30 : decode cX10_fakesOn 30 = .ok (.aload_n 0, 1) := by decide +kernel
theorem dX10_fakesOn_31 : decode cX10_fakesOn 31 = .ok (.getfield 7, 3) := by decide +kernel
theorem dX10_fakesOn_34 : decode cX10_fakesOn 34 = .ok (.iload_n 3, 1) := by decide +kernel
theorem dX10_fakesOn_35 : decode cX10_fakesOn 35 = .ok (.invokevirtual 107, 3) := by decide +kernel
theorem dX10_fakesOn_38 : decode cX10_fakesOn 38 = .ok (.ifCond .le 7, 3) := by decide +kernel
theorem dX10_fakesOn_41 : decode cX10_fakesOn 41 = .ok (.iconst 1, 1) := by decide +kernel
theorem dX10_fakesOn_42 : decode cX10_fakesOn 42 = .ok (.goto 4, 3) := by decide +kernel
theorem dX10_fakesOn_45 : decode cX10_fakesOn 45 = .ok (.iconst 0, 1) := by decide +kernel
theorem dX10_fakesOn_46 : decode cX10_fakesOn 46 = .ok (.iadd, 1) := by decide +kernel
theorem dX10_fakesOn_47 : decode cX10_fakesOn 47 = .ok (.istore_n 2, 1) := by decide +kernel
theorem dX10_fakesOn_48 : decode cX10_fakesOn 48 = .ok (.iinc 3 1, 3) := by decide +kernel
theorem dX10_fakesOn_51 : decode cX10_fakesOn 51 = .ok (.goto (-47), 3) := by decide +kernel
theorem dX10_fakesOn_54 : decode cX10_fakesOn 54 = .ok (.iload_n 2, 1) := by decide +kernel
theorem dX10_fakesOn_55 : decode cX10_fakesOn 55 = .ok (.ireturn, 1) := by decide +kernel
set_option maxRecDepth 20000 in
theorem ggX10_badCharters_X10_fakesOn : GoodIn wsX10_badCharters wsX10_fakesOn := goodIn_r _ [5, 6, 7, 8, 9, 4, 10, 11, 12, 13, 14, 15, 16, 17, 18, 19, 20, 21, 22, 23, 24, 25, 26, 27, 28, 29, 30, 31, 32, 33, 34, 35, 36, 37, 38, 39, 40, 41, 42, 43, 44, 45, 46, 47, 48, 49, 50, 51, 52, 53, 54, 55, 56, 57, 58, 59, 60, 61, 62, 63, 64, 65, 66, 67] (by decide +kernel) (by decide +kernel)
set_option maxRecDepth 20000 in
theorem gX10_badCharters_X10_fakesOn : GoodIn wsX10_badCharters (wsV RX10 246 RX10 yX10_fakesOn wsX10_fakesOn) := goodIn_app (goodIn_of _ (by decide +kernel)) ggX10_badCharters_X10_fakesOn
theorem dX10_badCharters_0 : decode cX10_badCharters 0 = .ok (.iconst 0, 1) := by decide +kernel
theorem dX10_badCharters_1 : decode cX10_badCharters 1 = .ok (.istore_n 1, 1) := by decide +kernel
theorem dX10_badCharters_2 : decode cX10_badCharters 2 = .ok (.iconst 0, 1) := by decide +kernel
theorem dX10_badCharters_3 : decode cX10_badCharters 3 = .ok (.istore_n 2, 1) := by decide +kernel
theorem dX10_badCharters_4 : decode cX10_badCharters 4 = .ok (.iload_n 2, 1) := by decide +kernel
theorem dX10_badCharters_5 : decode cX10_badCharters 5 = .ok (.bipush 6, 2) := by decide +kernel
theorem dX10_badCharters_7 : decode cX10_badCharters 7 = .ok (.if_icmp .ge 25, 3) := by decide +kernel
theorem dX10_badCharters_10 : decode cX10_badCharters 10 = .ok (.iload_n 1, 1) := by decide +kernel
theorem dX10_badCharters_11 : decode cX10_badCharters 11 = .ok (.aload_n 0, 1) := by decide +kernel
theorem dX10_badCharters_12 : decode cX10_badCharters 12 = .ok (.iload_n 2, 1) := by decide +kernel
theorem dX10_badCharters_13 : decode cX10_badCharters 13 = .ok (.invokevirtual 246, 3) := by decide +kernel
theorem dX10_badCharters_16 : decode cX10_badCharters 16 = .ok (.ifCond .le 7, 3) := by decide +kernel
theorem dX10_badCharters_19 : decode cX10_badCharters 19 = .ok (.iconst 1, 1) := by decide +kernel
theorem dX10_badCharters_20 : decode cX10_badCharters 20 = .ok (.goto 4, 3) := by decide +kernel
theorem dX10_badCharters_23 : decode cX10_badCharters 23 = .ok (.iconst 0, 1) := by decide +kernel
theorem dX10_badCharters_24 : decode cX10_badCharters 24 = .ok (.iadd, 1) := by decide +kernel
theorem dX10_badCharters_25 : decode cX10_badCharters 25 = .ok (.istore_n 1, 1) := by decide +kernel
theorem dX10_badCharters_26 : decode cX10_badCharters 26 = .ok (.iinc 2 1, 3) := by decide +kernel
theorem dX10_badCharters_29 : decode cX10_badCharters 29 = .ok (.goto (-25), 3) := by decide +kernel
theorem dX10_badCharters_32 : decode cX10_badCharters 32 = .ok (.iload_n 1, 1) := by decide +kernel
theorem dX10_badCharters_33 : decode cX10_badCharters 33 = .ok (.ireturn, 1) := by decide +kernel
set_option maxRecDepth 20000 in
theorem ggX10_about_X10_in : GoodIn wsX10_about wsX10_in := goodIn_r _ [6] (by decide +kernel) (by decide +kernel)
set_option maxRecDepth 20000 in
theorem gX10_about_X10_in : GoodIn wsX10_about (va_wsS RX10 49 yX10_in wsX10_in) := goodIn_app (goodIn_of _ (by decide +kernel)) ggX10_about_X10_in
set_option maxRecDepth 20000 in
theorem ggX10_about_X10_refused : GoodIn wsX10_about wsX10_refused := goodIn_r _ [10, 11, 85, 86, 87, 88, 89, 90, 91, 92, 93, 94, 95, 96, 97, 98, 99, 100, 101, 102] (by decide +kernel) (by decide +kernel)
set_option maxRecDepth 20000 in
theorem gX10_about_X10_refused : GoodIn wsX10_about (wsV RX10 150 RX10 yX10_refused wsX10_refused) := goodIn_app (goodIn_of _ (by decide +kernel)) ggX10_about_X10_refused
set_option maxRecDepth 20000 in
theorem ggX10_about_X10_fakes : GoodIn wsX10_about wsX10_fakes := goodIn_r _ [15, 16, 17, 18, 5, 19, 20, 21, 22, 23, 24, 25, 26, 27, 28, 29, 30, 31, 32, 33, 34, 35, 36, 37, 38, 39, 40, 41, 42, 43, 44, 45, 46, 47, 48, 49, 50, 51, 52, 53, 54, 55, 56, 57, 58, 85, 86, 87, 88, 89, 90, 91, 92, 93, 94, 95, 96, 97, 98, 99, 100, 101, 102] (by decide +kernel) (by decide +kernel)
set_option maxRecDepth 20000 in
theorem gX10_about_X10_fakes : GoodIn wsX10_about (wsV RX10 252 RX10 yX10_fakes wsX10_fakes) := goodIn_app (goodIn_of _ (by decide +kernel)) ggX10_about_X10_fakes
set_option maxRecDepth 20000 in
theorem ggX10_about_X10_badCharters : GoodIn wsX10_about wsX10_badCharters := goodIn_r _ [62, 63, 64, 65, 5, 66, 2, 16, 17, 18, 19, 20, 21, 22, 23, 24, 25, 26, 27, 28, 29, 30, 31, 32, 33, 34, 35, 36, 37, 38, 39, 40, 41, 42, 43, 44, 45, 46, 47, 48, 49, 50, 51, 52, 53, 54, 55, 56, 57, 58, 85, 86, 87, 88, 89, 90, 91, 92, 93, 94, 95, 96, 97, 98, 99, 100, 101, 102] (by decide +kernel) (by decide +kernel)
set_option maxRecDepth 20000 in
theorem gX10_about_X10_badCharters : GoodIn wsX10_about (wsV RX10 256 RX10 yX10_badCharters wsX10_badCharters) := goodIn_app (goodIn_of _ (by decide +kernel)) ggX10_about_X10_badCharters
set_option maxRecDepth 20000 in
theorem ggX10_about_X10_bad : GoodIn wsX10_about wsX10_bad := goodIn_r _ [70, 71, 72, 73, 5, 74, 16, 17, 18, 19, 20, 21, 22, 23, 24, 25, 26, 27, 28, 29, 30, 31, 32, 33, 34, 35, 36, 37, 38, 39, 40, 41, 42, 43, 44, 45, 46, 47, 48, 49, 50, 51, 52, 53, 54, 55, 56, 57, 58, 85, 86, 87, 88, 89, 90, 91, 92, 93, 94, 95, 96, 97, 98, 99, 100, 101, 102] (by decide +kernel) (by decide +kernel)
set_option maxRecDepth 20000 in
theorem gX10_about_X10_bad : GoodIn wsX10_about (wsV RX10 259 RX10 yX10_bad wsX10_bad) := goodIn_app (goodIn_of _ (by decide +kernel)) ggX10_about_X10_bad
set_option maxRecDepth 20000 in
theorem ggX10_about_X10_countOf : GoodIn wsX10_about wsX10_countOf := goodIn_r _ [78, 2, 23, 24, 5, 25, 79, 80, 81, 82, 83, 84, 85, 86, 87, 88, 89, 90, 91, 92, 93, 94, 95, 96, 97, 98, 99, 100, 101, 102] (by decide +kernel) (by decide +kernel)
set_option maxRecDepth 20000 in
theorem gX10_about_X10_countOf : GoodIn wsX10_about (wsV RX10 262 RX10 yX10_countOf wsX10_countOf) := goodIn_app (goodIn_of _ (by decide +kernel)) ggX10_about_X10_countOf
theorem dX10_about_0 : decode cX10_about 0 = .ok (.aload_n 0, 1) := by decide +kernel
theorem dX10_about_1 : decode cX10_about 1 = .ok (.iload_n 1, 1) := by decide +kernel
theorem dX10_about_2 : decode cX10_about 2 = .ok (.i2l, 1) := by decide +kernel
theorem dX10_about_3 : decode cX10_about 3 = .ok (.lconst 0, 1) := by decide +kernel
theorem dX10_about_4 : decode cX10_about 4 = .ok (.ldc2_w 250, 3) := by decide +kernel
theorem dX10_about_7 : decode cX10_about 7 = .ok (.invokestatic 49, 3) := by decide +kernel
theorem dX10_about_10 : decode cX10_about 10 = .ok (.ifCond .eq 7, 3) := by decide +kernel
theorem dX10_about_13 : decode cX10_about 13 = .ok (.iconst 0, 1) := by decide +kernel
theorem dX10_about_14 : decode cX10_about 14 = .ok (.goto 4, 3) := by decide +kernel
theorem dX10_about_17 : decode cX10_about 17 = .ok (.iconst 1, 1) := by decide +kernel
theorem dX10_about_18 : decode cX10_about 18 = .ok (.invokevirtual 150, 3) := by decide +kernel
theorem dX10_about_21 : decode cX10_about 21 = .ok (.ifCond .eq 5, 3) := by decide +kernel
theorem dX10_about_24 : decode cX10_about 24 = .ok (.iconst 0, 1) := by decide +kernel
theorem dX10_about_25 : decode cX10_about 25 = .ok (.ireturn, 1) := by decide +kernel
theorem dX10_about_26 : decode cX10_about 26 = .ok (.iload_n 1, 1) := by decide +kernel
theorem dX10_about_27 : decode cX10_about 27 = .ok (.tableswitch 93 0 8 #[49, 56, 63, 70, 93, 93, 79, 93, 84], 49) := by decide +kernel
theorem dX10_about_76 : decode cX10_about 76 = .ok (.aload_n 0, 1) := by decide +kernel
theorem dX10_about_77 : decode cX10_about 77 = .ok (.getfield 7, 3) := by decide +kernel
theorem dX10_about_80 : decode cX10_about 80 = .ok (.iconst 0, 1) := by decide +kernel
theorem dX10_about_81 : decode cX10_about 81 = .ok (.iaload, 1) := by decide +kernel
theorem dX10_about_82 : decode cX10_about 82 = .ok (.ireturn, 1) := by decide +kernel
theorem dX10_about_83 : decode cX10_about 83 = .ok (.aload_n 0, 1) := by decide +kernel
theorem dX10_about_84 : decode cX10_about 84 = .ok (.getfield 7, 3) := by decide +kernel
theorem dX10_about_87 : decode cX10_about 87 = .ok (.iconst 1, 1) := by decide +kernel
theorem dX10_about_88 : decode cX10_about 88 = .ok (.iaload, 1) := by decide +kernel
theorem dX10_about_89 : decode cX10_about 89 = .ok (.ireturn, 1) := by decide +kernel
theorem dX10_about_90 : decode cX10_about 90 = .ok (.aload_n 0, 1) := by decide +kernel
theorem dX10_about_91 : decode cX10_about 91 = .ok (.getfield 7, 3) := by decide +kernel
theorem dX10_about_94 : decode cX10_about 94 = .ok (.iconst 2, 1) := by decide +kernel
theorem dX10_about_95 : decode cX10_about 95 = .ok (.iaload, 1) := by decide +kernel
theorem dX10_about_96 : decode cX10_about 96 = .ok (.ireturn, 1) := by decide +kernel
theorem dX10_about_97 : decode cX10_about 97 = .ok (.aload_n 0, 1) := by decide +kernel
theorem dX10_about_98 : decode cX10_about 98 = .ok (.aload_n 0, 1) := by decide +kernel
theorem dX10_about_99 : decode cX10_about 99 = .ok (.getfield 7, 3) := by decide +kernel
theorem dX10_about_102 : decode cX10_about 102 = .ok (.invokevirtual 252, 3) := by decide +kernel
theorem dX10_about_105 : decode cX10_about 105 = .ok (.ireturn, 1) := by decide +kernel
theorem dX10_about_106 : decode cX10_about 106 = .ok (.aload_n 0, 1) := by decide +kernel
theorem dX10_about_107 : decode cX10_about 107 = .ok (.invokevirtual 256, 3) := by decide +kernel
theorem dX10_about_110 : decode cX10_about 110 = .ok (.ireturn, 1) := by decide +kernel
theorem dX10_about_111 : decode cX10_about 111 = .ok (.aload_n 0, 1) := by decide +kernel
theorem dX10_about_112 : decode cX10_about 112 = .ok (.aload_n 0, 1) := by decide +kernel
theorem dX10_about_113 : decode cX10_about 113 = .ok (.getfield 7, 3) := by decide +kernel
theorem dX10_about_116 : decode cX10_about 116 = .ok (.invokevirtual 259, 3) := by decide +kernel
theorem dX10_about_119 : decode cX10_about 119 = .ok (.ireturn, 1) := by decide +kernel
theorem dX10_about_120 : decode cX10_about 120 = .ok (.aload_n 0, 1) := by decide +kernel
theorem dX10_about_121 : decode cX10_about 121 = .ok (.iload_n 1, 1) := by decide +kernel
theorem dX10_about_122 : decode cX10_about 122 = .ok (.invokevirtual 262, 3) := by decide +kernel
theorem dX10_about_125 : decode cX10_about 125 = .ok (.ireturn, 1) := by decide +kernel
set_option maxRecDepth 20000 in
theorem ggX10_ofReign_X10_hasReign : GoodIn wsX10_ofReign wsX10_hasReign := goodIn_r _ [6, 7, 8, 5, 9] (by decide +kernel) (by decide +kernel)
set_option maxRecDepth 20000 in
theorem gX10_ofReign_X10_hasReign : GoodIn wsX10_ofReign (va_wsS RX10 265 yX10_hasReign wsX10_hasReign) := goodIn_app (goodIn_of _ (by decide +kernel)) ggX10_ofReign_X10_hasReign
set_option maxRecDepth 20000 in
theorem ggX10_ofReign_X10_in : GoodIn wsX10_ofReign wsX10_in := goodIn_r _ [9] (by decide +kernel) (by decide +kernel)
set_option maxRecDepth 20000 in
theorem gX10_ofReign_X10_in : GoodIn wsX10_ofReign (va_wsS RX10 49 yX10_in wsX10_in) := goodIn_app (goodIn_of _ (by decide +kernel)) ggX10_ofReign_X10_in
set_option maxRecDepth 20000 in
theorem ggX10_ofReign_X10_refused : GoodIn wsX10_ofReign wsX10_refused := goodIn_r _ [13, 14, 18, 19, 20, 21, 22, 23, 24, 25, 26, 27, 28, 29, 30, 31, 32, 33, 34, 35] (by decide +kernel) (by decide +kernel)
set_option maxRecDepth 20000 in
theorem gX10_ofReign_X10_refused : GoodIn wsX10_ofReign (wsV RX10 150 RX10 yX10_refused wsX10_refused) := goodIn_app (goodIn_of _ (by decide +kernel)) ggX10_ofReign_X10_refused
set_option maxRecDepth 20000 in
theorem ggX10_ofReign_X10_ends : GoodIn wsX10_ofReign wsX10_ends := goodIn_r _ [17] (by decide +kernel) (by decide +kernel)
set_option maxRecDepth 20000 in
theorem gX10_ofReign_X10_ends : GoodIn wsX10_ofReign (va_wsS RX10 59 yX10_ends wsX10_ends) := goodIn_app (goodIn_of _ (by decide +kernel)) ggX10_ofReign_X10_ends
theorem dX10_ofReign_0 : decode cX10_ofReign 0 = .ok (.aload_n 0, 1) := by decide +kernel
theorem dX10_ofReign_1 : decode cX10_ofReign 1 = .ok (.aload_n 0, 1) := by decide +kernel
theorem dX10_ofReign_2 : decode cX10_ofReign 2 = .ok (.getfield 7, 3) := by decide +kernel
theorem dX10_ofReign_5 : decode cX10_ofReign 5 = .ok (.iload_n 1, 1) := by decide +kernel
theorem dX10_ofReign_6 : decode cX10_ofReign 6 = .ok (.invokestatic 265, 3) := by decide +kernel
theorem dX10_ofReign_9 : decode cX10_ofReign 9 = .ok (.ifCond .ne 7, 3) := by decide +kernel
theorem dX10_ofReign_12 : decode cX10_ofReign 12 = .ok (.iconst 1, 1) := by decide +kernel
theorem dX10_ofReign_13 : decode cX10_ofReign 13 = .ok (.goto 20, 3) := by decide +kernel
theorem dX10_ofReign_16 : decode cX10_ofReign 16 = .ok (.iload_n 2, 1) := by decide +kernel
theorem dX10_ofReign_17 : decode cX10_ofReign 17 = .ok (.i2l, 1) := by decide +kernel
theorem dX10_ofReign_18 : decode cX10_ofReign 18 = .ok (.lconst 0, 1) := by decide +kernel
theorem dX10_ofReign_19 : decode cX10_ofReign 19 = .ok (.ldc2_w 268, 3) := by decide +kernel
theorem dX10_ofReign_22 : decode cX10_ofReign 22 = .ok (.invokestatic 49, 3) := by decide +kernel
theorem dX10_ofReign_25 : decode cX10_ofReign 25 = .ok (.ifCond .ne 7, 3) := by decide +kernel
theorem dX10_ofReign_28 : decode cX10_ofReign 28 = .ok (.iconst 2, 1) := by decide +kernel
theorem dX10_ofReign_29 : decode cX10_ofReign 29 = .ok (.goto 4, 3) := by decide +kernel
theorem dX10_ofReign_32 : decode cX10_ofReign 32 = .ok (.iconst 0, 1) := by decide +kernel
theorem dX10_ofReign_33 : decode cX10_ofReign 33 = .ok (.invokevirtual 150, 3) := by decide +kernel
theorem dX10_ofReign_36 : decode cX10_ofReign 36 = .ok (.ifCond .eq 5, 3) := by decide +kernel
theorem dX10_ofReign_39 : decode cX10_ofReign 39 = .ok (.iconst 0, 1) := by decide +kernel
theorem dX10_ofReign_40 : decode cX10_ofReign 40 = .ok (.ireturn, 1) := by decide +kernel
theorem dX10_ofReign_41 : decode cX10_ofReign 41 = .ok (.iload_n 2, 1) := by decide +kernel
theorem dX10_ofReign_42 : decode cX10_ofReign 42 = .ok (.ifCond .ne 14, 3) := by decide +kernel
theorem dX10_ofReign_45 : decode cX10_ofReign 45 = .ok (.aload_n 0, 1) := by decide +kernel
theorem dX10_ofReign_46 : decode cX10_ofReign 46 = .ok (.getfield 7, 3) := by decide +kernel
theorem dX10_ofReign_49 : decode cX10_ofReign 49 = .ok (.iconst 5, 1) := by decide +kernel
theorem dX10_ofReign_50 : decode cX10_ofReign 50 = .ok (.iload_n 1, 1) := by decide +kernel
theorem dX10_ofReign_51 : decode cX10_ofReign 51 = .ok (.iadd, 1) := by decide +kernel
theorem dX10_ofReign_52 : decode cX10_ofReign 52 = .ok (.iaload, 1) := by decide +kernel
theorem dX10_ofReign_53 : decode cX10_ofReign 53 = .ok (.goto 28, 3) := by decide +kernel
theorem dX10_ofReign_56 : decode cX10_ofReign 56 = .ok (.iload_n 2, 1) := by decide +kernel
theorem dX10_ofReign_57 : decode cX10_ofReign 57 = .ok (.iconst 1, 1) := by decide +kernel
theorem dX10_ofReign_58 : decode cX10_ofReign 58 = .ok (.if_icmp .ne 14, 3) := by decide +kernel
theorem dX10_ofReign_61 : decode cX10_ofReign 61 = .ok (.aload_n 0, 1) := by decide +kernel
theorem dX10_ofReign_62 : decode cX10_ofReign 62 = .ok (.getfield 7, 3) := by decide +kernel
theorem dX10_ofReign_65 : decode cX10_ofReign 65 = .ok (.iload_n 1, 1) := by decide +kernel
theorem dX10_ofReign_66 : decode cX10_ofReign 66 = .ok (.invokestatic 59, 3) := by decide +kernel
theorem dX10_ofReign_69 : decode cX10_ofReign 69 = .ok (.goto 12, 3) := by decide +kernel
theorem dX10_ofReign_72 : decode cX10_ofReign 72 = .ok (.aload_n 0, 1) := by decide +kernel
theorem dX10_ofReign_73 : decode cX10_ofReign 73 = .ok (.getfield 7, 3) := by decide +kernel
theorem dX10_ofReign_76 : decode cX10_ofReign 76 = .ok (.bipush 15, 2) := by decide +kernel
theorem dX10_ofReign_78 : decode cX10_ofReign 78 = .ok (.iload_n 1, 1) := by decide +kernel
theorem dX10_ofReign_79 : decode cX10_ofReign 79 = .ok (.iadd, 1) := by decide +kernel
theorem dX10_ofReign_80 : decode cX10_ofReign 80 = .ok (.iaload, 1) := by decide +kernel
theorem dX10_ofReign_81 : decode cX10_ofReign 81 = .ok (.ireturn, 1) := by decide +kernel
set_option maxRecDepth 20000 in
theorem ggX10_sealsOf_X10_fake : GoodIn wsX10_sealsOf wsX10_fake := goodIn_r _ [6, 7, 8, 5, 9, 10, 11, 12, 13, 14, 15, 16, 17, 18, 19, 20, 21, 22, 23, 24, 25, 26, 27, 28, 29, 30, 31, 32, 33, 34, 35, 36, 37, 38, 39, 40, 41, 42, 43, 44, 45, 46, 47, 48, 49, 50, 51, 52, 53, 54, 55, 56, 57, 58, 59, 60, 61, 62, 63] (by decide +kernel) (by decide +kernel)
set_option maxRecDepth 20000 in
theorem gX10_sealsOf_X10_fake : GoodIn wsX10_sealsOf (wsV RX10 107 RX10 yX10_fake wsX10_fake) := goodIn_app (goodIn_of _ (by decide +kernel)) ggX10_sealsOf_X10_fake
theorem dX10_sealsOf_0 : decode cX10_sealsOf 0 = .ok (.iconst 0, 1) := by decide +kernel
theorem dX10_sealsOf_1 : decode cX10_sealsOf 1 = .ok (.istore_n 3, 1) := by decide +kernel
theorem dX10_sealsOf_2 : decode cX10_sealsOf 2 = .ok (.iconst 0, 1) := by decide +kernel
theorem dX10_sealsOf_3 : decode cX10_sealsOf 3 = .ok (.istore 4, 2) := by decide +kernel
theorem dX10_sealsOf_5 : decode cX10_sealsOf 5 = .ok (.iload 4, 2) := by decide +kernel
theorem dX10_sealsOf_7 : decode cX10_sealsOf 7 = .ok (.aload_n 0, 1) := by decide +kernel
theorem dX10_sealsOf_8 : decode cX10_sealsOf 8 = .ok (.getfield 7, 3) := by decide +kernel
theorem dX10_sealsOf_11 : decode cX10_sealsOf 11 = .ok (.iconst 2, 1) := by decide +kernel
theorem dX10_sealsOf_12 : decode cX10_sealsOf 12 = .ok (.iaload, 1) := by decide +kernel
theorem dX10_sealsOf_13 : decode cX10_sealsOf 13 = .ok (.if_icmp .ge 48, 3) := by decide +kernel
theorem dX10_sealsOf_16 : decode cX10_sealsOf 16 = .ok (.iload_n 3, 1) := by decide +kernel
theorem dX10_sealsOf_17 : decode cX10_sealsOf 17 = .ok (.aload_n 0, 1) := by decide +kernel
theorem dX10_sealsOf_18 : decode cX10_sealsOf 18 = .ok (.getfield 7, 3) := by decide +kernel
theorem dX10_sealsOf_21 : decode cX10_sealsOf 21 = .ok (.bipush 105, 2) := by decide +kernel
theorem dX10_sealsOf_23 : decode cX10_sealsOf 23 = .ok (.iload 4, 2) := by decide +kernel
theorem dX10_sealsOf_25 : decode cX10_sealsOf 25 = .ok (.iadd, 1) := by decide +kernel
theorem dX10_sealsOf_26 : decode cX10_sealsOf 26 = .ok (.iaload, 1) := by decide +kernel
theorem dX10_sealsOf_27 : decode cX10_sealsOf 27 = .ok (.iload_n 1, 1) := by decide +kernel
theorem dX10_sealsOf_28 : decode cX10_sealsOf 28 = .ok (.if_icmp .ne 24, 3) := by decide +kernel
theorem dX10_sealsOf_31 : decode cX10_sealsOf 31 = .ok (.iload_n 2, 1) := by decide +kernel
theorem dX10_sealsOf_32 : decode cX10_sealsOf 32 = .ok (.ifCond .eq 16, 3) := by decide +kernel
theorem dX10_sealsOf_35 : decode cX10_sealsOf 35 = .ok (.aload_n 0, 1) := by decide +kernel
theorem dX10_sealsOf_36 : decode cX10_sealsOf 36 = .ok (.aload_n 0, 1) := by decide +kernel
theorem dX10_sealsOf_37 : decode cX10_sealsOf 37 = .ok (.getfield 7, 3) := by decide +kernel
theorem dX10_sealsOf_40 : decode cX10_sealsOf 40 = .ok (.iload 4, 2) := by decide +kernel
theorem dX10_sealsOf_42 : decode cX10_sealsOf 42 = .ok (.invokevirtual 107, 3) := by decide +kernel
theorem dX10_sealsOf_45 : decode cX10_sealsOf 45 = .ok (.ifCond .le 7, 3) := by decide +kernel
theorem dX10_sealsOf_48 : decode cX10_sealsOf 48 = .ok (.iconst 1, 1) := by decide +kernel
theorem dX10_sealsOf_49 : decode cX10_sealsOf 49 = .ok (.goto 4, 3) := by decide +kernel
theorem dX10_sealsOf_52 : decode cX10_sealsOf 52 = .ok (.iconst 0, 1) := by decide +kernel
theorem dX10_sealsOf_53 : decode cX10_sealsOf 53 = .ok (.iadd, 1) := by decide +kernel
theorem dX10_sealsOf_54 : decode cX10_sealsOf 54 = .ok (.istore_n 3, 1) := by decide +kernel
theorem dX10_sealsOf_55 : decode cX10_sealsOf 55 = .ok (.iinc 4 1, 3) := by decide +kernel
theorem dX10_sealsOf_58 : decode cX10_sealsOf 58 = .ok (.goto (-53), 3) := by decide +kernel
theorem dX10_sealsOf_61 : decode cX10_sealsOf 61 = .ok (.iload_n 3, 1) := by decide +kernel
theorem dX10_sealsOf_62 : decode cX10_sealsOf 62 = .ok (.ireturn, 1) := by decide +kernel
set_option maxRecDepth 20000 in
theorem ggX10_ofDie_X10_hasDie : GoodIn wsX10_ofDie wsX10_hasDie := goodIn_r _ [6, 7, 8, 5, 9] (by decide +kernel) (by decide +kernel)
set_option maxRecDepth 20000 in
theorem gX10_ofDie_X10_hasDie : GoodIn wsX10_ofDie (va_wsS RX10 197 yX10_hasDie wsX10_hasDie) := goodIn_app (goodIn_of _ (by decide +kernel)) ggX10_ofDie_X10_hasDie
set_option maxRecDepth 20000 in
theorem ggX10_ofDie_X10_in : GoodIn wsX10_ofDie wsX10_in := goodIn_r _ [9] (by decide +kernel) (by decide +kernel)
set_option maxRecDepth 20000 in
theorem gX10_ofDie_X10_in : GoodIn wsX10_ofDie (va_wsS RX10 49 yX10_in wsX10_in) := goodIn_app (goodIn_of _ (by decide +kernel)) ggX10_ofDie_X10_in
set_option maxRecDepth 20000 in
theorem ggX10_ofDie_X10_refused : GoodIn wsX10_ofDie wsX10_refused := goodIn_r _ [13, 14, 62, 63, 64, 65, 66, 67, 68, 69, 70, 71, 72, 73, 74, 75, 76, 77, 78, 79] (by decide +kernel) (by decide +kernel)
set_option maxRecDepth 20000 in
theorem gX10_ofDie_X10_refused : GoodIn wsX10_ofDie (wsV RX10 150 RX10 yX10_refused wsX10_refused) := goodIn_app (goodIn_of _ (by decide +kernel)) ggX10_ofDie_X10_refused
set_option maxRecDepth 20000 in
theorem ggX10_ofDie_X10_sealsOf : GoodIn wsX10_ofDie wsX10_sealsOf := goodIn_r _ [18, 1, 19, 20, 21, 5, 22, 23, 24, 25, 26, 27, 28, 29, 30, 31, 32, 33, 34, 35, 36, 37, 38, 39, 40, 41, 42, 43, 44, 45, 46, 47, 48, 49, 50, 51, 52, 53, 54, 55, 56, 57, 58, 59, 60, 61, 62, 63, 64, 65, 66, 67, 68, 69, 70, 71, 72, 73, 74, 75, 76, 77, 78, 79] (by decide +kernel) (by decide +kernel)
set_option maxRecDepth 20000 in
theorem gX10_ofDie_X10_sealsOf : GoodIn wsX10_ofDie (wsV RX10 270 RX10 yX10_sealsOf wsX10_sealsOf) := goodIn_app (goodIn_of _ (by decide +kernel)) ggX10_ofDie_X10_sealsOf
theorem dX10_ofDie_0 : decode cX10_ofDie 0 = .ok (.aload_n 0, 1) := by decide +kernel
theorem dX10_ofDie_1 : decode cX10_ofDie 1 = .ok (.aload_n 0, 1) := by decide +kernel
theorem dX10_ofDie_2 : decode cX10_ofDie 2 = .ok (.getfield 7, 3) := by decide +kernel
theorem dX10_ofDie_5 : decode cX10_ofDie 5 = .ok (.iload_n 1, 1) := by decide +kernel
theorem dX10_ofDie_6 : decode cX10_ofDie 6 = .ok (.invokestatic 197, 3) := by decide +kernel
theorem dX10_ofDie_9 : decode cX10_ofDie 9 = .ok (.ifCond .ne 7, 3) := by decide +kernel
theorem dX10_ofDie_12 : decode cX10_ofDie 12 = .ok (.iconst 1, 1) := by decide +kernel
theorem dX10_ofDie_13 : decode cX10_ofDie 13 = .ok (.goto 20, 3) := by decide +kernel
theorem dX10_ofDie_16 : decode cX10_ofDie 16 = .ok (.iload_n 2, 1) := by decide +kernel
theorem dX10_ofDie_17 : decode cX10_ofDie 17 = .ok (.i2l, 1) := by decide +kernel
theorem dX10_ofDie_18 : decode cX10_ofDie 18 = .ok (.lconst 0, 1) := by decide +kernel
theorem dX10_ofDie_19 : decode cX10_ofDie 19 = .ok (.ldc2_w 53, 3) := by decide +kernel
theorem dX10_ofDie_22 : decode cX10_ofDie 22 = .ok (.invokestatic 49, 3) := by decide +kernel
theorem dX10_ofDie_25 : decode cX10_ofDie 25 = .ok (.ifCond .ne 7, 3) := by decide +kernel
theorem dX10_ofDie_28 : decode cX10_ofDie 28 = .ok (.iconst 2, 1) := by decide +kernel
theorem dX10_ofDie_29 : decode cX10_ofDie 29 = .ok (.goto 4, 3) := by decide +kernel
theorem dX10_ofDie_32 : decode cX10_ofDie 32 = .ok (.iconst 0, 1) := by decide +kernel
theorem dX10_ofDie_33 : decode cX10_ofDie 33 = .ok (.invokevirtual 150, 3) := by decide +kernel
theorem dX10_ofDie_36 : decode cX10_ofDie 36 = .ok (.ifCond .eq 5, 3) := by decide +kernel
theorem dX10_ofDie_39 : decode cX10_ofDie 39 = .ok (.iconst 0, 1) := by decide +kernel
theorem dX10_ofDie_40 : decode cX10_ofDie 40 = .ok (.ireturn, 1) := by decide +kernel
theorem dX10_ofDie_41 : decode cX10_ofDie 41 = .ok (.iload_n 2, 1) := by decide +kernel
theorem dX10_ofDie_42 : decode cX10_ofDie 42 = .ok (.tableswitch 70 0 3 #[30, 40, 50, 60], 30) := by decide +kernel
theorem dX10_ofDie_72 : decode cX10_ofDie 72 = .ok (.aload_n 0, 1) := by decide +kernel
theorem dX10_ofDie_73 : decode cX10_ofDie 73 = .ok (.getfield 7, 3) := by decide +kernel
theorem dX10_ofDie_76 : decode cX10_ofDie 76 = .ok (.bipush 25, 2) := by decide +kernel
theorem dX10_ofDie_78 : decode cX10_ofDie 78 = .ok (.iload_n 1, 1) := by decide +kernel
theorem dX10_ofDie_79 : decode cX10_ofDie 79 = .ok (.iadd, 1) := by decide +kernel
theorem dX10_ofDie_80 : decode cX10_ofDie 80 = .ok (.iaload, 1) := by decide +kernel
theorem dX10_ofDie_81 : decode cX10_ofDie 81 = .ok (.ireturn, 1) := by decide +kernel
theorem dX10_ofDie_82 : decode cX10_ofDie 82 = .ok (.aload_n 0, 1) := by decide +kernel
theorem dX10_ofDie_83 : decode cX10_ofDie 83 = .ok (.getfield 7, 3) := by decide +kernel
theorem dX10_ofDie_86 : decode cX10_ofDie 86 = .ok (.bipush 35, 2) := by decide +kernel
theorem dX10_ofDie_88 : decode cX10_ofDie 88 = .ok (.iload_n 1, 1) := by decide +kernel
theorem dX10_ofDie_89 : decode cX10_ofDie 89 = .ok (.iadd, 1) := by decide +kernel
theorem dX10_ofDie_90 : decode cX10_ofDie 90 = .ok (.iaload, 1) := by decide +kernel
theorem dX10_ofDie_91 : decode cX10_ofDie 91 = .ok (.ireturn, 1) := by decide +kernel
theorem dX10_ofDie_92 : decode cX10_ofDie 92 = .ok (.aload_n 0, 1) := by decide +kernel
theorem dX10_ofDie_93 : decode cX10_ofDie 93 = .ok (.getfield 7, 3) := by decide +kernel
theorem dX10_ofDie_96 : decode cX10_ofDie 96 = .ok (.bipush 45, 2) := by decide +kernel
theorem dX10_ofDie_98 : decode cX10_ofDie 98 = .ok (.iload_n 1, 1) := by decide +kernel
theorem dX10_ofDie_99 : decode cX10_ofDie 99 = .ok (.iadd, 1) := by decide +kernel
theorem dX10_ofDie_100 : decode cX10_ofDie 100 = .ok (.iaload, 1) := by decide +kernel
theorem dX10_ofDie_101 : decode cX10_ofDie 101 = .ok (.ireturn, 1) := by decide +kernel
theorem dX10_ofDie_102 : decode cX10_ofDie 102 = .ok (.aload_n 0, 1) := by decide +kernel
theorem dX10_ofDie_103 : decode cX10_ofDie 103 = .ok (.getfield 7, 3) := by decide +kernel
theorem dX10_ofDie_106 : decode cX10_ofDie 106 = .ok (.bipush 55, 2) := by decide +kernel
theorem dX10_ofDie_108 : decode cX10_ofDie 108 = .ok (.iload_n 1, 1) := by decide +kernel
theorem dX10_ofDie_109 : decode cX10_ofDie 109 = .ok (.iadd, 1) := by decide +kernel
theorem dX10_ofDie_110 : decode cX10_ofDie 110 = .ok (.iaload, 1) := by decide +kernel
theorem dX10_ofDie_111 : decode cX10_ofDie 111 = .ok (.ireturn, 1) := by decide +kernel
theorem dX10_ofDie_112 : decode cX10_ofDie 112 = .ok (.aload_n 0, 1) := by decide +kernel
theorem dX10_ofDie_113 : decode cX10_ofDie 113 = .ok (.iload_n 1, 1) := by decide +kernel
theorem dX10_ofDie_114 : decode cX10_ofDie 114 = .ok (.iload_n 2, 1) := by decide +kernel
theorem dX10_ofDie_115 : decode cX10_ofDie 115 = .ok (.iconst 5, 1) := by decide +kernel
theorem dX10_ofDie_116 : decode cX10_ofDie 116 = .ok (.if_icmp .ne 7, 3) := by decide +kernel
theorem dX10_ofDie_119 : decode cX10_ofDie 119 = .ok (.iconst 1, 1) := by decide +kernel
theorem dX10_ofDie_120 : decode cX10_ofDie 120 = .ok (.goto 4, 3) := by decide +kernel
theorem dX10_ofDie_123 : decode cX10_ofDie 123 = .ok (.iconst 0, 1) := by decide +kernel
theorem dX10_ofDie_124 : decode cX10_ofDie 124 = .ok (.invokevirtual 270, 3) := by decide +kernel
theorem dX10_ofDie_127 : decode cX10_ofDie 127 = .ok (.ireturn, 1) := by decide +kernel
set_option maxRecDepth 20000 in
theorem ggX10_crackYear_X10_hasDie : GoodIn wsX10_crackYear wsX10_hasDie := goodIn_r _ [5, 6, 7, 4, 8] (by decide +kernel) (by decide +kernel)
set_option maxRecDepth 20000 in
theorem gX10_crackYear_X10_hasDie : GoodIn wsX10_crackYear (va_wsS RX10 197 yX10_hasDie wsX10_hasDie) := goodIn_app (goodIn_of _ (by decide +kernel)) ggX10_crackYear_X10_hasDie
set_option maxRecDepth 20000 in
theorem ggX10_crackYear_X10_in : GoodIn wsX10_crackYear wsX10_in := goodIn_r _ [8] (by decide +kernel) (by decide +kernel)
set_option maxRecDepth 20000 in
theorem gX10_crackYear_X10_in : GoodIn wsX10_crackYear (va_wsS RX10 49 yX10_in wsX10_in) := goodIn_app (goodIn_of _ (by decide +kernel)) ggX10_crackYear_X10_in
set_option maxRecDepth 20000 in
theorem ggX10_crackYear_X10_refused : GoodIn wsX10_crackYear wsX10_refused := goodIn_r _ [12, 13, 14, 15, 16, 17, 18, 19, 20, 21, 22, 23, 24, 25, 26, 27, 28, 29, 30, 31] (by decide +kernel) (by decide +kernel)
set_option maxRecDepth 20000 in
theorem gX10_crackYear_X10_refused : GoodIn wsX10_crackYear (wsV RX10 150 RX10 yX10_refused wsX10_refused) := goodIn_app (goodIn_of _ (by decide +kernel)) ggX10_crackYear_X10_refused
theorem dX10_crackYear_0 : decode cX10_crackYear 0 = .ok (.aload_n 0, 1) := by decide +kernel
theorem dX10_crackYear_1 : decode cX10_crackYear 1 = .ok (.aload_n 0, 1) := by decide +kernel
theorem dX10_crackYear_2 : decode cX10_crackYear 2 = .ok (.getfield 7, 3) := by decide +kernel
theorem dX10_crackYear_5 : decode cX10_crackYear 5 = .ok (.iload_n 1, 1) := by decide +kernel
theorem dX10_crackYear_6 : decode cX10_crackYear 6 = .ok (.invokestatic 197, 3) := by decide +kernel
theorem dX10_crackYear_9 : decode cX10_crackYear 9 = .ok (.ifCond .eq 28, 3) := by decide +kernel
theorem dX10_crackYear_12 : decode cX10_crackYear 12 = .ok (.iload_n 2, 1) := by decide +kernel
theorem dX10_crackYear_13 : decode cX10_crackYear 13 = .ok (.i2l, 1) := by decide +kernel
theorem dX10_crackYear_14 : decode cX10_crackYear 14 = .ok (.lconst 0, 1) := by decide +kernel
theorem dX10_crackYear_15 : decode cX10_crackYear 15 = .ok (.aload_n 0, 1) := by decide +kernel
theorem dX10_crackYear_16 : decode cX10_crackYear 16 = .ok (.getfield 7, 3) := by decide +kernel
theorem dX10_crackYear_19 : decode cX10_crackYear 19 = .ok (.bipush 55, 2) := by decide +kernel
theorem dX10_crackYear_21 : decode cX10_crackYear 21 = .ok (.iload_n 1, 1) := by decide +kernel
theorem dX10_crackYear_22 : decode cX10_crackYear 22 = .ok (.iadd, 1) := by decide +kernel
theorem dX10_crackYear_23 : decode cX10_crackYear 23 = .ok (.iaload, 1) := by decide +kernel
theorem dX10_crackYear_24 : decode cX10_crackYear 24 = .ok (.iconst 1, 1) := by decide +kernel
theorem dX10_crackYear_25 : decode cX10_crackYear 25 = .ok (.isub, 1) := by decide +kernel
theorem dX10_crackYear_26 : decode cX10_crackYear 26 = .ok (.i2l, 1) := by decide +kernel
theorem dX10_crackYear_27 : decode cX10_crackYear 27 = .ok (.invokestatic 49, 3) := by decide +kernel
theorem dX10_crackYear_30 : decode cX10_crackYear 30 = .ok (.ifCond .eq 7, 3) := by decide +kernel
theorem dX10_crackYear_33 : decode cX10_crackYear 33 = .ok (.iconst 0, 1) := by decide +kernel
theorem dX10_crackYear_34 : decode cX10_crackYear 34 = .ok (.goto 4, 3) := by decide +kernel
theorem dX10_crackYear_37 : decode cX10_crackYear 37 = .ok (.iconst 1, 1) := by decide +kernel
theorem dX10_crackYear_38 : decode cX10_crackYear 38 = .ok (.invokevirtual 150, 3) := by decide +kernel
theorem dX10_crackYear_41 : decode cX10_crackYear 41 = .ok (.ifCond .eq 5, 3) := by decide +kernel
theorem dX10_crackYear_44 : decode cX10_crackYear 44 = .ok (.iconst 0, 1) := by decide +kernel
theorem dX10_crackYear_45 : decode cX10_crackYear 45 = .ok (.ireturn, 1) := by decide +kernel
theorem dX10_crackYear_46 : decode cX10_crackYear 46 = .ok (.aload_n 0, 1) := by decide +kernel
theorem dX10_crackYear_47 : decode cX10_crackYear 47 = .ok (.getfield 7, 3) := by decide +kernel
theorem dX10_crackYear_50 : decode cX10_crackYear 50 = .ok (.bipush 65, 2) := by decide +kernel
theorem dX10_crackYear_52 : decode cX10_crackYear 52 = .ok (.iconst 4, 1) := by decide +kernel
theorem dX10_crackYear_53 : decode cX10_crackYear 53 = .ok (.iload_n 1, 1) := by decide +kernel
theorem dX10_crackYear_54 : decode cX10_crackYear 54 = .ok (.imul, 1) := by decide +kernel
theorem dX10_crackYear_55 : decode cX10_crackYear 55 = .ok (.iadd, 1) := by decide +kernel
theorem dX10_crackYear_56 : decode cX10_crackYear 56 = .ok (.iload_n 2, 1) := by decide +kernel
theorem dX10_crackYear_57 : decode cX10_crackYear 57 = .ok (.iadd, 1) := by decide +kernel
theorem dX10_crackYear_58 : decode cX10_crackYear 58 = .ok (.iaload, 1) := by decide +kernel
theorem dX10_crackYear_59 : decode cX10_crackYear 59 = .ok (.ireturn, 1) := by decide +kernel
set_option maxRecDepth 20000 in
theorem ggX10_ofSeal_X10_hasSeal : GoodIn wsX10_ofSeal wsX10_hasSeal := goodIn_r _ [6, 7, 8, 5, 9] (by decide +kernel) (by decide +kernel)
set_option maxRecDepth 20000 in
theorem gX10_ofSeal_X10_hasSeal : GoodIn wsX10_ofSeal (va_wsS RX10 214 yX10_hasSeal wsX10_hasSeal) := goodIn_app (goodIn_of _ (by decide +kernel)) ggX10_ofSeal_X10_hasSeal
set_option maxRecDepth 20000 in
theorem ggX10_ofSeal_X10_in : GoodIn wsX10_ofSeal wsX10_in := goodIn_r _ [9] (by decide +kernel) (by decide +kernel)
set_option maxRecDepth 20000 in
theorem gX10_ofSeal_X10_in : GoodIn wsX10_ofSeal (va_wsS RX10 49 yX10_in wsX10_in) := goodIn_app (goodIn_of _ (by decide +kernel)) ggX10_ofSeal_X10_in
set_option maxRecDepth 20000 in
theorem ggX10_ofSeal_X10_refused : GoodIn wsX10_ofSeal wsX10_refused := goodIn_r _ [13, 14, 21, 22, 23, 24, 25, 26, 27, 28, 29, 30, 31, 32, 33, 34, 35, 36, 37, 38] (by decide +kernel) (by decide +kernel)
set_option maxRecDepth 20000 in
theorem gX10_ofSeal_X10_refused : GoodIn wsX10_ofSeal (wsV RX10 150 RX10 yX10_refused wsX10_refused) := goodIn_app (goodIn_of _ (by decide +kernel)) ggX10_ofSeal_X10_refused
set_option maxRecDepth 20000 in
theorem ggX10_ofSeal_X10_shelfOf : GoodIn wsX10_ofSeal wsX10_shelfOf := goodIn_r _ [17, 18, 19, 5, 20] (by decide +kernel) (by decide +kernel)
set_option maxRecDepth 20000 in
theorem gX10_ofSeal_X10_shelfOf : GoodIn wsX10_ofSeal (va_wsS RX10 113 yX10_shelfOf wsX10_shelfOf) := goodIn_app (goodIn_of _ (by decide +kernel)) ggX10_ofSeal_X10_shelfOf
set_option maxRecDepth 20000 in
theorem ggX10_ofSeal_X10_placeOn : GoodIn wsX10_ofSeal wsX10_placeOn := goodIn_r _ [20] (by decide +kernel) (by decide +kernel)
set_option maxRecDepth 20000 in
theorem gX10_ofSeal_X10_placeOn : GoodIn wsX10_ofSeal (va_wsS RX10 110 yX10_placeOn wsX10_placeOn) := goodIn_app (goodIn_of _ (by decide +kernel)) ggX10_ofSeal_X10_placeOn
theorem dX10_ofSeal_0 : decode cX10_ofSeal 0 = .ok (.aload_n 0, 1) := by decide +kernel
theorem dX10_ofSeal_1 : decode cX10_ofSeal 1 = .ok (.aload_n 0, 1) := by decide +kernel
theorem dX10_ofSeal_2 : decode cX10_ofSeal 2 = .ok (.getfield 7, 3) := by decide +kernel
theorem dX10_ofSeal_5 : decode cX10_ofSeal 5 = .ok (.iload_n 1, 1) := by decide +kernel
theorem dX10_ofSeal_6 : decode cX10_ofSeal 6 = .ok (.invokestatic 214, 3) := by decide +kernel
theorem dX10_ofSeal_9 : decode cX10_ofSeal 9 = .ok (.ifCond .ne 7, 3) := by decide +kernel
theorem dX10_ofSeal_12 : decode cX10_ofSeal 12 = .ok (.iconst 1, 1) := by decide +kernel
theorem dX10_ofSeal_13 : decode cX10_ofSeal 13 = .ok (.goto 20, 3) := by decide +kernel
theorem dX10_ofSeal_16 : decode cX10_ofSeal 16 = .ok (.iload_n 2, 1) := by decide +kernel
theorem dX10_ofSeal_17 : decode cX10_ofSeal 17 = .ok (.i2l, 1) := by decide +kernel
theorem dX10_ofSeal_18 : decode cX10_ofSeal 18 = .ok (.lconst 0, 1) := by decide +kernel
theorem dX10_ofSeal_19 : decode cX10_ofSeal 19 = .ok (.ldc2_w 135, 3) := by decide +kernel
theorem dX10_ofSeal_22 : decode cX10_ofSeal 22 = .ok (.invokestatic 49, 3) := by decide +kernel
theorem dX10_ofSeal_25 : decode cX10_ofSeal 25 = .ok (.ifCond .ne 7, 3) := by decide +kernel
theorem dX10_ofSeal_28 : decode cX10_ofSeal 28 = .ok (.iconst 2, 1) := by decide +kernel
theorem dX10_ofSeal_29 : decode cX10_ofSeal 29 = .ok (.goto 4, 3) := by decide +kernel
theorem dX10_ofSeal_32 : decode cX10_ofSeal 32 = .ok (.iconst 0, 1) := by decide +kernel
theorem dX10_ofSeal_33 : decode cX10_ofSeal 33 = .ok (.invokevirtual 150, 3) := by decide +kernel
theorem dX10_ofSeal_36 : decode cX10_ofSeal 36 = .ok (.ifCond .eq 5, 3) := by decide +kernel
theorem dX10_ofSeal_39 : decode cX10_ofSeal 39 = .ok (.iconst 0, 1) := by decide +kernel
theorem dX10_ofSeal_40 : decode cX10_ofSeal 40 = .ok (.ireturn, 1) := by decide +kernel
theorem dX10_ofSeal_41 : decode cX10_ofSeal 41 = .ok (.aload_n 0, 1) := by decide +kernel
theorem dX10_ofSeal_42 : decode cX10_ofSeal 42 = .ok (.getfield 7, 3) := by decide +kernel
theorem dX10_ofSeal_45 : decode cX10_ofSeal 45 = .ok (.iload_n 1, 1) := by decide +kernel
theorem dX10_ofSeal_46 : decode cX10_ofSeal 46 = .ok (.invokestatic 113, 3) := by decide +kernel
theorem dX10_ofSeal_49 : decode cX10_ofSeal 49 = .ok (.istore_n 3, 1) := by decide +kernel
theorem dX10_ofSeal_50 : decode cX10_ofSeal 50 = .ok (.iload_n 2, 1) := by decide +kernel
theorem dX10_ofSeal_51 : decode cX10_ofSeal 51 = .ok (.tableswitch 108 0 6 #[41, 51, 62, 73, 84, 95, 106], 41) := by decide +kernel
theorem dX10_ofSeal_92 : decode cX10_ofSeal 92 = .ok (.aload_n 0, 1) := by decide +kernel
theorem dX10_ofSeal_93 : decode cX10_ofSeal 93 = .ok (.getfield 7, 3) := by decide +kernel
theorem dX10_ofSeal_96 : decode cX10_ofSeal 96 = .ok (.bipush 105, 2) := by decide +kernel
theorem dX10_ofSeal_98 : decode cX10_ofSeal 98 = .ok (.iload_n 1, 1) := by decide +kernel
theorem dX10_ofSeal_99 : decode cX10_ofSeal 99 = .ok (.iadd, 1) := by decide +kernel
theorem dX10_ofSeal_100 : decode cX10_ofSeal 100 = .ok (.iaload, 1) := by decide +kernel
theorem dX10_ofSeal_101 : decode cX10_ofSeal 101 = .ok (.ireturn, 1) := by decide +kernel
theorem dX10_ofSeal_102 : decode cX10_ofSeal 102 = .ok (.aload_n 0, 1) := by decide +kernel
theorem dX10_ofSeal_103 : decode cX10_ofSeal 103 = .ok (.getfield 7, 3) := by decide +kernel
theorem dX10_ofSeal_106 : decode cX10_ofSeal 106 = .ok (.sipush 129, 3) := by decide +kernel
theorem dX10_ofSeal_109 : decode cX10_ofSeal 109 = .ok (.iload_n 1, 1) := by decide +kernel
theorem dX10_ofSeal_110 : decode cX10_ofSeal 110 = .ok (.iadd, 1) := by decide +kernel
theorem dX10_ofSeal_111 : decode cX10_ofSeal 111 = .ok (.iaload, 1) := by decide +kernel
theorem dX10_ofSeal_112 : decode cX10_ofSeal 112 = .ok (.ireturn, 1) := by decide +kernel
theorem dX10_ofSeal_113 : decode cX10_ofSeal 113 = .ok (.aload_n 0, 1) := by decide +kernel
theorem dX10_ofSeal_114 : decode cX10_ofSeal 114 = .ok (.getfield 7, 3) := by decide +kernel
theorem dX10_ofSeal_117 : decode cX10_ofSeal 117 = .ok (.sipush 153, 3) := by decide +kernel
theorem dX10_ofSeal_120 : decode cX10_ofSeal 120 = .ok (.iload_n 1, 1) := by decide +kernel
theorem dX10_ofSeal_121 : decode cX10_ofSeal 121 = .ok (.iadd, 1) := by decide +kernel
theorem dX10_ofSeal_122 : decode cX10_ofSeal 122 = .ok (.iaload, 1) := by decide +kernel
theorem dX10_ofSeal_123 : decode cX10_ofSeal 123 = .ok (.ireturn, 1) := by decide +kernel
theorem dX10_ofSeal_124 : decode cX10_ofSeal 124 = .ok (.aload_n 0, 1) := by decide +kernel
theorem dX10_ofSeal_125 : decode cX10_ofSeal 125 = .ok (.getfield 7, 3) := by decide +kernel
theorem dX10_ofSeal_128 : decode cX10_ofSeal 128 = .ok (.sipush 177, 3) := by decide +kernel
theorem dX10_ofSeal_131 : decode cX10_ofSeal 131 = .ok (.iload_n 1, 1) := by decide +kernel
theorem dX10_ofSeal_132 : decode cX10_ofSeal 132 = .ok (.iadd, 1) := by decide +kernel
theorem dX10_ofSeal_133 : decode cX10_ofSeal 133 = .ok (.iaload, 1) := by decide +kernel
theorem dX10_ofSeal_134 : decode cX10_ofSeal 134 = .ok (.ireturn, 1) := by decide +kernel
theorem dX10_ofSeal_135 : decode cX10_ofSeal 135 = .ok (.aload_n 0, 1) := by decide +kernel
theorem dX10_ofSeal_136 : decode cX10_ofSeal 136 = .ok (.getfield 7, 3) := by decide +kernel
theorem dX10_ofSeal_139 : decode cX10_ofSeal 139 = .ok (.sipush 201, 3) := by decide +kernel
theorem dX10_ofSeal_142 : decode cX10_ofSeal 142 = .ok (.iload_n 1, 1) := by decide +kernel
theorem dX10_ofSeal_143 : decode cX10_ofSeal 143 = .ok (.iadd, 1) := by decide +kernel
theorem dX10_ofSeal_144 : decode cX10_ofSeal 144 = .ok (.iaload, 1) := by decide +kernel
theorem dX10_ofSeal_145 : decode cX10_ofSeal 145 = .ok (.ireturn, 1) := by decide +kernel
theorem dX10_ofSeal_146 : decode cX10_ofSeal 146 = .ok (.aload_n 0, 1) := by decide +kernel
theorem dX10_ofSeal_147 : decode cX10_ofSeal 147 = .ok (.getfield 7, 3) := by decide +kernel
theorem dX10_ofSeal_150 : decode cX10_ofSeal 150 = .ok (.sipush 225, 3) := by decide +kernel
theorem dX10_ofSeal_153 : decode cX10_ofSeal 153 = .ok (.iload_n 1, 1) := by decide +kernel
theorem dX10_ofSeal_154 : decode cX10_ofSeal 154 = .ok (.iadd, 1) := by decide +kernel
theorem dX10_ofSeal_155 : decode cX10_ofSeal 155 = .ok (.iaload, 1) := by decide +kernel
theorem dX10_ofSeal_156 : decode cX10_ofSeal 156 = .ok (.ireturn, 1) := by decide +kernel
theorem dX10_ofSeal_157 : decode cX10_ofSeal 157 = .ok (.iload_n 3, 1) := by decide +kernel
theorem dX10_ofSeal_158 : decode cX10_ofSeal 158 = .ok (.ireturn, 1) := by decide +kernel
theorem dX10_ofSeal_159 : decode cX10_ofSeal 159 = .ok (.iload_n 3, 1) := by decide +kernel
theorem dX10_ofSeal_160 : decode cX10_ofSeal 160 = .ok (.iconst (-1), 1) := by decide +kernel
theorem dX10_ofSeal_161 : decode cX10_ofSeal 161 = .ok (.if_icmp .ne 7, 3) := by decide +kernel
theorem dX10_ofSeal_164 : decode cX10_ofSeal 164 = .ok (.iconst (-1), 1) := by decide +kernel
theorem dX10_ofSeal_165 : decode cX10_ofSeal 165 = .ok (.goto 12, 3) := by decide +kernel
theorem dX10_ofSeal_168 : decode cX10_ofSeal 168 = .ok (.aload_n 0, 1) := by decide +kernel
theorem dX10_ofSeal_169 : decode cX10_ofSeal 169 = .ok (.getfield 7, 3) := by decide +kernel
theorem dX10_ofSeal_172 : decode cX10_ofSeal 172 = .ok (.iload_n 1, 1) := by decide +kernel
theorem dX10_ofSeal_173 : decode cX10_ofSeal 173 = .ok (.iload_n 3, 1) := by decide +kernel
theorem dX10_ofSeal_174 : decode cX10_ofSeal 174 = .ok (.invokestatic 110, 3) := by decide +kernel
theorem dX10_ofSeal_177 : decode cX10_ofSeal 177 = .ok (.ireturn, 1) := by decide +kernel
set_option maxRecDepth 20000 in
theorem ggX10_dated_X10_hasSeal : GoodIn wsX10_dated wsX10_hasSeal := goodIn_r _ [6, 7, 8, 5, 9] (by decide +kernel) (by decide +kernel)
set_option maxRecDepth 20000 in
theorem gX10_dated_X10_hasSeal : GoodIn wsX10_dated (va_wsS RX10 214 yX10_hasSeal wsX10_hasSeal) := goodIn_app (goodIn_of _ (by decide +kernel)) ggX10_dated_X10_hasSeal
set_option maxRecDepth 20000 in
theorem ggX10_dated_X10_in : GoodIn wsX10_dated wsX10_in := goodIn_r _ [9] (by decide +kernel) (by decide +kernel)
set_option maxRecDepth 20000 in
theorem gX10_dated_X10_in : GoodIn wsX10_dated (va_wsS RX10 49 yX10_in wsX10_in) := goodIn_app (goodIn_of _ (by decide +kernel)) ggX10_dated_X10_in
set_option maxRecDepth 20000 in
theorem ggX10_dated_X10_refused : GoodIn wsX10_dated wsX10_refused := goodIn_r _ [13, 14, 58, 59, 60, 61, 62, 63, 64, 65, 66, 67, 68, 69, 70, 71, 72, 73, 74, 75] (by decide +kernel) (by decide +kernel)
set_option maxRecDepth 20000 in
theorem gX10_dated_X10_refused : GoodIn wsX10_dated (wsV RX10 150 RX10 yX10_refused wsX10_refused) := goodIn_app (goodIn_of _ (by decide +kernel)) ggX10_dated_X10_refused
set_option maxRecDepth 20000 in
theorem ggX10_dated_X10_fake : GoodIn wsX10_dated wsX10_fake := goodIn_r _ [18, 19, 20, 5, 21, 22, 23, 24, 25, 26, 27, 28, 29, 30, 31, 32, 33, 34, 35, 36, 37, 38, 39, 40, 41, 42, 43, 44, 45, 46, 47, 48, 49, 50, 51, 52, 53, 54, 55, 56, 57, 58, 59, 60, 61, 62, 63, 64, 65, 66, 67, 68, 69, 70, 71, 72, 73, 74, 75] (by decide +kernel) (by decide +kernel)
set_option maxRecDepth 20000 in
theorem gX10_dated_X10_fake : GoodIn wsX10_dated (wsV RX10 107 RX10 yX10_fake wsX10_fake) := goodIn_app (goodIn_of _ (by decide +kernel)) ggX10_dated_X10_fake
set_option maxRecDepth 20000 in
theorem ggX10_dated_X10_yearsOf : GoodIn wsX10_dated wsX10_yearsOf := goodIn_r _ [36, 37, 38, 5, 39, 40, 41, 42, 43, 44, 45, 25, 26, 27, 28, 29, 30, 31, 32, 33] (by decide +kernel) (by decide +kernel)
set_option maxRecDepth 20000 in
theorem gX10_dated_X10_yearsOf : GoodIn wsX10_dated (va_wsS RX10 80 yX10_yearsOf wsX10_yearsOf) := goodIn_app (goodIn_of _ (by decide +kernel)) ggX10_dated_X10_yearsOf
theorem dX10_dated_0 : decode cX10_dated 0 = .ok (.aload_n 0, 1) := by decide +kernel
theorem dX10_dated_1 : decode cX10_dated 1 = .ok (.aload_n 0, 1) := by decide +kernel
theorem dX10_dated_2 : decode cX10_dated 2 = .ok (.getfield 7, 3) := by decide +kernel
theorem dX10_dated_5 : decode cX10_dated 5 = .ok (.iload_n 1, 1) := by decide +kernel
theorem dX10_dated_6 : decode cX10_dated 6 = .ok (.invokestatic 214, 3) := by decide +kernel
theorem dX10_dated_9 : decode cX10_dated 9 = .ok (.ifCond .ne 7, 3) := by decide +kernel
theorem dX10_dated_12 : decode cX10_dated 12 = .ok (.iconst 1, 1) := by decide +kernel
theorem dX10_dated_13 : decode cX10_dated 13 = .ok (.goto 20, 3) := by decide +kernel
theorem dX10_dated_16 : decode cX10_dated 16 = .ok (.iload_n 2, 1) := by decide +kernel
theorem dX10_dated_17 : decode cX10_dated 17 = .ok (.i2l, 1) := by decide +kernel
theorem dX10_dated_18 : decode cX10_dated 18 = .ok (.lconst 0, 1) := by decide +kernel
theorem dX10_dated_19 : decode cX10_dated 19 = .ok (.ldc2_w 274, 3) := by decide +kernel
theorem dX10_dated_22 : decode cX10_dated 22 = .ok (.invokestatic 49, 3) := by decide +kernel
theorem dX10_dated_25 : decode cX10_dated 25 = .ok (.ifCond .ne 7, 3) := by decide +kernel
theorem dX10_dated_28 : decode cX10_dated 28 = .ok (.iconst 2, 1) := by decide +kernel
theorem dX10_dated_29 : decode cX10_dated 29 = .ok (.goto 4, 3) := by decide +kernel
theorem dX10_dated_32 : decode cX10_dated 32 = .ok (.iconst 0, 1) := by decide +kernel
theorem dX10_dated_33 : decode cX10_dated 33 = .ok (.invokevirtual 150, 3) := by decide +kernel
theorem dX10_dated_36 : decode cX10_dated 36 = .ok (.ifCond .eq 5, 3) := by decide +kernel
theorem dX10_dated_39 : decode cX10_dated 39 = .ok (.iconst 0, 1) := by decide +kernel
theorem dX10_dated_40 : decode cX10_dated 40 = .ok (.ireturn, 1) := by decide +kernel
theorem dX10_dated_41 : decode cX10_dated 41 = .ok (.iload_n 2, 1) := by decide +kernel
theorem dX10_dated_42 : decode cX10_dated 42 = .ok (.iconst 3, 1) := by decide +kernel
theorem dX10_dated_43 : decode cX10_dated 43 = .ok (.if_icmp .ne 15, 3) := by decide +kernel
theorem dX10_dated_46 : decode cX10_dated 46 = .ok (.aload_n 0, 1) := by decide +kernel
theorem dX10_dated_47 : decode cX10_dated 47 = .ok (.aload_n 0, 1) := by decide +kernel
theorem dX10_dated_48 : decode cX10_dated 48 = .ok (.getfield 7, 3) := by decide +kernel
theorem dX10_dated_51 : decode cX10_dated 51 = .ok (.iload_n 1, 1) := by decide +kernel
theorem dX10_dated_52 : decode cX10_dated 52 = .ok (.invokevirtual 107, 3) := by decide +kernel
theorem dX10_dated_55 : decode cX10_dated 55 = .ok (.goto 12, 3) := by decide +kernel
theorem dX10_dated_58 : decode cX10_dated 58 = .ok (.aload_n 0, 1) := by decide +kernel
theorem dX10_dated_59 : decode cX10_dated 59 = .ok (.getfield 7, 3) := by decide +kernel
theorem dX10_dated_62 : decode cX10_dated 62 = .ok (.iload_n 1, 1) := by decide +kernel
theorem dX10_dated_63 : decode cX10_dated 63 = .ok (.iload_n 2, 1) := by decide +kernel
theorem dX10_dated_64 : decode cX10_dated 64 = .ok (.invokestatic 80, 3) := by decide +kernel
theorem dX10_dated_67 : decode cX10_dated 67 = .ok (.ireturn, 1) := by decide +kernel
set_option maxRecDepth 20000 in
theorem ggX10_isPossible_X10_hasSeal : GoodIn wsX10_isPossible wsX10_hasSeal := goodIn_r _ [5, 6, 7, 4, 8] (by decide +kernel) (by decide +kernel)
set_option maxRecDepth 20000 in
theorem gX10_isPossible_X10_hasSeal : GoodIn wsX10_isPossible (va_wsS RX10 214 yX10_hasSeal wsX10_hasSeal) := goodIn_app (goodIn_of _ (by decide +kernel)) ggX10_isPossible_X10_hasSeal
set_option maxRecDepth 20000 in
theorem ggX10_isPossible_X10_isYear : GoodIn wsX10_isPossible wsX10_isYear := goodIn_r _ [11, 12, 13, 6, 7, 4, 8] (by decide +kernel) (by decide +kernel)
set_option maxRecDepth 20000 in
theorem gX10_isPossible_X10_isYear : GoodIn wsX10_isPossible (va_wsS RX10 129 yX10_isYear wsX10_isYear) := goodIn_app (goodIn_of _ (by decide +kernel)) ggX10_isPossible_X10_isYear
set_option maxRecDepth 20000 in
theorem ggX10_isPossible_X10_refused : GoodIn wsX10_isPossible wsX10_refused := goodIn_r _ [17, 18, 41, 42, 43, 44, 45, 46, 47, 48, 49, 50, 51, 52, 53, 54, 55, 56, 57, 58] (by decide +kernel) (by decide +kernel)
set_option maxRecDepth 20000 in
theorem gX10_isPossible_X10_refused : GoodIn wsX10_isPossible (wsV RX10 150 RX10 yX10_refused wsX10_refused) := goodIn_app (goodIn_of _ (by decide +kernel)) ggX10_isPossible_X10_refused
set_option maxRecDepth 20000 in
theorem ggX10_isPossible_X10_can : GoodIn wsX10_isPossible wsX10_can := goodIn_r _ [22, 1, 23, 24, 4, 25, 26, 27, 28, 29, 30, 31, 6, 7, 8, 32, 33, 34, 35, 36, 37, 38, 39, 40, 41, 42, 43, 44, 45, 46, 47, 48, 49, 50, 51, 52, 53, 54, 55, 56, 57, 58] (by decide +kernel) (by decide +kernel)
set_option maxRecDepth 20000 in
theorem gX10_isPossible_X10_can : GoodIn wsX10_isPossible (wsV RX10 276 RX10 yX10_can wsX10_can) := goodIn_app (goodIn_of _ (by decide +kernel)) ggX10_isPossible_X10_can
theorem dX10_isPossible_0 : decode cX10_isPossible 0 = .ok (.aload_n 0, 1) := by decide +kernel
theorem dX10_isPossible_1 : decode cX10_isPossible 1 = .ok (.aload_n 0, 1) := by decide +kernel
theorem dX10_isPossible_2 : decode cX10_isPossible 2 = .ok (.getfield 7, 3) := by decide +kernel
theorem dX10_isPossible_5 : decode cX10_isPossible 5 = .ok (.iload_n 1, 1) := by decide +kernel
theorem dX10_isPossible_6 : decode cX10_isPossible 6 = .ok (.invokestatic 214, 3) := by decide +kernel
theorem dX10_isPossible_9 : decode cX10_isPossible 9 = .ok (.ifCond .ne 7, 3) := by decide +kernel
theorem dX10_isPossible_12 : decode cX10_isPossible 12 = .ok (.iconst 1, 1) := by decide +kernel
theorem dX10_isPossible_13 : decode cX10_isPossible 13 = .ok (.goto 15, 3) := by decide +kernel
theorem dX10_isPossible_16 : decode cX10_isPossible 16 = .ok (.iload_n 2, 1) := by decide +kernel
theorem dX10_isPossible_17 : decode cX10_isPossible 17 = .ok (.invokestatic 129, 3) := by decide +kernel
theorem dX10_isPossible_20 : decode cX10_isPossible 20 = .ok (.ifCond .ne 7, 3) := by decide +kernel
theorem dX10_isPossible_23 : decode cX10_isPossible 23 = .ok (.iconst 2, 1) := by decide +kernel
theorem dX10_isPossible_24 : decode cX10_isPossible 24 = .ok (.goto 4, 3) := by decide +kernel
theorem dX10_isPossible_27 : decode cX10_isPossible 27 = .ok (.iconst 0, 1) := by decide +kernel
theorem dX10_isPossible_28 : decode cX10_isPossible 28 = .ok (.invokevirtual 150, 3) := by decide +kernel
theorem dX10_isPossible_31 : decode cX10_isPossible 31 = .ok (.ifCond .eq 5, 3) := by decide +kernel
theorem dX10_isPossible_34 : decode cX10_isPossible 34 = .ok (.iconst 0, 1) := by decide +kernel
theorem dX10_isPossible_35 : decode cX10_isPossible 35 = .ok (.ireturn, 1) := by decide +kernel
theorem dX10_isPossible_36 : decode cX10_isPossible 36 = .ok (.aload_n 0, 1) := by decide +kernel
theorem dX10_isPossible_37 : decode cX10_isPossible 37 = .ok (.iload_n 1, 1) := by decide +kernel
theorem dX10_isPossible_38 : decode cX10_isPossible 38 = .ok (.iload_n 2, 1) := by decide +kernel
theorem dX10_isPossible_39 : decode cX10_isPossible 39 = .ok (.invokevirtual 276, 3) := by decide +kernel
theorem dX10_isPossible_42 : decode cX10_isPossible 42 = .ok (.ireturn, 1) := by decide +kernel
set_option maxRecDepth 20000 in
theorem ggX10_can_X10_lowOf : GoodIn wsX10_can wsX10_lowOf := goodIn_r _ [5, 6, 7, 4, 8] (by decide +kernel) (by decide +kernel)
set_option maxRecDepth 20000 in
theorem gX10_can_X10_lowOf : GoodIn wsX10_can (va_wsS RX10 63 yX10_lowOf wsX10_lowOf) := goodIn_app (goodIn_of _ (by decide +kernel)) ggX10_can_X10_lowOf
set_option maxRecDepth 20000 in
theorem ggX10_can_X10_highOf : GoodIn wsX10_can wsX10_highOf := goodIn_r _ [11, 6, 7, 4, 8] (by decide +kernel) (by decide +kernel)
set_option maxRecDepth 20000 in
theorem gX10_can_X10_highOf : GoodIn wsX10_can (va_wsS RX10 66 yX10_highOf wsX10_highOf) := goodIn_app (goodIn_of _ (by decide +kernel)) ggX10_can_X10_highOf
set_option maxRecDepth 20000 in
theorem ggX10_can_X10_in : GoodIn wsX10_can wsX10_in := goodIn_r _ [14] (by decide +kernel) (by decide +kernel)
set_option maxRecDepth 20000 in
theorem gX10_can_X10_in : GoodIn wsX10_can (va_wsS RX10 49 yX10_in wsX10_in) := goodIn_app (goodIn_of _ (by decide +kernel)) ggX10_can_X10_in
set_option maxRecDepth 20000 in
theorem ggX10_can_X10_maskOf : GoodIn wsX10_can wsX10_maskOf := goodIn_r _ [17] (by decide +kernel) (by decide +kernel)
set_option maxRecDepth 20000 in
theorem gX10_can_X10_maskOf : GoodIn wsX10_can (va_wsS RX10 69 yX10_maskOf wsX10_maskOf) := goodIn_app (goodIn_of _ (by decide +kernel)) ggX10_can_X10_maskOf
set_option maxRecDepth 20000 in
theorem ggX10_can_X10_years : GoodIn wsX10_can wsX10_years := goodIn_r _ [20, 21, 22, 4, 23] (by decide +kernel) (by decide +kernel)
set_option maxRecDepth 20000 in
theorem gX10_can_X10_years : GoodIn wsX10_can (va_wsS RX10 72 yX10_years wsX10_years) := goodIn_app (goodIn_of _ (by decide +kernel)) ggX10_can_X10_years
theorem dX10_can_0 : decode cX10_can 0 = .ok (.iload_n 2, 1) := by decide +kernel
theorem dX10_can_1 : decode cX10_can 1 = .ok (.i2l, 1) := by decide +kernel
theorem dX10_can_2 : decode cX10_can 2 = .ok (.aload_n 0, 1) := by decide +kernel
theorem dX10_can_3 : decode cX10_can 3 = .ok (.getfield 7, 3) := by decide +kernel
theorem dX10_can_6 : decode cX10_can 6 = .ok (.iload_n 1, 1) := by decide +kernel
theorem dX10_can_7 : decode cX10_can 7 = .ok (.invokestatic 63, 3) := by decide +kernel
theorem dX10_can_10 : decode cX10_can 10 = .ok (.i2l, 1) := by decide +kernel
theorem dX10_can_11 : decode cX10_can 11 = .ok (.aload_n 0, 1) := by decide +kernel
theorem dX10_can_12 : decode cX10_can 12 = .ok (.getfield 7, 3) := by decide +kernel
theorem dX10_can_15 : decode cX10_can 15 = .ok (.iload_n 1, 1) := by decide +kernel
theorem dX10_can_16 : decode cX10_can 16 = .ok (.invokestatic 66, 3) := by decide +kernel
theorem dX10_can_19 : decode cX10_can 19 = .ok (.i2l, 1) := by decide +kernel
theorem dX10_can_20 : decode cX10_can 20 = .ok (.invokestatic 49, 3) := by decide +kernel
theorem dX10_can_23 : decode cX10_can 23 = .ok (.ifCond .eq 29, 3) := by decide +kernel
theorem dX10_can_26 : decode cX10_can 26 = .ok (.aload_n 0, 1) := by decide +kernel
theorem dX10_can_27 : decode cX10_can 27 = .ok (.getfield 7, 3) := by decide +kernel
theorem dX10_can_30 : decode cX10_can 30 = .ok (.iload_n 2, 1) := by decide +kernel
theorem dX10_can_31 : decode cX10_can 31 = .ok (.iload_n 2, 1) := by decide +kernel
theorem dX10_can_32 : decode cX10_can 32 = .ok (.aload_n 0, 1) := by decide +kernel
theorem dX10_can_33 : decode cX10_can 33 = .ok (.getfield 7, 3) := by decide +kernel
theorem dX10_can_36 : decode cX10_can 36 = .ok (.iload_n 1, 1) := by decide +kernel
theorem dX10_can_37 : decode cX10_can 37 = .ok (.invokestatic 69, 3) := by decide +kernel
theorem dX10_can_40 : decode cX10_can 40 = .ok (.iconst 2, 1) := by decide +kernel
theorem dX10_can_41 : decode cX10_can 41 = .ok (.invokestatic 72, 3) := by decide +kernel
theorem dX10_can_44 : decode cX10_can 44 = .ok (.iconst 1, 1) := by decide +kernel
theorem dX10_can_45 : decode cX10_can 45 = .ok (.if_icmp .ne 7, 3) := by decide +kernel
theorem dX10_can_48 : decode cX10_can 48 = .ok (.iconst 1, 1) := by decide +kernel
theorem dX10_can_49 : decode cX10_can 49 = .ok (.goto 4, 3) := by decide +kernel
theorem dX10_can_52 : decode cX10_can 52 = .ok (.iconst 0, 1) := by decide +kernel
theorem dX10_can_53 : decode cX10_can 53 = .ok (.ireturn, 1) := by decide +kernel
set_option maxRecDepth 20000 in
theorem ggX10_charter_X10_isCharter : GoodIn wsX10_charter wsX10_isCharter := goodIn_r _ [6, 7, 8, 9, 5, 10] (by decide +kernel) (by decide +kernel)
set_option maxRecDepth 20000 in
theorem gX10_charter_X10_isCharter : GoodIn wsX10_charter (va_wsS RX10 279 yX10_isCharter wsX10_isCharter) := goodIn_app (goodIn_of _ (by decide +kernel)) ggX10_charter_X10_isCharter
set_option maxRecDepth 20000 in
theorem ggX10_charter_X10_in : GoodIn wsX10_charter wsX10_in := goodIn_r _ [10] (by decide +kernel) (by decide +kernel)
set_option maxRecDepth 20000 in
theorem gX10_charter_X10_in : GoodIn wsX10_charter (va_wsS RX10 49 yX10_in wsX10_in) := goodIn_app (goodIn_of _ (by decide +kernel)) ggX10_charter_X10_in
set_option maxRecDepth 20000 in
theorem ggX10_charter_X10_refused : GoodIn wsX10_charter wsX10_refused := goodIn_r _ [14, 15, 66, 67, 68, 69, 70, 71, 72, 73, 74, 75, 76, 77, 78, 79, 80, 81, 82, 83] (by decide +kernel) (by decide +kernel)
set_option maxRecDepth 20000 in
theorem gX10_charter_X10_refused : GoodIn wsX10_charter (wsV RX10 150 RX10 yX10_refused wsX10_refused) := goodIn_app (goodIn_of _ (by decide +kernel)) ggX10_charter_X10_refused
set_option maxRecDepth 20000 in
theorem ggX10_charter_X10_onCharter : GoodIn wsX10_charter wsX10_onCharter := goodIn_r _ [18] (by decide +kernel) (by decide +kernel)
set_option maxRecDepth 20000 in
theorem gX10_charter_X10_onCharter : GoodIn wsX10_charter (va_wsS RX10 139 yX10_onCharter wsX10_onCharter) := goodIn_app (goodIn_of _ (by decide +kernel)) ggX10_charter_X10_onCharter
set_option maxRecDepth 20000 in
theorem ggX10_charter_X10_fakesOn : GoodIn wsX10_charter wsX10_fakesOn := goodIn_r _ [22, 2, 23, 24, 25, 5, 26, 27, 28, 29, 30, 31, 32, 33, 34, 35, 36, 37, 38, 39, 40, 41, 42, 43, 44, 45, 46, 47, 48, 49, 50, 51, 52, 53, 54, 55, 56, 57, 58, 59, 60, 61, 62, 63, 64, 65, 66, 67, 68, 69, 70, 71, 72, 73, 74, 75, 76, 77, 78, 79, 80, 81, 82, 83] (by decide +kernel) (by decide +kernel)
set_option maxRecDepth 20000 in
theorem gX10_charter_X10_fakesOn : GoodIn wsX10_charter (wsV RX10 246 RX10 yX10_fakesOn wsX10_fakesOn) := goodIn_app (goodIn_of _ (by decide +kernel)) ggX10_charter_X10_fakesOn
set_option maxRecDepth 20000 in
theorem ggX10_charter_X10_ofCharter : GoodIn wsX10_charter wsX10_ofCharter := goodIn_r _ [57, 58, 59, 60, 61, 62, 63, 64, 5, 65, 27, 28, 29, 30, 31, 32, 33, 34, 35, 36, 37, 38, 39, 40, 41, 42, 43, 44, 45, 46, 47, 48, 49, 50, 51, 52, 53, 66, 67, 68, 69, 70, 71, 72, 73, 74, 75, 76, 77, 78, 79, 80, 81, 82, 83] (by decide +kernel) (by decide +kernel)
set_option maxRecDepth 20000 in
theorem gX10_charter_X10_ofCharter : GoodIn wsX10_charter (wsV RX10 103 RX10 yX10_ofCharter wsX10_ofCharter) := goodIn_app (goodIn_of _ (by decide +kernel)) ggX10_charter_X10_ofCharter
theorem dX10_charter_0 : decode cX10_charter 0 = .ok (.aload_n 0, 1) := by decide +kernel
theorem dX10_charter_1 : decode cX10_charter 1 = .ok (.iload_n 1, 1) := by decide +kernel
theorem dX10_charter_2 : decode cX10_charter 2 = .ok (.invokestatic 279, 3) := by decide +kernel
theorem dX10_charter_5 : decode cX10_charter 5 = .ok (.ifCond .ne 7, 3) := by decide +kernel
theorem dX10_charter_8 : decode cX10_charter 8 = .ok (.iconst 1, 1) := by decide +kernel
theorem dX10_charter_9 : decode cX10_charter 9 = .ok (.goto 20, 3) := by decide +kernel
theorem dX10_charter_12 : decode cX10_charter 12 = .ok (.iload_n 2, 1) := by decide +kernel
theorem dX10_charter_13 : decode cX10_charter 13 = .ok (.i2l, 1) := by decide +kernel
theorem dX10_charter_14 : decode cX10_charter 14 = .ok (.lconst 0, 1) := by decide +kernel
theorem dX10_charter_15 : decode cX10_charter 15 = .ok (.ldc2_w 282, 3) := by decide +kernel
theorem dX10_charter_18 : decode cX10_charter 18 = .ok (.invokestatic 49, 3) := by decide +kernel
theorem dX10_charter_21 : decode cX10_charter 21 = .ok (.ifCond .ne 7, 3) := by decide +kernel
theorem dX10_charter_24 : decode cX10_charter 24 = .ok (.iconst 2, 1) := by decide +kernel
theorem dX10_charter_25 : decode cX10_charter 25 = .ok (.goto 4, 3) := by decide +kernel
theorem dX10_charter_28 : decode cX10_charter 28 = .ok (.iconst 0, 1) := by decide +kernel
theorem dX10_charter_29 : decode cX10_charter 29 = .ok (.invokevirtual 150, 3) := by decide +kernel
theorem dX10_charter_32 : decode cX10_charter 32 = .ok (.ifCond .eq 5, 3) := by decide +kernel
theorem dX10_charter_35 : decode cX10_charter 35 = .ok (.iconst 0, 1) := by decide +kernel
theorem dX10_charter_36 : decode cX10_charter 36 = .ok (.ireturn, 1) := by decide +kernel
theorem dX10_charter_37 : decode cX10_charter 37 = .ok (.iload_n 2, 1) := by decide +kernel
theorem dX10_charter_38 : decode cX10_charter 38 = .ok (.ifCond .ne 14, 3) := by decide +kernel
theorem dX10_charter_41 : decode cX10_charter 41 = .ok (.aload_n 0, 1) := by decide +kernel
theorem dX10_charter_42 : decode cX10_charter 42 = .ok (.getfield 7, 3) := by decide +kernel
theorem dX10_charter_45 : decode cX10_charter 45 = .ok (.iload_n 1, 1) := by decide +kernel
theorem dX10_charter_46 : decode cX10_charter 46 = .ok (.invokestatic 139, 3) := by decide +kernel
theorem dX10_charter_49 : decode cX10_charter 49 = .ok (.goto 29, 3) := by decide +kernel
theorem dX10_charter_52 : decode cX10_charter 52 = .ok (.iload_n 2, 1) := by decide +kernel
theorem dX10_charter_53 : decode cX10_charter 53 = .ok (.iconst 4, 1) := by decide +kernel
theorem dX10_charter_54 : decode cX10_charter 54 = .ok (.if_icmp .ne 11, 3) := by decide +kernel
theorem dX10_charter_57 : decode cX10_charter 57 = .ok (.aload_n 0, 1) := by decide +kernel
theorem dX10_charter_58 : decode cX10_charter 58 = .ok (.iload_n 1, 1) := by decide +kernel
theorem dX10_charter_59 : decode cX10_charter 59 = .ok (.invokevirtual 246, 3) := by decide +kernel
theorem dX10_charter_62 : decode cX10_charter 62 = .ok (.goto 16, 3) := by decide +kernel
theorem dX10_charter_65 : decode cX10_charter 65 = .ok (.aload_n 0, 1) := by decide +kernel
theorem dX10_charter_66 : decode cX10_charter 66 = .ok (.aload_n 0, 1) := by decide +kernel
theorem dX10_charter_67 : decode cX10_charter 67 = .ok (.getfield 7, 3) := by decide +kernel
theorem dX10_charter_70 : decode cX10_charter 70 = .ok (.iload_n 1, 1) := by decide +kernel
theorem dX10_charter_71 : decode cX10_charter 71 = .ok (.iconst (-1), 1) := by decide +kernel
theorem dX10_charter_72 : decode cX10_charter 72 = .ok (.iload_n 2, 1) := by decide +kernel
theorem dX10_charter_73 : decode cX10_charter 73 = .ok (.iconst 1, 1) := by decide +kernel
theorem dX10_charter_74 : decode cX10_charter 74 = .ok (.isub, 1) := by decide +kernel
theorem dX10_charter_75 : decode cX10_charter 75 = .ok (.invokevirtual 103, 3) := by decide +kernel
theorem dX10_charter_78 : decode cX10_charter 78 = .ok (.ireturn, 1) := by decide +kernel
set_option maxRecDepth 20000 in
theorem ggX10_onShelf_X10_isShelf : GoodIn wsX10_onShelf wsX10_isShelf := goodIn_r _ [5, 6, 7, 8, 4, 9] (by decide +kernel) (by decide +kernel)
set_option maxRecDepth 20000 in
theorem gX10_onShelf_X10_isShelf : GoodIn wsX10_onShelf (va_wsS RX10 284 yX10_isShelf wsX10_isShelf) := goodIn_app (goodIn_of _ (by decide +kernel)) ggX10_onShelf_X10_isShelf
set_option maxRecDepth 20000 in
theorem ggX10_onShelf_X10_refused : GoodIn wsX10_onShelf wsX10_refused := goodIn_r _ [13, 14, 15, 16, 17, 18, 19, 20, 21, 22, 23, 24, 25, 26, 27, 28, 29, 30, 31, 32] (by decide +kernel) (by decide +kernel)
set_option maxRecDepth 20000 in
theorem gX10_onShelf_X10_refused : GoodIn wsX10_onShelf (wsV RX10 150 RX10 yX10_refused wsX10_refused) := goodIn_app (goodIn_of _ (by decide +kernel)) ggX10_onShelf_X10_refused
theorem dX10_onShelf_0 : decode cX10_onShelf 0 = .ok (.aload_n 0, 1) := by decide +kernel
theorem dX10_onShelf_1 : decode cX10_onShelf 1 = .ok (.iload_n 1, 1) := by decide +kernel
theorem dX10_onShelf_2 : decode cX10_onShelf 2 = .ok (.invokestatic 284, 3) := by decide +kernel
theorem dX10_onShelf_5 : decode cX10_onShelf 5 = .ok (.ifCond .ne 7, 3) := by decide +kernel
theorem dX10_onShelf_8 : decode cX10_onShelf 8 = .ok (.iconst 1, 1) := by decide +kernel
theorem dX10_onShelf_9 : decode cX10_onShelf 9 = .ok (.goto 12, 3) := by decide +kernel
theorem dX10_onShelf_12 : decode cX10_onShelf 12 = .ok (.iload_n 2, 1) := by decide +kernel
theorem dX10_onShelf_13 : decode cX10_onShelf 13 = .ok (.ifCond .ge 7, 3) := by decide +kernel
theorem dX10_onShelf_16 : decode cX10_onShelf 16 = .ok (.iconst 2, 1) := by decide +kernel
theorem dX10_onShelf_17 : decode cX10_onShelf 17 = .ok (.goto 4, 3) := by decide +kernel
theorem dX10_onShelf_20 : decode cX10_onShelf 20 = .ok (.iconst 0, 1) := by decide +kernel
theorem dX10_onShelf_21 : decode cX10_onShelf 21 = .ok (.invokevirtual 150, 3) := by decide +kernel
theorem dX10_onShelf_24 : decode cX10_onShelf 24 = .ok (.ifCond .eq 5, 3) := by decide +kernel
theorem dX10_onShelf_27 : decode cX10_onShelf 27 = .ok (.iconst 0, 1) := by decide +kernel
theorem dX10_onShelf_28 : decode cX10_onShelf 28 = .ok (.ireturn, 1) := by decide +kernel
theorem dX10_onShelf_29 : decode cX10_onShelf 29 = .ok (.iload_n 2, 1) := by decide +kernel
theorem dX10_onShelf_30 : decode cX10_onShelf 30 = .ok (.aload_n 0, 1) := by decide +kernel
theorem dX10_onShelf_31 : decode cX10_onShelf 31 = .ok (.getfield 7, 3) := by decide +kernel
theorem dX10_onShelf_34 : decode cX10_onShelf 34 = .ok (.sipush 249, 3) := by decide +kernel
theorem dX10_onShelf_37 : decode cX10_onShelf 37 = .ok (.iload_n 1, 1) := by decide +kernel
theorem dX10_onShelf_38 : decode cX10_onShelf 38 = .ok (.iadd, 1) := by decide +kernel
theorem dX10_onShelf_39 : decode cX10_onShelf 39 = .ok (.iaload, 1) := by decide +kernel
theorem dX10_onShelf_40 : decode cX10_onShelf 40 = .ok (.if_icmp .ge 21, 3) := by decide +kernel
theorem dX10_onShelf_43 : decode cX10_onShelf 43 = .ok (.aload_n 0, 1) := by decide +kernel
theorem dX10_onShelf_44 : decode cX10_onShelf 44 = .ok (.getfield 7, 3) := by decide +kernel
theorem dX10_onShelf_47 : decode cX10_onShelf 47 = .ok (.sipush 255, 3) := by decide +kernel
theorem dX10_onShelf_50 : decode cX10_onShelf 50 = .ok (.bipush 6, 2) := by decide +kernel
theorem dX10_onShelf_52 : decode cX10_onShelf 52 = .ok (.iload_n 1, 1) := by decide +kernel
theorem dX10_onShelf_53 : decode cX10_onShelf 53 = .ok (.imul, 1) := by decide +kernel
theorem dX10_onShelf_54 : decode cX10_onShelf 54 = .ok (.iadd, 1) := by decide +kernel
theorem dX10_onShelf_55 : decode cX10_onShelf 55 = .ok (.iload_n 2, 1) := by decide +kernel
theorem dX10_onShelf_56 : decode cX10_onShelf 56 = .ok (.iadd, 1) := by decide +kernel
theorem dX10_onShelf_57 : decode cX10_onShelf 57 = .ok (.iaload, 1) := by decide +kernel
theorem dX10_onShelf_58 : decode cX10_onShelf 58 = .ok (.goto 4, 3) := by decide +kernel
theorem dX10_onShelf_61 : decode cX10_onShelf 61 = .ok (.iconst (-1), 1) := by decide +kernel
theorem dX10_onShelf_62 : decode cX10_onShelf 62 = .ok (.ireturn, 1) := by decide +kernel
set_option maxRecDepth 20000 in
theorem ggX10_reign_X10_isYear : GoodIn wsX10_reign wsX10_isYear := goodIn_r _ [6, 7, 8, 9, 10, 5, 11] (by decide +kernel) (by decide +kernel)
set_option maxRecDepth 20000 in
theorem gX10_reign_X10_isYear : GoodIn wsX10_reign (va_wsS RX10 129 yX10_isYear wsX10_isYear) := goodIn_app (goodIn_of _ (by decide +kernel)) ggX10_reign_X10_isYear
set_option maxRecDepth 20000 in
theorem ggX10_reign_X10_in : GoodIn wsX10_reign wsX10_in := goodIn_r _ [11] (by decide +kernel) (by decide +kernel)
set_option maxRecDepth 20000 in
theorem gX10_reign_X10_in : GoodIn wsX10_reign (va_wsS RX10 49 yX10_in wsX10_in) := goodIn_app (goodIn_of _ (by decide +kernel)) ggX10_reign_X10_in
set_option maxRecDepth 20000 in
theorem ggX10_reign_X10_canReign : GoodIn wsX10_reign wsX10_canReign := goodIn_r _ [14] (by decide +kernel) (by decide +kernel)
set_option maxRecDepth 20000 in
theorem gX10_reign_X10_canReign : GoodIn wsX10_reign (va_wsS RX10 181 yX10_canReign wsX10_canReign) := goodIn_app (goodIn_of _ (by decide +kernel)) ggX10_reign_X10_canReign
set_option maxRecDepth 20000 in
theorem ggX10_reign_X10_refused : GoodIn wsX10_reign wsX10_refused := goodIn_r _ [18, 19, 29, 30, 31, 32, 33, 34, 35, 36, 37, 38, 39, 40, 41, 42, 43, 44, 45, 46] (by decide +kernel) (by decide +kernel)
set_option maxRecDepth 20000 in
theorem gX10_reign_X10_refused : GoodIn wsX10_reign (wsV RX10 150 RX10 yX10_refused wsX10_refused) := goodIn_app (goodIn_of _ (by decide +kernel)) ggX10_reign_X10_refused
set_option maxRecDepth 20000 in
theorem ggX10_reign_X10_remember : GoodIn wsX10_reign wsX10_remember := goodIn_r _ [23, 24, 25, 2, 29, 30, 31, 32, 33, 34, 35, 36, 37, 38, 39, 40, 41, 42, 43, 44, 45, 46] (by decide +kernel) (by decide +kernel)
set_option maxRecDepth 20000 in
theorem gX10_reign_X10_remember : GoodIn wsX10_reign (wsV RX10 287 RX10 yX10_remember wsX10_remember) := goodIn_app (goodIn_of _ (by decide +kernel)) ggX10_reign_X10_remember
set_option maxRecDepth 20000 in
theorem ggX10_reign_X10_goReign : GoodIn wsX10_reign wsX10_goReign := goodIn_r _ [28] (by decide +kernel) (by decide +kernel)
set_option maxRecDepth 20000 in
theorem gX10_reign_X10_goReign : GoodIn wsX10_reign (va_wsS RX10 188 yX10_goReign wsX10_goReign) := goodIn_app (goodIn_of _ (by decide +kernel)) ggX10_reign_X10_goReign
theorem dX10_reign_0 : decode cX10_reign 0 = .ok (.aload_n 0, 1) := by decide +kernel
theorem dX10_reign_1 : decode cX10_reign 1 = .ok (.iload_n 1, 1) := by decide +kernel
theorem dX10_reign_2 : decode cX10_reign 2 = .ok (.invokestatic 129, 3) := by decide +kernel
theorem dX10_reign_5 : decode cX10_reign 5 = .ok (.ifCond .eq 15, 3) := by decide +kernel
theorem dX10_reign_8 : decode cX10_reign 8 = .ok (.iload_n 2, 1) := by decide +kernel
theorem dX10_reign_9 : decode cX10_reign 9 = .ok (.i2l, 1) := by decide +kernel
theorem dX10_reign_10 : decode cX10_reign 10 = .ok (.lconst 1, 1) := by decide +kernel
theorem dX10_reign_11 : decode cX10_reign 11 = .ok (.ldc2_w 145, 3) := by decide +kernel
theorem dX10_reign_14 : decode cX10_reign 14 = .ok (.invokestatic 49, 3) := by decide +kernel
theorem dX10_reign_17 : decode cX10_reign 17 = .ok (.ifCond .ne 7, 3) := by decide +kernel
theorem dX10_reign_20 : decode cX10_reign 20 = .ok (.iconst 1, 1) := by decide +kernel
theorem dX10_reign_21 : decode cX10_reign 21 = .ok (.goto 19, 3) := by decide +kernel
theorem dX10_reign_24 : decode cX10_reign 24 = .ok (.aload_n 0, 1) := by decide +kernel
theorem dX10_reign_25 : decode cX10_reign 25 = .ok (.getfield 7, 3) := by decide +kernel
theorem dX10_reign_28 : decode cX10_reign 28 = .ok (.iload_n 1, 1) := by decide +kernel
theorem dX10_reign_29 : decode cX10_reign 29 = .ok (.invokestatic 181, 3) := by decide +kernel
theorem dX10_reign_32 : decode cX10_reign 32 = .ok (.ifCond .ne 7, 3) := by decide +kernel
theorem dX10_reign_35 : decode cX10_reign 35 = .ok (.iconst 2, 1) := by decide +kernel
theorem dX10_reign_36 : decode cX10_reign 36 = .ok (.goto 4, 3) := by decide +kernel
theorem dX10_reign_39 : decode cX10_reign 39 = .ok (.iconst 0, 1) := by decide +kernel
theorem dX10_reign_40 : decode cX10_reign 40 = .ok (.invokevirtual 150, 3) := by decide +kernel
theorem dX10_reign_43 : decode cX10_reign 43 = .ok (.ifCond .eq 5, 3) := by decide +kernel
theorem dX10_reign_46 : decode cX10_reign 46 = .ok (.iconst 0, 1) := by decide +kernel
theorem dX10_reign_47 : decode cX10_reign 47 = .ok (.ireturn, 1) := by decide +kernel
theorem dX10_reign_48 : decode cX10_reign 48 = .ok (.aload_n 0, 1) := by decide +kernel
theorem dX10_reign_49 : decode cX10_reign 49 = .ok (.invokevirtual 287, 3) := by decide +kernel
theorem dX10_reign_52 : decode cX10_reign 52 = .ok (.aload_n 0, 1) := by decide +kernel
theorem dX10_reign_53 : decode cX10_reign 53 = .ok (.getfield 7, 3) := by decide +kernel
theorem dX10_reign_56 : decode cX10_reign 56 = .ok (.iload_n 1, 1) := by decide +kernel
theorem dX10_reign_57 : decode cX10_reign 57 = .ok (.iload_n 2, 1) := by decide +kernel
theorem dX10_reign_58 : decode cX10_reign 58 = .ok (.invokestatic 188, 3) := by decide +kernel
theorem dX10_reign_61 : decode cX10_reign 61 = .ok (.ireturn, 1) := by decide +kernel
set_option maxRecDepth 20000 in
theorem ggX10_die_X10_in : GoodIn wsX10_die wsX10_in := goodIn_r _ [6] (by decide +kernel) (by decide +kernel)
set_option maxRecDepth 20000 in
theorem gX10_die_X10_in : GoodIn wsX10_die (va_wsS RX10 49 yX10_in wsX10_in) := goodIn_app (goodIn_of _ (by decide +kernel)) ggX10_die_X10_in
set_option maxRecDepth 20000 in
theorem ggX10_die_X10_areYears : GoodIn wsX10_die wsX10_areYears := goodIn_r _ [9, 10, 11, 12, 5, 13, 14, 3, 4, 6] (by decide +kernel) (by decide +kernel)
set_option maxRecDepth 20000 in
theorem gX10_die_X10_areYears : GoodIn wsX10_die (va_wsS RX10 290 yX10_areYears wsX10_areYears) := goodIn_app (goodIn_of _ (by decide +kernel)) ggX10_die_X10_areYears
set_option maxRecDepth 20000 in
theorem ggX10_die_X10_refused : GoodIn wsX10_die wsX10_refused := goodIn_r _ [18, 19, 29, 30, 31, 32, 33, 34, 35, 36, 37, 38, 39, 40, 41, 42, 43, 44, 45, 46] (by decide +kernel) (by decide +kernel)
set_option maxRecDepth 20000 in
theorem gX10_die_X10_refused : GoodIn wsX10_die (wsV RX10 150 RX10 yX10_refused wsX10_refused) := goodIn_app (goodIn_of _ (by decide +kernel)) ggX10_die_X10_refused
set_option maxRecDepth 20000 in
theorem ggX10_die_X10_remember : GoodIn wsX10_die wsX10_remember := goodIn_r _ [23, 24, 25, 2, 29, 30, 31, 32, 33, 34, 35, 36, 37, 38, 39, 40, 41, 42, 43, 44, 45, 46] (by decide +kernel) (by decide +kernel)
set_option maxRecDepth 20000 in
theorem gX10_die_X10_remember : GoodIn wsX10_die (wsV RX10 287 RX10 yX10_remember wsX10_remember) := goodIn_app (goodIn_of _ (by decide +kernel)) ggX10_die_X10_remember
set_option maxRecDepth 20000 in
theorem ggX10_die_X10_goDie : GoodIn wsX10_die wsX10_goDie := goodIn_r _ [28] (by decide +kernel) (by decide +kernel)
set_option maxRecDepth 20000 in
theorem gX10_die_X10_goDie : GoodIn wsX10_die (va_wsS RX10 194 yX10_goDie wsX10_goDie) := goodIn_app (goodIn_of _ (by decide +kernel)) ggX10_die_X10_goDie
theorem dX10_die_0 : decode cX10_die 0 = .ok (.aload_n 0, 1) := by decide +kernel
theorem dX10_die_1 : decode cX10_die 1 = .ok (.iload_n 1, 1) := by decide +kernel
theorem dX10_die_2 : decode cX10_die 2 = .ok (.i2l, 1) := by decide +kernel
theorem dX10_die_3 : decode cX10_die 3 = .ok (.lconst 0, 1) := by decide +kernel
theorem dX10_die_4 : decode cX10_die 4 = .ok (.ldc2_w 53, 3) := by decide +kernel
theorem dX10_die_7 : decode cX10_die 7 = .ok (.invokestatic 49, 3) := by decide +kernel
theorem dX10_die_10 : decode cX10_die 10 = .ok (.ifCond .eq 11, 3) := by decide +kernel
theorem dX10_die_13 : decode cX10_die 13 = .ok (.iload_n 2, 1) := by decide +kernel
theorem dX10_die_14 : decode cX10_die 14 = .ok (.iload_n 3, 1) := by decide +kernel
theorem dX10_die_15 : decode cX10_die 15 = .ok (.invokestatic 290, 3) := by decide +kernel
theorem dX10_die_18 : decode cX10_die 18 = .ok (.ifCond .ne 7, 3) := by decide +kernel
theorem dX10_die_21 : decode cX10_die 21 = .ok (.iconst 1, 1) := by decide +kernel
theorem dX10_die_22 : decode cX10_die 22 = .ok (.goto 19, 3) := by decide +kernel
theorem dX10_die_25 : decode cX10_die 25 = .ok (.aload_n 0, 1) := by decide +kernel
theorem dX10_die_26 : decode cX10_die 26 = .ok (.getfield 7, 3) := by decide +kernel
theorem dX10_die_29 : decode cX10_die 29 = .ok (.iconst 1, 1) := by decide +kernel
theorem dX10_die_30 : decode cX10_die 30 = .ok (.iaload, 1) := by decide +kernel
theorem dX10_die_31 : decode cX10_die 31 = .ok (.bipush 10, 2) := by decide +kernel
theorem dX10_die_33 : decode cX10_die 33 = .ok (.if_icmp .ne 7, 3) := by decide +kernel
theorem dX10_die_36 : decode cX10_die 36 = .ok (.iconst 2, 1) := by decide +kernel
theorem dX10_die_37 : decode cX10_die 37 = .ok (.goto 4, 3) := by decide +kernel
theorem dX10_die_40 : decode cX10_die 40 = .ok (.iconst 0, 1) := by decide +kernel
theorem dX10_die_41 : decode cX10_die 41 = .ok (.invokevirtual 150, 3) := by decide +kernel
theorem dX10_die_44 : decode cX10_die 44 = .ok (.ifCond .eq 5, 3) := by decide +kernel
theorem dX10_die_47 : decode cX10_die 47 = .ok (.iconst 0, 1) := by decide +kernel
theorem dX10_die_48 : decode cX10_die 48 = .ok (.ireturn, 1) := by decide +kernel
theorem dX10_die_49 : decode cX10_die 49 = .ok (.aload_n 0, 1) := by decide +kernel
theorem dX10_die_50 : decode cX10_die 50 = .ok (.invokevirtual 287, 3) := by decide +kernel
theorem dX10_die_53 : decode cX10_die 53 = .ok (.aload_n 0, 1) := by decide +kernel
theorem dX10_die_54 : decode cX10_die 54 = .ok (.getfield 7, 3) := by decide +kernel
theorem dX10_die_57 : decode cX10_die 57 = .ok (.iload_n 1, 1) := by decide +kernel
theorem dX10_die_58 : decode cX10_die 58 = .ok (.iload_n 2, 1) := by decide +kernel
theorem dX10_die_59 : decode cX10_die 59 = .ok (.iload_n 3, 1) := by decide +kernel
theorem dX10_die_60 : decode cX10_die 60 = .ok (.invokestatic 194, 3) := by decide +kernel
theorem dX10_die_63 : decode cX10_die 63 = .ok (.ireturn, 1) := by decide +kernel
set_option maxRecDepth 20000 in
theorem ggX10_crack_X10_hasDie : GoodIn wsX10_crack wsX10_hasDie := goodIn_r _ [5, 6, 7, 4, 8] (by decide +kernel) (by decide +kernel)
set_option maxRecDepth 20000 in
theorem gX10_crack_X10_hasDie : GoodIn wsX10_crack (va_wsS RX10 197 yX10_hasDie wsX10_hasDie) := goodIn_app (goodIn_of _ (by decide +kernel)) ggX10_crack_X10_hasDie
set_option maxRecDepth 20000 in
theorem ggX10_crack_X10_isYear : GoodIn wsX10_crack wsX10_isYear := goodIn_r _ [11, 12, 13, 6, 7, 4, 8] (by decide +kernel) (by decide +kernel)
set_option maxRecDepth 20000 in
theorem gX10_crack_X10_isYear : GoodIn wsX10_crack (va_wsS RX10 129 yX10_isYear wsX10_isYear) := goodIn_app (goodIn_of _ (by decide +kernel)) ggX10_crack_X10_isYear
set_option maxRecDepth 20000 in
theorem ggX10_crack_X10_canCrack : GoodIn wsX10_crack wsX10_canCrack := goodIn_r _ [16] (by decide +kernel) (by decide +kernel)
set_option maxRecDepth 20000 in
theorem gX10_crack_X10_canCrack : GoodIn wsX10_crack (va_wsS RX10 200 yX10_canCrack wsX10_canCrack) := goodIn_app (goodIn_of _ (by decide +kernel)) ggX10_crack_X10_canCrack
set_option maxRecDepth 20000 in
theorem ggX10_crack_X10_refused : GoodIn wsX10_crack wsX10_refused := goodIn_r _ [20, 21, 31, 32, 33, 34, 35, 36, 37, 38, 39, 40, 41, 42, 43, 44, 45, 46, 47, 48] (by decide +kernel) (by decide +kernel)
set_option maxRecDepth 20000 in
theorem gX10_crack_X10_refused : GoodIn wsX10_crack (wsV RX10 150 RX10 yX10_refused wsX10_refused) := goodIn_app (goodIn_of _ (by decide +kernel)) ggX10_crack_X10_refused
set_option maxRecDepth 20000 in
theorem ggX10_crack_X10_remember : GoodIn wsX10_crack wsX10_remember := goodIn_r _ [25, 26, 27, 1, 31, 32, 33, 34, 35, 36, 37, 38, 39, 40, 41, 42, 43, 44, 45, 46, 47, 48] (by decide +kernel) (by decide +kernel)
set_option maxRecDepth 20000 in
theorem gX10_crack_X10_remember : GoodIn wsX10_crack (wsV RX10 287 RX10 yX10_remember wsX10_remember) := goodIn_app (goodIn_of _ (by decide +kernel)) ggX10_crack_X10_remember
set_option maxRecDepth 20000 in
theorem ggX10_crack_X10_goCrack : GoodIn wsX10_crack wsX10_goCrack := goodIn_r _ [30] (by decide +kernel) (by decide +kernel)
set_option maxRecDepth 20000 in
theorem gX10_crack_X10_goCrack : GoodIn wsX10_crack (va_wsS RX10 204 yX10_goCrack wsX10_goCrack) := goodIn_app (goodIn_of _ (by decide +kernel)) ggX10_crack_X10_goCrack
theorem dX10_crack_0 : decode cX10_crack 0 = .ok (.aload_n 0, 1) := by decide +kernel
theorem dX10_crack_1 : decode cX10_crack 1 = .ok (.aload_n 0, 1) := by decide +kernel
theorem dX10_crack_2 : decode cX10_crack 2 = .ok (.getfield 7, 3) := by decide +kernel
theorem dX10_crack_5 : decode cX10_crack 5 = .ok (.iload_n 1, 1) := by decide +kernel
theorem dX10_crack_6 : decode cX10_crack 6 = .ok (.invokestatic 197, 3) := by decide +kernel
theorem dX10_crack_9 : decode cX10_crack 9 = .ok (.ifCond .ne 7, 3) := by decide +kernel
theorem dX10_crack_12 : decode cX10_crack 12 = .ok (.iconst 1, 1) := by decide +kernel
theorem dX10_crack_13 : decode cX10_crack 13 = .ok (.goto 31, 3) := by decide +kernel
theorem dX10_crack_16 : decode cX10_crack 16 = .ok (.iload_n 2, 1) := by decide +kernel
theorem dX10_crack_17 : decode cX10_crack 17 = .ok (.invokestatic 129, 3) := by decide +kernel
theorem dX10_crack_20 : decode cX10_crack 20 = .ok (.ifCond .ne 7, 3) := by decide +kernel
theorem dX10_crack_23 : decode cX10_crack 23 = .ok (.iconst 2, 1) := by decide +kernel
theorem dX10_crack_24 : decode cX10_crack 24 = .ok (.goto 20, 3) := by decide +kernel
theorem dX10_crack_27 : decode cX10_crack 27 = .ok (.aload_n 0, 1) := by decide +kernel
theorem dX10_crack_28 : decode cX10_crack 28 = .ok (.getfield 7, 3) := by decide +kernel
theorem dX10_crack_31 : decode cX10_crack 31 = .ok (.iload_n 1, 1) := by decide +kernel
theorem dX10_crack_32 : decode cX10_crack 32 = .ok (.iload_n 2, 1) := by decide +kernel
theorem dX10_crack_33 : decode cX10_crack 33 = .ok (.invokestatic 200, 3) := by decide +kernel
theorem dX10_crack_36 : decode cX10_crack 36 = .ok (.ifCond .ne 7, 3) := by decide +kernel
theorem dX10_crack_39 : decode cX10_crack 39 = .ok (.iconst 3, 1) := by decide +kernel
theorem dX10_crack_40 : decode cX10_crack 40 = .ok (.goto 4, 3) := by decide +kernel
theorem dX10_crack_43 : decode cX10_crack 43 = .ok (.iconst 0, 1) := by decide +kernel
theorem dX10_crack_44 : decode cX10_crack 44 = .ok (.invokevirtual 150, 3) := by decide +kernel
theorem dX10_crack_47 : decode cX10_crack 47 = .ok (.ifCond .eq 5, 3) := by decide +kernel
theorem dX10_crack_50 : decode cX10_crack 50 = .ok (.iconst 0, 1) := by decide +kernel
theorem dX10_crack_51 : decode cX10_crack 51 = .ok (.ireturn, 1) := by decide +kernel
theorem dX10_crack_52 : decode cX10_crack 52 = .ok (.aload_n 0, 1) := by decide +kernel
theorem dX10_crack_53 : decode cX10_crack 53 = .ok (.invokevirtual 287, 3) := by decide +kernel
theorem dX10_crack_56 : decode cX10_crack 56 = .ok (.aload_n 0, 1) := by decide +kernel
theorem dX10_crack_57 : decode cX10_crack 57 = .ok (.getfield 7, 3) := by decide +kernel
theorem dX10_crack_60 : decode cX10_crack 60 = .ok (.iload_n 1, 1) := by decide +kernel
theorem dX10_crack_61 : decode cX10_crack 61 = .ok (.iload_n 2, 1) := by decide +kernel
theorem dX10_crack_62 : decode cX10_crack 62 = .ok (.invokestatic 204, 3) := by decide +kernel
theorem dX10_crack_65 : decode cX10_crack 65 = .ok (.ireturn, 1) := by decide +kernel
set_option maxRecDepth 20000 in
theorem ggX10_seal_X10_hasDie : GoodIn wsX10_seal wsX10_hasDie := goodIn_r _ [5, 6, 7, 4, 8] (by decide +kernel) (by decide +kernel)
set_option maxRecDepth 20000 in
theorem gX10_seal_X10_hasDie : GoodIn wsX10_seal (va_wsS RX10 197 yX10_hasDie wsX10_hasDie) := goodIn_app (goodIn_of _ (by decide +kernel)) ggX10_seal_X10_hasDie
set_option maxRecDepth 20000 in
theorem ggX10_seal_X10_isKind : GoodIn wsX10_seal wsX10_isKind := goodIn_r _ [11, 12, 13, 14, 6, 7, 4, 8] (by decide +kernel) (by decide +kernel)
set_option maxRecDepth 20000 in
theorem gX10_seal_X10_isKind : GoodIn wsX10_seal (va_wsS RX10 293 yX10_isKind wsX10_isKind) := goodIn_app (goodIn_of _ (by decide +kernel)) ggX10_seal_X10_isKind
set_option maxRecDepth 20000 in
theorem ggX10_seal_X10_areCracks : GoodIn wsX10_seal wsX10_areCracks := goodIn_r _ [17, 6, 7, 4, 8] (by decide +kernel) (by decide +kernel)
set_option maxRecDepth 20000 in
theorem gX10_seal_X10_areCracks : GoodIn wsX10_seal (va_wsS RX10 207 yX10_areCracks wsX10_areCracks) := goodIn_app (goodIn_of _ (by decide +kernel)) ggX10_seal_X10_areCracks
set_option maxRecDepth 20000 in
theorem ggX10_seal_X10_refused : GoodIn wsX10_seal wsX10_refused := goodIn_r _ [21, 22, 32, 33, 34, 35, 36, 37, 38, 39, 40, 41, 42, 43, 44, 45, 46, 47, 48, 49] (by decide +kernel) (by decide +kernel)
set_option maxRecDepth 20000 in
theorem gX10_seal_X10_refused : GoodIn wsX10_seal (wsV RX10 150 RX10 yX10_refused wsX10_refused) := goodIn_app (goodIn_of _ (by decide +kernel)) ggX10_seal_X10_refused
set_option maxRecDepth 20000 in
theorem ggX10_seal_X10_remember : GoodIn wsX10_seal wsX10_remember := goodIn_r _ [26, 27, 28, 1, 32, 33, 34, 35, 36, 37, 38, 39, 40, 41, 42, 43, 44, 45, 46, 47, 48, 49] (by decide +kernel) (by decide +kernel)
set_option maxRecDepth 20000 in
theorem gX10_seal_X10_remember : GoodIn wsX10_seal (wsV RX10 287 RX10 yX10_remember wsX10_remember) := goodIn_app (goodIn_of _ (by decide +kernel)) ggX10_seal_X10_remember
set_option maxRecDepth 20000 in
theorem ggX10_seal_X10_goSeal : GoodIn wsX10_seal wsX10_goSeal := goodIn_r _ [31] (by decide +kernel) (by decide +kernel)
set_option maxRecDepth 20000 in
theorem gX10_seal_X10_goSeal : GoodIn wsX10_seal (va_wsS RX10 210 yX10_goSeal wsX10_goSeal) := goodIn_app (goodIn_of _ (by decide +kernel)) ggX10_seal_X10_goSeal
theorem dX10_seal_0 : decode cX10_seal 0 = .ok (.aload_n 0, 1) := by decide +kernel
theorem dX10_seal_1 : decode cX10_seal 1 = .ok (.aload_n 0, 1) := by decide +kernel
theorem dX10_seal_2 : decode cX10_seal 2 = .ok (.getfield 7, 3) := by decide +kernel
theorem dX10_seal_5 : decode cX10_seal 5 = .ok (.iload_n 1, 1) := by decide +kernel
theorem dX10_seal_6 : decode cX10_seal 6 = .ok (.invokestatic 197, 3) := by decide +kernel
theorem dX10_seal_9 : decode cX10_seal 9 = .ok (.ifCond .ne 7, 3) := by decide +kernel
theorem dX10_seal_12 : decode cX10_seal 12 = .ok (.iconst 1, 1) := by decide +kernel
theorem dX10_seal_13 : decode cX10_seal 13 = .ok (.goto 46, 3) := by decide +kernel
theorem dX10_seal_16 : decode cX10_seal 16 = .ok (.iload_n 2, 1) := by decide +kernel
theorem dX10_seal_17 : decode cX10_seal 17 = .ok (.iload_n 3, 1) := by decide +kernel
theorem dX10_seal_18 : decode cX10_seal 18 = .ok (.iload 4, 2) := by decide +kernel
theorem dX10_seal_20 : decode cX10_seal 20 = .ok (.invokestatic 293, 3) := by decide +kernel
theorem dX10_seal_23 : decode cX10_seal 23 = .ok (.ifCond .eq 16, 3) := by decide +kernel
theorem dX10_seal_26 : decode cX10_seal 26 = .ok (.aload_n 0, 1) := by decide +kernel
theorem dX10_seal_27 : decode cX10_seal 27 = .ok (.getfield 7, 3) := by decide +kernel
theorem dX10_seal_30 : decode cX10_seal 30 = .ok (.iload_n 1, 1) := by decide +kernel
theorem dX10_seal_31 : decode cX10_seal 31 = .ok (.iload 5, 2) := by decide +kernel
theorem dX10_seal_33 : decode cX10_seal 33 = .ok (.invokestatic 207, 3) := by decide +kernel
theorem dX10_seal_36 : decode cX10_seal 36 = .ok (.ifCond .ne 7, 3) := by decide +kernel
theorem dX10_seal_39 : decode cX10_seal 39 = .ok (.iconst 2, 1) := by decide +kernel
theorem dX10_seal_40 : decode cX10_seal 40 = .ok (.goto 19, 3) := by decide +kernel
theorem dX10_seal_43 : decode cX10_seal 43 = .ok (.aload_n 0, 1) := by decide +kernel
theorem dX10_seal_44 : decode cX10_seal 44 = .ok (.getfield 7, 3) := by decide +kernel
theorem dX10_seal_47 : decode cX10_seal 47 = .ok (.iconst 2, 1) := by decide +kernel
theorem dX10_seal_48 : decode cX10_seal 48 = .ok (.iaload, 1) := by decide +kernel
theorem dX10_seal_49 : decode cX10_seal 49 = .ok (.bipush 24, 2) := by decide +kernel
theorem dX10_seal_51 : decode cX10_seal 51 = .ok (.if_icmp .ne 7, 3) := by decide +kernel
theorem dX10_seal_54 : decode cX10_seal 54 = .ok (.iconst 3, 1) := by decide +kernel
theorem dX10_seal_55 : decode cX10_seal 55 = .ok (.goto 4, 3) := by decide +kernel
theorem dX10_seal_58 : decode cX10_seal 58 = .ok (.iconst 0, 1) := by decide +kernel
theorem dX10_seal_59 : decode cX10_seal 59 = .ok (.invokevirtual 150, 3) := by decide +kernel
theorem dX10_seal_62 : decode cX10_seal 62 = .ok (.ifCond .eq 5, 3) := by decide +kernel
theorem dX10_seal_65 : decode cX10_seal 65 = .ok (.iconst 0, 1) := by decide +kernel
theorem dX10_seal_66 : decode cX10_seal 66 = .ok (.ireturn, 1) := by decide +kernel
theorem dX10_seal_67 : decode cX10_seal 67 = .ok (.aload_n 0, 1) := by decide +kernel
theorem dX10_seal_68 : decode cX10_seal 68 = .ok (.invokevirtual 287, 3) := by decide +kernel
theorem dX10_seal_71 : decode cX10_seal 71 = .ok (.aload_n 0, 1) := by decide +kernel
theorem dX10_seal_72 : decode cX10_seal 72 = .ok (.getfield 7, 3) := by decide +kernel
theorem dX10_seal_75 : decode cX10_seal 75 = .ok (.iload_n 1, 1) := by decide +kernel
theorem dX10_seal_76 : decode cX10_seal 76 = .ok (.iload_n 2, 1) := by decide +kernel
theorem dX10_seal_77 : decode cX10_seal 77 = .ok (.iload_n 3, 1) := by decide +kernel
theorem dX10_seal_78 : decode cX10_seal 78 = .ok (.iload 4, 2) := by decide +kernel
theorem dX10_seal_80 : decode cX10_seal 80 = .ok (.iload 5, 2) := by decide +kernel
theorem dX10_seal_82 : decode cX10_seal 82 = .ok (.invokestatic 210, 3) := by decide +kernel
theorem dX10_seal_85 : decode cX10_seal 85 = .ok (.ireturn, 1) := by decide +kernel
set_option maxRecDepth 20000 in
theorem ggX10_show_X10_hasSeal : GoodIn wsX10_show wsX10_hasSeal := goodIn_r _ [5, 6, 7, 4, 8] (by decide +kernel) (by decide +kernel)
set_option maxRecDepth 20000 in
theorem gX10_show_X10_hasSeal : GoodIn wsX10_show (va_wsS RX10 214 yX10_hasSeal wsX10_hasSeal) := goodIn_app (goodIn_of _ (by decide +kernel)) ggX10_show_X10_hasSeal
set_option maxRecDepth 20000 in
theorem ggX10_show_X10_areCracks : GoodIn wsX10_show wsX10_areCracks := goodIn_r _ [11, 6, 7, 4, 8] (by decide +kernel) (by decide +kernel)
set_option maxRecDepth 20000 in
theorem gX10_show_X10_areCracks : GoodIn wsX10_show (va_wsS RX10 207 yX10_areCracks wsX10_areCracks) := goodIn_app (goodIn_of _ (by decide +kernel)) ggX10_show_X10_areCracks
set_option maxRecDepth 20000 in
theorem ggX10_show_X10_refused : GoodIn wsX10_show wsX10_refused := goodIn_r _ [15, 16, 26, 27, 28, 29, 30, 31, 32, 33, 34, 35, 36, 37, 38, 39, 40, 41, 42, 43] (by decide +kernel) (by decide +kernel)
set_option maxRecDepth 20000 in
theorem gX10_show_X10_refused : GoodIn wsX10_show (wsV RX10 150 RX10 yX10_refused wsX10_refused) := goodIn_app (goodIn_of _ (by decide +kernel)) ggX10_show_X10_refused
set_option maxRecDepth 20000 in
theorem ggX10_show_X10_remember : GoodIn wsX10_show wsX10_remember := goodIn_r _ [20, 21, 22, 1, 26, 27, 28, 29, 30, 31, 32, 33, 34, 35, 36, 37, 38, 39, 40, 41, 42, 43] (by decide +kernel) (by decide +kernel)
set_option maxRecDepth 20000 in
theorem gX10_show_X10_remember : GoodIn wsX10_show (wsV RX10 287 RX10 yX10_remember wsX10_remember) := goodIn_app (goodIn_of _ (by decide +kernel)) ggX10_show_X10_remember
set_option maxRecDepth 20000 in
theorem ggX10_show_X10_goShow : GoodIn wsX10_show wsX10_goShow := goodIn_r _ [25] (by decide +kernel) (by decide +kernel)
set_option maxRecDepth 20000 in
theorem gX10_show_X10_goShow : GoodIn wsX10_show (va_wsS RX10 297 yX10_goShow wsX10_goShow) := goodIn_app (goodIn_of _ (by decide +kernel)) ggX10_show_X10_goShow
theorem dX10_show_0 : decode cX10_show 0 = .ok (.aload_n 0, 1) := by decide +kernel
theorem dX10_show_1 : decode cX10_show 1 = .ok (.aload_n 0, 1) := by decide +kernel
theorem dX10_show_2 : decode cX10_show 2 = .ok (.getfield 7, 3) := by decide +kernel
theorem dX10_show_5 : decode cX10_show 5 = .ok (.iload_n 1, 1) := by decide +kernel
theorem dX10_show_6 : decode cX10_show 6 = .ok (.invokestatic 214, 3) := by decide +kernel
theorem dX10_show_9 : decode cX10_show 9 = .ok (.ifCond .ne 7, 3) := by decide +kernel
theorem dX10_show_12 : decode cX10_show 12 = .ok (.iconst 1, 1) := by decide +kernel
theorem dX10_show_13 : decode cX10_show 13 = .ok (.goto 28, 3) := by decide +kernel
theorem dX10_show_16 : decode cX10_show 16 = .ok (.aload_n 0, 1) := by decide +kernel
theorem dX10_show_17 : decode cX10_show 17 = .ok (.getfield 7, 3) := by decide +kernel
theorem dX10_show_20 : decode cX10_show 20 = .ok (.aload_n 0, 1) := by decide +kernel
theorem dX10_show_21 : decode cX10_show 21 = .ok (.getfield 7, 3) := by decide +kernel
theorem dX10_show_24 : decode cX10_show 24 = .ok (.bipush 105, 2) := by decide +kernel
theorem dX10_show_26 : decode cX10_show 26 = .ok (.iload_n 1, 1) := by decide +kernel
theorem dX10_show_27 : decode cX10_show 27 = .ok (.iadd, 1) := by decide +kernel
theorem dX10_show_28 : decode cX10_show 28 = .ok (.iaload, 1) := by decide +kernel
theorem dX10_show_29 : decode cX10_show 29 = .ok (.iload_n 2, 1) := by decide +kernel
theorem dX10_show_30 : decode cX10_show 30 = .ok (.invokestatic 207, 3) := by decide +kernel
theorem dX10_show_33 : decode cX10_show 33 = .ok (.ifCond .ne 7, 3) := by decide +kernel
theorem dX10_show_36 : decode cX10_show 36 = .ok (.iconst 2, 1) := by decide +kernel
theorem dX10_show_37 : decode cX10_show 37 = .ok (.goto 4, 3) := by decide +kernel
theorem dX10_show_40 : decode cX10_show 40 = .ok (.iconst 0, 1) := by decide +kernel
theorem dX10_show_41 : decode cX10_show 41 = .ok (.invokevirtual 150, 3) := by decide +kernel
theorem dX10_show_44 : decode cX10_show 44 = .ok (.ifCond .eq 5, 3) := by decide +kernel
theorem dX10_show_47 : decode cX10_show 47 = .ok (.iconst 0, 1) := by decide +kernel
theorem dX10_show_48 : decode cX10_show 48 = .ok (.ireturn, 1) := by decide +kernel
theorem dX10_show_49 : decode cX10_show 49 = .ok (.aload_n 0, 1) := by decide +kernel
theorem dX10_show_50 : decode cX10_show 50 = .ok (.invokevirtual 287, 3) := by decide +kernel
theorem dX10_show_53 : decode cX10_show 53 = .ok (.aload_n 0, 1) := by decide +kernel
theorem dX10_show_54 : decode cX10_show 54 = .ok (.getfield 7, 3) := by decide +kernel
theorem dX10_show_57 : decode cX10_show 57 = .ok (.iload_n 1, 1) := by decide +kernel
theorem dX10_show_58 : decode cX10_show 58 = .ok (.iload_n 2, 1) := by decide +kernel
theorem dX10_show_59 : decode cX10_show 59 = .ok (.invokestatic 297, 3) := by decide +kernel
theorem dX10_show_62 : decode cX10_show 62 = .ok (.ireturn, 1) := by decide +kernel
set_option maxRecDepth 20000 in
theorem ggX10_hang_X10_hasSeal : GoodIn wsX10_hang wsX10_hasSeal := goodIn_r _ [5, 6, 7, 4, 8] (by decide +kernel) (by decide +kernel)
set_option maxRecDepth 20000 in
theorem gX10_hang_X10_hasSeal : GoodIn wsX10_hang (va_wsS RX10 214 yX10_hasSeal wsX10_hasSeal) := goodIn_app (goodIn_of _ (by decide +kernel)) ggX10_hang_X10_hasSeal
set_option maxRecDepth 20000 in
theorem ggX10_hang_X10_isCharter : GoodIn wsX10_hang wsX10_isCharter := goodIn_r _ [11, 12, 6, 7, 4, 8] (by decide +kernel) (by decide +kernel)
set_option maxRecDepth 20000 in
theorem gX10_hang_X10_isCharter : GoodIn wsX10_hang (va_wsS RX10 279 yX10_isCharter wsX10_isCharter) := goodIn_app (goodIn_of _ (by decide +kernel)) ggX10_hang_X10_isCharter
set_option maxRecDepth 20000 in
theorem ggX10_hang_X10_refused : GoodIn wsX10_hang wsX10_refused := goodIn_r _ [16, 17, 30, 31, 32, 33, 34, 35, 36, 37, 38, 39, 40, 41, 42, 43, 44, 45, 46, 47] (by decide +kernel) (by decide +kernel)
set_option maxRecDepth 20000 in
theorem gX10_hang_X10_refused : GoodIn wsX10_hang (wsV RX10 150 RX10 yX10_refused wsX10_refused) := goodIn_app (goodIn_of _ (by decide +kernel)) ggX10_hang_X10_refused
set_option maxRecDepth 20000 in
theorem ggX10_hang_X10_remember : GoodIn wsX10_hang wsX10_remember := goodIn_r _ [21, 22, 23, 1, 30, 31, 32, 33, 34, 35, 36, 37, 38, 39, 40, 41, 42, 43, 44, 45, 46, 47] (by decide +kernel) (by decide +kernel)
set_option maxRecDepth 20000 in
theorem gX10_hang_X10_remember : GoodIn wsX10_hang (wsV RX10 287 RX10 yX10_remember wsX10_remember) := goodIn_app (goodIn_of _ (by decide +kernel)) ggX10_hang_X10_remember
set_option maxRecDepth 20000 in
theorem ggX10_hang_X10_goHang : GoodIn wsX10_hang wsX10_goHang := goodIn_r _ [26, 27, 28, 4, 29] (by decide +kernel) (by decide +kernel)
set_option maxRecDepth 20000 in
theorem gX10_hang_X10_goHang : GoodIn wsX10_hang (va_wsS RX10 217 yX10_goHang wsX10_goHang) := goodIn_app (goodIn_of _ (by decide +kernel)) ggX10_hang_X10_goHang
theorem dX10_hang_0 : decode cX10_hang 0 = .ok (.aload_n 0, 1) := by decide +kernel
theorem dX10_hang_1 : decode cX10_hang 1 = .ok (.aload_n 0, 1) := by decide +kernel
theorem dX10_hang_2 : decode cX10_hang 2 = .ok (.getfield 7, 3) := by decide +kernel
theorem dX10_hang_5 : decode cX10_hang 5 = .ok (.iload_n 1, 1) := by decide +kernel
theorem dX10_hang_6 : decode cX10_hang 6 = .ok (.invokestatic 214, 3) := by decide +kernel
theorem dX10_hang_9 : decode cX10_hang 9 = .ok (.ifCond .eq 14, 3) := by decide +kernel
theorem dX10_hang_12 : decode cX10_hang 12 = .ok (.iload_n 2, 1) := by decide +kernel
theorem dX10_hang_13 : decode cX10_hang 13 = .ok (.invokestatic 279, 3) := by decide +kernel
theorem dX10_hang_16 : decode cX10_hang 16 = .ok (.ifCond .eq 7, 3) := by decide +kernel
theorem dX10_hang_19 : decode cX10_hang 19 = .ok (.iconst 0, 1) := by decide +kernel
theorem dX10_hang_20 : decode cX10_hang 20 = .ok (.goto 4, 3) := by decide +kernel
theorem dX10_hang_23 : decode cX10_hang 23 = .ok (.iconst 1, 1) := by decide +kernel
theorem dX10_hang_24 : decode cX10_hang 24 = .ok (.invokevirtual 150, 3) := by decide +kernel
theorem dX10_hang_27 : decode cX10_hang 27 = .ok (.ifCond .eq 5, 3) := by decide +kernel
theorem dX10_hang_30 : decode cX10_hang 30 = .ok (.iconst 0, 1) := by decide +kernel
theorem dX10_hang_31 : decode cX10_hang 31 = .ok (.ireturn, 1) := by decide +kernel
theorem dX10_hang_32 : decode cX10_hang 32 = .ok (.aload_n 0, 1) := by decide +kernel
theorem dX10_hang_33 : decode cX10_hang 33 = .ok (.invokevirtual 287, 3) := by decide +kernel
theorem dX10_hang_36 : decode cX10_hang 36 = .ok (.aload_n 0, 1) := by decide +kernel
theorem dX10_hang_37 : decode cX10_hang 37 = .ok (.getfield 7, 3) := by decide +kernel
theorem dX10_hang_40 : decode cX10_hang 40 = .ok (.iload_n 1, 1) := by decide +kernel
theorem dX10_hang_41 : decode cX10_hang 41 = .ok (.iload_n 2, 1) := by decide +kernel
theorem dX10_hang_42 : decode cX10_hang 42 = .ok (.invokestatic 217, 3) := by decide +kernel
theorem dX10_hang_45 : decode cX10_hang 45 = .ok (.ireturn, 1) := by decide +kernel
set_option maxRecDepth 20000 in
theorem ggX10_cut_X10_hasSeal : GoodIn wsX10_cut wsX10_hasSeal := goodIn_r _ [5, 6, 7, 4, 8] (by decide +kernel) (by decide +kernel)
set_option maxRecDepth 20000 in
theorem gX10_cut_X10_hasSeal : GoodIn wsX10_cut (va_wsS RX10 214 yX10_hasSeal wsX10_hasSeal) := goodIn_app (goodIn_of _ (by decide +kernel)) ggX10_cut_X10_hasSeal
set_option maxRecDepth 20000 in
theorem ggX10_cut_X10_refused : GoodIn wsX10_cut wsX10_refused := goodIn_r _ [12, 13, 23, 24, 25, 26, 27, 28, 29, 30, 31, 32, 33, 34, 35, 36, 37, 38, 39, 40] (by decide +kernel) (by decide +kernel)
set_option maxRecDepth 20000 in
theorem gX10_cut_X10_refused : GoodIn wsX10_cut (wsV RX10 150 RX10 yX10_refused wsX10_refused) := goodIn_app (goodIn_of _ (by decide +kernel)) ggX10_cut_X10_refused
set_option maxRecDepth 20000 in
theorem ggX10_cut_X10_remember : GoodIn wsX10_cut wsX10_remember := goodIn_r _ [17, 18, 19, 1, 23, 24, 25, 26, 27, 28, 29, 30, 31, 32, 33, 34, 35, 36, 37, 38, 39, 40] (by decide +kernel) (by decide +kernel)
set_option maxRecDepth 20000 in
theorem gX10_cut_X10_remember : GoodIn wsX10_cut (wsV RX10 287 RX10 yX10_remember wsX10_remember) := goodIn_app (goodIn_of _ (by decide +kernel)) ggX10_cut_X10_remember
set_option maxRecDepth 20000 in
theorem ggX10_cut_X10_goCut : GoodIn wsX10_cut wsX10_goCut := goodIn_r _ [22] (by decide +kernel) (by decide +kernel)
set_option maxRecDepth 20000 in
theorem gX10_cut_X10_goCut : GoodIn wsX10_cut (va_wsS RX10 300 yX10_goCut wsX10_goCut) := goodIn_app (goodIn_of _ (by decide +kernel)) ggX10_cut_X10_goCut
theorem dX10_cut_0 : decode cX10_cut 0 = .ok (.aload_n 0, 1) := by decide +kernel
theorem dX10_cut_1 : decode cX10_cut 1 = .ok (.aload_n 0, 1) := by decide +kernel
theorem dX10_cut_2 : decode cX10_cut 2 = .ok (.getfield 7, 3) := by decide +kernel
theorem dX10_cut_5 : decode cX10_cut 5 = .ok (.iload_n 1, 1) := by decide +kernel
theorem dX10_cut_6 : decode cX10_cut 6 = .ok (.invokestatic 214, 3) := by decide +kernel
theorem dX10_cut_9 : decode cX10_cut 9 = .ok (.ifCond .ne 7, 3) := by decide +kernel
theorem dX10_cut_12 : decode cX10_cut 12 = .ok (.iconst 1, 1) := by decide +kernel
theorem dX10_cut_13 : decode cX10_cut 13 = .ok (.goto 22, 3) := by decide +kernel
theorem dX10_cut_16 : decode cX10_cut 16 = .ok (.aload_n 0, 1) := by decide +kernel
theorem dX10_cut_17 : decode cX10_cut 17 = .ok (.getfield 7, 3) := by decide +kernel
theorem dX10_cut_20 : decode cX10_cut 20 = .ok (.sipush 225, 3) := by decide +kernel
theorem dX10_cut_23 : decode cX10_cut 23 = .ok (.iload_n 1, 1) := by decide +kernel
theorem dX10_cut_24 : decode cX10_cut 24 = .ok (.iadd, 1) := by decide +kernel
theorem dX10_cut_25 : decode cX10_cut 25 = .ok (.iaload, 1) := by decide +kernel
theorem dX10_cut_26 : decode cX10_cut 26 = .ok (.iconst (-1), 1) := by decide +kernel
theorem dX10_cut_27 : decode cX10_cut 27 = .ok (.if_icmp .ne 7, 3) := by decide +kernel
theorem dX10_cut_30 : decode cX10_cut 30 = .ok (.iconst 2, 1) := by decide +kernel
theorem dX10_cut_31 : decode cX10_cut 31 = .ok (.goto 4, 3) := by decide +kernel
theorem dX10_cut_34 : decode cX10_cut 34 = .ok (.iconst 0, 1) := by decide +kernel
theorem dX10_cut_35 : decode cX10_cut 35 = .ok (.invokevirtual 150, 3) := by decide +kernel
theorem dX10_cut_38 : decode cX10_cut 38 = .ok (.ifCond .eq 5, 3) := by decide +kernel
theorem dX10_cut_41 : decode cX10_cut 41 = .ok (.iconst 0, 1) := by decide +kernel
theorem dX10_cut_42 : decode cX10_cut 42 = .ok (.ireturn, 1) := by decide +kernel
theorem dX10_cut_43 : decode cX10_cut 43 = .ok (.aload_n 0, 1) := by decide +kernel
theorem dX10_cut_44 : decode cX10_cut 44 = .ok (.invokevirtual 287, 3) := by decide +kernel
theorem dX10_cut_47 : decode cX10_cut 47 = .ok (.aload_n 0, 1) := by decide +kernel
theorem dX10_cut_48 : decode cX10_cut 48 = .ok (.getfield 7, 3) := by decide +kernel
theorem dX10_cut_51 : decode cX10_cut 51 = .ok (.iload_n 1, 1) := by decide +kernel
theorem dX10_cut_52 : decode cX10_cut 52 = .ok (.invokestatic 300, 3) := by decide +kernel
theorem dX10_cut_55 : decode cX10_cut 55 = .ok (.ireturn, 1) := by decide +kernel
set_option maxRecDepth 20000 in
theorem ggX10_shelve_X10_hasSeal : GoodIn wsX10_shelve wsX10_hasSeal := goodIn_r _ [5, 6, 7, 4, 8] (by decide +kernel) (by decide +kernel)
set_option maxRecDepth 20000 in
theorem gX10_shelve_X10_hasSeal : GoodIn wsX10_shelve (va_wsS RX10 214 yX10_hasSeal wsX10_hasSeal) := goodIn_app (goodIn_of _ (by decide +kernel)) ggX10_shelve_X10_hasSeal
set_option maxRecDepth 20000 in
theorem ggX10_shelve_X10_isShelf : GoodIn wsX10_shelve wsX10_isShelf := goodIn_r _ [11, 12, 6, 7, 4, 8] (by decide +kernel) (by decide +kernel)
set_option maxRecDepth 20000 in
theorem gX10_shelve_X10_isShelf : GoodIn wsX10_shelve (va_wsS RX10 284 yX10_isShelf wsX10_isShelf) := goodIn_app (goodIn_of _ (by decide +kernel)) ggX10_shelve_X10_isShelf
set_option maxRecDepth 20000 in
theorem ggX10_shelve_X10_others : GoodIn wsX10_shelve wsX10_others := goodIn_r _ [15, 16, 17, 4, 18, 19, 20, 21] (by decide +kernel) (by decide +kernel)
set_option maxRecDepth 20000 in
theorem gX10_shelve_X10_others : GoodIn wsX10_shelve (va_wsS RX10 116 yX10_others wsX10_others) := goodIn_app (goodIn_of _ (by decide +kernel)) ggX10_shelve_X10_others
set_option maxRecDepth 20000 in
theorem ggX10_shelve_X10_in : GoodIn wsX10_shelve wsX10_in := goodIn_r _ [8] (by decide +kernel) (by decide +kernel)
set_option maxRecDepth 20000 in
theorem gX10_shelve_X10_in : GoodIn wsX10_shelve (va_wsS RX10 49 yX10_in wsX10_in) := goodIn_app (goodIn_of _ (by decide +kernel)) ggX10_shelve_X10_in
set_option maxRecDepth 20000 in
theorem ggX10_shelve_X10_canShelve : GoodIn wsX10_shelve wsX10_canShelve := goodIn_r _ [24, 13, 14, 4, 15, 16, 17, 18, 19, 20, 21] (by decide +kernel) (by decide +kernel)
set_option maxRecDepth 20000 in
theorem gX10_shelve_X10_canShelve : GoodIn wsX10_shelve (va_wsS RX10 303 yX10_canShelve wsX10_canShelve) := goodIn_app (goodIn_of _ (by decide +kernel)) ggX10_shelve_X10_canShelve
set_option maxRecDepth 20000 in
theorem ggX10_shelve_X10_refused : GoodIn wsX10_shelve wsX10_refused := goodIn_r _ [28, 29, 42, 43, 44, 45, 46, 47, 48, 49, 50, 51, 52, 53, 54, 55, 56, 57, 58, 59] (by decide +kernel) (by decide +kernel)
set_option maxRecDepth 20000 in
theorem gX10_shelve_X10_refused : GoodIn wsX10_shelve (wsV RX10 150 RX10 yX10_refused wsX10_refused) := goodIn_app (goodIn_of _ (by decide +kernel)) ggX10_shelve_X10_refused
set_option maxRecDepth 20000 in
theorem ggX10_shelve_X10_remember : GoodIn wsX10_shelve wsX10_remember := goodIn_r _ [33, 34, 35, 1, 42, 43, 44, 45, 46, 47, 48, 49, 50, 51, 52, 53, 54, 55, 56, 57, 58, 59] (by decide +kernel) (by decide +kernel)
set_option maxRecDepth 20000 in
theorem gX10_shelve_X10_remember : GoodIn wsX10_shelve (wsV RX10 287 RX10 yX10_remember wsX10_remember) := goodIn_app (goodIn_of _ (by decide +kernel)) ggX10_shelve_X10_remember
set_option maxRecDepth 20000 in
theorem ggX10_shelve_X10_goShelve : GoodIn wsX10_shelve wsX10_goShelve := goodIn_r _ [38, 39, 40, 4, 41, 16, 17, 18, 19, 20, 21] (by decide +kernel) (by decide +kernel)
set_option maxRecDepth 20000 in
theorem gX10_shelve_X10_goShelve : GoodIn wsX10_shelve (va_wsS RX10 306 yX10_goShelve wsX10_goShelve) := goodIn_app (goodIn_of _ (by decide +kernel)) ggX10_shelve_X10_goShelve
theorem dX10_shelve_0 : decode cX10_shelve 0 = .ok (.aload_n 0, 1) := by decide +kernel
theorem dX10_shelve_1 : decode cX10_shelve 1 = .ok (.aload_n 0, 1) := by decide +kernel
theorem dX10_shelve_2 : decode cX10_shelve 2 = .ok (.getfield 7, 3) := by decide +kernel
theorem dX10_shelve_5 : decode cX10_shelve 5 = .ok (.iload_n 1, 1) := by decide +kernel
theorem dX10_shelve_6 : decode cX10_shelve 6 = .ok (.invokestatic 214, 3) := by decide +kernel
theorem dX10_shelve_9 : decode cX10_shelve 9 = .ok (.ifCond .eq 10, 3) := by decide +kernel
theorem dX10_shelve_12 : decode cX10_shelve 12 = .ok (.iload_n 2, 1) := by decide +kernel
theorem dX10_shelve_13 : decode cX10_shelve 13 = .ok (.invokestatic 284, 3) := by decide +kernel
theorem dX10_shelve_16 : decode cX10_shelve 16 = .ok (.ifCond .ne 7, 3) := by decide +kernel
theorem dX10_shelve_19 : decode cX10_shelve 19 = .ok (.iconst 1, 1) := by decide +kernel
theorem dX10_shelve_20 : decode cX10_shelve 20 = .ok (.goto 43, 3) := by decide +kernel
theorem dX10_shelve_23 : decode cX10_shelve 23 = .ok (.iload_n 3, 1) := by decide +kernel
theorem dX10_shelve_24 : decode cX10_shelve 24 = .ok (.i2l, 1) := by decide +kernel
theorem dX10_shelve_25 : decode cX10_shelve 25 = .ok (.lconst 0, 1) := by decide +kernel
theorem dX10_shelve_26 : decode cX10_shelve 26 = .ok (.aload_n 0, 1) := by decide +kernel
theorem dX10_shelve_27 : decode cX10_shelve 27 = .ok (.getfield 7, 3) := by decide +kernel
theorem dX10_shelve_30 : decode cX10_shelve 30 = .ok (.iload_n 1, 1) := by decide +kernel
theorem dX10_shelve_31 : decode cX10_shelve 31 = .ok (.iload_n 2, 1) := by decide +kernel
theorem dX10_shelve_32 : decode cX10_shelve 32 = .ok (.invokestatic 116, 3) := by decide +kernel
theorem dX10_shelve_35 : decode cX10_shelve 35 = .ok (.i2l, 1) := by decide +kernel
theorem dX10_shelve_36 : decode cX10_shelve 36 = .ok (.invokestatic 49, 3) := by decide +kernel
theorem dX10_shelve_39 : decode cX10_shelve 39 = .ok (.ifCond .ne 7, 3) := by decide +kernel
theorem dX10_shelve_42 : decode cX10_shelve 42 = .ok (.iconst 2, 1) := by decide +kernel
theorem dX10_shelve_43 : decode cX10_shelve 43 = .ok (.goto 20, 3) := by decide +kernel
theorem dX10_shelve_46 : decode cX10_shelve 46 = .ok (.aload_n 0, 1) := by decide +kernel
theorem dX10_shelve_47 : decode cX10_shelve 47 = .ok (.getfield 7, 3) := by decide +kernel
theorem dX10_shelve_50 : decode cX10_shelve 50 = .ok (.iload_n 1, 1) := by decide +kernel
theorem dX10_shelve_51 : decode cX10_shelve 51 = .ok (.iload_n 2, 1) := by decide +kernel
theorem dX10_shelve_52 : decode cX10_shelve 52 = .ok (.invokestatic 303, 3) := by decide +kernel
theorem dX10_shelve_55 : decode cX10_shelve 55 = .ok (.ifCond .ne 7, 3) := by decide +kernel
theorem dX10_shelve_58 : decode cX10_shelve 58 = .ok (.iconst 3, 1) := by decide +kernel
theorem dX10_shelve_59 : decode cX10_shelve 59 = .ok (.goto 4, 3) := by decide +kernel
theorem dX10_shelve_62 : decode cX10_shelve 62 = .ok (.iconst 0, 1) := by decide +kernel
theorem dX10_shelve_63 : decode cX10_shelve 63 = .ok (.invokevirtual 150, 3) := by decide +kernel
theorem dX10_shelve_66 : decode cX10_shelve 66 = .ok (.ifCond .eq 5, 3) := by decide +kernel
theorem dX10_shelve_69 : decode cX10_shelve 69 = .ok (.iconst 0, 1) := by decide +kernel
theorem dX10_shelve_70 : decode cX10_shelve 70 = .ok (.ireturn, 1) := by decide +kernel
theorem dX10_shelve_71 : decode cX10_shelve 71 = .ok (.aload_n 0, 1) := by decide +kernel
theorem dX10_shelve_72 : decode cX10_shelve 72 = .ok (.invokevirtual 287, 3) := by decide +kernel
theorem dX10_shelve_75 : decode cX10_shelve 75 = .ok (.aload_n 0, 1) := by decide +kernel
theorem dX10_shelve_76 : decode cX10_shelve 76 = .ok (.getfield 7, 3) := by decide +kernel
theorem dX10_shelve_79 : decode cX10_shelve 79 = .ok (.iload_n 1, 1) := by decide +kernel
theorem dX10_shelve_80 : decode cX10_shelve 80 = .ok (.iload_n 2, 1) := by decide +kernel
theorem dX10_shelve_81 : decode cX10_shelve 81 = .ok (.iload_n 3, 1) := by decide +kernel
theorem dX10_shelve_82 : decode cX10_shelve 82 = .ok (.invokestatic 306, 3) := by decide +kernel
theorem dX10_shelve_85 : decode cX10_shelve 85 = .ok (.ireturn, 1) := by decide +kernel
set_option maxRecDepth 20000 in
theorem ggX10_take_X10_hasSeal : GoodIn wsX10_take wsX10_hasSeal := goodIn_r _ [5, 6, 7, 4, 8] (by decide +kernel) (by decide +kernel)
set_option maxRecDepth 20000 in
theorem gX10_take_X10_hasSeal : GoodIn wsX10_take (va_wsS RX10 214 yX10_hasSeal wsX10_hasSeal) := goodIn_app (goodIn_of _ (by decide +kernel)) ggX10_take_X10_hasSeal
set_option maxRecDepth 20000 in
theorem ggX10_take_X10_shelfOf : GoodIn wsX10_take wsX10_shelfOf := goodIn_r _ [11, 12, 13, 4, 14] (by decide +kernel) (by decide +kernel)
set_option maxRecDepth 20000 in
theorem gX10_take_X10_shelfOf : GoodIn wsX10_take (va_wsS RX10 113 yX10_shelfOf wsX10_shelfOf) := goodIn_app (goodIn_of _ (by decide +kernel)) ggX10_take_X10_shelfOf
set_option maxRecDepth 20000 in
theorem ggX10_take_X10_refused : GoodIn wsX10_take wsX10_refused := goodIn_r _ [18, 19, 29, 30, 31, 32, 33, 34, 35, 36, 37, 38, 39, 40, 41, 42, 43, 44, 45, 46] (by decide +kernel) (by decide +kernel)
set_option maxRecDepth 20000 in
theorem gX10_take_X10_refused : GoodIn wsX10_take (wsV RX10 150 RX10 yX10_refused wsX10_refused) := goodIn_app (goodIn_of _ (by decide +kernel)) ggX10_take_X10_refused
set_option maxRecDepth 20000 in
theorem ggX10_take_X10_remember : GoodIn wsX10_take wsX10_remember := goodIn_r _ [23, 24, 25, 1, 29, 30, 31, 32, 33, 34, 35, 36, 37, 38, 39, 40, 41, 42, 43, 44, 45, 46] (by decide +kernel) (by decide +kernel)
set_option maxRecDepth 20000 in
theorem gX10_take_X10_remember : GoodIn wsX10_take (wsV RX10 287 RX10 yX10_remember wsX10_remember) := goodIn_app (goodIn_of _ (by decide +kernel)) ggX10_take_X10_remember
set_option maxRecDepth 20000 in
theorem ggX10_take_X10_goTake : GoodIn wsX10_take wsX10_goTake := goodIn_r _ [28, 9, 10, 4, 11, 12, 13, 14] (by decide +kernel) (by decide +kernel)
set_option maxRecDepth 20000 in
theorem gX10_take_X10_goTake : GoodIn wsX10_take (va_wsS RX10 119 yX10_goTake wsX10_goTake) := goodIn_app (goodIn_of _ (by decide +kernel)) ggX10_take_X10_goTake
theorem dX10_take_0 : decode cX10_take 0 = .ok (.aload_n 0, 1) := by decide +kernel
theorem dX10_take_1 : decode cX10_take 1 = .ok (.aload_n 0, 1) := by decide +kernel
theorem dX10_take_2 : decode cX10_take 2 = .ok (.getfield 7, 3) := by decide +kernel
theorem dX10_take_5 : decode cX10_take 5 = .ok (.iload_n 1, 1) := by decide +kernel
theorem dX10_take_6 : decode cX10_take 6 = .ok (.invokestatic 214, 3) := by decide +kernel
theorem dX10_take_9 : decode cX10_take 9 = .ok (.ifCond .ne 7, 3) := by decide +kernel
theorem dX10_take_12 : decode cX10_take 12 = .ok (.iconst 1, 1) := by decide +kernel
theorem dX10_take_13 : decode cX10_take 13 = .ok (.goto 20, 3) := by decide +kernel
theorem dX10_take_16 : decode cX10_take 16 = .ok (.aload_n 0, 1) := by decide +kernel
theorem dX10_take_17 : decode cX10_take 17 = .ok (.getfield 7, 3) := by decide +kernel
theorem dX10_take_20 : decode cX10_take 20 = .ok (.iload_n 1, 1) := by decide +kernel
theorem dX10_take_21 : decode cX10_take 21 = .ok (.invokestatic 113, 3) := by decide +kernel
theorem dX10_take_24 : decode cX10_take 24 = .ok (.iconst (-1), 1) := by decide +kernel
theorem dX10_take_25 : decode cX10_take 25 = .ok (.if_icmp .ne 7, 3) := by decide +kernel
theorem dX10_take_28 : decode cX10_take 28 = .ok (.iconst 2, 1) := by decide +kernel
theorem dX10_take_29 : decode cX10_take 29 = .ok (.goto 4, 3) := by decide +kernel
theorem dX10_take_32 : decode cX10_take 32 = .ok (.iconst 0, 1) := by decide +kernel
theorem dX10_take_33 : decode cX10_take 33 = .ok (.invokevirtual 150, 3) := by decide +kernel
theorem dX10_take_36 : decode cX10_take 36 = .ok (.ifCond .eq 5, 3) := by decide +kernel
theorem dX10_take_39 : decode cX10_take 39 = .ok (.iconst 0, 1) := by decide +kernel
theorem dX10_take_40 : decode cX10_take 40 = .ok (.ireturn, 1) := by decide +kernel
theorem dX10_take_41 : decode cX10_take 41 = .ok (.aload_n 0, 1) := by decide +kernel
theorem dX10_take_42 : decode cX10_take 42 = .ok (.invokevirtual 287, 3) := by decide +kernel
theorem dX10_take_45 : decode cX10_take 45 = .ok (.aload_n 0, 1) := by decide +kernel
theorem dX10_take_46 : decode cX10_take 46 = .ok (.getfield 7, 3) := by decide +kernel
theorem dX10_take_49 : decode cX10_take 49 = .ok (.iload_n 1, 1) := by decide +kernel
theorem dX10_take_50 : decode cX10_take 50 = .ok (.invokestatic 113, 3) := by decide +kernel
theorem dX10_take_53 : decode cX10_take 53 = .ok (.istore_n 2, 1) := by decide +kernel
theorem dX10_take_54 : decode cX10_take 54 = .ok (.aload_n 0, 1) := by decide +kernel
theorem dX10_take_55 : decode cX10_take 55 = .ok (.getfield 7, 3) := by decide +kernel
theorem dX10_take_58 : decode cX10_take 58 = .ok (.iload_n 1, 1) := by decide +kernel
theorem dX10_take_59 : decode cX10_take 59 = .ok (.invokestatic 119, 3) := by decide +kernel
theorem dX10_take_62 : decode cX10_take 62 = .ok (.iload_n 2, 1) := by decide +kernel
theorem dX10_take_63 : decode cX10_take 63 = .ok (.ireturn, 1) := by decide +kernel
set_option maxRecDepth 20000 in
theorem ggX10_sort_X10_isShelf : GoodIn wsX10_sort wsX10_isShelf := goodIn_r _ [5, 6, 7, 8, 4, 9] (by decide +kernel) (by decide +kernel)
set_option maxRecDepth 20000 in
theorem gX10_sort_X10_isShelf : GoodIn wsX10_sort (va_wsS RX10 284 yX10_isShelf wsX10_isShelf) := goodIn_app (goodIn_of _ (by decide +kernel)) ggX10_sort_X10_isShelf
set_option maxRecDepth 20000 in
theorem ggX10_sort_X10_refused : GoodIn wsX10_sort wsX10_refused := goodIn_r _ [13, 14, 73, 74, 75, 76, 77, 78, 79, 80, 81, 82, 83, 84, 85, 86, 87, 88, 89, 90] (by decide +kernel) (by decide +kernel)
set_option maxRecDepth 20000 in
theorem gX10_sort_X10_refused : GoodIn wsX10_sort (wsV RX10 150 RX10 yX10_refused wsX10_refused) := goodIn_app (goodIn_of _ (by decide +kernel)) ggX10_sort_X10_refused
set_option maxRecDepth 20000 in
theorem ggX10_sort_X10_remember : GoodIn wsX10_sort wsX10_remember := goodIn_r _ [18, 19, 20, 1, 73, 74, 75, 76, 77, 78, 79, 80, 81, 82, 83, 84, 85, 86, 87, 88, 89, 90] (by decide +kernel) (by decide +kernel)
set_option maxRecDepth 20000 in
theorem gX10_sort_X10_remember : GoodIn wsX10_sort (wsV RX10 287 RX10 yX10_remember wsX10_remember) := goodIn_app (goodIn_of _ (by decide +kernel)) ggX10_sort_X10_remember
set_option maxRecDepth 20000 in
theorem ggX10_sort_X10_goSort : GoodIn wsX10_sort wsX10_goSort := goodIn_r _ [24, 25, 26, 27, 28, 4, 29, 30, 31, 32, 33, 34, 35, 36, 37, 38, 39, 40, 41, 42, 43, 44, 45, 46, 47, 48, 49, 50, 51, 52, 53, 54, 55, 56, 57, 58, 59, 60, 61, 62, 63, 64, 65, 66, 67, 68, 69, 70, 71, 72, 73, 74, 75, 76, 77, 78, 79, 80, 81, 82, 83, 84, 85, 86, 87, 88, 89, 90] (by decide +kernel) (by decide +kernel)
set_option maxRecDepth 20000 in
theorem gX10_sort_X10_goSort : GoodIn wsX10_sort (wsV RX10 309 RX10 yX10_goSort wsX10_goSort) := goodIn_app (goodIn_of _ (by decide +kernel)) ggX10_sort_X10_goSort
theorem dX10_sort_0 : decode cX10_sort 0 = .ok (.aload_n 0, 1) := by decide +kernel
theorem dX10_sort_1 : decode cX10_sort 1 = .ok (.iload_n 1, 1) := by decide +kernel
theorem dX10_sort_2 : decode cX10_sort 2 = .ok (.invokestatic 284, 3) := by decide +kernel
theorem dX10_sort_5 : decode cX10_sort 5 = .ok (.ifCond .eq 7, 3) := by decide +kernel
theorem dX10_sort_8 : decode cX10_sort 8 = .ok (.iconst 0, 1) := by decide +kernel
theorem dX10_sort_9 : decode cX10_sort 9 = .ok (.goto 4, 3) := by decide +kernel
theorem dX10_sort_12 : decode cX10_sort 12 = .ok (.iconst 1, 1) := by decide +kernel
theorem dX10_sort_13 : decode cX10_sort 13 = .ok (.invokevirtual 150, 3) := by decide +kernel
theorem dX10_sort_16 : decode cX10_sort 16 = .ok (.ifCond .eq 5, 3) := by decide +kernel
theorem dX10_sort_19 : decode cX10_sort 19 = .ok (.iconst 0, 1) := by decide +kernel
theorem dX10_sort_20 : decode cX10_sort 20 = .ok (.ireturn, 1) := by decide +kernel
theorem dX10_sort_21 : decode cX10_sort 21 = .ok (.aload_n 0, 1) := by decide +kernel
theorem dX10_sort_22 : decode cX10_sort 22 = .ok (.invokevirtual 287, 3) := by decide +kernel
theorem dX10_sort_25 : decode cX10_sort 25 = .ok (.aload_n 0, 1) := by decide +kernel
theorem dX10_sort_26 : decode cX10_sort 26 = .ok (.aload_n 0, 1) := by decide +kernel
theorem dX10_sort_27 : decode cX10_sort 27 = .ok (.getfield 7, 3) := by decide +kernel
theorem dX10_sort_30 : decode cX10_sort 30 = .ok (.iload_n 1, 1) := by decide +kernel
theorem dX10_sort_31 : decode cX10_sort 31 = .ok (.invokevirtual 309, 3) := by decide +kernel
theorem dX10_sort_34 : decode cX10_sort 34 = .ok (.ireturn, 1) := by decide +kernel
set_option maxRecDepth 20000 in
theorem ggX10_set_X10_in : GoodIn wsX10_set wsX10_in := goodIn_r _ [6] (by decide +kernel) (by decide +kernel)
set_option maxRecDepth 20000 in
theorem gX10_set_X10_in : GoodIn wsX10_set (va_wsS RX10 49 yX10_in wsX10_in) := goodIn_app (goodIn_of _ (by decide +kernel)) ggX10_set_X10_in
set_option maxRecDepth 20000 in
theorem ggX10_set_X10_refused : GoodIn wsX10_set wsX10_refused := goodIn_r _ [10, 11, 21, 22, 23, 24, 25, 26, 27, 28, 29, 30, 31, 32, 33, 34, 35, 36, 37, 38] (by decide +kernel) (by decide +kernel)
set_option maxRecDepth 20000 in
theorem gX10_set_X10_refused : GoodIn wsX10_set (wsV RX10 150 RX10 yX10_refused wsX10_refused) := goodIn_app (goodIn_of _ (by decide +kernel)) ggX10_set_X10_refused
set_option maxRecDepth 20000 in
theorem ggX10_set_X10_remember : GoodIn wsX10_set wsX10_remember := goodIn_r _ [15, 16, 17, 2, 21, 22, 23, 24, 25, 26, 27, 28, 29, 30, 31, 32, 33, 34, 35, 36, 37, 38] (by decide +kernel) (by decide +kernel)
set_option maxRecDepth 20000 in
theorem gX10_set_X10_remember : GoodIn wsX10_set (wsV RX10 287 RX10 yX10_remember wsX10_remember) := goodIn_app (goodIn_of _ (by decide +kernel)) ggX10_set_X10_remember
set_option maxRecDepth 20000 in
theorem ggX10_set_X10_goSet : GoodIn wsX10_set wsX10_goSet := goodIn_r _ [20] (by decide +kernel) (by decide +kernel)
set_option maxRecDepth 20000 in
theorem gX10_set_X10_goSet : GoodIn wsX10_set (va_wsS RX10 312 yX10_goSet wsX10_goSet) := goodIn_app (goodIn_of _ (by decide +kernel)) ggX10_set_X10_goSet
theorem dX10_set_0 : decode cX10_set 0 = .ok (.aload_n 0, 1) := by decide +kernel
theorem dX10_set_1 : decode cX10_set 1 = .ok (.iload_n 1, 1) := by decide +kernel
theorem dX10_set_2 : decode cX10_set 2 = .ok (.i2l, 1) := by decide +kernel
theorem dX10_set_3 : decode cX10_set 3 = .ok (.lconst 0, 1) := by decide +kernel
theorem dX10_set_4 : decode cX10_set 4 = .ok (.lconst 1, 1) := by decide +kernel
theorem dX10_set_5 : decode cX10_set 5 = .ok (.invokestatic 49, 3) := by decide +kernel
theorem dX10_set_8 : decode cX10_set 8 = .ok (.ifCond .eq 19, 3) := by decide +kernel
theorem dX10_set_11 : decode cX10_set 11 = .ok (.iload_n 2, 1) := by decide +kernel
theorem dX10_set_12 : decode cX10_set 12 = .ok (.i2l, 1) := by decide +kernel
theorem dX10_set_13 : decode cX10_set 13 = .ok (.lconst 0, 1) := by decide +kernel
theorem dX10_set_14 : decode cX10_set 14 = .ok (.ldc2_w 137, 3) := by decide +kernel
theorem dX10_set_17 : decode cX10_set 17 = .ok (.invokestatic 49, 3) := by decide +kernel
theorem dX10_set_20 : decode cX10_set 20 = .ok (.ifCond .eq 7, 3) := by decide +kernel
theorem dX10_set_23 : decode cX10_set 23 = .ok (.iconst 0, 1) := by decide +kernel
theorem dX10_set_24 : decode cX10_set 24 = .ok (.goto 4, 3) := by decide +kernel
theorem dX10_set_27 : decode cX10_set 27 = .ok (.iconst 1, 1) := by decide +kernel
theorem dX10_set_28 : decode cX10_set 28 = .ok (.invokevirtual 150, 3) := by decide +kernel
theorem dX10_set_31 : decode cX10_set 31 = .ok (.ifCond .eq 5, 3) := by decide +kernel
theorem dX10_set_34 : decode cX10_set 34 = .ok (.iconst 0, 1) := by decide +kernel
theorem dX10_set_35 : decode cX10_set 35 = .ok (.ireturn, 1) := by decide +kernel
theorem dX10_set_36 : decode cX10_set 36 = .ok (.aload_n 0, 1) := by decide +kernel
theorem dX10_set_37 : decode cX10_set 37 = .ok (.invokevirtual 287, 3) := by decide +kernel
theorem dX10_set_40 : decode cX10_set 40 = .ok (.aload_n 0, 1) := by decide +kernel
theorem dX10_set_41 : decode cX10_set 41 = .ok (.getfield 7, 3) := by decide +kernel
theorem dX10_set_44 : decode cX10_set 44 = .ok (.iload_n 1, 1) := by decide +kernel
theorem dX10_set_45 : decode cX10_set 45 = .ok (.iload_n 2, 1) := by decide +kernel
theorem dX10_set_46 : decode cX10_set 46 = .ok (.invokestatic 312, 3) := by decide +kernel
theorem dX10_set_49 : decode cX10_set 49 = .ok (.ireturn, 1) := by decide +kernel
set_option maxRecDepth 20000 in
theorem ggX10_undo_X10_refused : GoodIn wsX10_undo wsX10_refused := goodIn_r _ [8, 9, 10, 11, 12, 13, 14, 15, 16, 17, 18, 19, 20, 21, 22, 23, 24, 25, 26, 27] (by decide +kernel) (by decide +kernel)
set_option maxRecDepth 20000 in
theorem gX10_undo_X10_refused : GoodIn wsX10_undo (wsV RX10 150 RX10 yX10_refused wsX10_refused) := goodIn_app (goodIn_of _ (by decide +kernel)) ggX10_undo_X10_refused
theorem dX10_undo_0 : decode cX10_undo 0 = .ok (.aload_n 0, 1) := by decide +kernel
theorem dX10_undo_1 : decode cX10_undo 1 = .ok (.aload_n 0, 1) := by decide +kernel
theorem dX10_undo_2 : decode cX10_undo 2 = .ok (.getfield 142, 3) := by decide +kernel
theorem dX10_undo_5 : decode cX10_undo 5 = .ok (.ifCond .ne 7, 3) := by decide +kernel
theorem dX10_undo_8 : decode cX10_undo 8 = .ok (.iconst 1, 1) := by decide +kernel
theorem dX10_undo_9 : decode cX10_undo 9 = .ok (.goto 4, 3) := by decide +kernel
theorem dX10_undo_12 : decode cX10_undo 12 = .ok (.iconst 0, 1) := by decide +kernel
theorem dX10_undo_13 : decode cX10_undo 13 = .ok (.invokevirtual 150, 3) := by decide +kernel
theorem dX10_undo_16 : decode cX10_undo 16 = .ok (.ifCond .eq 5, 3) := by decide +kernel
theorem dX10_undo_19 : decode cX10_undo 19 = .ok (.iconst 0, 1) := by decide +kernel
theorem dX10_undo_20 : decode cX10_undo 20 = .ok (.ireturn, 1) := by decide +kernel
theorem dX10_undo_21 : decode cX10_undo 21 = .ok (.aload_n 0, 1) := by decide +kernel
theorem dX10_undo_22 : decode cX10_undo 22 = .ok (.dup, 1) := by decide +kernel
theorem dX10_undo_23 : decode cX10_undo 23 = .ok (.getfield 142, 3) := by decide +kernel
theorem dX10_undo_26 : decode cX10_undo 26 = .ok (.iconst 1, 1) := by decide +kernel
theorem dX10_undo_27 : decode cX10_undo 27 = .ok (.isub, 1) := by decide +kernel
theorem dX10_undo_28 : decode cX10_undo 28 = .ok (.putfield 142, 3) := by decide +kernel
theorem dX10_undo_31 : decode cX10_undo 31 = .ok (.iconst 0, 1) := by decide +kernel
theorem dX10_undo_32 : decode cX10_undo 32 = .ok (.istore_n 1, 1) := by decide +kernel
theorem dX10_undo_33 : decode cX10_undo 33 = .ok (.iload_n 1, 1) := by decide +kernel
theorem dX10_undo_34 : decode cX10_undo 34 = .ok (.sipush 291, 3) := by decide +kernel
theorem dX10_undo_37 : decode cX10_undo 37 = .ok (.if_icmp .ge 30, 3) := by decide +kernel
theorem dX10_undo_40 : decode cX10_undo 40 = .ok (.aload_n 0, 1) := by decide +kernel
theorem dX10_undo_41 : decode cX10_undo 41 = .ok (.getfield 7, 3) := by decide +kernel
theorem dX10_undo_44 : decode cX10_undo 44 = .ok (.iload_n 1, 1) := by decide +kernel
theorem dX10_undo_45 : decode cX10_undo 45 = .ok (.aload_n 0, 1) := by decide +kernel
theorem dX10_undo_46 : decode cX10_undo 46 = .ok (.getfield 19, 3) := by decide +kernel
theorem dX10_undo_49 : decode cX10_undo 49 = .ok (.sipush 291, 3) := by decide +kernel
theorem dX10_undo_52 : decode cX10_undo 52 = .ok (.aload_n 0, 1) := by decide +kernel
theorem dX10_undo_53 : decode cX10_undo 53 = .ok (.getfield 142, 3) := by decide +kernel
theorem dX10_undo_56 : decode cX10_undo 56 = .ok (.imul, 1) := by decide +kernel
theorem dX10_undo_57 : decode cX10_undo 57 = .ok (.iload_n 1, 1) := by decide +kernel
theorem dX10_undo_58 : decode cX10_undo 58 = .ok (.iadd, 1) := by decide +kernel
theorem dX10_undo_59 : decode cX10_undo 59 = .ok (.iaload, 1) := by decide +kernel
theorem dX10_undo_60 : decode cX10_undo 60 = .ok (.iastore, 1) := by decide +kernel
theorem dX10_undo_61 : decode cX10_undo 61 = .ok (.iinc 1 1, 3) := by decide +kernel
theorem dX10_undo_64 : decode cX10_undo 64 = .ok (.goto (-31), 3) := by decide +kernel
theorem dX10_undo_67 : decode cX10_undo 67 = .ok (.aload_n 0, 1) := by decide +kernel
theorem dX10_undo_68 : decode cX10_undo 68 = .ok (.getfield 142, 3) := by decide +kernel
theorem dX10_undo_71 : decode cX10_undo 71 = .ok (.ireturn, 1) := by decide +kernel
set_option maxRecDepth 20000 in
theorem ggX10_older_X10_hasSeal : GoodIn wsX10_older wsX10_hasSeal := goodIn_r _ [5, 6, 7, 4, 8] (by decide +kernel) (by decide +kernel)
set_option maxRecDepth 20000 in
theorem gX10_older_X10_hasSeal : GoodIn wsX10_older (va_wsS RX10 214 yX10_hasSeal wsX10_hasSeal) := goodIn_app (goodIn_of _ (by decide +kernel)) ggX10_older_X10_hasSeal
set_option maxRecDepth 20000 in
theorem ggX10_older_X10_refused : GoodIn wsX10_older wsX10_refused := goodIn_r _ [12, 13, 35, 36, 37, 38, 39, 40, 41, 42, 43, 44, 45, 46, 47, 48, 49, 50, 51, 52] (by decide +kernel) (by decide +kernel)
set_option maxRecDepth 20000 in
theorem gX10_older_X10_refused : GoodIn wsX10_older (wsV RX10 150 RX10 yX10_refused wsX10_refused) := goodIn_app (goodIn_of _ (by decide +kernel)) ggX10_older_X10_refused
set_option maxRecDepth 20000 in
theorem ggX10_older_X10_yearsOf : GoodIn wsX10_older wsX10_yearsOf := goodIn_r _ [16, 17, 18, 4, 19, 20, 21, 22, 23, 24, 25, 26, 27, 28, 29, 30, 31, 32, 33, 34] (by decide +kernel) (by decide +kernel)
set_option maxRecDepth 20000 in
theorem gX10_older_X10_yearsOf : GoodIn wsX10_older (va_wsS RX10 80 yX10_yearsOf wsX10_yearsOf) := goodIn_app (goodIn_of _ (by decide +kernel)) ggX10_older_X10_yearsOf
theorem dX10_older_0 : decode cX10_older 0 = .ok (.aload_n 0, 1) := by decide +kernel
theorem dX10_older_1 : decode cX10_older 1 = .ok (.aload_n 0, 1) := by decide +kernel
theorem dX10_older_2 : decode cX10_older 2 = .ok (.getfield 7, 3) := by decide +kernel
theorem dX10_older_5 : decode cX10_older 5 = .ok (.iload_n 1, 1) := by decide +kernel
theorem dX10_older_6 : decode cX10_older 6 = .ok (.invokestatic 214, 3) := by decide +kernel
theorem dX10_older_9 : decode cX10_older 9 = .ok (.ifCond .eq 18, 3) := by decide +kernel
theorem dX10_older_12 : decode cX10_older 12 = .ok (.aload_n 0, 1) := by decide +kernel
theorem dX10_older_13 : decode cX10_older 13 = .ok (.getfield 7, 3) := by decide +kernel
theorem dX10_older_16 : decode cX10_older 16 = .ok (.iload_n 2, 1) := by decide +kernel
theorem dX10_older_17 : decode cX10_older 17 = .ok (.invokestatic 214, 3) := by decide +kernel
theorem dX10_older_20 : decode cX10_older 20 = .ok (.ifCond .eq 7, 3) := by decide +kernel
theorem dX10_older_23 : decode cX10_older 23 = .ok (.iconst 0, 1) := by decide +kernel
theorem dX10_older_24 : decode cX10_older 24 = .ok (.goto 4, 3) := by decide +kernel
theorem dX10_older_27 : decode cX10_older 27 = .ok (.iconst 1, 1) := by decide +kernel
theorem dX10_older_28 : decode cX10_older 28 = .ok (.invokevirtual 150, 3) := by decide +kernel
theorem dX10_older_31 : decode cX10_older 31 = .ok (.ifCond .eq 5, 3) := by decide +kernel
theorem dX10_older_34 : decode cX10_older 34 = .ok (.iconst 0, 1) := by decide +kernel
theorem dX10_older_35 : decode cX10_older 35 = .ok (.ireturn, 1) := by decide +kernel
theorem dX10_older_36 : decode cX10_older 36 = .ok (.aload_n 0, 1) := by decide +kernel
theorem dX10_older_37 : decode cX10_older 37 = .ok (.getfield 7, 3) := by decide +kernel
theorem dX10_older_40 : decode cX10_older 40 = .ok (.iload_n 1, 1) := by decide +kernel
theorem dX10_older_41 : decode cX10_older 41 = .ok (.iconst 2, 1) := by decide +kernel
theorem dX10_older_42 : decode cX10_older 42 = .ok (.invokestatic 80, 3) := by decide +kernel
theorem dX10_older_45 : decode cX10_older 45 = .ok (.ifCond .eq 15, 3) := by decide +kernel
theorem dX10_older_48 : decode cX10_older 48 = .ok (.aload_n 0, 1) := by decide +kernel
theorem dX10_older_49 : decode cX10_older 49 = .ok (.getfield 7, 3) := by decide +kernel
theorem dX10_older_52 : decode cX10_older 52 = .ok (.iload_n 2, 1) := by decide +kernel
theorem dX10_older_53 : decode cX10_older 53 = .ok (.iconst 2, 1) := by decide +kernel
theorem dX10_older_54 : decode cX10_older 54 = .ok (.invokestatic 80, 3) := by decide +kernel
theorem dX10_older_57 : decode cX10_older 57 = .ok (.ifCond .ne 5, 3) := by decide +kernel
theorem dX10_older_60 : decode cX10_older 60 = .ok (.iconst (-1), 1) := by decide +kernel
theorem dX10_older_61 : decode cX10_older 61 = .ok (.ireturn, 1) := by decide +kernel
theorem dX10_older_62 : decode cX10_older 62 = .ok (.aload_n 0, 1) := by decide +kernel
theorem dX10_older_63 : decode cX10_older 63 = .ok (.getfield 7, 3) := by decide +kernel
theorem dX10_older_66 : decode cX10_older 66 = .ok (.iload_n 1, 1) := by decide +kernel
theorem dX10_older_67 : decode cX10_older 67 = .ok (.iconst 1, 1) := by decide +kernel
theorem dX10_older_68 : decode cX10_older 68 = .ok (.invokestatic 80, 3) := by decide +kernel
theorem dX10_older_71 : decode cX10_older 71 = .ok (.aload_n 0, 1) := by decide +kernel
theorem dX10_older_72 : decode cX10_older 72 = .ok (.getfield 7, 3) := by decide +kernel
theorem dX10_older_75 : decode cX10_older 75 = .ok (.iload_n 2, 1) := by decide +kernel
theorem dX10_older_76 : decode cX10_older 76 = .ok (.iconst 0, 1) := by decide +kernel
theorem dX10_older_77 : decode cX10_older 77 = .ok (.invokestatic 80, 3) := by decide +kernel
theorem dX10_older_80 : decode cX10_older 80 = .ok (.if_icmp .ge 7, 3) := by decide +kernel
theorem dX10_older_83 : decode cX10_older 83 = .ok (.iload_n 1, 1) := by decide +kernel
theorem dX10_older_84 : decode cX10_older 84 = .ok (.goto 29, 3) := by decide +kernel
theorem dX10_older_87 : decode cX10_older 87 = .ok (.aload_n 0, 1) := by decide +kernel
theorem dX10_older_88 : decode cX10_older 88 = .ok (.getfield 7, 3) := by decide +kernel
theorem dX10_older_91 : decode cX10_older 91 = .ok (.iload_n 2, 1) := by decide +kernel
theorem dX10_older_92 : decode cX10_older 92 = .ok (.iconst 1, 1) := by decide +kernel
theorem dX10_older_93 : decode cX10_older 93 = .ok (.invokestatic 80, 3) := by decide +kernel
theorem dX10_older_96 : decode cX10_older 96 = .ok (.aload_n 0, 1) := by decide +kernel
theorem dX10_older_97 : decode cX10_older 97 = .ok (.getfield 7, 3) := by decide +kernel
theorem dX10_older_100 : decode cX10_older 100 = .ok (.iload_n 1, 1) := by decide +kernel
theorem dX10_older_101 : decode cX10_older 101 = .ok (.iconst 0, 1) := by decide +kernel
theorem dX10_older_102 : decode cX10_older 102 = .ok (.invokestatic 80, 3) := by decide +kernel
theorem dX10_older_105 : decode cX10_older 105 = .ok (.if_icmp .ge 7, 3) := by decide +kernel
theorem dX10_older_108 : decode cX10_older 108 = .ok (.iload_n 2, 1) := by decide +kernel
theorem dX10_older_109 : decode cX10_older 109 = .ok (.goto 4, 3) := by decide +kernel
theorem dX10_older_112 : decode cX10_older 112 = .ok (.iconst (-1), 1) := by decide +kernel
theorem dX10_older_113 : decode cX10_older 113 = .ok (.ireturn, 1) := by decide +kernel
set_option maxRecDepth 20000 in
theorem ggX10_decides_X10_isCharter : GoodIn wsX10_decides wsX10_isCharter := goodIn_r _ [5, 6, 7, 8, 4, 9] (by decide +kernel) (by decide +kernel)
set_option maxRecDepth 20000 in
theorem gX10_decides_X10_isCharter : GoodIn wsX10_decides (va_wsS RX10 279 yX10_isCharter wsX10_isCharter) := goodIn_app (goodIn_of _ (by decide +kernel)) ggX10_decides_X10_isCharter
set_option maxRecDepth 20000 in
theorem ggX10_decides_X10_refused : GoodIn wsX10_decides wsX10_refused := goodIn_r _ [13, 14, 54, 55, 56, 57, 58, 59, 60, 61, 62, 63, 64, 65, 66, 67, 68, 69, 70, 71] (by decide +kernel) (by decide +kernel)
set_option maxRecDepth 20000 in
theorem gX10_decides_X10_refused : GoodIn wsX10_decides (wsV RX10 150 RX10 yX10_refused wsX10_refused) := goodIn_app (goodIn_of _ (by decide +kernel)) ggX10_decides_X10_refused
set_option maxRecDepth 20000 in
theorem ggX10_decides_X10_alone : GoodIn wsX10_decides wsX10_alone := goodIn_r _ [17, 18, 19, 4, 20, 21, 22, 23, 24, 25, 26, 27, 28, 29, 30, 31, 32, 33, 34, 35, 36, 37, 38, 39, 40, 41] (by decide +kernel) (by decide +kernel)
set_option maxRecDepth 20000 in
theorem gX10_decides_X10_alone : GoodIn wsX10_decides (va_wsS RX10 96 yX10_alone wsX10_alone) := goodIn_app (goodIn_of _ (by decide +kernel)) ggX10_decides_X10_alone
set_option maxRecDepth 20000 in
theorem ggX10_decides_X10_ofCharter : GoodIn wsX10_decides wsX10_ofCharter := goodIn_r _ [45, 46, 47, 48, 49, 50, 51, 52, 4, 53, 15, 16, 17, 18, 19, 20, 21, 22, 23, 24, 25, 26, 27, 28, 29, 30, 31, 32, 33, 34, 35, 36, 37, 38, 39, 40, 41, 54, 55, 56, 57, 58, 59, 60, 61, 62, 63, 64, 65, 66, 67, 68, 69, 70, 71] (by decide +kernel) (by decide +kernel)
set_option maxRecDepth 20000 in
theorem gX10_decides_X10_ofCharter : GoodIn wsX10_decides (wsV RX10 103 RX10 yX10_ofCharter wsX10_ofCharter) := goodIn_app (goodIn_of _ (by decide +kernel)) ggX10_decides_X10_ofCharter
theorem dX10_decides_0 : decode cX10_decides 0 = .ok (.aload_n 0, 1) := by decide +kernel
theorem dX10_decides_1 : decode cX10_decides 1 = .ok (.iload_n 1, 1) := by decide +kernel
theorem dX10_decides_2 : decode cX10_decides 2 = .ok (.invokestatic 279, 3) := by decide +kernel
theorem dX10_decides_5 : decode cX10_decides 5 = .ok (.ifCond .eq 7, 3) := by decide +kernel
theorem dX10_decides_8 : decode cX10_decides 8 = .ok (.iconst 0, 1) := by decide +kernel
theorem dX10_decides_9 : decode cX10_decides 9 = .ok (.goto 4, 3) := by decide +kernel
theorem dX10_decides_12 : decode cX10_decides 12 = .ok (.iconst 1, 1) := by decide +kernel
theorem dX10_decides_13 : decode cX10_decides 13 = .ok (.invokevirtual 150, 3) := by decide +kernel
theorem dX10_decides_16 : decode cX10_decides 16 = .ok (.ifCond .eq 5, 3) := by decide +kernel
theorem dX10_decides_19 : decode cX10_decides 19 = .ok (.iconst 0, 1) := by decide +kernel
theorem dX10_decides_20 : decode cX10_decides 20 = .ok (.ireturn, 1) := by decide +kernel
theorem dX10_decides_21 : decode cX10_decides 21 = .ok (.iconst (-1), 1) := by decide +kernel
theorem dX10_decides_22 : decode cX10_decides 22 = .ok (.istore_n 2, 1) := by decide +kernel
theorem dX10_decides_23 : decode cX10_decides 23 = .ok (.iconst (-1), 1) := by decide +kernel
theorem dX10_decides_24 : decode cX10_decides 24 = .ok (.istore_n 3, 1) := by decide +kernel
theorem dX10_decides_25 : decode cX10_decides 25 = .ok (.iconst 0, 1) := by decide +kernel
theorem dX10_decides_26 : decode cX10_decides 26 = .ok (.istore 4, 2) := by decide +kernel
theorem dX10_decides_28 : decode cX10_decides 28 = .ok (.iload 4, 2) := by decide +kernel
theorem dX10_decides_30 : decode cX10_decides 30 = .ok (.aload_n 0, 1) := by decide +kernel
theorem dX10_decides_31 : decode cX10_decides 31 = .ok (.getfield 7, 3) := by decide +kernel
theorem dX10_decides_34 : decode cX10_decides 34 = .ok (.iconst 2, 1) := by decide +kernel
theorem dX10_decides_35 : decode cX10_decides 35 = .ok (.iaload, 1) := by decide +kernel
theorem dX10_decides_36 : decode cX10_decides 36 = .ok (.if_icmp .ge 76, 3) := by decide +kernel
theorem dX10_decides_39 : decode cX10_decides 39 = .ok (.aload_n 0, 1) := by decide +kernel
theorem dX10_decides_40 : decode cX10_decides 40 = .ok (.getfield 7, 3) := by decide +kernel
theorem dX10_decides_43 : decode cX10_decides 43 = .ok (.sipush 225, 3) := by decide +kernel
theorem dX10_decides_46 : decode cX10_decides 46 = .ok (.iload 4, 2) := by decide +kernel
theorem dX10_decides_48 : decode cX10_decides 48 = .ok (.iadd, 1) := by decide +kernel
theorem dX10_decides_49 : decode cX10_decides 49 = .ok (.iaload, 1) := by decide +kernel
theorem dX10_decides_50 : decode cX10_decides 50 = .ok (.iload_n 1, 1) := by decide +kernel
theorem dX10_decides_51 : decode cX10_decides 51 = .ok (.if_icmp .ne 55, 3) := by decide +kernel
theorem dX10_decides_54 : decode cX10_decides 54 = .ok (.aload_n 0, 1) := by decide +kernel
theorem dX10_decides_55 : decode cX10_decides 55 = .ok (.getfield 7, 3) := by decide +kernel
theorem dX10_decides_58 : decode cX10_decides 58 = .ok (.iload 4, 2) := by decide +kernel
theorem dX10_decides_60 : decode cX10_decides 60 = .ok (.invokestatic 96, 3) := by decide +kernel
theorem dX10_decides_63 : decode cX10_decides 63 = .ok (.ifCond .ne 43, 3) := by decide +kernel
theorem dX10_decides_66 : decode cX10_decides 66 = .ok (.aload_n 0, 1) := by decide +kernel
theorem dX10_decides_67 : decode cX10_decides 67 = .ok (.aload_n 0, 1) := by decide +kernel
theorem dX10_decides_68 : decode cX10_decides 68 = .ok (.getfield 7, 3) := by decide +kernel
theorem dX10_decides_71 : decode cX10_decides 71 = .ok (.iload_n 1, 1) := by decide +kernel
theorem dX10_decides_72 : decode cX10_decides 72 = .ok (.iload 4, 2) := by decide +kernel
theorem dX10_decides_74 : decode cX10_decides 74 = .ok (.iconst 2, 1) := by decide +kernel
theorem dX10_decides_75 : decode cX10_decides 75 = .ok (.invokevirtual 103, 3) := by decide +kernel
theorem dX10_decides_78 : decode cX10_decides 78 = .ok (.istore 5, 2) := by decide +kernel
theorem dX10_decides_80 : decode cX10_decides 80 = .ok (.iload 5, 2) := by decide +kernel
theorem dX10_decides_82 : decode cX10_decides 82 = .ok (.iload_n 3, 1) := by decide +kernel
theorem dX10_decides_83 : decode cX10_decides 83 = .ok (.if_icmp .le 8, 3) := by decide +kernel
theorem dX10_decides_86 : decode cX10_decides 86 = .ok (.iload 4, 2) := by decide +kernel
theorem dX10_decides_88 : decode cX10_decides 88 = .ok (.goto 4, 3) := by decide +kernel
theorem dX10_decides_91 : decode cX10_decides 91 = .ok (.iload_n 2, 1) := by decide +kernel
theorem dX10_decides_92 : decode cX10_decides 92 = .ok (.istore_n 2, 1) := by decide +kernel
theorem dX10_decides_93 : decode cX10_decides 93 = .ok (.iload 5, 2) := by decide +kernel
theorem dX10_decides_95 : decode cX10_decides 95 = .ok (.iload_n 3, 1) := by decide +kernel
theorem dX10_decides_96 : decode cX10_decides 96 = .ok (.if_icmp .le 8, 3) := by decide +kernel
theorem dX10_decides_99 : decode cX10_decides 99 = .ok (.iload 5, 2) := by decide +kernel
theorem dX10_decides_101 : decode cX10_decides 101 = .ok (.goto 4, 3) := by decide +kernel
theorem dX10_decides_104 : decode cX10_decides 104 = .ok (.iload_n 3, 1) := by decide +kernel
theorem dX10_decides_105 : decode cX10_decides 105 = .ok (.istore_n 3, 1) := by decide +kernel
theorem dX10_decides_106 : decode cX10_decides 106 = .ok (.iinc 4 1, 3) := by decide +kernel
theorem dX10_decides_109 : decode cX10_decides 109 = .ok (.goto (-81), 3) := by decide +kernel
theorem dX10_decides_112 : decode cX10_decides 112 = .ok (.iload_n 2, 1) := by decide +kernel
theorem dX10_decides_113 : decode cX10_decides 113 = .ok (.ireturn, 1) := by decide +kernel
set_option maxRecDepth 20000 in
theorem ggX10_ifCracked_X10_hasDie : GoodIn wsX10_ifCracked wsX10_hasDie := goodIn_r _ [6, 7, 8, 5, 9] (by decide +kernel) (by decide +kernel)
set_option maxRecDepth 20000 in
theorem gX10_ifCracked_X10_hasDie : GoodIn wsX10_ifCracked (va_wsS RX10 197 yX10_hasDie wsX10_hasDie) := goodIn_app (goodIn_of _ (by decide +kernel)) ggX10_ifCracked_X10_hasDie
set_option maxRecDepth 20000 in
theorem ggX10_ifCracked_X10_isYear : GoodIn wsX10_ifCracked wsX10_isYear := goodIn_r _ [12, 13, 14, 7, 8, 5, 9] (by decide +kernel) (by decide +kernel)
set_option maxRecDepth 20000 in
theorem gX10_ifCracked_X10_isYear : GoodIn wsX10_ifCracked (va_wsS RX10 129 yX10_isYear wsX10_isYear) := goodIn_app (goodIn_of _ (by decide +kernel)) ggX10_ifCracked_X10_isYear
set_option maxRecDepth 20000 in
theorem ggX10_ifCracked_X10_canCrack : GoodIn wsX10_ifCracked wsX10_canCrack := goodIn_r _ [17] (by decide +kernel) (by decide +kernel)
set_option maxRecDepth 20000 in
theorem gX10_ifCracked_X10_canCrack : GoodIn wsX10_ifCracked (va_wsS RX10 200 yX10_canCrack wsX10_canCrack) := goodIn_app (goodIn_of _ (by decide +kernel)) ggX10_ifCracked_X10_canCrack
set_option maxRecDepth 20000 in
theorem ggX10_ifCracked_X10_refused : GoodIn wsX10_ifCracked wsX10_refused := goodIn_r _ [21, 22, 76, 77, 78, 79, 80, 81, 82, 83, 84, 85, 86, 87, 88, 89, 90, 91, 92, 93] (by decide +kernel) (by decide +kernel)
set_option maxRecDepth 20000 in
theorem gX10_ifCracked_X10_refused : GoodIn wsX10_ifCracked (wsV RX10 150 RX10 yX10_refused wsX10_refused) := goodIn_app (goodIn_of _ (by decide +kernel)) ggX10_ifCracked_X10_refused
set_option maxRecDepth 20000 in
theorem ggX10_ifCracked_X10_copy : GoodIn wsX10_ifCracked wsX10_copy := goodIn_r _ [25] (by decide +kernel) (by decide +kernel)
set_option maxRecDepth 20000 in
theorem gX10_ifCracked_X10_copy : GoodIn wsX10_ifCracked (va_wsS RX10 242 yX10_copy wsX10_copy) := goodIn_app (goodIn_of _ (by decide +kernel)) ggX10_ifCracked_X10_copy
set_option maxRecDepth 20000 in
theorem ggX10_ifCracked_X10_goCrack : GoodIn wsX10_ifCracked wsX10_goCrack := goodIn_r _ [28] (by decide +kernel) (by decide +kernel)
set_option maxRecDepth 20000 in
theorem gX10_ifCracked_X10_goCrack : GoodIn wsX10_ifCracked (va_wsS RX10 204 yX10_goCrack wsX10_goCrack) := goodIn_app (goodIn_of _ (by decide +kernel)) ggX10_ifCracked_X10_goCrack
set_option maxRecDepth 20000 in
theorem ggX10_ifCracked_X10_fakes : GoodIn wsX10_ifCracked wsX10_fakes := goodIn_r _ [32, 33, 34, 35, 5, 36, 37, 38, 39, 40, 41, 42, 43, 44, 45, 46, 47, 48, 49, 50, 51, 52, 53, 54, 55, 56, 57, 58, 59, 60, 61, 62, 63, 64, 65, 66, 67, 68, 69, 70, 71, 72, 73, 74, 75, 76, 77, 78, 79, 80, 81, 82, 83, 84, 85, 86, 87, 88, 89, 90, 91, 92, 93] (by decide +kernel) (by decide +kernel)
set_option maxRecDepth 20000 in
theorem gX10_ifCracked_X10_fakes : GoodIn wsX10_ifCracked (wsV RX10 252 RX10 yX10_fakes wsX10_fakes) := goodIn_app (goodIn_of _ (by decide +kernel)) ggX10_ifCracked_X10_fakes
theorem dX10_ifCracked_0 : decode cX10_ifCracked 0 = .ok (.aload_n 0, 1) := by decide +kernel
theorem dX10_ifCracked_1 : decode cX10_ifCracked 1 = .ok (.aload_n 0, 1) := by decide +kernel
theorem dX10_ifCracked_2 : decode cX10_ifCracked 2 = .ok (.getfield 7, 3) := by decide +kernel
theorem dX10_ifCracked_5 : decode cX10_ifCracked 5 = .ok (.iload_n 1, 1) := by decide +kernel
theorem dX10_ifCracked_6 : decode cX10_ifCracked 6 = .ok (.invokestatic 197, 3) := by decide +kernel
theorem dX10_ifCracked_9 : decode cX10_ifCracked 9 = .ok (.ifCond .ne 7, 3) := by decide +kernel
theorem dX10_ifCracked_12 : decode cX10_ifCracked 12 = .ok (.iconst 1, 1) := by decide +kernel
theorem dX10_ifCracked_13 : decode cX10_ifCracked 13 = .ok (.goto 31, 3) := by decide +kernel
theorem dX10_ifCracked_16 : decode cX10_ifCracked 16 = .ok (.iload_n 2, 1) := by decide +kernel
theorem dX10_ifCracked_17 : decode cX10_ifCracked 17 = .ok (.invokestatic 129, 3) := by decide +kernel
theorem dX10_ifCracked_20 : decode cX10_ifCracked 20 = .ok (.ifCond .ne 7, 3) := by decide +kernel
theorem dX10_ifCracked_23 : decode cX10_ifCracked 23 = .ok (.iconst 2, 1) := by decide +kernel
theorem dX10_ifCracked_24 : decode cX10_ifCracked 24 = .ok (.goto 20, 3) := by decide +kernel
theorem dX10_ifCracked_27 : decode cX10_ifCracked 27 = .ok (.aload_n 0, 1) := by decide +kernel
theorem dX10_ifCracked_28 : decode cX10_ifCracked 28 = .ok (.getfield 7, 3) := by decide +kernel
theorem dX10_ifCracked_31 : decode cX10_ifCracked 31 = .ok (.iload_n 1, 1) := by decide +kernel
theorem dX10_ifCracked_32 : decode cX10_ifCracked 32 = .ok (.iload_n 2, 1) := by decide +kernel
theorem dX10_ifCracked_33 : decode cX10_ifCracked 33 = .ok (.invokestatic 200, 3) := by decide +kernel
theorem dX10_ifCracked_36 : decode cX10_ifCracked 36 = .ok (.ifCond .ne 7, 3) := by decide +kernel
theorem dX10_ifCracked_39 : decode cX10_ifCracked 39 = .ok (.iconst 3, 1) := by decide +kernel
theorem dX10_ifCracked_40 : decode cX10_ifCracked 40 = .ok (.goto 4, 3) := by decide +kernel
theorem dX10_ifCracked_43 : decode cX10_ifCracked 43 = .ok (.iconst 0, 1) := by decide +kernel
theorem dX10_ifCracked_44 : decode cX10_ifCracked 44 = .ok (.invokevirtual 150, 3) := by decide +kernel
theorem dX10_ifCracked_47 : decode cX10_ifCracked 47 = .ok (.ifCond .eq 5, 3) := by decide +kernel
theorem dX10_ifCracked_50 : decode cX10_ifCracked 50 = .ok (.iconst 0, 1) := by decide +kernel
theorem dX10_ifCracked_51 : decode cX10_ifCracked 51 = .ok (.ireturn, 1) := by decide +kernel
theorem dX10_ifCracked_52 : decode cX10_ifCracked 52 = .ok (.aload_n 0, 1) := by decide +kernel
theorem dX10_ifCracked_53 : decode cX10_ifCracked 53 = .ok (.getfield 7, 3) := by decide +kernel
theorem dX10_ifCracked_56 : decode cX10_ifCracked 56 = .ok (.aload_n 0, 1) := by decide +kernel
theorem dX10_ifCracked_57 : decode cX10_ifCracked 57 = .ok (.getfield 13, 3) := by decide +kernel
theorem dX10_ifCracked_60 : decode cX10_ifCracked 60 = .ok (.invokestatic 242, 3) := by decide +kernel
theorem dX10_ifCracked_63 : decode cX10_ifCracked 63 = .ok (.aload_n 0, 1) := by decide +kernel
theorem dX10_ifCracked_64 : decode cX10_ifCracked 64 = .ok (.getfield 13, 3) := by decide +kernel
theorem dX10_ifCracked_67 : decode cX10_ifCracked 67 = .ok (.iload_n 1, 1) := by decide +kernel
theorem dX10_ifCracked_68 : decode cX10_ifCracked 68 = .ok (.iload_n 2, 1) := by decide +kernel
theorem dX10_ifCracked_69 : decode cX10_ifCracked 69 = .ok (.invokestatic 204, 3) := by decide +kernel
theorem dX10_ifCracked_72 : decode cX10_ifCracked 72 = .ok (.pop, 1) := by decide +kernel
theorem dX10_ifCracked_73 : decode cX10_ifCracked 73 = .ok (.aload_n 0, 1) := by decide +kernel
theorem dX10_ifCracked_74 : decode cX10_ifCracked 74 = .ok (.aload_n 0, 1) := by decide +kernel
theorem dX10_ifCracked_75 : decode cX10_ifCracked 75 = .ok (.getfield 13, 3) := by decide +kernel
theorem dX10_ifCracked_78 : decode cX10_ifCracked 78 = .ok (.invokevirtual 252, 3) := by decide +kernel
theorem dX10_ifCracked_81 : decode cX10_ifCracked 81 = .ok (.aload_n 0, 1) := by decide +kernel
theorem dX10_ifCracked_82 : decode cX10_ifCracked 82 = .ok (.aload_n 0, 1) := by decide +kernel
theorem dX10_ifCracked_83 : decode cX10_ifCracked 83 = .ok (.getfield 7, 3) := by decide +kernel
theorem dX10_ifCracked_86 : decode cX10_ifCracked 86 = .ok (.invokevirtual 252, 3) := by decide +kernel
theorem dX10_ifCracked_89 : decode cX10_ifCracked 89 = .ok (.isub, 1) := by decide +kernel
theorem dX10_ifCracked_90 : decode cX10_ifCracked 90 = .ok (.ireturn, 1) := by decide +kernel
set_option maxRecDepth 20000 in
theorem ggX10_ifHung_X10_hasSeal : GoodIn wsX10_ifHung wsX10_hasSeal := goodIn_r _ [6, 7, 8, 5, 9] (by decide +kernel) (by decide +kernel)
set_option maxRecDepth 20000 in
theorem gX10_ifHung_X10_hasSeal : GoodIn wsX10_ifHung (va_wsS RX10 214 yX10_hasSeal wsX10_hasSeal) := goodIn_app (goodIn_of _ (by decide +kernel)) ggX10_ifHung_X10_hasSeal
set_option maxRecDepth 20000 in
theorem ggX10_ifHung_X10_isCharter : GoodIn wsX10_ifHung wsX10_isCharter := goodIn_r _ [12, 13, 7, 8, 5, 9] (by decide +kernel) (by decide +kernel)
set_option maxRecDepth 20000 in
theorem gX10_ifHung_X10_isCharter : GoodIn wsX10_ifHung (va_wsS RX10 279 yX10_isCharter wsX10_isCharter) := goodIn_app (goodIn_of _ (by decide +kernel)) ggX10_ifHung_X10_isCharter
set_option maxRecDepth 20000 in
theorem ggX10_ifHung_X10_refused : GoodIn wsX10_ifHung wsX10_refused := goodIn_r _ [17, 18, 67, 68, 69, 70, 71, 72, 73, 74, 75, 76, 77, 78, 79, 80, 81, 82, 83, 84] (by decide +kernel) (by decide +kernel)
set_option maxRecDepth 20000 in
theorem gX10_ifHung_X10_refused : GoodIn wsX10_ifHung (wsV RX10 150 RX10 yX10_refused wsX10_refused) := goodIn_app (goodIn_of _ (by decide +kernel)) ggX10_ifHung_X10_refused
set_option maxRecDepth 20000 in
theorem ggX10_ifHung_X10_copy : GoodIn wsX10_ifHung wsX10_copy := goodIn_r _ [21] (by decide +kernel) (by decide +kernel)
set_option maxRecDepth 20000 in
theorem gX10_ifHung_X10_copy : GoodIn wsX10_ifHung (va_wsS RX10 242 yX10_copy wsX10_copy) := goodIn_app (goodIn_of _ (by decide +kernel)) ggX10_ifHung_X10_copy
set_option maxRecDepth 20000 in
theorem ggX10_ifHung_X10_goHang : GoodIn wsX10_ifHung wsX10_goHang := goodIn_r _ [24, 25, 26, 5, 27] (by decide +kernel) (by decide +kernel)
set_option maxRecDepth 20000 in
theorem gX10_ifHung_X10_goHang : GoodIn wsX10_ifHung (va_wsS RX10 217 yX10_goHang wsX10_goHang) := goodIn_app (goodIn_of _ (by decide +kernel)) ggX10_ifHung_X10_goHang
set_option maxRecDepth 20000 in
theorem ggX10_ifHung_X10_ofCharter : GoodIn wsX10_ifHung wsX10_ofCharter := goodIn_r _ [31, 32, 33, 34, 35, 36, 37, 38, 5, 39, 40, 41, 42, 43, 44, 45, 46, 47, 48, 49, 50, 51, 52, 53, 54, 55, 56, 57, 58, 59, 60, 61, 62, 63, 64, 65, 66, 67, 68, 69, 70, 71, 72, 73, 74, 75, 76, 77, 78, 79, 80, 81, 82, 83, 84] (by decide +kernel) (by decide +kernel)
set_option maxRecDepth 20000 in
theorem gX10_ifHung_X10_ofCharter : GoodIn wsX10_ifHung (wsV RX10 103 RX10 yX10_ofCharter wsX10_ofCharter) := goodIn_app (goodIn_of _ (by decide +kernel)) ggX10_ifHung_X10_ofCharter
theorem dX10_ifHung_0 : decode cX10_ifHung 0 = .ok (.aload_n 0, 1) := by decide +kernel
theorem dX10_ifHung_1 : decode cX10_ifHung 1 = .ok (.aload_n 0, 1) := by decide +kernel
theorem dX10_ifHung_2 : decode cX10_ifHung 2 = .ok (.getfield 7, 3) := by decide +kernel
theorem dX10_ifHung_5 : decode cX10_ifHung 5 = .ok (.iload_n 1, 1) := by decide +kernel
theorem dX10_ifHung_6 : decode cX10_ifHung 6 = .ok (.invokestatic 214, 3) := by decide +kernel
theorem dX10_ifHung_9 : decode cX10_ifHung 9 = .ok (.ifCond .eq 14, 3) := by decide +kernel
theorem dX10_ifHung_12 : decode cX10_ifHung 12 = .ok (.iload_n 2, 1) := by decide +kernel
theorem dX10_ifHung_13 : decode cX10_ifHung 13 = .ok (.invokestatic 279, 3) := by decide +kernel
theorem dX10_ifHung_16 : decode cX10_ifHung 16 = .ok (.ifCond .eq 7, 3) := by decide +kernel
theorem dX10_ifHung_19 : decode cX10_ifHung 19 = .ok (.iconst 0, 1) := by decide +kernel
theorem dX10_ifHung_20 : decode cX10_ifHung 20 = .ok (.goto 4, 3) := by decide +kernel
theorem dX10_ifHung_23 : decode cX10_ifHung 23 = .ok (.iconst 1, 1) := by decide +kernel
theorem dX10_ifHung_24 : decode cX10_ifHung 24 = .ok (.invokevirtual 150, 3) := by decide +kernel
theorem dX10_ifHung_27 : decode cX10_ifHung 27 = .ok (.ifCond .eq 5, 3) := by decide +kernel
theorem dX10_ifHung_30 : decode cX10_ifHung 30 = .ok (.iconst 0, 1) := by decide +kernel
theorem dX10_ifHung_31 : decode cX10_ifHung 31 = .ok (.ireturn, 1) := by decide +kernel
theorem dX10_ifHung_32 : decode cX10_ifHung 32 = .ok (.aload_n 0, 1) := by decide +kernel
theorem dX10_ifHung_33 : decode cX10_ifHung 33 = .ok (.getfield 7, 3) := by decide +kernel
theorem dX10_ifHung_36 : decode cX10_ifHung 36 = .ok (.aload_n 0, 1) := by decide +kernel
theorem dX10_ifHung_37 : decode cX10_ifHung 37 = .ok (.getfield 13, 3) := by decide +kernel
theorem dX10_ifHung_40 : decode cX10_ifHung 40 = .ok (.invokestatic 242, 3) := by decide +kernel
theorem dX10_ifHung_43 : decode cX10_ifHung 43 = .ok (.aload_n 0, 1) := by decide +kernel
theorem dX10_ifHung_44 : decode cX10_ifHung 44 = .ok (.getfield 13, 3) := by decide +kernel
theorem dX10_ifHung_47 : decode cX10_ifHung 47 = .ok (.iload_n 1, 1) := by decide +kernel
theorem dX10_ifHung_48 : decode cX10_ifHung 48 = .ok (.iload_n 2, 1) := by decide +kernel
theorem dX10_ifHung_49 : decode cX10_ifHung 49 = .ok (.invokestatic 217, 3) := by decide +kernel
theorem dX10_ifHung_52 : decode cX10_ifHung 52 = .ok (.pop, 1) := by decide +kernel
theorem dX10_ifHung_53 : decode cX10_ifHung 53 = .ok (.aload_n 0, 1) := by decide +kernel
theorem dX10_ifHung_54 : decode cX10_ifHung 54 = .ok (.aload_n 0, 1) := by decide +kernel
theorem dX10_ifHung_55 : decode cX10_ifHung 55 = .ok (.getfield 13, 3) := by decide +kernel
theorem dX10_ifHung_58 : decode cX10_ifHung 58 = .ok (.iload_n 2, 1) := by decide +kernel
theorem dX10_ifHung_59 : decode cX10_ifHung 59 = .ok (.iconst (-1), 1) := by decide +kernel
theorem dX10_ifHung_60 : decode cX10_ifHung 60 = .ok (.iconst 2, 1) := by decide +kernel
theorem dX10_ifHung_61 : decode cX10_ifHung 61 = .ok (.invokevirtual 103, 3) := by decide +kernel
theorem dX10_ifHung_64 : decode cX10_ifHung 64 = .ok (.ireturn, 1) := by decide +kernel
set_option maxRecDepth 20000 in
theorem ggX10_inYear_X10_isYear : GoodIn wsX10_inYear wsX10_isYear := goodIn_r _ [5, 6, 7, 8, 9, 4, 10] (by decide +kernel) (by decide +kernel)
set_option maxRecDepth 20000 in
theorem gX10_inYear_X10_isYear : GoodIn wsX10_inYear (va_wsS RX10 129 yX10_isYear wsX10_isYear) := goodIn_app (goodIn_of _ (by decide +kernel)) ggX10_inYear_X10_isYear
set_option maxRecDepth 20000 in
theorem ggX10_inYear_X10_refused : GoodIn wsX10_inYear wsX10_refused := goodIn_r _ [14, 15, 63, 64, 65, 66, 67, 68, 69, 70, 71, 72, 73, 74, 75, 76, 77, 78, 79, 80] (by decide +kernel) (by decide +kernel)
set_option maxRecDepth 20000 in
theorem gX10_inYear_X10_refused : GoodIn wsX10_inYear (wsV RX10 150 RX10 yX10_refused wsX10_refused) := goodIn_app (goodIn_of _ (by decide +kernel)) ggX10_inYear_X10_refused
set_option maxRecDepth 20000 in
theorem ggX10_inYear_X10_fake : GoodIn wsX10_inYear wsX10_fake := goodIn_r _ [19, 20, 21, 4, 22, 23, 24, 25, 26, 27, 28, 29, 30, 31, 32, 33, 34, 35, 36, 37, 38, 39, 40, 41, 42, 43, 44, 45, 46, 47, 48, 49, 50, 51, 52, 53, 54, 55, 56, 57, 58, 63, 64, 65, 66, 67, 68, 69, 70, 71, 72, 73, 74, 75, 76, 77, 78, 79, 80] (by decide +kernel) (by decide +kernel)
set_option maxRecDepth 20000 in
theorem gX10_inYear_X10_fake : GoodIn wsX10_inYear (wsV RX10 107 RX10 yX10_fake wsX10_fake) := goodIn_app (goodIn_of _ (by decide +kernel)) ggX10_inYear_X10_fake
set_option maxRecDepth 20000 in
theorem ggX10_inYear_X10_can : GoodIn wsX10_inYear wsX10_can := goodIn_r _ [62, 1, 38, 39, 4, 40, 41, 42, 43, 44, 45, 46, 8, 9, 10, 26, 27, 28, 29, 30, 31, 32, 33, 34, 63, 64, 65, 66, 67, 68, 69, 70, 71, 72, 73, 74, 75, 76, 77, 78, 79, 80] (by decide +kernel) (by decide +kernel)
set_option maxRecDepth 20000 in
theorem gX10_inYear_X10_can : GoodIn wsX10_inYear (wsV RX10 276 RX10 yX10_can wsX10_can) := goodIn_app (goodIn_of _ (by decide +kernel)) ggX10_inYear_X10_can
theorem dX10_inYear_0 : decode cX10_inYear 0 = .ok (.aload_n 0, 1) := by decide +kernel
theorem dX10_inYear_1 : decode cX10_inYear 1 = .ok (.iload_n 1, 1) := by decide +kernel
theorem dX10_inYear_2 : decode cX10_inYear 2 = .ok (.invokestatic 129, 3) := by decide +kernel
theorem dX10_inYear_5 : decode cX10_inYear 5 = .ok (.ifCond .eq 7, 3) := by decide +kernel
theorem dX10_inYear_8 : decode cX10_inYear 8 = .ok (.iconst 0, 1) := by decide +kernel
theorem dX10_inYear_9 : decode cX10_inYear 9 = .ok (.goto 4, 3) := by decide +kernel
theorem dX10_inYear_12 : decode cX10_inYear 12 = .ok (.iconst 1, 1) := by decide +kernel
theorem dX10_inYear_13 : decode cX10_inYear 13 = .ok (.invokevirtual 150, 3) := by decide +kernel
theorem dX10_inYear_16 : decode cX10_inYear 16 = .ok (.ifCond .eq 5, 3) := by decide +kernel
theorem dX10_inYear_19 : decode cX10_inYear 19 = .ok (.iconst 0, 1) := by decide +kernel
theorem dX10_inYear_20 : decode cX10_inYear 20 = .ok (.ireturn, 1) := by decide +kernel
theorem dX10_inYear_21 : decode cX10_inYear 21 = .ok (.iconst 0, 1) := by decide +kernel
theorem dX10_inYear_22 : decode cX10_inYear 22 = .ok (.istore_n 2, 1) := by decide +kernel
theorem dX10_inYear_23 : decode cX10_inYear 23 = .ok (.iconst 0, 1) := by decide +kernel
theorem dX10_inYear_24 : decode cX10_inYear 24 = .ok (.istore_n 3, 1) := by decide +kernel
theorem dX10_inYear_25 : decode cX10_inYear 25 = .ok (.iload_n 3, 1) := by decide +kernel
theorem dX10_inYear_26 : decode cX10_inYear 26 = .ok (.aload_n 0, 1) := by decide +kernel
theorem dX10_inYear_27 : decode cX10_inYear 27 = .ok (.getfield 7, 3) := by decide +kernel
theorem dX10_inYear_30 : decode cX10_inYear 30 = .ok (.iconst 2, 1) := by decide +kernel
theorem dX10_inYear_31 : decode cX10_inYear 31 = .ok (.iaload, 1) := by decide +kernel
theorem dX10_inYear_32 : decode cX10_inYear 32 = .ok (.if_icmp .ge 38, 3) := by decide +kernel
theorem dX10_inYear_35 : decode cX10_inYear 35 = .ok (.iload_n 2, 1) := by decide +kernel
theorem dX10_inYear_36 : decode cX10_inYear 36 = .ok (.aload_n 0, 1) := by decide +kernel
theorem dX10_inYear_37 : decode cX10_inYear 37 = .ok (.aload_n 0, 1) := by decide +kernel
theorem dX10_inYear_38 : decode cX10_inYear 38 = .ok (.getfield 7, 3) := by decide +kernel
theorem dX10_inYear_41 : decode cX10_inYear 41 = .ok (.iload_n 3, 1) := by decide +kernel
theorem dX10_inYear_42 : decode cX10_inYear 42 = .ok (.invokevirtual 107, 3) := by decide +kernel
theorem dX10_inYear_45 : decode cX10_inYear 45 = .ok (.ifCond .ne 16, 3) := by decide +kernel
theorem dX10_inYear_48 : decode cX10_inYear 48 = .ok (.aload_n 0, 1) := by decide +kernel
theorem dX10_inYear_49 : decode cX10_inYear 49 = .ok (.iload_n 3, 1) := by decide +kernel
theorem dX10_inYear_50 : decode cX10_inYear 50 = .ok (.iload_n 1, 1) := by decide +kernel
theorem dX10_inYear_51 : decode cX10_inYear 51 = .ok (.invokevirtual 276, 3) := by decide +kernel
theorem dX10_inYear_54 : decode cX10_inYear 54 = .ok (.ifCond .eq 7, 3) := by decide +kernel
theorem dX10_inYear_57 : decode cX10_inYear 57 = .ok (.iconst 1, 1) := by decide +kernel
theorem dX10_inYear_58 : decode cX10_inYear 58 = .ok (.goto 4, 3) := by decide +kernel
theorem dX10_inYear_61 : decode cX10_inYear 61 = .ok (.iconst 0, 1) := by decide +kernel
theorem dX10_inYear_62 : decode cX10_inYear 62 = .ok (.iadd, 1) := by decide +kernel
theorem dX10_inYear_63 : decode cX10_inYear 63 = .ok (.istore_n 2, 1) := by decide +kernel
theorem dX10_inYear_64 : decode cX10_inYear 64 = .ok (.iinc 3 1, 3) := by decide +kernel
theorem dX10_inYear_67 : decode cX10_inYear 67 = .ok (.goto (-42), 3) := by decide +kernel
theorem dX10_inYear_70 : decode cX10_inYear 70 = .ok (.iload_n 2, 1) := by decide +kernel
theorem dX10_inYear_71 : decode cX10_inYear 71 = .ok (.ireturn, 1) := by decide +kernel
set_option maxRecDepth 20000 in
theorem ggX10_leastBubbles_X10_in : GoodIn wsX10_leastBubbles wsX10_in := goodIn_r _ [6] (by decide +kernel) (by decide +kernel)
set_option maxRecDepth 20000 in
theorem gX10_leastBubbles_X10_in : GoodIn wsX10_leastBubbles (va_wsS RX10 49 yX10_in wsX10_in) := goodIn_app (goodIn_of _ (by decide +kernel)) ggX10_leastBubbles_X10_in
set_option maxRecDepth 20000 in
theorem ggX10_leastBubbles_X10_refused : GoodIn wsX10_leastBubbles wsX10_refused := goodIn_r _ [10, 11, 62, 63, 64, 65, 66, 67, 68, 69, 70, 71, 72, 73, 74, 75, 76, 77, 78, 79] (by decide +kernel) (by decide +kernel)
set_option maxRecDepth 20000 in
theorem gX10_leastBubbles_X10_refused : GoodIn wsX10_leastBubbles (wsV RX10 150 RX10 yX10_refused wsX10_refused) := goodIn_app (goodIn_of _ (by decide +kernel)) ggX10_leastBubbles_X10_refused
set_option maxRecDepth 20000 in
theorem ggX10_leastBubbles_X10_copy : GoodIn wsX10_leastBubbles wsX10_copy := goodIn_r _ [14] (by decide +kernel) (by decide +kernel)
set_option maxRecDepth 20000 in
theorem gX10_leastBubbles_X10_copy : GoodIn wsX10_leastBubbles (va_wsS RX10 242 yX10_copy wsX10_copy) := goodIn_app (goodIn_of _ (by decide +kernel)) ggX10_leastBubbles_X10_copy
set_option maxRecDepth 20000 in
theorem ggX10_leastBubbles_X10_fakes : GoodIn wsX10_leastBubbles wsX10_fakes := goodIn_r _ [18, 19, 20, 21, 5, 22, 23, 24, 25, 26, 27, 28, 29, 30, 31, 32, 33, 34, 35, 36, 37, 38, 39, 40, 41, 42, 43, 44, 45, 46, 47, 48, 49, 50, 51, 52, 53, 54, 55, 56, 57, 58, 59, 60, 61, 62, 63, 64, 65, 66, 67, 68, 69, 70, 71, 72, 73, 74, 75, 76, 77, 78, 79] (by decide +kernel) (by decide +kernel)
set_option maxRecDepth 20000 in
theorem gX10_leastBubbles_X10_fakes : GoodIn wsX10_leastBubbles (wsV RX10 252 RX10 yX10_fakes wsX10_fakes) := goodIn_app (goodIn_of _ (by decide +kernel)) ggX10_leastBubbles_X10_fakes
theorem dX10_leastBubbles_0 : decode cX10_leastBubbles 0 = .ok (.aload_n 0, 1) := by decide +kernel
theorem dX10_leastBubbles_1 : decode cX10_leastBubbles 1 = .ok (.iload_n 1, 1) := by decide +kernel
theorem dX10_leastBubbles_2 : decode cX10_leastBubbles 2 = .ok (.i2l, 1) := by decide +kernel
theorem dX10_leastBubbles_3 : decode cX10_leastBubbles 3 = .ok (.lconst 0, 1) := by decide +kernel
theorem dX10_leastBubbles_4 : decode cX10_leastBubbles 4 = .ok (.lconst 1, 1) := by decide +kernel
theorem dX10_leastBubbles_5 : decode cX10_leastBubbles 5 = .ok (.invokestatic 49, 3) := by decide +kernel
theorem dX10_leastBubbles_8 : decode cX10_leastBubbles 8 = .ok (.ifCond .eq 11, 3) := by decide +kernel
theorem dX10_leastBubbles_11 : decode cX10_leastBubbles 11 = .ok (.iload_n 2, 1) := by decide +kernel
theorem dX10_leastBubbles_12 : decode cX10_leastBubbles 12 = .ok (.ifCond .lt 7, 3) := by decide +kernel
theorem dX10_leastBubbles_15 : decode cX10_leastBubbles 15 = .ok (.iconst 0, 1) := by decide +kernel
theorem dX10_leastBubbles_16 : decode cX10_leastBubbles 16 = .ok (.goto 4, 3) := by decide +kernel
theorem dX10_leastBubbles_19 : decode cX10_leastBubbles 19 = .ok (.iconst 1, 1) := by decide +kernel
theorem dX10_leastBubbles_20 : decode cX10_leastBubbles 20 = .ok (.invokevirtual 150, 3) := by decide +kernel
theorem dX10_leastBubbles_23 : decode cX10_leastBubbles 23 = .ok (.ifCond .eq 5, 3) := by decide +kernel
theorem dX10_leastBubbles_26 : decode cX10_leastBubbles 26 = .ok (.iconst 0, 1) := by decide +kernel
theorem dX10_leastBubbles_27 : decode cX10_leastBubbles 27 = .ok (.ireturn, 1) := by decide +kernel
theorem dX10_leastBubbles_28 : decode cX10_leastBubbles 28 = .ok (.aload_n 0, 1) := by decide +kernel
theorem dX10_leastBubbles_29 : decode cX10_leastBubbles 29 = .ok (.getfield 7, 3) := by decide +kernel
theorem dX10_leastBubbles_32 : decode cX10_leastBubbles 32 = .ok (.aload_n 0, 1) := by decide +kernel
theorem dX10_leastBubbles_33 : decode cX10_leastBubbles 33 = .ok (.getfield 13, 3) := by decide +kernel
theorem dX10_leastBubbles_36 : decode cX10_leastBubbles 36 = .ok (.invokestatic 242, 3) := by decide +kernel
theorem dX10_leastBubbles_39 : decode cX10_leastBubbles 39 = .ok (.iconst 0, 1) := by decide +kernel
theorem dX10_leastBubbles_40 : decode cX10_leastBubbles 40 = .ok (.istore_n 3, 1) := by decide +kernel
theorem dX10_leastBubbles_41 : decode cX10_leastBubbles 41 = .ok (.iload_n 3, 1) := by decide +kernel
theorem dX10_leastBubbles_42 : decode cX10_leastBubbles 42 = .ok (.bipush 100, 2) := by decide +kernel
theorem dX10_leastBubbles_44 : decode cX10_leastBubbles 44 = .ok (.if_icmp .ge 32, 3) := by decide +kernel
theorem dX10_leastBubbles_47 : decode cX10_leastBubbles 47 = .ok (.aload_n 0, 1) := by decide +kernel
theorem dX10_leastBubbles_48 : decode cX10_leastBubbles 48 = .ok (.getfield 13, 3) := by decide +kernel
theorem dX10_leastBubbles_51 : decode cX10_leastBubbles 51 = .ok (.iconst 3, 1) := by decide +kernel
theorem dX10_leastBubbles_52 : decode cX10_leastBubbles 52 = .ok (.iload_n 1, 1) := by decide +kernel
theorem dX10_leastBubbles_53 : decode cX10_leastBubbles 53 = .ok (.iadd, 1) := by decide +kernel
theorem dX10_leastBubbles_54 : decode cX10_leastBubbles 54 = .ok (.iload_n 3, 1) := by decide +kernel
theorem dX10_leastBubbles_55 : decode cX10_leastBubbles 55 = .ok (.iastore, 1) := by decide +kernel
theorem dX10_leastBubbles_56 : decode cX10_leastBubbles 56 = .ok (.aload_n 0, 1) := by decide +kernel
theorem dX10_leastBubbles_57 : decode cX10_leastBubbles 57 = .ok (.aload_n 0, 1) := by decide +kernel
theorem dX10_leastBubbles_58 : decode cX10_leastBubbles 58 = .ok (.getfield 13, 3) := by decide +kernel
theorem dX10_leastBubbles_61 : decode cX10_leastBubbles 61 = .ok (.invokevirtual 252, 3) := by decide +kernel
theorem dX10_leastBubbles_64 : decode cX10_leastBubbles 64 = .ok (.iload_n 2, 1) := by decide +kernel
theorem dX10_leastBubbles_65 : decode cX10_leastBubbles 65 = .ok (.if_icmp .gt 5, 3) := by decide +kernel
theorem dX10_leastBubbles_68 : decode cX10_leastBubbles 68 = .ok (.iload_n 3, 1) := by decide +kernel
theorem dX10_leastBubbles_69 : decode cX10_leastBubbles 69 = .ok (.ireturn, 1) := by decide +kernel
theorem dX10_leastBubbles_70 : decode cX10_leastBubbles 70 = .ok (.iinc 3 1, 3) := by decide +kernel
theorem dX10_leastBubbles_73 : decode cX10_leastBubbles 73 = .ok (.goto (-32), 3) := by decide +kernel
theorem dX10_leastBubbles_76 : decode cX10_leastBubbles 76 = .ok (.iconst (-1), 1) := by decide +kernel
theorem dX10_leastBubbles_77 : decode cX10_leastBubbles 77 = .ok (.ireturn, 1) := by decide +kernel
set_option maxRecDepth 20000 in
theorem ggX10_runCrack_X10_hasDie : GoodIn wsX10_runCrack wsX10_hasDie := goodIn_r _ [5, 6, 7, 4, 8] (by decide +kernel) (by decide +kernel)
set_option maxRecDepth 20000 in
theorem gX10_runCrack_X10_hasDie : GoodIn wsX10_runCrack (va_wsS RX10 197 yX10_hasDie wsX10_hasDie) := goodIn_app (goodIn_of _ (by decide +kernel)) ggX10_runCrack_X10_hasDie
set_option maxRecDepth 20000 in
theorem ggX10_runCrack_X10_isYear : GoodIn wsX10_runCrack wsX10_isYear := goodIn_r _ [11, 12, 13, 6, 7, 4, 8] (by decide +kernel) (by decide +kernel)
set_option maxRecDepth 20000 in
theorem gX10_runCrack_X10_isYear : GoodIn wsX10_runCrack (va_wsS RX10 129 yX10_isYear wsX10_isYear) := goodIn_app (goodIn_of _ (by decide +kernel)) ggX10_runCrack_X10_isYear
set_option maxRecDepth 20000 in
theorem ggX10_runCrack_X10_canCrack : GoodIn wsX10_runCrack wsX10_canCrack := goodIn_r _ [16] (by decide +kernel) (by decide +kernel)
set_option maxRecDepth 20000 in
theorem gX10_runCrack_X10_canCrack : GoodIn wsX10_runCrack (va_wsS RX10 200 yX10_canCrack wsX10_canCrack) := goodIn_app (goodIn_of _ (by decide +kernel)) ggX10_runCrack_X10_canCrack
set_option maxRecDepth 20000 in
theorem ggX10_runCrack_X10_goCrack : GoodIn wsX10_runCrack wsX10_goCrack := goodIn_r _ [19] (by decide +kernel) (by decide +kernel)
set_option maxRecDepth 20000 in
theorem gX10_runCrack_X10_goCrack : GoodIn wsX10_runCrack (va_wsS RX10 204 yX10_goCrack wsX10_goCrack) := goodIn_app (goodIn_of _ (by decide +kernel)) ggX10_runCrack_X10_goCrack
theorem dX10_runCrack_0 : decode cX10_runCrack 0 = .ok (.aload_n 0, 1) := by decide +kernel
theorem dX10_runCrack_1 : decode cX10_runCrack 1 = .ok (.getfield 13, 3) := by decide +kernel
theorem dX10_runCrack_4 : decode cX10_runCrack 4 = .ok (.iload_n 1, 1) := by decide +kernel
theorem dX10_runCrack_5 : decode cX10_runCrack 5 = .ok (.invokestatic 197, 3) := by decide +kernel
theorem dX10_runCrack_8 : decode cX10_runCrack 8 = .ok (.ifCond .eq 38, 3) := by decide +kernel
theorem dX10_runCrack_11 : decode cX10_runCrack 11 = .ok (.iload_n 2, 1) := by decide +kernel
theorem dX10_runCrack_12 : decode cX10_runCrack 12 = .ok (.invokestatic 129, 3) := by decide +kernel
theorem dX10_runCrack_15 : decode cX10_runCrack 15 = .ok (.ifCond .eq 31, 3) := by decide +kernel
theorem dX10_runCrack_18 : decode cX10_runCrack 18 = .ok (.aload_n 0, 1) := by decide +kernel
theorem dX10_runCrack_19 : decode cX10_runCrack 19 = .ok (.getfield 13, 3) := by decide +kernel
theorem dX10_runCrack_22 : decode cX10_runCrack 22 = .ok (.iload_n 1, 1) := by decide +kernel
theorem dX10_runCrack_23 : decode cX10_runCrack 23 = .ok (.iload_n 2, 1) := by decide +kernel
theorem dX10_runCrack_24 : decode cX10_runCrack 24 = .ok (.invokestatic 200, 3) := by decide +kernel
theorem dX10_runCrack_27 : decode cX10_runCrack 27 = .ok (.ifCond .eq 19, 3) := by decide +kernel
theorem dX10_runCrack_30 : decode cX10_runCrack 30 = .ok (.aload_n 0, 1) := by decide +kernel
theorem dX10_runCrack_31 : decode cX10_runCrack 31 = .ok (.getfield 13, 3) := by decide +kernel
theorem dX10_runCrack_34 : decode cX10_runCrack 34 = .ok (.iload_n 1, 1) := by decide +kernel
theorem dX10_runCrack_35 : decode cX10_runCrack 35 = .ok (.iload_n 2, 1) := by decide +kernel
theorem dX10_runCrack_36 : decode cX10_runCrack 36 = .ok (.invokestatic 204, 3) := by decide +kernel
theorem dX10_runCrack_39 : decode cX10_runCrack 39 = .ok (.ifCond .lt 7, 3) := by decide +kernel
theorem dX10_runCrack_42 : decode cX10_runCrack 42 = .ok (.iconst 1, 1) := by decide +kernel
theorem dX10_runCrack_43 : decode cX10_runCrack 43 = .ok (.goto 4, 3) := by decide +kernel
theorem dX10_runCrack_46 : decode cX10_runCrack 46 = .ok (.iconst 0, 1) := by decide +kernel
theorem dX10_runCrack_47 : decode cX10_runCrack 47 = .ok (.ireturn, 1) := by decide +kernel
set_option maxRecDepth 20000 in
theorem ggX10_runHang_X10_hasSeal : GoodIn wsX10_runHang wsX10_hasSeal := goodIn_r _ [5, 6, 7, 4, 8] (by decide +kernel) (by decide +kernel)
set_option maxRecDepth 20000 in
theorem gX10_runHang_X10_hasSeal : GoodIn wsX10_runHang (va_wsS RX10 214 yX10_hasSeal wsX10_hasSeal) := goodIn_app (goodIn_of _ (by decide +kernel)) ggX10_runHang_X10_hasSeal
set_option maxRecDepth 20000 in
theorem ggX10_runHang_X10_isCharter : GoodIn wsX10_runHang wsX10_isCharter := goodIn_r _ [11, 12, 6, 7, 4, 8] (by decide +kernel) (by decide +kernel)
set_option maxRecDepth 20000 in
theorem gX10_runHang_X10_isCharter : GoodIn wsX10_runHang (va_wsS RX10 279 yX10_isCharter wsX10_isCharter) := goodIn_app (goodIn_of _ (by decide +kernel)) ggX10_runHang_X10_isCharter
set_option maxRecDepth 20000 in
theorem ggX10_runHang_X10_goHang : GoodIn wsX10_runHang wsX10_goHang := goodIn_r _ [15, 16, 17, 4, 18] (by decide +kernel) (by decide +kernel)
set_option maxRecDepth 20000 in
theorem gX10_runHang_X10_goHang : GoodIn wsX10_runHang (va_wsS RX10 217 yX10_goHang wsX10_goHang) := goodIn_app (goodIn_of _ (by decide +kernel)) ggX10_runHang_X10_goHang
theorem dX10_runHang_0 : decode cX10_runHang 0 = .ok (.aload_n 0, 1) := by decide +kernel
theorem dX10_runHang_1 : decode cX10_runHang 1 = .ok (.getfield 13, 3) := by decide +kernel
theorem dX10_runHang_4 : decode cX10_runHang 4 = .ok (.iload_n 1, 1) := by decide +kernel
theorem dX10_runHang_5 : decode cX10_runHang 5 = .ok (.invokestatic 214, 3) := by decide +kernel
theorem dX10_runHang_8 : decode cX10_runHang 8 = .ok (.ifCond .eq 26, 3) := by decide +kernel
theorem dX10_runHang_11 : decode cX10_runHang 11 = .ok (.iload_n 2, 1) := by decide +kernel
theorem dX10_runHang_12 : decode cX10_runHang 12 = .ok (.invokestatic 279, 3) := by decide +kernel
theorem dX10_runHang_15 : decode cX10_runHang 15 = .ok (.ifCond .eq 19, 3) := by decide +kernel
theorem dX10_runHang_18 : decode cX10_runHang 18 = .ok (.aload_n 0, 1) := by decide +kernel
theorem dX10_runHang_19 : decode cX10_runHang 19 = .ok (.getfield 13, 3) := by decide +kernel
theorem dX10_runHang_22 : decode cX10_runHang 22 = .ok (.iload_n 1, 1) := by decide +kernel
theorem dX10_runHang_23 : decode cX10_runHang 23 = .ok (.iload_n 2, 1) := by decide +kernel
theorem dX10_runHang_24 : decode cX10_runHang 24 = .ok (.invokestatic 217, 3) := by decide +kernel
theorem dX10_runHang_27 : decode cX10_runHang 27 = .ok (.ifCond .le 7, 3) := by decide +kernel
theorem dX10_runHang_30 : decode cX10_runHang 30 = .ok (.iconst 1, 1) := by decide +kernel
theorem dX10_runHang_31 : decode cX10_runHang 31 = .ok (.goto 4, 3) := by decide +kernel
theorem dX10_runHang_34 : decode cX10_runHang 34 = .ok (.iconst 0, 1) := by decide +kernel
theorem dX10_runHang_35 : decode cX10_runHang 35 = .ok (.ireturn, 1) := by decide +kernel
set_option maxRecDepth 20000 in
theorem ggX10_runCut_X10_hasSeal : GoodIn wsX10_runCut wsX10_hasSeal := goodIn_r _ [5, 6, 7, 4, 8] (by decide +kernel) (by decide +kernel)
set_option maxRecDepth 20000 in
theorem gX10_runCut_X10_hasSeal : GoodIn wsX10_runCut (va_wsS RX10 214 yX10_hasSeal wsX10_hasSeal) := goodIn_app (goodIn_of _ (by decide +kernel)) ggX10_runCut_X10_hasSeal
set_option maxRecDepth 20000 in
theorem ggX10_runCut_X10_goCut : GoodIn wsX10_runCut wsX10_goCut := goodIn_r _ [11] (by decide +kernel) (by decide +kernel)
set_option maxRecDepth 20000 in
theorem gX10_runCut_X10_goCut : GoodIn wsX10_runCut (va_wsS RX10 300 yX10_goCut wsX10_goCut) := goodIn_app (goodIn_of _ (by decide +kernel)) ggX10_runCut_X10_goCut
theorem dX10_runCut_0 : decode cX10_runCut 0 = .ok (.aload_n 0, 1) := by decide +kernel
theorem dX10_runCut_1 : decode cX10_runCut 1 = .ok (.getfield 13, 3) := by decide +kernel
theorem dX10_runCut_4 : decode cX10_runCut 4 = .ok (.iload_n 1, 1) := by decide +kernel
theorem dX10_runCut_5 : decode cX10_runCut 5 = .ok (.invokestatic 214, 3) := by decide +kernel
theorem dX10_runCut_8 : decode cX10_runCut 8 = .ok (.ifCond .eq 32, 3) := by decide +kernel
theorem dX10_runCut_11 : decode cX10_runCut 11 = .ok (.aload_n 0, 1) := by decide +kernel
theorem dX10_runCut_12 : decode cX10_runCut 12 = .ok (.getfield 13, 3) := by decide +kernel
theorem dX10_runCut_15 : decode cX10_runCut 15 = .ok (.sipush 225, 3) := by decide +kernel
theorem dX10_runCut_18 : decode cX10_runCut 18 = .ok (.iload_n 1, 1) := by decide +kernel
theorem dX10_runCut_19 : decode cX10_runCut 19 = .ok (.iadd, 1) := by decide +kernel
theorem dX10_runCut_20 : decode cX10_runCut 20 = .ok (.iaload, 1) := by decide +kernel
theorem dX10_runCut_21 : decode cX10_runCut 21 = .ok (.iconst (-1), 1) := by decide +kernel
theorem dX10_runCut_22 : decode cX10_runCut 22 = .ok (.if_icmp .eq 18, 3) := by decide +kernel
theorem dX10_runCut_25 : decode cX10_runCut 25 = .ok (.aload_n 0, 1) := by decide +kernel
theorem dX10_runCut_26 : decode cX10_runCut 26 = .ok (.getfield 13, 3) := by decide +kernel
theorem dX10_runCut_29 : decode cX10_runCut 29 = .ok (.iload_n 1, 1) := by decide +kernel
theorem dX10_runCut_30 : decode cX10_runCut 30 = .ok (.invokestatic 300, 3) := by decide +kernel
theorem dX10_runCut_33 : decode cX10_runCut 33 = .ok (.ifCond .lt 7, 3) := by decide +kernel
theorem dX10_runCut_36 : decode cX10_runCut 36 = .ok (.iconst 1, 1) := by decide +kernel
theorem dX10_runCut_37 : decode cX10_runCut 37 = .ok (.goto 4, 3) := by decide +kernel
theorem dX10_runCut_40 : decode cX10_runCut 40 = .ok (.iconst 0, 1) := by decide +kernel
theorem dX10_runCut_41 : decode cX10_runCut 41 = .ok (.ireturn, 1) := by decide +kernel
set_option maxRecDepth 20000 in
theorem ggX10_runShelve_X10_hasSeal : GoodIn wsX10_runShelve wsX10_hasSeal := goodIn_r _ [5, 6, 7, 4, 8] (by decide +kernel) (by decide +kernel)
set_option maxRecDepth 20000 in
theorem gX10_runShelve_X10_hasSeal : GoodIn wsX10_runShelve (va_wsS RX10 214 yX10_hasSeal wsX10_hasSeal) := goodIn_app (goodIn_of _ (by decide +kernel)) ggX10_runShelve_X10_hasSeal
set_option maxRecDepth 20000 in
theorem ggX10_runShelve_X10_isShelf : GoodIn wsX10_runShelve wsX10_isShelf := goodIn_r _ [11, 12, 6, 7, 4, 8] (by decide +kernel) (by decide +kernel)
set_option maxRecDepth 20000 in
theorem gX10_runShelve_X10_isShelf : GoodIn wsX10_runShelve (va_wsS RX10 284 yX10_isShelf wsX10_isShelf) := goodIn_app (goodIn_of _ (by decide +kernel)) ggX10_runShelve_X10_isShelf
set_option maxRecDepth 20000 in
theorem ggX10_runShelve_X10_others : GoodIn wsX10_runShelve wsX10_others := goodIn_r _ [15, 16, 17, 4, 18, 19, 20, 21] (by decide +kernel) (by decide +kernel)
set_option maxRecDepth 20000 in
theorem gX10_runShelve_X10_others : GoodIn wsX10_runShelve (va_wsS RX10 116 yX10_others wsX10_others) := goodIn_app (goodIn_of _ (by decide +kernel)) ggX10_runShelve_X10_others
set_option maxRecDepth 20000 in
theorem ggX10_runShelve_X10_in : GoodIn wsX10_runShelve wsX10_in := goodIn_r _ [8] (by decide +kernel) (by decide +kernel)
set_option maxRecDepth 20000 in
theorem gX10_runShelve_X10_in : GoodIn wsX10_runShelve (va_wsS RX10 49 yX10_in wsX10_in) := goodIn_app (goodIn_of _ (by decide +kernel)) ggX10_runShelve_X10_in
set_option maxRecDepth 20000 in
theorem ggX10_runShelve_X10_canShelve : GoodIn wsX10_runShelve wsX10_canShelve := goodIn_r _ [24, 13, 14, 4, 15, 16, 17, 18, 19, 20, 21] (by decide +kernel) (by decide +kernel)
set_option maxRecDepth 20000 in
theorem gX10_runShelve_X10_canShelve : GoodIn wsX10_runShelve (va_wsS RX10 303 yX10_canShelve wsX10_canShelve) := goodIn_app (goodIn_of _ (by decide +kernel)) ggX10_runShelve_X10_canShelve
set_option maxRecDepth 20000 in
theorem ggX10_runShelve_X10_goShelve : GoodIn wsX10_runShelve wsX10_goShelve := goodIn_r _ [27, 28, 29, 4, 30, 16, 17, 18, 19, 20, 21] (by decide +kernel) (by decide +kernel)
set_option maxRecDepth 20000 in
theorem gX10_runShelve_X10_goShelve : GoodIn wsX10_runShelve (va_wsS RX10 306 yX10_goShelve wsX10_goShelve) := goodIn_app (goodIn_of _ (by decide +kernel)) ggX10_runShelve_X10_goShelve
theorem dX10_runShelve_0 : decode cX10_runShelve 0 = .ok (.aload_n 0, 1) := by decide +kernel
theorem dX10_runShelve_1 : decode cX10_runShelve 1 = .ok (.getfield 13, 3) := by decide +kernel
theorem dX10_runShelve_4 : decode cX10_runShelve 4 = .ok (.iload_n 1, 1) := by decide +kernel
theorem dX10_runShelve_5 : decode cX10_runShelve 5 = .ok (.invokestatic 214, 3) := by decide +kernel
theorem dX10_runShelve_8 : decode cX10_runShelve 8 = .ok (.ifCond .eq 58, 3) := by decide +kernel
theorem dX10_runShelve_11 : decode cX10_runShelve 11 = .ok (.iload_n 2, 1) := by decide +kernel
theorem dX10_runShelve_12 : decode cX10_runShelve 12 = .ok (.invokestatic 284, 3) := by decide +kernel
theorem dX10_runShelve_15 : decode cX10_runShelve 15 = .ok (.ifCond .eq 51, 3) := by decide +kernel
theorem dX10_runShelve_18 : decode cX10_runShelve 18 = .ok (.iload_n 3, 1) := by decide +kernel
theorem dX10_runShelve_19 : decode cX10_runShelve 19 = .ok (.i2l, 1) := by decide +kernel
theorem dX10_runShelve_20 : decode cX10_runShelve 20 = .ok (.lconst 0, 1) := by decide +kernel
theorem dX10_runShelve_21 : decode cX10_runShelve 21 = .ok (.aload_n 0, 1) := by decide +kernel
theorem dX10_runShelve_22 : decode cX10_runShelve 22 = .ok (.getfield 13, 3) := by decide +kernel
theorem dX10_runShelve_25 : decode cX10_runShelve 25 = .ok (.iload_n 1, 1) := by decide +kernel
theorem dX10_runShelve_26 : decode cX10_runShelve 26 = .ok (.iload_n 2, 1) := by decide +kernel
theorem dX10_runShelve_27 : decode cX10_runShelve 27 = .ok (.invokestatic 116, 3) := by decide +kernel
theorem dX10_runShelve_30 : decode cX10_runShelve 30 = .ok (.i2l, 1) := by decide +kernel
theorem dX10_runShelve_31 : decode cX10_runShelve 31 = .ok (.invokestatic 49, 3) := by decide +kernel
theorem dX10_runShelve_34 : decode cX10_runShelve 34 = .ok (.ifCond .eq 32, 3) := by decide +kernel
theorem dX10_runShelve_37 : decode cX10_runShelve 37 = .ok (.aload_n 0, 1) := by decide +kernel
theorem dX10_runShelve_38 : decode cX10_runShelve 38 = .ok (.getfield 13, 3) := by decide +kernel
theorem dX10_runShelve_41 : decode cX10_runShelve 41 = .ok (.iload_n 1, 1) := by decide +kernel
theorem dX10_runShelve_42 : decode cX10_runShelve 42 = .ok (.iload_n 2, 1) := by decide +kernel
theorem dX10_runShelve_43 : decode cX10_runShelve 43 = .ok (.invokestatic 303, 3) := by decide +kernel
theorem dX10_runShelve_46 : decode cX10_runShelve 46 = .ok (.ifCond .eq 20, 3) := by decide +kernel
theorem dX10_runShelve_49 : decode cX10_runShelve 49 = .ok (.aload_n 0, 1) := by decide +kernel
theorem dX10_runShelve_50 : decode cX10_runShelve 50 = .ok (.getfield 13, 3) := by decide +kernel
theorem dX10_runShelve_53 : decode cX10_runShelve 53 = .ok (.iload_n 1, 1) := by decide +kernel
theorem dX10_runShelve_54 : decode cX10_runShelve 54 = .ok (.iload_n 2, 1) := by decide +kernel
theorem dX10_runShelve_55 : decode cX10_runShelve 55 = .ok (.iload_n 3, 1) := by decide +kernel
theorem dX10_runShelve_56 : decode cX10_runShelve 56 = .ok (.invokestatic 306, 3) := by decide +kernel
theorem dX10_runShelve_59 : decode cX10_runShelve 59 = .ok (.ifCond .le 7, 3) := by decide +kernel
theorem dX10_runShelve_62 : decode cX10_runShelve 62 = .ok (.iconst 1, 1) := by decide +kernel
theorem dX10_runShelve_63 : decode cX10_runShelve 63 = .ok (.goto 4, 3) := by decide +kernel
theorem dX10_runShelve_66 : decode cX10_runShelve 66 = .ok (.iconst 0, 1) := by decide +kernel
theorem dX10_runShelve_67 : decode cX10_runShelve 67 = .ok (.ireturn, 1) := by decide +kernel
set_option maxRecDepth 20000 in
theorem ggX10_runShow_X10_hasSeal : GoodIn wsX10_runShow wsX10_hasSeal := goodIn_r _ [5, 6, 7, 4, 8] (by decide +kernel) (by decide +kernel)
set_option maxRecDepth 20000 in
theorem gX10_runShow_X10_hasSeal : GoodIn wsX10_runShow (va_wsS RX10 214 yX10_hasSeal wsX10_hasSeal) := goodIn_app (goodIn_of _ (by decide +kernel)) ggX10_runShow_X10_hasSeal
set_option maxRecDepth 20000 in
theorem ggX10_runShow_X10_areCracks : GoodIn wsX10_runShow wsX10_areCracks := goodIn_r _ [11, 6, 7, 4, 8] (by decide +kernel) (by decide +kernel)
set_option maxRecDepth 20000 in
theorem gX10_runShow_X10_areCracks : GoodIn wsX10_runShow (va_wsS RX10 207 yX10_areCracks wsX10_areCracks) := goodIn_app (goodIn_of _ (by decide +kernel)) ggX10_runShow_X10_areCracks
set_option maxRecDepth 20000 in
theorem ggX10_runShow_X10_goShow : GoodIn wsX10_runShow wsX10_goShow := goodIn_r _ [14] (by decide +kernel) (by decide +kernel)
set_option maxRecDepth 20000 in
theorem gX10_runShow_X10_goShow : GoodIn wsX10_runShow (va_wsS RX10 297 yX10_goShow wsX10_goShow) := goodIn_app (goodIn_of _ (by decide +kernel)) ggX10_runShow_X10_goShow
theorem dX10_runShow_0 : decode cX10_runShow 0 = .ok (.aload_n 0, 1) := by decide +kernel
theorem dX10_runShow_1 : decode cX10_runShow 1 = .ok (.getfield 13, 3) := by decide +kernel
theorem dX10_runShow_4 : decode cX10_runShow 4 = .ok (.iload_n 1, 1) := by decide +kernel
theorem dX10_runShow_5 : decode cX10_runShow 5 = .ok (.invokestatic 214, 3) := by decide +kernel
theorem dX10_runShow_8 : decode cX10_runShow 8 = .ok (.ifCond .eq 39, 3) := by decide +kernel
theorem dX10_runShow_11 : decode cX10_runShow 11 = .ok (.aload_n 0, 1) := by decide +kernel
theorem dX10_runShow_12 : decode cX10_runShow 12 = .ok (.getfield 13, 3) := by decide +kernel
theorem dX10_runShow_15 : decode cX10_runShow 15 = .ok (.aload_n 0, 1) := by decide +kernel
theorem dX10_runShow_16 : decode cX10_runShow 16 = .ok (.getfield 13, 3) := by decide +kernel
theorem dX10_runShow_19 : decode cX10_runShow 19 = .ok (.bipush 105, 2) := by decide +kernel
theorem dX10_runShow_21 : decode cX10_runShow 21 = .ok (.iload_n 1, 1) := by decide +kernel
theorem dX10_runShow_22 : decode cX10_runShow 22 = .ok (.iadd, 1) := by decide +kernel
theorem dX10_runShow_23 : decode cX10_runShow 23 = .ok (.iaload, 1) := by decide +kernel
theorem dX10_runShow_24 : decode cX10_runShow 24 = .ok (.iload_n 2, 1) := by decide +kernel
theorem dX10_runShow_25 : decode cX10_runShow 25 = .ok (.invokestatic 207, 3) := by decide +kernel
theorem dX10_runShow_28 : decode cX10_runShow 28 = .ok (.ifCond .eq 19, 3) := by decide +kernel
theorem dX10_runShow_31 : decode cX10_runShow 31 = .ok (.aload_n 0, 1) := by decide +kernel
theorem dX10_runShow_32 : decode cX10_runShow 32 = .ok (.getfield 13, 3) := by decide +kernel
theorem dX10_runShow_35 : decode cX10_runShow 35 = .ok (.iload_n 1, 1) := by decide +kernel
theorem dX10_runShow_36 : decode cX10_runShow 36 = .ok (.iload_n 2, 1) := by decide +kernel
theorem dX10_runShow_37 : decode cX10_runShow 37 = .ok (.invokestatic 297, 3) := by decide +kernel
theorem dX10_runShow_40 : decode cX10_runShow 40 = .ok (.ifCond .lt 7, 3) := by decide +kernel
theorem dX10_runShow_43 : decode cX10_runShow 43 = .ok (.iconst 1, 1) := by decide +kernel
theorem dX10_runShow_44 : decode cX10_runShow 44 = .ok (.goto 4, 3) := by decide +kernel
theorem dX10_runShow_47 : decode cX10_runShow 47 = .ok (.iconst 0, 1) := by decide +kernel
theorem dX10_runShow_48 : decode cX10_runShow 48 = .ok (.ireturn, 1) := by decide +kernel
set_option maxRecDepth 20000 in
theorem ggX10_runSort_X10_isShelf : GoodIn wsX10_runSort wsX10_isShelf := goodIn_r _ [5, 6, 7, 8, 4, 9] (by decide +kernel) (by decide +kernel)
set_option maxRecDepth 20000 in
theorem gX10_runSort_X10_isShelf : GoodIn wsX10_runSort (va_wsS RX10 284 yX10_isShelf wsX10_isShelf) := goodIn_app (goodIn_of _ (by decide +kernel)) ggX10_runSort_X10_isShelf
set_option maxRecDepth 20000 in
theorem ggX10_runSort_X10_goSort : GoodIn wsX10_runSort wsX10_goSort := goodIn_r _ [13, 14, 15, 16, 17, 4, 18, 19, 20, 21, 22, 23, 24, 25, 26, 27, 28, 29, 30, 31, 32, 33, 34, 35, 36, 37, 38, 39, 40, 41, 42, 43, 44, 45, 46, 47, 48, 49, 50, 51, 52, 53, 54, 55, 56, 57, 58, 59, 60, 61, 62, 63, 64, 65, 66, 67, 68, 69, 70, 71, 72, 73, 74, 75, 76, 77, 78, 79] (by decide +kernel) (by decide +kernel)
set_option maxRecDepth 20000 in
theorem gX10_runSort_X10_goSort : GoodIn wsX10_runSort (wsV RX10 309 RX10 yX10_goSort wsX10_goSort) := goodIn_app (goodIn_of _ (by decide +kernel)) ggX10_runSort_X10_goSort
theorem dX10_runSort_0 : decode cX10_runSort 0 = .ok (.iload_n 1, 1) := by decide +kernel
theorem dX10_runSort_1 : decode cX10_runSort 1 = .ok (.invokestatic 284, 3) := by decide +kernel
theorem dX10_runSort_4 : decode cX10_runSort 4 = .ok (.ifCond .eq 19, 3) := by decide +kernel
theorem dX10_runSort_7 : decode cX10_runSort 7 = .ok (.aload_n 0, 1) := by decide +kernel
theorem dX10_runSort_8 : decode cX10_runSort 8 = .ok (.aload_n 0, 1) := by decide +kernel
theorem dX10_runSort_9 : decode cX10_runSort 9 = .ok (.getfield 13, 3) := by decide +kernel
theorem dX10_runSort_12 : decode cX10_runSort 12 = .ok (.iload_n 1, 1) := by decide +kernel
theorem dX10_runSort_13 : decode cX10_runSort 13 = .ok (.invokevirtual 309, 3) := by decide +kernel
theorem dX10_runSort_16 : decode cX10_runSort 16 = .ok (.ifCond .lt 7, 3) := by decide +kernel
theorem dX10_runSort_19 : decode cX10_runSort 19 = .ok (.iconst 1, 1) := by decide +kernel
theorem dX10_runSort_20 : decode cX10_runSort 20 = .ok (.goto 4, 3) := by decide +kernel
theorem dX10_runSort_23 : decode cX10_runSort 23 = .ok (.iconst 0, 1) := by decide +kernel
theorem dX10_runSort_24 : decode cX10_runSort 24 = .ok (.ireturn, 1) := by decide +kernel
set_option maxRecDepth 20000 in
theorem ggX10_runSet_X10_in : GoodIn wsX10_runSet wsX10_in := goodIn_r _ [5] (by decide +kernel) (by decide +kernel)
set_option maxRecDepth 20000 in
theorem gX10_runSet_X10_in : GoodIn wsX10_runSet (va_wsS RX10 49 yX10_in wsX10_in) := goodIn_app (goodIn_of _ (by decide +kernel)) ggX10_runSet_X10_in
set_option maxRecDepth 20000 in
theorem ggX10_runSet_X10_goSet : GoodIn wsX10_runSet wsX10_goSet := goodIn_r _ [8] (by decide +kernel) (by decide +kernel)
set_option maxRecDepth 20000 in
theorem gX10_runSet_X10_goSet : GoodIn wsX10_runSet (va_wsS RX10 312 yX10_goSet wsX10_goSet) := goodIn_app (goodIn_of _ (by decide +kernel)) ggX10_runSet_X10_goSet
theorem dX10_runSet_0 : decode cX10_runSet 0 = .ok (.iload_n 1, 1) := by decide +kernel
theorem dX10_runSet_1 : decode cX10_runSet 1 = .ok (.i2l, 1) := by decide +kernel
theorem dX10_runSet_2 : decode cX10_runSet 2 = .ok (.lconst 0, 1) := by decide +kernel
theorem dX10_runSet_3 : decode cX10_runSet 3 = .ok (.lconst 1, 1) := by decide +kernel
theorem dX10_runSet_4 : decode cX10_runSet 4 = .ok (.invokestatic 49, 3) := by decide +kernel
theorem dX10_runSet_7 : decode cX10_runSet 7 = .ok (.ifCond .eq 19, 3) := by decide +kernel
theorem dX10_runSet_10 : decode cX10_runSet 10 = .ok (.aload_n 0, 1) := by decide +kernel
theorem dX10_runSet_11 : decode cX10_runSet 11 = .ok (.getfield 13, 3) := by decide +kernel
theorem dX10_runSet_14 : decode cX10_runSet 14 = .ok (.iload_n 1, 1) := by decide +kernel
theorem dX10_runSet_15 : decode cX10_runSet 15 = .ok (.iload_n 2, 1) := by decide +kernel
theorem dX10_runSet_16 : decode cX10_runSet 16 = .ok (.invokestatic 312, 3) := by decide +kernel
theorem dX10_runSet_19 : decode cX10_runSet 19 = .ok (.ifCond .lt 7, 3) := by decide +kernel
theorem dX10_runSet_22 : decode cX10_runSet 22 = .ok (.iconst 1, 1) := by decide +kernel
theorem dX10_runSet_23 : decode cX10_runSet 23 = .ok (.goto 4, 3) := by decide +kernel
theorem dX10_runSet_26 : decode cX10_runSet 26 = .ok (.iconst 0, 1) := by decide +kernel
theorem dX10_runSet_27 : decode cX10_runSet 27 = .ok (.ireturn, 1) := by decide +kernel
set_option maxRecDepth 20000 in
theorem ggX10_command_X10_runCrack : GoodIn wsX10_command wsX10_runCrack := goodIn_r _ [7, 2, 8, 9, 6, 10, 11, 12, 13, 14, 15, 16, 17, 18, 19, 20, 21, 22, 23, 24, 151, 152, 153, 154, 155, 156, 157, 158, 159, 160, 161, 162, 163, 164, 165, 166, 167, 168] (by decide +kernel) (by decide +kernel)
set_option maxRecDepth 20000 in
theorem gX10_command_X10_runCrack : GoodIn wsX10_command (wsV RX10 316 RX10 yX10_runCrack wsX10_runCrack) := goodIn_app (goodIn_of _ (by decide +kernel)) ggX10_command_X10_runCrack
set_option maxRecDepth 20000 in
theorem ggX10_command_X10_runHang : GoodIn wsX10_command wsX10_runHang := goodIn_r _ [28, 2, 29, 30, 6, 31, 11, 12, 13, 32, 33, 34, 35, 36, 37, 38, 39, 40, 41, 151, 152, 153, 154, 155, 156, 157, 158, 159, 160, 161, 162, 163, 164, 165, 166, 167, 168] (by decide +kernel) (by decide +kernel)
set_option maxRecDepth 20000 in
theorem gX10_command_X10_runHang : GoodIn wsX10_command (wsV RX10 319 RX10 yX10_runHang wsX10_runHang) := goodIn_app (goodIn_of _ (by decide +kernel)) ggX10_command_X10_runHang
set_option maxRecDepth 20000 in
theorem ggX10_command_X10_runCut : GoodIn wsX10_command wsX10_runCut := goodIn_r _ [45, 2, 29, 30, 6, 31, 11, 12, 13, 46, 47, 48, 151, 152, 153, 154, 155, 156, 157, 158, 159, 160, 161, 162, 163, 164, 165, 166, 167, 168] (by decide +kernel) (by decide +kernel)
set_option maxRecDepth 20000 in
theorem gX10_command_X10_runCut : GoodIn wsX10_command (wsV RX10 322 RX10 yX10_runCut wsX10_runCut) := goodIn_app (goodIn_of _ (by decide +kernel)) ggX10_command_X10_runCut
set_option maxRecDepth 20000 in
theorem ggX10_command_X10_runShelve : GoodIn wsX10_command wsX10_runShelve := goodIn_r _ [52, 2, 29, 30, 6, 31, 11, 12, 13, 53, 54, 55, 35, 56, 57, 58, 59, 60, 61, 62, 63, 64, 65, 66, 67, 68, 69, 70, 71, 72, 73, 151, 152, 153, 154, 155, 156, 157, 158, 159, 160, 161, 162, 163, 164, 165, 166, 167, 168] (by decide +kernel) (by decide +kernel)
set_option maxRecDepth 20000 in
theorem gX10_command_X10_runShelve : GoodIn wsX10_command (wsV RX10 325 RX10 yX10_runShelve wsX10_runShelve) := goodIn_app (goodIn_of _ (by decide +kernel)) ggX10_command_X10_runShelve
set_option maxRecDepth 20000 in
theorem ggX10_command_X10_runShow : GoodIn wsX10_command wsX10_runShow := goodIn_r _ [77, 2, 29, 30, 6, 31, 11, 12, 13, 78, 79, 80, 81, 82, 83, 151, 152, 153, 154, 155, 156, 157, 158, 159, 160, 161, 162, 163, 164, 165, 166, 167, 168] (by decide +kernel) (by decide +kernel)
set_option maxRecDepth 20000 in
theorem gX10_command_X10_runShow : GoodIn wsX10_command (wsV RX10 328 RX10 yX10_runShow wsX10_runShow) := goodIn_app (goodIn_of _ (by decide +kernel)) ggX10_command_X10_runShow
set_option maxRecDepth 20000 in
theorem ggX10_command_X10_runSort : GoodIn wsX10_command wsX10_runSort := goodIn_r _ [87, 2, 53, 54, 6, 55, 35, 11, 12, 13, 88, 89, 90, 91, 92, 93, 94, 95, 96, 97, 98, 99, 100, 101, 102, 103, 104, 105, 106, 107, 108, 109, 110, 111, 112, 113, 114, 115, 116, 117, 118, 119, 120, 121, 122, 123, 124, 125, 126, 127, 128, 129, 130, 131, 132, 133, 134, 135, 136, 137, 138, 139, 151, 152, 153, 154, 155, 156, 157, 158, 159, 160, 161, 162, 163, 164, 165, 166, 167, 168] (by decide +kernel) (by decide +kernel)
set_option maxRecDepth 20000 in
theorem gX10_command_X10_runSort : GoodIn wsX10_command (wsV RX10 331 RX10 yX10_runSort wsX10_runSort) := goodIn_app (goodIn_of _ (by decide +kernel)) ggX10_command_X10_runSort
set_option maxRecDepth 20000 in
theorem ggX10_command_X10_runSet : GoodIn wsX10_command wsX10_runSet := goodIn_r _ [143, 2, 11, 12, 6, 13, 144, 145, 146, 151, 152, 153, 154, 155, 156, 157, 158, 159, 160, 161, 162, 163, 164, 165, 166, 167, 168] (by decide +kernel) (by decide +kernel)
set_option maxRecDepth 20000 in
theorem gX10_command_X10_runSet : GoodIn wsX10_command (wsV RX10 334 RX10 yX10_runSet wsX10_runSet) := goodIn_app (goodIn_of _ (by decide +kernel)) ggX10_command_X10_runSet
set_option maxRecDepth 20000 in
theorem ggX10_command_X10_fakes : GoodIn wsX10_command wsX10_fakes := goodIn_r _ [150, 97, 98, 99, 6, 100, 101, 102, 103, 104, 105, 106, 107, 108, 109, 110, 111, 112, 113, 114, 115, 116, 117, 118, 119, 120, 121, 122, 123, 124, 125, 126, 127, 128, 129, 130, 131, 132, 133, 134, 135, 136, 137, 138, 139, 151, 152, 153, 154, 155, 156, 157, 158, 159, 160, 161, 162, 163, 164, 165, 166, 167, 168] (by decide +kernel) (by decide +kernel)
set_option maxRecDepth 20000 in
theorem gX10_command_X10_fakes : GoodIn wsX10_command (wsV RX10 252 RX10 yX10_fakes wsX10_fakes) := goodIn_app (goodIn_of _ (by decide +kernel)) ggX10_command_X10_fakes
set_option maxRecDepth 20000 in
theorem ggX10_command_X10_hasSeal : GoodIn wsX10_command wsX10_hasSeal := goodIn_r _ [31, 11, 12, 6, 13] (by decide +kernel) (by decide +kernel)
set_option maxRecDepth 20000 in
theorem gX10_command_X10_hasSeal : GoodIn wsX10_command (va_wsS RX10 214 yX10_hasSeal wsX10_hasSeal) := goodIn_app (goodIn_of _ (by decide +kernel)) ggX10_command_X10_hasSeal
set_option maxRecDepth 20000 in
theorem ggX10_command_X10_fake : GoodIn wsX10_command wsX10_fake := goodIn_r _ [100, 101, 102, 6, 103, 104, 105, 106, 107, 108, 109, 110, 111, 112, 113, 114, 115, 116, 117, 118, 119, 120, 121, 122, 123, 124, 125, 126, 127, 128, 129, 130, 131, 132, 133, 134, 135, 136, 137, 138, 139, 151, 152, 153, 154, 155, 156, 157, 158, 159, 160, 161, 162, 163, 164, 165, 166, 167, 168] (by decide +kernel) (by decide +kernel)
set_option maxRecDepth 20000 in
theorem gX10_command_X10_fake : GoodIn wsX10_command (wsV RX10 107 RX10 yX10_fake wsX10_fake) := goodIn_app (goodIn_of _ (by decide +kernel)) ggX10_command_X10_fake
theorem dX10_command_0 : decode cX10_command 0 = .ok (.iload_n 1, 1) := by decide +kernel
theorem dX10_command_1 : decode cX10_command 1 = .ok (.sipush 10000, 3) := by decide +kernel
theorem dX10_command_4 : decode cX10_command 4 = .ok (.idiv, 1) := by decide +kernel
theorem dX10_command_5 : decode cX10_command 5 = .ok (.bipush 10, 2) := by decide +kernel
theorem dX10_command_7 : decode cX10_command 7 = .ok (.irem, 1) := by decide +kernel
theorem dX10_command_8 : decode cX10_command 8 = .ok (.istore_n 2, 1) := by decide +kernel
theorem dX10_command_9 : decode cX10_command 9 = .ok (.iload_n 1, 1) := by decide +kernel
theorem dX10_command_10 : decode cX10_command 10 = .ok (.sipush 1000, 3) := by decide +kernel
theorem dX10_command_13 : decode cX10_command 13 = .ok (.idiv, 1) := by decide +kernel
theorem dX10_command_14 : decode cX10_command 14 = .ok (.bipush 100, 2) := by decide +kernel
theorem dX10_command_16 : decode cX10_command 16 = .ok (.irem, 1) := by decide +kernel
theorem dX10_command_17 : decode cX10_command 17 = .ok (.istore_n 3, 1) := by decide +kernel
theorem dX10_command_18 : decode cX10_command 18 = .ok (.iload_n 1, 1) := by decide +kernel
theorem dX10_command_19 : decode cX10_command 19 = .ok (.bipush 100, 2) := by decide +kernel
theorem dX10_command_21 : decode cX10_command 21 = .ok (.idiv, 1) := by decide +kernel
theorem dX10_command_22 : decode cX10_command 22 = .ok (.bipush 10, 2) := by decide +kernel
theorem dX10_command_24 : decode cX10_command 24 = .ok (.irem, 1) := by decide +kernel
theorem dX10_command_25 : decode cX10_command 25 = .ok (.istore 4, 2) := by decide +kernel
theorem dX10_command_27 : decode cX10_command 27 = .ok (.iload_n 1, 1) := by decide +kernel
theorem dX10_command_28 : decode cX10_command 28 = .ok (.bipush 100, 2) := by decide +kernel
theorem dX10_command_30 : decode cX10_command 30 = .ok (.irem, 1) := by decide +kernel
theorem dX10_command_31 : decode cX10_command 31 = .ok (.istore 5, 2) := by decide +kernel
theorem dX10_command_33 : decode cX10_command 33 = .ok (.iload_n 1, 1) := by decide +kernel
theorem dX10_command_34 : decode cX10_command 34 = .ok (.bipush 10, 2) := by decide +kernel
theorem dX10_command_36 : decode cX10_command 36 = .ok (.irem, 1) := by decide +kernel
theorem dX10_command_37 : decode cX10_command 37 = .ok (.istore 6, 2) := by decide +kernel
theorem dX10_command_39 : decode cX10_command 39 = .ok (.iload_n 1, 1) := by decide +kernel
theorem dX10_command_40 : decode cX10_command 40 = .ok (.ldc_w 315, 3) := by decide +kernel
theorem dX10_command_43 : decode cX10_command 43 = .ok (.idiv, 1) := by decide +kernel
theorem dX10_command_44 : decode cX10_command 44 = .ok (.tableswitch 276 1 9 #[52, 63, 84, 106, 132, 158, 180, 206, 235], 52) := by decide +kernel
theorem dX10_command_96 : decode cX10_command 96 = .ok (.aload_n 0, 1) := by decide +kernel
theorem dX10_command_97 : decode cX10_command 97 = .ok (.iload_n 2, 1) := by decide +kernel
theorem dX10_command_98 : decode cX10_command 98 = .ok (.iload_n 1, 1) := by decide +kernel
theorem dX10_command_99 : decode cX10_command 99 = .ok (.sipush 10000, 3) := by decide +kernel
theorem dX10_command_102 : decode cX10_command 102 = .ok (.irem, 1) := by decide +kernel
theorem dX10_command_103 : decode cX10_command 103 = .ok (.invokevirtual 316, 3) := by decide +kernel
theorem dX10_command_106 : decode cX10_command 106 = .ok (.ireturn, 1) := by decide +kernel
theorem dX10_command_107 : decode cX10_command 107 = .ok (.iload 5, 2) := by decide +kernel
theorem dX10_command_109 : decode cX10_command 109 = .ok (.ifCond .ne 17, 3) := by decide +kernel
theorem dX10_command_112 : decode cX10_command 112 = .ok (.aload_n 0, 1) := by decide +kernel
theorem dX10_command_113 : decode cX10_command 113 = .ok (.iload_n 3, 1) := by decide +kernel
theorem dX10_command_114 : decode cX10_command 114 = .ok (.iload 4, 2) := by decide +kernel
theorem dX10_command_116 : decode cX10_command 116 = .ok (.invokevirtual 319, 3) := by decide +kernel
theorem dX10_command_119 : decode cX10_command 119 = .ok (.ifCond .eq 7, 3) := by decide +kernel
theorem dX10_command_122 : decode cX10_command 122 = .ok (.iconst 1, 1) := by decide +kernel
theorem dX10_command_123 : decode cX10_command 123 = .ok (.goto 4, 3) := by decide +kernel
theorem dX10_command_126 : decode cX10_command 126 = .ok (.iconst 0, 1) := by decide +kernel
theorem dX10_command_127 : decode cX10_command 127 = .ok (.ireturn, 1) := by decide +kernel
theorem dX10_command_128 : decode cX10_command 128 = .ok (.iload_n 1, 1) := by decide +kernel
theorem dX10_command_129 : decode cX10_command 129 = .ok (.sipush 1000, 3) := by decide +kernel
theorem dX10_command_132 : decode cX10_command 132 = .ok (.irem, 1) := by decide +kernel
theorem dX10_command_133 : decode cX10_command 133 = .ok (.ifCond .ne 15, 3) := by decide +kernel
theorem dX10_command_136 : decode cX10_command 136 = .ok (.aload_n 0, 1) := by decide +kernel
theorem dX10_command_137 : decode cX10_command 137 = .ok (.iload_n 3, 1) := by decide +kernel
theorem dX10_command_138 : decode cX10_command 138 = .ok (.invokevirtual 322, 3) := by decide +kernel
theorem dX10_command_141 : decode cX10_command 141 = .ok (.ifCond .eq 7, 3) := by decide +kernel
theorem dX10_command_144 : decode cX10_command 144 = .ok (.iconst 1, 1) := by decide +kernel
theorem dX10_command_145 : decode cX10_command 145 = .ok (.goto 4, 3) := by decide +kernel
theorem dX10_command_148 : decode cX10_command 148 = .ok (.iconst 0, 1) := by decide +kernel
theorem dX10_command_149 : decode cX10_command 149 = .ok (.ireturn, 1) := by decide +kernel
theorem dX10_command_150 : decode cX10_command 150 = .ok (.iload 6, 2) := by decide +kernel
theorem dX10_command_152 : decode cX10_command 152 = .ok (.ifCond .ne 22, 3) := by decide +kernel
theorem dX10_command_155 : decode cX10_command 155 = .ok (.aload_n 0, 1) := by decide +kernel
theorem dX10_command_156 : decode cX10_command 156 = .ok (.iload_n 3, 1) := by decide +kernel
theorem dX10_command_157 : decode cX10_command 157 = .ok (.iload 4, 2) := by decide +kernel
theorem dX10_command_159 : decode cX10_command 159 = .ok (.iload 5, 2) := by decide +kernel
theorem dX10_command_161 : decode cX10_command 161 = .ok (.bipush 10, 2) := by decide +kernel
theorem dX10_command_163 : decode cX10_command 163 = .ok (.idiv, 1) := by decide +kernel
theorem dX10_command_164 : decode cX10_command 164 = .ok (.invokevirtual 325, 3) := by decide +kernel
theorem dX10_command_167 : decode cX10_command 167 = .ok (.ifCond .eq 7, 3) := by decide +kernel
theorem dX10_command_170 : decode cX10_command 170 = .ok (.iconst 1, 1) := by decide +kernel
theorem dX10_command_171 : decode cX10_command 171 = .ok (.goto 4, 3) := by decide +kernel
theorem dX10_command_174 : decode cX10_command 174 = .ok (.iconst 0, 1) := by decide +kernel
theorem dX10_command_175 : decode cX10_command 175 = .ok (.ireturn, 1) := by decide +kernel
theorem dX10_command_176 : decode cX10_command 176 = .ok (.iload 6, 2) := by decide +kernel
theorem dX10_command_178 : decode cX10_command 178 = .ok (.ifCond .ne 22, 3) := by decide +kernel
theorem dX10_command_181 : decode cX10_command 181 = .ok (.aload_n 0, 1) := by decide +kernel
theorem dX10_command_182 : decode cX10_command 182 = .ok (.iload_n 3, 1) := by decide +kernel
theorem dX10_command_183 : decode cX10_command 183 = .ok (.iload_n 1, 1) := by decide +kernel
theorem dX10_command_184 : decode cX10_command 184 = .ok (.bipush 10, 2) := by decide +kernel
theorem dX10_command_186 : decode cX10_command 186 = .ok (.idiv, 1) := by decide +kernel
theorem dX10_command_187 : decode cX10_command 187 = .ok (.bipush 100, 2) := by decide +kernel
theorem dX10_command_189 : decode cX10_command 189 = .ok (.irem, 1) := by decide +kernel
theorem dX10_command_190 : decode cX10_command 190 = .ok (.invokevirtual 328, 3) := by decide +kernel
theorem dX10_command_193 : decode cX10_command 193 = .ok (.ifCond .eq 7, 3) := by decide +kernel
theorem dX10_command_196 : decode cX10_command 196 = .ok (.iconst 1, 1) := by decide +kernel
theorem dX10_command_197 : decode cX10_command 197 = .ok (.goto 4, 3) := by decide +kernel
theorem dX10_command_200 : decode cX10_command 200 = .ok (.iconst 0, 1) := by decide +kernel
theorem dX10_command_201 : decode cX10_command 201 = .ok (.ireturn, 1) := by decide +kernel
theorem dX10_command_202 : decode cX10_command 202 = .ok (.iload_n 1, 1) := by decide +kernel
theorem dX10_command_203 : decode cX10_command 203 = .ok (.sipush 10000, 3) := by decide +kernel
theorem dX10_command_206 : decode cX10_command 206 = .ok (.irem, 1) := by decide +kernel
theorem dX10_command_207 : decode cX10_command 207 = .ok (.ifCond .ne 15, 3) := by decide +kernel
theorem dX10_command_210 : decode cX10_command 210 = .ok (.aload_n 0, 1) := by decide +kernel
theorem dX10_command_211 : decode cX10_command 211 = .ok (.iload_n 2, 1) := by decide +kernel
theorem dX10_command_212 : decode cX10_command 212 = .ok (.invokevirtual 331, 3) := by decide +kernel
theorem dX10_command_215 : decode cX10_command 215 = .ok (.ifCond .eq 7, 3) := by decide +kernel
theorem dX10_command_218 : decode cX10_command 218 = .ok (.iconst 1, 1) := by decide +kernel
theorem dX10_command_219 : decode cX10_command 219 = .ok (.goto 4, 3) := by decide +kernel
theorem dX10_command_222 : decode cX10_command 222 = .ok (.iconst 0, 1) := by decide +kernel
theorem dX10_command_223 : decode cX10_command 223 = .ok (.ireturn, 1) := by decide +kernel
theorem dX10_command_224 : decode cX10_command 224 = .ok (.iload 5, 2) := by decide +kernel
theorem dX10_command_226 : decode cX10_command 226 = .ok (.ifCond .ne 22, 3) := by decide +kernel
theorem dX10_command_229 : decode cX10_command 229 = .ok (.aload_n 0, 1) := by decide +kernel
theorem dX10_command_230 : decode cX10_command 230 = .ok (.iload_n 2, 1) := by decide +kernel
theorem dX10_command_231 : decode cX10_command 231 = .ok (.iload_n 1, 1) := by decide +kernel
theorem dX10_command_232 : decode cX10_command 232 = .ok (.bipush 100, 2) := by decide +kernel
theorem dX10_command_234 : decode cX10_command 234 = .ok (.idiv, 1) := by decide +kernel
theorem dX10_command_235 : decode cX10_command 235 = .ok (.bipush 100, 2) := by decide +kernel
theorem dX10_command_237 : decode cX10_command 237 = .ok (.irem, 1) := by decide +kernel
theorem dX10_command_238 : decode cX10_command 238 = .ok (.invokevirtual 334, 3) := by decide +kernel
theorem dX10_command_241 : decode cX10_command 241 = .ok (.ifCond .eq 7, 3) := by decide +kernel
theorem dX10_command_244 : decode cX10_command 244 = .ok (.iconst 1, 1) := by decide +kernel
theorem dX10_command_245 : decode cX10_command 245 = .ok (.goto 4, 3) := by decide +kernel
theorem dX10_command_248 : decode cX10_command 248 = .ok (.iconst 0, 1) := by decide +kernel
theorem dX10_command_249 : decode cX10_command 249 = .ok (.ireturn, 1) := by decide +kernel
theorem dX10_command_250 : decode cX10_command 250 = .ok (.iload_n 1, 1) := by decide +kernel
theorem dX10_command_251 : decode cX10_command 251 = .ok (.ldc_w 315, 3) := by decide +kernel
theorem dX10_command_254 : decode cX10_command 254 = .ok (.irem, 1) := by decide +kernel
theorem dX10_command_255 : decode cX10_command 255 = .ok (.bipush 100, 2) := by decide +kernel
theorem dX10_command_257 : decode cX10_command 257 = .ok (.if_icmp .ge 20, 3) := by decide +kernel
theorem dX10_command_260 : decode cX10_command 260 = .ok (.aload_n 0, 1) := by decide +kernel
theorem dX10_command_261 : decode cX10_command 261 = .ok (.aload_n 0, 1) := by decide +kernel
theorem dX10_command_262 : decode cX10_command 262 = .ok (.getfield 13, 3) := by decide +kernel
theorem dX10_command_265 : decode cX10_command 265 = .ok (.invokevirtual 252, 3) := by decide +kernel
theorem dX10_command_268 : decode cX10_command 268 = .ok (.iload 5, 2) := by decide +kernel
theorem dX10_command_270 : decode cX10_command 270 = .ok (.if_icmp .gt 7, 3) := by decide +kernel
theorem dX10_command_273 : decode cX10_command 273 = .ok (.iconst 1, 1) := by decide +kernel
theorem dX10_command_274 : decode cX10_command 274 = .ok (.goto 4, 3) := by decide +kernel
theorem dX10_command_277 : decode cX10_command 277 = .ok (.iconst 0, 1) := by decide +kernel
theorem dX10_command_278 : decode cX10_command 278 = .ok (.ireturn, 1) := by decide +kernel
theorem dX10_command_279 : decode cX10_command 279 = .ok (.iload_n 1, 1) := by decide +kernel
theorem dX10_command_280 : decode cX10_command 280 = .ok (.sipush 1000, 3) := by decide +kernel
theorem dX10_command_283 : decode cX10_command 283 = .ok (.irem, 1) := by decide +kernel
theorem dX10_command_284 : decode cX10_command 284 = .ok (.bipush 10, 2) := by decide +kernel
theorem dX10_command_286 : decode cX10_command 286 = .ok (.if_icmp .ge 32, 3) := by decide +kernel
theorem dX10_command_289 : decode cX10_command 289 = .ok (.aload_n 0, 1) := by decide +kernel
theorem dX10_command_290 : decode cX10_command 290 = .ok (.getfield 13, 3) := by decide +kernel
theorem dX10_command_293 : decode cX10_command 293 = .ok (.iload_n 3, 1) := by decide +kernel
theorem dX10_command_294 : decode cX10_command 294 = .ok (.invokestatic 214, 3) := by decide +kernel
theorem dX10_command_297 : decode cX10_command 297 = .ok (.ifCond .eq 21, 3) := by decide +kernel
theorem dX10_command_300 : decode cX10_command 300 = .ok (.aload_n 0, 1) := by decide +kernel
theorem dX10_command_301 : decode cX10_command 301 = .ok (.aload_n 0, 1) := by decide +kernel
theorem dX10_command_302 : decode cX10_command 302 = .ok (.getfield 13, 3) := by decide +kernel
theorem dX10_command_305 : decode cX10_command 305 = .ok (.iload_n 3, 1) := by decide +kernel
theorem dX10_command_306 : decode cX10_command 306 = .ok (.invokevirtual 107, 3) := by decide +kernel
theorem dX10_command_309 : decode cX10_command 309 = .ok (.iload 6, 2) := by decide +kernel
theorem dX10_command_311 : decode cX10_command 311 = .ok (.if_icmp .ne 7, 3) := by decide +kernel
theorem dX10_command_314 : decode cX10_command 314 = .ok (.iconst 1, 1) := by decide +kernel
theorem dX10_command_315 : decode cX10_command 315 = .ok (.goto 4, 3) := by decide +kernel
theorem dX10_command_318 : decode cX10_command 318 = .ok (.iconst 0, 1) := by decide +kernel
theorem dX10_command_319 : decode cX10_command 319 = .ok (.ireturn, 1) := by decide +kernel
theorem dX10_command_320 : decode cX10_command 320 = .ok (.iconst 0, 1) := by decide +kernel
theorem dX10_command_321 : decode cX10_command 321 = .ok (.ireturn, 1) := by decide +kernel
set_option maxRecDepth 20000 in
theorem ggX10_runScript_X10_in : GoodIn wsX10_runScript wsX10_in := goodIn_r _ [8] (by decide +kernel) (by decide +kernel)
set_option maxRecDepth 20000 in
theorem gX10_runScript_X10_in : GoodIn wsX10_runScript (va_wsS RX10 49 yX10_in wsX10_in) := goodIn_app (goodIn_of _ (by decide +kernel)) ggX10_runScript_X10_in
set_option maxRecDepth 20000 in
theorem ggX10_runScript_X10_tens : GoodIn wsX10_runScript wsX10_tens := goodIn_r _ [11, 12] (by decide +kernel) (by decide +kernel)
set_option maxRecDepth 20000 in
theorem gX10_runScript_X10_tens : GoodIn wsX10_runScript (va_wsS RX10 337 yX10_tens wsX10_tens) := goodIn_app (goodIn_of _ (by decide +kernel)) ggX10_runScript_X10_tens
set_option maxRecDepth 20000 in
theorem ggX10_runScript_X10_refused : GoodIn wsX10_runScript wsX10_refused := goodIn_r _ [16, 17, 170, 171, 172, 173, 174, 175, 176, 177, 178, 179, 180, 181, 182, 183, 184, 185, 186, 187] (by decide +kernel) (by decide +kernel)
set_option maxRecDepth 20000 in
theorem gX10_runScript_X10_refused : GoodIn wsX10_runScript (wsV RX10 150 RX10 yX10_refused wsX10_refused) := goodIn_app (goodIn_of _ (by decide +kernel)) ggX10_runScript_X10_refused
set_option maxRecDepth 20000 in
theorem ggX10_runScript_X10_copy : GoodIn wsX10_runScript wsX10_copy := goodIn_r _ [20] (by decide +kernel) (by decide +kernel)
set_option maxRecDepth 20000 in
theorem gX10_runScript_X10_copy : GoodIn wsX10_runScript (va_wsS RX10 242 yX10_copy wsX10_copy) := goodIn_app (goodIn_of _ (by decide +kernel)) ggX10_runScript_X10_copy
set_option maxRecDepth 20000 in
theorem ggX10_runScript_X10_command : GoodIn wsX10_runScript wsX10_command := goodIn_r _ [24, 25, 3, 26, 27, 28, 7, 29, 30, 31, 32, 5, 6, 8, 33, 34, 35, 36, 37, 38, 39, 40, 41, 42, 43, 44, 45, 46, 47, 48, 49, 50, 51, 52, 53, 54, 55, 56, 57, 58, 59, 60, 61, 62, 63, 64, 65, 66, 67, 68, 69, 70, 71, 72, 73, 74, 75, 76, 77, 78, 79, 80, 81, 82, 83, 84, 85, 86, 87, 88, 89, 90, 91, 92, 93, 94, 95, 96, 97, 98, 99, 100, 101, 102, 103, 104, 105, 106, 107, 108, 109, 110, 111, 112, 113, 114, 115, 116, 117, 118, 119, 120, 121, 122, 123, 124, 125, 126, 127, 128, 129, 130, 131, 132, 133, 134, 135, 136, 137, 138, 139, 140, 141, 142, 143, 144, 145, 146, 147, 148, 149, 150, 151, 152, 153, 154, 155, 156, 157, 158, 159, 160, 161, 162, 163, 164, 165, 166, 167, 168, 169, 170, 171, 172, 173, 174, 175, 176, 177, 178, 179, 180, 181, 182, 183, 184, 185, 186, 187] (by decide +kernel) (by decide +kernel)
set_option maxRecDepth 20000 in
theorem gX10_runScript_X10_command : GoodIn wsX10_runScript (wsV RX10 343 RX10 yX10_command wsX10_command) := goodIn_app (goodIn_of _ (by decide +kernel)) ggX10_runScript_X10_command
theorem dX10_runScript_0 : decode cX10_runScript 0 = .ok (.aload_n 0, 1) := by decide +kernel
theorem dX10_runScript_1 : decode cX10_runScript 1 = .ok (.iload_n 1, 1) := by decide +kernel
theorem dX10_runScript_2 : decode cX10_runScript 2 = .ok (.i2l, 1) := by decide +kernel
theorem dX10_runScript_3 : decode cX10_runScript 3 = .ok (.lconst 1, 1) := by decide +kernel
theorem dX10_runScript_4 : decode cX10_runScript 4 = .ok (.ldc2_w 274, 3) := by decide +kernel
theorem dX10_runScript_7 : decode cX10_runScript 7 = .ok (.invokestatic 49, 3) := by decide +kernel
theorem dX10_runScript_10 : decode cX10_runScript 10 = .ok (.ifCond .eq 24, 3) := by decide +kernel
theorem dX10_runScript_13 : decode cX10_runScript 13 = .ok (.lload_n 2, 1) := by decide +kernel
theorem dX10_runScript_14 : decode cX10_runScript 14 = .ok (.lconst 0, 1) := by decide +kernel
theorem dX10_runScript_15 : decode cX10_runScript 15 = .ok (.bipush 6, 2) := by decide +kernel
theorem dX10_runScript_17 : decode cX10_runScript 17 = .ok (.iload_n 1, 1) := by decide +kernel
theorem dX10_runScript_18 : decode cX10_runScript 18 = .ok (.imul, 1) := by decide +kernel
theorem dX10_runScript_19 : decode cX10_runScript 19 = .ok (.invokestatic 337, 3) := by decide +kernel
theorem dX10_runScript_22 : decode cX10_runScript 22 = .ok (.lconst 1, 1) := by decide +kernel
theorem dX10_runScript_23 : decode cX10_runScript 23 = .ok (.lsub, 1) := by decide +kernel
theorem dX10_runScript_24 : decode cX10_runScript 24 = .ok (.invokestatic 49, 3) := by decide +kernel
theorem dX10_runScript_27 : decode cX10_runScript 27 = .ok (.ifCond .eq 7, 3) := by decide +kernel
theorem dX10_runScript_30 : decode cX10_runScript 30 = .ok (.iconst 0, 1) := by decide +kernel
theorem dX10_runScript_31 : decode cX10_runScript 31 = .ok (.goto 4, 3) := by decide +kernel
theorem dX10_runScript_34 : decode cX10_runScript 34 = .ok (.iconst 1, 1) := by decide +kernel
theorem dX10_runScript_35 : decode cX10_runScript 35 = .ok (.invokevirtual 150, 3) := by decide +kernel
theorem dX10_runScript_38 : decode cX10_runScript 38 = .ok (.ifCond .eq 5, 3) := by decide +kernel
theorem dX10_runScript_41 : decode cX10_runScript 41 = .ok (.iconst 0, 1) := by decide +kernel
theorem dX10_runScript_42 : decode cX10_runScript 42 = .ok (.ireturn, 1) := by decide +kernel
theorem dX10_runScript_43 : decode cX10_runScript 43 = .ok (.aload_n 0, 1) := by decide +kernel
theorem dX10_runScript_44 : decode cX10_runScript 44 = .ok (.getfield 7, 3) := by decide +kernel
theorem dX10_runScript_47 : decode cX10_runScript 47 = .ok (.aload_n 0, 1) := by decide +kernel
theorem dX10_runScript_48 : decode cX10_runScript 48 = .ok (.getfield 13, 3) := by decide +kernel
theorem dX10_runScript_51 : decode cX10_runScript 51 = .ok (.invokestatic 242, 3) := by decide +kernel
theorem dX10_runScript_54 : decode cX10_runScript 54 = .ok (.iconst 0, 1) := by decide +kernel
theorem dX10_runScript_55 : decode cX10_runScript 55 = .ok (.istore 4, 2) := by decide +kernel
theorem dX10_runScript_57 : decode cX10_runScript 57 = .ok (.iload 4, 2) := by decide +kernel
theorem dX10_runScript_59 : decode cX10_runScript 59 = .ok (.iload_n 1, 1) := by decide +kernel
theorem dX10_runScript_60 : decode cX10_runScript 60 = .ok (.if_icmp .ge 38, 3) := by decide +kernel
theorem dX10_runScript_63 : decode cX10_runScript 63 = .ok (.aload_n 0, 1) := by decide +kernel
theorem dX10_runScript_64 : decode cX10_runScript 64 = .ok (.lload_n 2, 1) := by decide +kernel
theorem dX10_runScript_65 : decode cX10_runScript 65 = .ok (.bipush 6, 2) := by decide +kernel
theorem dX10_runScript_67 : decode cX10_runScript 67 = .ok (.iload_n 1, 1) := by decide +kernel
theorem dX10_runScript_68 : decode cX10_runScript 68 = .ok (.iconst 1, 1) := by decide +kernel
theorem dX10_runScript_69 : decode cX10_runScript 69 = .ok (.isub, 1) := by decide +kernel
theorem dX10_runScript_70 : decode cX10_runScript 70 = .ok (.iload 4, 2) := by decide +kernel
theorem dX10_runScript_72 : decode cX10_runScript 72 = .ok (.isub, 1) := by decide +kernel
theorem dX10_runScript_73 : decode cX10_runScript 73 = .ok (.imul, 1) := by decide +kernel
theorem dX10_runScript_74 : decode cX10_runScript 74 = .ok (.invokestatic 337, 3) := by decide +kernel
theorem dX10_runScript_77 : decode cX10_runScript 77 = .ok (.ldiv, 1) := by decide +kernel
theorem dX10_runScript_78 : decode cX10_runScript 78 = .ok (.ldc2_w 341, 3) := by decide +kernel
theorem dX10_runScript_81 : decode cX10_runScript 81 = .ok (.lrem, 1) := by decide +kernel
theorem dX10_runScript_82 : decode cX10_runScript 82 = .ok (.l2i, 1) := by decide +kernel
theorem dX10_runScript_83 : decode cX10_runScript 83 = .ok (.invokevirtual 343, 3) := by decide +kernel
theorem dX10_runScript_86 : decode cX10_runScript 86 = .ok (.ifCond .ne 6, 3) := by decide +kernel
theorem dX10_runScript_89 : decode cX10_runScript 89 = .ok (.iload 4, 2) := by decide +kernel
theorem dX10_runScript_91 : decode cX10_runScript 91 = .ok (.ireturn, 1) := by decide +kernel
theorem dX10_runScript_92 : decode cX10_runScript 92 = .ok (.iinc 4 1, 3) := by decide +kernel
theorem dX10_runScript_95 : decode cX10_runScript 95 = .ok (.goto (-38), 3) := by decide +kernel
theorem dX10_runScript_98 : decode cX10_runScript 98 = .ok (.iconst (-1), 1) := by decide +kernel
theorem dX10_runScript_99 : decode cX10_runScript 99 = .ok (.ireturn, 1) := by decide +kernel
set_option maxRecDepth 20000 in
theorem ggX10_stir_X10_hasDie : GoodIn wsX10_stir wsX10_hasDie := goodIn_r _ [5, 6, 7, 4, 8] (by decide +kernel) (by decide +kernel)
set_option maxRecDepth 20000 in
theorem gX10_stir_X10_hasDie : GoodIn wsX10_stir (va_wsS RX10 197 yX10_hasDie wsX10_hasDie) := goodIn_app (goodIn_of _ (by decide +kernel)) ggX10_stir_X10_hasDie
set_option maxRecDepth 20000 in
theorem ggX10_stir_X10_goSeal : GoodIn wsX10_stir wsX10_goSeal := goodIn_r _ [11] (by decide +kernel) (by decide +kernel)
set_option maxRecDepth 20000 in
theorem gX10_stir_X10_goSeal : GoodIn wsX10_stir (va_wsS RX10 210 yX10_goSeal wsX10_goSeal) := goodIn_app (goodIn_of _ (by decide +kernel)) ggX10_stir_X10_goSeal
set_option maxRecDepth 20000 in
theorem ggX10_stir_X10_runCrack : GoodIn wsX10_stir wsX10_runCrack := goodIn_r _ [15, 1, 2, 3, 4, 5, 6, 7, 8, 16, 17, 18, 19, 20, 21, 22, 23, 24, 25, 26, 142, 143, 144, 145, 146, 147, 148, 149, 150, 151, 152, 153, 154, 155, 156, 157, 158, 159] (by decide +kernel) (by decide +kernel)
set_option maxRecDepth 20000 in
theorem gX10_stir_X10_runCrack : GoodIn wsX10_stir (wsV RX10 316 RX10 yX10_runCrack wsX10_runCrack) := goodIn_app (goodIn_of _ (by decide +kernel)) ggX10_stir_X10_runCrack
set_option maxRecDepth 20000 in
theorem ggX10_stir_X10_runShow : GoodIn wsX10_stir wsX10_runShow := goodIn_r _ [30, 1, 31, 32, 4, 33, 6, 7, 8, 34, 35, 36, 37, 38, 39, 142, 143, 144, 145, 146, 147, 148, 149, 150, 151, 152, 153, 154, 155, 156, 157, 158, 159] (by decide +kernel) (by decide +kernel)
set_option maxRecDepth 20000 in
theorem gX10_stir_X10_runShow : GoodIn wsX10_stir (wsV RX10 328 RX10 yX10_runShow wsX10_runShow) := goodIn_app (goodIn_of _ (by decide +kernel)) ggX10_stir_X10_runShow
set_option maxRecDepth 20000 in
theorem ggX10_stir_X10_runHang : GoodIn wsX10_stir wsX10_runHang := goodIn_r _ [43, 1, 31, 32, 4, 33, 6, 7, 8, 44, 45, 46, 47, 48, 49, 50, 51, 52, 53, 142, 143, 144, 145, 146, 147, 148, 149, 150, 151, 152, 153, 154, 155, 156, 157, 158, 159] (by decide +kernel) (by decide +kernel)
set_option maxRecDepth 20000 in
theorem gX10_stir_X10_runHang : GoodIn wsX10_stir (wsV RX10 319 RX10 yX10_runHang wsX10_runHang) := goodIn_app (goodIn_of _ (by decide +kernel)) ggX10_stir_X10_runHang
set_option maxRecDepth 20000 in
theorem ggX10_stir_X10_runShelve : GoodIn wsX10_stir wsX10_runShelve := goodIn_r _ [57, 1, 31, 32, 4, 33, 6, 7, 8, 58, 59, 60, 47, 61, 62, 63, 64, 65, 66, 67, 68, 69, 70, 71, 72, 73, 74, 75, 76, 77, 78, 142, 143, 144, 145, 146, 147, 148, 149, 150, 151, 152, 153, 154, 155, 156, 157, 158, 159] (by decide +kernel) (by decide +kernel)
set_option maxRecDepth 20000 in
theorem gX10_stir_X10_runShelve : GoodIn wsX10_stir (wsV RX10 325 RX10 yX10_runShelve wsX10_runShelve) := goodIn_app (goodIn_of _ (by decide +kernel)) ggX10_stir_X10_runShelve
set_option maxRecDepth 20000 in
theorem ggX10_stir_X10_runCut : GoodIn wsX10_stir wsX10_runCut := goodIn_r _ [82, 1, 31, 32, 4, 33, 6, 7, 8, 83, 84, 85, 142, 143, 144, 145, 146, 147, 148, 149, 150, 151, 152, 153, 154, 155, 156, 157, 158, 159] (by decide +kernel) (by decide +kernel)
set_option maxRecDepth 20000 in
theorem gX10_stir_X10_runCut : GoodIn wsX10_stir (wsV RX10 322 RX10 yX10_runCut wsX10_runCut) := goodIn_app (goodIn_of _ (by decide +kernel)) ggX10_stir_X10_runCut
set_option maxRecDepth 20000 in
theorem ggX10_stir_X10_runSort : GoodIn wsX10_stir wsX10_runSort := goodIn_r _ [89, 1, 58, 59, 4, 60, 47, 6, 7, 8, 90, 91, 92, 93, 94, 95, 96, 97, 98, 99, 100, 101, 102, 103, 104, 105, 106, 107, 108, 109, 110, 111, 112, 113, 114, 115, 116, 117, 118, 119, 120, 121, 122, 123, 124, 125, 126, 127, 128, 129, 130, 131, 132, 133, 134, 135, 136, 137, 138, 139, 140, 141, 142, 143, 144, 145, 146, 147, 148, 149, 150, 151, 152, 153, 154, 155, 156, 157, 158, 159] (by decide +kernel) (by decide +kernel)
set_option maxRecDepth 20000 in
theorem gX10_stir_X10_runSort : GoodIn wsX10_stir (wsV RX10 331 RX10 yX10_runSort wsX10_runSort) := goodIn_app (goodIn_of _ (by decide +kernel)) ggX10_stir_X10_runSort
theorem dX10_stir_0 : decode cX10_stir 0 = .ok (.iload_n 1, 1) := by decide +kernel
theorem dX10_stir_1 : decode cX10_stir 1 = .ok (.bipush 8, 2) := by decide +kernel
theorem dX10_stir_3 : decode cX10_stir 3 = .ok (.idiv, 1) := by decide +kernel
theorem dX10_stir_4 : decode cX10_stir 4 = .ok (.istore_n 2, 1) := by decide +kernel
theorem dX10_stir_5 : decode cX10_stir 5 = .ok (.iload_n 1, 1) := by decide +kernel
theorem dX10_stir_6 : decode cX10_stir 6 = .ok (.bipush 8, 2) := by decide +kernel
theorem dX10_stir_8 : decode cX10_stir 8 = .ok (.irem, 1) := by decide +kernel
theorem dX10_stir_9 : decode cX10_stir 9 = .ok (.tableswitch 209 0 6 #[43, 43, 115, 139, 158, 177, 197], 43) := by decide +kernel
theorem dX10_stir_52 : decode cX10_stir 52 = .ok (.aload_n 0, 1) := by decide +kernel
theorem dX10_stir_53 : decode cX10_stir 53 = .ok (.getfield 13, 3) := by decide +kernel
theorem dX10_stir_56 : decode cX10_stir 56 = .ok (.iload_n 2, 1) := by decide +kernel
theorem dX10_stir_57 : decode cX10_stir 57 = .ok (.bipush 10, 2) := by decide +kernel
theorem dX10_stir_59 : decode cX10_stir 59 = .ok (.irem, 1) := by decide +kernel
theorem dX10_stir_60 : decode cX10_stir 60 = .ok (.invokestatic 197, 3) := by decide +kernel
theorem dX10_stir_63 : decode cX10_stir 63 = .ok (.ifCond .eq 56, 3) := by decide +kernel
theorem dX10_stir_66 : decode cX10_stir 66 = .ok (.aload_n 0, 1) := by decide +kernel
theorem dX10_stir_67 : decode cX10_stir 67 = .ok (.getfield 13, 3) := by decide +kernel
theorem dX10_stir_70 : decode cX10_stir 70 = .ok (.iconst 2, 1) := by decide +kernel
theorem dX10_stir_71 : decode cX10_stir 71 = .ok (.iaload, 1) := by decide +kernel
theorem dX10_stir_72 : decode cX10_stir 72 = .ok (.bipush 24, 2) := by decide +kernel
theorem dX10_stir_74 : decode cX10_stir 74 = .ok (.if_icmp .ge 45, 3) := by decide +kernel
theorem dX10_stir_77 : decode cX10_stir 77 = .ok (.aload_n 0, 1) := by decide +kernel
theorem dX10_stir_78 : decode cX10_stir 78 = .ok (.getfield 13, 3) := by decide +kernel
theorem dX10_stir_81 : decode cX10_stir 81 = .ok (.iload_n 2, 1) := by decide +kernel
theorem dX10_stir_82 : decode cX10_stir 82 = .ok (.bipush 10, 2) := by decide +kernel
theorem dX10_stir_84 : decode cX10_stir 84 = .ok (.irem, 1) := by decide +kernel
theorem dX10_stir_85 : decode cX10_stir 85 = .ok (.iload_n 2, 1) := by decide +kernel
theorem dX10_stir_86 : decode cX10_stir 86 = .ok (.bipush 16, 2) := by decide +kernel
theorem dX10_stir_88 : decode cX10_stir 88 = .ok (.idiv, 1) := by decide +kernel
theorem dX10_stir_89 : decode cX10_stir 89 = .ok (.iconst 2, 1) := by decide +kernel
theorem dX10_stir_90 : decode cX10_stir 90 = .ok (.irem, 1) := by decide +kernel
theorem dX10_stir_91 : decode cX10_stir 91 = .ok (.iload_n 2, 1) := by decide +kernel
theorem dX10_stir_92 : decode cX10_stir 92 = .ok (.bipush 32, 2) := by decide +kernel
theorem dX10_stir_94 : decode cX10_stir 94 = .ok (.idiv, 1) := by decide +kernel
theorem dX10_stir_95 : decode cX10_stir 95 = .ok (.bipush 9, 2) := by decide +kernel
theorem dX10_stir_97 : decode cX10_stir 97 = .ok (.irem, 1) := by decide +kernel
theorem dX10_stir_98 : decode cX10_stir 98 = .ok (.iconst 1, 1) := by decide +kernel
theorem dX10_stir_99 : decode cX10_stir 99 = .ok (.isub, 1) := by decide +kernel
theorem dX10_stir_100 : decode cX10_stir 100 = .ok (.iload_n 2, 1) := by decide +kernel
theorem dX10_stir_101 : decode cX10_stir 101 = .ok (.sipush 512, 3) := by decide +kernel
theorem dX10_stir_104 : decode cX10_stir 104 = .ok (.idiv, 1) := by decide +kernel
theorem dX10_stir_105 : decode cX10_stir 105 = .ok (.bipush 20, 2) := by decide +kernel
theorem dX10_stir_107 : decode cX10_stir 107 = .ok (.irem, 1) := by decide +kernel
theorem dX10_stir_108 : decode cX10_stir 108 = .ok (.iconst 0, 1) := by decide +kernel
theorem dX10_stir_109 : decode cX10_stir 109 = .ok (.invokestatic 210, 3) := by decide +kernel
theorem dX10_stir_112 : decode cX10_stir 112 = .ok (.ifCond .lt 7, 3) := by decide +kernel
theorem dX10_stir_115 : decode cX10_stir 115 = .ok (.iconst 1, 1) := by decide +kernel
theorem dX10_stir_116 : decode cX10_stir 116 = .ok (.goto 4, 3) := by decide +kernel
theorem dX10_stir_119 : decode cX10_stir 119 = .ok (.iconst 0, 1) := by decide +kernel
theorem dX10_stir_120 : decode cX10_stir 120 = .ok (.istore_n 3, 1) := by decide +kernel
theorem dX10_stir_121 : decode cX10_stir 121 = .ok (.goto 106, 3) := by decide +kernel
theorem dX10_stir_124 : decode cX10_stir 124 = .ok (.aload_n 0, 1) := by decide +kernel
theorem dX10_stir_125 : decode cX10_stir 125 = .ok (.iload_n 2, 1) := by decide +kernel
theorem dX10_stir_126 : decode cX10_stir 126 = .ok (.bipush 10, 2) := by decide +kernel
theorem dX10_stir_128 : decode cX10_stir 128 = .ok (.irem, 1) := by decide +kernel
theorem dX10_stir_129 : decode cX10_stir 129 = .ok (.sipush 1000, 3) := by decide +kernel
theorem dX10_stir_132 : decode cX10_stir 132 = .ok (.iload_n 2, 1) := by decide +kernel
theorem dX10_stir_133 : decode cX10_stir 133 = .ok (.bipush 16, 2) := by decide +kernel
theorem dX10_stir_135 : decode cX10_stir 135 = .ok (.idiv, 1) := by decide +kernel
theorem dX10_stir_136 : decode cX10_stir 136 = .ok (.sipush 1000, 3) := by decide +kernel
theorem dX10_stir_139 : decode cX10_stir 139 = .ok (.irem, 1) := by decide +kernel
theorem dX10_stir_140 : decode cX10_stir 140 = .ok (.iadd, 1) := by decide +kernel
theorem dX10_stir_141 : decode cX10_stir 141 = .ok (.invokevirtual 316, 3) := by decide +kernel
theorem dX10_stir_144 : decode cX10_stir 144 = .ok (.istore_n 3, 1) := by decide +kernel
theorem dX10_stir_145 : decode cX10_stir 145 = .ok (.goto 82, 3) := by decide +kernel
theorem dX10_stir_148 : decode cX10_stir 148 = .ok (.aload_n 0, 1) := by decide +kernel
theorem dX10_stir_149 : decode cX10_stir 149 = .ok (.iload_n 2, 1) := by decide +kernel
theorem dX10_stir_150 : decode cX10_stir 150 = .ok (.bipush 24, 2) := by decide +kernel
theorem dX10_stir_152 : decode cX10_stir 152 = .ok (.irem, 1) := by decide +kernel
theorem dX10_stir_153 : decode cX10_stir 153 = .ok (.iload_n 2, 1) := by decide +kernel
theorem dX10_stir_154 : decode cX10_stir 154 = .ok (.bipush 32, 2) := by decide +kernel
theorem dX10_stir_156 : decode cX10_stir 156 = .ok (.idiv, 1) := by decide +kernel
theorem dX10_stir_157 : decode cX10_stir 157 = .ok (.bipush 16, 2) := by decide +kernel
theorem dX10_stir_159 : decode cX10_stir 159 = .ok (.irem, 1) := by decide +kernel
theorem dX10_stir_160 : decode cX10_stir 160 = .ok (.invokevirtual 328, 3) := by decide +kernel
theorem dX10_stir_163 : decode cX10_stir 163 = .ok (.istore_n 3, 1) := by decide +kernel
theorem dX10_stir_164 : decode cX10_stir 164 = .ok (.goto 63, 3) := by decide +kernel
theorem dX10_stir_167 : decode cX10_stir 167 = .ok (.aload_n 0, 1) := by decide +kernel
theorem dX10_stir_168 : decode cX10_stir 168 = .ok (.iload_n 2, 1) := by decide +kernel
theorem dX10_stir_169 : decode cX10_stir 169 = .ok (.bipush 24, 2) := by decide +kernel
theorem dX10_stir_171 : decode cX10_stir 171 = .ok (.irem, 1) := by decide +kernel
theorem dX10_stir_172 : decode cX10_stir 172 = .ok (.iload_n 2, 1) := by decide +kernel
theorem dX10_stir_173 : decode cX10_stir 173 = .ok (.bipush 32, 2) := by decide +kernel
theorem dX10_stir_175 : decode cX10_stir 175 = .ok (.idiv, 1) := by decide +kernel
theorem dX10_stir_176 : decode cX10_stir 176 = .ok (.bipush 6, 2) := by decide +kernel
theorem dX10_stir_178 : decode cX10_stir 178 = .ok (.irem, 1) := by decide +kernel
theorem dX10_stir_179 : decode cX10_stir 179 = .ok (.invokevirtual 319, 3) := by decide +kernel
theorem dX10_stir_182 : decode cX10_stir 182 = .ok (.istore_n 3, 1) := by decide +kernel
theorem dX10_stir_183 : decode cX10_stir 183 = .ok (.goto 44, 3) := by decide +kernel
theorem dX10_stir_186 : decode cX10_stir 186 = .ok (.aload_n 0, 1) := by decide +kernel
theorem dX10_stir_187 : decode cX10_stir 187 = .ok (.iload_n 2, 1) := by decide +kernel
theorem dX10_stir_188 : decode cX10_stir 188 = .ok (.bipush 24, 2) := by decide +kernel
theorem dX10_stir_190 : decode cX10_stir 190 = .ok (.irem, 1) := by decide +kernel
theorem dX10_stir_191 : decode cX10_stir 191 = .ok (.iload_n 2, 1) := by decide +kernel
theorem dX10_stir_192 : decode cX10_stir 192 = .ok (.bipush 32, 2) := by decide +kernel
theorem dX10_stir_194 : decode cX10_stir 194 = .ok (.idiv, 1) := by decide +kernel
theorem dX10_stir_195 : decode cX10_stir 195 = .ok (.bipush 6, 2) := by decide +kernel
theorem dX10_stir_197 : decode cX10_stir 197 = .ok (.irem, 1) := by decide +kernel
theorem dX10_stir_198 : decode cX10_stir 198 = .ok (.iconst 0, 1) := by decide +kernel
theorem dX10_stir_199 : decode cX10_stir 199 = .ok (.invokevirtual 325, 3) := by decide +kernel
theorem dX10_stir_202 : decode cX10_stir 202 = .ok (.istore_n 3, 1) := by decide +kernel
theorem dX10_stir_203 : decode cX10_stir 203 = .ok (.goto 24, 3) := by decide +kernel
theorem dX10_stir_206 : decode cX10_stir 206 = .ok (.aload_n 0, 1) := by decide +kernel
theorem dX10_stir_207 : decode cX10_stir 207 = .ok (.iload_n 2, 1) := by decide +kernel
theorem dX10_stir_208 : decode cX10_stir 208 = .ok (.bipush 24, 2) := by decide +kernel
theorem dX10_stir_210 : decode cX10_stir 210 = .ok (.irem, 1) := by decide +kernel
theorem dX10_stir_211 : decode cX10_stir 211 = .ok (.invokevirtual 322, 3) := by decide +kernel
theorem dX10_stir_214 : decode cX10_stir 214 = .ok (.istore_n 3, 1) := by decide +kernel
theorem dX10_stir_215 : decode cX10_stir 215 = .ok (.goto 12, 3) := by decide +kernel
theorem dX10_stir_218 : decode cX10_stir 218 = .ok (.aload_n 0, 1) := by decide +kernel
theorem dX10_stir_219 : decode cX10_stir 219 = .ok (.iload_n 2, 1) := by decide +kernel
theorem dX10_stir_220 : decode cX10_stir 220 = .ok (.bipush 6, 2) := by decide +kernel
theorem dX10_stir_222 : decode cX10_stir 222 = .ok (.irem, 1) := by decide +kernel
theorem dX10_stir_223 : decode cX10_stir 223 = .ok (.invokevirtual 331, 3) := by decide +kernel
theorem dX10_stir_226 : decode cX10_stir 226 = .ok (.istore_n 3, 1) := by decide +kernel
theorem dX10_stir_227 : decode cX10_stir 227 = .ok (.return_, 1) := by decide +kernel
set_option maxRecDepth 20000 in
theorem ggX10_simulate_X10_in : GoodIn wsX10_simulate wsX10_in := goodIn_r _ [9] (by decide +kernel) (by decide +kernel)
set_option maxRecDepth 20000 in
theorem gX10_simulate_X10_in : GoodIn wsX10_simulate (va_wsS RX10 49 yX10_in wsX10_in) := goodIn_app (goodIn_of _ (by decide +kernel)) ggX10_simulate_X10_in
set_option maxRecDepth 20000 in
theorem ggX10_simulate_X10_refused : GoodIn wsX10_simulate wsX10_refused := goodIn_r _ [13, 14, 170, 171, 172, 173, 174, 175, 176, 177, 178, 179, 180, 181, 182, 183, 184, 185, 186, 187] (by decide +kernel) (by decide +kernel)
set_option maxRecDepth 20000 in
theorem gX10_simulate_X10_refused : GoodIn wsX10_simulate (wsV RX10 150 RX10 yX10_refused wsX10_refused) := goodIn_app (goodIn_of _ (by decide +kernel)) ggX10_simulate_X10_refused
set_option maxRecDepth 20000 in
theorem ggX10_simulate_X10_copy : GoodIn wsX10_simulate wsX10_copy := goodIn_r _ [17] (by decide +kernel) (by decide +kernel)
set_option maxRecDepth 20000 in
theorem gX10_simulate_X10_copy : GoodIn wsX10_simulate (va_wsS RX10 242 yX10_copy wsX10_copy) := goodIn_app (goodIn_of _ (by decide +kernel)) ggX10_simulate_X10_copy
set_option maxRecDepth 20000 in
theorem ggX10_simulate_X10_stir : GoodIn wsX10_simulate wsX10_stir := goodIn_r _ [21, 3, 22, 23, 8, 24, 6, 7, 9, 25, 26, 27, 28, 29, 30, 31, 32, 33, 34, 35, 36, 37, 38, 39, 40, 41, 42, 43, 44, 45, 46, 47, 48, 49, 50, 51, 52, 53, 54, 55, 56, 57, 58, 59, 60, 61, 62, 63, 64, 65, 66, 67, 68, 69, 70, 71, 72, 73, 74, 75, 76, 77, 78, 79, 80, 81, 82, 83, 84, 85, 86, 87, 88, 89, 90, 91, 92, 93, 94, 95, 96, 97, 98, 99, 100, 101, 102, 103, 104, 105, 106, 107, 108, 109, 110, 111, 112, 113, 114, 115, 116, 117, 118, 119, 120, 121, 122, 123, 124, 125, 126, 127, 128, 129, 130, 131, 132, 133, 134, 135, 136, 137, 138, 139, 140, 141, 142, 143, 144, 145, 146, 147, 148, 149, 150, 151, 152, 153, 154, 155, 156, 157, 170, 171, 172, 173, 174, 175, 176, 177, 178, 179, 180, 181, 182, 183, 184, 185, 186, 187] (by decide +kernel) (by decide +kernel)
set_option maxRecDepth 20000 in
theorem gX10_simulate_X10_stir : GoodIn wsX10_simulate (wsV RX10 352 RX10 yX10_stir wsX10_stir) := goodIn_app (goodIn_of _ (by decide +kernel)) ggX10_simulate_X10_stir
set_option maxRecDepth 20000 in
theorem ggX10_simulate_X10_fakes : GoodIn wsX10_simulate wsX10_fakes := goodIn_r _ [161, 115, 116, 117, 8, 118, 119, 120, 121, 122, 123, 124, 125, 126, 127, 128, 129, 130, 131, 132, 133, 134, 135, 136, 137, 138, 139, 140, 141, 142, 143, 144, 145, 146, 147, 148, 149, 150, 151, 152, 153, 154, 155, 156, 157, 170, 171, 172, 173, 174, 175, 176, 177, 178, 179, 180, 181, 182, 183, 184, 185, 186, 187] (by decide +kernel) (by decide +kernel)
set_option maxRecDepth 20000 in
theorem gX10_simulate_X10_fakes : GoodIn wsX10_simulate (wsV RX10 252 RX10 yX10_fakes wsX10_fakes) := goodIn_app (goodIn_of _ (by decide +kernel)) ggX10_simulate_X10_fakes
set_option maxRecDepth 20000 in
theorem ggX10_simulate_X10_bad : GoodIn wsX10_simulate wsX10_bad := goodIn_r _ [165, 166, 167, 168, 8, 169, 115, 116, 117, 118, 119, 120, 121, 122, 123, 124, 125, 126, 127, 128, 129, 130, 131, 132, 133, 134, 135, 136, 137, 138, 139, 140, 141, 142, 143, 144, 145, 146, 147, 148, 149, 150, 151, 152, 153, 154, 155, 156, 157, 170, 171, 172, 173, 174, 175, 176, 177, 178, 179, 180, 181, 182, 183, 184, 185, 186, 187] (by decide +kernel) (by decide +kernel)
set_option maxRecDepth 20000 in
theorem gX10_simulate_X10_bad : GoodIn wsX10_simulate (wsV RX10 259 RX10 yX10_bad wsX10_bad) := goodIn_app (goodIn_of _ (by decide +kernel)) ggX10_simulate_X10_bad
theorem dX10_simulate_0 : decode cX10_simulate 0 = .ok (.aload_n 0, 1) := by decide +kernel
theorem dX10_simulate_1 : decode cX10_simulate 1 = .ok (.iload_n 3, 1) := by decide +kernel
theorem dX10_simulate_2 : decode cX10_simulate 2 = .ok (.i2l, 1) := by decide +kernel
theorem dX10_simulate_3 : decode cX10_simulate 3 = .ok (.lconst 1, 1) := by decide +kernel
theorem dX10_simulate_4 : decode cX10_simulate 4 = .ok (.ldc2_w 346, 3) := by decide +kernel
theorem dX10_simulate_7 : decode cX10_simulate 7 = .ok (.invokestatic 49, 3) := by decide +kernel
theorem dX10_simulate_10 : decode cX10_simulate 10 = .ok (.ifCond .eq 7, 3) := by decide +kernel
theorem dX10_simulate_13 : decode cX10_simulate 13 = .ok (.iconst 0, 1) := by decide +kernel
theorem dX10_simulate_14 : decode cX10_simulate 14 = .ok (.goto 4, 3) := by decide +kernel
theorem dX10_simulate_17 : decode cX10_simulate 17 = .ok (.iconst 1, 1) := by decide +kernel
theorem dX10_simulate_18 : decode cX10_simulate 18 = .ok (.invokevirtual 150, 3) := by decide +kernel
theorem dX10_simulate_21 : decode cX10_simulate 21 = .ok (.ifCond .eq 5, 3) := by decide +kernel
theorem dX10_simulate_24 : decode cX10_simulate 24 = .ok (.iconst 0, 1) := by decide +kernel
theorem dX10_simulate_25 : decode cX10_simulate 25 = .ok (.ireturn, 1) := by decide +kernel
theorem dX10_simulate_26 : decode cX10_simulate 26 = .ok (.aload_n 0, 1) := by decide +kernel
theorem dX10_simulate_27 : decode cX10_simulate 27 = .ok (.getfield 7, 3) := by decide +kernel
theorem dX10_simulate_30 : decode cX10_simulate 30 = .ok (.aload_n 0, 1) := by decide +kernel
theorem dX10_simulate_31 : decode cX10_simulate 31 = .ok (.getfield 13, 3) := by decide +kernel
theorem dX10_simulate_34 : decode cX10_simulate 34 = .ok (.invokestatic 242, 3) := by decide +kernel
theorem dX10_simulate_37 : decode cX10_simulate 37 = .ok (.lload_n 1, 1) := by decide +kernel
theorem dX10_simulate_38 : decode cX10_simulate 38 = .ok (.lstore 4, 2) := by decide +kernel
theorem dX10_simulate_40 : decode cX10_simulate 40 = .ok (.iconst 0, 1) := by decide +kernel
theorem dX10_simulate_41 : decode cX10_simulate 41 = .ok (.istore 6, 2) := by decide +kernel
theorem dX10_simulate_43 : decode cX10_simulate 43 = .ok (.iload 6, 2) := by decide +kernel
theorem dX10_simulate_45 : decode cX10_simulate 45 = .ok (.iload_n 3, 1) := by decide +kernel
theorem dX10_simulate_46 : decode cX10_simulate 46 = .ok (.if_icmp .ge 31, 3) := by decide +kernel
theorem dX10_simulate_49 : decode cX10_simulate 49 = .ok (.lload 4, 2) := by decide +kernel
theorem dX10_simulate_51 : decode cX10_simulate 51 = .ok (.ldc2_w 348, 3) := by decide +kernel
theorem dX10_simulate_54 : decode cX10_simulate 54 = .ok (.lmul, 1) := by decide +kernel
theorem dX10_simulate_55 : decode cX10_simulate 55 = .ok (.ldc2_w 350, 3) := by decide +kernel
theorem dX10_simulate_58 : decode cX10_simulate 58 = .ok (.ladd, 1) := by decide +kernel
theorem dX10_simulate_59 : decode cX10_simulate 59 = .ok (.lstore 4, 2) := by decide +kernel
theorem dX10_simulate_61 : decode cX10_simulate 61 = .ok (.aload_n 0, 1) := by decide +kernel
theorem dX10_simulate_62 : decode cX10_simulate 62 = .ok (.lload 4, 2) := by decide +kernel
theorem dX10_simulate_64 : decode cX10_simulate 64 = .ok (.bipush 33, 2) := by decide +kernel
theorem dX10_simulate_66 : decode cX10_simulate 66 = .ok (.lushr, 1) := by decide +kernel
theorem dX10_simulate_67 : decode cX10_simulate 67 = .ok (.l2i, 1) := by decide +kernel
theorem dX10_simulate_68 : decode cX10_simulate 68 = .ok (.invokevirtual 352, 3) := by decide +kernel
theorem dX10_simulate_71 : decode cX10_simulate 71 = .ok (.iinc 6 1, 3) := by decide +kernel
theorem dX10_simulate_74 : decode cX10_simulate 74 = .ok (.goto (-31), 3) := by decide +kernel
theorem dX10_simulate_77 : decode cX10_simulate 77 = .ok (.sipush 1000, 3) := by decide +kernel
theorem dX10_simulate_80 : decode cX10_simulate 80 = .ok (.aload_n 0, 1) := by decide +kernel
theorem dX10_simulate_81 : decode cX10_simulate 81 = .ok (.getfield 13, 3) := by decide +kernel
theorem dX10_simulate_84 : decode cX10_simulate 84 = .ok (.iconst 2, 1) := by decide +kernel
theorem dX10_simulate_85 : decode cX10_simulate 85 = .ok (.iaload, 1) := by decide +kernel
theorem dX10_simulate_86 : decode cX10_simulate 86 = .ok (.imul, 1) := by decide +kernel
theorem dX10_simulate_87 : decode cX10_simulate 87 = .ok (.bipush 10, 2) := by decide +kernel
theorem dX10_simulate_89 : decode cX10_simulate 89 = .ok (.aload_n 0, 1) := by decide +kernel
theorem dX10_simulate_90 : decode cX10_simulate 90 = .ok (.aload_n 0, 1) := by decide +kernel
theorem dX10_simulate_91 : decode cX10_simulate 91 = .ok (.getfield 13, 3) := by decide +kernel
theorem dX10_simulate_94 : decode cX10_simulate 94 = .ok (.invokevirtual 252, 3) := by decide +kernel
theorem dX10_simulate_97 : decode cX10_simulate 97 = .ok (.imul, 1) := by decide +kernel
theorem dX10_simulate_98 : decode cX10_simulate 98 = .ok (.iadd, 1) := by decide +kernel
theorem dX10_simulate_99 : decode cX10_simulate 99 = .ok (.aload_n 0, 1) := by decide +kernel
theorem dX10_simulate_100 : decode cX10_simulate 100 = .ok (.aload_n 0, 1) := by decide +kernel
theorem dX10_simulate_101 : decode cX10_simulate 101 = .ok (.getfield 13, 3) := by decide +kernel
theorem dX10_simulate_104 : decode cX10_simulate 104 = .ok (.invokevirtual 259, 3) := by decide +kernel
theorem dX10_simulate_107 : decode cX10_simulate 107 = .ok (.iadd, 1) := by decide +kernel
theorem dX10_simulate_108 : decode cX10_simulate 108 = .ok (.ireturn, 1) := by decide +kernel
set_option maxRecDepth 20000 in
theorem ggX10_save_X10_in : GoodIn wsX10_save wsX10_in := goodIn_r _ [7] (by decide +kernel) (by decide +kernel)
set_option maxRecDepth 20000 in
theorem gX10_save_X10_in : GoodIn wsX10_save (va_wsS RX10 49 yX10_in wsX10_in) := goodIn_app (goodIn_of _ (by decide +kernel)) ggX10_save_X10_in
set_option maxRecDepth 20000 in
theorem ggX10_save_X10_refused : GoodIn wsX10_save wsX10_refused := goodIn_r _ [11, 12, 13, 14, 15, 16, 17, 18, 19, 20, 21, 22, 23, 24, 25, 26, 27, 28, 29, 30] (by decide +kernel) (by decide +kernel)
set_option maxRecDepth 20000 in
theorem gX10_save_X10_refused : GoodIn wsX10_save (wsV RX10 150 RX10 yX10_refused wsX10_refused) := goodIn_app (goodIn_of _ (by decide +kernel)) ggX10_save_X10_refused
theorem dX10_save_0 : decode cX10_save 0 = .ok (.aload_n 0, 1) := by decide +kernel
theorem dX10_save_1 : decode cX10_save 1 = .ok (.iload_n 1, 1) := by decide +kernel
theorem dX10_save_2 : decode cX10_save 2 = .ok (.i2l, 1) := by decide +kernel
theorem dX10_save_3 : decode cX10_save 3 = .ok (.lconst 0, 1) := by decide +kernel
theorem dX10_save_4 : decode cX10_save 4 = .ok (.lconst 1, 1) := by decide +kernel
theorem dX10_save_5 : decode cX10_save 5 = .ok (.invokestatic 49, 3) := by decide +kernel
theorem dX10_save_8 : decode cX10_save 8 = .ok (.ifCond .eq 7, 3) := by decide +kernel
theorem dX10_save_11 : decode cX10_save 11 = .ok (.iconst 0, 1) := by decide +kernel
theorem dX10_save_12 : decode cX10_save 12 = .ok (.goto 4, 3) := by decide +kernel
theorem dX10_save_15 : decode cX10_save 15 = .ok (.iconst 1, 1) := by decide +kernel
theorem dX10_save_16 : decode cX10_save 16 = .ok (.invokevirtual 150, 3) := by decide +kernel
theorem dX10_save_19 : decode cX10_save 19 = .ok (.ifCond .eq 5, 3) := by decide +kernel
theorem dX10_save_22 : decode cX10_save 22 = .ok (.iconst 0, 1) := by decide +kernel
theorem dX10_save_23 : decode cX10_save 23 = .ok (.ireturn, 1) := by decide +kernel
theorem dX10_save_24 : decode cX10_save 24 = .ok (.iconst 0, 1) := by decide +kernel
theorem dX10_save_25 : decode cX10_save 25 = .ok (.istore_n 2, 1) := by decide +kernel
theorem dX10_save_26 : decode cX10_save 26 = .ok (.iload_n 2, 1) := by decide +kernel
theorem dX10_save_27 : decode cX10_save 27 = .ok (.sipush 291, 3) := by decide +kernel
theorem dX10_save_30 : decode cX10_save 30 = .ok (.if_icmp .ge 27, 3) := by decide +kernel
theorem dX10_save_33 : decode cX10_save 33 = .ok (.aload_n 0, 1) := by decide +kernel
theorem dX10_save_34 : decode cX10_save 34 = .ok (.getfield 22, 3) := by decide +kernel
theorem dX10_save_37 : decode cX10_save 37 = .ok (.sipush 291, 3) := by decide +kernel
theorem dX10_save_40 : decode cX10_save 40 = .ok (.iload_n 1, 1) := by decide +kernel
theorem dX10_save_41 : decode cX10_save 41 = .ok (.imul, 1) := by decide +kernel
theorem dX10_save_42 : decode cX10_save 42 = .ok (.iload_n 2, 1) := by decide +kernel
theorem dX10_save_43 : decode cX10_save 43 = .ok (.iadd, 1) := by decide +kernel
theorem dX10_save_44 : decode cX10_save 44 = .ok (.aload_n 0, 1) := by decide +kernel
theorem dX10_save_45 : decode cX10_save 45 = .ok (.getfield 7, 3) := by decide +kernel
theorem dX10_save_48 : decode cX10_save 48 = .ok (.iload_n 2, 1) := by decide +kernel
theorem dX10_save_49 : decode cX10_save 49 = .ok (.iaload, 1) := by decide +kernel
theorem dX10_save_50 : decode cX10_save 50 = .ok (.iastore, 1) := by decide +kernel
theorem dX10_save_51 : decode cX10_save 51 = .ok (.iinc 2 1, 3) := by decide +kernel
theorem dX10_save_54 : decode cX10_save 54 = .ok (.goto (-28), 3) := by decide +kernel
theorem dX10_save_57 : decode cX10_save 57 = .ok (.aload_n 0, 1) := by decide +kernel
theorem dX10_save_58 : decode cX10_save 58 = .ok (.getfield 25, 3) := by decide +kernel
theorem dX10_save_61 : decode cX10_save 61 = .ok (.iload_n 1, 1) := by decide +kernel
theorem dX10_save_62 : decode cX10_save 62 = .ok (.iconst 1, 1) := by decide +kernel
theorem dX10_save_63 : decode cX10_save 63 = .ok (.bastore, 1) := by decide +kernel
theorem dX10_save_64 : decode cX10_save 64 = .ok (.aload_n 0, 1) := by decide +kernel
theorem dX10_save_65 : decode cX10_save 65 = .ok (.getfield 7, 3) := by decide +kernel
theorem dX10_save_68 : decode cX10_save 68 = .ok (.iconst 2, 1) := by decide +kernel
theorem dX10_save_69 : decode cX10_save 69 = .ok (.iaload, 1) := by decide +kernel
theorem dX10_save_70 : decode cX10_save 70 = .ok (.ireturn, 1) := by decide +kernel
set_option maxRecDepth 20000 in
theorem ggX10_restore_X10_in : GoodIn wsX10_restore wsX10_in := goodIn_r _ [8] (by decide +kernel) (by decide +kernel)
set_option maxRecDepth 20000 in
theorem gX10_restore_X10_in : GoodIn wsX10_restore (va_wsS RX10 49 yX10_in wsX10_in) := goodIn_app (goodIn_of _ (by decide +kernel)) ggX10_restore_X10_in
set_option maxRecDepth 20000 in
theorem ggX10_restore_X10_refused : GoodIn wsX10_restore wsX10_refused := goodIn_r _ [12, 13, 14, 15, 16, 17, 18, 19, 20, 21, 22, 23, 24, 25, 26, 27, 28, 29, 30, 31] (by decide +kernel) (by decide +kernel)
set_option maxRecDepth 20000 in
theorem gX10_restore_X10_refused : GoodIn wsX10_restore (wsV RX10 150 RX10 yX10_refused wsX10_refused) := goodIn_app (goodIn_of _ (by decide +kernel)) ggX10_restore_X10_refused
theorem dX10_restore_0 : decode cX10_restore 0 = .ok (.aload_n 0, 1) := by decide +kernel
theorem dX10_restore_1 : decode cX10_restore 1 = .ok (.iload_n 1, 1) := by decide +kernel
theorem dX10_restore_2 : decode cX10_restore 2 = .ok (.i2l, 1) := by decide +kernel
theorem dX10_restore_3 : decode cX10_restore 3 = .ok (.lconst 0, 1) := by decide +kernel
theorem dX10_restore_4 : decode cX10_restore 4 = .ok (.lconst 1, 1) := by decide +kernel
theorem dX10_restore_5 : decode cX10_restore 5 = .ok (.invokestatic 49, 3) := by decide +kernel
theorem dX10_restore_8 : decode cX10_restore 8 = .ok (.ifCond .ne 7, 3) := by decide +kernel
theorem dX10_restore_11 : decode cX10_restore 11 = .ok (.iconst 1, 1) := by decide +kernel
theorem dX10_restore_12 : decode cX10_restore 12 = .ok (.goto 17, 3) := by decide +kernel
theorem dX10_restore_15 : decode cX10_restore 15 = .ok (.aload_n 0, 1) := by decide +kernel
theorem dX10_restore_16 : decode cX10_restore 16 = .ok (.getfield 25, 3) := by decide +kernel
theorem dX10_restore_19 : decode cX10_restore 19 = .ok (.iload_n 1, 1) := by decide +kernel
theorem dX10_restore_20 : decode cX10_restore 20 = .ok (.baload, 1) := by decide +kernel
theorem dX10_restore_21 : decode cX10_restore 21 = .ok (.ifCond .ne 7, 3) := by decide +kernel
theorem dX10_restore_24 : decode cX10_restore 24 = .ok (.iconst 2, 1) := by decide +kernel
theorem dX10_restore_25 : decode cX10_restore 25 = .ok (.goto 4, 3) := by decide +kernel
theorem dX10_restore_28 : decode cX10_restore 28 = .ok (.iconst 0, 1) := by decide +kernel
theorem dX10_restore_29 : decode cX10_restore 29 = .ok (.invokevirtual 150, 3) := by decide +kernel
theorem dX10_restore_32 : decode cX10_restore 32 = .ok (.ifCond .eq 5, 3) := by decide +kernel
theorem dX10_restore_35 : decode cX10_restore 35 = .ok (.iconst 0, 1) := by decide +kernel
theorem dX10_restore_36 : decode cX10_restore 36 = .ok (.ireturn, 1) := by decide +kernel
theorem dX10_restore_37 : decode cX10_restore 37 = .ok (.iconst 0, 1) := by decide +kernel
theorem dX10_restore_38 : decode cX10_restore 38 = .ok (.istore_n 2, 1) := by decide +kernel
theorem dX10_restore_39 : decode cX10_restore 39 = .ok (.iload_n 2, 1) := by decide +kernel
theorem dX10_restore_40 : decode cX10_restore 40 = .ok (.sipush 291, 3) := by decide +kernel
theorem dX10_restore_43 : decode cX10_restore 43 = .ok (.if_icmp .ge 27, 3) := by decide +kernel
theorem dX10_restore_46 : decode cX10_restore 46 = .ok (.aload_n 0, 1) := by decide +kernel
theorem dX10_restore_47 : decode cX10_restore 47 = .ok (.getfield 7, 3) := by decide +kernel
theorem dX10_restore_50 : decode cX10_restore 50 = .ok (.iload_n 2, 1) := by decide +kernel
theorem dX10_restore_51 : decode cX10_restore 51 = .ok (.aload_n 0, 1) := by decide +kernel
theorem dX10_restore_52 : decode cX10_restore 52 = .ok (.getfield 22, 3) := by decide +kernel
theorem dX10_restore_55 : decode cX10_restore 55 = .ok (.sipush 291, 3) := by decide +kernel
theorem dX10_restore_58 : decode cX10_restore 58 = .ok (.iload_n 1, 1) := by decide +kernel
theorem dX10_restore_59 : decode cX10_restore 59 = .ok (.imul, 1) := by decide +kernel
theorem dX10_restore_60 : decode cX10_restore 60 = .ok (.iload_n 2, 1) := by decide +kernel
theorem dX10_restore_61 : decode cX10_restore 61 = .ok (.iadd, 1) := by decide +kernel
theorem dX10_restore_62 : decode cX10_restore 62 = .ok (.iaload, 1) := by decide +kernel
theorem dX10_restore_63 : decode cX10_restore 63 = .ok (.iastore, 1) := by decide +kernel
theorem dX10_restore_64 : decode cX10_restore 64 = .ok (.iinc 2 1, 3) := by decide +kernel
theorem dX10_restore_67 : decode cX10_restore 67 = .ok (.goto (-28), 3) := by decide +kernel
theorem dX10_restore_70 : decode cX10_restore 70 = .ok (.aload_n 0, 1) := by decide +kernel
theorem dX10_restore_71 : decode cX10_restore 71 = .ok (.iconst 0, 1) := by decide +kernel
theorem dX10_restore_72 : decode cX10_restore 72 = .ok (.putfield 142, 3) := by decide +kernel
theorem dX10_restore_75 : decode cX10_restore 75 = .ok (.aload_n 0, 1) := by decide +kernel
theorem dX10_restore_76 : decode cX10_restore 76 = .ok (.getfield 7, 3) := by decide +kernel
theorem dX10_restore_79 : decode cX10_restore 79 = .ok (.iconst 2, 1) := by decide +kernel
theorem dX10_restore_80 : decode cX10_restore 80 = .ok (.iaload, 1) := by decide +kernel
theorem dX10_restore_81 : decode cX10_restore 81 = .ok (.ireturn, 1) := by decide +kernel
theorem dJ9_max_7cf53_0 : decode cJ9_max_7cf53 0 = .ok (.iload_n 0, 1) := by decide +kernel
theorem dJ9_max_7cf53_1 : decode cJ9_max_7cf53 1 = .ok (.iload_n 1, 1) := by decide +kernel
theorem dJ9_max_7cf53_2 : decode cJ9_max_7cf53 2 = .ok (.if_icmp .lt 7, 3) := by decide +kernel
theorem dJ9_max_7cf53_5 : decode cJ9_max_7cf53 5 = .ok (.iload_n 0, 1) := by decide +kernel
theorem dJ9_max_7cf53_6 : decode cJ9_max_7cf53 6 = .ok (.goto 4, 3) := by decide +kernel
theorem dJ9_max_7cf53_9 : decode cJ9_max_7cf53 9 = .ok (.iload_n 1, 1) := by decide +kernel
theorem dJ9_max_7cf53_10 : decode cJ9_max_7cf53 10 = .ok (.ireturn, 1) := by decide +kernel
theorem dJ9_min_7cf53_0 : decode cJ9_min_7cf53 0 = .ok (.iload_n 0, 1) := by decide +kernel
theorem dJ9_min_7cf53_1 : decode cJ9_min_7cf53 1 = .ok (.iload_n 1, 1) := by decide +kernel
theorem dJ9_min_7cf53_2 : decode cJ9_min_7cf53 2 = .ok (.if_icmp .gt 7, 3) := by decide +kernel
theorem dJ9_min_7cf53_5 : decode cJ9_min_7cf53 5 = .ok (.iload_n 0, 1) := by decide +kernel
theorem dJ9_min_7cf53_6 : decode cJ9_min_7cf53 6 = .ok (.goto 4, 3) := by decide +kernel
theorem dJ9_min_7cf53_9 : decode cJ9_min_7cf53 9 = .ok (.iload_n 1, 1) := by decide +kernel
theorem dJ9_min_7cf53_10 : decode cJ9_min_7cf53 10 = .ok (.ireturn, 1) := by decide +kernel
