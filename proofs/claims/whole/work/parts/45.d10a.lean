set_option maxRecDepth 20000 in
theorem ggX10_init_X10_fresh : GoodIn wsX10_init wsX10_fresh := goodIn_r _ [17] (by decide +kernel) (by decide +kernel)
set_option maxRecDepth 20000 in
theorem gX10_init_X10_fresh : GoodIn wsX10_init (va_wsS RX10 35 yX10_fresh wsX10_fresh) := goodIn_app (goodIn_of _ (by decide +kernel)) ggX10_init_X10_fresh
theorem dX10_init_0 : decode cX10_init 0 = .ok (.aload_n 0, 1) := by decide +kernel
theorem dX10_init_1 : decode cX10_init 1 = .ok (.invokespecial 1, 3) := by decide +kernel
theorem dX10_init_4 : decode cX10_init 4 = .ok (.aload_n 0, 1) := by decide +kernel
theorem dX10_init_5 : decode cX10_init 5 = .ok (.sipush 291, 3) := by decide +kernel
theorem dX10_init_8 : decode cX10_init 8 = .ok (.newarray .int, 2) := by decide +kernel
theorem dX10_init_10 : decode cX10_init 10 = .ok (.putfield 7, 3) := by decide +kernel
theorem dX10_init_13 : decode cX10_init 13 = .ok (.aload_n 0, 1) := by decide +kernel
theorem dX10_init_14 : decode cX10_init 14 = .ok (.sipush 291, 3) := by decide +kernel
theorem dX10_init_17 : decode cX10_init 17 = .ok (.newarray .int, 2) := by decide +kernel
theorem dX10_init_19 : decode cX10_init 19 = .ok (.putfield 13, 3) := by decide +kernel
theorem dX10_init_22 : decode cX10_init 22 = .ok (.aload_n 0, 1) := by decide +kernel
theorem dX10_init_23 : decode cX10_init 23 = .ok (.sipush 291, 3) := by decide +kernel
theorem dX10_init_26 : decode cX10_init 26 = .ok (.newarray .int, 2) := by decide +kernel
theorem dX10_init_28 : decode cX10_init 28 = .ok (.putfield 16, 3) := by decide +kernel
theorem dX10_init_31 : decode cX10_init 31 = .ok (.aload_n 0, 1) := by decide +kernel
theorem dX10_init_32 : decode cX10_init 32 = .ok (.sipush 4074, 3) := by decide +kernel
theorem dX10_init_35 : decode cX10_init 35 = .ok (.newarray .int, 2) := by decide +kernel
theorem dX10_init_37 : decode cX10_init 37 = .ok (.putfield 19, 3) := by decide +kernel
theorem dX10_init_40 : decode cX10_init 40 = .ok (.aload_n 0, 1) := by decide +kernel
theorem dX10_init_41 : decode cX10_init 41 = .ok (.sipush 582, 3) := by decide +kernel
theorem dX10_init_44 : decode cX10_init 44 = .ok (.newarray .int, 2) := by decide +kernel
theorem dX10_init_46 : decode cX10_init 46 = .ok (.putfield 22, 3) := by decide +kernel
theorem dX10_init_49 : decode cX10_init 49 = .ok (.aload_n 0, 1) := by decide +kernel
theorem dX10_init_50 : decode cX10_init 50 = .ok (.iconst 2, 1) := by decide +kernel
theorem dX10_init_51 : decode cX10_init 51 = .ok (.newarray .boolean, 2) := by decide +kernel
theorem dX10_init_53 : decode cX10_init 53 = .ok (.putfield 25, 3) := by decide +kernel
theorem dX10_init_56 : decode cX10_init 56 = .ok (.aload_n 0, 1) := by decide +kernel
theorem dX10_init_57 : decode cX10_init 57 = .ok (.bipush 120, 2) := by decide +kernel
theorem dX10_init_59 : decode cX10_init 59 = .ok (.newarray .int, 2) := by decide +kernel
theorem dX10_init_61 : decode cX10_init 61 = .ok (.putfield 29, 3) := by decide +kernel
theorem dX10_init_64 : decode cX10_init 64 = .ok (.aload_n 0, 1) := by decide +kernel
theorem dX10_init_65 : decode cX10_init 65 = .ok (.bipush 6, 2) := by decide +kernel
theorem dX10_init_67 : decode cX10_init 67 = .ok (.newarray .int, 2) := by decide +kernel
theorem dX10_init_69 : decode cX10_init 69 = .ok (.putfield 32, 3) := by decide +kernel
theorem dX10_init_72 : decode cX10_init 72 = .ok (.aload_n 0, 1) := by decide +kernel
theorem dX10_init_73 : decode cX10_init 73 = .ok (.getfield 7, 3) := by decide +kernel
theorem dX10_init_76 : decode cX10_init 76 = .ok (.invokestatic 35, 3) := by decide +kernel
theorem dX10_init_79 : decode cX10_init 79 = .ok (.return_, 1) := by decide +kernel
theorem dX10_thrown_0 : decode cX10_thrown 0 = .ok (.aload_n 0, 1) := by decide +kernel
theorem dX10_thrown_1 : decode cX10_thrown 1 = .ok (.getfield 39, 3) := by decide +kernel
theorem dX10_thrown_4 : decode cX10_thrown 4 = .ok (.ireturn, 1) := by decide +kernel
theorem dX10_refused_0 : decode cX10_refused 0 = .ok (.aload_n 0, 1) := by decide +kernel
theorem dX10_refused_1 : decode cX10_refused 1 = .ok (.iload_n 1, 1) := by decide +kernel
theorem dX10_refused_2 : decode cX10_refused 2 = .ok (.putfield 39, 3) := by decide +kernel
theorem dX10_refused_5 : decode cX10_refused 5 = .ok (.iload_n 1, 1) := by decide +kernel
theorem dX10_refused_6 : decode cX10_refused 6 = .ok (.ifCond .eq 7, 3) := by decide +kernel
theorem dX10_refused_9 : decode cX10_refused 9 = .ok (.iconst 1, 1) := by decide +kernel
theorem dX10_refused_10 : decode cX10_refused 10 = .ok (.goto 4, 3) := by decide +kernel
theorem dX10_refused_13 : decode cX10_refused 13 = .ok (.iconst 0, 1) := by decide +kernel
theorem dX10_refused_14 : decode cX10_refused 14 = .ok (.ireturn, 1) := by decide +kernel
theorem dX10_in_0 : decode cX10_in 0 = .ok (.lload_n 0, 1) := by decide +kernel
theorem dX10_in_1 : decode cX10_in 1 = .ok (.lload_n 2, 1) := by decide +kernel
theorem dX10_in_2 : decode cX10_in 2 = .ok (.lcmp, 1) := by decide +kernel
theorem dX10_in_3 : decode cX10_in 3 = .ok (.ifCond .lt 14, 3) := by decide +kernel
theorem dX10_in_6 : decode cX10_in 6 = .ok (.lload_n 0, 1) := by decide +kernel
theorem dX10_in_7 : decode cX10_in 7 = .ok (.lload 4, 2) := by decide +kernel
theorem dX10_in_9 : decode cX10_in 9 = .ok (.lcmp, 1) := by decide +kernel
theorem dX10_in_10 : decode cX10_in 10 = .ok (.ifCond .gt 7, 3) := by decide +kernel
theorem dX10_in_13 : decode cX10_in 13 = .ok (.iconst 1, 1) := by decide +kernel
theorem dX10_in_14 : decode cX10_in 14 = .ok (.goto 4, 3) := by decide +kernel
theorem dX10_in_17 : decode cX10_in 17 = .ok (.iconst 0, 1) := by decide +kernel
theorem dX10_in_18 : decode cX10_in 18 = .ok (.ireturn, 1) := by decide +kernel
theorem dX10_has_0 : decode cX10_has 0 = .ok (.iload_n 0, 1) := by decide +kernel
theorem dX10_has_1 : decode cX10_has 1 = .ok (.iload_n 1, 1) := by decide +kernel
theorem dX10_has_2 : decode cX10_has 2 = .ok (.ishr, 1) := by decide +kernel
theorem dX10_has_3 : decode cX10_has 3 = .ok (.iconst 1, 1) := by decide +kernel
theorem dX10_has_4 : decode cX10_has 4 = .ok (.iand, 1) := by decide +kernel
theorem dX10_has_5 : decode cX10_has 5 = .ok (.iconst 1, 1) := by decide +kernel
theorem dX10_has_6 : decode cX10_has 6 = .ok (.if_icmp .ne 7, 3) := by decide +kernel
theorem dX10_has_9 : decode cX10_has 9 = .ok (.iconst 1, 1) := by decide +kernel
theorem dX10_has_10 : decode cX10_has 10 = .ok (.goto 4, 3) := by decide +kernel
theorem dX10_has_13 : decode cX10_has 13 = .ok (.iconst 0, 1) := by decide +kernel
theorem dX10_has_14 : decode cX10_has 14 = .ok (.ireturn, 1) := by decide +kernel
theorem dX10_tens_0 : decode cX10_tens 0 = .ok (.lconst 1, 1) := by decide +kernel
theorem dX10_tens_1 : decode cX10_tens 1 = .ok (.lstore_n 1, 1) := by decide +kernel
theorem dX10_tens_2 : decode cX10_tens 2 = .ok (.iconst 0, 1) := by decide +kernel
theorem dX10_tens_3 : decode cX10_tens 3 = .ok (.istore_n 3, 1) := by decide +kernel
theorem dX10_tens_4 : decode cX10_tens 4 = .ok (.iload_n 3, 1) := by decide +kernel
theorem dX10_tens_5 : decode cX10_tens 5 = .ok (.iload_n 0, 1) := by decide +kernel
theorem dX10_tens_6 : decode cX10_tens 6 = .ok (.if_icmp .ge 15, 3) := by decide +kernel
theorem dX10_tens_9 : decode cX10_tens 9 = .ok (.lload_n 1, 1) := by decide +kernel
theorem dX10_tens_10 : decode cX10_tens 10 = .ok (.ldc2_w 43, 3) := by decide +kernel
theorem dX10_tens_13 : decode cX10_tens 13 = .ok (.lmul, 1) := by decide +kernel
theorem dX10_tens_14 : decode cX10_tens 14 = .ok (.lstore_n 1, 1) := by decide +kernel
theorem dX10_tens_15 : decode cX10_tens 15 = .ok (.iinc 3 1, 3) := by decide +kernel
theorem dX10_tens_18 : decode cX10_tens 18 = .ok (.goto (-14), 3) := by decide +kernel
theorem dX10_tens_21 : decode cX10_tens 21 = .ok (.lload_n 1, 1) := by decide +kernel
theorem dX10_tens_22 : decode cX10_tens 22 = .ok (.lreturn, 1) := by decide +kernel
theorem dX10_fresh_0 : decode cX10_fresh 0 = .ok (.iconst 0, 1) := by decide +kernel
theorem dX10_fresh_1 : decode cX10_fresh 1 = .ok (.istore_n 1, 1) := by decide +kernel
theorem dX10_fresh_2 : decode cX10_fresh 2 = .ok (.iload_n 1, 1) := by decide +kernel
theorem dX10_fresh_3 : decode cX10_fresh 3 = .ok (.sipush 291, 3) := by decide +kernel
theorem dX10_fresh_6 : decode cX10_fresh 6 = .ok (.if_icmp .ge 13, 3) := by decide +kernel
theorem dX10_fresh_9 : decode cX10_fresh 9 = .ok (.aload_n 0, 1) := by decide +kernel
theorem dX10_fresh_10 : decode cX10_fresh 10 = .ok (.iload_n 1, 1) := by decide +kernel
theorem dX10_fresh_11 : decode cX10_fresh 11 = .ok (.iconst 0, 1) := by decide +kernel
theorem dX10_fresh_12 : decode cX10_fresh 12 = .ok (.iastore, 1) := by decide +kernel
theorem dX10_fresh_13 : decode cX10_fresh 13 = .ok (.iinc 1 1, 3) := by decide +kernel
theorem dX10_fresh_16 : decode cX10_fresh 16 = .ok (.goto (-14), 3) := by decide +kernel
theorem dX10_fresh_19 : decode cX10_fresh 19 = .ok (.aload_n 0, 1) := by decide +kernel
theorem dX10_fresh_20 : decode cX10_fresh 20 = .ok (.iconst 3, 1) := by decide +kernel
theorem dX10_fresh_21 : decode cX10_fresh 21 = .ok (.bipush 10, 2) := by decide +kernel
theorem dX10_fresh_23 : decode cX10_fresh 23 = .ok (.iastore, 1) := by decide +kernel
theorem dX10_fresh_24 : decode cX10_fresh 24 = .ok (.aload_n 0, 1) := by decide +kernel
theorem dX10_fresh_25 : decode cX10_fresh 25 = .ok (.iconst 4, 1) := by decide +kernel
theorem dX10_fresh_26 : decode cX10_fresh 26 = .ok (.iconst 3, 1) := by decide +kernel
theorem dX10_fresh_27 : decode cX10_fresh 27 = .ok (.iastore, 1) := by decide +kernel
theorem dX10_fresh_28 : decode cX10_fresh 28 = .ok (.return_, 1) := by decide +kernel
theorem dX10_copy_0 : decode cX10_copy 0 = .ok (.iconst 0, 1) := by decide +kernel
theorem dX10_copy_1 : decode cX10_copy 1 = .ok (.istore_n 2, 1) := by decide +kernel
theorem dX10_copy_2 : decode cX10_copy 2 = .ok (.iload_n 2, 1) := by decide +kernel
theorem dX10_copy_3 : decode cX10_copy 3 = .ok (.sipush 291, 3) := by decide +kernel
theorem dX10_copy_6 : decode cX10_copy 6 = .ok (.if_icmp .ge 15, 3) := by decide +kernel
theorem dX10_copy_9 : decode cX10_copy 9 = .ok (.aload_n 1, 1) := by decide +kernel
theorem dX10_copy_10 : decode cX10_copy 10 = .ok (.iload_n 2, 1) := by decide +kernel
theorem dX10_copy_11 : decode cX10_copy 11 = .ok (.aload_n 0, 1) := by decide +kernel
theorem dX10_copy_12 : decode cX10_copy 12 = .ok (.iload_n 2, 1) := by decide +kernel
theorem dX10_copy_13 : decode cX10_copy 13 = .ok (.iaload, 1) := by decide +kernel
theorem dX10_copy_14 : decode cX10_copy 14 = .ok (.iastore, 1) := by decide +kernel
theorem dX10_copy_15 : decode cX10_copy 15 = .ok (.iinc 2 1, 3) := by decide +kernel
theorem dX10_copy_18 : decode cX10_copy 18 = .ok (.goto (-16), 3) := by decide +kernel
theorem dX10_copy_21 : decode cX10_copy 21 = .ok (.return_, 1) := by decide +kernel
set_option maxRecDepth 20000 in
theorem ggX10_isYear_X10_in : GoodIn wsX10_isYear wsX10_in := goodIn_r _ [6] (by decide +kernel) (by decide +kernel)
set_option maxRecDepth 20000 in
theorem gX10_isYear_X10_in : GoodIn wsX10_isYear (va_wsS RX10 49 yX10_in wsX10_in) := goodIn_app (goodIn_of _ (by decide +kernel)) ggX10_isYear_X10_in
theorem dX10_isYear_0 : decode cX10_isYear 0 = .ok (.iload_n 0, 1) := by decide +kernel
theorem dX10_isYear_1 : decode cX10_isYear 1 = .ok (.i2l, 1) := by decide +kernel
theorem dX10_isYear_2 : decode cX10_isYear 2 = .ok (.ldc2_w 45, 3) := by decide +kernel
theorem dX10_isYear_5 : decode cX10_isYear 5 = .ok (.ldc2_w 47, 3) := by decide +kernel
theorem dX10_isYear_8 : decode cX10_isYear 8 = .ok (.invokestatic 49, 3) := by decide +kernel
theorem dX10_isYear_11 : decode cX10_isYear 11 = .ok (.ireturn, 1) := by decide +kernel
set_option maxRecDepth 20000 in
theorem ggX10_hasReign_X10_in : GoodIn wsX10_hasReign wsX10_in := goodIn_r _ [4] (by decide +kernel) (by decide +kernel)
set_option maxRecDepth 20000 in
theorem gX10_hasReign_X10_in : GoodIn wsX10_hasReign (va_wsS RX10 49 yX10_in wsX10_in) := goodIn_app (goodIn_of _ (by decide +kernel)) ggX10_hasReign_X10_in
theorem dX10_hasReign_0 : decode cX10_hasReign 0 = .ok (.iload_n 1, 1) := by decide +kernel
theorem dX10_hasReign_1 : decode cX10_hasReign 1 = .ok (.i2l, 1) := by decide +kernel
theorem dX10_hasReign_2 : decode cX10_hasReign 2 = .ok (.lconst 0, 1) := by decide +kernel
theorem dX10_hasReign_3 : decode cX10_hasReign 3 = .ok (.aload_n 0, 1) := by decide +kernel
theorem dX10_hasReign_4 : decode cX10_hasReign 4 = .ok (.iconst 0, 1) := by decide +kernel
theorem dX10_hasReign_5 : decode cX10_hasReign 5 = .ok (.iaload, 1) := by decide +kernel
theorem dX10_hasReign_6 : decode cX10_hasReign 6 = .ok (.iconst 1, 1) := by decide +kernel
theorem dX10_hasReign_7 : decode cX10_hasReign 7 = .ok (.isub, 1) := by decide +kernel
theorem dX10_hasReign_8 : decode cX10_hasReign 8 = .ok (.i2l, 1) := by decide +kernel
theorem dX10_hasReign_9 : decode cX10_hasReign 9 = .ok (.invokestatic 49, 3) := by decide +kernel
theorem dX10_hasReign_12 : decode cX10_hasReign 12 = .ok (.ireturn, 1) := by decide +kernel
set_option maxRecDepth 20000 in
theorem ggX10_hasDie_X10_in : GoodIn wsX10_hasDie wsX10_in := goodIn_r _ [4] (by decide +kernel) (by decide +kernel)
set_option maxRecDepth 20000 in
theorem gX10_hasDie_X10_in : GoodIn wsX10_hasDie (va_wsS RX10 49 yX10_in wsX10_in) := goodIn_app (goodIn_of _ (by decide +kernel)) ggX10_hasDie_X10_in
theorem dX10_hasDie_0 : decode cX10_hasDie 0 = .ok (.iload_n 1, 1) := by decide +kernel
theorem dX10_hasDie_1 : decode cX10_hasDie 1 = .ok (.i2l, 1) := by decide +kernel
theorem dX10_hasDie_2 : decode cX10_hasDie 2 = .ok (.lconst 0, 1) := by decide +kernel
theorem dX10_hasDie_3 : decode cX10_hasDie 3 = .ok (.aload_n 0, 1) := by decide +kernel
theorem dX10_hasDie_4 : decode cX10_hasDie 4 = .ok (.iconst 1, 1) := by decide +kernel
theorem dX10_hasDie_5 : decode cX10_hasDie 5 = .ok (.iaload, 1) := by decide +kernel
theorem dX10_hasDie_6 : decode cX10_hasDie 6 = .ok (.iconst 1, 1) := by decide +kernel
theorem dX10_hasDie_7 : decode cX10_hasDie 7 = .ok (.isub, 1) := by decide +kernel
theorem dX10_hasDie_8 : decode cX10_hasDie 8 = .ok (.i2l, 1) := by decide +kernel
theorem dX10_hasDie_9 : decode cX10_hasDie 9 = .ok (.invokestatic 49, 3) := by decide +kernel
theorem dX10_hasDie_12 : decode cX10_hasDie 12 = .ok (.ireturn, 1) := by decide +kernel
set_option maxRecDepth 20000 in
theorem ggX10_hasSeal_X10_in : GoodIn wsX10_hasSeal wsX10_in := goodIn_r _ [4] (by decide +kernel) (by decide +kernel)
set_option maxRecDepth 20000 in
theorem gX10_hasSeal_X10_in : GoodIn wsX10_hasSeal (va_wsS RX10 49 yX10_in wsX10_in) := goodIn_app (goodIn_of _ (by decide +kernel)) ggX10_hasSeal_X10_in
theorem dX10_hasSeal_0 : decode cX10_hasSeal 0 = .ok (.iload_n 1, 1) := by decide +kernel
theorem dX10_hasSeal_1 : decode cX10_hasSeal 1 = .ok (.i2l, 1) := by decide +kernel
theorem dX10_hasSeal_2 : decode cX10_hasSeal 2 = .ok (.lconst 0, 1) := by decide +kernel
theorem dX10_hasSeal_3 : decode cX10_hasSeal 3 = .ok (.aload_n 0, 1) := by decide +kernel
theorem dX10_hasSeal_4 : decode cX10_hasSeal 4 = .ok (.iconst 2, 1) := by decide +kernel
theorem dX10_hasSeal_5 : decode cX10_hasSeal 5 = .ok (.iaload, 1) := by decide +kernel
theorem dX10_hasSeal_6 : decode cX10_hasSeal 6 = .ok (.iconst 1, 1) := by decide +kernel
theorem dX10_hasSeal_7 : decode cX10_hasSeal 7 = .ok (.isub, 1) := by decide +kernel
theorem dX10_hasSeal_8 : decode cX10_hasSeal 8 = .ok (.i2l, 1) := by decide +kernel
theorem dX10_hasSeal_9 : decode cX10_hasSeal 9 = .ok (.invokestatic 49, 3) := by decide +kernel
theorem dX10_hasSeal_12 : decode cX10_hasSeal 12 = .ok (.ireturn, 1) := by decide +kernel
set_option maxRecDepth 20000 in
theorem ggX10_isCharter_X10_in : GoodIn wsX10_isCharter wsX10_in := goodIn_r _ [5] (by decide +kernel) (by decide +kernel)
set_option maxRecDepth 20000 in
theorem gX10_isCharter_X10_in : GoodIn wsX10_isCharter (va_wsS RX10 49 yX10_in wsX10_in) := goodIn_app (goodIn_of _ (by decide +kernel)) ggX10_isCharter_X10_in
theorem dX10_isCharter_0 : decode cX10_isCharter 0 = .ok (.iload_n 0, 1) := by decide +kernel
theorem dX10_isCharter_1 : decode cX10_isCharter 1 = .ok (.i2l, 1) := by decide +kernel
theorem dX10_isCharter_2 : decode cX10_isCharter 2 = .ok (.lconst 0, 1) := by decide +kernel
theorem dX10_isCharter_3 : decode cX10_isCharter 3 = .ok (.ldc2_w 53, 3) := by decide +kernel
theorem dX10_isCharter_6 : decode cX10_isCharter 6 = .ok (.invokestatic 49, 3) := by decide +kernel
theorem dX10_isCharter_9 : decode cX10_isCharter 9 = .ok (.ireturn, 1) := by decide +kernel
set_option maxRecDepth 20000 in
theorem ggX10_isShelf_X10_in : GoodIn wsX10_isShelf wsX10_in := goodIn_r _ [5] (by decide +kernel) (by decide +kernel)
set_option maxRecDepth 20000 in
theorem gX10_isShelf_X10_in : GoodIn wsX10_isShelf (va_wsS RX10 49 yX10_in wsX10_in) := goodIn_app (goodIn_of _ (by decide +kernel)) ggX10_isShelf_X10_in
theorem dX10_isShelf_0 : decode cX10_isShelf 0 = .ok (.iload_n 0, 1) := by decide +kernel
theorem dX10_isShelf_1 : decode cX10_isShelf 1 = .ok (.i2l, 1) := by decide +kernel
theorem dX10_isShelf_2 : decode cX10_isShelf 2 = .ok (.lconst 0, 1) := by decide +kernel
theorem dX10_isShelf_3 : decode cX10_isShelf 3 = .ok (.ldc2_w 53, 3) := by decide +kernel
theorem dX10_isShelf_6 : decode cX10_isShelf 6 = .ok (.invokestatic 49, 3) := by decide +kernel
theorem dX10_isShelf_9 : decode cX10_isShelf 9 = .ok (.ireturn, 1) := by decide +kernel
theorem dX10_ends_0 : decode cX10_ends 0 = .ok (.iload_n 1, 1) := by decide +kernel
theorem dX10_ends_1 : decode cX10_ends 1 = .ok (.iconst 1, 1) := by decide +kernel
theorem dX10_ends_2 : decode cX10_ends 2 = .ok (.iadd, 1) := by decide +kernel
theorem dX10_ends_3 : decode cX10_ends 3 = .ok (.aload_n 0, 1) := by decide +kernel
theorem dX10_ends_4 : decode cX10_ends 4 = .ok (.iconst 0, 1) := by decide +kernel
theorem dX10_ends_5 : decode cX10_ends 5 = .ok (.iaload, 1) := by decide +kernel
theorem dX10_ends_6 : decode cX10_ends 6 = .ok (.if_icmp .ge 15, 3) := by decide +kernel
theorem dX10_ends_9 : decode cX10_ends 9 = .ok (.aload_n 0, 1) := by decide +kernel
theorem dX10_ends_10 : decode cX10_ends 10 = .ok (.iconst 5, 1) := by decide +kernel
theorem dX10_ends_11 : decode cX10_ends 11 = .ok (.iload_n 1, 1) := by decide +kernel
theorem dX10_ends_12 : decode cX10_ends 12 = .ok (.iadd, 1) := by decide +kernel
theorem dX10_ends_13 : decode cX10_ends 13 = .ok (.iconst 1, 1) := by decide +kernel
theorem dX10_ends_14 : decode cX10_ends 14 = .ok (.iadd, 1) := by decide +kernel
theorem dX10_ends_15 : decode cX10_ends 15 = .ok (.iaload, 1) := by decide +kernel
theorem dX10_ends_16 : decode cX10_ends 16 = .ok (.iconst 1, 1) := by decide +kernel
theorem dX10_ends_17 : decode cX10_ends 17 = .ok (.isub, 1) := by decide +kernel
theorem dX10_ends_18 : decode cX10_ends 18 = .ok (.goto 6, 3) := by decide +kernel
theorem dX10_ends_21 : decode cX10_ends 21 = .ok (.sipush 1999, 3) := by decide +kernel
theorem dX10_ends_24 : decode cX10_ends 24 = .ok (.ireturn, 1) := by decide +kernel
set_option maxRecDepth 20000 in
theorem ggX10_lowOf_X10_has : GoodIn wsX10_lowOf wsX10_has := goodIn_r _ [4] (by decide +kernel) (by decide +kernel)
set_option maxRecDepth 20000 in
theorem gX10_lowOf_X10_has : GoodIn wsX10_lowOf (va_wsS RX10 55 yX10_has wsX10_has) := goodIn_app (goodIn_of _ (by decide +kernel)) ggX10_lowOf_X10_has
theorem dX10_lowOf_0 : decode cX10_lowOf 0 = .ok (.aload_n 0, 1) := by decide +kernel
theorem dX10_lowOf_1 : decode cX10_lowOf 1 = .ok (.bipush 105, 2) := by decide +kernel
theorem dX10_lowOf_3 : decode cX10_lowOf 3 = .ok (.iload_n 1, 1) := by decide +kernel
theorem dX10_lowOf_4 : decode cX10_lowOf 4 = .ok (.iadd, 1) := by decide +kernel
theorem dX10_lowOf_5 : decode cX10_lowOf 5 = .ok (.iaload, 1) := by decide +kernel
theorem dX10_lowOf_6 : decode cX10_lowOf 6 = .ok (.istore_n 2, 1) := by decide +kernel
theorem dX10_lowOf_7 : decode cX10_lowOf 7 = .ok (.aload_n 0, 1) := by decide +kernel
theorem dX10_lowOf_8 : decode cX10_lowOf 8 = .ok (.bipush 35, 2) := by decide +kernel
theorem dX10_lowOf_10 : decode cX10_lowOf 10 = .ok (.iload_n 2, 1) := by decide +kernel
theorem dX10_lowOf_11 : decode cX10_lowOf 11 = .ok (.iadd, 1) := by decide +kernel
theorem dX10_lowOf_12 : decode cX10_lowOf 12 = .ok (.iaload, 1) := by decide +kernel
theorem dX10_lowOf_13 : decode cX10_lowOf 13 = .ok (.istore_n 3, 1) := by decide +kernel
theorem dX10_lowOf_14 : decode cX10_lowOf 14 = .ok (.iconst 0, 1) := by decide +kernel
theorem dX10_lowOf_15 : decode cX10_lowOf 15 = .ok (.istore 4, 2) := by decide +kernel
theorem dX10_lowOf_17 : decode cX10_lowOf 17 = .ok (.iload 4, 2) := by decide +kernel
theorem dX10_lowOf_19 : decode cX10_lowOf 19 = .ok (.aload_n 0, 1) := by decide +kernel
theorem dX10_lowOf_20 : decode cX10_lowOf 20 = .ok (.bipush 55, 2) := by decide +kernel
theorem dX10_lowOf_22 : decode cX10_lowOf 22 = .ok (.iload_n 2, 1) := by decide +kernel
theorem dX10_lowOf_23 : decode cX10_lowOf 23 = .ok (.iadd, 1) := by decide +kernel
theorem dX10_lowOf_24 : decode cX10_lowOf 24 = .ok (.iaload, 1) := by decide +kernel
theorem dX10_lowOf_25 : decode cX10_lowOf 25 = .ok (.if_icmp .ge 50, 3) := by decide +kernel
theorem dX10_lowOf_28 : decode cX10_lowOf 28 = .ok (.aload_n 0, 1) := by decide +kernel
theorem dX10_lowOf_29 : decode cX10_lowOf 29 = .ok (.bipush 65, 2) := by decide +kernel
theorem dX10_lowOf_31 : decode cX10_lowOf 31 = .ok (.iconst 4, 1) := by decide +kernel
theorem dX10_lowOf_32 : decode cX10_lowOf 32 = .ok (.iload_n 2, 1) := by decide +kernel
theorem dX10_lowOf_33 : decode cX10_lowOf 33 = .ok (.imul, 1) := by decide +kernel
theorem dX10_lowOf_34 : decode cX10_lowOf 34 = .ok (.iadd, 1) := by decide +kernel
theorem dX10_lowOf_35 : decode cX10_lowOf 35 = .ok (.iload 4, 2) := by decide +kernel
theorem dX10_lowOf_37 : decode cX10_lowOf 37 = .ok (.iadd, 1) := by decide +kernel
theorem dX10_lowOf_38 : decode cX10_lowOf 38 = .ok (.iaload, 1) := by decide +kernel
theorem dX10_lowOf_39 : decode cX10_lowOf 39 = .ok (.istore 5, 2) := by decide +kernel
theorem dX10_lowOf_41 : decode cX10_lowOf 41 = .ok (.aload_n 0, 1) := by decide +kernel
theorem dX10_lowOf_42 : decode cX10_lowOf 42 = .ok (.sipush 201, 3) := by decide +kernel
theorem dX10_lowOf_45 : decode cX10_lowOf 45 = .ok (.iload_n 1, 1) := by decide +kernel
theorem dX10_lowOf_46 : decode cX10_lowOf 46 = .ok (.iadd, 1) := by decide +kernel
theorem dX10_lowOf_47 : decode cX10_lowOf 47 = .ok (.iaload, 1) := by decide +kernel
theorem dX10_lowOf_48 : decode cX10_lowOf 48 = .ok (.iload 4, 2) := by decide +kernel
theorem dX10_lowOf_50 : decode cX10_lowOf 50 = .ok (.invokestatic 55, 3) := by decide +kernel
theorem dX10_lowOf_53 : decode cX10_lowOf 53 = .ok (.ifCond .eq 14, 3) := by decide +kernel
theorem dX10_lowOf_56 : decode cX10_lowOf 56 = .ok (.iload 5, 2) := by decide +kernel
theorem dX10_lowOf_58 : decode cX10_lowOf 58 = .ok (.iload_n 3, 1) := by decide +kernel
theorem dX10_lowOf_59 : decode cX10_lowOf 59 = .ok (.if_icmp .le 8, 3) := by decide +kernel
theorem dX10_lowOf_62 : decode cX10_lowOf 62 = .ok (.iload 5, 2) := by decide +kernel
theorem dX10_lowOf_64 : decode cX10_lowOf 64 = .ok (.goto 4, 3) := by decide +kernel
theorem dX10_lowOf_67 : decode cX10_lowOf 67 = .ok (.iload_n 3, 1) := by decide +kernel
theorem dX10_lowOf_68 : decode cX10_lowOf 68 = .ok (.istore_n 3, 1) := by decide +kernel
theorem dX10_lowOf_69 : decode cX10_lowOf 69 = .ok (.iinc 4 1, 3) := by decide +kernel
theorem dX10_lowOf_72 : decode cX10_lowOf 72 = .ok (.goto (-55), 3) := by decide +kernel
theorem dX10_lowOf_75 : decode cX10_lowOf 75 = .ok (.iload_n 3, 1) := by decide +kernel
theorem dX10_lowOf_76 : decode cX10_lowOf 76 = .ok (.ireturn, 1) := by decide +kernel
set_option maxRecDepth 20000 in
theorem ggX10_highOf_X10_has : GoodIn wsX10_highOf wsX10_has := goodIn_r _ [4] (by decide +kernel) (by decide +kernel)
set_option maxRecDepth 20000 in
theorem gX10_highOf_X10_has : GoodIn wsX10_highOf (va_wsS RX10 55 yX10_has wsX10_has) := goodIn_app (goodIn_of _ (by decide +kernel)) ggX10_highOf_X10_has
theorem dX10_highOf_0 : decode cX10_highOf 0 = .ok (.aload_n 0, 1) := by decide +kernel
theorem dX10_highOf_1 : decode cX10_highOf 1 = .ok (.bipush 105, 2) := by decide +kernel
theorem dX10_highOf_3 : decode cX10_highOf 3 = .ok (.iload_n 1, 1) := by decide +kernel
theorem dX10_highOf_4 : decode cX10_highOf 4 = .ok (.iadd, 1) := by decide +kernel
theorem dX10_highOf_5 : decode cX10_highOf 5 = .ok (.iaload, 1) := by decide +kernel
theorem dX10_highOf_6 : decode cX10_highOf 6 = .ok (.istore_n 2, 1) := by decide +kernel
theorem dX10_highOf_7 : decode cX10_highOf 7 = .ok (.aload_n 0, 1) := by decide +kernel
theorem dX10_highOf_8 : decode cX10_highOf 8 = .ok (.bipush 45, 2) := by decide +kernel
theorem dX10_highOf_10 : decode cX10_highOf 10 = .ok (.iload_n 2, 1) := by decide +kernel
theorem dX10_highOf_11 : decode cX10_highOf 11 = .ok (.iadd, 1) := by decide +kernel
theorem dX10_highOf_12 : decode cX10_highOf 12 = .ok (.iaload, 1) := by decide +kernel
theorem dX10_highOf_13 : decode cX10_highOf 13 = .ok (.istore_n 3, 1) := by decide +kernel
theorem dX10_highOf_14 : decode cX10_highOf 14 = .ok (.iconst 0, 1) := by decide +kernel
theorem dX10_highOf_15 : decode cX10_highOf 15 = .ok (.istore 4, 2) := by decide +kernel
theorem dX10_highOf_17 : decode cX10_highOf 17 = .ok (.iload 4, 2) := by decide +kernel
theorem dX10_highOf_19 : decode cX10_highOf 19 = .ok (.aload_n 0, 1) := by decide +kernel
theorem dX10_highOf_20 : decode cX10_highOf 20 = .ok (.bipush 55, 2) := by decide +kernel
theorem dX10_highOf_22 : decode cX10_highOf 22 = .ok (.iload_n 2, 1) := by decide +kernel
theorem dX10_highOf_23 : decode cX10_highOf 23 = .ok (.iadd, 1) := by decide +kernel
theorem dX10_highOf_24 : decode cX10_highOf 24 = .ok (.iaload, 1) := by decide +kernel
theorem dX10_highOf_25 : decode cX10_highOf 25 = .ok (.if_icmp .ge 50, 3) := by decide +kernel
theorem dX10_highOf_28 : decode cX10_highOf 28 = .ok (.aload_n 0, 1) := by decide +kernel
theorem dX10_highOf_29 : decode cX10_highOf 29 = .ok (.bipush 65, 2) := by decide +kernel
theorem dX10_highOf_31 : decode cX10_highOf 31 = .ok (.iconst 4, 1) := by decide +kernel
theorem dX10_highOf_32 : decode cX10_highOf 32 = .ok (.iload_n 2, 1) := by decide +kernel
theorem dX10_highOf_33 : decode cX10_highOf 33 = .ok (.imul, 1) := by decide +kernel
theorem dX10_highOf_34 : decode cX10_highOf 34 = .ok (.iadd, 1) := by decide +kernel
theorem dX10_highOf_35 : decode cX10_highOf 35 = .ok (.iload 4, 2) := by decide +kernel
theorem dX10_highOf_37 : decode cX10_highOf 37 = .ok (.iadd, 1) := by decide +kernel
theorem dX10_highOf_38 : decode cX10_highOf 38 = .ok (.iaload, 1) := by decide +kernel
theorem dX10_highOf_39 : decode cX10_highOf 39 = .ok (.istore 5, 2) := by decide +kernel
theorem dX10_highOf_41 : decode cX10_highOf 41 = .ok (.aload_n 0, 1) := by decide +kernel
theorem dX10_highOf_42 : decode cX10_highOf 42 = .ok (.sipush 201, 3) := by decide +kernel
theorem dX10_highOf_45 : decode cX10_highOf 45 = .ok (.iload_n 1, 1) := by decide +kernel
theorem dX10_highOf_46 : decode cX10_highOf 46 = .ok (.iadd, 1) := by decide +kernel
theorem dX10_highOf_47 : decode cX10_highOf 47 = .ok (.iaload, 1) := by decide +kernel
theorem dX10_highOf_48 : decode cX10_highOf 48 = .ok (.iload 4, 2) := by decide +kernel
theorem dX10_highOf_50 : decode cX10_highOf 50 = .ok (.invokestatic 55, 3) := by decide +kernel
theorem dX10_highOf_53 : decode cX10_highOf 53 = .ok (.ifCond .ne 14, 3) := by decide +kernel
theorem dX10_highOf_56 : decode cX10_highOf 56 = .ok (.iload 5, 2) := by decide +kernel
theorem dX10_highOf_58 : decode cX10_highOf 58 = .ok (.iload_n 3, 1) := by decide +kernel
theorem dX10_highOf_59 : decode cX10_highOf 59 = .ok (.if_icmp .ge 8, 3) := by decide +kernel
theorem dX10_highOf_62 : decode cX10_highOf 62 = .ok (.iload 5, 2) := by decide +kernel
theorem dX10_highOf_64 : decode cX10_highOf 64 = .ok (.goto 4, 3) := by decide +kernel
theorem dX10_highOf_67 : decode cX10_highOf 67 = .ok (.iload_n 3, 1) := by decide +kernel
theorem dX10_highOf_68 : decode cX10_highOf 68 = .ok (.istore_n 3, 1) := by decide +kernel
theorem dX10_highOf_69 : decode cX10_highOf 69 = .ok (.iinc 4 1, 3) := by decide +kernel
theorem dX10_highOf_72 : decode cX10_highOf 72 = .ok (.goto (-55), 3) := by decide +kernel
theorem dX10_highOf_75 : decode cX10_highOf 75 = .ok (.iload_n 3, 1) := by decide +kernel
theorem dX10_highOf_76 : decode cX10_highOf 76 = .ok (.ireturn, 1) := by decide +kernel
theorem dX10_maskOf_0 : decode cX10_maskOf 0 = .ok (.aload_n 0, 1) := by decide +kernel
theorem dX10_maskOf_1 : decode cX10_maskOf 1 = .ok (.sipush 153, 3) := by decide +kernel
theorem dX10_maskOf_4 : decode cX10_maskOf 4 = .ok (.iload_n 1, 1) := by decide +kernel
theorem dX10_maskOf_5 : decode cX10_maskOf 5 = .ok (.iadd, 1) := by decide +kernel
theorem dX10_maskOf_6 : decode cX10_maskOf 6 = .ok (.iaload, 1) := by decide +kernel
theorem dX10_maskOf_7 : decode cX10_maskOf 7 = .ok (.iconst (-1), 1) := by decide +kernel
theorem dX10_maskOf_8 : decode cX10_maskOf 8 = .ok (.if_icmp .ne 7, 3) := by decide +kernel
theorem dX10_maskOf_11 : decode cX10_maskOf 11 = .ok (.iconst 0, 1) := by decide +kernel
theorem dX10_maskOf_12 : decode cX10_maskOf 12 = .ok (.goto 12, 3) := by decide +kernel
theorem dX10_maskOf_15 : decode cX10_maskOf 15 = .ok (.iconst 1, 1) := by decide +kernel
theorem dX10_maskOf_16 : decode cX10_maskOf 16 = .ok (.aload_n 0, 1) := by decide +kernel
theorem dX10_maskOf_17 : decode cX10_maskOf 17 = .ok (.sipush 153, 3) := by decide +kernel
theorem dX10_maskOf_20 : decode cX10_maskOf 20 = .ok (.iload_n 1, 1) := by decide +kernel
theorem dX10_maskOf_21 : decode cX10_maskOf 21 = .ok (.iadd, 1) := by decide +kernel
theorem dX10_maskOf_22 : decode cX10_maskOf 22 = .ok (.iaload, 1) := by decide +kernel
theorem dX10_maskOf_23 : decode cX10_maskOf 23 = .ok (.ishl, 1) := by decide +kernel
theorem dX10_maskOf_24 : decode cX10_maskOf 24 = .ok (.ireturn, 1) := by decide +kernel
set_option maxRecDepth 20000 in
theorem ggX10_years_X10_ends : GoodIn wsX10_years wsX10_ends := goodIn_r _ [4] (by decide +kernel) (by decide +kernel)
set_option maxRecDepth 20000 in
theorem gX10_years_X10_ends : GoodIn wsX10_years (va_wsS RX10 59 yX10_ends wsX10_ends) := goodIn_app (goodIn_of _ (by decide +kernel)) ggX10_years_X10_ends
theorem dX10_years_0 : decode cX10_years 0 = .ok (.iconst (-1), 1) := by decide +kernel
theorem dX10_years_1 : decode cX10_years 1 = .ok (.istore 5, 2) := by decide +kernel
theorem dX10_years_3 : decode cX10_years 3 = .ok (.iconst (-1), 1) := by decide +kernel
theorem dX10_years_4 : decode cX10_years 4 = .ok (.istore 6, 2) := by decide +kernel
theorem dX10_years_6 : decode cX10_years 6 = .ok (.iconst 0, 1) := by decide +kernel
theorem dX10_years_7 : decode cX10_years 7 = .ok (.istore 7, 2) := by decide +kernel
theorem dX10_years_9 : decode cX10_years 9 = .ok (.iconst 0, 1) := by decide +kernel
theorem dX10_years_10 : decode cX10_years 10 = .ok (.istore 8, 2) := by decide +kernel
theorem dX10_years_12 : decode cX10_years 12 = .ok (.iload 8, 2) := by decide +kernel
theorem dX10_years_14 : decode cX10_years 14 = .ok (.iload_n 3, 1) := by decide +kernel
theorem dX10_years_15 : decode cX10_years 15 = .ok (.ifCond .ne 7, 3) := by decide +kernel
theorem dX10_years_18 : decode cX10_years 18 = .ok (.iconst 1, 1) := by decide +kernel
theorem dX10_years_19 : decode cX10_years 19 = .ok (.goto 6, 3) := by decide +kernel
theorem dX10_years_22 : decode cX10_years 22 = .ok (.aload_n 0, 1) := by decide +kernel
theorem dX10_years_23 : decode cX10_years 23 = .ok (.iconst 0, 1) := by decide +kernel
theorem dX10_years_24 : decode cX10_years 24 = .ok (.iaload, 1) := by decide +kernel
theorem dX10_years_25 : decode cX10_years 25 = .ok (.if_icmp .ge 147, 3) := by decide +kernel
theorem dX10_years_28 : decode cX10_years 28 = .ok (.iload_n 3, 1) := by decide +kernel
theorem dX10_years_29 : decode cX10_years 29 = .ok (.ifCond .eq 13, 3) := by decide +kernel
theorem dX10_years_32 : decode cX10_years 32 = .ok (.aload_n 0, 1) := by decide +kernel
theorem dX10_years_33 : decode cX10_years 33 = .ok (.iconst 5, 1) := by decide +kernel
theorem dX10_years_34 : decode cX10_years 34 = .ok (.iload 8, 2) := by decide +kernel
theorem dX10_years_36 : decode cX10_years 36 = .ok (.iadd, 1) := by decide +kernel
theorem dX10_years_37 : decode cX10_years 37 = .ok (.iaload, 1) := by decide +kernel
theorem dX10_years_38 : decode cX10_years 38 = .ok (.iload_n 1, 1) := by decide +kernel
theorem dX10_years_39 : decode cX10_years 39 = .ok (.if_icmp .ge 7, 3) := by decide +kernel
theorem dX10_years_42 : decode cX10_years 42 = .ok (.iload_n 1, 1) := by decide +kernel
theorem dX10_years_43 : decode cX10_years 43 = .ok (.goto 9, 3) := by decide +kernel
theorem dX10_years_46 : decode cX10_years 46 = .ok (.aload_n 0, 1) := by decide +kernel
theorem dX10_years_47 : decode cX10_years 47 = .ok (.iconst 5, 1) := by decide +kernel
theorem dX10_years_48 : decode cX10_years 48 = .ok (.iload 8, 2) := by decide +kernel
theorem dX10_years_50 : decode cX10_years 50 = .ok (.iadd, 1) := by decide +kernel
theorem dX10_years_51 : decode cX10_years 51 = .ok (.iaload, 1) := by decide +kernel
theorem dX10_years_52 : decode cX10_years 52 = .ok (.istore 9, 2) := by decide +kernel
theorem dX10_years_54 : decode cX10_years 54 = .ok (.iload_n 3, 1) := by decide +kernel
theorem dX10_years_55 : decode cX10_years 55 = .ok (.ifCond .eq 13, 3) := by decide +kernel
theorem dX10_years_58 : decode cX10_years 58 = .ok (.aload_n 0, 1) := by decide +kernel
theorem dX10_years_59 : decode cX10_years 59 = .ok (.iload 8, 2) := by decide +kernel
theorem dX10_years_61 : decode cX10_years 61 = .ok (.invokestatic 59, 3) := by decide +kernel
theorem dX10_years_64 : decode cX10_years 64 = .ok (.iload_n 2, 1) := by decide +kernel
theorem dX10_years_65 : decode cX10_years 65 = .ok (.if_icmp .le 7, 3) := by decide +kernel
theorem dX10_years_68 : decode cX10_years 68 = .ok (.iload_n 2, 1) := by decide +kernel
theorem dX10_years_69 : decode cX10_years 69 = .ok (.goto 9, 3) := by decide +kernel
theorem dX10_years_72 : decode cX10_years 72 = .ok (.aload_n 0, 1) := by decide +kernel
theorem dX10_years_73 : decode cX10_years 73 = .ok (.iload 8, 2) := by decide +kernel
theorem dX10_years_75 : decode cX10_years 75 = .ok (.invokestatic 59, 3) := by decide +kernel
theorem dX10_years_78 : decode cX10_years 78 = .ok (.istore 10, 2) := by decide +kernel
theorem dX10_years_80 : decode cX10_years 80 = .ok (.iload 9, 2) := by decide +kernel
theorem dX10_years_82 : decode cX10_years 82 = .ok (.iload 10, 2) := by decide +kernel
theorem dX10_years_84 : decode cX10_years 84 = .ok (.if_icmp .gt 24, 3) := by decide +kernel
theorem dX10_years_87 : decode cX10_years 87 = .ok (.iload_n 3, 1) := by decide +kernel
theorem dX10_years_88 : decode cX10_years 88 = .ok (.ifCond .eq 16, 3) := by decide +kernel
theorem dX10_years_91 : decode cX10_years 91 = .ok (.aload_n 0, 1) := by decide +kernel
theorem dX10_years_92 : decode cX10_years 92 = .ok (.bipush 15, 2) := by decide +kernel
theorem dX10_years_94 : decode cX10_years 94 = .ok (.iload 8, 2) := by decide +kernel
theorem dX10_years_96 : decode cX10_years 96 = .ok (.iadd, 1) := by decide +kernel
theorem dX10_years_97 : decode cX10_years 97 = .ok (.iaload, 1) := by decide +kernel
theorem dX10_years_98 : decode cX10_years 98 = .ok (.iload_n 3, 1) := by decide +kernel
theorem dX10_years_99 : decode cX10_years 99 = .ok (.iand, 1) := by decide +kernel
theorem dX10_years_100 : decode cX10_years 100 = .ok (.iload_n 3, 1) := by decide +kernel
theorem dX10_years_101 : decode cX10_years 101 = .ok (.if_icmp .ne 7, 3) := by decide +kernel
theorem dX10_years_104 : decode cX10_years 104 = .ok (.iconst 1, 1) := by decide +kernel
theorem dX10_years_105 : decode cX10_years 105 = .ok (.goto 4, 3) := by decide +kernel
theorem dX10_years_108 : decode cX10_years 108 = .ok (.iconst 0, 1) := by decide +kernel
theorem dX10_years_109 : decode cX10_years 109 = .ok (.istore 11, 2) := by decide +kernel
theorem dX10_years_111 : decode cX10_years 111 = .ok (.iload 11, 2) := by decide +kernel
theorem dX10_years_113 : decode cX10_years 113 = .ok (.ifCond .eq 14, 3) := by decide +kernel
theorem dX10_years_116 : decode cX10_years 116 = .ok (.iload 5, 2) := by decide +kernel
theorem dX10_years_118 : decode cX10_years 118 = .ok (.iconst (-1), 1) := by decide +kernel
theorem dX10_years_119 : decode cX10_years 119 = .ok (.if_icmp .ne 8, 3) := by decide +kernel
theorem dX10_years_122 : decode cX10_years 122 = .ok (.iload 9, 2) := by decide +kernel
theorem dX10_years_124 : decode cX10_years 124 = .ok (.goto 5, 3) := by decide +kernel
theorem dX10_years_127 : decode cX10_years 127 = .ok (.iload 5, 2) := by decide +kernel
theorem dX10_years_129 : decode cX10_years 129 = .ok (.istore 5, 2) := by decide +kernel
theorem dX10_years_131 : decode cX10_years 131 = .ok (.iload 11, 2) := by decide +kernel
theorem dX10_years_133 : decode cX10_years 133 = .ok (.ifCond .eq 8, 3) := by decide +kernel
theorem dX10_years_136 : decode cX10_years 136 = .ok (.iload 10, 2) := by decide +kernel
theorem dX10_years_138 : decode cX10_years 138 = .ok (.goto 5, 3) := by decide +kernel
theorem dX10_years_141 : decode cX10_years 141 = .ok (.iload 6, 2) := by decide +kernel
theorem dX10_years_143 : decode cX10_years 143 = .ok (.istore 6, 2) := by decide +kernel
theorem dX10_years_145 : decode cX10_years 145 = .ok (.iload 7, 2) := by decide +kernel
theorem dX10_years_147 : decode cX10_years 147 = .ok (.iload 11, 2) := by decide +kernel
theorem dX10_years_149 : decode cX10_years 149 = .ok (.ifCond .eq 13, 3) := by decide +kernel
theorem dX10_years_152 : decode cX10_years 152 = .ok (.iload 10, 2) := by decide +kernel
theorem dX10_years_154 : decode cX10_years 154 = .ok (.iload 9, 2) := by decide +kernel
theorem dX10_years_156 : decode cX10_years 156 = .ok (.isub, 1) := by decide +kernel
theorem dX10_years_157 : decode cX10_years 157 = .ok (.iconst 1, 1) := by decide +kernel
theorem dX10_years_158 : decode cX10_years 158 = .ok (.iadd, 1) := by decide +kernel
theorem dX10_years_159 : decode cX10_years 159 = .ok (.goto 4, 3) := by decide +kernel
theorem dX10_years_162 : decode cX10_years 162 = .ok (.iconst 0, 1) := by decide +kernel
theorem dX10_years_163 : decode cX10_years 163 = .ok (.iadd, 1) := by decide +kernel
theorem dX10_years_164 : decode cX10_years 164 = .ok (.istore 7, 2) := by decide +kernel
theorem dX10_years_166 : decode cX10_years 166 = .ok (.iinc 8 1, 3) := by decide +kernel
theorem dX10_years_169 : decode cX10_years 169 = .ok (.goto (-157), 3) := by decide +kernel
theorem dX10_years_172 : decode cX10_years 172 = .ok (.iload 4, 2) := by decide +kernel
theorem dX10_years_174 : decode cX10_years 174 = .ok (.ifCond .ne 8, 3) := by decide +kernel
theorem dX10_years_177 : decode cX10_years 177 = .ok (.iload 5, 2) := by decide +kernel
theorem dX10_years_179 : decode cX10_years 179 = .ok (.goto 16, 3) := by decide +kernel
theorem dX10_years_182 : decode cX10_years 182 = .ok (.iload 4, 2) := by decide +kernel
theorem dX10_years_184 : decode cX10_years 184 = .ok (.iconst 1, 1) := by decide +kernel
theorem dX10_years_185 : decode cX10_years 185 = .ok (.if_icmp .ne 8, 3) := by decide +kernel
theorem dX10_years_188 : decode cX10_years 188 = .ok (.iload 6, 2) := by decide +kernel
theorem dX10_years_190 : decode cX10_years 190 = .ok (.goto 5, 3) := by decide +kernel
theorem dX10_years_193 : decode cX10_years 193 = .ok (.iload 7, 2) := by decide +kernel
theorem dX10_years_195 : decode cX10_years 195 = .ok (.ireturn, 1) := by decide +kernel
set_option maxRecDepth 20000 in
theorem ggX10_yearsOf_X10_lowOf : GoodIn wsX10_yearsOf wsX10_lowOf := goodIn_r _ [4, 5, 6, 3, 7] (by decide +kernel) (by decide +kernel)
set_option maxRecDepth 20000 in
theorem gX10_yearsOf_X10_lowOf : GoodIn wsX10_yearsOf (va_wsS RX10 63 yX10_lowOf wsX10_lowOf) := goodIn_app (goodIn_of _ (by decide +kernel)) ggX10_yearsOf_X10_lowOf
set_option maxRecDepth 20000 in
theorem ggX10_yearsOf_X10_highOf : GoodIn wsX10_yearsOf wsX10_highOf := goodIn_r _ [10, 5, 6, 3, 7] (by decide +kernel) (by decide +kernel)
set_option maxRecDepth 20000 in
theorem gX10_yearsOf_X10_highOf : GoodIn wsX10_yearsOf (va_wsS RX10 66 yX10_highOf wsX10_highOf) := goodIn_app (goodIn_of _ (by decide +kernel)) ggX10_yearsOf_X10_highOf
set_option maxRecDepth 20000 in
theorem ggX10_yearsOf_X10_maskOf : GoodIn wsX10_yearsOf wsX10_maskOf := goodIn_r _ [13] (by decide +kernel) (by decide +kernel)
set_option maxRecDepth 20000 in
theorem gX10_yearsOf_X10_maskOf : GoodIn wsX10_yearsOf (va_wsS RX10 69 yX10_maskOf wsX10_maskOf) := goodIn_app (goodIn_of _ (by decide +kernel)) ggX10_yearsOf_X10_maskOf
set_option maxRecDepth 20000 in
theorem ggX10_yearsOf_X10_years : GoodIn wsX10_yearsOf wsX10_years := goodIn_r _ [16, 17, 18, 3, 19] (by decide +kernel) (by decide +kernel)
set_option maxRecDepth 20000 in
theorem gX10_yearsOf_X10_years : GoodIn wsX10_yearsOf (va_wsS RX10 72 yX10_years wsX10_years) := goodIn_app (goodIn_of _ (by decide +kernel)) ggX10_yearsOf_X10_years
theorem dX10_yearsOf_0 : decode cX10_yearsOf 0 = .ok (.aload_n 0, 1) := by decide +kernel
theorem dX10_yearsOf_1 : decode cX10_yearsOf 1 = .ok (.aload_n 0, 1) := by decide +kernel
theorem dX10_yearsOf_2 : decode cX10_yearsOf 2 = .ok (.iload_n 1, 1) := by decide +kernel
theorem dX10_yearsOf_3 : decode cX10_yearsOf 3 = .ok (.invokestatic 63, 3) := by decide +kernel
theorem dX10_yearsOf_6 : decode cX10_yearsOf 6 = .ok (.aload_n 0, 1) := by decide +kernel
theorem dX10_yearsOf_7 : decode cX10_yearsOf 7 = .ok (.iload_n 1, 1) := by decide +kernel
theorem dX10_yearsOf_8 : decode cX10_yearsOf 8 = .ok (.invokestatic 66, 3) := by decide +kernel
theorem dX10_yearsOf_11 : decode cX10_yearsOf 11 = .ok (.aload_n 0, 1) := by decide +kernel
theorem dX10_yearsOf_12 : decode cX10_yearsOf 12 = .ok (.iload_n 1, 1) := by decide +kernel
theorem dX10_yearsOf_13 : decode cX10_yearsOf 13 = .ok (.invokestatic 69, 3) := by decide +kernel
theorem dX10_yearsOf_16 : decode cX10_yearsOf 16 = .ok (.iload_n 2, 1) := by decide +kernel
theorem dX10_yearsOf_17 : decode cX10_yearsOf 17 = .ok (.invokestatic 72, 3) := by decide +kernel
theorem dX10_yearsOf_20 : decode cX10_yearsOf 20 = .ok (.ireturn, 1) := by decide +kernel
theorem dX10_isCast_0 : decode cX10_isCast 0 = .ok (.aload_n 0, 1) := by decide +kernel
theorem dX10_isCast_1 : decode cX10_isCast 1 = .ok (.sipush 177, 3) := by decide +kernel
theorem dX10_isCast_4 : decode cX10_isCast 4 = .ok (.iload_n 1, 1) := by decide +kernel
theorem dX10_isCast_5 : decode cX10_isCast 5 = .ok (.iadd, 1) := by decide +kernel
theorem dX10_isCast_6 : decode cX10_isCast 6 = .ok (.iaload, 1) := by decide +kernel
theorem dX10_isCast_7 : decode cX10_isCast 7 = .ok (.aload_n 0, 1) := by decide +kernel
theorem dX10_isCast_8 : decode cX10_isCast 8 = .ok (.iconst 3, 1) := by decide +kernel
theorem dX10_isCast_9 : decode cX10_isCast 9 = .ok (.aload_n 0, 1) := by decide +kernel
theorem dX10_isCast_10 : decode cX10_isCast 10 = .ok (.sipush 129, 3) := by decide +kernel
theorem dX10_isCast_13 : decode cX10_isCast 13 = .ok (.iload_n 1, 1) := by decide +kernel
theorem dX10_isCast_14 : decode cX10_isCast 14 = .ok (.iadd, 1) := by decide +kernel
theorem dX10_isCast_15 : decode cX10_isCast 15 = .ok (.iaload, 1) := by decide +kernel
theorem dX10_isCast_16 : decode cX10_isCast 16 = .ok (.iadd, 1) := by decide +kernel
theorem dX10_isCast_17 : decode cX10_isCast 17 = .ok (.iaload, 1) := by decide +kernel
theorem dX10_isCast_18 : decode cX10_isCast 18 = .ok (.if_icmp .le 7, 3) := by decide +kernel
theorem dX10_isCast_21 : decode cX10_isCast 21 = .ok (.iconst 1, 1) := by decide +kernel
theorem dX10_isCast_22 : decode cX10_isCast 22 = .ok (.goto 4, 3) := by decide +kernel
theorem dX10_isCast_25 : decode cX10_isCast 25 = .ok (.iconst 0, 1) := by decide +kernel
theorem dX10_isCast_26 : decode cX10_isCast 26 = .ok (.ireturn, 1) := by decide +kernel
set_option maxRecDepth 20000 in
theorem ggX10_alone_X10_isCast : GoodIn wsX10_alone wsX10_isCast := goodIn_r _ [4] (by decide +kernel) (by decide +kernel)
set_option maxRecDepth 20000 in
theorem gX10_alone_X10_isCast : GoodIn wsX10_alone (va_wsS RX10 76 yX10_isCast wsX10_isCast) := goodIn_app (goodIn_of _ (by decide +kernel)) ggX10_alone_X10_isCast
set_option maxRecDepth 20000 in
theorem ggX10_alone_X10_maskOf : GoodIn wsX10_alone wsX10_maskOf := goodIn_r _ [7] (by decide +kernel) (by decide +kernel)
set_option maxRecDepth 20000 in
theorem gX10_alone_X10_maskOf : GoodIn wsX10_alone (va_wsS RX10 69 yX10_maskOf wsX10_maskOf) := goodIn_app (goodIn_of _ (by decide +kernel)) ggX10_alone_X10_maskOf
set_option maxRecDepth 20000 in
theorem ggX10_alone_X10_years : GoodIn wsX10_alone wsX10_years := goodIn_r _ [10, 11, 12, 3, 13] (by decide +kernel) (by decide +kernel)
set_option maxRecDepth 20000 in
theorem gX10_alone_X10_years : GoodIn wsX10_alone (va_wsS RX10 72 yX10_years wsX10_years) := goodIn_app (goodIn_of _ (by decide +kernel)) ggX10_alone_X10_years
set_option maxRecDepth 20000 in
theorem ggX10_alone_X10_yearsOf : GoodIn wsX10_alone wsX10_yearsOf := goodIn_r _ [16, 17, 18, 3, 19, 20, 21, 22, 23, 24, 25, 5, 6, 7, 8, 9, 10, 11, 12, 13] (by decide +kernel) (by decide +kernel)
set_option maxRecDepth 20000 in
theorem gX10_alone_X10_yearsOf : GoodIn wsX10_alone (va_wsS RX10 80 yX10_yearsOf wsX10_yearsOf) := goodIn_app (goodIn_of _ (by decide +kernel)) ggX10_alone_X10_yearsOf
theorem dX10_alone_0 : decode cX10_alone 0 = .ok (.aload_n 0, 1) := by decide +kernel
theorem dX10_alone_1 : decode cX10_alone 1 = .ok (.iload_n 1, 1) := by decide +kernel
theorem dX10_alone_2 : decode cX10_alone 2 = .ok (.invokestatic 76, 3) := by decide +kernel
theorem dX10_alone_5 : decode cX10_alone 5 = .ok (.ifCond .eq 5, 3) := by decide +kernel
theorem dX10_alone_8 : decode cX10_alone 8 = .ok (.iconst 1, 1) := by decide +kernel
theorem dX10_alone_9 : decode cX10_alone 9 = .ok (.ireturn, 1) := by decide +kernel
theorem dX10_alone_10 : decode cX10_alone 10 = .ok (.aload_n 0, 1) := by decide +kernel
theorem dX10_alone_11 : decode cX10_alone 11 = .ok (.sipush 1000, 3) := by decide +kernel
theorem dX10_alone_14 : decode cX10_alone 14 = .ok (.sipush 1999, 3) := by decide +kernel
theorem dX10_alone_17 : decode cX10_alone 17 = .ok (.aload_n 0, 1) := by decide +kernel
theorem dX10_alone_18 : decode cX10_alone 18 = .ok (.iload_n 1, 1) := by decide +kernel
theorem dX10_alone_19 : decode cX10_alone 19 = .ok (.invokestatic 69, 3) := by decide +kernel
theorem dX10_alone_22 : decode cX10_alone 22 = .ok (.iconst 2, 1) := by decide +kernel
theorem dX10_alone_23 : decode cX10_alone 23 = .ok (.invokestatic 72, 3) := by decide +kernel
theorem dX10_alone_26 : decode cX10_alone 26 = .ok (.ifCond .ne 5, 3) := by decide +kernel
theorem dX10_alone_29 : decode cX10_alone 29 = .ok (.iconst 2, 1) := by decide +kernel
theorem dX10_alone_30 : decode cX10_alone 30 = .ok (.ireturn, 1) := by decide +kernel
theorem dX10_alone_31 : decode cX10_alone 31 = .ok (.aload_n 0, 1) := by decide +kernel
theorem dX10_alone_32 : decode cX10_alone 32 = .ok (.iload_n 1, 1) := by decide +kernel
theorem dX10_alone_33 : decode cX10_alone 33 = .ok (.iconst 2, 1) := by decide +kernel
theorem dX10_alone_34 : decode cX10_alone 34 = .ok (.invokestatic 80, 3) := by decide +kernel
theorem dX10_alone_37 : decode cX10_alone 37 = .ok (.ifCond .ne 7, 3) := by decide +kernel
theorem dX10_alone_40 : decode cX10_alone 40 = .ok (.iconst 3, 1) := by decide +kernel
theorem dX10_alone_41 : decode cX10_alone 41 = .ok (.goto 4, 3) := by decide +kernel
theorem dX10_alone_44 : decode cX10_alone 44 = .ok (.iconst 0, 1) := by decide +kernel
theorem dX10_alone_45 : decode cX10_alone 45 = .ok (.ireturn, 1) := by decide +kernel
set_option maxRecDepth 20000 in
theorem ggX10_gather_X10_alone : GoodIn wsX10_gather wsX10_alone := goodIn_r _ [8, 9, 10, 7, 11, 12, 13, 14, 15, 16, 17, 18, 19, 20, 21, 22, 23, 24, 25, 26, 27, 28, 29, 30, 31, 32] (by decide +kernel) (by decide +kernel)
set_option maxRecDepth 20000 in
theorem gX10_gather_X10_alone : GoodIn wsX10_gather (va_wsS RX10 96 yX10_alone wsX10_alone) := goodIn_app (goodIn_of _ (by decide +kernel)) ggX10_gather_X10_alone
set_option maxRecDepth 20000 in
theorem ggX10_gather_X10_lowOf : GoodIn wsX10_gather wsX10_lowOf := goodIn_r _ [26, 27, 28, 7, 29] (by decide +kernel) (by decide +kernel)
set_option maxRecDepth 20000 in
theorem gX10_gather_X10_lowOf : GoodIn wsX10_gather (va_wsS RX10 63 yX10_lowOf wsX10_lowOf) := goodIn_app (goodIn_of _ (by decide +kernel)) ggX10_gather_X10_lowOf
set_option maxRecDepth 20000 in
theorem ggX10_gather_X10_highOf : GoodIn wsX10_gather wsX10_highOf := goodIn_r _ [32, 27, 28, 7, 29] (by decide +kernel) (by decide +kernel)
set_option maxRecDepth 20000 in
theorem gX10_gather_X10_highOf : GoodIn wsX10_gather (va_wsS RX10 66 yX10_highOf wsX10_highOf) := goodIn_app (goodIn_of _ (by decide +kernel)) ggX10_gather_X10_highOf
set_option maxRecDepth 20000 in
theorem ggX10_gather_X10_maskOf : GoodIn wsX10_gather wsX10_maskOf := goodIn_r _ [14] (by decide +kernel) (by decide +kernel)
set_option maxRecDepth 20000 in
theorem gX10_gather_X10_maskOf : GoodIn wsX10_gather (va_wsS RX10 69 yX10_maskOf wsX10_maskOf) := goodIn_app (goodIn_of _ (by decide +kernel)) ggX10_gather_X10_maskOf
theorem dX10_gather_0 : decode cX10_gather 0 = .ok (.aload_n 0, 1) := by decide +kernel
theorem dX10_gather_1 : decode cX10_gather 1 = .ok (.sipush 1000, 3) := by decide +kernel
theorem dX10_gather_4 : decode cX10_gather 4 = .ok (.putfield 84, 3) := by decide +kernel
theorem dX10_gather_7 : decode cX10_gather 7 = .ok (.aload_n 0, 1) := by decide +kernel
theorem dX10_gather_8 : decode cX10_gather 8 = .ok (.sipush 1999, 3) := by decide +kernel
theorem dX10_gather_11 : decode cX10_gather 11 = .ok (.putfield 87, 3) := by decide +kernel
theorem dX10_gather_14 : decode cX10_gather 14 = .ok (.aload_n 0, 1) := by decide +kernel
theorem dX10_gather_15 : decode cX10_gather 15 = .ok (.iconst 0, 1) := by decide +kernel
theorem dX10_gather_16 : decode cX10_gather 16 = .ok (.putfield 90, 3) := by decide +kernel
theorem dX10_gather_19 : decode cX10_gather 19 = .ok (.aload_n 0, 1) := by decide +kernel
theorem dX10_gather_20 : decode cX10_gather 20 = .ok (.iconst 0, 1) := by decide +kernel
theorem dX10_gather_21 : decode cX10_gather 21 = .ok (.putfield 93, 3) := by decide +kernel
theorem dX10_gather_24 : decode cX10_gather 24 = .ok (.iconst 0, 1) := by decide +kernel
theorem dX10_gather_25 : decode cX10_gather 25 = .ok (.istore 4, 2) := by decide +kernel
theorem dX10_gather_27 : decode cX10_gather 27 = .ok (.iload 4, 2) := by decide +kernel
theorem dX10_gather_29 : decode cX10_gather 29 = .ok (.aload_n 1, 1) := by decide +kernel
theorem dX10_gather_30 : decode cX10_gather 30 = .ok (.iconst 2, 1) := by decide +kernel
theorem dX10_gather_31 : decode cX10_gather 31 = .ok (.iaload, 1) := by decide +kernel
theorem dX10_gather_32 : decode cX10_gather 32 = .ok (.if_icmp .ge 121, 3) := by decide +kernel
theorem dX10_gather_35 : decode cX10_gather 35 = .ok (.aload_n 1, 1) := by decide +kernel
theorem dX10_gather_36 : decode cX10_gather 36 = .ok (.sipush 225, 3) := by decide +kernel
theorem dX10_gather_39 : decode cX10_gather 39 = .ok (.iload 4, 2) := by decide +kernel
theorem dX10_gather_41 : decode cX10_gather 41 = .ok (.iadd, 1) := by decide +kernel
theorem dX10_gather_42 : decode cX10_gather 42 = .ok (.iaload, 1) := by decide +kernel
theorem dX10_gather_43 : decode cX10_gather 43 = .ok (.iload_n 2, 1) := by decide +kernel
theorem dX10_gather_44 : decode cX10_gather 44 = .ok (.if_icmp .ne 103, 3) := by decide +kernel
theorem dX10_gather_47 : decode cX10_gather 47 = .ok (.iload 4, 2) := by decide +kernel
theorem dX10_gather_49 : decode cX10_gather 49 = .ok (.iload_n 3, 1) := by decide +kernel
theorem dX10_gather_50 : decode cX10_gather 50 = .ok (.if_icmp .eq 97, 3) := by decide +kernel
theorem dX10_gather_53 : decode cX10_gather 53 = .ok (.aload_n 1, 1) := by decide +kernel
theorem dX10_gather_54 : decode cX10_gather 54 = .ok (.iload 4, 2) := by decide +kernel
theorem dX10_gather_56 : decode cX10_gather 56 = .ok (.invokestatic 96, 3) := by decide +kernel
theorem dX10_gather_59 : decode cX10_gather 59 = .ok (.ifCond .ne 88, 3) := by decide +kernel
theorem dX10_gather_62 : decode cX10_gather 62 = .ok (.aload_n 0, 1) := by decide +kernel
theorem dX10_gather_63 : decode cX10_gather 63 = .ok (.aload_n 1, 1) := by decide +kernel
theorem dX10_gather_64 : decode cX10_gather 64 = .ok (.iload 4, 2) := by decide +kernel
theorem dX10_gather_66 : decode cX10_gather 66 = .ok (.invokestatic 63, 3) := by decide +kernel
theorem dX10_gather_69 : decode cX10_gather 69 = .ok (.aload_n 0, 1) := by decide +kernel
theorem dX10_gather_70 : decode cX10_gather 70 = .ok (.getfield 84, 3) := by decide +kernel
theorem dX10_gather_73 : decode cX10_gather 73 = .ok (.if_icmp .le 12, 3) := by decide +kernel
theorem dX10_gather_76 : decode cX10_gather 76 = .ok (.aload_n 1, 1) := by decide +kernel
theorem dX10_gather_77 : decode cX10_gather 77 = .ok (.iload 4, 2) := by decide +kernel
theorem dX10_gather_79 : decode cX10_gather 79 = .ok (.invokestatic 63, 3) := by decide +kernel
theorem dX10_gather_82 : decode cX10_gather 82 = .ok (.goto 7, 3) := by decide +kernel
theorem dX10_gather_85 : decode cX10_gather 85 = .ok (.aload_n 0, 1) := by decide +kernel
theorem dX10_gather_86 : decode cX10_gather 86 = .ok (.getfield 84, 3) := by decide +kernel
theorem dX10_gather_89 : decode cX10_gather 89 = .ok (.putfield 84, 3) := by decide +kernel
theorem dX10_gather_92 : decode cX10_gather 92 = .ok (.aload_n 0, 1) := by decide +kernel
theorem dX10_gather_93 : decode cX10_gather 93 = .ok (.aload_n 1, 1) := by decide +kernel
theorem dX10_gather_94 : decode cX10_gather 94 = .ok (.iload 4, 2) := by decide +kernel
theorem dX10_gather_96 : decode cX10_gather 96 = .ok (.invokestatic 66, 3) := by decide +kernel
theorem dX10_gather_99 : decode cX10_gather 99 = .ok (.aload_n 0, 1) := by decide +kernel
theorem dX10_gather_100 : decode cX10_gather 100 = .ok (.getfield 87, 3) := by decide +kernel
theorem dX10_gather_103 : decode cX10_gather 103 = .ok (.if_icmp .ge 12, 3) := by decide +kernel
theorem dX10_gather_106 : decode cX10_gather 106 = .ok (.aload_n 1, 1) := by decide +kernel
theorem dX10_gather_107 : decode cX10_gather 107 = .ok (.iload 4, 2) := by decide +kernel
theorem dX10_gather_109 : decode cX10_gather 109 = .ok (.invokestatic 66, 3) := by decide +kernel
theorem dX10_gather_112 : decode cX10_gather 112 = .ok (.goto 7, 3) := by decide +kernel
theorem dX10_gather_115 : decode cX10_gather 115 = .ok (.aload_n 0, 1) := by decide +kernel
theorem dX10_gather_116 : decode cX10_gather 116 = .ok (.getfield 87, 3) := by decide +kernel
theorem dX10_gather_119 : decode cX10_gather 119 = .ok (.putfield 87, 3) := by decide +kernel
theorem dX10_gather_122 : decode cX10_gather 122 = .ok (.aload_n 0, 1) := by decide +kernel
theorem dX10_gather_123 : decode cX10_gather 123 = .ok (.dup, 1) := by decide +kernel
theorem dX10_gather_124 : decode cX10_gather 124 = .ok (.getfield 90, 3) := by decide +kernel
theorem dX10_gather_127 : decode cX10_gather 127 = .ok (.aload_n 1, 1) := by decide +kernel
theorem dX10_gather_128 : decode cX10_gather 128 = .ok (.iload 4, 2) := by decide +kernel
theorem dX10_gather_130 : decode cX10_gather 130 = .ok (.invokestatic 69, 3) := by decide +kernel
theorem dX10_gather_133 : decode cX10_gather 133 = .ok (.ior, 1) := by decide +kernel
theorem dX10_gather_134 : decode cX10_gather 134 = .ok (.putfield 90, 3) := by decide +kernel
theorem dX10_gather_137 : decode cX10_gather 137 = .ok (.aload_n 0, 1) := by decide +kernel
theorem dX10_gather_138 : decode cX10_gather 138 = .ok (.dup, 1) := by decide +kernel
theorem dX10_gather_139 : decode cX10_gather 139 = .ok (.getfield 93, 3) := by decide +kernel
theorem dX10_gather_142 : decode cX10_gather 142 = .ok (.iconst 1, 1) := by decide +kernel
theorem dX10_gather_143 : decode cX10_gather 143 = .ok (.iadd, 1) := by decide +kernel
theorem dX10_gather_144 : decode cX10_gather 144 = .ok (.putfield 93, 3) := by decide +kernel
theorem dX10_gather_147 : decode cX10_gather 147 = .ok (.iinc 4 1, 3) := by decide +kernel
theorem dX10_gather_150 : decode cX10_gather 150 = .ok (.goto (-123), 3) := by decide +kernel
theorem dX10_gather_153 : decode cX10_gather 153 = .ok (.return_, 1) := by decide +kernel
set_option maxRecDepth 20000 in
theorem ggX10_ofCharter_X10_gather : GoodIn wsX10_ofCharter wsX10_gather := goodIn_r _ [9, 2, 3, 4, 1, 10, 11, 8, 12, 13, 14, 15, 16, 17, 18, 19, 20, 21, 22, 23, 24, 25, 26, 27, 28, 29, 30, 31, 32, 33, 34, 35, 36, 37, 38, 39, 40, 41, 42, 43, 44, 45, 46, 47, 48, 49, 50, 51, 52, 53, 54] (by decide +kernel) (by decide +kernel)
set_option maxRecDepth 20000 in
theorem gX10_ofCharter_X10_gather : GoodIn wsX10_ofCharter (wsV RX10 99 RX10 yX10_gather wsX10_gather) := goodIn_app (goodIn_of _ (by decide +kernel)) ggX10_ofCharter_X10_gather
set_option maxRecDepth 20000 in
theorem ggX10_ofCharter_X10_years : GoodIn wsX10_ofCharter wsX10_years := goodIn_r _ [21, 22, 23, 8, 24] (by decide +kernel) (by decide +kernel)
set_option maxRecDepth 20000 in
theorem gX10_ofCharter_X10_years : GoodIn wsX10_ofCharter (va_wsS RX10 72 yX10_years wsX10_years) := goodIn_app (goodIn_of _ (by decide +kernel)) ggX10_ofCharter_X10_years
theorem dX10_ofCharter_0 : decode cX10_ofCharter 0 = .ok (.aload_n 0, 1) := by decide +kernel
theorem dX10_ofCharter_1 : decode cX10_ofCharter 1 = .ok (.aload_n 1, 1) := by decide +kernel
theorem dX10_ofCharter_2 : decode cX10_ofCharter 2 = .ok (.iload_n 2, 1) := by decide +kernel
theorem dX10_ofCharter_3 : decode cX10_ofCharter 3 = .ok (.iload_n 3, 1) := by decide +kernel
theorem dX10_ofCharter_4 : decode cX10_ofCharter 4 = .ok (.invokevirtual 99, 3) := by decide +kernel
theorem dX10_ofCharter_7 : decode cX10_ofCharter 7 = .ok (.aload_n 0, 1) := by decide +kernel
theorem dX10_ofCharter_8 : decode cX10_ofCharter 8 = .ok (.getfield 93, 3) := by decide +kernel
theorem dX10_ofCharter_11 : decode cX10_ofCharter 11 = .ok (.ifCond .ne 15, 3) := by decide +kernel
theorem dX10_ofCharter_14 : decode cX10_ofCharter 14 = .ok (.iload 4, 2) := by decide +kernel
theorem dX10_ofCharter_16 : decode cX10_ofCharter 16 = .ok (.iconst 2, 1) := by decide +kernel
theorem dX10_ofCharter_17 : decode cX10_ofCharter 17 = .ok (.if_icmp .ne 7, 3) := by decide +kernel
theorem dX10_ofCharter_20 : decode cX10_ofCharter 20 = .ok (.iconst 0, 1) := by decide +kernel
theorem dX10_ofCharter_21 : decode cX10_ofCharter 21 = .ok (.goto 4, 3) := by decide +kernel
theorem dX10_ofCharter_24 : decode cX10_ofCharter 24 = .ok (.iconst (-1), 1) := by decide +kernel
theorem dX10_ofCharter_25 : decode cX10_ofCharter 25 = .ok (.ireturn, 1) := by decide +kernel
theorem dX10_ofCharter_26 : decode cX10_ofCharter 26 = .ok (.aload_n 1, 1) := by decide +kernel
theorem dX10_ofCharter_27 : decode cX10_ofCharter 27 = .ok (.aload_n 0, 1) := by decide +kernel
theorem dX10_ofCharter_28 : decode cX10_ofCharter 28 = .ok (.getfield 84, 3) := by decide +kernel
theorem dX10_ofCharter_31 : decode cX10_ofCharter 31 = .ok (.aload_n 0, 1) := by decide +kernel
theorem dX10_ofCharter_32 : decode cX10_ofCharter 32 = .ok (.getfield 87, 3) := by decide +kernel
theorem dX10_ofCharter_35 : decode cX10_ofCharter 35 = .ok (.aload_n 0, 1) := by decide +kernel
theorem dX10_ofCharter_36 : decode cX10_ofCharter 36 = .ok (.getfield 90, 3) := by decide +kernel
theorem dX10_ofCharter_39 : decode cX10_ofCharter 39 = .ok (.iload 4, 2) := by decide +kernel
theorem dX10_ofCharter_41 : decode cX10_ofCharter 41 = .ok (.invokestatic 72, 3) := by decide +kernel
theorem dX10_ofCharter_44 : decode cX10_ofCharter 44 = .ok (.ireturn, 1) := by decide +kernel
set_option maxRecDepth 20000 in
theorem ggX10_fake_X10_alone : GoodIn wsX10_fake wsX10_alone := goodIn_r _ [4, 5, 6, 3, 7, 8, 9, 10, 11, 12, 13, 14, 15, 16, 17, 18, 19, 20, 21, 22, 23, 24, 25, 26, 27, 28] (by decide +kernel) (by decide +kernel)
set_option maxRecDepth 20000 in
theorem gX10_fake_X10_alone : GoodIn wsX10_fake (va_wsS RX10 96 yX10_alone wsX10_alone) := goodIn_app (goodIn_of _ (by decide +kernel)) ggX10_fake_X10_alone
set_option maxRecDepth 20000 in
theorem ggX10_fake_X10_ofCharter : GoodIn wsX10_fake wsX10_ofCharter := goodIn_r _ [32, 33, 34, 35, 36, 37, 38, 39, 3, 40, 1, 2, 4, 5, 6, 7, 8, 9, 10, 11, 12, 13, 14, 15, 16, 17, 18, 19, 20, 21, 22, 23, 24, 25, 26, 27, 28, 41, 42, 43, 44, 45, 46, 47, 48, 49, 50, 51, 52, 53, 54, 55, 56, 57, 58] (by decide +kernel) (by decide +kernel)
set_option maxRecDepth 20000 in
theorem gX10_fake_X10_ofCharter : GoodIn wsX10_fake (wsV RX10 103 RX10 yX10_ofCharter wsX10_ofCharter) := goodIn_app (goodIn_of _ (by decide +kernel)) ggX10_fake_X10_ofCharter
theorem dX10_fake_0 : decode cX10_fake 0 = .ok (.aload_n 1, 1) := by decide +kernel
theorem dX10_fake_1 : decode cX10_fake 1 = .ok (.iload_n 2, 1) := by decide +kernel
theorem dX10_fake_2 : decode cX10_fake 2 = .ok (.invokestatic 96, 3) := by decide +kernel
theorem dX10_fake_5 : decode cX10_fake 5 = .ok (.istore_n 3, 1) := by decide +kernel
theorem dX10_fake_6 : decode cX10_fake 6 = .ok (.iload_n 3, 1) := by decide +kernel
theorem dX10_fake_7 : decode cX10_fake 7 = .ok (.ifCond .ne 33, 3) := by decide +kernel
theorem dX10_fake_10 : decode cX10_fake 10 = .ok (.aload_n 1, 1) := by decide +kernel
theorem dX10_fake_11 : decode cX10_fake 11 = .ok (.sipush 225, 3) := by decide +kernel
theorem dX10_fake_14 : decode cX10_fake 14 = .ok (.iload_n 2, 1) := by decide +kernel
theorem dX10_fake_15 : decode cX10_fake 15 = .ok (.iadd, 1) := by decide +kernel
theorem dX10_fake_16 : decode cX10_fake 16 = .ok (.iaload, 1) := by decide +kernel
theorem dX10_fake_17 : decode cX10_fake 17 = .ok (.iconst (-1), 1) := by decide +kernel
theorem dX10_fake_18 : decode cX10_fake 18 = .ok (.if_icmp .eq 22, 3) := by decide +kernel
theorem dX10_fake_21 : decode cX10_fake 21 = .ok (.aload_n 0, 1) := by decide +kernel
theorem dX10_fake_22 : decode cX10_fake 22 = .ok (.aload_n 1, 1) := by decide +kernel
theorem dX10_fake_23 : decode cX10_fake 23 = .ok (.aload_n 1, 1) := by decide +kernel
theorem dX10_fake_24 : decode cX10_fake 24 = .ok (.sipush 225, 3) := by decide +kernel
theorem dX10_fake_27 : decode cX10_fake 27 = .ok (.iload_n 2, 1) := by decide +kernel
theorem dX10_fake_28 : decode cX10_fake 28 = .ok (.iadd, 1) := by decide +kernel
theorem dX10_fake_29 : decode cX10_fake 29 = .ok (.iaload, 1) := by decide +kernel
theorem dX10_fake_30 : decode cX10_fake 30 = .ok (.iconst (-1), 1) := by decide +kernel
theorem dX10_fake_31 : decode cX10_fake 31 = .ok (.iconst 2, 1) := by decide +kernel
theorem dX10_fake_32 : decode cX10_fake 32 = .ok (.invokevirtual 103, 3) := by decide +kernel
theorem dX10_fake_35 : decode cX10_fake 35 = .ok (.ifCond .ne 5, 3) := by decide +kernel
theorem dX10_fake_38 : decode cX10_fake 38 = .ok (.iconst 4, 1) := by decide +kernel
theorem dX10_fake_39 : decode cX10_fake 39 = .ok (.ireturn, 1) := by decide +kernel
theorem dX10_fake_40 : decode cX10_fake 40 = .ok (.iload_n 3, 1) := by decide +kernel
theorem dX10_fake_41 : decode cX10_fake 41 = .ok (.ireturn, 1) := by decide +kernel
set_option maxRecDepth 20000 in
theorem ggX10_fakes_X10_fake : GoodIn wsX10_fakes wsX10_fake := goodIn_r _ [5, 6, 7, 4, 8, 9, 10, 11, 12, 13, 14, 15, 16, 17, 18, 19, 20, 21, 22, 23, 24, 25, 26, 27, 28, 29, 30, 31, 32, 33, 34, 35, 36, 37, 38, 39, 40, 41, 42, 43, 44, 45, 46, 47, 48, 49, 50, 51, 52, 53, 54, 55, 56, 57, 58, 59, 60, 61, 62] (by decide +kernel) (by decide +kernel)
set_option maxRecDepth 20000 in
theorem gX10_fakes_X10_fake : GoodIn wsX10_fakes (wsV RX10 107 RX10 yX10_fake wsX10_fake) := goodIn_app (goodIn_of _ (by decide +kernel)) ggX10_fakes_X10_fake
theorem dX10_fakes_0 : decode cX10_fakes 0 = .ok (.iconst 0, 1) := by decide +kernel
theorem dX10_fakes_1 : decode cX10_fakes 1 = .ok (.istore_n 2, 1) := by decide +kernel
theorem dX10_fakes_2 : decode cX10_fakes 2 = .ok (.iconst 0, 1) := by decide +kernel
theorem dX10_fakes_3 : decode cX10_fakes 3 = .ok (.istore_n 3, 1) := by decide +kernel
theorem dX10_fakes_4 : decode cX10_fakes 4 = .ok (.iload_n 3, 1) := by decide +kernel
theorem dX10_fakes_5 : decode cX10_fakes 5 = .ok (.aload_n 1, 1) := by decide +kernel
theorem dX10_fakes_6 : decode cX10_fakes 6 = .ok (.iconst 2, 1) := by decide +kernel
theorem dX10_fakes_7 : decode cX10_fakes 7 = .ok (.iaload, 1) := by decide +kernel
theorem dX10_fakes_8 : decode cX10_fakes 8 = .ok (.if_icmp .ge 26, 3) := by decide +kernel
theorem dX10_fakes_11 : decode cX10_fakes 11 = .ok (.iload_n 2, 1) := by decide +kernel
theorem dX10_fakes_12 : decode cX10_fakes 12 = .ok (.aload_n 0, 1) := by decide +kernel
theorem dX10_fakes_13 : decode cX10_fakes 13 = .ok (.aload_n 1, 1) := by decide +kernel
theorem dX10_fakes_14 : decode cX10_fakes 14 = .ok (.iload_n 3, 1) := by decide +kernel
theorem dX10_fakes_15 : decode cX10_fakes 15 = .ok (.invokevirtual 107, 3) := by decide +kernel
theorem dX10_fakes_18 : decode cX10_fakes 18 = .ok (.ifCond .le 7, 3) := by decide +kernel
theorem dX10_fakes_21 : decode cX10_fakes 21 = .ok (.iconst 1, 1) := by decide +kernel
theorem dX10_fakes_22 : decode cX10_fakes 22 = .ok (.goto 4, 3) := by decide +kernel
theorem dX10_fakes_25 : decode cX10_fakes 25 = .ok (.iconst 0, 1) := by decide +kernel
theorem dX10_fakes_26 : decode cX10_fakes 26 = .ok (.iadd, 1) := by decide +kernel
theorem dX10_fakes_27 : decode cX10_fakes 27 = .ok (.istore_n 2, 1) := by decide +kernel
theorem dX10_fakes_28 : decode cX10_fakes 28 = .ok (.iinc 3 1, 3) := by decide +kernel
theorem dX10_fakes_31 : decode cX10_fakes 31 = .ok (.goto (-27), 3) := by decide +kernel
theorem dX10_fakes_34 : decode cX10_fakes 34 = .ok (.iload_n 2, 1) := by decide +kernel
theorem dX10_fakes_35 : decode cX10_fakes 35 = .ok (.ireturn, 1) := by decide +kernel
set_option maxRecDepth 20000 in
theorem ggX10_shelfOf_X10_placeOn : GoodIn wsX10_shelfOf wsX10_placeOn := goodIn_r _ [4] (by decide +kernel) (by decide +kernel)
set_option maxRecDepth 20000 in
theorem gX10_shelfOf_X10_placeOn : GoodIn wsX10_shelfOf (va_wsS RX10 110 yX10_placeOn wsX10_placeOn) := goodIn_app (goodIn_of _ (by decide +kernel)) ggX10_shelfOf_X10_placeOn
theorem dX10_shelfOf_0 : decode cX10_shelfOf 0 = .ok (.iconst (-1), 1) := by decide +kernel
theorem dX10_shelfOf_1 : decode cX10_shelfOf 1 = .ok (.istore_n 2, 1) := by decide +kernel
theorem dX10_shelfOf_2 : decode cX10_shelfOf 2 = .ok (.iconst 0, 1) := by decide +kernel
theorem dX10_shelfOf_3 : decode cX10_shelfOf 3 = .ok (.istore_n 3, 1) := by decide +kernel
theorem dX10_shelfOf_4 : decode cX10_shelfOf 4 = .ok (.iload_n 3, 1) := by decide +kernel
theorem dX10_shelfOf_5 : decode cX10_shelfOf 5 = .ok (.bipush 6, 2) := by decide +kernel
theorem dX10_shelfOf_7 : decode cX10_shelfOf 7 = .ok (.if_icmp .ge 25, 3) := by decide +kernel
theorem dX10_shelfOf_10 : decode cX10_shelfOf 10 = .ok (.aload_n 0, 1) := by decide +kernel
theorem dX10_shelfOf_11 : decode cX10_shelfOf 11 = .ok (.iload_n 1, 1) := by decide +kernel
theorem dX10_shelfOf_12 : decode cX10_shelfOf 12 = .ok (.iload_n 3, 1) := by decide +kernel
theorem dX10_shelfOf_13 : decode cX10_shelfOf 13 = .ok (.invokestatic 110, 3) := by decide +kernel
theorem dX10_shelfOf_16 : decode cX10_shelfOf 16 = .ok (.iconst (-1), 1) := by decide +kernel
theorem dX10_shelfOf_17 : decode cX10_shelfOf 17 = .ok (.if_icmp .ne 7, 3) := by decide +kernel
theorem dX10_shelfOf_20 : decode cX10_shelfOf 20 = .ok (.iload_n 2, 1) := by decide +kernel
theorem dX10_shelfOf_21 : decode cX10_shelfOf 21 = .ok (.goto 4, 3) := by decide +kernel
theorem dX10_shelfOf_24 : decode cX10_shelfOf 24 = .ok (.iload_n 3, 1) := by decide +kernel
theorem dX10_shelfOf_25 : decode cX10_shelfOf 25 = .ok (.istore_n 2, 1) := by decide +kernel
theorem dX10_shelfOf_26 : decode cX10_shelfOf 26 = .ok (.iinc 3 1, 3) := by decide +kernel
theorem dX10_shelfOf_29 : decode cX10_shelfOf 29 = .ok (.goto (-25), 3) := by decide +kernel
theorem dX10_shelfOf_32 : decode cX10_shelfOf 32 = .ok (.iload_n 2, 1) := by decide +kernel
theorem dX10_shelfOf_33 : decode cX10_shelfOf 33 = .ok (.ireturn, 1) := by decide +kernel
theorem dX10_placeOn_0 : decode cX10_placeOn 0 = .ok (.iconst (-1), 1) := by decide +kernel
theorem dX10_placeOn_1 : decode cX10_placeOn 1 = .ok (.istore_n 3, 1) := by decide +kernel
theorem dX10_placeOn_2 : decode cX10_placeOn 2 = .ok (.iconst 0, 1) := by decide +kernel
theorem dX10_placeOn_3 : decode cX10_placeOn 3 = .ok (.istore 4, 2) := by decide +kernel
theorem dX10_placeOn_5 : decode cX10_placeOn 5 = .ok (.iload 4, 2) := by decide +kernel
theorem dX10_placeOn_7 : decode cX10_placeOn 7 = .ok (.aload_n 0, 1) := by decide +kernel
theorem dX10_placeOn_8 : decode cX10_placeOn 8 = .ok (.sipush 249, 3) := by decide +kernel
theorem dX10_placeOn_11 : decode cX10_placeOn 11 = .ok (.iload_n 2, 1) := by decide +kernel
theorem dX10_placeOn_12 : decode cX10_placeOn 12 = .ok (.iadd, 1) := by decide +kernel
theorem dX10_placeOn_13 : decode cX10_placeOn 13 = .ok (.iaload, 1) := by decide +kernel
theorem dX10_placeOn_14 : decode cX10_placeOn 14 = .ok (.if_icmp .ge 33, 3) := by decide +kernel
theorem dX10_placeOn_17 : decode cX10_placeOn 17 = .ok (.aload_n 0, 1) := by decide +kernel
theorem dX10_placeOn_18 : decode cX10_placeOn 18 = .ok (.sipush 255, 3) := by decide +kernel
theorem dX10_placeOn_21 : decode cX10_placeOn 21 = .ok (.bipush 6, 2) := by decide +kernel
theorem dX10_placeOn_23 : decode cX10_placeOn 23 = .ok (.iload_n 2, 1) := by decide +kernel
theorem dX10_placeOn_24 : decode cX10_placeOn 24 = .ok (.imul, 1) := by decide +kernel
theorem dX10_placeOn_25 : decode cX10_placeOn 25 = .ok (.iadd, 1) := by decide +kernel
theorem dX10_placeOn_26 : decode cX10_placeOn 26 = .ok (.iload 4, 2) := by decide +kernel
theorem dX10_placeOn_28 : decode cX10_placeOn 28 = .ok (.iadd, 1) := by decide +kernel
theorem dX10_placeOn_29 : decode cX10_placeOn 29 = .ok (.iaload, 1) := by decide +kernel
theorem dX10_placeOn_30 : decode cX10_placeOn 30 = .ok (.iload_n 1, 1) := by decide +kernel
theorem dX10_placeOn_31 : decode cX10_placeOn 31 = .ok (.if_icmp .ne 8, 3) := by decide +kernel
theorem dX10_placeOn_34 : decode cX10_placeOn 34 = .ok (.iload 4, 2) := by decide +kernel
theorem dX10_placeOn_36 : decode cX10_placeOn 36 = .ok (.goto 4, 3) := by decide +kernel
theorem dX10_placeOn_39 : decode cX10_placeOn 39 = .ok (.iload_n 3, 1) := by decide +kernel
theorem dX10_placeOn_40 : decode cX10_placeOn 40 = .ok (.istore_n 3, 1) := by decide +kernel
theorem dX10_placeOn_41 : decode cX10_placeOn 41 = .ok (.iinc 4 1, 3) := by decide +kernel
theorem dX10_placeOn_44 : decode cX10_placeOn 44 = .ok (.goto (-39), 3) := by decide +kernel
theorem dX10_placeOn_47 : decode cX10_placeOn 47 = .ok (.iload_n 3, 1) := by decide +kernel
theorem dX10_placeOn_48 : decode cX10_placeOn 48 = .ok (.ireturn, 1) := by decide +kernel
set_option maxRecDepth 20000 in
theorem ggX10_goTake_X10_shelfOf : GoodIn wsX10_goTake wsX10_shelfOf := goodIn_r _ [4, 5, 6, 3, 7] (by decide +kernel) (by decide +kernel)
set_option maxRecDepth 20000 in
theorem gX10_goTake_X10_shelfOf : GoodIn wsX10_goTake (va_wsS RX10 113 yX10_shelfOf wsX10_shelfOf) := goodIn_app (goodIn_of _ (by decide +kernel)) ggX10_goTake_X10_shelfOf
set_option maxRecDepth 20000 in
theorem ggX10_goTake_X10_placeOn : GoodIn wsX10_goTake wsX10_placeOn := goodIn_r _ [7] (by decide +kernel) (by decide +kernel)
set_option maxRecDepth 20000 in
theorem gX10_goTake_X10_placeOn : GoodIn wsX10_goTake (va_wsS RX10 110 yX10_placeOn wsX10_placeOn) := goodIn_app (goodIn_of _ (by decide +kernel)) ggX10_goTake_X10_placeOn
theorem dX10_goTake_0 : decode cX10_goTake 0 = .ok (.aload_n 0, 1) := by decide +kernel
theorem dX10_goTake_1 : decode cX10_goTake 1 = .ok (.iload_n 1, 1) := by decide +kernel
theorem dX10_goTake_2 : decode cX10_goTake 2 = .ok (.invokestatic 113, 3) := by decide +kernel
theorem dX10_goTake_5 : decode cX10_goTake 5 = .ok (.istore_n 2, 1) := by decide +kernel
theorem dX10_goTake_6 : decode cX10_goTake 6 = .ok (.iload_n 2, 1) := by decide +kernel
theorem dX10_goTake_7 : decode cX10_goTake 7 = .ok (.iconst (-1), 1) := by decide +kernel
theorem dX10_goTake_8 : decode cX10_goTake 8 = .ok (.if_icmp .eq 70, 3) := by decide +kernel
theorem dX10_goTake_11 : decode cX10_goTake 11 = .ok (.aload_n 0, 1) := by decide +kernel
theorem dX10_goTake_12 : decode cX10_goTake 12 = .ok (.iload_n 1, 1) := by decide +kernel
theorem dX10_goTake_13 : decode cX10_goTake 13 = .ok (.iload_n 2, 1) := by decide +kernel
theorem dX10_goTake_14 : decode cX10_goTake 14 = .ok (.invokestatic 110, 3) := by decide +kernel
theorem dX10_goTake_17 : decode cX10_goTake 17 = .ok (.istore_n 3, 1) := by decide +kernel
theorem dX10_goTake_18 : decode cX10_goTake 18 = .ok (.aload_n 0, 1) := by decide +kernel
theorem dX10_goTake_19 : decode cX10_goTake 19 = .ok (.sipush 249, 3) := by decide +kernel
theorem dX10_goTake_22 : decode cX10_goTake 22 = .ok (.iload_n 2, 1) := by decide +kernel
theorem dX10_goTake_23 : decode cX10_goTake 23 = .ok (.iadd, 1) := by decide +kernel
theorem dX10_goTake_24 : decode cX10_goTake 24 = .ok (.dup2, 1) := by decide +kernel
theorem dX10_goTake_25 : decode cX10_goTake 25 = .ok (.iaload, 1) := by decide +kernel
theorem dX10_goTake_26 : decode cX10_goTake 26 = .ok (.iconst 1, 1) := by decide +kernel
theorem dX10_goTake_27 : decode cX10_goTake 27 = .ok (.isub, 1) := by decide +kernel
theorem dX10_goTake_28 : decode cX10_goTake 28 = .ok (.iastore, 1) := by decide +kernel
theorem dX10_goTake_29 : decode cX10_goTake 29 = .ok (.iload_n 3, 1) := by decide +kernel
theorem dX10_goTake_30 : decode cX10_goTake 30 = .ok (.istore 4, 2) := by decide +kernel
theorem dX10_goTake_32 : decode cX10_goTake 32 = .ok (.iload 4, 2) := by decide +kernel
theorem dX10_goTake_34 : decode cX10_goTake 34 = .ok (.aload_n 0, 1) := by decide +kernel
theorem dX10_goTake_35 : decode cX10_goTake 35 = .ok (.sipush 249, 3) := by decide +kernel
theorem dX10_goTake_38 : decode cX10_goTake 38 = .ok (.iload_n 2, 1) := by decide +kernel
theorem dX10_goTake_39 : decode cX10_goTake 39 = .ok (.iadd, 1) := by decide +kernel
theorem dX10_goTake_40 : decode cX10_goTake 40 = .ok (.iaload, 1) := by decide +kernel
theorem dX10_goTake_41 : decode cX10_goTake 41 = .ok (.if_icmp .ge 37, 3) := by decide +kernel
theorem dX10_goTake_44 : decode cX10_goTake 44 = .ok (.aload_n 0, 1) := by decide +kernel
theorem dX10_goTake_45 : decode cX10_goTake 45 = .ok (.sipush 255, 3) := by decide +kernel
theorem dX10_goTake_48 : decode cX10_goTake 48 = .ok (.bipush 6, 2) := by decide +kernel
theorem dX10_goTake_50 : decode cX10_goTake 50 = .ok (.iload_n 2, 1) := by decide +kernel
theorem dX10_goTake_51 : decode cX10_goTake 51 = .ok (.imul, 1) := by decide +kernel
theorem dX10_goTake_52 : decode cX10_goTake 52 = .ok (.iadd, 1) := by decide +kernel
theorem dX10_goTake_53 : decode cX10_goTake 53 = .ok (.iload 4, 2) := by decide +kernel
theorem dX10_goTake_55 : decode cX10_goTake 55 = .ok (.iadd, 1) := by decide +kernel
theorem dX10_goTake_56 : decode cX10_goTake 56 = .ok (.aload_n 0, 1) := by decide +kernel
theorem dX10_goTake_57 : decode cX10_goTake 57 = .ok (.sipush 255, 3) := by decide +kernel
theorem dX10_goTake_60 : decode cX10_goTake 60 = .ok (.bipush 6, 2) := by decide +kernel
theorem dX10_goTake_62 : decode cX10_goTake 62 = .ok (.iload_n 2, 1) := by decide +kernel
theorem dX10_goTake_63 : decode cX10_goTake 63 = .ok (.imul, 1) := by decide +kernel
theorem dX10_goTake_64 : decode cX10_goTake 64 = .ok (.iadd, 1) := by decide +kernel
theorem dX10_goTake_65 : decode cX10_goTake 65 = .ok (.iload 4, 2) := by decide +kernel
theorem dX10_goTake_67 : decode cX10_goTake 67 = .ok (.iadd, 1) := by decide +kernel
theorem dX10_goTake_68 : decode cX10_goTake 68 = .ok (.iconst 1, 1) := by decide +kernel
theorem dX10_goTake_69 : decode cX10_goTake 69 = .ok (.iadd, 1) := by decide +kernel
theorem dX10_goTake_70 : decode cX10_goTake 70 = .ok (.iaload, 1) := by decide +kernel
theorem dX10_goTake_71 : decode cX10_goTake 71 = .ok (.iastore, 1) := by decide +kernel
theorem dX10_goTake_72 : decode cX10_goTake 72 = .ok (.iinc 4 1, 3) := by decide +kernel
theorem dX10_goTake_75 : decode cX10_goTake 75 = .ok (.goto (-43), 3) := by decide +kernel
theorem dX10_goTake_78 : decode cX10_goTake 78 = .ok (.return_, 1) := by decide +kernel
set_option maxRecDepth 20000 in
theorem ggX10_others_X10_shelfOf : GoodIn wsX10_others wsX10_shelfOf := goodIn_r _ [4, 5, 6, 3, 7] (by decide +kernel) (by decide +kernel)
set_option maxRecDepth 20000 in
theorem gX10_others_X10_shelfOf : GoodIn wsX10_others (va_wsS RX10 113 yX10_shelfOf wsX10_shelfOf) := goodIn_app (goodIn_of _ (by decide +kernel)) ggX10_others_X10_shelfOf
theorem dX10_others_0 : decode cX10_others 0 = .ok (.aload_n 0, 1) := by decide +kernel
theorem dX10_others_1 : decode cX10_others 1 = .ok (.sipush 249, 3) := by decide +kernel
theorem dX10_others_4 : decode cX10_others 4 = .ok (.iload_n 2, 1) := by decide +kernel
theorem dX10_others_5 : decode cX10_others 5 = .ok (.iadd, 1) := by decide +kernel
theorem dX10_others_6 : decode cX10_others 6 = .ok (.iaload, 1) := by decide +kernel
theorem dX10_others_7 : decode cX10_others 7 = .ok (.aload_n 0, 1) := by decide +kernel
theorem dX10_others_8 : decode cX10_others 8 = .ok (.iload_n 1, 1) := by decide +kernel
theorem dX10_others_9 : decode cX10_others 9 = .ok (.invokestatic 113, 3) := by decide +kernel
theorem dX10_others_12 : decode cX10_others 12 = .ok (.iload_n 2, 1) := by decide +kernel
theorem dX10_others_13 : decode cX10_others 13 = .ok (.if_icmp .ne 7, 3) := by decide +kernel
theorem dX10_others_16 : decode cX10_others 16 = .ok (.iconst 1, 1) := by decide +kernel
theorem dX10_others_17 : decode cX10_others 17 = .ok (.goto 4, 3) := by decide +kernel
theorem dX10_others_20 : decode cX10_others 20 = .ok (.iconst 0, 1) := by decide +kernel
theorem dX10_others_21 : decode cX10_others 21 = .ok (.isub, 1) := by decide +kernel
theorem dX10_others_22 : decode cX10_others 22 = .ok (.ireturn, 1) := by decide +kernel
set_option maxRecDepth 20000 in
theorem ggX10_canShelve_X10_others : GoodIn wsX10_canShelve wsX10_others := goodIn_r _ [4, 5, 6, 3, 7, 8, 9, 10] (by decide +kernel) (by decide +kernel)
set_option maxRecDepth 20000 in
theorem gX10_canShelve_X10_others : GoodIn wsX10_canShelve (va_wsS RX10 116 yX10_others wsX10_others) := goodIn_app (goodIn_of _ (by decide +kernel)) ggX10_canShelve_X10_others
theorem dX10_canShelve_0 : decode cX10_canShelve 0 = .ok (.aload_n 0, 1) := by decide +kernel
theorem dX10_canShelve_1 : decode cX10_canShelve 1 = .ok (.iload_n 1, 1) := by decide +kernel
theorem dX10_canShelve_2 : decode cX10_canShelve 2 = .ok (.iload_n 2, 1) := by decide +kernel
theorem dX10_canShelve_3 : decode cX10_canShelve 3 = .ok (.invokestatic 116, 3) := by decide +kernel
theorem dX10_canShelve_6 : decode cX10_canShelve 6 = .ok (.bipush 6, 2) := by decide +kernel
theorem dX10_canShelve_8 : decode cX10_canShelve 8 = .ok (.if_icmp .ge 7, 3) := by decide +kernel
theorem dX10_canShelve_11 : decode cX10_canShelve 11 = .ok (.iconst 1, 1) := by decide +kernel
theorem dX10_canShelve_12 : decode cX10_canShelve 12 = .ok (.goto 4, 3) := by decide +kernel
theorem dX10_canShelve_15 : decode cX10_canShelve 15 = .ok (.iconst 0, 1) := by decide +kernel
theorem dX10_canShelve_16 : decode cX10_canShelve 16 = .ok (.istore_n 3, 1) := by decide +kernel
theorem dX10_canShelve_17 : decode cX10_canShelve 17 = .ok (.iconst 0, 1) := by decide +kernel
theorem dX10_canShelve_18 : decode cX10_canShelve 18 = .ok (.istore 4, 2) := by decide +kernel
theorem dX10_canShelve_20 : decode cX10_canShelve 20 = .ok (.iload 4, 2) := by decide +kernel
theorem dX10_canShelve_22 : decode cX10_canShelve 22 = .ok (.aload_n 0, 1) := by decide +kernel
theorem dX10_canShelve_23 : decode cX10_canShelve 23 = .ok (.sipush 249, 3) := by decide +kernel
theorem dX10_canShelve_26 : decode cX10_canShelve 26 = .ok (.iload_n 2, 1) := by decide +kernel
theorem dX10_canShelve_27 : decode cX10_canShelve 27 = .ok (.iadd, 1) := by decide +kernel
theorem dX10_canShelve_28 : decode cX10_canShelve 28 = .ok (.iaload, 1) := by decide +kernel
theorem dX10_canShelve_29 : decode cX10_canShelve 29 = .ok (.if_icmp .ge 66, 3) := by decide +kernel
theorem dX10_canShelve_32 : decode cX10_canShelve 32 = .ok (.aload_n 0, 1) := by decide +kernel
theorem dX10_canShelve_33 : decode cX10_canShelve 33 = .ok (.sipush 255, 3) := by decide +kernel
theorem dX10_canShelve_36 : decode cX10_canShelve 36 = .ok (.bipush 6, 2) := by decide +kernel
theorem dX10_canShelve_38 : decode cX10_canShelve 38 = .ok (.iload_n 2, 1) := by decide +kernel
theorem dX10_canShelve_39 : decode cX10_canShelve 39 = .ok (.imul, 1) := by decide +kernel
theorem dX10_canShelve_40 : decode cX10_canShelve 40 = .ok (.iadd, 1) := by decide +kernel
theorem dX10_canShelve_41 : decode cX10_canShelve 41 = .ok (.iload 4, 2) := by decide +kernel
theorem dX10_canShelve_43 : decode cX10_canShelve 43 = .ok (.iadd, 1) := by decide +kernel
theorem dX10_canShelve_44 : decode cX10_canShelve 44 = .ok (.iaload, 1) := by decide +kernel
theorem dX10_canShelve_45 : decode cX10_canShelve 45 = .ok (.istore 5, 2) := by decide +kernel
theorem dX10_canShelve_47 : decode cX10_canShelve 47 = .ok (.iload_n 3, 1) := by decide +kernel
theorem dX10_canShelve_48 : decode cX10_canShelve 48 = .ok (.ifCond .eq 39, 3) := by decide +kernel
theorem dX10_canShelve_51 : decode cX10_canShelve 51 = .ok (.iload 5, 2) := by decide +kernel
theorem dX10_canShelve_53 : decode cX10_canShelve 53 = .ok (.iload_n 1, 1) := by decide +kernel
theorem dX10_canShelve_54 : decode cX10_canShelve 54 = .ok (.if_icmp .eq 29, 3) := by decide +kernel
theorem dX10_canShelve_57 : decode cX10_canShelve 57 = .ok (.aload_n 0, 1) := by decide +kernel
theorem dX10_canShelve_58 : decode cX10_canShelve 58 = .ok (.bipush 25, 2) := by decide +kernel
theorem dX10_canShelve_60 : decode cX10_canShelve 60 = .ok (.aload_n 0, 1) := by decide +kernel
theorem dX10_canShelve_61 : decode cX10_canShelve 61 = .ok (.bipush 105, 2) := by decide +kernel
theorem dX10_canShelve_63 : decode cX10_canShelve 63 = .ok (.iload 5, 2) := by decide +kernel
theorem dX10_canShelve_65 : decode cX10_canShelve 65 = .ok (.iadd, 1) := by decide +kernel
theorem dX10_canShelve_66 : decode cX10_canShelve 66 = .ok (.iaload, 1) := by decide +kernel
theorem dX10_canShelve_67 : decode cX10_canShelve 67 = .ok (.iadd, 1) := by decide +kernel
theorem dX10_canShelve_68 : decode cX10_canShelve 68 = .ok (.iaload, 1) := by decide +kernel
theorem dX10_canShelve_69 : decode cX10_canShelve 69 = .ok (.aload_n 0, 1) := by decide +kernel
theorem dX10_canShelve_70 : decode cX10_canShelve 70 = .ok (.bipush 25, 2) := by decide +kernel
theorem dX10_canShelve_72 : decode cX10_canShelve 72 = .ok (.aload_n 0, 1) := by decide +kernel
theorem dX10_canShelve_73 : decode cX10_canShelve 73 = .ok (.bipush 105, 2) := by decide +kernel
theorem dX10_canShelve_75 : decode cX10_canShelve 75 = .ok (.iload_n 1, 1) := by decide +kernel
theorem dX10_canShelve_76 : decode cX10_canShelve 76 = .ok (.iadd, 1) := by decide +kernel
theorem dX10_canShelve_77 : decode cX10_canShelve 77 = .ok (.iaload, 1) := by decide +kernel
theorem dX10_canShelve_78 : decode cX10_canShelve 78 = .ok (.iadd, 1) := by decide +kernel
theorem dX10_canShelve_79 : decode cX10_canShelve 79 = .ok (.iaload, 1) := by decide +kernel
theorem dX10_canShelve_80 : decode cX10_canShelve 80 = .ok (.if_icmp .ne 7, 3) := by decide +kernel
theorem dX10_canShelve_83 : decode cX10_canShelve 83 = .ok (.iconst 1, 1) := by decide +kernel
theorem dX10_canShelve_84 : decode cX10_canShelve 84 = .ok (.goto 4, 3) := by decide +kernel
theorem dX10_canShelve_87 : decode cX10_canShelve 87 = .ok (.iconst 0, 1) := by decide +kernel
theorem dX10_canShelve_88 : decode cX10_canShelve 88 = .ok (.istore_n 3, 1) := by decide +kernel
theorem dX10_canShelve_89 : decode cX10_canShelve 89 = .ok (.iinc 4 1, 3) := by decide +kernel
theorem dX10_canShelve_92 : decode cX10_canShelve 92 = .ok (.goto (-72), 3) := by decide +kernel
theorem dX10_canShelve_95 : decode cX10_canShelve 95 = .ok (.iload_n 3, 1) := by decide +kernel
theorem dX10_canShelve_96 : decode cX10_canShelve 96 = .ok (.ireturn, 1) := by decide +kernel
set_option maxRecDepth 20000 in
theorem ggX10_goShelve_X10_goTake : GoodIn wsX10_goShelve wsX10_goTake := goodIn_r _ [4, 5, 6, 3, 7, 8, 9, 10] (by decide +kernel) (by decide +kernel)
set_option maxRecDepth 20000 in
theorem gX10_goShelve_X10_goTake : GoodIn wsX10_goShelve (va_wsS RX10 119 yX10_goTake wsX10_goTake) := goodIn_app (goodIn_of _ (by decide +kernel)) ggX10_goShelve_X10_goTake
theorem dX10_goShelve_0 : decode cX10_goShelve 0 = .ok (.aload_n 0, 1) := by decide +kernel
theorem dX10_goShelve_1 : decode cX10_goShelve 1 = .ok (.iload_n 1, 1) := by decide +kernel
theorem dX10_goShelve_2 : decode cX10_goShelve 2 = .ok (.invokestatic 119, 3) := by decide +kernel
theorem dX10_goShelve_5 : decode cX10_goShelve 5 = .ok (.aload_n 0, 1) := by decide +kernel
theorem dX10_goShelve_6 : decode cX10_goShelve 6 = .ok (.sipush 249, 3) := by decide +kernel
theorem dX10_goShelve_9 : decode cX10_goShelve 9 = .ok (.iload_n 2, 1) := by decide +kernel
theorem dX10_goShelve_10 : decode cX10_goShelve 10 = .ok (.iadd, 1) := by decide +kernel
theorem dX10_goShelve_11 : decode cX10_goShelve 11 = .ok (.iaload, 1) := by decide +kernel
theorem dX10_goShelve_12 : decode cX10_goShelve 12 = .ok (.istore 4, 2) := by decide +kernel
theorem dX10_goShelve_14 : decode cX10_goShelve 14 = .ok (.iload 4, 2) := by decide +kernel
theorem dX10_goShelve_16 : decode cX10_goShelve 16 = .ok (.iload_n 3, 1) := by decide +kernel
theorem dX10_goShelve_17 : decode cX10_goShelve 17 = .ok (.if_icmp .le 37, 3) := by decide +kernel
theorem dX10_goShelve_20 : decode cX10_goShelve 20 = .ok (.aload_n 0, 1) := by decide +kernel
theorem dX10_goShelve_21 : decode cX10_goShelve 21 = .ok (.sipush 255, 3) := by decide +kernel
theorem dX10_goShelve_24 : decode cX10_goShelve 24 = .ok (.bipush 6, 2) := by decide +kernel
theorem dX10_goShelve_26 : decode cX10_goShelve 26 = .ok (.iload_n 2, 1) := by decide +kernel
theorem dX10_goShelve_27 : decode cX10_goShelve 27 = .ok (.imul, 1) := by decide +kernel
theorem dX10_goShelve_28 : decode cX10_goShelve 28 = .ok (.iadd, 1) := by decide +kernel
theorem dX10_goShelve_29 : decode cX10_goShelve 29 = .ok (.iload 4, 2) := by decide +kernel
theorem dX10_goShelve_31 : decode cX10_goShelve 31 = .ok (.iadd, 1) := by decide +kernel
theorem dX10_goShelve_32 : decode cX10_goShelve 32 = .ok (.aload_n 0, 1) := by decide +kernel
theorem dX10_goShelve_33 : decode cX10_goShelve 33 = .ok (.sipush 255, 3) := by decide +kernel
theorem dX10_goShelve_36 : decode cX10_goShelve 36 = .ok (.bipush 6, 2) := by decide +kernel
theorem dX10_goShelve_38 : decode cX10_goShelve 38 = .ok (.iload_n 2, 1) := by decide +kernel
theorem dX10_goShelve_39 : decode cX10_goShelve 39 = .ok (.imul, 1) := by decide +kernel
theorem dX10_goShelve_40 : decode cX10_goShelve 40 = .ok (.iadd, 1) := by decide +kernel
theorem dX10_goShelve_41 : decode cX10_goShelve 41 = .ok (.iload 4, 2) := by decide +kernel
theorem dX10_goShelve_43 : decode cX10_goShelve 43 = .ok (.iadd, 1) := by decide +kernel
theorem dX10_goShelve_44 : decode cX10_goShelve 44 = .ok (.iconst 1, 1) := by decide +kernel
theorem dX10_goShelve_45 : decode cX10_goShelve 45 = .ok (.isub, 1) := by decide +kernel
theorem dX10_goShelve_46 : decode cX10_goShelve 46 = .ok (.iaload, 1) := by decide +kernel
theorem dX10_goShelve_47 : decode cX10_goShelve 47 = .ok (.iastore, 1) := by decide +kernel
theorem dX10_goShelve_48 : decode cX10_goShelve 48 = .ok (.iinc 4 (-1), 3) := by decide +kernel
theorem dX10_goShelve_51 : decode cX10_goShelve 51 = .ok (.goto (-37), 3) := by decide +kernel
theorem dX10_goShelve_54 : decode cX10_goShelve 54 = .ok (.aload_n 0, 1) := by decide +kernel
theorem dX10_goShelve_55 : decode cX10_goShelve 55 = .ok (.sipush 255, 3) := by decide +kernel
theorem dX10_goShelve_58 : decode cX10_goShelve 58 = .ok (.bipush 6, 2) := by decide +kernel
theorem dX10_goShelve_60 : decode cX10_goShelve 60 = .ok (.iload_n 2, 1) := by decide +kernel
theorem dX10_goShelve_61 : decode cX10_goShelve 61 = .ok (.imul, 1) := by decide +kernel
theorem dX10_goShelve_62 : decode cX10_goShelve 62 = .ok (.iadd, 1) := by decide +kernel
theorem dX10_goShelve_63 : decode cX10_goShelve 63 = .ok (.iload_n 3, 1) := by decide +kernel
theorem dX10_goShelve_64 : decode cX10_goShelve 64 = .ok (.iadd, 1) := by decide +kernel
theorem dX10_goShelve_65 : decode cX10_goShelve 65 = .ok (.iload_n 1, 1) := by decide +kernel
theorem dX10_goShelve_66 : decode cX10_goShelve 66 = .ok (.iastore, 1) := by decide +kernel
theorem dX10_goShelve_67 : decode cX10_goShelve 67 = .ok (.aload_n 0, 1) := by decide +kernel
theorem dX10_goShelve_68 : decode cX10_goShelve 68 = .ok (.sipush 249, 3) := by decide +kernel
theorem dX10_goShelve_71 : decode cX10_goShelve 71 = .ok (.iload_n 2, 1) := by decide +kernel
theorem dX10_goShelve_72 : decode cX10_goShelve 72 = .ok (.iadd, 1) := by decide +kernel
theorem dX10_goShelve_73 : decode cX10_goShelve 73 = .ok (.dup2, 1) := by decide +kernel
theorem dX10_goShelve_74 : decode cX10_goShelve 74 = .ok (.iaload, 1) := by decide +kernel
theorem dX10_goShelve_75 : decode cX10_goShelve 75 = .ok (.iconst 1, 1) := by decide +kernel
theorem dX10_goShelve_76 : decode cX10_goShelve 76 = .ok (.iadd, 1) := by decide +kernel
theorem dX10_goShelve_77 : decode cX10_goShelve 77 = .ok (.iastore, 1) := by decide +kernel
theorem dX10_goShelve_78 : decode cX10_goShelve 78 = .ok (.aload_n 0, 1) := by decide +kernel
theorem dX10_goShelve_79 : decode cX10_goShelve 79 = .ok (.sipush 249, 3) := by decide +kernel
theorem dX10_goShelve_82 : decode cX10_goShelve 82 = .ok (.iload_n 2, 1) := by decide +kernel
theorem dX10_goShelve_83 : decode cX10_goShelve 83 = .ok (.iadd, 1) := by decide +kernel
theorem dX10_goShelve_84 : decode cX10_goShelve 84 = .ok (.iaload, 1) := by decide +kernel
theorem dX10_goShelve_85 : decode cX10_goShelve 85 = .ok (.ireturn, 1) := by decide +kernel
set_option maxRecDepth 20000 in
theorem ggX10_isGood_X10_fake : GoodIn wsX10_isGood wsX10_fake := goodIn_r _ [5, 6, 7, 4, 8, 9, 10, 11, 12, 13, 14, 15, 16, 17, 18, 19, 20, 21, 22, 23, 24, 25, 26, 27, 28, 29, 30, 31, 32, 33, 34, 35, 36, 37, 38, 39, 40, 41, 42, 43, 44, 45, 46, 47, 48, 49, 50, 51, 52, 53, 54, 55, 56, 57, 58, 59, 60, 61, 62] (by decide +kernel) (by decide +kernel)
set_option maxRecDepth 20000 in
theorem gX10_isGood_X10_fake : GoodIn wsX10_isGood (wsV RX10 107 RX10 yX10_fake wsX10_fake) := goodIn_app (goodIn_of _ (by decide +kernel)) ggX10_isGood_X10_fake
set_option maxRecDepth 20000 in
theorem ggX10_isGood_X10_yearsOf : GoodIn wsX10_isGood wsX10_yearsOf := goodIn_r _ [23, 24, 25, 4, 26, 27, 28, 29, 30, 31, 32, 12, 13, 14, 15, 16, 17, 18, 19, 20] (by decide +kernel) (by decide +kernel)
set_option maxRecDepth 20000 in
theorem gX10_isGood_X10_yearsOf : GoodIn wsX10_isGood (va_wsS RX10 80 yX10_yearsOf wsX10_yearsOf) := goodIn_app (goodIn_of _ (by decide +kernel)) ggX10_isGood_X10_yearsOf
theorem dX10_isGood_0 : decode cX10_isGood 0 = .ok (.iconst (-1), 1) := by decide +kernel
theorem dX10_isGood_1 : decode cX10_isGood 1 = .ok (.istore_n 3, 1) := by decide +kernel
theorem dX10_isGood_2 : decode cX10_isGood 2 = .ok (.iconst 1, 1) := by decide +kernel
theorem dX10_isGood_3 : decode cX10_isGood 3 = .ok (.istore 4, 2) := by decide +kernel
theorem dX10_isGood_5 : decode cX10_isGood 5 = .ok (.iconst 0, 1) := by decide +kernel
theorem dX10_isGood_6 : decode cX10_isGood 6 = .ok (.istore 5, 2) := by decide +kernel
theorem dX10_isGood_8 : decode cX10_isGood 8 = .ok (.iload 5, 2) := by decide +kernel
theorem dX10_isGood_10 : decode cX10_isGood 10 = .ok (.aload_n 1, 1) := by decide +kernel
theorem dX10_isGood_11 : decode cX10_isGood 11 = .ok (.sipush 249, 3) := by decide +kernel
theorem dX10_isGood_14 : decode cX10_isGood 14 = .ok (.iload_n 2, 1) := by decide +kernel
theorem dX10_isGood_15 : decode cX10_isGood 15 = .ok (.iadd, 1) := by decide +kernel
theorem dX10_isGood_16 : decode cX10_isGood 16 = .ok (.iaload, 1) := by decide +kernel
theorem dX10_isGood_17 : decode cX10_isGood 17 = .ok (.if_icmp .ge 80, 3) := by decide +kernel
theorem dX10_isGood_20 : decode cX10_isGood 20 = .ok (.aload_n 1, 1) := by decide +kernel
theorem dX10_isGood_21 : decode cX10_isGood 21 = .ok (.sipush 255, 3) := by decide +kernel
theorem dX10_isGood_24 : decode cX10_isGood 24 = .ok (.bipush 6, 2) := by decide +kernel
theorem dX10_isGood_26 : decode cX10_isGood 26 = .ok (.iload_n 2, 1) := by decide +kernel
theorem dX10_isGood_27 : decode cX10_isGood 27 = .ok (.imul, 1) := by decide +kernel
theorem dX10_isGood_28 : decode cX10_isGood 28 = .ok (.iadd, 1) := by decide +kernel
theorem dX10_isGood_29 : decode cX10_isGood 29 = .ok (.iload 5, 2) := by decide +kernel
theorem dX10_isGood_31 : decode cX10_isGood 31 = .ok (.iadd, 1) := by decide +kernel
theorem dX10_isGood_32 : decode cX10_isGood 32 = .ok (.iaload, 1) := by decide +kernel
theorem dX10_isGood_33 : decode cX10_isGood 33 = .ok (.istore 6, 2) := by decide +kernel
theorem dX10_isGood_35 : decode cX10_isGood 35 = .ok (.aload_n 0, 1) := by decide +kernel
theorem dX10_isGood_36 : decode cX10_isGood 36 = .ok (.aload_n 1, 1) := by decide +kernel
theorem dX10_isGood_37 : decode cX10_isGood 37 = .ok (.iload 6, 2) := by decide +kernel
theorem dX10_isGood_39 : decode cX10_isGood 39 = .ok (.invokevirtual 107, 3) := by decide +kernel
theorem dX10_isGood_42 : decode cX10_isGood 42 = .ok (.ifCond .ne 49, 3) := by decide +kernel
theorem dX10_isGood_45 : decode cX10_isGood 45 = .ok (.iload 4, 2) := by decide +kernel
theorem dX10_isGood_47 : decode cX10_isGood 47 = .ok (.ifCond .eq 18, 3) := by decide +kernel
theorem dX10_isGood_50 : decode cX10_isGood 50 = .ok (.aload_n 1, 1) := by decide +kernel
theorem dX10_isGood_51 : decode cX10_isGood 51 = .ok (.iload 6, 2) := by decide +kernel
theorem dX10_isGood_53 : decode cX10_isGood 53 = .ok (.iconst 0, 1) := by decide +kernel
theorem dX10_isGood_54 : decode cX10_isGood 54 = .ok (.invokestatic 80, 3) := by decide +kernel
theorem dX10_isGood_57 : decode cX10_isGood 57 = .ok (.iload_n 3, 1) := by decide +kernel
theorem dX10_isGood_58 : decode cX10_isGood 58 = .ok (.if_icmp .lt 7, 3) := by decide +kernel
theorem dX10_isGood_61 : decode cX10_isGood 61 = .ok (.iconst 1, 1) := by decide +kernel
theorem dX10_isGood_62 : decode cX10_isGood 62 = .ok (.goto 4, 3) := by decide +kernel
theorem dX10_isGood_65 : decode cX10_isGood 65 = .ok (.iconst 0, 1) := by decide +kernel
theorem dX10_isGood_66 : decode cX10_isGood 66 = .ok (.istore 4, 2) := by decide +kernel
theorem dX10_isGood_68 : decode cX10_isGood 68 = .ok (.aload_n 1, 1) := by decide +kernel
theorem dX10_isGood_69 : decode cX10_isGood 69 = .ok (.iload 6, 2) := by decide +kernel
theorem dX10_isGood_71 : decode cX10_isGood 71 = .ok (.iconst 0, 1) := by decide +kernel
theorem dX10_isGood_72 : decode cX10_isGood 72 = .ok (.invokestatic 80, 3) := by decide +kernel
theorem dX10_isGood_75 : decode cX10_isGood 75 = .ok (.iload_n 3, 1) := by decide +kernel
theorem dX10_isGood_76 : decode cX10_isGood 76 = .ok (.if_icmp .le 13, 3) := by decide +kernel
theorem dX10_isGood_79 : decode cX10_isGood 79 = .ok (.aload_n 1, 1) := by decide +kernel
theorem dX10_isGood_80 : decode cX10_isGood 80 = .ok (.iload 6, 2) := by decide +kernel
theorem dX10_isGood_82 : decode cX10_isGood 82 = .ok (.iconst 0, 1) := by decide +kernel
theorem dX10_isGood_83 : decode cX10_isGood 83 = .ok (.invokestatic 80, 3) := by decide +kernel
theorem dX10_isGood_86 : decode cX10_isGood 86 = .ok (.goto 4, 3) := by decide +kernel
theorem dX10_isGood_89 : decode cX10_isGood 89 = .ok (.iload_n 3, 1) := by decide +kernel
theorem dX10_isGood_90 : decode cX10_isGood 90 = .ok (.istore_n 3, 1) := by decide +kernel
theorem dX10_isGood_91 : decode cX10_isGood 91 = .ok (.iinc 5 1, 3) := by decide +kernel
theorem dX10_isGood_94 : decode cX10_isGood 94 = .ok (.goto (-86), 3) := by decide +kernel
theorem dX10_isGood_97 : decode cX10_isGood 97 = .ok (.iload 4, 2) := by decide +kernel
theorem dX10_isGood_99 : decode cX10_isGood 99 = .ok (.ireturn, 1) := by decide +kernel
set_option maxRecDepth 20000 in
theorem ggX10_bad_X10_isGood : GoodIn wsX10_bad wsX10_isGood := goodIn_r _ [5, 6, 7, 8, 4, 9, 10, 11, 12, 13, 14, 15, 16, 17, 18, 19, 20, 21, 22, 23, 24, 25, 26, 27, 28, 29, 30, 31, 32, 33, 34, 35, 36, 37, 38, 39, 40, 41, 42, 43, 44, 45, 46, 47, 48, 49, 50, 51, 52, 53, 54, 55, 56, 57, 58, 59, 60, 61, 62, 63, 64, 65, 66] (by decide +kernel) (by decide +kernel)
set_option maxRecDepth 20000 in
theorem gX10_bad_X10_isGood : GoodIn wsX10_bad (wsV RX10 123 RX10 yX10_isGood wsX10_isGood) := goodIn_app (goodIn_of _ (by decide +kernel)) ggX10_bad_X10_isGood
theorem dX10_bad_0 : decode cX10_bad 0 = .ok (.iconst 0, 1) := by decide +kernel
theorem dX10_bad_1 : decode cX10_bad 1 = .ok (.istore_n 2, 1) := by decide +kernel
theorem dX10_bad_2 : decode cX10_bad 2 = .ok (.iconst 0, 1) := by decide +kernel
theorem dX10_bad_3 : decode cX10_bad 3 = .ok (.istore_n 3, 1) := by decide +kernel
theorem dX10_bad_4 : decode cX10_bad 4 = .ok (.iload_n 3, 1) := by decide +kernel
theorem dX10_bad_5 : decode cX10_bad 5 = .ok (.bipush 6, 2) := by decide +kernel
theorem dX10_bad_7 : decode cX10_bad 7 = .ok (.if_icmp .ge 26, 3) := by decide +kernel
theorem dX10_bad_10 : decode cX10_bad 10 = .ok (.iload_n 2, 1) := by decide +kernel
theorem dX10_bad_11 : decode cX10_bad 11 = .ok (.aload_n 0, 1) := by decide +kernel
theorem dX10_bad_12 : decode cX10_bad 12 = .ok (.aload_n 1, 1) := by decide +kernel
theorem dX10_bad_13 : decode cX10_bad 13 = .ok (.iload_n 3, 1) := by decide +kernel
theorem dX10_bad_14 : decode cX10_bad 14 = .ok (.invokevirtual 123, 3) := by decide +kernel
theorem dX10_bad_17 : decode cX10_bad 17 = .ok (.ifCond .eq 7, 3) := by decide +kernel
theorem dX10_bad_20 : decode cX10_bad 20 = .ok (.iconst 0, 1) := by decide +kernel
theorem dX10_bad_21 : decode cX10_bad 21 = .ok (.goto 4, 3) := by decide +kernel
theorem dX10_bad_24 : decode cX10_bad 24 = .ok (.iconst 1, 1) := by decide +kernel
theorem dX10_bad_25 : decode cX10_bad 25 = .ok (.iadd, 1) := by decide +kernel
theorem dX10_bad_26 : decode cX10_bad 26 = .ok (.istore_n 2, 1) := by decide +kernel
theorem dX10_bad_27 : decode cX10_bad 27 = .ok (.iinc 3 1, 3) := by decide +kernel
theorem dX10_bad_30 : decode cX10_bad 30 = .ok (.goto (-26), 3) := by decide +kernel
theorem dX10_bad_33 : decode cX10_bad 33 = .ok (.iload_n 2, 1) := by decide +kernel
theorem dX10_bad_34 : decode cX10_bad 34 = .ok (.ireturn, 1) := by decide +kernel
set_option maxRecDepth 20000 in
theorem ggX10_rank_X10_fake : GoodIn wsX10_rank wsX10_fake := goodIn_r _ [5, 6, 7, 4, 8, 9, 10, 11, 12, 13, 14, 15, 16, 17, 18, 19, 20, 21, 22, 23, 24, 25, 26, 27, 28, 29, 30, 31, 32, 33, 34, 35, 36, 37, 38, 39, 40, 41, 42, 43, 44, 45, 46, 47, 48, 49, 50, 51, 52, 53, 54, 55, 56, 57, 58, 59, 60, 61, 62] (by decide +kernel) (by decide +kernel)
set_option maxRecDepth 20000 in
theorem gX10_rank_X10_fake : GoodIn wsX10_rank (wsV RX10 107 RX10 yX10_fake wsX10_fake) := goodIn_app (goodIn_of _ (by decide +kernel)) ggX10_rank_X10_fake
set_option maxRecDepth 20000 in
theorem ggX10_rank_X10_yearsOf : GoodIn wsX10_rank wsX10_yearsOf := goodIn_r _ [23, 24, 25, 4, 26, 27, 28, 29, 30, 31, 32, 12, 13, 14, 15, 16, 17, 18, 19, 20] (by decide +kernel) (by decide +kernel)
set_option maxRecDepth 20000 in
theorem gX10_rank_X10_yearsOf : GoodIn wsX10_rank (va_wsS RX10 80 yX10_yearsOf wsX10_yearsOf) := goodIn_app (goodIn_of _ (by decide +kernel)) ggX10_rank_X10_yearsOf
theorem dX10_rank_0 : decode cX10_rank 0 = .ok (.aload_n 0, 1) := by decide +kernel
theorem dX10_rank_1 : decode cX10_rank 1 = .ok (.aload_n 1, 1) := by decide +kernel
theorem dX10_rank_2 : decode cX10_rank 2 = .ok (.iload_n 2, 1) := by decide +kernel
theorem dX10_rank_3 : decode cX10_rank 3 = .ok (.invokevirtual 107, 3) := by decide +kernel
theorem dX10_rank_6 : decode cX10_rank 6 = .ok (.ifCond .le 9, 3) := by decide +kernel
theorem dX10_rank_9 : decode cX10_rank 9 = .ok (.sipush 2000, 3) := by decide +kernel
theorem dX10_rank_12 : decode cX10_rank 12 = .ok (.goto 9, 3) := by decide +kernel
theorem dX10_rank_15 : decode cX10_rank 15 = .ok (.aload_n 1, 1) := by decide +kernel
theorem dX10_rank_16 : decode cX10_rank 16 = .ok (.iload_n 2, 1) := by decide +kernel
theorem dX10_rank_17 : decode cX10_rank 17 = .ok (.iconst 0, 1) := by decide +kernel
theorem dX10_rank_18 : decode cX10_rank 18 = .ok (.invokestatic 80, 3) := by decide +kernel
theorem dX10_rank_21 : decode cX10_rank 21 = .ok (.ireturn, 1) := by decide +kernel
set_option maxRecDepth 20000 in
theorem ggX10_goSort_X10_rank : GoodIn wsX10_goSort wsX10_rank := goodIn_r _ [6, 7, 8, 9, 5, 10, 11, 12, 13, 14, 15, 16, 17, 18, 19, 20, 21, 22, 23, 24, 25, 26, 27, 28, 29, 30, 31, 32, 33, 34, 35, 36, 37, 38, 39, 40, 41, 42, 43, 44, 45, 46, 47, 48, 49, 50, 51, 52, 53, 54, 55, 56, 57, 58, 59, 60, 61, 62, 63, 64, 65, 66, 67] (by decide +kernel) (by decide +kernel)
set_option maxRecDepth 20000 in
theorem gX10_goSort_X10_rank : GoodIn wsX10_goSort (wsV RX10 126 RX10 yX10_rank wsX10_rank) := goodIn_app (goodIn_of _ (by decide +kernel)) ggX10_goSort_X10_rank
theorem dX10_goSort_0 : decode cX10_goSort 0 = .ok (.iconst 0, 1) := by decide +kernel
theorem dX10_goSort_1 : decode cX10_goSort 1 = .ok (.istore_n 3, 1) := by decide +kernel
theorem dX10_goSort_2 : decode cX10_goSort 2 = .ok (.sipush 255, 3) := by decide +kernel
theorem dX10_goSort_5 : decode cX10_goSort 5 = .ok (.bipush 6, 2) := by decide +kernel
theorem dX10_goSort_7 : decode cX10_goSort 7 = .ok (.iload_n 2, 1) := by decide +kernel
theorem dX10_goSort_8 : decode cX10_goSort 8 = .ok (.imul, 1) := by decide +kernel
theorem dX10_goSort_9 : decode cX10_goSort 9 = .ok (.iadd, 1) := by decide +kernel
theorem dX10_goSort_10 : decode cX10_goSort 10 = .ok (.istore 4, 2) := by decide +kernel
theorem dX10_goSort_12 : decode cX10_goSort 12 = .ok (.iconst 0, 1) := by decide +kernel
theorem dX10_goSort_13 : decode cX10_goSort 13 = .ok (.istore 5, 2) := by decide +kernel
theorem dX10_goSort_15 : decode cX10_goSort 15 = .ok (.iload 5, 2) := by decide +kernel
theorem dX10_goSort_17 : decode cX10_goSort 17 = .ok (.aload_n 1, 1) := by decide +kernel
theorem dX10_goSort_18 : decode cX10_goSort 18 = .ok (.sipush 249, 3) := by decide +kernel
theorem dX10_goSort_21 : decode cX10_goSort 21 = .ok (.iload_n 2, 1) := by decide +kernel
theorem dX10_goSort_22 : decode cX10_goSort 22 = .ok (.iadd, 1) := by decide +kernel
theorem dX10_goSort_23 : decode cX10_goSort 23 = .ok (.iaload, 1) := by decide +kernel
theorem dX10_goSort_24 : decode cX10_goSort 24 = .ok (.if_icmp .ge 121, 3) := by decide +kernel
theorem dX10_goSort_27 : decode cX10_goSort 27 = .ok (.iconst 0, 1) := by decide +kernel
theorem dX10_goSort_28 : decode cX10_goSort 28 = .ok (.istore 6, 2) := by decide +kernel
theorem dX10_goSort_30 : decode cX10_goSort 30 = .ok (.aload_n 0, 1) := by decide +kernel
theorem dX10_goSort_31 : decode cX10_goSort 31 = .ok (.aload_n 1, 1) := by decide +kernel
theorem dX10_goSort_32 : decode cX10_goSort 32 = .ok (.aload_n 1, 1) := by decide +kernel
theorem dX10_goSort_33 : decode cX10_goSort 33 = .ok (.iload 4, 2) := by decide +kernel
theorem dX10_goSort_35 : decode cX10_goSort 35 = .ok (.iload 5, 2) := by decide +kernel
theorem dX10_goSort_37 : decode cX10_goSort 37 = .ok (.iadd, 1) := by decide +kernel
theorem dX10_goSort_38 : decode cX10_goSort 38 = .ok (.iaload, 1) := by decide +kernel
theorem dX10_goSort_39 : decode cX10_goSort 39 = .ok (.invokevirtual 126, 3) := by decide +kernel
theorem dX10_goSort_42 : decode cX10_goSort 42 = .ok (.istore 7, 2) := by decide +kernel
theorem dX10_goSort_44 : decode cX10_goSort 44 = .ok (.iconst 0, 1) := by decide +kernel
theorem dX10_goSort_45 : decode cX10_goSort 45 = .ok (.istore 8, 2) := by decide +kernel
theorem dX10_goSort_47 : decode cX10_goSort 47 = .ok (.iload 8, 2) := by decide +kernel
theorem dX10_goSort_49 : decode cX10_goSort 49 = .ok (.aload_n 1, 1) := by decide +kernel
theorem dX10_goSort_50 : decode cX10_goSort 50 = .ok (.sipush 249, 3) := by decide +kernel
theorem dX10_goSort_53 : decode cX10_goSort 53 = .ok (.iload_n 2, 1) := by decide +kernel
theorem dX10_goSort_54 : decode cX10_goSort 54 = .ok (.iadd, 1) := by decide +kernel
theorem dX10_goSort_55 : decode cX10_goSort 55 = .ok (.iaload, 1) := by decide +kernel
theorem dX10_goSort_56 : decode cX10_goSort 56 = .ok (.if_icmp .ge 54, 3) := by decide +kernel
theorem dX10_goSort_59 : decode cX10_goSort 59 = .ok (.aload_n 0, 1) := by decide +kernel
theorem dX10_goSort_60 : decode cX10_goSort 60 = .ok (.aload_n 1, 1) := by decide +kernel
theorem dX10_goSort_61 : decode cX10_goSort 61 = .ok (.aload_n 1, 1) := by decide +kernel
theorem dX10_goSort_62 : decode cX10_goSort 62 = .ok (.iload 4, 2) := by decide +kernel
theorem dX10_goSort_64 : decode cX10_goSort 64 = .ok (.iload 8, 2) := by decide +kernel
theorem dX10_goSort_66 : decode cX10_goSort 66 = .ok (.iadd, 1) := by decide +kernel
theorem dX10_goSort_67 : decode cX10_goSort 67 = .ok (.iaload, 1) := by decide +kernel
theorem dX10_goSort_68 : decode cX10_goSort 68 = .ok (.invokevirtual 126, 3) := by decide +kernel
theorem dX10_goSort_71 : decode cX10_goSort 71 = .ok (.istore 9, 2) := by decide +kernel
theorem dX10_goSort_73 : decode cX10_goSort 73 = .ok (.iload 6, 2) := by decide +kernel
theorem dX10_goSort_75 : decode cX10_goSort 75 = .ok (.iload 9, 2) := by decide +kernel
theorem dX10_goSort_77 : decode cX10_goSort 77 = .ok (.iload 7, 2) := by decide +kernel
theorem dX10_goSort_79 : decode cX10_goSort 79 = .ok (.if_icmp .lt 17, 3) := by decide +kernel
theorem dX10_goSort_82 : decode cX10_goSort 82 = .ok (.iload 9, 2) := by decide +kernel
theorem dX10_goSort_84 : decode cX10_goSort 84 = .ok (.iload 7, 2) := by decide +kernel
theorem dX10_goSort_86 : decode cX10_goSort 86 = .ok (.if_icmp .ne 14, 3) := by decide +kernel
theorem dX10_goSort_89 : decode cX10_goSort 89 = .ok (.iload 8, 2) := by decide +kernel
theorem dX10_goSort_91 : decode cX10_goSort 91 = .ok (.iload 5, 2) := by decide +kernel
theorem dX10_goSort_93 : decode cX10_goSort 93 = .ok (.if_icmp .ge 7, 3) := by decide +kernel
theorem dX10_goSort_96 : decode cX10_goSort 96 = .ok (.iconst 1, 1) := by decide +kernel
theorem dX10_goSort_97 : decode cX10_goSort 97 = .ok (.goto 4, 3) := by decide +kernel
theorem dX10_goSort_100 : decode cX10_goSort 100 = .ok (.iconst 0, 1) := by decide +kernel
theorem dX10_goSort_101 : decode cX10_goSort 101 = .ok (.iadd, 1) := by decide +kernel
theorem dX10_goSort_102 : decode cX10_goSort 102 = .ok (.istore 6, 2) := by decide +kernel
theorem dX10_goSort_104 : decode cX10_goSort 104 = .ok (.iinc 8 1, 3) := by decide +kernel
theorem dX10_goSort_107 : decode cX10_goSort 107 = .ok (.goto (-60), 3) := by decide +kernel
theorem dX10_goSort_110 : decode cX10_goSort 110 = .ok (.aload_n 0, 1) := by decide +kernel
theorem dX10_goSort_111 : decode cX10_goSort 111 = .ok (.getfield 32, 3) := by decide +kernel
theorem dX10_goSort_114 : decode cX10_goSort 114 = .ok (.iload 6, 2) := by decide +kernel
theorem dX10_goSort_116 : decode cX10_goSort 116 = .ok (.aload_n 1, 1) := by decide +kernel
theorem dX10_goSort_117 : decode cX10_goSort 117 = .ok (.iload 4, 2) := by decide +kernel
theorem dX10_goSort_119 : decode cX10_goSort 119 = .ok (.iload 5, 2) := by decide +kernel
theorem dX10_goSort_121 : decode cX10_goSort 121 = .ok (.iadd, 1) := by decide +kernel
theorem dX10_goSort_122 : decode cX10_goSort 122 = .ok (.iaload, 1) := by decide +kernel
theorem dX10_goSort_123 : decode cX10_goSort 123 = .ok (.iastore, 1) := by decide +kernel
theorem dX10_goSort_124 : decode cX10_goSort 124 = .ok (.iload_n 3, 1) := by decide +kernel
theorem dX10_goSort_125 : decode cX10_goSort 125 = .ok (.iload 6, 2) := by decide +kernel
theorem dX10_goSort_127 : decode cX10_goSort 127 = .ok (.iload 5, 2) := by decide +kernel
theorem dX10_goSort_129 : decode cX10_goSort 129 = .ok (.if_icmp .ne 7, 3) := by decide +kernel
theorem dX10_goSort_132 : decode cX10_goSort 132 = .ok (.iconst 0, 1) := by decide +kernel
theorem dX10_goSort_133 : decode cX10_goSort 133 = .ok (.goto 4, 3) := by decide +kernel
theorem dX10_goSort_136 : decode cX10_goSort 136 = .ok (.iconst 1, 1) := by decide +kernel
theorem dX10_goSort_137 : decode cX10_goSort 137 = .ok (.iadd, 1) := by decide +kernel
theorem dX10_goSort_138 : decode cX10_goSort 138 = .ok (.istore_n 3, 1) := by decide +kernel
theorem dX10_goSort_139 : decode cX10_goSort 139 = .ok (.iinc 5 1, 3) := by decide +kernel
theorem dX10_goSort_142 : decode cX10_goSort 142 = .ok (.goto (-127), 3) := by decide +kernel
theorem dX10_goSort_145 : decode cX10_goSort 145 = .ok (.iconst 0, 1) := by decide +kernel
theorem dX10_goSort_146 : decode cX10_goSort 146 = .ok (.istore 5, 2) := by decide +kernel
theorem dX10_goSort_148 : decode cX10_goSort 148 = .ok (.iload 5, 2) := by decide +kernel
theorem dX10_goSort_150 : decode cX10_goSort 150 = .ok (.aload_n 1, 1) := by decide +kernel
theorem dX10_goSort_151 : decode cX10_goSort 151 = .ok (.sipush 249, 3) := by decide +kernel
theorem dX10_goSort_154 : decode cX10_goSort 154 = .ok (.iload_n 2, 1) := by decide +kernel
theorem dX10_goSort_155 : decode cX10_goSort 155 = .ok (.iadd, 1) := by decide +kernel
theorem dX10_goSort_156 : decode cX10_goSort 156 = .ok (.iaload, 1) := by decide +kernel
theorem dX10_goSort_157 : decode cX10_goSort 157 = .ok (.if_icmp .ge 23, 3) := by decide +kernel
theorem dX10_goSort_160 : decode cX10_goSort 160 = .ok (.aload_n 1, 1) := by decide +kernel
theorem dX10_goSort_161 : decode cX10_goSort 161 = .ok (.iload 4, 2) := by decide +kernel
theorem dX10_goSort_163 : decode cX10_goSort 163 = .ok (.iload 5, 2) := by decide +kernel
theorem dX10_goSort_165 : decode cX10_goSort 165 = .ok (.iadd, 1) := by decide +kernel
theorem dX10_goSort_166 : decode cX10_goSort 166 = .ok (.aload_n 0, 1) := by decide +kernel
theorem dX10_goSort_167 : decode cX10_goSort 167 = .ok (.getfield 32, 3) := by decide +kernel
theorem dX10_goSort_170 : decode cX10_goSort 170 = .ok (.iload 5, 2) := by decide +kernel
theorem dX10_goSort_172 : decode cX10_goSort 172 = .ok (.iaload, 1) := by decide +kernel
theorem dX10_goSort_173 : decode cX10_goSort 173 = .ok (.iastore, 1) := by decide +kernel
theorem dX10_goSort_174 : decode cX10_goSort 174 = .ok (.iinc 5 1, 3) := by decide +kernel
theorem dX10_goSort_177 : decode cX10_goSort 177 = .ok (.goto (-29), 3) := by decide +kernel
theorem dX10_goSort_180 : decode cX10_goSort 180 = .ok (.iload_n 3, 1) := by decide +kernel
theorem dX10_goSort_181 : decode cX10_goSort 181 = .ok (.ireturn, 1) := by decide +kernel
theorem dX10_canReign_0 : decode cX10_canReign 0 = .ok (.aload_n 0, 1) := by decide +kernel
theorem dX10_canReign_1 : decode cX10_canReign 1 = .ok (.iconst 0, 1) := by decide +kernel
theorem dX10_canReign_2 : decode cX10_canReign 2 = .ok (.iaload, 1) := by decide +kernel
theorem dX10_canReign_3 : decode cX10_canReign 3 = .ok (.bipush 10, 2) := by decide +kernel
theorem dX10_canReign_5 : decode cX10_canReign 5 = .ok (.if_icmp .ge 26, 3) := by decide +kernel
theorem dX10_canReign_8 : decode cX10_canReign 8 = .ok (.aload_n 0, 1) := by decide +kernel
theorem dX10_canReign_9 : decode cX10_canReign 9 = .ok (.iconst 0, 1) := by decide +kernel
theorem dX10_canReign_10 : decode cX10_canReign 10 = .ok (.iaload, 1) := by decide +kernel
theorem dX10_canReign_11 : decode cX10_canReign 11 = .ok (.ifCond .eq 16, 3) := by decide +kernel
theorem dX10_canReign_14 : decode cX10_canReign 14 = .ok (.iload_n 1, 1) := by decide +kernel
theorem dX10_canReign_15 : decode cX10_canReign 15 = .ok (.aload_n 0, 1) := by decide +kernel
theorem dX10_canReign_16 : decode cX10_canReign 16 = .ok (.iconst 5, 1) := by decide +kernel
theorem dX10_canReign_17 : decode cX10_canReign 17 = .ok (.aload_n 0, 1) := by decide +kernel
theorem dX10_canReign_18 : decode cX10_canReign 18 = .ok (.iconst 0, 1) := by decide +kernel
theorem dX10_canReign_19 : decode cX10_canReign 19 = .ok (.iaload, 1) := by decide +kernel
theorem dX10_canReign_20 : decode cX10_canReign 20 = .ok (.iadd, 1) := by decide +kernel
theorem dX10_canReign_21 : decode cX10_canReign 21 = .ok (.iconst 1, 1) := by decide +kernel
theorem dX10_canReign_22 : decode cX10_canReign 22 = .ok (.isub, 1) := by decide +kernel
theorem dX10_canReign_23 : decode cX10_canReign 23 = .ok (.iaload, 1) := by decide +kernel
theorem dX10_canReign_24 : decode cX10_canReign 24 = .ok (.if_icmp .le 7, 3) := by decide +kernel
theorem dX10_canReign_27 : decode cX10_canReign 27 = .ok (.iconst 1, 1) := by decide +kernel
theorem dX10_canReign_28 : decode cX10_canReign 28 = .ok (.goto 4, 3) := by decide +kernel
theorem dX10_canReign_31 : decode cX10_canReign 31 = .ok (.iconst 0, 1) := by decide +kernel
theorem dX10_canReign_32 : decode cX10_canReign 32 = .ok (.ireturn, 1) := by decide +kernel
theorem dX10_goReign_0 : decode cX10_goReign 0 = .ok (.aload_n 0, 1) := by decide +kernel
theorem dX10_goReign_1 : decode cX10_goReign 1 = .ok (.iconst 5, 1) := by decide +kernel
theorem dX10_goReign_2 : decode cX10_goReign 2 = .ok (.aload_n 0, 1) := by decide +kernel
theorem dX10_goReign_3 : decode cX10_goReign 3 = .ok (.iconst 0, 1) := by decide +kernel
theorem dX10_goReign_4 : decode cX10_goReign 4 = .ok (.iaload, 1) := by decide +kernel
theorem dX10_goReign_5 : decode cX10_goReign 5 = .ok (.iadd, 1) := by decide +kernel
theorem dX10_goReign_6 : decode cX10_goReign 6 = .ok (.iload_n 1, 1) := by decide +kernel
theorem dX10_goReign_7 : decode cX10_goReign 7 = .ok (.iastore, 1) := by decide +kernel
theorem dX10_goReign_8 : decode cX10_goReign 8 = .ok (.aload_n 0, 1) := by decide +kernel
theorem dX10_goReign_9 : decode cX10_goReign 9 = .ok (.bipush 15, 2) := by decide +kernel
theorem dX10_goReign_11 : decode cX10_goReign 11 = .ok (.aload_n 0, 1) := by decide +kernel
theorem dX10_goReign_12 : decode cX10_goReign 12 = .ok (.iconst 0, 1) := by decide +kernel
theorem dX10_goReign_13 : decode cX10_goReign 13 = .ok (.iaload, 1) := by decide +kernel
theorem dX10_goReign_14 : decode cX10_goReign 14 = .ok (.iadd, 1) := by decide +kernel
theorem dX10_goReign_15 : decode cX10_goReign 15 = .ok (.iload_n 2, 1) := by decide +kernel
theorem dX10_goReign_16 : decode cX10_goReign 16 = .ok (.iastore, 1) := by decide +kernel
theorem dX10_goReign_17 : decode cX10_goReign 17 = .ok (.aload_n 0, 1) := by decide +kernel
theorem dX10_goReign_18 : decode cX10_goReign 18 = .ok (.iconst 0, 1) := by decide +kernel
theorem dX10_goReign_19 : decode cX10_goReign 19 = .ok (.dup2, 1) := by decide +kernel
theorem dX10_goReign_20 : decode cX10_goReign 20 = .ok (.iaload, 1) := by decide +kernel
theorem dX10_goReign_21 : decode cX10_goReign 21 = .ok (.iconst 1, 1) := by decide +kernel
theorem dX10_goReign_22 : decode cX10_goReign 22 = .ok (.iadd, 1) := by decide +kernel
theorem dX10_goReign_23 : decode cX10_goReign 23 = .ok (.iastore, 1) := by decide +kernel
theorem dX10_goReign_24 : decode cX10_goReign 24 = .ok (.aload_n 0, 1) := by decide +kernel
theorem dX10_goReign_25 : decode cX10_goReign 25 = .ok (.iconst 0, 1) := by decide +kernel
theorem dX10_goReign_26 : decode cX10_goReign 26 = .ok (.iaload, 1) := by decide +kernel
theorem dX10_goReign_27 : decode cX10_goReign 27 = .ok (.iconst 1, 1) := by decide +kernel
theorem dX10_goReign_28 : decode cX10_goReign 28 = .ok (.isub, 1) := by decide +kernel
theorem dX10_goReign_29 : decode cX10_goReign 29 = .ok (.ireturn, 1) := by decide +kernel
set_option maxRecDepth 20000 in
theorem ggX10_areYears_X10_isYear : GoodIn wsX10_areYears wsX10_isYear := goodIn_r _ [5, 6, 1, 7, 8, 4, 9] (by decide +kernel) (by decide +kernel)
set_option maxRecDepth 20000 in
theorem gX10_areYears_X10_isYear : GoodIn wsX10_areYears (va_wsS RX10 129 yX10_isYear wsX10_isYear) := goodIn_app (goodIn_of _ (by decide +kernel)) ggX10_areYears_X10_isYear
set_option maxRecDepth 20000 in
theorem ggX10_areYears_X10_in : GoodIn wsX10_areYears wsX10_in := goodIn_r _ [9] (by decide +kernel) (by decide +kernel)
set_option maxRecDepth 20000 in
theorem gX10_areYears_X10_in : GoodIn wsX10_areYears (va_wsS RX10 49 yX10_in wsX10_in) := goodIn_app (goodIn_of _ (by decide +kernel)) ggX10_areYears_X10_in
theorem dX10_areYears_0 : decode cX10_areYears 0 = .ok (.iload_n 0, 1) := by decide +kernel
theorem dX10_areYears_1 : decode cX10_areYears 1 = .ok (.invokestatic 129, 3) := by decide +kernel
theorem dX10_areYears_4 : decode cX10_areYears 4 = .ok (.ifCond .eq 20, 3) := by decide +kernel
theorem dX10_areYears_7 : decode cX10_areYears 7 = .ok (.iload_n 1, 1) := by decide +kernel
theorem dX10_areYears_8 : decode cX10_areYears 8 = .ok (.i2l, 1) := by decide +kernel
theorem dX10_areYears_9 : decode cX10_areYears 9 = .ok (.iload_n 0, 1) := by decide +kernel
theorem dX10_areYears_10 : decode cX10_areYears 10 = .ok (.i2l, 1) := by decide +kernel
theorem dX10_areYears_11 : decode cX10_areYears 11 = .ok (.ldc2_w 47, 3) := by decide +kernel
theorem dX10_areYears_14 : decode cX10_areYears 14 = .ok (.invokestatic 49, 3) := by decide +kernel
theorem dX10_areYears_17 : decode cX10_areYears 17 = .ok (.ifCond .eq 7, 3) := by decide +kernel
theorem dX10_areYears_20 : decode cX10_areYears 20 = .ok (.iconst 1, 1) := by decide +kernel
theorem dX10_areYears_21 : decode cX10_areYears 21 = .ok (.goto 4, 3) := by decide +kernel
theorem dX10_areYears_24 : decode cX10_areYears 24 = .ok (.iconst 0, 1) := by decide +kernel
theorem dX10_areYears_25 : decode cX10_areYears 25 = .ok (.ireturn, 1) := by decide +kernel
theorem dX10_goDie_0 : decode cX10_goDie 0 = .ok (.aload_n 0, 1) := by decide +kernel
theorem dX10_goDie_1 : decode cX10_goDie 1 = .ok (.iconst 1, 1) := by decide +kernel
theorem dX10_goDie_2 : decode cX10_goDie 2 = .ok (.iaload, 1) := by decide +kernel
theorem dX10_goDie_3 : decode cX10_goDie 3 = .ok (.istore 4, 2) := by decide +kernel
theorem dX10_goDie_5 : decode cX10_goDie 5 = .ok (.aload_n 0, 1) := by decide +kernel
theorem dX10_goDie_6 : decode cX10_goDie 6 = .ok (.bipush 25, 2) := by decide +kernel
theorem dX10_goDie_8 : decode cX10_goDie 8 = .ok (.iload 4, 2) := by decide +kernel
theorem dX10_goDie_10 : decode cX10_goDie 10 = .ok (.iadd, 1) := by decide +kernel
theorem dX10_goDie_11 : decode cX10_goDie 11 = .ok (.iload_n 1, 1) := by decide +kernel
theorem dX10_goDie_12 : decode cX10_goDie 12 = .ok (.iastore, 1) := by decide +kernel
theorem dX10_goDie_13 : decode cX10_goDie 13 = .ok (.aload_n 0, 1) := by decide +kernel
theorem dX10_goDie_14 : decode cX10_goDie 14 = .ok (.bipush 35, 2) := by decide +kernel
theorem dX10_goDie_16 : decode cX10_goDie 16 = .ok (.iload 4, 2) := by decide +kernel
theorem dX10_goDie_18 : decode cX10_goDie 18 = .ok (.iadd, 1) := by decide +kernel
theorem dX10_goDie_19 : decode cX10_goDie 19 = .ok (.iload_n 2, 1) := by decide +kernel
theorem dX10_goDie_20 : decode cX10_goDie 20 = .ok (.iastore, 1) := by decide +kernel
theorem dX10_goDie_21 : decode cX10_goDie 21 = .ok (.aload_n 0, 1) := by decide +kernel
theorem dX10_goDie_22 : decode cX10_goDie 22 = .ok (.bipush 45, 2) := by decide +kernel
theorem dX10_goDie_24 : decode cX10_goDie 24 = .ok (.iload 4, 2) := by decide +kernel
theorem dX10_goDie_26 : decode cX10_goDie 26 = .ok (.iadd, 1) := by decide +kernel
theorem dX10_goDie_27 : decode cX10_goDie 27 = .ok (.iload_n 3, 1) := by decide +kernel
theorem dX10_goDie_28 : decode cX10_goDie 28 = .ok (.iastore, 1) := by decide +kernel
theorem dX10_goDie_29 : decode cX10_goDie 29 = .ok (.aload_n 0, 1) := by decide +kernel
theorem dX10_goDie_30 : decode cX10_goDie 30 = .ok (.bipush 55, 2) := by decide +kernel
theorem dX10_goDie_32 : decode cX10_goDie 32 = .ok (.iload 4, 2) := by decide +kernel
theorem dX10_goDie_34 : decode cX10_goDie 34 = .ok (.iadd, 1) := by decide +kernel
theorem dX10_goDie_35 : decode cX10_goDie 35 = .ok (.iconst 0, 1) := by decide +kernel
theorem dX10_goDie_36 : decode cX10_goDie 36 = .ok (.iastore, 1) := by decide +kernel
theorem dX10_goDie_37 : decode cX10_goDie 37 = .ok (.aload_n 0, 1) := by decide +kernel
theorem dX10_goDie_38 : decode cX10_goDie 38 = .ok (.iconst 1, 1) := by decide +kernel
theorem dX10_goDie_39 : decode cX10_goDie 39 = .ok (.dup2, 1) := by decide +kernel
theorem dX10_goDie_40 : decode cX10_goDie 40 = .ok (.iaload, 1) := by decide +kernel
theorem dX10_goDie_41 : decode cX10_goDie 41 = .ok (.iconst 1, 1) := by decide +kernel
theorem dX10_goDie_42 : decode cX10_goDie 42 = .ok (.iadd, 1) := by decide +kernel
theorem dX10_goDie_43 : decode cX10_goDie 43 = .ok (.iastore, 1) := by decide +kernel
theorem dX10_goDie_44 : decode cX10_goDie 44 = .ok (.iload 4, 2) := by decide +kernel
theorem dX10_goDie_46 : decode cX10_goDie 46 = .ok (.ireturn, 1) := by decide +kernel
theorem dX10_canCrack_0 : decode cX10_canCrack 0 = .ok (.aload_n 0, 1) := by decide +kernel
theorem dX10_canCrack_1 : decode cX10_canCrack 1 = .ok (.bipush 55, 2) := by decide +kernel
theorem dX10_canCrack_3 : decode cX10_canCrack 3 = .ok (.iload_n 1, 1) := by decide +kernel
theorem dX10_canCrack_4 : decode cX10_canCrack 4 = .ok (.iadd, 1) := by decide +kernel
theorem dX10_canCrack_5 : decode cX10_canCrack 5 = .ok (.iaload, 1) := by decide +kernel
theorem dX10_canCrack_6 : decode cX10_canCrack 6 = .ok (.iconst 4, 1) := by decide +kernel
theorem dX10_canCrack_7 : decode cX10_canCrack 7 = .ok (.if_icmp .ge 7, 3) := by decide +kernel
theorem dX10_canCrack_10 : decode cX10_canCrack 10 = .ok (.iconst 1, 1) := by decide +kernel
theorem dX10_canCrack_11 : decode cX10_canCrack 11 = .ok (.goto 4, 3) := by decide +kernel
theorem dX10_canCrack_14 : decode cX10_canCrack 14 = .ok (.iconst 0, 1) := by decide +kernel
theorem dX10_canCrack_15 : decode cX10_canCrack 15 = .ok (.istore_n 3, 1) := by decide +kernel
theorem dX10_canCrack_16 : decode cX10_canCrack 16 = .ok (.iconst 0, 1) := by decide +kernel
theorem dX10_canCrack_17 : decode cX10_canCrack 17 = .ok (.istore 4, 2) := by decide +kernel
theorem dX10_canCrack_19 : decode cX10_canCrack 19 = .ok (.iload 4, 2) := by decide +kernel
theorem dX10_canCrack_21 : decode cX10_canCrack 21 = .ok (.aload_n 0, 1) := by decide +kernel
theorem dX10_canCrack_22 : decode cX10_canCrack 22 = .ok (.bipush 55, 2) := by decide +kernel
theorem dX10_canCrack_24 : decode cX10_canCrack 24 = .ok (.iload_n 1, 1) := by decide +kernel
theorem dX10_canCrack_25 : decode cX10_canCrack 25 = .ok (.iadd, 1) := by decide +kernel
theorem dX10_canCrack_26 : decode cX10_canCrack 26 = .ok (.iaload, 1) := by decide +kernel
theorem dX10_canCrack_27 : decode cX10_canCrack 27 = .ok (.if_icmp .ge 34, 3) := by decide +kernel
theorem dX10_canCrack_30 : decode cX10_canCrack 30 = .ok (.iload_n 3, 1) := by decide +kernel
theorem dX10_canCrack_31 : decode cX10_canCrack 31 = .ok (.ifCond .eq 22, 3) := by decide +kernel
theorem dX10_canCrack_34 : decode cX10_canCrack 34 = .ok (.aload_n 0, 1) := by decide +kernel
theorem dX10_canCrack_35 : decode cX10_canCrack 35 = .ok (.bipush 65, 2) := by decide +kernel
theorem dX10_canCrack_37 : decode cX10_canCrack 37 = .ok (.iconst 4, 1) := by decide +kernel
theorem dX10_canCrack_38 : decode cX10_canCrack 38 = .ok (.iload_n 1, 1) := by decide +kernel
theorem dX10_canCrack_39 : decode cX10_canCrack 39 = .ok (.imul, 1) := by decide +kernel
theorem dX10_canCrack_40 : decode cX10_canCrack 40 = .ok (.iadd, 1) := by decide +kernel
theorem dX10_canCrack_41 : decode cX10_canCrack 41 = .ok (.iload 4, 2) := by decide +kernel
theorem dX10_canCrack_43 : decode cX10_canCrack 43 = .ok (.iadd, 1) := by decide +kernel
theorem dX10_canCrack_44 : decode cX10_canCrack 44 = .ok (.iaload, 1) := by decide +kernel
theorem dX10_canCrack_45 : decode cX10_canCrack 45 = .ok (.iload_n 2, 1) := by decide +kernel
theorem dX10_canCrack_46 : decode cX10_canCrack 46 = .ok (.if_icmp .eq 7, 3) := by decide +kernel
theorem dX10_canCrack_49 : decode cX10_canCrack 49 = .ok (.iconst 1, 1) := by decide +kernel
theorem dX10_canCrack_50 : decode cX10_canCrack 50 = .ok (.goto 4, 3) := by decide +kernel
theorem dX10_canCrack_53 : decode cX10_canCrack 53 = .ok (.iconst 0, 1) := by decide +kernel
theorem dX10_canCrack_54 : decode cX10_canCrack 54 = .ok (.istore_n 3, 1) := by decide +kernel
theorem dX10_canCrack_55 : decode cX10_canCrack 55 = .ok (.iinc 4 1, 3) := by decide +kernel
theorem dX10_canCrack_58 : decode cX10_canCrack 58 = .ok (.goto (-39), 3) := by decide +kernel
theorem dX10_canCrack_61 : decode cX10_canCrack 61 = .ok (.iload_n 3, 1) := by decide +kernel
theorem dX10_canCrack_62 : decode cX10_canCrack 62 = .ok (.ireturn, 1) := by decide +kernel
theorem dX10_goCrack_0 : decode cX10_goCrack 0 = .ok (.aload_n 0, 1) := by decide +kernel
theorem dX10_goCrack_1 : decode cX10_goCrack 1 = .ok (.bipush 65, 2) := by decide +kernel
theorem dX10_goCrack_3 : decode cX10_goCrack 3 = .ok (.iconst 4, 1) := by decide +kernel
theorem dX10_goCrack_4 : decode cX10_goCrack 4 = .ok (.iload_n 1, 1) := by decide +kernel
theorem dX10_goCrack_5 : decode cX10_goCrack 5 = .ok (.imul, 1) := by decide +kernel
theorem dX10_goCrack_6 : decode cX10_goCrack 6 = .ok (.iadd, 1) := by decide +kernel
theorem dX10_goCrack_7 : decode cX10_goCrack 7 = .ok (.aload_n 0, 1) := by decide +kernel
theorem dX10_goCrack_8 : decode cX10_goCrack 8 = .ok (.bipush 55, 2) := by decide +kernel
theorem dX10_goCrack_10 : decode cX10_goCrack 10 = .ok (.iload_n 1, 1) := by decide +kernel
theorem dX10_goCrack_11 : decode cX10_goCrack 11 = .ok (.iadd, 1) := by decide +kernel
theorem dX10_goCrack_12 : decode cX10_goCrack 12 = .ok (.iaload, 1) := by decide +kernel
theorem dX10_goCrack_13 : decode cX10_goCrack 13 = .ok (.iadd, 1) := by decide +kernel
theorem dX10_goCrack_14 : decode cX10_goCrack 14 = .ok (.iload_n 2, 1) := by decide +kernel
theorem dX10_goCrack_15 : decode cX10_goCrack 15 = .ok (.iastore, 1) := by decide +kernel
theorem dX10_goCrack_16 : decode cX10_goCrack 16 = .ok (.aload_n 0, 1) := by decide +kernel
theorem dX10_goCrack_17 : decode cX10_goCrack 17 = .ok (.bipush 55, 2) := by decide +kernel
theorem dX10_goCrack_19 : decode cX10_goCrack 19 = .ok (.iload_n 1, 1) := by decide +kernel
theorem dX10_goCrack_20 : decode cX10_goCrack 20 = .ok (.iadd, 1) := by decide +kernel
theorem dX10_goCrack_21 : decode cX10_goCrack 21 = .ok (.dup2, 1) := by decide +kernel
theorem dX10_goCrack_22 : decode cX10_goCrack 22 = .ok (.iaload, 1) := by decide +kernel
theorem dX10_goCrack_23 : decode cX10_goCrack 23 = .ok (.iconst 1, 1) := by decide +kernel
theorem dX10_goCrack_24 : decode cX10_goCrack 24 = .ok (.iadd, 1) := by decide +kernel
theorem dX10_goCrack_25 : decode cX10_goCrack 25 = .ok (.iastore, 1) := by decide +kernel
theorem dX10_goCrack_26 : decode cX10_goCrack 26 = .ok (.aload_n 0, 1) := by decide +kernel
theorem dX10_goCrack_27 : decode cX10_goCrack 27 = .ok (.bipush 55, 2) := by decide +kernel
theorem dX10_goCrack_29 : decode cX10_goCrack 29 = .ok (.iload_n 1, 1) := by decide +kernel
theorem dX10_goCrack_30 : decode cX10_goCrack 30 = .ok (.iadd, 1) := by decide +kernel
theorem dX10_goCrack_31 : decode cX10_goCrack 31 = .ok (.iaload, 1) := by decide +kernel
theorem dX10_goCrack_32 : decode cX10_goCrack 32 = .ok (.iconst 1, 1) := by decide +kernel
theorem dX10_goCrack_33 : decode cX10_goCrack 33 = .ok (.isub, 1) := by decide +kernel
theorem dX10_goCrack_34 : decode cX10_goCrack 34 = .ok (.ireturn, 1) := by decide +kernel
set_option maxRecDepth 20000 in
theorem ggX10_areCracks_X10_in : GoodIn wsX10_areCracks wsX10_in := goodIn_r _ [4] (by decide +kernel) (by decide +kernel)
set_option maxRecDepth 20000 in
theorem gX10_areCracks_X10_in : GoodIn wsX10_areCracks (va_wsS RX10 49 yX10_in wsX10_in) := goodIn_app (goodIn_of _ (by decide +kernel)) ggX10_areCracks_X10_in
theorem dX10_areCracks_0 : decode cX10_areCracks 0 = .ok (.iload_n 2, 1) := by decide +kernel
theorem dX10_areCracks_1 : decode cX10_areCracks 1 = .ok (.i2l, 1) := by decide +kernel
theorem dX10_areCracks_2 : decode cX10_areCracks 2 = .ok (.lconst 0, 1) := by decide +kernel
theorem dX10_areCracks_3 : decode cX10_areCracks 3 = .ok (.iconst 1, 1) := by decide +kernel
theorem dX10_areCracks_4 : decode cX10_areCracks 4 = .ok (.aload_n 0, 1) := by decide +kernel
theorem dX10_areCracks_5 : decode cX10_areCracks 5 = .ok (.bipush 55, 2) := by decide +kernel
theorem dX10_areCracks_7 : decode cX10_areCracks 7 = .ok (.iload_n 1, 1) := by decide +kernel
theorem dX10_areCracks_8 : decode cX10_areCracks 8 = .ok (.iadd, 1) := by decide +kernel
theorem dX10_areCracks_9 : decode cX10_areCracks 9 = .ok (.iaload, 1) := by decide +kernel
theorem dX10_areCracks_10 : decode cX10_areCracks 10 = .ok (.ishl, 1) := by decide +kernel
theorem dX10_areCracks_11 : decode cX10_areCracks 11 = .ok (.iconst 1, 1) := by decide +kernel
theorem dX10_areCracks_12 : decode cX10_areCracks 12 = .ok (.isub, 1) := by decide +kernel
theorem dX10_areCracks_13 : decode cX10_areCracks 13 = .ok (.i2l, 1) := by decide +kernel
theorem dX10_areCracks_14 : decode cX10_areCracks 14 = .ok (.invokestatic 49, 3) := by decide +kernel
theorem dX10_areCracks_17 : decode cX10_areCracks 17 = .ok (.ireturn, 1) := by decide +kernel
set_option maxRecDepth 20000 in
theorem ggX10_isKind_X10_in : GoodIn wsX10_isKind wsX10_in := goodIn_r _ [7] (by decide +kernel) (by decide +kernel)
set_option maxRecDepth 20000 in
theorem gX10_isKind_X10_in : GoodIn wsX10_isKind (va_wsS RX10 49 yX10_in wsX10_in) := goodIn_app (goodIn_of _ (by decide +kernel)) ggX10_isKind_X10_in
theorem dX10_isKind_0 : decode cX10_isKind 0 = .ok (.iload_n 0, 1) := by decide +kernel
theorem dX10_isKind_1 : decode cX10_isKind 1 = .ok (.i2l, 1) := by decide +kernel
theorem dX10_isKind_2 : decode cX10_isKind 2 = .ok (.lconst 0, 1) := by decide +kernel
theorem dX10_isKind_3 : decode cX10_isKind 3 = .ok (.lconst 1, 1) := by decide +kernel
theorem dX10_isKind_4 : decode cX10_isKind 4 = .ok (.invokestatic 49, 3) := by decide +kernel
theorem dX10_isKind_7 : decode cX10_isKind 7 = .ok (.ifCond .eq 33, 3) := by decide +kernel
theorem dX10_isKind_10 : decode cX10_isKind 10 = .ok (.iload_n 1, 1) := by decide +kernel
theorem dX10_isKind_11 : decode cX10_isKind 11 = .ok (.i2l, 1) := by decide +kernel
theorem dX10_isKind_12 : decode cX10_isKind 12 = .ok (.ldc2_w 133, 3) := by decide +kernel
theorem dX10_isKind_15 : decode cX10_isKind 15 = .ok (.ldc2_w 135, 3) := by decide +kernel
theorem dX10_isKind_18 : decode cX10_isKind 18 = .ok (.invokestatic 49, 3) := by decide +kernel
theorem dX10_isKind_21 : decode cX10_isKind 21 = .ok (.ifCond .eq 19, 3) := by decide +kernel
theorem dX10_isKind_24 : decode cX10_isKind 24 = .ok (.iload_n 2, 1) := by decide +kernel
theorem dX10_isKind_25 : decode cX10_isKind 25 = .ok (.i2l, 1) := by decide +kernel
theorem dX10_isKind_26 : decode cX10_isKind 26 = .ok (.lconst 0, 1) := by decide +kernel
theorem dX10_isKind_27 : decode cX10_isKind 27 = .ok (.ldc2_w 137, 3) := by decide +kernel
theorem dX10_isKind_30 : decode cX10_isKind 30 = .ok (.invokestatic 49, 3) := by decide +kernel
theorem dX10_isKind_33 : decode cX10_isKind 33 = .ok (.ifCond .eq 7, 3) := by decide +kernel
theorem dX10_isKind_36 : decode cX10_isKind 36 = .ok (.iconst 1, 1) := by decide +kernel
theorem dX10_isKind_37 : decode cX10_isKind 37 = .ok (.goto 4, 3) := by decide +kernel
theorem dX10_isKind_40 : decode cX10_isKind 40 = .ok (.iconst 0, 1) := by decide +kernel
theorem dX10_isKind_41 : decode cX10_isKind 41 = .ok (.ireturn, 1) := by decide +kernel
theorem dX10_goSeal_0 : decode cX10_goSeal 0 = .ok (.aload_n 0, 1) := by decide +kernel
theorem dX10_goSeal_1 : decode cX10_goSeal 1 = .ok (.iconst 2, 1) := by decide +kernel
theorem dX10_goSeal_2 : decode cX10_goSeal 2 = .ok (.iaload, 1) := by decide +kernel
theorem dX10_goSeal_3 : decode cX10_goSeal 3 = .ok (.istore 6, 2) := by decide +kernel
theorem dX10_goSeal_5 : decode cX10_goSeal 5 = .ok (.aload_n 0, 1) := by decide +kernel
theorem dX10_goSeal_6 : decode cX10_goSeal 6 = .ok (.bipush 105, 2) := by decide +kernel
theorem dX10_goSeal_8 : decode cX10_goSeal 8 = .ok (.iload 6, 2) := by decide +kernel
theorem dX10_goSeal_10 : decode cX10_goSeal 10 = .ok (.iadd, 1) := by decide +kernel
theorem dX10_goSeal_11 : decode cX10_goSeal 11 = .ok (.iload_n 1, 1) := by decide +kernel
theorem dX10_goSeal_12 : decode cX10_goSeal 12 = .ok (.iastore, 1) := by decide +kernel
theorem dX10_goSeal_13 : decode cX10_goSeal 13 = .ok (.aload_n 0, 1) := by decide +kernel
theorem dX10_goSeal_14 : decode cX10_goSeal 14 = .ok (.sipush 129, 3) := by decide +kernel
theorem dX10_goSeal_17 : decode cX10_goSeal 17 = .ok (.iload 6, 2) := by decide +kernel
theorem dX10_goSeal_19 : decode cX10_goSeal 19 = .ok (.iadd, 1) := by decide +kernel
theorem dX10_goSeal_20 : decode cX10_goSeal 20 = .ok (.iload_n 2, 1) := by decide +kernel
theorem dX10_goSeal_21 : decode cX10_goSeal 21 = .ok (.iastore, 1) := by decide +kernel
theorem dX10_goSeal_22 : decode cX10_goSeal 22 = .ok (.aload_n 0, 1) := by decide +kernel
theorem dX10_goSeal_23 : decode cX10_goSeal 23 = .ok (.sipush 153, 3) := by decide +kernel
theorem dX10_goSeal_26 : decode cX10_goSeal 26 = .ok (.iload 6, 2) := by decide +kernel
theorem dX10_goSeal_28 : decode cX10_goSeal 28 = .ok (.iadd, 1) := by decide +kernel
theorem dX10_goSeal_29 : decode cX10_goSeal 29 = .ok (.iload_n 3, 1) := by decide +kernel
theorem dX10_goSeal_30 : decode cX10_goSeal 30 = .ok (.iastore, 1) := by decide +kernel
theorem dX10_goSeal_31 : decode cX10_goSeal 31 = .ok (.aload_n 0, 1) := by decide +kernel
theorem dX10_goSeal_32 : decode cX10_goSeal 32 = .ok (.sipush 177, 3) := by decide +kernel
theorem dX10_goSeal_35 : decode cX10_goSeal 35 = .ok (.iload 6, 2) := by decide +kernel
theorem dX10_goSeal_37 : decode cX10_goSeal 37 = .ok (.iadd, 1) := by decide +kernel
theorem dX10_goSeal_38 : decode cX10_goSeal 38 = .ok (.iload 4, 2) := by decide +kernel
theorem dX10_goSeal_40 : decode cX10_goSeal 40 = .ok (.iastore, 1) := by decide +kernel
theorem dX10_goSeal_41 : decode cX10_goSeal 41 = .ok (.aload_n 0, 1) := by decide +kernel
theorem dX10_goSeal_42 : decode cX10_goSeal 42 = .ok (.sipush 201, 3) := by decide +kernel
theorem dX10_goSeal_45 : decode cX10_goSeal 45 = .ok (.iload 6, 2) := by decide +kernel
theorem dX10_goSeal_47 : decode cX10_goSeal 47 = .ok (.iadd, 1) := by decide +kernel
theorem dX10_goSeal_48 : decode cX10_goSeal 48 = .ok (.iload 5, 2) := by decide +kernel
theorem dX10_goSeal_50 : decode cX10_goSeal 50 = .ok (.iastore, 1) := by decide +kernel
theorem dX10_goSeal_51 : decode cX10_goSeal 51 = .ok (.aload_n 0, 1) := by decide +kernel
theorem dX10_goSeal_52 : decode cX10_goSeal 52 = .ok (.sipush 225, 3) := by decide +kernel
theorem dX10_goSeal_55 : decode cX10_goSeal 55 = .ok (.iload 6, 2) := by decide +kernel
theorem dX10_goSeal_57 : decode cX10_goSeal 57 = .ok (.iadd, 1) := by decide +kernel
theorem dX10_goSeal_58 : decode cX10_goSeal 58 = .ok (.iconst (-1), 1) := by decide +kernel
theorem dX10_goSeal_59 : decode cX10_goSeal 59 = .ok (.iastore, 1) := by decide +kernel
theorem dX10_goSeal_60 : decode cX10_goSeal 60 = .ok (.aload_n 0, 1) := by decide +kernel
theorem dX10_goSeal_61 : decode cX10_goSeal 61 = .ok (.iconst 2, 1) := by decide +kernel
theorem dX10_goSeal_62 : decode cX10_goSeal 62 = .ok (.dup2, 1) := by decide +kernel
theorem dX10_goSeal_63 : decode cX10_goSeal 63 = .ok (.iaload, 1) := by decide +kernel
theorem dX10_goSeal_64 : decode cX10_goSeal 64 = .ok (.iconst 1, 1) := by decide +kernel
theorem dX10_goSeal_65 : decode cX10_goSeal 65 = .ok (.iadd, 1) := by decide +kernel
theorem dX10_goSeal_66 : decode cX10_goSeal 66 = .ok (.iastore, 1) := by decide +kernel
theorem dX10_goSeal_67 : decode cX10_goSeal 67 = .ok (.iload 6, 2) := by decide +kernel
theorem dX10_goSeal_69 : decode cX10_goSeal 69 = .ok (.ireturn, 1) := by decide +kernel
theorem dX10_goShow_0 : decode cX10_goShow 0 = .ok (.aload_n 0, 1) := by decide +kernel
theorem dX10_goShow_1 : decode cX10_goShow 1 = .ok (.sipush 201, 3) := by decide +kernel
theorem dX10_goShow_4 : decode cX10_goShow 4 = .ok (.iload_n 1, 1) := by decide +kernel
theorem dX10_goShow_5 : decode cX10_goShow 5 = .ok (.iadd, 1) := by decide +kernel
theorem dX10_goShow_6 : decode cX10_goShow 6 = .ok (.iaload, 1) := by decide +kernel
theorem dX10_goShow_7 : decode cX10_goShow 7 = .ok (.istore_n 3, 1) := by decide +kernel
theorem dX10_goShow_8 : decode cX10_goShow 8 = .ok (.aload_n 0, 1) := by decide +kernel
theorem dX10_goShow_9 : decode cX10_goShow 9 = .ok (.sipush 201, 3) := by decide +kernel
theorem dX10_goShow_12 : decode cX10_goShow 12 = .ok (.iload_n 1, 1) := by decide +kernel
theorem dX10_goShow_13 : decode cX10_goShow 13 = .ok (.iadd, 1) := by decide +kernel
theorem dX10_goShow_14 : decode cX10_goShow 14 = .ok (.iload_n 2, 1) := by decide +kernel
theorem dX10_goShow_15 : decode cX10_goShow 15 = .ok (.iastore, 1) := by decide +kernel
theorem dX10_goShow_16 : decode cX10_goShow 16 = .ok (.iload_n 3, 1) := by decide +kernel
theorem dX10_goShow_17 : decode cX10_goShow 17 = .ok (.ireturn, 1) := by decide +kernel
theorem dX10_onCharter_0 : decode cX10_onCharter 0 = .ok (.iconst 0, 1) := by decide +kernel
theorem dX10_onCharter_1 : decode cX10_onCharter 1 = .ok (.istore_n 2, 1) := by decide +kernel
theorem dX10_onCharter_2 : decode cX10_onCharter 2 = .ok (.iconst 0, 1) := by decide +kernel
theorem dX10_onCharter_3 : decode cX10_onCharter 3 = .ok (.istore_n 3, 1) := by decide +kernel
theorem dX10_onCharter_4 : decode cX10_onCharter 4 = .ok (.iload_n 3, 1) := by decide +kernel
theorem dX10_onCharter_5 : decode cX10_onCharter 5 = .ok (.aload_n 0, 1) := by decide +kernel
theorem dX10_onCharter_6 : decode cX10_onCharter 6 = .ok (.iconst 2, 1) := by decide +kernel
theorem dX10_onCharter_7 : decode cX10_onCharter 7 = .ok (.iaload, 1) := by decide +kernel
theorem dX10_onCharter_8 : decode cX10_onCharter 8 = .ok (.if_icmp .ge 28, 3) := by decide +kernel
theorem dX10_onCharter_11 : decode cX10_onCharter 11 = .ok (.iload_n 2, 1) := by decide +kernel
theorem dX10_onCharter_12 : decode cX10_onCharter 12 = .ok (.aload_n 0, 1) := by decide +kernel
theorem dX10_onCharter_13 : decode cX10_onCharter 13 = .ok (.sipush 225, 3) := by decide +kernel
theorem dX10_onCharter_16 : decode cX10_onCharter 16 = .ok (.iload_n 3, 1) := by decide +kernel
theorem dX10_onCharter_17 : decode cX10_onCharter 17 = .ok (.iadd, 1) := by decide +kernel
theorem dX10_onCharter_18 : decode cX10_onCharter 18 = .ok (.iaload, 1) := by decide +kernel
theorem dX10_onCharter_19 : decode cX10_onCharter 19 = .ok (.iload_n 1, 1) := by decide +kernel
theorem dX10_onCharter_20 : decode cX10_onCharter 20 = .ok (.if_icmp .ne 7, 3) := by decide +kernel
theorem dX10_onCharter_23 : decode cX10_onCharter 23 = .ok (.iconst 1, 1) := by decide +kernel
theorem dX10_onCharter_24 : decode cX10_onCharter 24 = .ok (.goto 4, 3) := by decide +kernel
theorem dX10_onCharter_27 : decode cX10_onCharter 27 = .ok (.iconst 0, 1) := by decide +kernel
theorem dX10_onCharter_28 : decode cX10_onCharter 28 = .ok (.iadd, 1) := by decide +kernel
theorem dX10_onCharter_29 : decode cX10_onCharter 29 = .ok (.istore_n 2, 1) := by decide +kernel
theorem dX10_onCharter_30 : decode cX10_onCharter 30 = .ok (.iinc 3 1, 3) := by decide +kernel
theorem dX10_onCharter_33 : decode cX10_onCharter 33 = .ok (.goto (-29), 3) := by decide +kernel
theorem dX10_onCharter_36 : decode cX10_onCharter 36 = .ok (.iload_n 2, 1) := by decide +kernel
theorem dX10_onCharter_37 : decode cX10_onCharter 37 = .ok (.ireturn, 1) := by decide +kernel
set_option maxRecDepth 20000 in
theorem ggX10_goHang_X10_onCharter : GoodIn wsX10_goHang wsX10_onCharter := goodIn_r _ [4] (by decide +kernel) (by decide +kernel)
set_option maxRecDepth 20000 in
theorem gX10_goHang_X10_onCharter : GoodIn wsX10_goHang (va_wsS RX10 139 yX10_onCharter wsX10_onCharter) := goodIn_app (goodIn_of _ (by decide +kernel)) ggX10_goHang_X10_onCharter
theorem dX10_goHang_0 : decode cX10_goHang 0 = .ok (.aload_n 0, 1) := by decide +kernel
theorem dX10_goHang_1 : decode cX10_goHang 1 = .ok (.sipush 225, 3) := by decide +kernel
theorem dX10_goHang_4 : decode cX10_goHang 4 = .ok (.iload_n 1, 1) := by decide +kernel
theorem dX10_goHang_5 : decode cX10_goHang 5 = .ok (.iadd, 1) := by decide +kernel
theorem dX10_goHang_6 : decode cX10_goHang 6 = .ok (.iload_n 2, 1) := by decide +kernel
theorem dX10_goHang_7 : decode cX10_goHang 7 = .ok (.iastore, 1) := by decide +kernel
theorem dX10_goHang_8 : decode cX10_goHang 8 = .ok (.aload_n 0, 1) := by decide +kernel
theorem dX10_goHang_9 : decode cX10_goHang 9 = .ok (.iload_n 2, 1) := by decide +kernel
theorem dX10_goHang_10 : decode cX10_goHang 10 = .ok (.invokestatic 139, 3) := by decide +kernel
theorem dX10_goHang_13 : decode cX10_goHang 13 = .ok (.ireturn, 1) := by decide +kernel
theorem dX10_goCut_0 : decode cX10_goCut 0 = .ok (.aload_n 0, 1) := by decide +kernel
theorem dX10_goCut_1 : decode cX10_goCut 1 = .ok (.sipush 225, 3) := by decide +kernel
theorem dX10_goCut_4 : decode cX10_goCut 4 = .ok (.iload_n 1, 1) := by decide +kernel
theorem dX10_goCut_5 : decode cX10_goCut 5 = .ok (.iadd, 1) := by decide +kernel
theorem dX10_goCut_6 : decode cX10_goCut 6 = .ok (.iaload, 1) := by decide +kernel
theorem dX10_goCut_7 : decode cX10_goCut 7 = .ok (.istore_n 2, 1) := by decide +kernel
theorem dX10_goCut_8 : decode cX10_goCut 8 = .ok (.aload_n 0, 1) := by decide +kernel
theorem dX10_goCut_9 : decode cX10_goCut 9 = .ok (.sipush 225, 3) := by decide +kernel
theorem dX10_goCut_12 : decode cX10_goCut 12 = .ok (.iload_n 1, 1) := by decide +kernel
theorem dX10_goCut_13 : decode cX10_goCut 13 = .ok (.iadd, 1) := by decide +kernel
theorem dX10_goCut_14 : decode cX10_goCut 14 = .ok (.iconst (-1), 1) := by decide +kernel
theorem dX10_goCut_15 : decode cX10_goCut 15 = .ok (.iastore, 1) := by decide +kernel
theorem dX10_goCut_16 : decode cX10_goCut 16 = .ok (.iload_n 2, 1) := by decide +kernel
theorem dX10_goCut_17 : decode cX10_goCut 17 = .ok (.ireturn, 1) := by decide +kernel
theorem dX10_goSet_0 : decode cX10_goSet 0 = .ok (.aload_n 0, 1) := by decide +kernel
theorem dX10_goSet_1 : decode cX10_goSet 1 = .ok (.iconst 3, 1) := by decide +kernel
theorem dX10_goSet_2 : decode cX10_goSet 2 = .ok (.iload_n 1, 1) := by decide +kernel
theorem dX10_goSet_3 : decode cX10_goSet 3 = .ok (.iadd, 1) := by decide +kernel
theorem dX10_goSet_4 : decode cX10_goSet 4 = .ok (.iaload, 1) := by decide +kernel
theorem dX10_goSet_5 : decode cX10_goSet 5 = .ok (.istore_n 3, 1) := by decide +kernel
theorem dX10_goSet_6 : decode cX10_goSet 6 = .ok (.aload_n 0, 1) := by decide +kernel
theorem dX10_goSet_7 : decode cX10_goSet 7 = .ok (.iconst 3, 1) := by decide +kernel
theorem dX10_goSet_8 : decode cX10_goSet 8 = .ok (.iload_n 1, 1) := by decide +kernel
theorem dX10_goSet_9 : decode cX10_goSet 9 = .ok (.iadd, 1) := by decide +kernel
theorem dX10_goSet_10 : decode cX10_goSet 10 = .ok (.iload_n 2, 1) := by decide +kernel
theorem dX10_goSet_11 : decode cX10_goSet 11 = .ok (.iastore, 1) := by decide +kernel
theorem dX10_goSet_12 : decode cX10_goSet 12 = .ok (.iload_n 3, 1) := by decide +kernel
theorem dX10_goSet_13 : decode cX10_goSet 13 = .ok (.ireturn, 1) := by decide +kernel
theorem dX10_remember_0 : decode cX10_remember 0 = .ok (.aload_n 0, 1) := by decide +kernel
theorem dX10_remember_1 : decode cX10_remember 1 = .ok (.getfield 142, 3) := by decide +kernel
theorem dX10_remember_4 : decode cX10_remember 4 = .ok (.bipush 14, 2) := by decide +kernel
theorem dX10_remember_6 : decode cX10_remember 6 = .ok (.if_icmp .ne 44, 3) := by decide +kernel
theorem dX10_remember_9 : decode cX10_remember 9 = .ok (.iconst 0, 1) := by decide +kernel
theorem dX10_remember_10 : decode cX10_remember 10 = .ok (.istore_n 1, 1) := by decide +kernel
theorem dX10_remember_11 : decode cX10_remember 11 = .ok (.iload_n 1, 1) := by decide +kernel
theorem dX10_remember_12 : decode cX10_remember 12 = .ok (.sipush 3783, 3) := by decide +kernel
theorem dX10_remember_15 : decode cX10_remember 15 = .ok (.if_icmp .ge 25, 3) := by decide +kernel
theorem dX10_remember_18 : decode cX10_remember 18 = .ok (.aload_n 0, 1) := by decide +kernel
theorem dX10_remember_19 : decode cX10_remember 19 = .ok (.getfield 19, 3) := by decide +kernel
theorem dX10_remember_22 : decode cX10_remember 22 = .ok (.iload_n 1, 1) := by decide +kernel
theorem dX10_remember_23 : decode cX10_remember 23 = .ok (.aload_n 0, 1) := by decide +kernel
theorem dX10_remember_24 : decode cX10_remember 24 = .ok (.getfield 19, 3) := by decide +kernel
theorem dX10_remember_27 : decode cX10_remember 27 = .ok (.sipush 291, 3) := by decide +kernel
theorem dX10_remember_30 : decode cX10_remember 30 = .ok (.iload_n 1, 1) := by decide +kernel
theorem dX10_remember_31 : decode cX10_remember 31 = .ok (.iadd, 1) := by decide +kernel
theorem dX10_remember_32 : decode cX10_remember 32 = .ok (.iaload, 1) := by decide +kernel
theorem dX10_remember_33 : decode cX10_remember 33 = .ok (.iastore, 1) := by decide +kernel
theorem dX10_remember_34 : decode cX10_remember 34 = .ok (.iinc 1 1, 3) := by decide +kernel
theorem dX10_remember_37 : decode cX10_remember 37 = .ok (.goto (-26), 3) := by decide +kernel
theorem dX10_remember_40 : decode cX10_remember 40 = .ok (.aload_n 0, 1) := by decide +kernel
theorem dX10_remember_41 : decode cX10_remember 41 = .ok (.dup, 1) := by decide +kernel
theorem dX10_remember_42 : decode cX10_remember 42 = .ok (.getfield 142, 3) := by decide +kernel
theorem dX10_remember_45 : decode cX10_remember 45 = .ok (.iconst 1, 1) := by decide +kernel
theorem dX10_remember_46 : decode cX10_remember 46 = .ok (.isub, 1) := by decide +kernel
theorem dX10_remember_47 : decode cX10_remember 47 = .ok (.putfield 142, 3) := by decide +kernel
theorem dX10_remember_50 : decode cX10_remember 50 = .ok (.iconst 0, 1) := by decide +kernel
theorem dX10_remember_51 : decode cX10_remember 51 = .ok (.istore_n 1, 1) := by decide +kernel
theorem dX10_remember_52 : decode cX10_remember 52 = .ok (.iload_n 1, 1) := by decide +kernel
theorem dX10_remember_53 : decode cX10_remember 53 = .ok (.sipush 291, 3) := by decide +kernel
theorem dX10_remember_56 : decode cX10_remember 56 = .ok (.if_icmp .ge 30, 3) := by decide +kernel
theorem dX10_remember_59 : decode cX10_remember 59 = .ok (.aload_n 0, 1) := by decide +kernel
theorem dX10_remember_60 : decode cX10_remember 60 = .ok (.getfield 19, 3) := by decide +kernel
theorem dX10_remember_63 : decode cX10_remember 63 = .ok (.sipush 291, 3) := by decide +kernel
theorem dX10_remember_66 : decode cX10_remember 66 = .ok (.aload_n 0, 1) := by decide +kernel
theorem dX10_remember_67 : decode cX10_remember 67 = .ok (.getfield 142, 3) := by decide +kernel
theorem dX10_remember_70 : decode cX10_remember 70 = .ok (.imul, 1) := by decide +kernel
theorem dX10_remember_71 : decode cX10_remember 71 = .ok (.iload_n 1, 1) := by decide +kernel
theorem dX10_remember_72 : decode cX10_remember 72 = .ok (.iadd, 1) := by decide +kernel
theorem dX10_remember_73 : decode cX10_remember 73 = .ok (.aload_n 0, 1) := by decide +kernel
theorem dX10_remember_74 : decode cX10_remember 74 = .ok (.getfield 7, 3) := by decide +kernel
theorem dX10_remember_77 : decode cX10_remember 77 = .ok (.iload_n 1, 1) := by decide +kernel
theorem dX10_remember_78 : decode cX10_remember 78 = .ok (.iaload, 1) := by decide +kernel
theorem dX10_remember_79 : decode cX10_remember 79 = .ok (.iastore, 1) := by decide +kernel
theorem dX10_remember_80 : decode cX10_remember 80 = .ok (.iinc 1 1, 3) := by decide +kernel
theorem dX10_remember_83 : decode cX10_remember 83 = .ok (.goto (-31), 3) := by decide +kernel
theorem dX10_remember_86 : decode cX10_remember 86 = .ok (.aload_n 0, 1) := by decide +kernel
theorem dX10_remember_87 : decode cX10_remember 87 = .ok (.dup, 1) := by decide +kernel
theorem dX10_remember_88 : decode cX10_remember 88 = .ok (.getfield 142, 3) := by decide +kernel
theorem dX10_remember_91 : decode cX10_remember 91 = .ok (.iconst 1, 1) := by decide +kernel
theorem dX10_remember_92 : decode cX10_remember 92 = .ok (.iadd, 1) := by decide +kernel
theorem dX10_remember_93 : decode cX10_remember 93 = .ok (.putfield 142, 3) := by decide +kernel
theorem dX10_remember_96 : decode cX10_remember 96 = .ok (.return_, 1) := by decide +kernel
set_option maxRecDepth 20000 in
theorem ggX10_append_X10_in : GoodIn wsX10_append wsX10_in := goodIn_r _ [7] (by decide +kernel) (by decide +kernel)
set_option maxRecDepth 20000 in
theorem gX10_append_X10_in : GoodIn wsX10_append (va_wsS RX10 49 yX10_in wsX10_in) := goodIn_app (goodIn_of _ (by decide +kernel)) ggX10_append_X10_in
set_option maxRecDepth 20000 in
theorem ggX10_append_X10_refused : GoodIn wsX10_append wsX10_refused := goodIn_r _ [11, 12, 13, 14, 15, 16, 17, 18, 19, 20, 21, 22, 23, 24, 25, 26, 27, 28, 29, 30] (by decide +kernel) (by decide +kernel)
set_option maxRecDepth 20000 in
theorem gX10_append_X10_refused : GoodIn wsX10_append (wsV RX10 150 RX10 yX10_refused wsX10_refused) := goodIn_app (goodIn_of _ (by decide +kernel)) ggX10_append_X10_refused
theorem dX10_append_0 : decode cX10_append 0 = .ok (.aload_n 0, 1) := by decide +kernel
theorem dX10_append_1 : decode cX10_append 1 = .ok (.iload_n 1, 1) := by decide +kernel
theorem dX10_append_2 : decode cX10_append 2 = .ok (.i2l, 1) := by decide +kernel
theorem dX10_append_3 : decode cX10_append 3 = .ok (.lconst 0, 1) := by decide +kernel
theorem dX10_append_4 : decode cX10_append 4 = .ok (.ldc2_w 145, 3) := by decide +kernel
theorem dX10_append_7 : decode cX10_append 7 = .ok (.invokestatic 49, 3) := by decide +kernel
theorem dX10_append_10 : decode cX10_append 10 = .ok (.ifCond .ne 7, 3) := by decide +kernel
theorem dX10_append_13 : decode cX10_append 13 = .ok (.iconst 1, 1) := by decide +kernel
theorem dX10_append_14 : decode cX10_append 14 = .ok (.goto 17, 3) := by decide +kernel
theorem dX10_append_17 : decode cX10_append 17 = .ok (.aload_n 0, 1) := by decide +kernel
theorem dX10_append_18 : decode cX10_append 18 = .ok (.getfield 147, 3) := by decide +kernel
theorem dX10_append_21 : decode cX10_append 21 = .ok (.bipush 120, 2) := by decide +kernel
theorem dX10_append_23 : decode cX10_append 23 = .ok (.if_icmp .ne 7, 3) := by decide +kernel
theorem dX10_append_26 : decode cX10_append 26 = .ok (.iconst 2, 1) := by decide +kernel
theorem dX10_append_27 : decode cX10_append 27 = .ok (.goto 4, 3) := by decide +kernel
theorem dX10_append_30 : decode cX10_append 30 = .ok (.iconst 0, 1) := by decide +kernel
theorem dX10_append_31 : decode cX10_append 31 = .ok (.invokevirtual 150, 3) := by decide +kernel
theorem dX10_append_34 : decode cX10_append 34 = .ok (.ifCond .eq 5, 3) := by decide +kernel
theorem dX10_append_37 : decode cX10_append 37 = .ok (.iconst 0, 1) := by decide +kernel
theorem dX10_append_38 : decode cX10_append 38 = .ok (.ireturn, 1) := by decide +kernel
theorem dX10_append_39 : decode cX10_append 39 = .ok (.aload_n 0, 1) := by decide +kernel
theorem dX10_append_40 : decode cX10_append 40 = .ok (.getfield 29, 3) := by decide +kernel
theorem dX10_append_43 : decode cX10_append 43 = .ok (.aload_n 0, 1) := by decide +kernel
theorem dX10_append_44 : decode cX10_append 44 = .ok (.getfield 147, 3) := by decide +kernel
theorem dX10_append_47 : decode cX10_append 47 = .ok (.iload_n 1, 1) := by decide +kernel
theorem dX10_append_48 : decode cX10_append 48 = .ok (.iastore, 1) := by decide +kernel
theorem dX10_append_49 : decode cX10_append 49 = .ok (.aload_n 0, 1) := by decide +kernel
theorem dX10_append_50 : decode cX10_append 50 = .ok (.dup, 1) := by decide +kernel
theorem dX10_append_51 : decode cX10_append 51 = .ok (.getfield 147, 3) := by decide +kernel
theorem dX10_append_54 : decode cX10_append 54 = .ok (.iconst 1, 1) := by decide +kernel
theorem dX10_append_55 : decode cX10_append 55 = .ok (.iadd, 1) := by decide +kernel
theorem dX10_append_56 : decode cX10_append 56 = .ok (.putfield 147, 3) := by decide +kernel
theorem dX10_append_59 : decode cX10_append 59 = .ok (.aload_n 0, 1) := by decide +kernel
theorem dX10_append_60 : decode cX10_append 60 = .ok (.getfield 147, 3) := by decide +kernel
theorem dX10_append_63 : decode cX10_append 63 = .ok (.ireturn, 1) := by decide +kernel
theorem dX10_clearText_0 : decode cX10_clearText 0 = .ok (.aload_n 0, 1) := by decide +kernel
theorem dX10_clearText_1 : decode cX10_clearText 1 = .ok (.iconst 0, 1) := by decide +kernel
theorem dX10_clearText_2 : decode cX10_clearText 2 = .ok (.putfield 39, 3) := by decide +kernel
theorem dX10_clearText_5 : decode cX10_clearText 5 = .ok (.aload_n 0, 1) := by decide +kernel
theorem dX10_clearText_6 : decode cX10_clearText 6 = .ok (.getfield 147, 3) := by decide +kernel
theorem dX10_clearText_9 : decode cX10_clearText 9 = .ok (.istore_n 1, 1) := by decide +kernel
theorem dX10_clearText_10 : decode cX10_clearText 10 = .ok (.aload_n 0, 1) := by decide +kernel
theorem dX10_clearText_11 : decode cX10_clearText 11 = .ok (.iconst 0, 1) := by decide +kernel
theorem dX10_clearText_12 : decode cX10_clearText 12 = .ok (.putfield 147, 3) := by decide +kernel
theorem dX10_clearText_15 : decode cX10_clearText 15 = .ok (.iload_n 1, 1) := by decide +kernel
theorem dX10_clearText_16 : decode cX10_clearText 16 = .ok (.ireturn, 1) := by decide +kernel
theorem dX10_here_0 : decode cX10_here 0 = .ok (.aload_n 0, 1) := by decide +kernel
theorem dX10_here_1 : decode cX10_here 1 = .ok (.getfield 153, 3) := by decide +kernel
theorem dX10_here_4 : decode cX10_here 4 = .ok (.aload_n 0, 1) := by decide +kernel
theorem dX10_here_5 : decode cX10_here 5 = .ok (.getfield 147, 3) := by decide +kernel
theorem dX10_here_8 : decode cX10_here 8 = .ok (.if_icmp .ge 15, 3) := by decide +kernel
theorem dX10_here_11 : decode cX10_here 11 = .ok (.aload_n 0, 1) := by decide +kernel
theorem dX10_here_12 : decode cX10_here 12 = .ok (.getfield 29, 3) := by decide +kernel
theorem dX10_here_15 : decode cX10_here 15 = .ok (.aload_n 0, 1) := by decide +kernel
theorem dX10_here_16 : decode cX10_here 16 = .ok (.getfield 153, 3) := by decide +kernel
theorem dX10_here_19 : decode cX10_here 19 = .ok (.iaload, 1) := by decide +kernel
theorem dX10_here_20 : decode cX10_here 20 = .ok (.goto 4, 3) := by decide +kernel
theorem dX10_here_23 : decode cX10_here 23 = .ok (.iconst (-1), 1) := by decide +kernel
theorem dX10_here_24 : decode cX10_here 24 = .ok (.ireturn, 1) := by decide +kernel
theorem dX10_eat_0 : decode cX10_eat 0 = .ok (.aload_n 0, 1) := by decide +kernel
theorem dX10_eat_1 : decode cX10_eat 1 = .ok (.aload_n 0, 1) := by decide +kernel
theorem dX10_eat_2 : decode cX10_eat 2 = .ok (.getfield 156, 3) := by decide +kernel
theorem dX10_eat_5 : decode cX10_eat 5 = .ok (.ifCond .eq 11, 3) := by decide +kernel
theorem dX10_eat_8 : decode cX10_eat 8 = .ok (.iload_n 1, 1) := by decide +kernel
theorem dX10_eat_9 : decode cX10_eat 9 = .ok (.ifCond .eq 7, 3) := by decide +kernel
theorem dX10_eat_12 : decode cX10_eat 12 = .ok (.iconst 1, 1) := by decide +kernel
theorem dX10_eat_13 : decode cX10_eat 13 = .ok (.goto 4, 3) := by decide +kernel
theorem dX10_eat_16 : decode cX10_eat 16 = .ok (.iconst 0, 1) := by decide +kernel
theorem dX10_eat_17 : decode cX10_eat 17 = .ok (.putfield 156, 3) := by decide +kernel
theorem dX10_eat_20 : decode cX10_eat 20 = .ok (.aload_n 0, 1) := by decide +kernel
theorem dX10_eat_21 : decode cX10_eat 21 = .ok (.dup, 1) := by decide +kernel
theorem dX10_eat_22 : decode cX10_eat 22 = .ok (.getfield 153, 3) := by decide +kernel
theorem dX10_eat_25 : decode cX10_eat 25 = .ok (.aload_n 0, 1) := by decide +kernel
theorem dX10_eat_26 : decode cX10_eat 26 = .ok (.getfield 156, 3) := by decide +kernel
theorem dX10_eat_29 : decode cX10_eat 29 = .ok (.ifCond .eq 7, 3) := by decide +kernel
theorem dX10_eat_32 : decode cX10_eat 32 = .ok (.iconst 1, 1) := by decide +kernel
theorem dX10_eat_33 : decode cX10_eat 33 = .ok (.goto 4, 3) := by decide +kernel
theorem dX10_eat_36 : decode cX10_eat 36 = .ok (.iconst 0, 1) := by decide +kernel
theorem dX10_eat_37 : decode cX10_eat 37 = .ok (.iadd, 1) := by decide +kernel
theorem dX10_eat_38 : decode cX10_eat 38 = .ok (.putfield 153, 3) := by decide +kernel
theorem dX10_eat_41 : decode cX10_eat 41 = .ok (.return_, 1) := by decide +kernel
set_option maxRecDepth 20000 in
theorem ggX10_digit_X10_here : GoodIn wsX10_digit wsX10_here := goodIn_r _ [6, 7, 8, 9, 17, 18, 19, 20, 21, 22, 23, 24, 25, 26, 27, 28, 29, 30, 31, 32, 33, 34] (by decide +kernel) (by decide +kernel)
set_option maxRecDepth 20000 in
theorem gX10_digit_X10_here : GoodIn wsX10_digit (wsV RX10 160 RX10 yX10_here wsX10_here) := goodIn_app (goodIn_of _ (by decide +kernel)) ggX10_digit_X10_here
set_option maxRecDepth 20000 in
theorem ggX10_digit_X10_in : GoodIn wsX10_digit wsX10_in := goodIn_r _ [12] (by decide +kernel) (by decide +kernel)
set_option maxRecDepth 20000 in
theorem gX10_digit_X10_in : GoodIn wsX10_digit (va_wsS RX10 49 yX10_in wsX10_in) := goodIn_app (goodIn_of _ (by decide +kernel)) ggX10_digit_X10_in
set_option maxRecDepth 20000 in
theorem ggX10_digit_X10_eat : GoodIn wsX10_digit wsX10_eat := goodIn_r _ [16, 1, 7, 17, 18, 19, 20, 21, 22, 23, 24, 25, 26, 27, 28, 29, 30, 31, 32, 33, 34] (by decide +kernel) (by decide +kernel)
set_option maxRecDepth 20000 in
theorem gX10_digit_X10_eat : GoodIn wsX10_digit (wsV RX10 164 RX10 yX10_eat wsX10_eat) := goodIn_app (goodIn_of _ (by decide +kernel)) ggX10_digit_X10_eat
theorem dX10_digit_0 : decode cX10_digit 0 = .ok (.aload_n 0, 1) := by decide +kernel
theorem dX10_digit_1 : decode cX10_digit 1 = .ok (.invokevirtual 160, 3) := by decide +kernel
theorem dX10_digit_4 : decode cX10_digit 4 = .ok (.bipush 48, 2) := by decide +kernel
theorem dX10_digit_6 : decode cX10_digit 6 = .ok (.isub, 1) := by decide +kernel
theorem dX10_digit_7 : decode cX10_digit 7 = .ok (.istore_n 3, 1) := by decide +kernel
theorem dX10_digit_8 : decode cX10_digit 8 = .ok (.aload_n 0, 1) := by decide +kernel
theorem dX10_digit_9 : decode cX10_digit 9 = .ok (.iload_n 3, 1) := by decide +kernel
theorem dX10_digit_10 : decode cX10_digit 10 = .ok (.i2l, 1) := by decide +kernel
theorem dX10_digit_11 : decode cX10_digit 11 = .ok (.iload_n 1, 1) := by decide +kernel
theorem dX10_digit_12 : decode cX10_digit 12 = .ok (.i2l, 1) := by decide +kernel
theorem dX10_digit_13 : decode cX10_digit 13 = .ok (.iload_n 2, 1) := by decide +kernel
theorem dX10_digit_14 : decode cX10_digit 14 = .ok (.i2l, 1) := by decide +kernel
theorem dX10_digit_15 : decode cX10_digit 15 = .ok (.invokestatic 49, 3) := by decide +kernel
theorem dX10_digit_18 : decode cX10_digit 18 = .ok (.invokevirtual 164, 3) := by decide +kernel
theorem dX10_digit_21 : decode cX10_digit 21 = .ok (.aload_n 0, 1) := by decide +kernel
theorem dX10_digit_22 : decode cX10_digit 22 = .ok (.getfield 156, 3) := by decide +kernel
theorem dX10_digit_25 : decode cX10_digit 25 = .ok (.ifCond .eq 7, 3) := by decide +kernel
theorem dX10_digit_28 : decode cX10_digit 28 = .ok (.iload_n 3, 1) := by decide +kernel
theorem dX10_digit_29 : decode cX10_digit 29 = .ok (.goto 4, 3) := by decide +kernel
theorem dX10_digit_32 : decode cX10_digit 32 = .ok (.iload_n 1, 1) := by decide +kernel
theorem dX10_digit_33 : decode cX10_digit 33 = .ok (.ireturn, 1) := by decide +kernel
set_option maxRecDepth 20000 in
theorem ggX10_readYear_X10_digit : GoodIn wsX10_readYear wsX10_digit := goodIn_r _ [5, 6, 7, 8, 9, 4, 10, 11, 12, 13, 14, 15, 16, 17, 18, 19, 20, 21, 22, 23, 24, 25, 26, 27, 28, 29, 30, 31, 32, 33, 34, 35, 36, 37, 38] (by decide +kernel) (by decide +kernel)
set_option maxRecDepth 20000 in
theorem gX10_readYear_X10_digit : GoodIn wsX10_readYear (wsV RX10 168 RX10 yX10_digit wsX10_digit) := goodIn_app (goodIn_of _ (by decide +kernel)) ggX10_readYear_X10_digit
theorem dX10_readYear_0 : decode cX10_readYear 0 = .ok (.aload_n 0, 1) := by decide +kernel
theorem dX10_readYear_1 : decode cX10_readYear 1 = .ok (.iconst 1, 1) := by decide +kernel
theorem dX10_readYear_2 : decode cX10_readYear 2 = .ok (.iconst 1, 1) := by decide +kernel
theorem dX10_readYear_3 : decode cX10_readYear 3 = .ok (.invokevirtual 168, 3) := by decide +kernel
theorem dX10_readYear_6 : decode cX10_readYear 6 = .ok (.istore_n 1, 1) := by decide +kernel
theorem dX10_readYear_7 : decode cX10_readYear 7 = .ok (.iconst 0, 1) := by decide +kernel
theorem dX10_readYear_8 : decode cX10_readYear 8 = .ok (.istore_n 2, 1) := by decide +kernel
theorem dX10_readYear_9 : decode cX10_readYear 9 = .ok (.iload_n 2, 1) := by decide +kernel
theorem dX10_readYear_10 : decode cX10_readYear 10 = .ok (.iconst 3, 1) := by decide +kernel
theorem dX10_readYear_11 : decode cX10_readYear 11 = .ok (.if_icmp .ge 22, 3) := by decide +kernel
theorem dX10_readYear_14 : decode cX10_readYear 14 = .ok (.bipush 10, 2) := by decide +kernel
theorem dX10_readYear_16 : decode cX10_readYear 16 = .ok (.iload_n 1, 1) := by decide +kernel
theorem dX10_readYear_17 : decode cX10_readYear 17 = .ok (.imul, 1) := by decide +kernel
theorem dX10_readYear_18 : decode cX10_readYear 18 = .ok (.aload_n 0, 1) := by decide +kernel
theorem dX10_readYear_19 : decode cX10_readYear 19 = .ok (.iconst 0, 1) := by decide +kernel
theorem dX10_readYear_20 : decode cX10_readYear 20 = .ok (.bipush 9, 2) := by decide +kernel
theorem dX10_readYear_22 : decode cX10_readYear 22 = .ok (.invokevirtual 168, 3) := by decide +kernel
theorem dX10_readYear_25 : decode cX10_readYear 25 = .ok (.iadd, 1) := by decide +kernel
theorem dX10_readYear_26 : decode cX10_readYear 26 = .ok (.istore_n 1, 1) := by decide +kernel
theorem dX10_readYear_27 : decode cX10_readYear 27 = .ok (.iinc 2 1, 3) := by decide +kernel
theorem dX10_readYear_30 : decode cX10_readYear 30 = .ok (.goto (-21), 3) := by decide +kernel
theorem dX10_readYear_33 : decode cX10_readYear 33 = .ok (.iload_n 1, 1) := by decide +kernel
theorem dX10_readYear_34 : decode cX10_readYear 34 = .ok (.ireturn, 1) := by decide +kernel
set_option maxRecDepth 20000 in
theorem ggX10_ascending_X10_here : GoodIn wsX10_ascending wsX10_here := goodIn_r _ [8, 2, 3, 9, 21, 22, 23, 24, 25, 26, 27, 28, 29, 30, 31, 32, 33, 34, 35, 36, 37, 38] (by decide +kernel) (by decide +kernel)
set_option maxRecDepth 20000 in
theorem gX10_ascending_X10_here : GoodIn wsX10_ascending (wsV RX10 160 RX10 yX10_here wsX10_here) := goodIn_app (goodIn_of _ (by decide +kernel)) ggX10_ascending_X10_here
set_option maxRecDepth 20000 in
theorem ggX10_ascending_X10_digit : GoodIn wsX10_ascending wsX10_digit := goodIn_r _ [13, 1, 4, 5, 6, 7, 8, 2, 3, 9, 14, 15, 16, 17, 18, 19, 20, 21, 22, 23, 24, 25, 26, 27, 28, 29, 30, 31, 32, 33, 34, 35, 36, 37, 38] (by decide +kernel) (by decide +kernel)
set_option maxRecDepth 20000 in
theorem gX10_ascending_X10_digit : GoodIn wsX10_ascending (wsV RX10 168 RX10 yX10_digit wsX10_digit) := goodIn_app (goodIn_of _ (by decide +kernel)) ggX10_ascending_X10_digit
theorem dX10_ascending_0 : decode cX10_ascending 0 = .ok (.iconst 0, 1) := by decide +kernel
theorem dX10_ascending_1 : decode cX10_ascending 1 = .ok (.istore_n 3, 1) := by decide +kernel
theorem dX10_ascending_2 : decode cX10_ascending 2 = .ok (.iload_n 1, 1) := by decide +kernel
theorem dX10_ascending_3 : decode cX10_ascending 3 = .ok (.istore 4, 2) := by decide +kernel
theorem dX10_ascending_5 : decode cX10_ascending 5 = .ok (.aload_n 0, 1) := by decide +kernel
theorem dX10_ascending_6 : decode cX10_ascending 6 = .ok (.getfield 156, 3) := by decide +kernel
theorem dX10_ascending_9 : decode cX10_ascending 9 = .ok (.ifCond .eq 59, 3) := by decide +kernel
theorem dX10_ascending_12 : decode cX10_ascending 12 = .ok (.aload_n 0, 1) := by decide +kernel
theorem dX10_ascending_13 : decode cX10_ascending 13 = .ok (.getfield 153, 3) := by decide +kernel
theorem dX10_ascending_16 : decode cX10_ascending 16 = .ok (.aload_n 0, 1) := by decide +kernel
theorem dX10_ascending_17 : decode cX10_ascending 17 = .ok (.getfield 147, 3) := by decide +kernel
theorem dX10_ascending_20 : decode cX10_ascending 20 = .ok (.if_icmp .ge 48, 3) := by decide +kernel
theorem dX10_ascending_23 : decode cX10_ascending 23 = .ok (.aload_n 0, 1) := by decide +kernel
theorem dX10_ascending_24 : decode cX10_ascending 24 = .ok (.invokevirtual 160, 3) := by decide +kernel
theorem dX10_ascending_27 : decode cX10_ascending 27 = .ok (.bipush 59, 2) := by decide +kernel
theorem dX10_ascending_29 : decode cX10_ascending 29 = .ok (.if_icmp .eq 39, 3) := by decide +kernel
theorem dX10_ascending_32 : decode cX10_ascending 32 = .ok (.aload_n 0, 1) := by decide +kernel
theorem dX10_ascending_33 : decode cX10_ascending 33 = .ok (.iload 4, 2) := by decide +kernel
theorem dX10_ascending_35 : decode cX10_ascending 35 = .ok (.iload_n 2, 1) := by decide +kernel
theorem dX10_ascending_36 : decode cX10_ascending 36 = .ok (.invokevirtual 168, 3) := by decide +kernel
theorem dX10_ascending_39 : decode cX10_ascending 39 = .ok (.istore 5, 2) := by decide +kernel
theorem dX10_ascending_41 : decode cX10_ascending 41 = .ok (.iload_n 3, 1) := by decide +kernel
theorem dX10_ascending_42 : decode cX10_ascending 42 = .ok (.aload_n 0, 1) := by decide +kernel
theorem dX10_ascending_43 : decode cX10_ascending 43 = .ok (.getfield 156, 3) := by decide +kernel
theorem dX10_ascending_46 : decode cX10_ascending 46 = .ok (.ifCond .eq 10, 3) := by decide +kernel
theorem dX10_ascending_49 : decode cX10_ascending 49 = .ok (.iconst 1, 1) := by decide +kernel
theorem dX10_ascending_50 : decode cX10_ascending 50 = .ok (.iload 5, 2) := by decide +kernel
theorem dX10_ascending_52 : decode cX10_ascending 52 = .ok (.ishl, 1) := by decide +kernel
theorem dX10_ascending_53 : decode cX10_ascending 53 = .ok (.goto 4, 3) := by decide +kernel
theorem dX10_ascending_56 : decode cX10_ascending 56 = .ok (.iconst 0, 1) := by decide +kernel
theorem dX10_ascending_57 : decode cX10_ascending 57 = .ok (.ior, 1) := by decide +kernel
theorem dX10_ascending_58 : decode cX10_ascending 58 = .ok (.istore_n 3, 1) := by decide +kernel
theorem dX10_ascending_59 : decode cX10_ascending 59 = .ok (.iload 5, 2) := by decide +kernel
theorem dX10_ascending_61 : decode cX10_ascending 61 = .ok (.iconst 1, 1) := by decide +kernel
theorem dX10_ascending_62 : decode cX10_ascending 62 = .ok (.iadd, 1) := by decide +kernel
theorem dX10_ascending_63 : decode cX10_ascending 63 = .ok (.istore 4, 2) := by decide +kernel
theorem dX10_ascending_65 : decode cX10_ascending 65 = .ok (.goto (-60), 3) := by decide +kernel
theorem dX10_ascending_68 : decode cX10_ascending 68 = .ok (.iload_n 3, 1) := by decide +kernel
theorem dX10_ascending_69 : decode cX10_ascending 69 = .ok (.ireturn, 1) := by decide +kernel
theorem dX10_goes_0 : decode cX10_goes 0 = .ok (.aload_n 0, 1) := by decide +kernel
theorem dX10_goes_1 : decode cX10_goes 1 = .ok (.dup, 1) := by decide +kernel
theorem dX10_goes_2 : decode cX10_goes 2 = .ok (.getfield 172, 3) := by decide +kernel
theorem dX10_goes_5 : decode cX10_goes 5 = .ok (.aload_n 0, 1) := by decide +kernel
theorem dX10_goes_6 : decode cX10_goes 6 = .ok (.getfield 156, 3) := by decide +kernel
theorem dX10_goes_9 : decode cX10_goes 9 = .ok (.ifCond .eq 11, 3) := by decide +kernel
theorem dX10_goes_12 : decode cX10_goes 12 = .ok (.iload_n 1, 1) := by decide +kernel
theorem dX10_goes_13 : decode cX10_goes 13 = .ok (.ifCond .ne 7, 3) := by decide +kernel
theorem dX10_goes_16 : decode cX10_goes 16 = .ok (.iconst 1, 1) := by decide +kernel
theorem dX10_goes_17 : decode cX10_goes 17 = .ok (.goto 4, 3) := by decide +kernel
theorem dX10_goes_20 : decode cX10_goes 20 = .ok (.iconst 0, 1) := by decide +kernel
theorem dX10_goes_21 : decode cX10_goes 21 = .ok (.iadd, 1) := by decide +kernel
theorem dX10_goes_22 : decode cX10_goes 22 = .ok (.putfield 172, 3) := by decide +kernel
theorem dX10_goes_25 : decode cX10_goes 25 = .ok (.aload_n 0, 1) := by decide +kernel
theorem dX10_goes_26 : decode cX10_goes 26 = .ok (.getfield 156, 3) := by decide +kernel
theorem dX10_goes_29 : decode cX10_goes 29 = .ok (.ifCond .eq 11, 3) := by decide +kernel
theorem dX10_goes_32 : decode cX10_goes 32 = .ok (.iload_n 1, 1) := by decide +kernel
theorem dX10_goes_33 : decode cX10_goes 33 = .ok (.ifCond .eq 7, 3) := by decide +kernel
theorem dX10_goes_36 : decode cX10_goes 36 = .ok (.iconst 1, 1) := by decide +kernel
theorem dX10_goes_37 : decode cX10_goes 37 = .ok (.goto 4, 3) := by decide +kernel
theorem dX10_goes_40 : decode cX10_goes 40 = .ok (.iconst 0, 1) := by decide +kernel
theorem dX10_goes_41 : decode cX10_goes 41 = .ok (.ireturn, 1) := by decide +kernel
set_option maxRecDepth 20000 in
theorem ggX10_readReign_X10_readYear : GoodIn wsX10_readReign wsX10_readYear := goodIn_r _ [6, 7, 8, 9, 5, 10, 11, 12, 13, 14, 15, 16, 17, 18, 19, 20, 21, 22, 23, 24, 25, 41, 42, 43, 44, 45, 46, 47, 48, 49, 50, 51, 52, 53, 54, 55, 56, 57, 58] (by decide +kernel) (by decide +kernel)
set_option maxRecDepth 20000 in
theorem gX10_readReign_X10_readYear : GoodIn wsX10_readReign (wsV RX10 175 RX10 yX10_readYear wsX10_readYear) := goodIn_app (goodIn_of _ (by decide +kernel)) ggX10_readReign_X10_readYear
set_option maxRecDepth 20000 in
theorem ggX10_readReign_X10_digit : GoodIn wsX10_readReign wsX10_digit := goodIn_r _ [10, 11, 12, 13, 14, 5, 15, 16, 17, 18, 19, 20, 21, 22, 23, 24, 25, 41, 42, 43, 44, 45, 46, 47, 48, 49, 50, 51, 52, 53, 54, 55, 56, 57, 58] (by decide +kernel) (by decide +kernel)
set_option maxRecDepth 20000 in
theorem gX10_readReign_X10_digit : GoodIn wsX10_readReign (wsV RX10 168 RX10 yX10_digit wsX10_digit) := goodIn_app (goodIn_of _ (by decide +kernel)) ggX10_readReign_X10_digit
set_option maxRecDepth 20000 in
theorem ggX10_readReign_X10_ascending : GoodIn wsX10_readReign wsX10_ascending := goodIn_r _ [29, 11, 16, 17, 12, 13, 14, 5, 15, 18, 7, 8, 9, 10, 19, 20, 21, 22, 23, 24, 25, 41, 42, 43, 44, 45, 46, 47, 48, 49, 50, 51, 52, 53, 54, 55, 56, 57, 58] (by decide +kernel) (by decide +kernel)
set_option maxRecDepth 20000 in
theorem gX10_readReign_X10_ascending : GoodIn wsX10_readReign (wsV RX10 178 RX10 yX10_ascending wsX10_ascending) := goodIn_app (goodIn_of _ (by decide +kernel)) ggX10_readReign_X10_ascending
set_option maxRecDepth 20000 in
theorem ggX10_readReign_X10_canReign : GoodIn wsX10_readReign wsX10_canReign := goodIn_r _ [32] (by decide +kernel) (by decide +kernel)
set_option maxRecDepth 20000 in
theorem gX10_readReign_X10_canReign : GoodIn wsX10_readReign (va_wsS RX10 181 yX10_canReign wsX10_canReign) := goodIn_app (goodIn_of _ (by decide +kernel)) ggX10_readReign_X10_canReign
set_option maxRecDepth 20000 in
theorem ggX10_readReign_X10_goes : GoodIn wsX10_readReign wsX10_goes := goodIn_r _ [36, 37, 11, 41, 42, 43, 44, 45, 46, 47, 48, 49, 50, 51, 52, 53, 54, 55, 56, 57, 58] (by decide +kernel) (by decide +kernel)
set_option maxRecDepth 20000 in
theorem gX10_readReign_X10_goes : GoodIn wsX10_readReign (wsV RX10 184 RX10 yX10_goes wsX10_goes) := goodIn_app (goodIn_of _ (by decide +kernel)) ggX10_readReign_X10_goes
set_option maxRecDepth 20000 in
theorem ggX10_readReign_X10_goReign : GoodIn wsX10_readReign wsX10_goReign := goodIn_r _ [40] (by decide +kernel) (by decide +kernel)
set_option maxRecDepth 20000 in
theorem gX10_readReign_X10_goReign : GoodIn wsX10_readReign (va_wsS RX10 188 yX10_goReign wsX10_goReign) := goodIn_app (goodIn_of _ (by decide +kernel)) ggX10_readReign_X10_goReign
theorem dX10_readReign_0 : decode cX10_readReign 0 = .ok (.aload_n 0, 1) := by decide +kernel
theorem dX10_readReign_1 : decode cX10_readReign 1 = .ok (.invokevirtual 175, 3) := by decide +kernel
theorem dX10_readReign_4 : decode cX10_readReign 4 = .ok (.istore_n 1, 1) := by decide +kernel
theorem dX10_readReign_5 : decode cX10_readReign 5 = .ok (.aload_n 0, 1) := by decide +kernel
theorem dX10_readReign_6 : decode cX10_readReign 6 = .ok (.iconst 0, 1) := by decide +kernel
theorem dX10_readReign_7 : decode cX10_readReign 7 = .ok (.bipush 7, 2) := by decide +kernel
theorem dX10_readReign_9 : decode cX10_readReign 9 = .ok (.invokevirtual 168, 3) := by decide +kernel
theorem dX10_readReign_12 : decode cX10_readReign 12 = .ok (.istore_n 2, 1) := by decide +kernel
theorem dX10_readReign_13 : decode cX10_readReign 13 = .ok (.iconst 1, 1) := by decide +kernel
theorem dX10_readReign_14 : decode cX10_readReign 14 = .ok (.iload_n 2, 1) := by decide +kernel
theorem dX10_readReign_15 : decode cX10_readReign 15 = .ok (.ishl, 1) := by decide +kernel
theorem dX10_readReign_16 : decode cX10_readReign 16 = .ok (.aload_n 0, 1) := by decide +kernel
theorem dX10_readReign_17 : decode cX10_readReign 17 = .ok (.iload_n 2, 1) := by decide +kernel
theorem dX10_readReign_18 : decode cX10_readReign 18 = .ok (.iconst 1, 1) := by decide +kernel
theorem dX10_readReign_19 : decode cX10_readReign 19 = .ok (.iadd, 1) := by decide +kernel
theorem dX10_readReign_20 : decode cX10_readReign 20 = .ok (.bipush 7, 2) := by decide +kernel
theorem dX10_readReign_22 : decode cX10_readReign 22 = .ok (.invokevirtual 178, 3) := by decide +kernel
theorem dX10_readReign_25 : decode cX10_readReign 25 = .ok (.ior, 1) := by decide +kernel
theorem dX10_readReign_26 : decode cX10_readReign 26 = .ok (.istore_n 3, 1) := by decide +kernel
theorem dX10_readReign_27 : decode cX10_readReign 27 = .ok (.aload_n 0, 1) := by decide +kernel
theorem dX10_readReign_28 : decode cX10_readReign 28 = .ok (.aload_n 0, 1) := by decide +kernel
theorem dX10_readReign_29 : decode cX10_readReign 29 = .ok (.getfield 16, 3) := by decide +kernel
theorem dX10_readReign_32 : decode cX10_readReign 32 = .ok (.iload_n 1, 1) := by decide +kernel
theorem dX10_readReign_33 : decode cX10_readReign 33 = .ok (.invokestatic 181, 3) := by decide +kernel
theorem dX10_readReign_36 : decode cX10_readReign 36 = .ok (.invokevirtual 184, 3) := by decide +kernel
theorem dX10_readReign_39 : decode cX10_readReign 39 = .ok (.ifCond .eq 13, 3) := by decide +kernel
theorem dX10_readReign_42 : decode cX10_readReign 42 = .ok (.aload_n 0, 1) := by decide +kernel
theorem dX10_readReign_43 : decode cX10_readReign 43 = .ok (.getfield 16, 3) := by decide +kernel
theorem dX10_readReign_46 : decode cX10_readReign 46 = .ok (.iload_n 1, 1) := by decide +kernel
theorem dX10_readReign_47 : decode cX10_readReign 47 = .ok (.iload_n 3, 1) := by decide +kernel
theorem dX10_readReign_48 : decode cX10_readReign 48 = .ok (.invokestatic 188, 3) := by decide +kernel
theorem dX10_readReign_51 : decode cX10_readReign 51 = .ok (.pop, 1) := by decide +kernel
theorem dX10_readReign_52 : decode cX10_readReign 52 = .ok (.return_, 1) := by decide +kernel
set_option maxRecDepth 20000 in
theorem ggX10_readDie_X10_digit : GoodIn wsX10_readDie wsX10_digit := goodIn_r _ [6, 7, 8, 9, 10, 5, 11, 12, 13, 14, 15, 16, 17, 18, 19, 20, 21, 38, 39, 40, 41, 42, 43, 44, 45, 46, 47, 48, 49, 50, 51, 52, 53, 54, 55] (by decide +kernel) (by decide +kernel)
set_option maxRecDepth 20000 in
theorem gX10_readDie_X10_digit : GoodIn wsX10_readDie (wsV RX10 168 RX10 yX10_digit wsX10_digit) := goodIn_app (goodIn_of _ (by decide +kernel)) ggX10_readDie_X10_digit
set_option maxRecDepth 20000 in
theorem ggX10_readDie_X10_readYear : GoodIn wsX10_readDie wsX10_readYear := goodIn_r _ [25, 2, 3, 4, 5, 6, 7, 8, 9, 10, 11, 12, 13, 14, 15, 16, 17, 18, 19, 20, 21, 38, 39, 40, 41, 42, 43, 44, 45, 46, 47, 48, 49, 50, 51, 52, 53, 54, 55] (by decide +kernel) (by decide +kernel)
set_option maxRecDepth 20000 in
theorem gX10_readDie_X10_readYear : GoodIn wsX10_readDie (wsV RX10 175 RX10 yX10_readYear wsX10_readYear) := goodIn_app (goodIn_of _ (by decide +kernel)) ggX10_readDie_X10_readYear
set_option maxRecDepth 20000 in
theorem ggX10_readDie_X10_here : GoodIn wsX10_readDie wsX10_here := goodIn_r _ [11, 12, 13, 14, 38, 39, 40, 41, 42, 43, 44, 45, 46, 47, 48, 49, 50, 51, 52, 53, 54, 55] (by decide +kernel) (by decide +kernel)
set_option maxRecDepth 20000 in
theorem gX10_readDie_X10_here : GoodIn wsX10_readDie (wsV RX10 160 RX10 yX10_here wsX10_here) := goodIn_app (goodIn_of _ (by decide +kernel)) ggX10_readDie_X10_here
set_option maxRecDepth 20000 in
theorem ggX10_readDie_X10_eat : GoodIn wsX10_readDie wsX10_eat := goodIn_r _ [21, 7, 12, 38, 39, 40, 41, 42, 43, 44, 45, 46, 47, 48, 49, 50, 51, 52, 53, 54, 55] (by decide +kernel) (by decide +kernel)
set_option maxRecDepth 20000 in
theorem gX10_readDie_X10_eat : GoodIn wsX10_readDie (wsV RX10 164 RX10 yX10_eat wsX10_eat) := goodIn_app (goodIn_of _ (by decide +kernel)) ggX10_readDie_X10_eat
set_option maxRecDepth 20000 in
theorem ggX10_readDie_X10_end : GoodIn wsX10_readDie wsX10_end := goodIn_r _ [29, 7, 12, 13, 8, 9, 10, 5, 11, 14, 38, 39, 40, 41, 42, 43, 44, 45, 46, 47, 48, 49, 50, 51, 52, 53, 54, 55] (by decide +kernel) (by decide +kernel)
set_option maxRecDepth 20000 in
theorem gX10_readDie_X10_end : GoodIn wsX10_readDie (wsV RX10 191 RX10 yX10_end wsX10_end) := goodIn_app (goodIn_of _ (by decide +kernel)) ggX10_readDie_X10_end
set_option maxRecDepth 20000 in
theorem ggX10_readDie_X10_goes : GoodIn wsX10_readDie wsX10_goes := goodIn_r _ [33, 34, 7, 38, 39, 40, 41, 42, 43, 44, 45, 46, 47, 48, 49, 50, 51, 52, 53, 54, 55] (by decide +kernel) (by decide +kernel)
set_option maxRecDepth 20000 in
theorem gX10_readDie_X10_goes : GoodIn wsX10_readDie (wsV RX10 184 RX10 yX10_goes wsX10_goes) := goodIn_app (goodIn_of _ (by decide +kernel)) ggX10_readDie_X10_goes
set_option maxRecDepth 20000 in
theorem ggX10_readDie_X10_goDie : GoodIn wsX10_readDie wsX10_goDie := goodIn_r _ [37] (by decide +kernel) (by decide +kernel)
set_option maxRecDepth 20000 in
theorem gX10_readDie_X10_goDie : GoodIn wsX10_readDie (va_wsS RX10 194 yX10_goDie wsX10_goDie) := goodIn_app (goodIn_of _ (by decide +kernel)) ggX10_readDie_X10_goDie
theorem dX10_readDie_0 : decode cX10_readDie 0 = .ok (.aload_n 0, 1) := by decide +kernel
theorem dX10_readDie_1 : decode cX10_readDie 1 = .ok (.iconst 0, 1) := by decide +kernel
theorem dX10_readDie_2 : decode cX10_readDie 2 = .ok (.iconst 5, 1) := by decide +kernel
theorem dX10_readDie_3 : decode cX10_readDie 3 = .ok (.invokevirtual 168, 3) := by decide +kernel
theorem dX10_readDie_6 : decode cX10_readDie 6 = .ok (.istore_n 1, 1) := by decide +kernel
theorem dX10_readDie_7 : decode cX10_readDie 7 = .ok (.aload_n 0, 1) := by decide +kernel
theorem dX10_readDie_8 : decode cX10_readDie 8 = .ok (.invokevirtual 175, 3) := by decide +kernel
theorem dX10_readDie_11 : decode cX10_readDie 11 = .ok (.istore_n 2, 1) := by decide +kernel
theorem dX10_readDie_12 : decode cX10_readDie 12 = .ok (.aload_n 0, 1) := by decide +kernel
theorem dX10_readDie_13 : decode cX10_readDie 13 = .ok (.aload_n 0, 1) := by decide +kernel
theorem dX10_readDie_14 : decode cX10_readDie 14 = .ok (.invokevirtual 160, 3) := by decide +kernel
theorem dX10_readDie_17 : decode cX10_readDie 17 = .ok (.bipush 45, 2) := by decide +kernel
theorem dX10_readDie_19 : decode cX10_readDie 19 = .ok (.if_icmp .ne 7, 3) := by decide +kernel
theorem dX10_readDie_22 : decode cX10_readDie 22 = .ok (.iconst 1, 1) := by decide +kernel
theorem dX10_readDie_23 : decode cX10_readDie 23 = .ok (.goto 4, 3) := by decide +kernel
theorem dX10_readDie_26 : decode cX10_readDie 26 = .ok (.iconst 0, 1) := by decide +kernel
theorem dX10_readDie_27 : decode cX10_readDie 27 = .ok (.invokevirtual 164, 3) := by decide +kernel
theorem dX10_readDie_30 : decode cX10_readDie 30 = .ok (.aload_n 0, 1) := by decide +kernel
theorem dX10_readDie_31 : decode cX10_readDie 31 = .ok (.invokevirtual 175, 3) := by decide +kernel
theorem dX10_readDie_34 : decode cX10_readDie 34 = .ok (.istore_n 3, 1) := by decide +kernel
theorem dX10_readDie_35 : decode cX10_readDie 35 = .ok (.aload_n 0, 1) := by decide +kernel
theorem dX10_readDie_36 : decode cX10_readDie 36 = .ok (.invokevirtual 191, 3) := by decide +kernel
theorem dX10_readDie_39 : decode cX10_readDie 39 = .ok (.aload_n 0, 1) := by decide +kernel
theorem dX10_readDie_40 : decode cX10_readDie 40 = .ok (.iload_n 3, 1) := by decide +kernel
theorem dX10_readDie_41 : decode cX10_readDie 41 = .ok (.iload_n 2, 1) := by decide +kernel
theorem dX10_readDie_42 : decode cX10_readDie 42 = .ok (.if_icmp .lt 18, 3) := by decide +kernel
theorem dX10_readDie_45 : decode cX10_readDie 45 = .ok (.aload_n 0, 1) := by decide +kernel
theorem dX10_readDie_46 : decode cX10_readDie 46 = .ok (.getfield 16, 3) := by decide +kernel
theorem dX10_readDie_49 : decode cX10_readDie 49 = .ok (.iconst 1, 1) := by decide +kernel
theorem dX10_readDie_50 : decode cX10_readDie 50 = .ok (.iaload, 1) := by decide +kernel
theorem dX10_readDie_51 : decode cX10_readDie 51 = .ok (.bipush 10, 2) := by decide +kernel
theorem dX10_readDie_53 : decode cX10_readDie 53 = .ok (.if_icmp .ge 7, 3) := by decide +kernel
theorem dX10_readDie_56 : decode cX10_readDie 56 = .ok (.iconst 1, 1) := by decide +kernel
theorem dX10_readDie_57 : decode cX10_readDie 57 = .ok (.goto 4, 3) := by decide +kernel
theorem dX10_readDie_60 : decode cX10_readDie 60 = .ok (.iconst 0, 1) := by decide +kernel
theorem dX10_readDie_61 : decode cX10_readDie 61 = .ok (.invokevirtual 184, 3) := by decide +kernel
theorem dX10_readDie_64 : decode cX10_readDie 64 = .ok (.ifCond .eq 14, 3) := by decide +kernel
theorem dX10_readDie_67 : decode cX10_readDie 67 = .ok (.aload_n 0, 1) := by decide +kernel
theorem dX10_readDie_68 : decode cX10_readDie 68 = .ok (.getfield 16, 3) := by decide +kernel
theorem dX10_readDie_71 : decode cX10_readDie 71 = .ok (.iload_n 1, 1) := by decide +kernel
theorem dX10_readDie_72 : decode cX10_readDie 72 = .ok (.iload_n 2, 1) := by decide +kernel
theorem dX10_readDie_73 : decode cX10_readDie 73 = .ok (.iload_n 3, 1) := by decide +kernel
theorem dX10_readDie_74 : decode cX10_readDie 74 = .ok (.invokestatic 194, 3) := by decide +kernel
theorem dX10_readDie_77 : decode cX10_readDie 77 = .ok (.pop, 1) := by decide +kernel
theorem dX10_readDie_78 : decode cX10_readDie 78 = .ok (.return_, 1) := by decide +kernel
set_option maxRecDepth 20000 in
theorem ggX10_readCrack_X10_digit : GoodIn wsX10_readCrack wsX10_digit := goodIn_r _ [6, 7, 8, 9, 10, 5, 11, 12, 13, 14, 15, 16, 17, 18, 19, 20, 21, 44, 45, 46, 47, 48, 49, 50, 51, 52, 53, 54, 55, 56, 57, 58, 59, 60, 61] (by decide +kernel) (by decide +kernel)
set_option maxRecDepth 20000 in
theorem gX10_readCrack_X10_digit : GoodIn wsX10_readCrack (wsV RX10 168 RX10 yX10_digit wsX10_digit) := goodIn_app (goodIn_of _ (by decide +kernel)) ggX10_readCrack_X10_digit
set_option maxRecDepth 20000 in
theorem ggX10_readCrack_X10_readYear : GoodIn wsX10_readCrack wsX10_readYear := goodIn_r _ [25, 2, 3, 4, 5, 6, 7, 8, 9, 10, 11, 12, 13, 14, 15, 16, 17, 18, 19, 20, 21, 44, 45, 46, 47, 48, 49, 50, 51, 52, 53, 54, 55, 56, 57, 58, 59, 60, 61] (by decide +kernel) (by decide +kernel)
set_option maxRecDepth 20000 in
theorem gX10_readCrack_X10_readYear : GoodIn wsX10_readCrack (wsV RX10 175 RX10 yX10_readYear wsX10_readYear) := goodIn_app (goodIn_of _ (by decide +kernel)) ggX10_readCrack_X10_readYear
set_option maxRecDepth 20000 in
theorem ggX10_readCrack_X10_end : GoodIn wsX10_readCrack wsX10_end := goodIn_r _ [29, 7, 12, 13, 8, 9, 10, 5, 11, 14, 44, 45, 46, 47, 48, 49, 50, 51, 52, 53, 54, 55, 56, 57, 58, 59, 60, 61] (by decide +kernel) (by decide +kernel)
set_option maxRecDepth 20000 in
theorem gX10_readCrack_X10_end : GoodIn wsX10_readCrack (wsV RX10 191 RX10 yX10_end wsX10_end) := goodIn_app (goodIn_of _ (by decide +kernel)) ggX10_readCrack_X10_end
set_option maxRecDepth 20000 in
theorem ggX10_readCrack_X10_hasDie : GoodIn wsX10_readCrack wsX10_hasDie := goodIn_r _ [32, 15, 16, 5, 17] (by decide +kernel) (by decide +kernel)
set_option maxRecDepth 20000 in
theorem gX10_readCrack_X10_hasDie : GoodIn wsX10_readCrack (va_wsS RX10 197 yX10_hasDie wsX10_hasDie) := goodIn_app (goodIn_of _ (by decide +kernel)) ggX10_readCrack_X10_hasDie
set_option maxRecDepth 20000 in
theorem ggX10_readCrack_X10_canCrack : GoodIn wsX10_readCrack wsX10_canCrack := goodIn_r _ [35] (by decide +kernel) (by decide +kernel)
set_option maxRecDepth 20000 in
theorem gX10_readCrack_X10_canCrack : GoodIn wsX10_readCrack (va_wsS RX10 200 yX10_canCrack wsX10_canCrack) := goodIn_app (goodIn_of _ (by decide +kernel)) ggX10_readCrack_X10_canCrack
set_option maxRecDepth 20000 in
theorem ggX10_readCrack_X10_goes : GoodIn wsX10_readCrack wsX10_goes := goodIn_r _ [39, 40, 7, 44, 45, 46, 47, 48, 49, 50, 51, 52, 53, 54, 55, 56, 57, 58, 59, 60, 61] (by decide +kernel) (by decide +kernel)
set_option maxRecDepth 20000 in
theorem gX10_readCrack_X10_goes : GoodIn wsX10_readCrack (wsV RX10 184 RX10 yX10_goes wsX10_goes) := goodIn_app (goodIn_of _ (by decide +kernel)) ggX10_readCrack_X10_goes
set_option maxRecDepth 20000 in
theorem ggX10_readCrack_X10_goCrack : GoodIn wsX10_readCrack wsX10_goCrack := goodIn_r _ [43] (by decide +kernel) (by decide +kernel)
set_option maxRecDepth 20000 in
theorem gX10_readCrack_X10_goCrack : GoodIn wsX10_readCrack (va_wsS RX10 204 yX10_goCrack wsX10_goCrack) := goodIn_app (goodIn_of _ (by decide +kernel)) ggX10_readCrack_X10_goCrack
theorem dX10_readCrack_0 : decode cX10_readCrack 0 = .ok (.aload_n 0, 1) := by decide +kernel
theorem dX10_readCrack_1 : decode cX10_readCrack 1 = .ok (.iconst 0, 1) := by decide +kernel
theorem dX10_readCrack_2 : decode cX10_readCrack 2 = .ok (.bipush 9, 2) := by decide +kernel
theorem dX10_readCrack_4 : decode cX10_readCrack 4 = .ok (.invokevirtual 168, 3) := by decide +kernel
theorem dX10_readCrack_7 : decode cX10_readCrack 7 = .ok (.istore_n 1, 1) := by decide +kernel
theorem dX10_readCrack_8 : decode cX10_readCrack 8 = .ok (.aload_n 0, 1) := by decide +kernel
theorem dX10_readCrack_9 : decode cX10_readCrack 9 = .ok (.invokevirtual 175, 3) := by decide +kernel
theorem dX10_readCrack_12 : decode cX10_readCrack 12 = .ok (.istore_n 2, 1) := by decide +kernel
theorem dX10_readCrack_13 : decode cX10_readCrack 13 = .ok (.aload_n 0, 1) := by decide +kernel
theorem dX10_readCrack_14 : decode cX10_readCrack 14 = .ok (.invokevirtual 191, 3) := by decide +kernel
theorem dX10_readCrack_17 : decode cX10_readCrack 17 = .ok (.aload_n 0, 1) := by decide +kernel
theorem dX10_readCrack_18 : decode cX10_readCrack 18 = .ok (.aload_n 0, 1) := by decide +kernel
theorem dX10_readCrack_19 : decode cX10_readCrack 19 = .ok (.getfield 16, 3) := by decide +kernel
theorem dX10_readCrack_22 : decode cX10_readCrack 22 = .ok (.iload_n 1, 1) := by decide +kernel
theorem dX10_readCrack_23 : decode cX10_readCrack 23 = .ok (.invokestatic 197, 3) := by decide +kernel
theorem dX10_readCrack_26 : decode cX10_readCrack 26 = .ok (.ifCond .eq 19, 3) := by decide +kernel
theorem dX10_readCrack_29 : decode cX10_readCrack 29 = .ok (.aload_n 0, 1) := by decide +kernel
theorem dX10_readCrack_30 : decode cX10_readCrack 30 = .ok (.getfield 16, 3) := by decide +kernel
theorem dX10_readCrack_33 : decode cX10_readCrack 33 = .ok (.iload_n 1, 1) := by decide +kernel
theorem dX10_readCrack_34 : decode cX10_readCrack 34 = .ok (.iload_n 2, 1) := by decide +kernel
theorem dX10_readCrack_35 : decode cX10_readCrack 35 = .ok (.invokestatic 200, 3) := by decide +kernel
theorem dX10_readCrack_38 : decode cX10_readCrack 38 = .ok (.ifCond .eq 7, 3) := by decide +kernel
theorem dX10_readCrack_41 : decode cX10_readCrack 41 = .ok (.iconst 1, 1) := by decide +kernel
theorem dX10_readCrack_42 : decode cX10_readCrack 42 = .ok (.goto 4, 3) := by decide +kernel
theorem dX10_readCrack_45 : decode cX10_readCrack 45 = .ok (.iconst 0, 1) := by decide +kernel
theorem dX10_readCrack_46 : decode cX10_readCrack 46 = .ok (.invokevirtual 184, 3) := by decide +kernel
theorem dX10_readCrack_49 : decode cX10_readCrack 49 = .ok (.ifCond .eq 13, 3) := by decide +kernel
theorem dX10_readCrack_52 : decode cX10_readCrack 52 = .ok (.aload_n 0, 1) := by decide +kernel
theorem dX10_readCrack_53 : decode cX10_readCrack 53 = .ok (.getfield 16, 3) := by decide +kernel
theorem dX10_readCrack_56 : decode cX10_readCrack 56 = .ok (.iload_n 1, 1) := by decide +kernel
theorem dX10_readCrack_57 : decode cX10_readCrack 57 = .ok (.iload_n 2, 1) := by decide +kernel
theorem dX10_readCrack_58 : decode cX10_readCrack 58 = .ok (.invokestatic 204, 3) := by decide +kernel
theorem dX10_readCrack_61 : decode cX10_readCrack 61 = .ok (.pop, 1) := by decide +kernel
theorem dX10_readCrack_62 : decode cX10_readCrack 62 = .ok (.return_, 1) := by decide +kernel
