theorem dX0_init_0 : decode cX0_init 0 = .ok (.aload_n 0, 1) := by decide +kernel
theorem dX0_init_1 : decode cX0_init 1 = .ok (.invokespecial 3, 3) := by decide +kernel
theorem dX0_init_4 : decode cX0_init 4 = .ok (.aload_n 0, 1) := by decide +kernel
theorem dX0_init_5 : decode cX0_init 5 = .ok (.bipush 10, 2) := by decide +kernel
theorem dX0_init_7 : decode cX0_init 7 = .ok (.newarray .int, 2) := by decide +kernel
theorem dX0_init_9 : decode cX0_init 9 = .ok (.putfield 9, 3) := by decide +kernel
theorem dX0_init_12 : decode cX0_init 12 = .ok (.aload_n 0, 1) := by decide +kernel
theorem dX0_init_13 : decode cX0_init 13 = .ok (.bipush 10, 2) := by decide +kernel
theorem dX0_init_15 : decode cX0_init 15 = .ok (.newarray .int, 2) := by decide +kernel
theorem dX0_init_17 : decode cX0_init 17 = .ok (.putfield 15, 3) := by decide +kernel
theorem dX0_init_20 : decode cX0_init 20 = .ok (.aload_n 0, 1) := by decide +kernel
theorem dX0_init_21 : decode cX0_init 21 = .ok (.bipush 10, 2) := by decide +kernel
theorem dX0_init_23 : decode cX0_init 23 = .ok (.newarray .int, 2) := by decide +kernel
theorem dX0_init_25 : decode cX0_init 25 = .ok (.putfield 18, 3) := by decide +kernel
theorem dX0_init_28 : decode cX0_init 28 = .ok (.aload_n 0, 1) := by decide +kernel
theorem dX0_init_29 : decode cX0_init 29 = .ok (.bipush 10, 2) := by decide +kernel
theorem dX0_init_31 : decode cX0_init 31 = .ok (.newarray .int, 2) := by decide +kernel
theorem dX0_init_33 : decode cX0_init 33 = .ok (.putfield 21, 3) := by decide +kernel
theorem dX0_init_36 : decode cX0_init 36 = .ok (.aload_n 0, 1) := by decide +kernel
theorem dX0_init_37 : decode cX0_init 37 = .ok (.bipush 40, 2) := by decide +kernel
theorem dX0_init_39 : decode cX0_init 39 = .ok (.newarray .int, 2) := by decide +kernel
theorem dX0_init_41 : decode cX0_init 41 = .ok (.putfield 24, 3) := by decide +kernel
theorem dX0_init_44 : decode cX0_init 44 = .ok (.return_, 1) := by decide +kernel
theorem dX0_copy_0 : decode cX0_copy 0 = .ok (.aload_n 0, 1) := by decide +kernel
theorem dX0_copy_1 : decode cX0_copy 1 = .ok (.aload_n 1, 1) := by decide +kernel
theorem dX0_copy_2 : decode cX0_copy 2 = .ok (.getfield 27, 3) := by decide +kernel
theorem dX0_copy_5 : decode cX0_copy 5 = .ok (.putfield 27, 3) := by decide +kernel
theorem dX0_copy_8 : decode cX0_copy 8 = .ok (.aload_n 1, 1) := by decide +kernel
theorem dX0_copy_9 : decode cX0_copy 9 = .ok (.getfield 9, 3) := by decide +kernel
theorem dX0_copy_12 : decode cX0_copy 12 = .ok (.iconst 0, 1) := by decide +kernel
theorem dX0_copy_13 : decode cX0_copy 13 = .ok (.aload_n 0, 1) := by decide +kernel
theorem dX0_copy_14 : decode cX0_copy 14 = .ok (.getfield 9, 3) := by decide +kernel
theorem dX0_copy_17 : decode cX0_copy 17 = .ok (.iconst 0, 1) := by decide +kernel
theorem dX0_copy_18 : decode cX0_copy 18 = .ok (.bipush 10, 2) := by decide +kernel
theorem dX0_copy_20 : decode cX0_copy 20 = .ok (.invokestatic 31, 3) := by decide +kernel
theorem dX0_copy_23 : decode cX0_copy 23 = .ok (.aload_n 1, 1) := by decide +kernel
theorem dX0_copy_24 : decode cX0_copy 24 = .ok (.getfield 15, 3) := by decide +kernel
theorem dX0_copy_27 : decode cX0_copy 27 = .ok (.iconst 0, 1) := by decide +kernel
theorem dX0_copy_28 : decode cX0_copy 28 = .ok (.aload_n 0, 1) := by decide +kernel
theorem dX0_copy_29 : decode cX0_copy 29 = .ok (.getfield 15, 3) := by decide +kernel
theorem dX0_copy_32 : decode cX0_copy 32 = .ok (.iconst 0, 1) := by decide +kernel
theorem dX0_copy_33 : decode cX0_copy 33 = .ok (.bipush 10, 2) := by decide +kernel
theorem dX0_copy_35 : decode cX0_copy 35 = .ok (.invokestatic 31, 3) := by decide +kernel
theorem dX0_copy_38 : decode cX0_copy 38 = .ok (.aload_n 1, 1) := by decide +kernel
theorem dX0_copy_39 : decode cX0_copy 39 = .ok (.getfield 18, 3) := by decide +kernel
theorem dX0_copy_42 : decode cX0_copy 42 = .ok (.iconst 0, 1) := by decide +kernel
theorem dX0_copy_43 : decode cX0_copy 43 = .ok (.aload_n 0, 1) := by decide +kernel
theorem dX0_copy_44 : decode cX0_copy 44 = .ok (.getfield 18, 3) := by decide +kernel
theorem dX0_copy_47 : decode cX0_copy 47 = .ok (.iconst 0, 1) := by decide +kernel
theorem dX0_copy_48 : decode cX0_copy 48 = .ok (.bipush 10, 2) := by decide +kernel
theorem dX0_copy_50 : decode cX0_copy 50 = .ok (.invokestatic 31, 3) := by decide +kernel
theorem dX0_copy_53 : decode cX0_copy 53 = .ok (.aload_n 1, 1) := by decide +kernel
theorem dX0_copy_54 : decode cX0_copy 54 = .ok (.getfield 21, 3) := by decide +kernel
theorem dX0_copy_57 : decode cX0_copy 57 = .ok (.iconst 0, 1) := by decide +kernel
theorem dX0_copy_58 : decode cX0_copy 58 = .ok (.aload_n 0, 1) := by decide +kernel
theorem dX0_copy_59 : decode cX0_copy 59 = .ok (.getfield 21, 3) := by decide +kernel
theorem dX0_copy_62 : decode cX0_copy 62 = .ok (.iconst 0, 1) := by decide +kernel
theorem dX0_copy_63 : decode cX0_copy 63 = .ok (.bipush 10, 2) := by decide +kernel
theorem dX0_copy_65 : decode cX0_copy 65 = .ok (.invokestatic 31, 3) := by decide +kernel
theorem dX0_copy_68 : decode cX0_copy 68 = .ok (.aload_n 1, 1) := by decide +kernel
theorem dX0_copy_69 : decode cX0_copy 69 = .ok (.getfield 24, 3) := by decide +kernel
theorem dX0_copy_72 : decode cX0_copy 72 = .ok (.iconst 0, 1) := by decide +kernel
theorem dX0_copy_73 : decode cX0_copy 73 = .ok (.aload_n 0, 1) := by decide +kernel
theorem dX0_copy_74 : decode cX0_copy 74 = .ok (.getfield 24, 3) := by decide +kernel
theorem dX0_copy_77 : decode cX0_copy 77 = .ok (.iconst 0, 1) := by decide +kernel
theorem dX0_copy_78 : decode cX0_copy 78 = .ok (.bipush 40, 2) := by decide +kernel
theorem dX0_copy_80 : decode cX0_copy 80 = .ok (.invokestatic 31, 3) := by decide +kernel
theorem dX0_copy_83 : decode cX0_copy 83 = .ok (.return_, 1) := by decide +kernel
theorem dX0_has_0 : decode cX0_has 0 = .ok (.iload_n 1, 1) := by decide +kernel
theorem dX0_has_1 : decode cX0_has 1 = .ok (.ifCond .lt 15, 3) := by decide +kernel
theorem dX0_has_4 : decode cX0_has 4 = .ok (.iload_n 1, 1) := by decide +kernel
theorem dX0_has_5 : decode cX0_has 5 = .ok (.aload_n 0, 1) := by decide +kernel
theorem dX0_has_6 : decode cX0_has 6 = .ok (.getfield 27, 3) := by decide +kernel
theorem dX0_has_9 : decode cX0_has 9 = .ok (.if_icmp .ge 7, 3) := by decide +kernel
theorem dX0_has_12 : decode cX0_has 12 = .ok (.iconst 1, 1) := by decide +kernel
theorem dX0_has_13 : decode cX0_has 13 = .ok (.goto 4, 3) := by decide +kernel
theorem dX0_has_16 : decode cX0_has 16 = .ok (.iconst 0, 1) := by decide +kernel
theorem dX0_has_17 : decode cX0_has 17 = .ok (.ireturn, 1) := by decide +kernel
theorem dX0_hasCracks_0 : decode cX0_hasCracks 0 = .ok (.iload_n 2, 1) := by decide +kernel
theorem dX0_hasCracks_1 : decode cX0_hasCracks 1 = .ok (.ifCond .lt 19, 3) := by decide +kernel
theorem dX0_hasCracks_4 : decode cX0_hasCracks 4 = .ok (.iload_n 2, 1) := by decide +kernel
theorem dX0_hasCracks_5 : decode cX0_hasCracks 5 = .ok (.iconst 1, 1) := by decide +kernel
theorem dX0_hasCracks_6 : decode cX0_hasCracks 6 = .ok (.aload_n 0, 1) := by decide +kernel
theorem dX0_hasCracks_7 : decode cX0_hasCracks 7 = .ok (.getfield 21, 3) := by decide +kernel
theorem dX0_hasCracks_10 : decode cX0_hasCracks 10 = .ok (.iload_n 1, 1) := by decide +kernel
theorem dX0_hasCracks_11 : decode cX0_hasCracks 11 = .ok (.iaload, 1) := by decide +kernel
theorem dX0_hasCracks_12 : decode cX0_hasCracks 12 = .ok (.ishl, 1) := by decide +kernel
theorem dX0_hasCracks_13 : decode cX0_hasCracks 13 = .ok (.if_icmp .ge 7, 3) := by decide +kernel
theorem dX0_hasCracks_16 : decode cX0_hasCracks 16 = .ok (.iconst 1, 1) := by decide +kernel
theorem dX0_hasCracks_17 : decode cX0_hasCracks 17 = .ok (.goto 4, 3) := by decide +kernel
theorem dX0_hasCracks_20 : decode cX0_hasCracks 20 = .ok (.iconst 0, 1) := by decide +kernel
theorem dX0_hasCracks_21 : decode cX0_hasCracks 21 = .ok (.ireturn, 1) := by decide +kernel
theorem dX0_yearOfCrack_0 : decode cX0_yearOfCrack 0 = .ok (.aload_n 0, 1) := by decide +kernel
theorem dX0_yearOfCrack_1 : decode cX0_yearOfCrack 1 = .ok (.getfield 24, 3) := by decide +kernel
theorem dX0_yearOfCrack_4 : decode cX0_yearOfCrack 4 = .ok (.iload_n 1, 1) := by decide +kernel
theorem dX0_yearOfCrack_5 : decode cX0_yearOfCrack 5 = .ok (.iconst 4, 1) := by decide +kernel
theorem dX0_yearOfCrack_6 : decode cX0_yearOfCrack 6 = .ok (.imul, 1) := by decide +kernel
theorem dX0_yearOfCrack_7 : decode cX0_yearOfCrack 7 = .ok (.iload_n 2, 1) := by decide +kernel
theorem dX0_yearOfCrack_8 : decode cX0_yearOfCrack 8 = .ok (.iadd, 1) := by decide +kernel
theorem dX0_yearOfCrack_9 : decode cX0_yearOfCrack 9 = .ok (.iaload, 1) := by decide +kernel
theorem dX0_yearOfCrack_10 : decode cX0_yearOfCrack 10 = .ok (.ireturn, 1) := by decide +kernel
set_option maxRecDepth 20000 in
theorem ggX0_crackedIn_X0_yearOfCrack : GoodIn wsX0_crackedIn wsX0_yearOfCrack := goodIn_r _ [6, 7, 8, 9, 10, 11, 12, 13] (by decide +kernel) (by decide +kernel)
set_option maxRecDepth 20000 in
theorem gX0_crackedIn_X0_yearOfCrack : GoodIn wsX0_crackedIn (wsV RX0 37 RX0 yX0_yearOfCrack wsX0_yearOfCrack) := goodIn_app (goodIn_of _ (by decide +kernel)) ggX0_crackedIn_X0_yearOfCrack
theorem dX0_crackedIn_0 : decode cX0_crackedIn 0 = .ok (.iconst 0, 1) := by decide +kernel
theorem dX0_crackedIn_1 : decode cX0_crackedIn 1 = .ok (.istore_n 3, 1) := by decide +kernel
theorem dX0_crackedIn_2 : decode cX0_crackedIn 2 = .ok (.iload_n 3, 1) := by decide +kernel
theorem dX0_crackedIn_3 : decode cX0_crackedIn 3 = .ok (.aload_n 0, 1) := by decide +kernel
theorem dX0_crackedIn_4 : decode cX0_crackedIn 4 = .ok (.getfield 21, 3) := by decide +kernel
theorem dX0_crackedIn_7 : decode cX0_crackedIn 7 = .ok (.iload_n 1, 1) := by decide +kernel
theorem dX0_crackedIn_8 : decode cX0_crackedIn 8 = .ok (.iaload, 1) := by decide +kernel
theorem dX0_crackedIn_9 : decode cX0_crackedIn 9 = .ok (.if_icmp .ge 21, 3) := by decide +kernel
theorem dX0_crackedIn_12 : decode cX0_crackedIn 12 = .ok (.aload_n 0, 1) := by decide +kernel
theorem dX0_crackedIn_13 : decode cX0_crackedIn 13 = .ok (.iload_n 1, 1) := by decide +kernel
theorem dX0_crackedIn_14 : decode cX0_crackedIn 14 = .ok (.iload_n 3, 1) := by decide +kernel
theorem dX0_crackedIn_15 : decode cX0_crackedIn 15 = .ok (.invokevirtual 37, 3) := by decide +kernel
theorem dX0_crackedIn_18 : decode cX0_crackedIn 18 = .ok (.iload_n 2, 1) := by decide +kernel
theorem dX0_crackedIn_19 : decode cX0_crackedIn 19 = .ok (.if_icmp .ne 5, 3) := by decide +kernel
theorem dX0_crackedIn_22 : decode cX0_crackedIn 22 = .ok (.iconst 1, 1) := by decide +kernel
theorem dX0_crackedIn_23 : decode cX0_crackedIn 23 = .ok (.ireturn, 1) := by decide +kernel
theorem dX0_crackedIn_24 : decode cX0_crackedIn 24 = .ok (.iinc 3 1, 3) := by decide +kernel
theorem dX0_crackedIn_27 : decode cX0_crackedIn 27 = .ok (.goto (-25), 3) := by decide +kernel
theorem dX0_crackedIn_30 : decode cX0_crackedIn 30 = .ok (.iconst 0, 1) := by decide +kernel
theorem dX0_crackedIn_31 : decode cX0_crackedIn 31 = .ok (.ireturn, 1) := by decide +kernel
set_option maxRecDepth 20000 in
theorem ggX0_firstYear_X0_yearOfCrack : GoodIn wsX0_firstYear wsX0_yearOfCrack := goodIn_r _ [11, 12, 13, 14, 15, 16, 17, 18] (by decide +kernel) (by decide +kernel)
set_option maxRecDepth 20000 in
theorem gX0_firstYear_X0_yearOfCrack : GoodIn wsX0_firstYear (wsV RX0 37 RX0 yX0_yearOfCrack wsX0_yearOfCrack) := goodIn_app (goodIn_of _ (by decide +kernel)) ggX0_firstYear_X0_yearOfCrack
theorem dX0_firstYear_0 : decode cX0_firstYear 0 = .ok (.aload_n 0, 1) := by decide +kernel
theorem dX0_firstYear_1 : decode cX0_firstYear 1 = .ok (.getfield 15, 3) := by decide +kernel
theorem dX0_firstYear_4 : decode cX0_firstYear 4 = .ok (.iload_n 1, 1) := by decide +kernel
theorem dX0_firstYear_5 : decode cX0_firstYear 5 = .ok (.iaload, 1) := by decide +kernel
theorem dX0_firstYear_6 : decode cX0_firstYear 6 = .ok (.istore_n 3, 1) := by decide +kernel
theorem dX0_firstYear_7 : decode cX0_firstYear 7 = .ok (.iconst 0, 1) := by decide +kernel
theorem dX0_firstYear_8 : decode cX0_firstYear 8 = .ok (.istore 4, 2) := by decide +kernel
theorem dX0_firstYear_10 : decode cX0_firstYear 10 = .ok (.iload 4, 2) := by decide +kernel
theorem dX0_firstYear_12 : decode cX0_firstYear 12 = .ok (.aload_n 0, 1) := by decide +kernel
theorem dX0_firstYear_13 : decode cX0_firstYear 13 = .ok (.getfield 21, 3) := by decide +kernel
theorem dX0_firstYear_16 : decode cX0_firstYear 16 = .ok (.iload_n 1, 1) := by decide +kernel
theorem dX0_firstYear_17 : decode cX0_firstYear 17 = .ok (.iaload, 1) := by decide +kernel
theorem dX0_firstYear_18 : decode cX0_firstYear 18 = .ok (.if_icmp .ge 30, 3) := by decide +kernel
theorem dX0_firstYear_21 : decode cX0_firstYear 21 = .ok (.iload_n 2, 1) := by decide +kernel
theorem dX0_firstYear_22 : decode cX0_firstYear 22 = .ok (.iload 4, 2) := by decide +kernel
theorem dX0_firstYear_24 : decode cX0_firstYear 24 = .ok (.ishr, 1) := by decide +kernel
theorem dX0_firstYear_25 : decode cX0_firstYear 25 = .ok (.iconst 1, 1) := by decide +kernel
theorem dX0_firstYear_26 : decode cX0_firstYear 26 = .ok (.iand, 1) := by decide +kernel
theorem dX0_firstYear_27 : decode cX0_firstYear 27 = .ok (.ifCond .eq 15, 3) := by decide +kernel
theorem dX0_firstYear_30 : decode cX0_firstYear 30 = .ok (.iload_n 3, 1) := by decide +kernel
theorem dX0_firstYear_31 : decode cX0_firstYear 31 = .ok (.aload_n 0, 1) := by decide +kernel
theorem dX0_firstYear_32 : decode cX0_firstYear 32 = .ok (.iload_n 1, 1) := by decide +kernel
theorem dX0_firstYear_33 : decode cX0_firstYear 33 = .ok (.iload 4, 2) := by decide +kernel
theorem dX0_firstYear_35 : decode cX0_firstYear 35 = .ok (.invokevirtual 37, 3) := by decide +kernel
theorem dX0_firstYear_38 : decode cX0_firstYear 38 = .ok (.invokestatic 41, 3) := by decide +kernel
theorem dX0_firstYear_41 : decode cX0_firstYear 41 = .ok (.istore_n 3, 1) := by decide +kernel
theorem dX0_firstYear_42 : decode cX0_firstYear 42 = .ok (.iinc 4 1, 3) := by decide +kernel
theorem dX0_firstYear_45 : decode cX0_firstYear 45 = .ok (.goto (-35), 3) := by decide +kernel
theorem dX0_firstYear_48 : decode cX0_firstYear 48 = .ok (.iload_n 3, 1) := by decide +kernel
theorem dX0_firstYear_49 : decode cX0_firstYear 49 = .ok (.ireturn, 1) := by decide +kernel
set_option maxRecDepth 20000 in
theorem ggX0_lastYear_X0_yearOfCrack : GoodIn wsX0_lastYear wsX0_yearOfCrack := goodIn_r _ [11, 12, 13, 14, 15, 16, 17, 18] (by decide +kernel) (by decide +kernel)
set_option maxRecDepth 20000 in
theorem gX0_lastYear_X0_yearOfCrack : GoodIn wsX0_lastYear (wsV RX0 37 RX0 yX0_yearOfCrack wsX0_yearOfCrack) := goodIn_app (goodIn_of _ (by decide +kernel)) ggX0_lastYear_X0_yearOfCrack
theorem dX0_lastYear_0 : decode cX0_lastYear 0 = .ok (.aload_n 0, 1) := by decide +kernel
theorem dX0_lastYear_1 : decode cX0_lastYear 1 = .ok (.getfield 18, 3) := by decide +kernel
theorem dX0_lastYear_4 : decode cX0_lastYear 4 = .ok (.iload_n 1, 1) := by decide +kernel
theorem dX0_lastYear_5 : decode cX0_lastYear 5 = .ok (.iaload, 1) := by decide +kernel
theorem dX0_lastYear_6 : decode cX0_lastYear 6 = .ok (.istore_n 3, 1) := by decide +kernel
theorem dX0_lastYear_7 : decode cX0_lastYear 7 = .ok (.iconst 0, 1) := by decide +kernel
theorem dX0_lastYear_8 : decode cX0_lastYear 8 = .ok (.istore 4, 2) := by decide +kernel
theorem dX0_lastYear_10 : decode cX0_lastYear 10 = .ok (.iload 4, 2) := by decide +kernel
theorem dX0_lastYear_12 : decode cX0_lastYear 12 = .ok (.aload_n 0, 1) := by decide +kernel
theorem dX0_lastYear_13 : decode cX0_lastYear 13 = .ok (.getfield 21, 3) := by decide +kernel
theorem dX0_lastYear_16 : decode cX0_lastYear 16 = .ok (.iload_n 1, 1) := by decide +kernel
theorem dX0_lastYear_17 : decode cX0_lastYear 17 = .ok (.iaload, 1) := by decide +kernel
theorem dX0_lastYear_18 : decode cX0_lastYear 18 = .ok (.if_icmp .ge 30, 3) := by decide +kernel
theorem dX0_lastYear_21 : decode cX0_lastYear 21 = .ok (.iload_n 2, 1) := by decide +kernel
theorem dX0_lastYear_22 : decode cX0_lastYear 22 = .ok (.iload 4, 2) := by decide +kernel
theorem dX0_lastYear_24 : decode cX0_lastYear 24 = .ok (.ishr, 1) := by decide +kernel
theorem dX0_lastYear_25 : decode cX0_lastYear 25 = .ok (.iconst 1, 1) := by decide +kernel
theorem dX0_lastYear_26 : decode cX0_lastYear 26 = .ok (.iand, 1) := by decide +kernel
theorem dX0_lastYear_27 : decode cX0_lastYear 27 = .ok (.ifCond .ne 15, 3) := by decide +kernel
theorem dX0_lastYear_30 : decode cX0_lastYear 30 = .ok (.iload_n 3, 1) := by decide +kernel
theorem dX0_lastYear_31 : decode cX0_lastYear 31 = .ok (.aload_n 0, 1) := by decide +kernel
theorem dX0_lastYear_32 : decode cX0_lastYear 32 = .ok (.iload_n 1, 1) := by decide +kernel
theorem dX0_lastYear_33 : decode cX0_lastYear 33 = .ok (.iload 4, 2) := by decide +kernel
theorem dX0_lastYear_35 : decode cX0_lastYear 35 = .ok (.invokevirtual 37, 3) := by decide +kernel
theorem dX0_lastYear_38 : decode cX0_lastYear 38 = .ok (.invokestatic 46, 3) := by decide +kernel
theorem dX0_lastYear_41 : decode cX0_lastYear 41 = .ok (.istore_n 3, 1) := by decide +kernel
theorem dX0_lastYear_42 : decode cX0_lastYear 42 = .ok (.iinc 4 1, 3) := by decide +kernel
theorem dX0_lastYear_45 : decode cX0_lastYear 45 = .ok (.goto (-35), 3) := by decide +kernel
theorem dX0_lastYear_48 : decode cX0_lastYear 48 = .ok (.iload_n 3, 1) := by decide +kernel
theorem dX0_lastYear_49 : decode cX0_lastYear 49 = .ok (.ireturn, 1) := by decide +kernel
set_option maxRecDepth 20000 in
theorem ggX1_init_X8_init : GoodIn wsX1_init wsX8_init := goodIn_r _ [15, 16, 2, 3] (by decide +kernel) (by decide +kernel)
set_option maxRecDepth 20000 in
theorem gX1_init_X8_init_n30 : GoodIn wsX1_init (wsX8_init) := ggX1_init_X8_init
theorem dX1_init_0 : decode cX1_init 0 = .ok (.aload_n 0, 1) := by decide +kernel
theorem dX1_init_1 : decode cX1_init 1 = .ok (.invokespecial 3, 3) := by decide +kernel
theorem dX1_init_4 : decode cX1_init 4 = .ok (.aload_n 0, 1) := by decide +kernel
theorem dX1_init_5 : decode cX1_init 5 = .ok (.bipush 24, 2) := by decide +kernel
theorem dX1_init_7 : decode cX1_init 7 = .ok (.anewarray 9, 3) := by decide +kernel
theorem dX1_init_10 : decode cX1_init 10 = .ok (.putfield 11, 3) := by decide +kernel
theorem dX1_init_13 : decode cX1_init 13 = .ok (.aload_n 0, 1) := by decide +kernel
theorem dX1_init_14 : decode cX1_init 14 = .ok (.bipush 6, 2) := by decide +kernel
theorem dX1_init_16 : decode cX1_init 16 = .ok (.anewarray 9, 3) := by decide +kernel
theorem dX1_init_19 : decode cX1_init 19 = .ok (.putfield 17, 3) := by decide +kernel
theorem dX1_init_22 : decode cX1_init 22 = .ok (.aload_n 0, 1) := by decide +kernel
theorem dX1_init_23 : decode cX1_init 23 = .ok (.bipush 24, 2) := by decide +kernel
theorem dX1_init_25 : decode cX1_init 25 = .ok (.newarray .int, 2) := by decide +kernel
theorem dX1_init_27 : decode cX1_init 27 = .ok (.putfield 20, 3) := by decide +kernel
theorem dX1_init_30 : decode cX1_init 30 = .ok (.aload_n 0, 1) := by decide +kernel
theorem dX1_init_31 : decode cX1_init 31 = .ok (.bipush 24, 2) := by decide +kernel
theorem dX1_init_33 : decode cX1_init 33 = .ok (.newarray .int, 2) := by decide +kernel
theorem dX1_init_35 : decode cX1_init 35 = .ok (.putfield 24, 3) := by decide +kernel
theorem dX1_init_38 : decode cX1_init 38 = .ok (.aload_n 0, 1) := by decide +kernel
theorem dX1_init_39 : decode cX1_init 39 = .ok (.bipush 36, 2) := by decide +kernel
theorem dX1_init_41 : decode cX1_init 41 = .ok (.newarray .int, 2) := by decide +kernel
theorem dX1_init_43 : decode cX1_init 43 = .ok (.putfield 27, 3) := by decide +kernel
theorem dX1_init_46 : decode cX1_init 46 = .ok (.aload_n 0, 1) := by decide +kernel
theorem dX1_init_47 : decode cX1_init 47 = .ok (.new 9, 3) := by decide +kernel
theorem dX1_init_50 : decode cX1_init 50 = .ok (.dup, 1) := by decide +kernel
theorem dX1_init_51 : decode cX1_init 51 = .ok (.invokespecial 30, 3) := by decide +kernel
theorem dX1_init_54 : decode cX1_init 54 = .ok (.putfield 31, 3) := by decide +kernel
theorem dX1_init_57 : decode cX1_init 57 = .ok (.iconst 0, 1) := by decide +kernel
theorem dX1_init_58 : decode cX1_init 58 = .ok (.istore_n 1, 1) := by decide +kernel
theorem dX1_init_59 : decode cX1_init 59 = .ok (.iload_n 1, 1) := by decide +kernel
theorem dX1_init_60 : decode cX1_init 60 = .ok (.bipush 24, 2) := by decide +kernel
theorem dX1_init_62 : decode cX1_init 62 = .ok (.if_icmp .ge 22, 3) := by decide +kernel
theorem dX1_init_65 : decode cX1_init 65 = .ok (.aload_n 0, 1) := by decide +kernel
theorem dX1_init_66 : decode cX1_init 66 = .ok (.getfield 11, 3) := by decide +kernel
theorem dX1_init_69 : decode cX1_init 69 = .ok (.iload_n 1, 1) := by decide +kernel
theorem dX1_init_70 : decode cX1_init 70 = .ok (.new 9, 3) := by decide +kernel
theorem dX1_init_73 : decode cX1_init 73 = .ok (.dup, 1) := by decide +kernel
theorem dX1_init_74 : decode cX1_init 74 = .ok (.invokespecial 30, 3) := by decide +kernel
theorem dX1_init_77 : decode cX1_init 77 = .ok (.aastore, 1) := by decide +kernel
theorem dX1_init_78 : decode cX1_init 78 = .ok (.iinc 1 1, 3) := by decide +kernel
theorem dX1_init_81 : decode cX1_init 81 = .ok (.goto (-22), 3) := by decide +kernel
theorem dX1_init_84 : decode cX1_init 84 = .ok (.iconst 0, 1) := by decide +kernel
theorem dX1_init_85 : decode cX1_init 85 = .ok (.istore_n 1, 1) := by decide +kernel
theorem dX1_init_86 : decode cX1_init 86 = .ok (.iload_n 1, 1) := by decide +kernel
theorem dX1_init_87 : decode cX1_init 87 = .ok (.bipush 6, 2) := by decide +kernel
theorem dX1_init_89 : decode cX1_init 89 = .ok (.if_icmp .ge 22, 3) := by decide +kernel
theorem dX1_init_92 : decode cX1_init 92 = .ok (.aload_n 0, 1) := by decide +kernel
theorem dX1_init_93 : decode cX1_init 93 = .ok (.getfield 17, 3) := by decide +kernel
theorem dX1_init_96 : decode cX1_init 96 = .ok (.iload_n 1, 1) := by decide +kernel
theorem dX1_init_97 : decode cX1_init 97 = .ok (.new 9, 3) := by decide +kernel
theorem dX1_init_100 : decode cX1_init 100 = .ok (.dup, 1) := by decide +kernel
theorem dX1_init_101 : decode cX1_init 101 = .ok (.invokespecial 30, 3) := by decide +kernel
theorem dX1_init_104 : decode cX1_init 104 = .ok (.aastore, 1) := by decide +kernel
theorem dX1_init_105 : decode cX1_init 105 = .ok (.iinc 1 1, 3) := by decide +kernel
theorem dX1_init_108 : decode cX1_init 108 = .ok (.goto (-22), 3) := by decide +kernel
theorem dX1_init_111 : decode cX1_init 111 = .ok (.return_, 1) := by decide +kernel
set_option maxRecDepth 20000 in
theorem ggX1_look_X1_date : GoodIn wsX1_look wsX1_date := goodIn_r _ [5, 6, 7, 8, 9, 10, 11, 12, 13, 14, 15, 16, 17, 18, 19, 20, 21, 22, 23, 24, 25, 26, 27, 28, 29, 30, 31, 32, 33, 34, 35, 36, 37, 38, 39, 40, 41, 42, 43, 44, 45, 46, 47, 48, 49, 50, 51, 52, 53, 54, 55, 56, 57, 58, 59, 60, 61, 62, 63, 64, 65, 66, 67, 68, 69, 70, 71, 72, 73, 109, 110, 111, 112, 113, 114, 115, 116, 117, 118, 119, 120, 121, 122, 123, 124, 125, 126, 127, 128, 129, 130, 131, 132, 133, 134, 135, 136, 137, 138] (by decide +kernel) (by decide +kernel)
set_option maxRecDepth 20000 in
theorem gX1_look_X1_date : GoodIn wsX1_look (wsV RX1 35 RX1 yX1_date wsX1_date) := goodIn_app (goodIn_of _ (by decide +kernel)) ggX1_look_X1_date
set_option maxRecDepth 20000 in
theorem ggX1_look_X1_blame : GoodIn wsX1_look wsX1_blame := goodIn_r _ [77, 6, 7, 78, 79, 80, 12, 81, 82, 83, 4, 84, 85, 86, 87, 11, 14, 88, 89, 90, 91, 46, 47, 48, 49, 50, 51, 52, 53, 92, 93, 94, 95, 96, 97, 98, 99, 100, 59, 23, 24, 25, 60, 37, 38, 101, 102, 103, 104, 54, 55, 56, 57, 58, 61, 62, 63, 42, 64, 65, 66, 67, 68, 69, 70, 71, 72, 73, 44, 105, 106, 107, 108, 109, 110, 111, 112, 113, 114, 115, 116, 117, 118, 119, 120, 121, 122, 123, 124, 125, 126, 136, 137, 138, 133, 134, 135] (by decide +kernel) (by decide +kernel)
set_option maxRecDepth 20000 in
theorem gX1_look_X1_blame : GoodIn wsX1_look (wsV RX1 39 RX1 yX1_blame wsX1_blame) := goodIn_app (goodIn_of _ (by decide +kernel)) ggX1_look_X1_blame
theorem dX1_look_0 : decode cX1_look 0 = .ok (.aload_n 0, 1) := by decide +kernel
theorem dX1_look_1 : decode cX1_look 1 = .ok (.aload_n 1, 1) := by decide +kernel
theorem dX1_look_2 : decode cX1_look 2 = .ok (.invokevirtual 35, 3) := by decide +kernel
theorem dX1_look_5 : decode cX1_look 5 = .ok (.aload_n 0, 1) := by decide +kernel
theorem dX1_look_6 : decode cX1_look 6 = .ok (.aload_n 1, 1) := by decide +kernel
theorem dX1_look_7 : decode cX1_look 7 = .ok (.invokevirtual 39, 3) := by decide +kernel
theorem dX1_look_10 : decode cX1_look 10 = .ok (.return_, 1) := by decide +kernel
set_option maxRecDepth 20000 in
theorem ggX1_date_X0_firstYear : GoodIn wsX1_date wsX0_firstYear := goodIn_r _ [14, 15, 16, 17, 18, 19, 20, 21, 22, 23, 13, 24, 25, 87, 88, 89, 90, 91, 92] (by decide +kernel) (by decide +kernel)
set_option maxRecDepth 20000 in
theorem gX1_date_X0_firstYear : GoodIn wsX1_date (wsV RX1 64 RX0 yX0_firstYear wsX0_firstYear) := goodIn_app (goodIn_of _ (by decide +kernel)) ggX1_date_X0_firstYear
set_option maxRecDepth 20000 in
theorem ggX1_date_X0_lastYear : GoodIn wsX1_date wsX0_lastYear := goodIn_r _ [29, 30, 16, 31, 32, 19, 33, 21, 22, 23, 13, 24, 25, 87, 88, 89, 90, 91, 92] (by decide +kernel) (by decide +kernel)
set_option maxRecDepth 20000 in
theorem gX1_date_X0_lastYear : GoodIn wsX1_date (wsV RX1 70 RX0 yX0_lastYear wsX0_lastYear) := goodIn_app (goodIn_of _ (by decide +kernel)) ggX1_date_X0_lastYear
set_option maxRecDepth 20000 in
theorem ggX1_date_X3_rightSpans : GoodIn wsX1_date wsX3_rightSpans := goodIn_r _ [38, 39, 40, 93, 94, 95] (by decide +kernel) (by decide +kernel)
set_option maxRecDepth 20000 in
theorem gX1_date_X3_rightSpans : GoodIn wsX1_date (wsV RX1 80 RX3 yX3_rightSpans wsX3_rightSpans) := goodIn_app (goodIn_of _ (by decide +kernel)) ggX1_date_X3_rightSpans
set_option maxRecDepth 20000 in
theorem ggX1_date_X8_start : GoodIn wsX1_date wsX8_start := goodIn_r _ [45, 46, 47, 48, 96, 97, 98] (by decide +kernel) (by decide +kernel)
set_option maxRecDepth 20000 in
theorem gX1_date_X8_start : GoodIn wsX1_date (wsV RX1 86 RX8 yX8_start wsX8_start) := goodIn_app (goodIn_of _ (by decide +kernel)) ggX1_date_X8_start
set_option maxRecDepth 20000 in
theorem ggX1_date_X8_first : GoodIn wsX1_date wsX8_first := goodIn_r _ [52, 53, 46, 54, 18, 19, 20, 47, 55, 32, 33, 56, 57, 58, 37, 59, 60, 61, 62, 63, 44, 64, 48, 65, 66, 67, 68, 39, 93, 94, 95, 96, 97, 98] (by decide +kernel) (by decide +kernel)
set_option maxRecDepth 20000 in
theorem gX1_date_X8_first : GoodIn wsX1_date (wsV RX1 90 RX8 yX8_first wsX8_first) := goodIn_app (goodIn_of _ (by decide +kernel)) ggX1_date_X8_first
theorem dX1_date_0 : decode cX1_date 0 = .ok (.aload_n 1, 1) := by decide +kernel
theorem dX1_date_1 : decode cX1_date 1 = .ok (.getfield 42, 3) := by decide +kernel
theorem dX1_date_4 : decode cX1_date 4 = .ok (.astore_n 2, 1) := by decide +kernel
theorem dX1_date_5 : decode cX1_date 5 = .ok (.iconst 0, 1) := by decide +kernel
theorem dX1_date_6 : decode cX1_date 6 = .ok (.istore_n 3, 1) := by decide +kernel
theorem dX1_date_7 : decode cX1_date 7 = .ok (.iload_n 3, 1) := by decide +kernel
theorem dX1_date_8 : decode cX1_date 8 = .ok (.aload_n 2, 1) := by decide +kernel
theorem dX1_date_9 : decode cX1_date 9 = .ok (.getfield 48, 3) := by decide +kernel
theorem dX1_date_12 : decode cX1_date 12 = .ok (.if_icmp .ge 96, 3) := by decide +kernel
theorem dX1_date_15 : decode cX1_date 15 = .ok (.aload_n 2, 1) := by decide +kernel
theorem dX1_date_16 : decode cX1_date 16 = .ok (.getfield 54, 3) := by decide +kernel
theorem dX1_date_19 : decode cX1_date 19 = .ok (.iload_n 3, 1) := by decide +kernel
theorem dX1_date_20 : decode cX1_date 20 = .ok (.iaload, 1) := by decide +kernel
theorem dX1_date_21 : decode cX1_date 21 = .ok (.istore 4, 2) := by decide +kernel
theorem dX1_date_23 : decode cX1_date 23 = .ok (.aload_n 1, 1) := by decide +kernel
theorem dX1_date_24 : decode cX1_date 24 = .ok (.getfield 57, 3) := by decide +kernel
theorem dX1_date_27 : decode cX1_date 27 = .ok (.iload 4, 2) := by decide +kernel
theorem dX1_date_29 : decode cX1_date 29 = .ok (.aload_n 2, 1) := by decide +kernel
theorem dX1_date_30 : decode cX1_date 30 = .ok (.getfield 61, 3) := by decide +kernel
theorem dX1_date_33 : decode cX1_date 33 = .ok (.iload_n 3, 1) := by decide +kernel
theorem dX1_date_34 : decode cX1_date 34 = .ok (.iaload, 1) := by decide +kernel
theorem dX1_date_35 : decode cX1_date 35 = .ok (.invokevirtual 64, 3) := by decide +kernel
theorem dX1_date_38 : decode cX1_date 38 = .ok (.istore 5, 2) := by decide +kernel
theorem dX1_date_40 : decode cX1_date 40 = .ok (.aload_n 1, 1) := by decide +kernel
theorem dX1_date_41 : decode cX1_date 41 = .ok (.getfield 57, 3) := by decide +kernel
theorem dX1_date_44 : decode cX1_date 44 = .ok (.iload 4, 2) := by decide +kernel
theorem dX1_date_46 : decode cX1_date 46 = .ok (.aload_n 2, 1) := by decide +kernel
theorem dX1_date_47 : decode cX1_date 47 = .ok (.getfield 61, 3) := by decide +kernel
theorem dX1_date_50 : decode cX1_date 50 = .ok (.iload_n 3, 1) := by decide +kernel
theorem dX1_date_51 : decode cX1_date 51 = .ok (.iaload, 1) := by decide +kernel
theorem dX1_date_52 : decode cX1_date 52 = .ok (.invokevirtual 70, 3) := by decide +kernel
theorem dX1_date_55 : decode cX1_date 55 = .ok (.istore 6, 2) := by decide +kernel
theorem dX1_date_57 : decode cX1_date 57 = .ok (.aload_n 0, 1) := by decide +kernel
theorem dX1_date_58 : decode cX1_date 58 = .ok (.getfield 11, 3) := by decide +kernel
theorem dX1_date_61 : decode cX1_date 61 = .ok (.iload_n 3, 1) := by decide +kernel
theorem dX1_date_62 : decode cX1_date 62 = .ok (.aaload, 1) := by decide +kernel
theorem dX1_date_63 : decode cX1_date 63 = .ok (.iload 5, 2) := by decide +kernel
theorem dX1_date_65 : decode cX1_date 65 = .ok (.iload 6, 2) := by decide +kernel
theorem dX1_date_67 : decode cX1_date 67 = .ok (.aload_n 1, 1) := by decide +kernel
theorem dX1_date_68 : decode cX1_date 68 = .ok (.getfield 73, 3) := by decide +kernel
theorem dX1_date_71 : decode cX1_date 71 = .ok (.aload_n 2, 1) := by decide +kernel
theorem dX1_date_72 : decode cX1_date 72 = .ok (.getfield 77, 3) := by decide +kernel
theorem dX1_date_75 : decode cX1_date 75 = .ok (.iload_n 3, 1) := by decide +kernel
theorem dX1_date_76 : decode cX1_date 76 = .ok (.iaload, 1) := by decide +kernel
theorem dX1_date_77 : decode cX1_date 77 = .ok (.invokevirtual 80, 3) := by decide +kernel
theorem dX1_date_80 : decode cX1_date 80 = .ok (.invokevirtual 86, 3) := by decide +kernel
theorem dX1_date_83 : decode cX1_date 83 = .ok (.aload_n 0, 1) := by decide +kernel
theorem dX1_date_84 : decode cX1_date 84 = .ok (.getfield 24, 3) := by decide +kernel
theorem dX1_date_87 : decode cX1_date 87 = .ok (.iload_n 3, 1) := by decide +kernel
theorem dX1_date_88 : decode cX1_date 88 = .ok (.aload_n 0, 1) := by decide +kernel
theorem dX1_date_89 : decode cX1_date 89 = .ok (.getfield 11, 3) := by decide +kernel
theorem dX1_date_92 : decode cX1_date 92 = .ok (.iload_n 3, 1) := by decide +kernel
theorem dX1_date_93 : decode cX1_date 93 = .ok (.aaload, 1) := by decide +kernel
theorem dX1_date_94 : decode cX1_date 94 = .ok (.aload_n 1, 1) := by decide +kernel
theorem dX1_date_95 : decode cX1_date 95 = .ok (.getfield 73, 3) := by decide +kernel
theorem dX1_date_98 : decode cX1_date 98 = .ok (.invokevirtual 90, 3) := by decide +kernel
theorem dX1_date_101 : decode cX1_date 101 = .ok (.iastore, 1) := by decide +kernel
theorem dX1_date_102 : decode cX1_date 102 = .ok (.iinc 3 1, 3) := by decide +kernel
theorem dX1_date_105 : decode cX1_date 105 = .ok (.goto (-98), 3) := by decide +kernel
theorem dX1_date_108 : decode cX1_date 108 = .ok (.return_, 1) := by decide +kernel
set_option maxRecDepth 20000 in
theorem ggX1_blame_X1_ownReason : GoodIn wsX1_blame wsX1_ownReason := goodIn_r _ [11, 1, 12, 13, 14, 15, 16, 73, 74, 75, 76, 77, 78, 79, 80, 81, 82, 83, 84, 85, 86, 87, 88, 89, 90, 91, 92, 93] (by decide +kernel) (by decide +kernel)
set_option maxRecDepth 20000 in
theorem gX1_blame_X1_ownReason : GoodIn wsX1_blame (wsV RX1 93 RX1 yX1_ownReason wsX1_ownReason) := goodIn_app (goodIn_of _ (by decide +kernel)) ggX1_blame_X1_ownReason
set_option maxRecDepth 20000 in
theorem ggX1_blame_X1_findCommon : GoodIn wsX1_blame wsX1_findCommon := goodIn_r _ [20, 5, 1, 2, 15, 21, 22, 23, 24, 25, 26, 27, 28, 29, 30, 31, 10, 32, 33, 3, 34, 35, 36, 37, 38, 39, 40, 41, 42, 43, 44, 45, 46, 47, 48, 85, 86, 87, 88, 89, 90, 73, 74, 75, 76, 77, 78, 79, 80, 81, 82, 83, 84, 91, 92, 93] (by decide +kernel) (by decide +kernel)
set_option maxRecDepth 20000 in
theorem gX1_blame_X1_findCommon : GoodIn wsX1_blame (wsV RX1 97 RX1 yX1_findCommon wsX1_findCommon) := goodIn_app (goodIn_of _ (by decide +kernel)) ggX1_blame_X1_findCommon
set_option maxRecDepth 20000 in
theorem ggX1_blame_X8_copy : GoodIn wsX1_blame wsX8_copy := goodIn_r _ [48, 26, 27, 28, 91, 92, 93] (by decide +kernel) (by decide +kernel)
set_option maxRecDepth 20000 in
theorem gX1_blame_X8_copy : GoodIn wsX1_blame (wsV RX1 101 RX8 yX8_copy wsX8_copy) := goodIn_app (goodIn_of _ (by decide +kernel)) ggX1_blame_X8_copy
set_option maxRecDepth 20000 in
theorem ggX1_blame_X8_first : GoodIn wsX1_blame wsX8_first := goodIn_r _ [52, 53, 26, 38, 39, 40, 41, 27, 42, 43, 44, 54, 55, 56, 57, 58, 59, 60, 61, 62, 24, 63, 28, 64, 65, 66, 67, 68, 94, 95, 96, 91, 92, 93] (by decide +kernel) (by decide +kernel)
set_option maxRecDepth 20000 in
theorem gX1_blame_X8_first : GoodIn wsX1_blame (wsV RX1 90 RX8 yX8_first wsX8_first) := goodIn_app (goodIn_of _ (by decide +kernel)) ggX1_blame_X8_first
set_option maxRecDepth 20000 in
theorem ggX1_blame_X1_blameCharter : GoodIn wsX1_blame wsX1_blameCharter := goodIn_r _ [72, 1, 2, 33, 3, 73, 74, 75, 76, 77, 78, 79, 80, 81, 82, 83, 84, 85, 86, 87, 88, 89, 90] (by decide +kernel) (by decide +kernel)
set_option maxRecDepth 20000 in
theorem gX1_blame_X1_blameCharter : GoodIn wsX1_blame (wsV RX1 105 RX1 yX1_blameCharter wsX1_blameCharter) := goodIn_app (goodIn_of _ (by decide +kernel)) ggX1_blame_X1_blameCharter
theorem dX1_blame_0 : decode cX1_blame 0 = .ok (.iconst 0, 1) := by decide +kernel
theorem dX1_blame_1 : decode cX1_blame 1 = .ok (.istore_n 2, 1) := by decide +kernel
theorem dX1_blame_2 : decode cX1_blame 2 = .ok (.iload_n 2, 1) := by decide +kernel
theorem dX1_blame_3 : decode cX1_blame 3 = .ok (.aload_n 1, 1) := by decide +kernel
theorem dX1_blame_4 : decode cX1_blame 4 = .ok (.getfield 42, 3) := by decide +kernel
theorem dX1_blame_7 : decode cX1_blame 7 = .ok (.getfield 48, 3) := by decide +kernel
theorem dX1_blame_10 : decode cX1_blame 10 = .ok (.if_icmp .ge 21, 3) := by decide +kernel
theorem dX1_blame_13 : decode cX1_blame 13 = .ok (.aload_n 0, 1) := by decide +kernel
theorem dX1_blame_14 : decode cX1_blame 14 = .ok (.getfield 20, 3) := by decide +kernel
theorem dX1_blame_17 : decode cX1_blame 17 = .ok (.iload_n 2, 1) := by decide +kernel
theorem dX1_blame_18 : decode cX1_blame 18 = .ok (.aload_n 0, 1) := by decide +kernel
theorem dX1_blame_19 : decode cX1_blame 19 = .ok (.aload_n 1, 1) := by decide +kernel
theorem dX1_blame_20 : decode cX1_blame 20 = .ok (.iload_n 2, 1) := by decide +kernel
theorem dX1_blame_21 : decode cX1_blame 21 = .ok (.invokevirtual 93, 3) := by decide +kernel
theorem dX1_blame_24 : decode cX1_blame 24 = .ok (.iastore, 1) := by decide +kernel
theorem dX1_blame_25 : decode cX1_blame 25 = .ok (.iinc 2 1, 3) := by decide +kernel
theorem dX1_blame_28 : decode cX1_blame 28 = .ok (.goto (-26), 3) := by decide +kernel
theorem dX1_blame_31 : decode cX1_blame 31 = .ok (.iconst 0, 1) := by decide +kernel
theorem dX1_blame_32 : decode cX1_blame 32 = .ok (.istore_n 2, 1) := by decide +kernel
theorem dX1_blame_33 : decode cX1_blame 33 = .ok (.iload_n 2, 1) := by decide +kernel
theorem dX1_blame_34 : decode cX1_blame 34 = .ok (.bipush 6, 2) := by decide +kernel
theorem dX1_blame_36 : decode cX1_blame 36 = .ok (.if_icmp .ge 50, 3) := by decide +kernel
theorem dX1_blame_39 : decode cX1_blame 39 = .ok (.aload_n 0, 1) := by decide +kernel
theorem dX1_blame_40 : decode cX1_blame 40 = .ok (.aload_n 1, 1) := by decide +kernel
theorem dX1_blame_41 : decode cX1_blame 41 = .ok (.iload_n 2, 1) := by decide +kernel
theorem dX1_blame_42 : decode cX1_blame 42 = .ok (.iconst (-1), 1) := by decide +kernel
theorem dX1_blame_43 : decode cX1_blame 43 = .ok (.invokevirtual 97, 3) := by decide +kernel
theorem dX1_blame_46 : decode cX1_blame 46 = .ok (.aload_n 0, 1) := by decide +kernel
theorem dX1_blame_47 : decode cX1_blame 47 = .ok (.getfield 17, 3) := by decide +kernel
theorem dX1_blame_50 : decode cX1_blame 50 = .ok (.iload_n 2, 1) := by decide +kernel
theorem dX1_blame_51 : decode cX1_blame 51 = .ok (.aaload, 1) := by decide +kernel
theorem dX1_blame_52 : decode cX1_blame 52 = .ok (.aload_n 0, 1) := by decide +kernel
theorem dX1_blame_53 : decode cX1_blame 53 = .ok (.getfield 31, 3) := by decide +kernel
theorem dX1_blame_56 : decode cX1_blame 56 = .ok (.invokevirtual 101, 3) := by decide +kernel
theorem dX1_blame_59 : decode cX1_blame 59 = .ok (.aload_n 0, 1) := by decide +kernel
theorem dX1_blame_60 : decode cX1_blame 60 = .ok (.getfield 31, 3) := by decide +kernel
theorem dX1_blame_63 : decode cX1_blame 63 = .ok (.aload_n 1, 1) := by decide +kernel
theorem dX1_blame_64 : decode cX1_blame 64 = .ok (.getfield 73, 3) := by decide +kernel
theorem dX1_blame_67 : decode cX1_blame 67 = .ok (.invokevirtual 90, 3) := by decide +kernel
theorem dX1_blame_70 : decode cX1_blame 70 = .ok (.iconst (-1), 1) := by decide +kernel
theorem dX1_blame_71 : decode cX1_blame 71 = .ok (.if_icmp .ne 9, 3) := by decide +kernel
theorem dX1_blame_74 : decode cX1_blame 74 = .ok (.aload_n 0, 1) := by decide +kernel
theorem dX1_blame_75 : decode cX1_blame 75 = .ok (.aload_n 1, 1) := by decide +kernel
theorem dX1_blame_76 : decode cX1_blame 76 = .ok (.iload_n 2, 1) := by decide +kernel
theorem dX1_blame_77 : decode cX1_blame 77 = .ok (.invokevirtual 105, 3) := by decide +kernel
theorem dX1_blame_80 : decode cX1_blame 80 = .ok (.iinc 2 1, 3) := by decide +kernel
theorem dX1_blame_83 : decode cX1_blame 83 = .ok (.goto (-50), 3) := by decide +kernel
theorem dX1_blame_86 : decode cX1_blame 86 = .ok (.return_, 1) := by decide +kernel
theorem dX1_ownReason_0 : decode cX1_ownReason 0 = .ok (.aload_n 1, 1) := by decide +kernel
theorem dX1_ownReason_1 : decode cX1_ownReason 1 = .ok (.getfield 42, 3) := by decide +kernel
theorem dX1_ownReason_4 : decode cX1_ownReason 4 = .ok (.getfield 109, 3) := by decide +kernel
theorem dX1_ownReason_7 : decode cX1_ownReason 7 = .ok (.iload_n 2, 1) := by decide +kernel
theorem dX1_ownReason_8 : decode cX1_ownReason 8 = .ok (.iaload, 1) := by decide +kernel
theorem dX1_ownReason_9 : decode cX1_ownReason 9 = .ok (.aload_n 1, 1) := by decide +kernel
theorem dX1_ownReason_10 : decode cX1_ownReason 10 = .ok (.getfield 112, 3) := by decide +kernel
theorem dX1_ownReason_13 : decode cX1_ownReason 13 = .ok (.aload_n 1, 1) := by decide +kernel
theorem dX1_ownReason_14 : decode cX1_ownReason 14 = .ok (.getfield 42, 3) := by decide +kernel
theorem dX1_ownReason_17 : decode cX1_ownReason 17 = .ok (.getfield 115, 3) := by decide +kernel
theorem dX1_ownReason_20 : decode cX1_ownReason 20 = .ok (.iload_n 2, 1) := by decide +kernel
theorem dX1_ownReason_21 : decode cX1_ownReason 21 = .ok (.iaload, 1) := by decide +kernel
theorem dX1_ownReason_22 : decode cX1_ownReason 22 = .ok (.iaload, 1) := by decide +kernel
theorem dX1_ownReason_23 : decode cX1_ownReason 23 = .ok (.if_icmp .le 5, 3) := by decide +kernel
theorem dX1_ownReason_26 : decode cX1_ownReason 26 = .ok (.iconst 1, 1) := by decide +kernel
theorem dX1_ownReason_27 : decode cX1_ownReason 27 = .ok (.ireturn, 1) := by decide +kernel
theorem dX1_ownReason_28 : decode cX1_ownReason 28 = .ok (.aload_n 0, 1) := by decide +kernel
theorem dX1_ownReason_29 : decode cX1_ownReason 29 = .ok (.getfield 11, 3) := by decide +kernel
theorem dX1_ownReason_32 : decode cX1_ownReason 32 = .ok (.iload_n 2, 1) := by decide +kernel
theorem dX1_ownReason_33 : decode cX1_ownReason 33 = .ok (.aaload, 1) := by decide +kernel
theorem dX1_ownReason_34 : decode cX1_ownReason 34 = .ok (.getfield 118, 3) := by decide +kernel
theorem dX1_ownReason_37 : decode cX1_ownReason 37 = .ok (.ifCond .ne 5, 3) := by decide +kernel
theorem dX1_ownReason_40 : decode cX1_ownReason 40 = .ok (.iconst 2, 1) := by decide +kernel
theorem dX1_ownReason_41 : decode cX1_ownReason 41 = .ok (.ireturn, 1) := by decide +kernel
theorem dX1_ownReason_42 : decode cX1_ownReason 42 = .ok (.aload_n 0, 1) := by decide +kernel
theorem dX1_ownReason_43 : decode cX1_ownReason 43 = .ok (.getfield 24, 3) := by decide +kernel
theorem dX1_ownReason_46 : decode cX1_ownReason 46 = .ok (.iload_n 2, 1) := by decide +kernel
theorem dX1_ownReason_47 : decode cX1_ownReason 47 = .ok (.iaload, 1) := by decide +kernel
theorem dX1_ownReason_48 : decode cX1_ownReason 48 = .ok (.iconst (-1), 1) := by decide +kernel
theorem dX1_ownReason_49 : decode cX1_ownReason 49 = .ok (.if_icmp .ne 7, 3) := by decide +kernel
theorem dX1_ownReason_52 : decode cX1_ownReason 52 = .ok (.iconst 3, 1) := by decide +kernel
theorem dX1_ownReason_53 : decode cX1_ownReason 53 = .ok (.goto 4, 3) := by decide +kernel
theorem dX1_ownReason_56 : decode cX1_ownReason 56 = .ok (.iconst 0, 1) := by decide +kernel
theorem dX1_ownReason_57 : decode cX1_ownReason 57 = .ok (.ireturn, 1) := by decide +kernel
theorem dX1_blameCharter_0 : decode cX1_blameCharter 0 = .ok (.iconst 0, 1) := by decide +kernel
theorem dX1_blameCharter_1 : decode cX1_blameCharter 1 = .ok (.istore_n 3, 1) := by decide +kernel
theorem dX1_blameCharter_2 : decode cX1_blameCharter 2 = .ok (.iload_n 3, 1) := by decide +kernel
theorem dX1_blameCharter_3 : decode cX1_blameCharter 3 = .ok (.aload_n 1, 1) := by decide +kernel
theorem dX1_blameCharter_4 : decode cX1_blameCharter 4 = .ok (.getfield 42, 3) := by decide +kernel
theorem dX1_blameCharter_7 : decode cX1_blameCharter 7 = .ok (.getfield 48, 3) := by decide +kernel
theorem dX1_blameCharter_10 : decode cX1_blameCharter 10 = .ok (.if_icmp .ge 38, 3) := by decide +kernel
theorem dX1_blameCharter_13 : decode cX1_blameCharter 13 = .ok (.aload_n 1, 1) := by decide +kernel
theorem dX1_blameCharter_14 : decode cX1_blameCharter 14 = .ok (.getfield 42, 3) := by decide +kernel
theorem dX1_blameCharter_17 : decode cX1_blameCharter 17 = .ok (.getfield 121, 3) := by decide +kernel
theorem dX1_blameCharter_20 : decode cX1_blameCharter 20 = .ok (.iload_n 3, 1) := by decide +kernel
theorem dX1_blameCharter_21 : decode cX1_blameCharter 21 = .ok (.iaload, 1) := by decide +kernel
theorem dX1_blameCharter_22 : decode cX1_blameCharter 22 = .ok (.iload_n 2, 1) := by decide +kernel
theorem dX1_blameCharter_23 : decode cX1_blameCharter 23 = .ok (.if_icmp .ne 19, 3) := by decide +kernel
theorem dX1_blameCharter_26 : decode cX1_blameCharter 26 = .ok (.aload_n 0, 1) := by decide +kernel
theorem dX1_blameCharter_27 : decode cX1_blameCharter 27 = .ok (.getfield 20, 3) := by decide +kernel
theorem dX1_blameCharter_30 : decode cX1_blameCharter 30 = .ok (.iload_n 3, 1) := by decide +kernel
theorem dX1_blameCharter_31 : decode cX1_blameCharter 31 = .ok (.iaload, 1) := by decide +kernel
theorem dX1_blameCharter_32 : decode cX1_blameCharter 32 = .ok (.ifCond .ne 10, 3) := by decide +kernel
theorem dX1_blameCharter_35 : decode cX1_blameCharter 35 = .ok (.aload_n 0, 1) := by decide +kernel
theorem dX1_blameCharter_36 : decode cX1_blameCharter 36 = .ok (.getfield 20, 3) := by decide +kernel
theorem dX1_blameCharter_39 : decode cX1_blameCharter 39 = .ok (.iload_n 3, 1) := by decide +kernel
theorem dX1_blameCharter_40 : decode cX1_blameCharter 40 = .ok (.iconst 4, 1) := by decide +kernel
theorem dX1_blameCharter_41 : decode cX1_blameCharter 41 = .ok (.iastore, 1) := by decide +kernel
theorem dX1_blameCharter_42 : decode cX1_blameCharter 42 = .ok (.iinc 3 1, 3) := by decide +kernel
theorem dX1_blameCharter_45 : decode cX1_blameCharter 45 = .ok (.goto (-43), 3) := by decide +kernel
theorem dX1_blameCharter_48 : decode cX1_blameCharter 48 = .ok (.return_, 1) := by decide +kernel
theorem dX1_dates_0 : decode cX1_dates 0 = .ok (.aload_n 1, 1) := by decide +kernel
theorem dX1_dates_1 : decode cX1_dates 1 = .ok (.getfield 42, 3) := by decide +kernel
theorem dX1_dates_4 : decode cX1_dates 4 = .ok (.getfield 121, 3) := by decide +kernel
theorem dX1_dates_7 : decode cX1_dates 7 = .ok (.iload_n 2, 1) := by decide +kernel
theorem dX1_dates_8 : decode cX1_dates 8 = .ok (.iaload, 1) := by decide +kernel
theorem dX1_dates_9 : decode cX1_dates 9 = .ok (.iload_n 3, 1) := by decide +kernel
theorem dX1_dates_10 : decode cX1_dates 10 = .ok (.if_icmp .ne 26, 3) := by decide +kernel
theorem dX1_dates_13 : decode cX1_dates 13 = .ok (.aload_n 0, 1) := by decide +kernel
theorem dX1_dates_14 : decode cX1_dates 14 = .ok (.getfield 20, 3) := by decide +kernel
theorem dX1_dates_17 : decode cX1_dates 17 = .ok (.iload_n 2, 1) := by decide +kernel
theorem dX1_dates_18 : decode cX1_dates 18 = .ok (.iaload, 1) := by decide +kernel
theorem dX1_dates_19 : decode cX1_dates 19 = .ok (.ifCond .eq 13, 3) := by decide +kernel
theorem dX1_dates_22 : decode cX1_dates 22 = .ok (.aload_n 0, 1) := by decide +kernel
theorem dX1_dates_23 : decode cX1_dates 23 = .ok (.getfield 20, 3) := by decide +kernel
theorem dX1_dates_26 : decode cX1_dates 26 = .ok (.iload_n 2, 1) := by decide +kernel
theorem dX1_dates_27 : decode cX1_dates 27 = .ok (.iaload, 1) := by decide +kernel
theorem dX1_dates_28 : decode cX1_dates 28 = .ok (.iconst 4, 1) := by decide +kernel
theorem dX1_dates_29 : decode cX1_dates 29 = .ok (.if_icmp .ne 7, 3) := by decide +kernel
theorem dX1_dates_32 : decode cX1_dates 32 = .ok (.iconst 1, 1) := by decide +kernel
theorem dX1_dates_33 : decode cX1_dates 33 = .ok (.goto 4, 3) := by decide +kernel
theorem dX1_dates_36 : decode cX1_dates 36 = .ok (.iconst 0, 1) := by decide +kernel
theorem dX1_dates_37 : decode cX1_dates 37 = .ok (.ireturn, 1) := by decide +kernel
set_option maxRecDepth 20000 in
theorem ggX1_findCommon_X8_start : GoodIn wsX1_findCommon wsX8_start := goodIn_r _ [9, 10, 11, 12, 53, 54, 55] (by decide +kernel) (by decide +kernel)
set_option maxRecDepth 20000 in
theorem gX1_findCommon_X8_start : GoodIn wsX1_findCommon (wsV RX1 86 RX8 yX8_start wsX8_start) := goodIn_app (goodIn_of _ (by decide +kernel)) ggX1_findCommon_X8_start
set_option maxRecDepth 20000 in
theorem ggX1_findCommon_X1_dates : GoodIn wsX1_findCommon wsX1_dates := goodIn_r _ [17, 2, 18, 19, 41, 42, 43, 44, 45, 46, 47, 48, 49, 50, 51, 52, 35, 36, 37, 38, 39, 40] (by decide +kernel) (by decide +kernel)
set_option maxRecDepth 20000 in
theorem gX1_findCommon_X1_dates : GoodIn wsX1_findCommon (wsV RX1 124 RX1 yX1_dates wsX1_dates) := goodIn_app (goodIn_of _ (by decide +kernel)) ggX1_findCommon_X1_dates
set_option maxRecDepth 20000 in
theorem ggX1_findCommon_X8_narrow : GoodIn wsX1_findCommon wsX8_narrow := goodIn_r _ [23, 10, 24, 25, 26, 27, 11, 28, 29, 30, 12, 53, 54, 55] (by decide +kernel) (by decide +kernel)
set_option maxRecDepth 20000 in
theorem gX1_findCommon_X8_narrow : GoodIn wsX1_findCommon (wsV RX1 128 RX8 yX8_narrow wsX8_narrow) := goodIn_app (goodIn_of _ (by decide +kernel)) ggX1_findCommon_X8_narrow
set_option maxRecDepth 20000 in
theorem ggX1_findCommon_X8_copy : GoodIn wsX1_findCommon wsX8_copy := goodIn_r _ [34, 10, 11, 12, 53, 54, 55] (by decide +kernel) (by decide +kernel)
set_option maxRecDepth 20000 in
theorem gX1_findCommon_X8_copy : GoodIn wsX1_findCommon (wsV RX1 101 RX8 yX8_copy wsX8_copy) := goodIn_app (goodIn_of _ (by decide +kernel)) ggX1_findCommon_X8_copy
theorem dX1_findCommon_0 : decode cX1_findCommon 0 = .ok (.iconst 0, 1) := by decide +kernel
theorem dX1_findCommon_1 : decode cX1_findCommon 1 = .ok (.istore 4, 2) := by decide +kernel
theorem dX1_findCommon_3 : decode cX1_findCommon 3 = .ok (.aload_n 0, 1) := by decide +kernel
theorem dX1_findCommon_4 : decode cX1_findCommon 4 = .ok (.getfield 31, 3) := by decide +kernel
theorem dX1_findCommon_7 : decode cX1_findCommon 7 = .ok (.sipush 1000, 3) := by decide +kernel
theorem dX1_findCommon_10 : decode cX1_findCommon 10 = .ok (.sipush 1999, 3) := by decide +kernel
theorem dX1_findCommon_13 : decode cX1_findCommon 13 = .ok (.iconst 0, 1) := by decide +kernel
theorem dX1_findCommon_14 : decode cX1_findCommon 14 = .ok (.invokevirtual 86, 3) := by decide +kernel
theorem dX1_findCommon_17 : decode cX1_findCommon 17 = .ok (.iconst 0, 1) := by decide +kernel
theorem dX1_findCommon_18 : decode cX1_findCommon 18 = .ok (.istore 5, 2) := by decide +kernel
theorem dX1_findCommon_20 : decode cX1_findCommon 20 = .ok (.iload 5, 2) := by decide +kernel
theorem dX1_findCommon_22 : decode cX1_findCommon 22 = .ok (.aload_n 1, 1) := by decide +kernel
theorem dX1_findCommon_23 : decode cX1_findCommon 23 = .ok (.getfield 42, 3) := by decide +kernel
theorem dX1_findCommon_26 : decode cX1_findCommon 26 = .ok (.getfield 48, 3) := by decide +kernel
theorem dX1_findCommon_29 : decode cX1_findCommon 29 = .ok (.if_icmp .ge 65, 3) := by decide +kernel
theorem dX1_findCommon_32 : decode cX1_findCommon 32 = .ok (.iload 5, 2) := by decide +kernel
theorem dX1_findCommon_34 : decode cX1_findCommon 34 = .ok (.iload_n 3, 1) := by decide +kernel
theorem dX1_findCommon_35 : decode cX1_findCommon 35 = .ok (.if_icmp .eq 53, 3) := by decide +kernel
theorem dX1_findCommon_38 : decode cX1_findCommon 38 = .ok (.aload_n 0, 1) := by decide +kernel
theorem dX1_findCommon_39 : decode cX1_findCommon 39 = .ok (.aload_n 1, 1) := by decide +kernel
theorem dX1_findCommon_40 : decode cX1_findCommon 40 = .ok (.iload 5, 2) := by decide +kernel
theorem dX1_findCommon_42 : decode cX1_findCommon 42 = .ok (.iload_n 2, 1) := by decide +kernel
theorem dX1_findCommon_43 : decode cX1_findCommon 43 = .ok (.invokevirtual 124, 3) := by decide +kernel
theorem dX1_findCommon_46 : decode cX1_findCommon 46 = .ok (.ifCond .eq 42, 3) := by decide +kernel
theorem dX1_findCommon_49 : decode cX1_findCommon 49 = .ok (.iload 4, 2) := by decide +kernel
theorem dX1_findCommon_51 : decode cX1_findCommon 51 = .ok (.ifCond .eq 20, 3) := by decide +kernel
theorem dX1_findCommon_54 : decode cX1_findCommon 54 = .ok (.aload_n 0, 1) := by decide +kernel
theorem dX1_findCommon_55 : decode cX1_findCommon 55 = .ok (.getfield 31, 3) := by decide +kernel
theorem dX1_findCommon_58 : decode cX1_findCommon 58 = .ok (.aload_n 0, 1) := by decide +kernel
theorem dX1_findCommon_59 : decode cX1_findCommon 59 = .ok (.getfield 11, 3) := by decide +kernel
theorem dX1_findCommon_62 : decode cX1_findCommon 62 = .ok (.iload 5, 2) := by decide +kernel
theorem dX1_findCommon_64 : decode cX1_findCommon 64 = .ok (.aaload, 1) := by decide +kernel
theorem dX1_findCommon_65 : decode cX1_findCommon 65 = .ok (.invokevirtual 128, 3) := by decide +kernel
theorem dX1_findCommon_68 : decode cX1_findCommon 68 = .ok (.goto 17, 3) := by decide +kernel
theorem dX1_findCommon_71 : decode cX1_findCommon 71 = .ok (.aload_n 0, 1) := by decide +kernel
theorem dX1_findCommon_72 : decode cX1_findCommon 72 = .ok (.getfield 31, 3) := by decide +kernel
theorem dX1_findCommon_75 : decode cX1_findCommon 75 = .ok (.aload_n 0, 1) := by decide +kernel
theorem dX1_findCommon_76 : decode cX1_findCommon 76 = .ok (.getfield 11, 3) := by decide +kernel
theorem dX1_findCommon_79 : decode cX1_findCommon 79 = .ok (.iload 5, 2) := by decide +kernel
theorem dX1_findCommon_81 : decode cX1_findCommon 81 = .ok (.aaload, 1) := by decide +kernel
theorem dX1_findCommon_82 : decode cX1_findCommon 82 = .ok (.invokevirtual 101, 3) := by decide +kernel
theorem dX1_findCommon_85 : decode cX1_findCommon 85 = .ok (.iconst 1, 1) := by decide +kernel
theorem dX1_findCommon_86 : decode cX1_findCommon 86 = .ok (.istore 4, 2) := by decide +kernel
theorem dX1_findCommon_88 : decode cX1_findCommon 88 = .ok (.iinc 5 1, 3) := by decide +kernel
theorem dX1_findCommon_91 : decode cX1_findCommon 91 = .ok (.goto (-71), 3) := by decide +kernel
theorem dX1_findCommon_94 : decode cX1_findCommon 94 = .ok (.return_, 1) := by decide +kernel
set_option maxRecDepth 20000 in
theorem ggX1_decider_X1_dates : GoodIn wsX1_decider wsX1_dates := goodIn_r _ [9, 1, 10, 11, 60, 61, 62, 63, 64, 65, 66, 67, 68, 69, 70, 71, 72, 73, 74, 75, 76, 77] (by decide +kernel) (by decide +kernel)
set_option maxRecDepth 20000 in
theorem gX1_decider_X1_dates : GoodIn wsX1_decider (wsV RX1 124 RX1 yX1_dates wsX1_dates) := goodIn_app (goodIn_of _ (by decide +kernel)) ggX1_decider_X1_dates
set_option maxRecDepth 20000 in
theorem ggX1_decider_X1_findCommon : GoodIn wsX1_decider wsX1_findCommon := goodIn_r _ [15, 3, 1, 2, 16, 17, 18, 19, 20, 21, 22, 23, 24, 5, 6, 7, 8, 9, 10, 11, 25, 26, 27, 28, 29, 30, 31, 32, 33, 34, 35, 36, 37, 38, 39, 72, 73, 74, 75, 76, 77, 60, 61, 62, 63, 64, 65, 66, 67, 68, 69, 70, 71, 78, 79, 80] (by decide +kernel) (by decide +kernel)
set_option maxRecDepth 20000 in
theorem gX1_decider_X1_findCommon : GoodIn wsX1_decider (wsV RX1 97 RX1 yX1_findCommon wsX1_findCommon) := goodIn_app (goodIn_of _ (by decide +kernel)) ggX1_decider_X1_findCommon
set_option maxRecDepth 20000 in
theorem ggX1_decider_X8_count : GoodIn wsX1_decider wsX8_count := goodIn_r _ [43, 44, 22, 29, 30, 31, 32, 23, 33, 34, 35, 45, 46, 47, 48, 49, 50, 51, 52, 53, 54, 55, 56, 57, 58, 20, 59, 24, 81, 82, 83, 78, 79, 80] (by decide +kernel) (by decide +kernel)
set_option maxRecDepth 20000 in
theorem gX1_decider_X8_count : GoodIn wsX1_decider (wsV RX1 131 RX8 yX8_count wsX8_count) := goodIn_app (goodIn_of _ (by decide +kernel)) ggX1_decider_X8_count
theorem dX1_decider_0 : decode cX1_decider 0 = .ok (.iconst (-1), 1) := by decide +kernel
theorem dX1_decider_1 : decode cX1_decider 1 = .ok (.istore_n 3, 1) := by decide +kernel
theorem dX1_decider_2 : decode cX1_decider 2 = .ok (.iconst (-1), 1) := by decide +kernel
theorem dX1_decider_3 : decode cX1_decider 3 = .ok (.istore 4, 2) := by decide +kernel
theorem dX1_decider_5 : decode cX1_decider 5 = .ok (.iconst 0, 1) := by decide +kernel
theorem dX1_decider_6 : decode cX1_decider 6 = .ok (.istore 5, 2) := by decide +kernel
theorem dX1_decider_8 : decode cX1_decider 8 = .ok (.iload 5, 2) := by decide +kernel
theorem dX1_decider_10 : decode cX1_decider 10 = .ok (.aload_n 1, 1) := by decide +kernel
theorem dX1_decider_11 : decode cX1_decider 11 = .ok (.getfield 42, 3) := by decide +kernel
theorem dX1_decider_14 : decode cX1_decider 14 = .ok (.getfield 48, 3) := by decide +kernel
theorem dX1_decider_17 : decode cX1_decider 17 = .ok (.if_icmp .ge 55, 3) := by decide +kernel
theorem dX1_decider_20 : decode cX1_decider 20 = .ok (.aload_n 0, 1) := by decide +kernel
theorem dX1_decider_21 : decode cX1_decider 21 = .ok (.aload_n 1, 1) := by decide +kernel
theorem dX1_decider_22 : decode cX1_decider 22 = .ok (.iload 5, 2) := by decide +kernel
theorem dX1_decider_24 : decode cX1_decider 24 = .ok (.iload_n 2, 1) := by decide +kernel
theorem dX1_decider_25 : decode cX1_decider 25 = .ok (.invokevirtual 124, 3) := by decide +kernel
theorem dX1_decider_28 : decode cX1_decider 28 = .ok (.ifCond .eq 38, 3) := by decide +kernel
theorem dX1_decider_31 : decode cX1_decider 31 = .ok (.aload_n 0, 1) := by decide +kernel
theorem dX1_decider_32 : decode cX1_decider 32 = .ok (.aload_n 1, 1) := by decide +kernel
theorem dX1_decider_33 : decode cX1_decider 33 = .ok (.iload_n 2, 1) := by decide +kernel
theorem dX1_decider_34 : decode cX1_decider 34 = .ok (.iload 5, 2) := by decide +kernel
theorem dX1_decider_36 : decode cX1_decider 36 = .ok (.invokevirtual 97, 3) := by decide +kernel
theorem dX1_decider_39 : decode cX1_decider 39 = .ok (.aload_n 0, 1) := by decide +kernel
theorem dX1_decider_40 : decode cX1_decider 40 = .ok (.getfield 31, 3) := by decide +kernel
theorem dX1_decider_43 : decode cX1_decider 43 = .ok (.aload_n 1, 1) := by decide +kernel
theorem dX1_decider_44 : decode cX1_decider 44 = .ok (.getfield 73, 3) := by decide +kernel
theorem dX1_decider_47 : decode cX1_decider 47 = .ok (.invokevirtual 131, 3) := by decide +kernel
theorem dX1_decider_50 : decode cX1_decider 50 = .ok (.istore 6, 2) := by decide +kernel
theorem dX1_decider_52 : decode cX1_decider 52 = .ok (.iload 6, 2) := by decide +kernel
theorem dX1_decider_54 : decode cX1_decider 54 = .ok (.iload 4, 2) := by decide +kernel
theorem dX1_decider_56 : decode cX1_decider 56 = .ok (.if_icmp .le 10, 3) := by decide +kernel
theorem dX1_decider_59 : decode cX1_decider 59 = .ok (.iload 6, 2) := by decide +kernel
theorem dX1_decider_61 : decode cX1_decider 61 = .ok (.istore 4, 2) := by decide +kernel
theorem dX1_decider_63 : decode cX1_decider 63 = .ok (.iload 5, 2) := by decide +kernel
theorem dX1_decider_65 : decode cX1_decider 65 = .ok (.istore_n 3, 1) := by decide +kernel
theorem dX1_decider_66 : decode cX1_decider 66 = .ok (.iinc 5 1, 3) := by decide +kernel
theorem dX1_decider_69 : decode cX1_decider 69 = .ok (.goto (-61), 3) := by decide +kernel
theorem dX1_decider_72 : decode cX1_decider 72 = .ok (.iload_n 3, 1) := by decide +kernel
theorem dX1_decider_73 : decode cX1_decider 73 = .ok (.ireturn, 1) := by decide +kernel
set_option maxRecDepth 20000 in
theorem ggX1_isAhead_X8_last : GoodIn wsX1_isAhead wsX8_last := goodIn_r _ [8, 9, 10, 11, 12, 13, 14, 15, 16, 17, 18, 19, 20, 21, 22, 23, 24, 25, 26, 27, 28, 7, 29, 30, 31, 32, 33, 34, 46, 47, 48, 49, 50, 51] (by decide +kernel) (by decide +kernel)
set_option maxRecDepth 20000 in
theorem gX1_isAhead_X8_last : GoodIn wsX1_isAhead (wsV RX1 133 RX8 yX8_last wsX8_last) := goodIn_app (goodIn_of _ (by decide +kernel)) ggX1_isAhead_X8_last
theorem dX1_isAhead_0 : decode cX1_isAhead 0 = .ok (.aload_n 0, 1) := by decide +kernel
theorem dX1_isAhead_1 : decode cX1_isAhead 1 = .ok (.getfield 11, 3) := by decide +kernel
theorem dX1_isAhead_4 : decode cX1_isAhead 4 = .ok (.iload_n 2, 1) := by decide +kernel
theorem dX1_isAhead_5 : decode cX1_isAhead 5 = .ok (.aaload, 1) := by decide +kernel
theorem dX1_isAhead_6 : decode cX1_isAhead 6 = .ok (.aload_n 1, 1) := by decide +kernel
theorem dX1_isAhead_7 : decode cX1_isAhead 7 = .ok (.getfield 73, 3) := by decide +kernel
theorem dX1_isAhead_10 : decode cX1_isAhead 10 = .ok (.invokevirtual 133, 3) := by decide +kernel
theorem dX1_isAhead_13 : decode cX1_isAhead 13 = .ok (.istore 4, 2) := by decide +kernel
theorem dX1_isAhead_15 : decode cX1_isAhead 15 = .ok (.iload 4, 2) := by decide +kernel
theorem dX1_isAhead_17 : decode cX1_isAhead 17 = .ok (.iconst (-1), 1) := by decide +kernel
theorem dX1_isAhead_18 : decode cX1_isAhead 18 = .ok (.if_icmp .eq 18, 3) := by decide +kernel
theorem dX1_isAhead_21 : decode cX1_isAhead 21 = .ok (.iload 4, 2) := by decide +kernel
theorem dX1_isAhead_23 : decode cX1_isAhead 23 = .ok (.aload_n 0, 1) := by decide +kernel
theorem dX1_isAhead_24 : decode cX1_isAhead 24 = .ok (.getfield 24, 3) := by decide +kernel
theorem dX1_isAhead_27 : decode cX1_isAhead 27 = .ok (.iload_n 3, 1) := by decide +kernel
theorem dX1_isAhead_28 : decode cX1_isAhead 28 = .ok (.iaload, 1) := by decide +kernel
theorem dX1_isAhead_29 : decode cX1_isAhead 29 = .ok (.if_icmp .ge 7, 3) := by decide +kernel
theorem dX1_isAhead_32 : decode cX1_isAhead 32 = .ok (.iconst 1, 1) := by decide +kernel
theorem dX1_isAhead_33 : decode cX1_isAhead 33 = .ok (.goto 4, 3) := by decide +kernel
theorem dX1_isAhead_36 : decode cX1_isAhead 36 = .ok (.iconst 0, 1) := by decide +kernel
theorem dX1_isAhead_37 : decode cX1_isAhead 37 = .ok (.ireturn, 1) := by decide +kernel
set_option maxRecDepth 20000 in
theorem ggX1_fakesIn_X1_look : GoodIn wsX1_fakesIn wsX1_look := goodIn_r _ [5, 6, 7, 8, 4, 9, 10, 11, 12, 13, 14, 15, 16, 17, 18, 19, 20, 21, 22, 23, 24, 25, 26, 27, 28, 29, 30, 31, 32, 33, 34, 35, 36, 37, 38, 39, 40, 41, 42, 43, 44, 45, 46, 47, 48, 49, 50, 51, 52, 53, 54, 55, 56, 57, 58, 59, 60, 61, 62, 63, 64, 65, 66, 67, 68, 69, 70, 71, 72, 73, 74, 75, 76, 77, 78, 79, 80, 81, 82, 83, 84, 85, 86, 87, 88, 89, 90, 91, 92, 93, 94, 95, 96, 97, 98, 99, 100, 101, 102, 103, 104, 105, 106, 107, 108, 109, 110, 111, 112, 117, 118, 119, 120, 121, 122, 123, 124, 125, 126, 127, 128, 129, 130, 131, 132, 133, 134, 135, 136, 137, 138, 139, 140, 141, 142, 143, 144, 145, 146] (by decide +kernel) (by decide +kernel)
set_option maxRecDepth 20000 in
theorem gX1_fakesIn_X1_look : GoodIn wsX1_fakesIn (wsV RX1 136 RX1 yX1_look wsX1_look) := goodIn_app (goodIn_of _ (by decide +kernel)) ggX1_fakesIn_X1_look
set_option maxRecDepth 20000 in
theorem ggX1_fakesIn_X1_fakes : GoodIn wsX1_fakesIn wsX1_fakes := goodIn_r _ [116, 10, 11, 82, 117, 118, 119, 120, 121, 122, 123, 124, 125, 126, 127, 128, 129, 130, 131, 132, 133, 134] (by decide +kernel) (by decide +kernel)
set_option maxRecDepth 20000 in
theorem gX1_fakesIn_X1_fakes : GoodIn wsX1_fakesIn (wsV RX1 139 RX1 yX1_fakes wsX1_fakes) := goodIn_app (goodIn_of _ (by decide +kernel)) ggX1_fakesIn_X1_fakes
theorem dX1_fakesIn_0 : decode cX1_fakesIn 0 = .ok (.aload_n 0, 1) := by decide +kernel
theorem dX1_fakesIn_1 : decode cX1_fakesIn 1 = .ok (.aload_n 1, 1) := by decide +kernel
theorem dX1_fakesIn_2 : decode cX1_fakesIn 2 = .ok (.invokevirtual 136, 3) := by decide +kernel
theorem dX1_fakesIn_5 : decode cX1_fakesIn 5 = .ok (.aload_n 0, 1) := by decide +kernel
theorem dX1_fakesIn_6 : decode cX1_fakesIn 6 = .ok (.aload_n 1, 1) := by decide +kernel
theorem dX1_fakesIn_7 : decode cX1_fakesIn 7 = .ok (.invokevirtual 139, 3) := by decide +kernel
theorem dX1_fakesIn_10 : decode cX1_fakesIn 10 = .ok (.ireturn, 1) := by decide +kernel
theorem dX1_fakes_0 : decode cX1_fakes 0 = .ok (.iconst 0, 1) := by decide +kernel
theorem dX1_fakes_1 : decode cX1_fakes 1 = .ok (.istore_n 2, 1) := by decide +kernel
theorem dX1_fakes_2 : decode cX1_fakes 2 = .ok (.iconst 0, 1) := by decide +kernel
theorem dX1_fakes_3 : decode cX1_fakes 3 = .ok (.istore_n 3, 1) := by decide +kernel
theorem dX1_fakes_4 : decode cX1_fakes 4 = .ok (.iload_n 3, 1) := by decide +kernel
theorem dX1_fakes_5 : decode cX1_fakes 5 = .ok (.aload_n 1, 1) := by decide +kernel
theorem dX1_fakes_6 : decode cX1_fakes 6 = .ok (.getfield 42, 3) := by decide +kernel
theorem dX1_fakes_9 : decode cX1_fakes 9 = .ok (.getfield 48, 3) := by decide +kernel
theorem dX1_fakes_12 : decode cX1_fakes 12 = .ok (.if_icmp .ge 21, 3) := by decide +kernel
theorem dX1_fakes_15 : decode cX1_fakes 15 = .ok (.aload_n 0, 1) := by decide +kernel
theorem dX1_fakes_16 : decode cX1_fakes 16 = .ok (.getfield 20, 3) := by decide +kernel
theorem dX1_fakes_19 : decode cX1_fakes 19 = .ok (.iload_n 3, 1) := by decide +kernel
theorem dX1_fakes_20 : decode cX1_fakes 20 = .ok (.iaload, 1) := by decide +kernel
theorem dX1_fakes_21 : decode cX1_fakes 21 = .ok (.ifCond .eq 6, 3) := by decide +kernel
theorem dX1_fakes_24 : decode cX1_fakes 24 = .ok (.iinc 2 1, 3) := by decide +kernel
theorem dX1_fakes_27 : decode cX1_fakes 27 = .ok (.iinc 3 1, 3) := by decide +kernel
theorem dX1_fakes_30 : decode cX1_fakes 30 = .ok (.goto (-26), 3) := by decide +kernel
theorem dX1_fakes_33 : decode cX1_fakes 33 = .ok (.iload_n 2, 1) := by decide +kernel
theorem dX1_fakes_34 : decode cX1_fakes 34 = .ok (.ireturn, 1) := by decide +kernel
theorem dX1_casts_0 : decode cX1_casts 0 = .ok (.iconst 0, 1) := by decide +kernel
theorem dX1_casts_1 : decode cX1_casts 1 = .ok (.istore_n 2, 1) := by decide +kernel
theorem dX1_casts_2 : decode cX1_casts 2 = .ok (.iconst 0, 1) := by decide +kernel
theorem dX1_casts_3 : decode cX1_casts 3 = .ok (.istore_n 3, 1) := by decide +kernel
theorem dX1_casts_4 : decode cX1_casts 4 = .ok (.iload_n 3, 1) := by decide +kernel
theorem dX1_casts_5 : decode cX1_casts 5 = .ok (.aload_n 1, 1) := by decide +kernel
theorem dX1_casts_6 : decode cX1_casts 6 = .ok (.getfield 42, 3) := by decide +kernel
theorem dX1_casts_9 : decode cX1_casts 9 = .ok (.getfield 48, 3) := by decide +kernel
theorem dX1_casts_12 : decode cX1_casts 12 = .ok (.if_icmp .ge 22, 3) := by decide +kernel
theorem dX1_casts_15 : decode cX1_casts 15 = .ok (.aload_n 0, 1) := by decide +kernel
theorem dX1_casts_16 : decode cX1_casts 16 = .ok (.getfield 20, 3) := by decide +kernel
theorem dX1_casts_19 : decode cX1_casts 19 = .ok (.iload_n 3, 1) := by decide +kernel
theorem dX1_casts_20 : decode cX1_casts 20 = .ok (.iaload, 1) := by decide +kernel
theorem dX1_casts_21 : decode cX1_casts 21 = .ok (.iconst 1, 1) := by decide +kernel
theorem dX1_casts_22 : decode cX1_casts 22 = .ok (.if_icmp .ne 6, 3) := by decide +kernel
theorem dX1_casts_25 : decode cX1_casts 25 = .ok (.iinc 2 1, 3) := by decide +kernel
theorem dX1_casts_28 : decode cX1_casts 28 = .ok (.iinc 3 1, 3) := by decide +kernel
theorem dX1_casts_31 : decode cX1_casts 31 = .ok (.goto (-27), 3) := by decide +kernel
theorem dX1_casts_34 : decode cX1_casts 34 = .ok (.iload_n 2, 1) := by decide +kernel
theorem dX1_casts_35 : decode cX1_casts 35 = .ok (.ireturn, 1) := by decide +kernel
theorem dX1_fakesOfDie_0 : decode cX1_fakesOfDie 0 = .ok (.iconst 0, 1) := by decide +kernel
theorem dX1_fakesOfDie_1 : decode cX1_fakesOfDie 1 = .ok (.istore_n 3, 1) := by decide +kernel
theorem dX1_fakesOfDie_2 : decode cX1_fakesOfDie 2 = .ok (.iconst 0, 1) := by decide +kernel
theorem dX1_fakesOfDie_3 : decode cX1_fakesOfDie 3 = .ok (.istore 4, 2) := by decide +kernel
theorem dX1_fakesOfDie_5 : decode cX1_fakesOfDie 5 = .ok (.iload 4, 2) := by decide +kernel
theorem dX1_fakesOfDie_7 : decode cX1_fakesOfDie 7 = .ok (.aload_n 1, 1) := by decide +kernel
theorem dX1_fakesOfDie_8 : decode cX1_fakesOfDie 8 = .ok (.getfield 42, 3) := by decide +kernel
theorem dX1_fakesOfDie_11 : decode cX1_fakesOfDie 11 = .ok (.getfield 48, 3) := by decide +kernel
theorem dX1_fakesOfDie_14 : decode cX1_fakesOfDie 14 = .ok (.if_icmp .ge 36, 3) := by decide +kernel
theorem dX1_fakesOfDie_17 : decode cX1_fakesOfDie 17 = .ok (.aload_n 1, 1) := by decide +kernel
theorem dX1_fakesOfDie_18 : decode cX1_fakesOfDie 18 = .ok (.getfield 42, 3) := by decide +kernel
theorem dX1_fakesOfDie_21 : decode cX1_fakesOfDie 21 = .ok (.getfield 54, 3) := by decide +kernel
theorem dX1_fakesOfDie_24 : decode cX1_fakesOfDie 24 = .ok (.iload 4, 2) := by decide +kernel
theorem dX1_fakesOfDie_26 : decode cX1_fakesOfDie 26 = .ok (.iaload, 1) := by decide +kernel
theorem dX1_fakesOfDie_27 : decode cX1_fakesOfDie 27 = .ok (.iload_n 2, 1) := by decide +kernel
theorem dX1_fakesOfDie_28 : decode cX1_fakesOfDie 28 = .ok (.if_icmp .ne 16, 3) := by decide +kernel
theorem dX1_fakesOfDie_31 : decode cX1_fakesOfDie 31 = .ok (.aload_n 0, 1) := by decide +kernel
theorem dX1_fakesOfDie_32 : decode cX1_fakesOfDie 32 = .ok (.getfield 20, 3) := by decide +kernel
theorem dX1_fakesOfDie_35 : decode cX1_fakesOfDie 35 = .ok (.iload 4, 2) := by decide +kernel
theorem dX1_fakesOfDie_37 : decode cX1_fakesOfDie 37 = .ok (.iaload, 1) := by decide +kernel
theorem dX1_fakesOfDie_38 : decode cX1_fakesOfDie 38 = .ok (.ifCond .eq 6, 3) := by decide +kernel
theorem dX1_fakesOfDie_41 : decode cX1_fakesOfDie 41 = .ok (.iinc 3 1, 3) := by decide +kernel
theorem dX1_fakesOfDie_44 : decode cX1_fakesOfDie 44 = .ok (.iinc 4 1, 3) := by decide +kernel
theorem dX1_fakesOfDie_47 : decode cX1_fakesOfDie 47 = .ok (.goto (-42), 3) := by decide +kernel
theorem dX1_fakesOfDie_50 : decode cX1_fakesOfDie 50 = .ok (.iload_n 3, 1) := by decide +kernel
theorem dX1_fakesOfDie_51 : decode cX1_fakesOfDie 51 = .ok (.ireturn, 1) := by decide +kernel
theorem dX1_fakesOfCharter_0 : decode cX1_fakesOfCharter 0 = .ok (.iconst 0, 1) := by decide +kernel
theorem dX1_fakesOfCharter_1 : decode cX1_fakesOfCharter 1 = .ok (.istore_n 3, 1) := by decide +kernel
theorem dX1_fakesOfCharter_2 : decode cX1_fakesOfCharter 2 = .ok (.iconst 0, 1) := by decide +kernel
theorem dX1_fakesOfCharter_3 : decode cX1_fakesOfCharter 3 = .ok (.istore 4, 2) := by decide +kernel
theorem dX1_fakesOfCharter_5 : decode cX1_fakesOfCharter 5 = .ok (.iload 4, 2) := by decide +kernel
theorem dX1_fakesOfCharter_7 : decode cX1_fakesOfCharter 7 = .ok (.aload_n 1, 1) := by decide +kernel
theorem dX1_fakesOfCharter_8 : decode cX1_fakesOfCharter 8 = .ok (.getfield 42, 3) := by decide +kernel
theorem dX1_fakesOfCharter_11 : decode cX1_fakesOfCharter 11 = .ok (.getfield 48, 3) := by decide +kernel
theorem dX1_fakesOfCharter_14 : decode cX1_fakesOfCharter 14 = .ok (.if_icmp .ge 36, 3) := by decide +kernel
theorem dX1_fakesOfCharter_17 : decode cX1_fakesOfCharter 17 = .ok (.aload_n 1, 1) := by decide +kernel
theorem dX1_fakesOfCharter_18 : decode cX1_fakesOfCharter 18 = .ok (.getfield 42, 3) := by decide +kernel
theorem dX1_fakesOfCharter_21 : decode cX1_fakesOfCharter 21 = .ok (.getfield 121, 3) := by decide +kernel
theorem dX1_fakesOfCharter_24 : decode cX1_fakesOfCharter 24 = .ok (.iload 4, 2) := by decide +kernel
theorem dX1_fakesOfCharter_26 : decode cX1_fakesOfCharter 26 = .ok (.iaload, 1) := by decide +kernel
theorem dX1_fakesOfCharter_27 : decode cX1_fakesOfCharter 27 = .ok (.iload_n 2, 1) := by decide +kernel
theorem dX1_fakesOfCharter_28 : decode cX1_fakesOfCharter 28 = .ok (.if_icmp .ne 16, 3) := by decide +kernel
theorem dX1_fakesOfCharter_31 : decode cX1_fakesOfCharter 31 = .ok (.aload_n 0, 1) := by decide +kernel
theorem dX1_fakesOfCharter_32 : decode cX1_fakesOfCharter 32 = .ok (.getfield 20, 3) := by decide +kernel
theorem dX1_fakesOfCharter_35 : decode cX1_fakesOfCharter 35 = .ok (.iload 4, 2) := by decide +kernel
theorem dX1_fakesOfCharter_37 : decode cX1_fakesOfCharter 37 = .ok (.iaload, 1) := by decide +kernel
theorem dX1_fakesOfCharter_38 : decode cX1_fakesOfCharter 38 = .ok (.ifCond .eq 6, 3) := by decide +kernel
theorem dX1_fakesOfCharter_41 : decode cX1_fakesOfCharter 41 = .ok (.iinc 3 1, 3) := by decide +kernel
theorem dX1_fakesOfCharter_44 : decode cX1_fakesOfCharter 44 = .ok (.iinc 4 1, 3) := by decide +kernel
theorem dX1_fakesOfCharter_47 : decode cX1_fakesOfCharter 47 = .ok (.goto (-42), 3) := by decide +kernel
theorem dX1_fakesOfCharter_50 : decode cX1_fakesOfCharter 50 = .ok (.iload_n 3, 1) := by decide +kernel
theorem dX1_fakesOfCharter_51 : decode cX1_fakesOfCharter 51 = .ok (.ireturn, 1) := by decide +kernel
set_option maxRecDepth 20000 in
theorem ggX1_chartersWithFakes_X1_fakesOfCharter : GoodIn wsX1_chartersWithFakes wsX1_fakesOfCharter := goodIn_r _ [5, 6, 7, 8, 9, 10, 11, 12, 13, 14, 15, 16, 17, 18, 19, 20, 21, 22, 23, 24, 25, 26, 27] (by decide +kernel) (by decide +kernel)
set_option maxRecDepth 20000 in
theorem gX1_chartersWithFakes_X1_fakesOfCharter : GoodIn wsX1_chartersWithFakes (wsV RX1 143 RX1 yX1_fakesOfCharter wsX1_fakesOfCharter) := goodIn_app (goodIn_of _ (by decide +kernel)) ggX1_chartersWithFakes_X1_fakesOfCharter
theorem dX1_chartersWithFakes_0 : decode cX1_chartersWithFakes 0 = .ok (.iconst 0, 1) := by decide +kernel
theorem dX1_chartersWithFakes_1 : decode cX1_chartersWithFakes 1 = .ok (.istore_n 2, 1) := by decide +kernel
theorem dX1_chartersWithFakes_2 : decode cX1_chartersWithFakes 2 = .ok (.iconst 0, 1) := by decide +kernel
theorem dX1_chartersWithFakes_3 : decode cX1_chartersWithFakes 3 = .ok (.istore_n 3, 1) := by decide +kernel
theorem dX1_chartersWithFakes_4 : decode cX1_chartersWithFakes 4 = .ok (.iload_n 3, 1) := by decide +kernel
theorem dX1_chartersWithFakes_5 : decode cX1_chartersWithFakes 5 = .ok (.bipush 6, 2) := by decide +kernel
theorem dX1_chartersWithFakes_7 : decode cX1_chartersWithFakes 7 = .ok (.if_icmp .ge 21, 3) := by decide +kernel
theorem dX1_chartersWithFakes_10 : decode cX1_chartersWithFakes 10 = .ok (.aload_n 0, 1) := by decide +kernel
theorem dX1_chartersWithFakes_11 : decode cX1_chartersWithFakes 11 = .ok (.aload_n 1, 1) := by decide +kernel
theorem dX1_chartersWithFakes_12 : decode cX1_chartersWithFakes 12 = .ok (.iload_n 3, 1) := by decide +kernel
theorem dX1_chartersWithFakes_13 : decode cX1_chartersWithFakes 13 = .ok (.invokevirtual 143, 3) := by decide +kernel
theorem dX1_chartersWithFakes_16 : decode cX1_chartersWithFakes 16 = .ok (.ifCond .le 6, 3) := by decide +kernel
theorem dX1_chartersWithFakes_19 : decode cX1_chartersWithFakes 19 = .ok (.iinc 2 1, 3) := by decide +kernel
theorem dX1_chartersWithFakes_22 : decode cX1_chartersWithFakes 22 = .ok (.iinc 3 1, 3) := by decide +kernel
theorem dX1_chartersWithFakes_25 : decode cX1_chartersWithFakes 25 = .ok (.goto (-21), 3) := by decide +kernel
theorem dX1_chartersWithFakes_28 : decode cX1_chartersWithFakes 28 = .ok (.iload_n 2, 1) := by decide +kernel
theorem dX1_chartersWithFakes_29 : decode cX1_chartersWithFakes 29 = .ok (.ireturn, 1) := by decide +kernel
set_option maxRecDepth 20000 in
theorem ggX1_genuineIn_X8_contains : GoodIn wsX1_genuineIn wsX8_contains := goodIn_r _ [10, 11, 12, 13, 14, 15, 16, 17, 18, 19, 20, 21, 22, 9, 23, 24, 43, 44, 45, 46, 47, 48] (by decide +kernel) (by decide +kernel)
set_option maxRecDepth 20000 in
theorem gX1_genuineIn_X8_contains : GoodIn wsX1_genuineIn (wsV RX1 146 RX8 yX8_contains wsX8_contains) := goodIn_app (goodIn_of _ (by decide +kernel)) ggX1_genuineIn_X8_contains
theorem dX1_genuineIn_0 : decode cX1_genuineIn 0 = .ok (.iconst 0, 1) := by decide +kernel
theorem dX1_genuineIn_1 : decode cX1_genuineIn 1 = .ok (.istore_n 3, 1) := by decide +kernel
theorem dX1_genuineIn_2 : decode cX1_genuineIn 2 = .ok (.iconst 0, 1) := by decide +kernel
theorem dX1_genuineIn_3 : decode cX1_genuineIn 3 = .ok (.istore 4, 2) := by decide +kernel
theorem dX1_genuineIn_5 : decode cX1_genuineIn 5 = .ok (.iload 4, 2) := by decide +kernel
theorem dX1_genuineIn_7 : decode cX1_genuineIn 7 = .ok (.aload_n 1, 1) := by decide +kernel
theorem dX1_genuineIn_8 : decode cX1_genuineIn 8 = .ok (.getfield 42, 3) := by decide +kernel
theorem dX1_genuineIn_11 : decode cX1_genuineIn 11 = .ok (.getfield 48, 3) := by decide +kernel
theorem dX1_genuineIn_14 : decode cX1_genuineIn 14 = .ok (.if_icmp .ge 40, 3) := by decide +kernel
theorem dX1_genuineIn_17 : decode cX1_genuineIn 17 = .ok (.aload_n 0, 1) := by decide +kernel
theorem dX1_genuineIn_18 : decode cX1_genuineIn 18 = .ok (.getfield 20, 3) := by decide +kernel
theorem dX1_genuineIn_21 : decode cX1_genuineIn 21 = .ok (.iload 4, 2) := by decide +kernel
theorem dX1_genuineIn_23 : decode cX1_genuineIn 23 = .ok (.iaload, 1) := by decide +kernel
theorem dX1_genuineIn_24 : decode cX1_genuineIn 24 = .ok (.ifCond .ne 24, 3) := by decide +kernel
theorem dX1_genuineIn_27 : decode cX1_genuineIn 27 = .ok (.aload_n 0, 1) := by decide +kernel
theorem dX1_genuineIn_28 : decode cX1_genuineIn 28 = .ok (.getfield 11, 3) := by decide +kernel
theorem dX1_genuineIn_31 : decode cX1_genuineIn 31 = .ok (.iload 4, 2) := by decide +kernel
theorem dX1_genuineIn_33 : decode cX1_genuineIn 33 = .ok (.aaload, 1) := by decide +kernel
theorem dX1_genuineIn_34 : decode cX1_genuineIn 34 = .ok (.aload_n 1, 1) := by decide +kernel
theorem dX1_genuineIn_35 : decode cX1_genuineIn 35 = .ok (.getfield 73, 3) := by decide +kernel
theorem dX1_genuineIn_38 : decode cX1_genuineIn 38 = .ok (.iload_n 2, 1) := by decide +kernel
theorem dX1_genuineIn_39 : decode cX1_genuineIn 39 = .ok (.invokevirtual 146, 3) := by decide +kernel
theorem dX1_genuineIn_42 : decode cX1_genuineIn 42 = .ok (.ifCond .eq 6, 3) := by decide +kernel
theorem dX1_genuineIn_45 : decode cX1_genuineIn 45 = .ok (.iinc 3 1, 3) := by decide +kernel
theorem dX1_genuineIn_48 : decode cX1_genuineIn 48 = .ok (.iinc 4 1, 3) := by decide +kernel
theorem dX1_genuineIn_51 : decode cX1_genuineIn 51 = .ok (.goto (-46), 3) := by decide +kernel
theorem dX1_genuineIn_54 : decode cX1_genuineIn 54 = .ok (.iload_n 3, 1) := by decide +kernel
theorem dX1_genuineIn_55 : decode cX1_genuineIn 55 = .ok (.ireturn, 1) := by decide +kernel
set_option maxRecDepth 20000 in
theorem ggX1_badShelves_X1_isGood : GoodIn wsX1_badShelves wsX1_isGood := goodIn_r _ [5, 6, 7, 8, 9, 10, 11, 12, 13, 14, 15, 16, 17, 18, 19, 20, 21, 22, 23, 24, 25, 26, 27, 28] (by decide +kernel) (by decide +kernel)
set_option maxRecDepth 20000 in
theorem gX1_badShelves_X1_isGood : GoodIn wsX1_badShelves (wsV RX1 150 RX1 yX1_isGood wsX1_isGood) := goodIn_app (goodIn_of _ (by decide +kernel)) ggX1_badShelves_X1_isGood
theorem dX1_badShelves_0 : decode cX1_badShelves 0 = .ok (.iconst 0, 1) := by decide +kernel
theorem dX1_badShelves_1 : decode cX1_badShelves 1 = .ok (.istore_n 2, 1) := by decide +kernel
theorem dX1_badShelves_2 : decode cX1_badShelves 2 = .ok (.iconst 0, 1) := by decide +kernel
theorem dX1_badShelves_3 : decode cX1_badShelves 3 = .ok (.istore_n 3, 1) := by decide +kernel
theorem dX1_badShelves_4 : decode cX1_badShelves 4 = .ok (.iload_n 3, 1) := by decide +kernel
theorem dX1_badShelves_5 : decode cX1_badShelves 5 = .ok (.bipush 6, 2) := by decide +kernel
theorem dX1_badShelves_7 : decode cX1_badShelves 7 = .ok (.if_icmp .ge 21, 3) := by decide +kernel
theorem dX1_badShelves_10 : decode cX1_badShelves 10 = .ok (.aload_n 0, 1) := by decide +kernel
theorem dX1_badShelves_11 : decode cX1_badShelves 11 = .ok (.aload_n 1, 1) := by decide +kernel
theorem dX1_badShelves_12 : decode cX1_badShelves 12 = .ok (.iload_n 3, 1) := by decide +kernel
theorem dX1_badShelves_13 : decode cX1_badShelves 13 = .ok (.invokevirtual 150, 3) := by decide +kernel
theorem dX1_badShelves_16 : decode cX1_badShelves 16 = .ok (.ifCond .ne 6, 3) := by decide +kernel
theorem dX1_badShelves_19 : decode cX1_badShelves 19 = .ok (.iinc 2 1, 3) := by decide +kernel
theorem dX1_badShelves_22 : decode cX1_badShelves 22 = .ok (.iinc 3 1, 3) := by decide +kernel
theorem dX1_badShelves_25 : decode cX1_badShelves 25 = .ok (.goto (-21), 3) := by decide +kernel
theorem dX1_badShelves_28 : decode cX1_badShelves 28 = .ok (.iload_n 2, 1) := by decide +kernel
theorem dX1_badShelves_29 : decode cX1_badShelves 29 = .ok (.ireturn, 1) := by decide +kernel
set_option maxRecDepth 20000 in
theorem ggX1_isGood_X5_at : GoodIn wsX1_isGood wsX5_at := goodIn_r _ [9, 10, 16, 17] (by decide +kernel) (by decide +kernel)
set_option maxRecDepth 20000 in
theorem gX1_isGood_X5_at : GoodIn wsX1_isGood (wsV RX1 162 RX5 yX5_at wsX5_at) := goodIn_app (goodIn_of _ (by decide +kernel)) ggX1_isGood_X5_at
theorem dX1_isGood_0 : decode cX1_isGood 0 = .ok (.sipush 1000, 3) := by decide +kernel
theorem dX1_isGood_3 : decode cX1_isGood 3 = .ok (.istore_n 3, 1) := by decide +kernel
theorem dX1_isGood_4 : decode cX1_isGood 4 = .ok (.iconst 0, 1) := by decide +kernel
theorem dX1_isGood_5 : decode cX1_isGood 5 = .ok (.istore 4, 2) := by decide +kernel
theorem dX1_isGood_7 : decode cX1_isGood 7 = .ok (.iload 4, 2) := by decide +kernel
theorem dX1_isGood_9 : decode cX1_isGood 9 = .ok (.aload_n 1, 1) := by decide +kernel
theorem dX1_isGood_10 : decode cX1_isGood 10 = .ok (.getfield 154, 3) := by decide +kernel
theorem dX1_isGood_13 : decode cX1_isGood 13 = .ok (.getfield 158, 3) := by decide +kernel
theorem dX1_isGood_16 : decode cX1_isGood 16 = .ok (.iload_n 2, 1) := by decide +kernel
theorem dX1_isGood_17 : decode cX1_isGood 17 = .ok (.iaload, 1) := by decide +kernel
theorem dX1_isGood_18 : decode cX1_isGood 18 = .ok (.if_icmp .ge 62, 3) := by decide +kernel
theorem dX1_isGood_21 : decode cX1_isGood 21 = .ok (.aload_n 1, 1) := by decide +kernel
theorem dX1_isGood_22 : decode cX1_isGood 22 = .ok (.getfield 154, 3) := by decide +kernel
theorem dX1_isGood_25 : decode cX1_isGood 25 = .ok (.iload_n 2, 1) := by decide +kernel
theorem dX1_isGood_26 : decode cX1_isGood 26 = .ok (.iload 4, 2) := by decide +kernel
theorem dX1_isGood_28 : decode cX1_isGood 28 = .ok (.invokevirtual 162, 3) := by decide +kernel
theorem dX1_isGood_31 : decode cX1_isGood 31 = .ok (.istore 5, 2) := by decide +kernel
theorem dX1_isGood_33 : decode cX1_isGood 33 = .ok (.aload_n 0, 1) := by decide +kernel
theorem dX1_isGood_34 : decode cX1_isGood 34 = .ok (.getfield 20, 3) := by decide +kernel
theorem dX1_isGood_37 : decode cX1_isGood 37 = .ok (.iload 5, 2) := by decide +kernel
theorem dX1_isGood_39 : decode cX1_isGood 39 = .ok (.iaload, 1) := by decide +kernel
theorem dX1_isGood_40 : decode cX1_isGood 40 = .ok (.ifCond .ne 16, 3) := by decide +kernel
theorem dX1_isGood_43 : decode cX1_isGood 43 = .ok (.aload_n 0, 1) := by decide +kernel
theorem dX1_isGood_44 : decode cX1_isGood 44 = .ok (.getfield 24, 3) := by decide +kernel
theorem dX1_isGood_47 : decode cX1_isGood 47 = .ok (.iload 5, 2) := by decide +kernel
theorem dX1_isGood_49 : decode cX1_isGood 49 = .ok (.iaload, 1) := by decide +kernel
theorem dX1_isGood_50 : decode cX1_isGood 50 = .ok (.iload_n 3, 1) := by decide +kernel
theorem dX1_isGood_51 : decode cX1_isGood 51 = .ok (.if_icmp .ge 5, 3) := by decide +kernel
theorem dX1_isGood_54 : decode cX1_isGood 54 = .ok (.iconst 0, 1) := by decide +kernel
theorem dX1_isGood_55 : decode cX1_isGood 55 = .ok (.ireturn, 1) := by decide +kernel
theorem dX1_isGood_56 : decode cX1_isGood 56 = .ok (.aload_n 0, 1) := by decide +kernel
theorem dX1_isGood_57 : decode cX1_isGood 57 = .ok (.getfield 20, 3) := by decide +kernel
theorem dX1_isGood_60 : decode cX1_isGood 60 = .ok (.iload 5, 2) := by decide +kernel
theorem dX1_isGood_62 : decode cX1_isGood 62 = .ok (.iaload, 1) := by decide +kernel
theorem dX1_isGood_63 : decode cX1_isGood 63 = .ok (.ifCond .ne 11, 3) := by decide +kernel
theorem dX1_isGood_66 : decode cX1_isGood 66 = .ok (.aload_n 0, 1) := by decide +kernel
theorem dX1_isGood_67 : decode cX1_isGood 67 = .ok (.getfield 24, 3) := by decide +kernel
theorem dX1_isGood_70 : decode cX1_isGood 70 = .ok (.iload 5, 2) := by decide +kernel
theorem dX1_isGood_72 : decode cX1_isGood 72 = .ok (.iaload, 1) := by decide +kernel
theorem dX1_isGood_73 : decode cX1_isGood 73 = .ok (.istore_n 3, 1) := by decide +kernel
theorem dX1_isGood_74 : decode cX1_isGood 74 = .ok (.iinc 4 1, 3) := by decide +kernel
theorem dX1_isGood_77 : decode cX1_isGood 77 = .ok (.goto (-70), 3) := by decide +kernel
theorem dX1_isGood_80 : decode cX1_isGood 80 = .ok (.iconst 1, 1) := by decide +kernel
theorem dX1_isGood_81 : decode cX1_isGood 81 = .ok (.ireturn, 1) := by decide +kernel
set_option maxRecDepth 20000 in
theorem ggX1_sortShelf_X9_isShelf : GoodIn wsX1_sortShelf wsX9_isShelf := goodIn_r _ [11] (by decide +kernel) (by decide +kernel)
set_option maxRecDepth 20000 in
theorem gX1_sortShelf_X9_isShelf_n165 : GoodIn wsX1_sortShelf (wsX9_isShelf) := ggX1_sortShelf_X9_isShelf
set_option maxRecDepth 20000 in
theorem ggX1_sortShelf_X1_look : GoodIn wsX1_sortShelf wsX1_look := goodIn_r _ [16, 17, 18, 19, 15, 20, 21, 22, 23, 24, 25, 26, 27, 28, 29, 30, 31, 32, 33, 34, 35, 36, 37, 38, 39, 40, 41, 42, 43, 44, 45, 46, 47, 48, 49, 50, 51, 52, 53, 54, 55, 56, 57, 58, 59, 60, 61, 62, 63, 64, 65, 66, 67, 68, 69, 70, 71, 72, 73, 74, 75, 76, 77, 78, 79, 80, 81, 82, 83, 84, 85, 86, 87, 88, 89, 90, 91, 92, 93, 94, 95, 96, 97, 98, 99, 100, 101, 102, 103, 104, 105, 106, 107, 108, 109, 110, 111, 112, 113, 114, 115, 116, 117, 118, 119, 120, 121, 122, 123, 142, 143, 144, 145, 146, 155, 156, 157, 158, 159, 160, 161, 149, 150, 151, 152, 153, 154, 162, 163, 164, 165, 166, 167, 168, 169, 170, 171, 172, 173] (by decide +kernel) (by decide +kernel)
set_option maxRecDepth 20000 in
theorem gX1_sortShelf_X1_look : GoodIn wsX1_sortShelf (wsV RX1 136 RX1 yX1_look wsX1_look) := goodIn_app (goodIn_of _ (by decide +kernel)) ggX1_sortShelf_X1_look
set_option maxRecDepth 20000 in
theorem ggX1_sortShelf_X1_sinkIn : GoodIn wsX1_sortShelf wsX1_sinkIn := goodIn_r _ [127, 1, 128, 129, 130, 131, 132, 133, 134, 135, 136, 15, 137, 93, 29, 138, 139, 140, 141, 142, 143, 144, 145, 146, 147, 148, 149, 150, 151, 152, 153, 154] (by decide +kernel) (by decide +kernel)
set_option maxRecDepth 20000 in
theorem gX1_sortShelf_X1_sinkIn : GoodIn wsX1_sortShelf (wsV RX1 177 RX1 yX1_sinkIn wsX1_sinkIn) := goodIn_app (goodIn_of _ (by decide +kernel)) ggX1_sortShelf_X1_sinkIn
set_option maxRecDepth 20000 in
theorem ggX1_sortShelf_X5_at : GoodIn wsX1_sortShelf wsX5_at := goodIn_r _ [132, 133, 147, 148] (by decide +kernel) (by decide +kernel)
set_option maxRecDepth 20000 in
theorem gX1_sortShelf_X5_at : GoodIn wsX1_sortShelf (wsV RX1 162 RX5 yX5_at wsX5_at) := goodIn_app (goodIn_of _ (by decide +kernel)) ggX1_sortShelf_X5_at
theorem dX1_sortShelf_0 : decode cX1_sortShelf 0 = .ok (.iload_n 2, 1) := by decide +kernel
theorem dX1_sortShelf_1 : decode cX1_sortShelf 1 = .ok (.invokestatic 165, 3) := by decide +kernel
theorem dX1_sortShelf_4 : decode cX1_sortShelf 4 = .ok (.ifCond .ne 6, 3) := by decide +kernel
theorem dX1_sortShelf_7 : decode cX1_sortShelf 7 = .ok (.bipush (-2), 2) := by decide +kernel
theorem dX1_sortShelf_9 : decode cX1_sortShelf 9 = .ok (.ireturn, 1) := by decide +kernel
theorem dX1_sortShelf_10 : decode cX1_sortShelf 10 = .ok (.aload_n 0, 1) := by decide +kernel
theorem dX1_sortShelf_11 : decode cX1_sortShelf 11 = .ok (.aload_n 1, 1) := by decide +kernel
theorem dX1_sortShelf_12 : decode cX1_sortShelf 12 = .ok (.invokevirtual 136, 3) := by decide +kernel
theorem dX1_sortShelf_15 : decode cX1_sortShelf 15 = .ok (.iconst 0, 1) := by decide +kernel
theorem dX1_sortShelf_16 : decode cX1_sortShelf 16 = .ok (.istore_n 3, 1) := by decide +kernel
theorem dX1_sortShelf_17 : decode cX1_sortShelf 17 = .ok (.aload_n 1, 1) := by decide +kernel
theorem dX1_sortShelf_18 : decode cX1_sortShelf 18 = .ok (.getfield 154, 3) := by decide +kernel
theorem dX1_sortShelf_21 : decode cX1_sortShelf 21 = .ok (.getfield 169, 3) := by decide +kernel
theorem dX1_sortShelf_24 : decode cX1_sortShelf 24 = .ok (.iconst 0, 1) := by decide +kernel
theorem dX1_sortShelf_25 : decode cX1_sortShelf 25 = .ok (.aload_n 0, 1) := by decide +kernel
theorem dX1_sortShelf_26 : decode cX1_sortShelf 26 = .ok (.getfield 27, 3) := by decide +kernel
theorem dX1_sortShelf_29 : decode cX1_sortShelf 29 = .ok (.iconst 0, 1) := by decide +kernel
theorem dX1_sortShelf_30 : decode cX1_sortShelf 30 = .ok (.bipush 36, 2) := by decide +kernel
theorem dX1_sortShelf_32 : decode cX1_sortShelf 32 = .ok (.invokestatic 171, 3) := by decide +kernel
theorem dX1_sortShelf_35 : decode cX1_sortShelf 35 = .ok (.iconst 1, 1) := by decide +kernel
theorem dX1_sortShelf_36 : decode cX1_sortShelf 36 = .ok (.istore 4, 2) := by decide +kernel
theorem dX1_sortShelf_38 : decode cX1_sortShelf 38 = .ok (.iload 4, 2) := by decide +kernel
theorem dX1_sortShelf_40 : decode cX1_sortShelf 40 = .ok (.aload_n 1, 1) := by decide +kernel
theorem dX1_sortShelf_41 : decode cX1_sortShelf 41 = .ok (.getfield 154, 3) := by decide +kernel
theorem dX1_sortShelf_44 : decode cX1_sortShelf 44 = .ok (.getfield 158, 3) := by decide +kernel
theorem dX1_sortShelf_47 : decode cX1_sortShelf 47 = .ok (.iload_n 2, 1) := by decide +kernel
theorem dX1_sortShelf_48 : decode cX1_sortShelf 48 = .ok (.iaload, 1) := by decide +kernel
theorem dX1_sortShelf_49 : decode cX1_sortShelf 49 = .ok (.if_icmp .ge 17, 3) := by decide +kernel
theorem dX1_sortShelf_52 : decode cX1_sortShelf 52 = .ok (.aload_n 0, 1) := by decide +kernel
theorem dX1_sortShelf_53 : decode cX1_sortShelf 53 = .ok (.aload_n 1, 1) := by decide +kernel
theorem dX1_sortShelf_54 : decode cX1_sortShelf 54 = .ok (.iload_n 2, 1) := by decide +kernel
theorem dX1_sortShelf_55 : decode cX1_sortShelf 55 = .ok (.iload 4, 2) := by decide +kernel
theorem dX1_sortShelf_57 : decode cX1_sortShelf 57 = .ok (.invokevirtual 177, 3) := by decide +kernel
theorem dX1_sortShelf_60 : decode cX1_sortShelf 60 = .ok (.iinc 4 1, 3) := by decide +kernel
theorem dX1_sortShelf_63 : decode cX1_sortShelf 63 = .ok (.goto (-25), 3) := by decide +kernel
theorem dX1_sortShelf_66 : decode cX1_sortShelf 66 = .ok (.iconst 0, 1) := by decide +kernel
theorem dX1_sortShelf_67 : decode cX1_sortShelf 67 = .ok (.istore 4, 2) := by decide +kernel
theorem dX1_sortShelf_69 : decode cX1_sortShelf 69 = .ok (.iload 4, 2) := by decide +kernel
theorem dX1_sortShelf_71 : decode cX1_sortShelf 71 = .ok (.aload_n 1, 1) := by decide +kernel
theorem dX1_sortShelf_72 : decode cX1_sortShelf 72 = .ok (.getfield 154, 3) := by decide +kernel
theorem dX1_sortShelf_75 : decode cX1_sortShelf 75 = .ok (.getfield 158, 3) := by decide +kernel
theorem dX1_sortShelf_78 : decode cX1_sortShelf 78 = .ok (.iload_n 2, 1) := by decide +kernel
theorem dX1_sortShelf_79 : decode cX1_sortShelf 79 = .ok (.iaload, 1) := by decide +kernel
theorem dX1_sortShelf_80 : decode cX1_sortShelf 80 = .ok (.if_icmp .ge 37, 3) := by decide +kernel
theorem dX1_sortShelf_83 : decode cX1_sortShelf 83 = .ok (.aload_n 0, 1) := by decide +kernel
theorem dX1_sortShelf_84 : decode cX1_sortShelf 84 = .ok (.getfield 27, 3) := by decide +kernel
theorem dX1_sortShelf_87 : decode cX1_sortShelf 87 = .ok (.iload_n 2, 1) := by decide +kernel
theorem dX1_sortShelf_88 : decode cX1_sortShelf 88 = .ok (.bipush 6, 2) := by decide +kernel
theorem dX1_sortShelf_90 : decode cX1_sortShelf 90 = .ok (.imul, 1) := by decide +kernel
theorem dX1_sortShelf_91 : decode cX1_sortShelf 91 = .ok (.iload 4, 2) := by decide +kernel
theorem dX1_sortShelf_93 : decode cX1_sortShelf 93 = .ok (.iadd, 1) := by decide +kernel
theorem dX1_sortShelf_94 : decode cX1_sortShelf 94 = .ok (.iaload, 1) := by decide +kernel
theorem dX1_sortShelf_95 : decode cX1_sortShelf 95 = .ok (.aload_n 1, 1) := by decide +kernel
theorem dX1_sortShelf_96 : decode cX1_sortShelf 96 = .ok (.getfield 154, 3) := by decide +kernel
theorem dX1_sortShelf_99 : decode cX1_sortShelf 99 = .ok (.iload_n 2, 1) := by decide +kernel
theorem dX1_sortShelf_100 : decode cX1_sortShelf 100 = .ok (.iload 4, 2) := by decide +kernel
theorem dX1_sortShelf_102 : decode cX1_sortShelf 102 = .ok (.invokevirtual 162, 3) := by decide +kernel
theorem dX1_sortShelf_105 : decode cX1_sortShelf 105 = .ok (.if_icmp .eq 6, 3) := by decide +kernel
theorem dX1_sortShelf_108 : decode cX1_sortShelf 108 = .ok (.iinc 3 1, 3) := by decide +kernel
theorem dX1_sortShelf_111 : decode cX1_sortShelf 111 = .ok (.iinc 4 1, 3) := by decide +kernel
theorem dX1_sortShelf_114 : decode cX1_sortShelf 114 = .ok (.goto (-45), 3) := by decide +kernel
theorem dX1_sortShelf_117 : decode cX1_sortShelf 117 = .ok (.iload_n 3, 1) := by decide +kernel
theorem dX1_sortShelf_118 : decode cX1_sortShelf 118 = .ok (.ireturn, 1) := by decide +kernel
set_option maxRecDepth 20000 in
theorem ggX1_sinkIn_X5_at : GoodIn wsX1_sinkIn wsX5_at := goodIn_r _ [6, 7, 24, 25] (by decide +kernel) (by decide +kernel)
set_option maxRecDepth 20000 in
theorem gX1_sinkIn_X5_at : GoodIn wsX1_sinkIn (wsV RX1 162 RX5 yX5_at wsX5_at) := goodIn_app (goodIn_of _ (by decide +kernel)) ggX1_sinkIn_X5_at
set_option maxRecDepth 20000 in
theorem ggX1_sinkIn_X1_rankOf : GoodIn wsX1_sinkIn wsX1_rankOf := goodIn_r _ [12, 13, 14, 26, 27, 28, 29, 30, 31] (by decide +kernel) (by decide +kernel)
set_option maxRecDepth 20000 in
theorem gX1_sinkIn_X1_rankOf : GoodIn wsX1_sinkIn (wsV RX1 180 RX1 yX1_rankOf wsX1_rankOf) := goodIn_app (goodIn_of _ (by decide +kernel)) ggX1_sinkIn_X1_rankOf
set_option maxRecDepth 20000 in
theorem ggX1_sinkIn_X5_put : GoodIn wsX1_sinkIn wsX5_put := goodIn_r _ [18, 7, 24, 25] (by decide +kernel) (by decide +kernel)
set_option maxRecDepth 20000 in
theorem gX1_sinkIn_X5_put : GoodIn wsX1_sinkIn (wsV RX1 183 RX5 yX5_put wsX5_put) := goodIn_app (goodIn_of _ (by decide +kernel)) ggX1_sinkIn_X5_put
theorem dX1_sinkIn_0 : decode cX1_sinkIn 0 = .ok (.aload_n 1, 1) := by decide +kernel
theorem dX1_sinkIn_1 : decode cX1_sinkIn 1 = .ok (.getfield 154, 3) := by decide +kernel
theorem dX1_sinkIn_4 : decode cX1_sinkIn 4 = .ok (.iload_n 2, 1) := by decide +kernel
theorem dX1_sinkIn_5 : decode cX1_sinkIn 5 = .ok (.iload_n 3, 1) := by decide +kernel
theorem dX1_sinkIn_6 : decode cX1_sinkIn 6 = .ok (.invokevirtual 162, 3) := by decide +kernel
theorem dX1_sinkIn_9 : decode cX1_sinkIn 9 = .ok (.istore 4, 2) := by decide +kernel
theorem dX1_sinkIn_11 : decode cX1_sinkIn 11 = .ok (.iload_n 3, 1) := by decide +kernel
theorem dX1_sinkIn_12 : decode cX1_sinkIn 12 = .ok (.istore 5, 2) := by decide +kernel
theorem dX1_sinkIn_14 : decode cX1_sinkIn 14 = .ok (.iload 5, 2) := by decide +kernel
theorem dX1_sinkIn_16 : decode cX1_sinkIn 16 = .ok (.ifCond .le 56, 3) := by decide +kernel
theorem dX1_sinkIn_19 : decode cX1_sinkIn 19 = .ok (.aload_n 0, 1) := by decide +kernel
theorem dX1_sinkIn_20 : decode cX1_sinkIn 20 = .ok (.aload_n 1, 1) := by decide +kernel
theorem dX1_sinkIn_21 : decode cX1_sinkIn 21 = .ok (.getfield 154, 3) := by decide +kernel
theorem dX1_sinkIn_24 : decode cX1_sinkIn 24 = .ok (.iload_n 2, 1) := by decide +kernel
theorem dX1_sinkIn_25 : decode cX1_sinkIn 25 = .ok (.iload 5, 2) := by decide +kernel
theorem dX1_sinkIn_27 : decode cX1_sinkIn 27 = .ok (.iconst 1, 1) := by decide +kernel
theorem dX1_sinkIn_28 : decode cX1_sinkIn 28 = .ok (.isub, 1) := by decide +kernel
theorem dX1_sinkIn_29 : decode cX1_sinkIn 29 = .ok (.invokevirtual 162, 3) := by decide +kernel
theorem dX1_sinkIn_32 : decode cX1_sinkIn 32 = .ok (.invokevirtual 180, 3) := by decide +kernel
theorem dX1_sinkIn_35 : decode cX1_sinkIn 35 = .ok (.aload_n 0, 1) := by decide +kernel
theorem dX1_sinkIn_36 : decode cX1_sinkIn 36 = .ok (.iload 4, 2) := by decide +kernel
theorem dX1_sinkIn_38 : decode cX1_sinkIn 38 = .ok (.invokevirtual 180, 3) := by decide +kernel
theorem dX1_sinkIn_41 : decode cX1_sinkIn 41 = .ok (.if_icmp .le 31, 3) := by decide +kernel
theorem dX1_sinkIn_44 : decode cX1_sinkIn 44 = .ok (.aload_n 1, 1) := by decide +kernel
theorem dX1_sinkIn_45 : decode cX1_sinkIn 45 = .ok (.getfield 154, 3) := by decide +kernel
theorem dX1_sinkIn_48 : decode cX1_sinkIn 48 = .ok (.iload_n 2, 1) := by decide +kernel
theorem dX1_sinkIn_49 : decode cX1_sinkIn 49 = .ok (.iload 5, 2) := by decide +kernel
theorem dX1_sinkIn_51 : decode cX1_sinkIn 51 = .ok (.aload_n 1, 1) := by decide +kernel
theorem dX1_sinkIn_52 : decode cX1_sinkIn 52 = .ok (.getfield 154, 3) := by decide +kernel
theorem dX1_sinkIn_55 : decode cX1_sinkIn 55 = .ok (.iload_n 2, 1) := by decide +kernel
theorem dX1_sinkIn_56 : decode cX1_sinkIn 56 = .ok (.iload 5, 2) := by decide +kernel
theorem dX1_sinkIn_58 : decode cX1_sinkIn 58 = .ok (.iconst 1, 1) := by decide +kernel
theorem dX1_sinkIn_59 : decode cX1_sinkIn 59 = .ok (.isub, 1) := by decide +kernel
theorem dX1_sinkIn_60 : decode cX1_sinkIn 60 = .ok (.invokevirtual 162, 3) := by decide +kernel
theorem dX1_sinkIn_63 : decode cX1_sinkIn 63 = .ok (.invokevirtual 183, 3) := by decide +kernel
theorem dX1_sinkIn_66 : decode cX1_sinkIn 66 = .ok (.iinc 5 (-1), 3) := by decide +kernel
theorem dX1_sinkIn_69 : decode cX1_sinkIn 69 = .ok (.goto (-55), 3) := by decide +kernel
theorem dX1_sinkIn_72 : decode cX1_sinkIn 72 = .ok (.aload_n 1, 1) := by decide +kernel
theorem dX1_sinkIn_73 : decode cX1_sinkIn 73 = .ok (.getfield 154, 3) := by decide +kernel
theorem dX1_sinkIn_76 : decode cX1_sinkIn 76 = .ok (.iload_n 2, 1) := by decide +kernel
theorem dX1_sinkIn_77 : decode cX1_sinkIn 77 = .ok (.iload 5, 2) := by decide +kernel
theorem dX1_sinkIn_79 : decode cX1_sinkIn 79 = .ok (.iload 4, 2) := by decide +kernel
theorem dX1_sinkIn_81 : decode cX1_sinkIn 81 = .ok (.invokevirtual 183, 3) := by decide +kernel
theorem dX1_sinkIn_84 : decode cX1_sinkIn 84 = .ok (.return_, 1) := by decide +kernel
theorem dX1_rankOf_0 : decode cX1_rankOf 0 = .ok (.aload_n 0, 1) := by decide +kernel
theorem dX1_rankOf_1 : decode cX1_rankOf 1 = .ok (.getfield 20, 3) := by decide +kernel
theorem dX1_rankOf_4 : decode cX1_rankOf 4 = .ok (.iload_n 1, 1) := by decide +kernel
theorem dX1_rankOf_5 : decode cX1_rankOf 5 = .ok (.iaload, 1) := by decide +kernel
theorem dX1_rankOf_6 : decode cX1_rankOf 6 = .ok (.ifCond .ne 12, 3) := by decide +kernel
theorem dX1_rankOf_9 : decode cX1_rankOf 9 = .ok (.aload_n 0, 1) := by decide +kernel
theorem dX1_rankOf_10 : decode cX1_rankOf 10 = .ok (.getfield 24, 3) := by decide +kernel
theorem dX1_rankOf_13 : decode cX1_rankOf 13 = .ok (.iload_n 1, 1) := by decide +kernel
theorem dX1_rankOf_14 : decode cX1_rankOf 14 = .ok (.iaload, 1) := by decide +kernel
theorem dX1_rankOf_15 : decode cX1_rankOf 15 = .ok (.goto 6, 3) := by decide +kernel
theorem dX1_rankOf_18 : decode cX1_rankOf 18 = .ok (.sipush 2000, 3) := by decide +kernel
theorem dX1_rankOf_21 : decode cX1_rankOf 21 = .ok (.ireturn, 1) := by decide +kernel
set_option maxRecDepth 20000 in
theorem ggX2_init_X6_init : GoodIn wsX2_init wsX6_init := goodIn_r _ [10, 11, 2, 3, 12, 13, 14, 15, 16, 17, 18, 19, 20, 21, 22, 23, 24, 25, 26, 27, 28, 29, 30, 31, 32, 33, 34, 35, 36, 37, 38, 39, 40, 41, 42, 43, 44, 45, 46, 47, 48, 49, 50, 51, 52, 53, 54, 55, 56, 57, 58, 59, 7, 60, 61, 62, 63, 64, 65, 66, 67, 76, 77, 78, 71, 72, 73, 74, 75, 79, 80, 81, 82, 83, 84, 85, 86, 87, 88, 89, 90, 91, 92, 93] (by decide +kernel) (by decide +kernel)
set_option maxRecDepth 20000 in
theorem gX2_init_X6_init : GoodIn wsX2_init (wsX6_init) := ggX2_init_X6_init
theorem dX2_init_0 : decode cX2_init 0 = .ok (.aload_n 0, 1) := by decide +kernel
theorem dX2_init_1 : decode cX2_init 1 = .ok (.invokespecial 3, 3) := by decide +kernel
theorem dX2_init_4 : decode cX2_init 4 = .ok (.aload_n 0, 1) := by decide +kernel
theorem dX2_init_5 : decode cX2_init 5 = .ok (.bipush 14, 2) := by decide +kernel
theorem dX2_init_7 : decode cX2_init 7 = .ok (.anewarray 9, 3) := by decide +kernel
theorem dX2_init_10 : decode cX2_init 10 = .ok (.putfield 11, 3) := by decide +kernel
theorem dX2_init_13 : decode cX2_init 13 = .ok (.iconst 0, 1) := by decide +kernel
theorem dX2_init_14 : decode cX2_init 14 = .ok (.istore_n 1, 1) := by decide +kernel
theorem dX2_init_15 : decode cX2_init 15 = .ok (.iload_n 1, 1) := by decide +kernel
theorem dX2_init_16 : decode cX2_init 16 = .ok (.bipush 14, 2) := by decide +kernel
theorem dX2_init_18 : decode cX2_init 18 = .ok (.if_icmp .ge 22, 3) := by decide +kernel
theorem dX2_init_21 : decode cX2_init 21 = .ok (.aload_n 0, 1) := by decide +kernel
theorem dX2_init_22 : decode cX2_init 22 = .ok (.getfield 11, 3) := by decide +kernel
theorem dX2_init_25 : decode cX2_init 25 = .ok (.iload_n 1, 1) := by decide +kernel
theorem dX2_init_26 : decode cX2_init 26 = .ok (.new 9, 3) := by decide +kernel
theorem dX2_init_29 : decode cX2_init 29 = .ok (.dup, 1) := by decide +kernel
theorem dX2_init_30 : decode cX2_init 30 = .ok (.invokespecial 17, 3) := by decide +kernel
theorem dX2_init_33 : decode cX2_init 33 = .ok (.aastore, 1) := by decide +kernel
theorem dX2_init_34 : decode cX2_init 34 = .ok (.iinc 1 1, 3) := by decide +kernel
theorem dX2_init_37 : decode cX2_init 37 = .ok (.goto (-22), 3) := by decide +kernel
theorem dX2_init_40 : decode cX2_init 40 = .ok (.return_, 1) := by decide +kernel
theorem dX2_forget_0 : decode cX2_forget 0 = .ok (.aload_n 0, 1) := by decide +kernel
theorem dX2_forget_1 : decode cX2_forget 1 = .ok (.iconst 0, 1) := by decide +kernel
theorem dX2_forget_2 : decode cX2_forget 2 = .ok (.putfield 18, 3) := by decide +kernel
theorem dX2_forget_5 : decode cX2_forget 5 = .ok (.return_, 1) := by decide +kernel
theorem dX2_remember_0 : decode cX2_remember 0 = .ok (.aload_n 0, 1) := by decide +kernel
theorem dX2_remember_1 : decode cX2_remember 1 = .ok (.getfield 22, 3) := by decide +kernel
theorem dX2_remember_4 : decode cX2_remember 4 = .ok (.aload_n 0, 1) := by decide +kernel
theorem dX2_remember_5 : decode cX2_remember 5 = .ok (.getfield 18, 3) := by decide +kernel
theorem dX2_remember_8 : decode cX2_remember 8 = .ok (.iadd, 1) := by decide +kernel
theorem dX2_remember_9 : decode cX2_remember 9 = .ok (.bipush 14, 2) := by decide +kernel
theorem dX2_remember_11 : decode cX2_remember 11 = .ok (.irem, 1) := by decide +kernel
theorem dX2_remember_12 : decode cX2_remember 12 = .ok (.istore_n 2, 1) := by decide +kernel
theorem dX2_remember_13 : decode cX2_remember 13 = .ok (.aload_n 0, 1) := by decide +kernel
theorem dX2_remember_14 : decode cX2_remember 14 = .ok (.getfield 11, 3) := by decide +kernel
theorem dX2_remember_17 : decode cX2_remember 17 = .ok (.iload_n 2, 1) := by decide +kernel
theorem dX2_remember_18 : decode cX2_remember 18 = .ok (.aaload, 1) := by decide +kernel
theorem dX2_remember_19 : decode cX2_remember 19 = .ok (.astore_n 3, 1) := by decide +kernel
theorem dX2_remember_20 : decode cX2_remember 20 = .ok (.aload_n 0, 1) := by decide +kernel
theorem dX2_remember_21 : decode cX2_remember 21 = .ok (.getfield 11, 3) := by decide +kernel
theorem dX2_remember_24 : decode cX2_remember 24 = .ok (.iload_n 2, 1) := by decide +kernel
theorem dX2_remember_25 : decode cX2_remember 25 = .ok (.aload_n 1, 1) := by decide +kernel
theorem dX2_remember_26 : decode cX2_remember 26 = .ok (.aastore, 1) := by decide +kernel
theorem dX2_remember_27 : decode cX2_remember 27 = .ok (.aload_n 0, 1) := by decide +kernel
theorem dX2_remember_28 : decode cX2_remember 28 = .ok (.getfield 18, 3) := by decide +kernel
theorem dX2_remember_31 : decode cX2_remember 31 = .ok (.bipush 14, 2) := by decide +kernel
theorem dX2_remember_33 : decode cX2_remember 33 = .ok (.if_icmp .ge 16, 3) := by decide +kernel
theorem dX2_remember_36 : decode cX2_remember 36 = .ok (.aload_n 0, 1) := by decide +kernel
theorem dX2_remember_37 : decode cX2_remember 37 = .ok (.dup, 1) := by decide +kernel
theorem dX2_remember_38 : decode cX2_remember 38 = .ok (.getfield 18, 3) := by decide +kernel
theorem dX2_remember_41 : decode cX2_remember 41 = .ok (.iconst 1, 1) := by decide +kernel
theorem dX2_remember_42 : decode cX2_remember 42 = .ok (.iadd, 1) := by decide +kernel
theorem dX2_remember_43 : decode cX2_remember 43 = .ok (.putfield 18, 3) := by decide +kernel
theorem dX2_remember_46 : decode cX2_remember 46 = .ok (.goto 16, 3) := by decide +kernel
theorem dX2_remember_49 : decode cX2_remember 49 = .ok (.aload_n 0, 1) := by decide +kernel
theorem dX2_remember_50 : decode cX2_remember 50 = .ok (.aload_n 0, 1) := by decide +kernel
theorem dX2_remember_51 : decode cX2_remember 51 = .ok (.getfield 22, 3) := by decide +kernel
theorem dX2_remember_54 : decode cX2_remember 54 = .ok (.iconst 1, 1) := by decide +kernel
theorem dX2_remember_55 : decode cX2_remember 55 = .ok (.iadd, 1) := by decide +kernel
theorem dX2_remember_56 : decode cX2_remember 56 = .ok (.bipush 14, 2) := by decide +kernel
theorem dX2_remember_58 : decode cX2_remember 58 = .ok (.irem, 1) := by decide +kernel
theorem dX2_remember_59 : decode cX2_remember 59 = .ok (.putfield 22, 3) := by decide +kernel
theorem dX2_remember_62 : decode cX2_remember 62 = .ok (.aload_n 3, 1) := by decide +kernel
theorem dX2_remember_63 : decode cX2_remember 63 = .ok (.areturn, 1) := by decide +kernel
theorem dX2_recall_0 : decode cX2_recall 0 = .ok (.aload_n 0, 1) := by decide +kernel
theorem dX2_recall_1 : decode cX2_recall 1 = .ok (.getfield 18, 3) := by decide +kernel
theorem dX2_recall_4 : decode cX2_recall 4 = .ok (.ifCond .ne 5, 3) := by decide +kernel
theorem dX2_recall_7 : decode cX2_recall 7 = .ok (.aload_n 1, 1) := by decide +kernel
theorem dX2_recall_8 : decode cX2_recall 8 = .ok (.areturn, 1) := by decide +kernel
theorem dX2_recall_9 : decode cX2_recall 9 = .ok (.aload_n 0, 1) := by decide +kernel
theorem dX2_recall_10 : decode cX2_recall 10 = .ok (.dup, 1) := by decide +kernel
theorem dX2_recall_11 : decode cX2_recall 11 = .ok (.getfield 18, 3) := by decide +kernel
theorem dX2_recall_14 : decode cX2_recall 14 = .ok (.iconst 1, 1) := by decide +kernel
theorem dX2_recall_15 : decode cX2_recall 15 = .ok (.isub, 1) := by decide +kernel
theorem dX2_recall_16 : decode cX2_recall 16 = .ok (.putfield 18, 3) := by decide +kernel
theorem dX2_recall_19 : decode cX2_recall 19 = .ok (.aload_n 0, 1) := by decide +kernel
theorem dX2_recall_20 : decode cX2_recall 20 = .ok (.getfield 22, 3) := by decide +kernel
theorem dX2_recall_23 : decode cX2_recall 23 = .ok (.aload_n 0, 1) := by decide +kernel
theorem dX2_recall_24 : decode cX2_recall 24 = .ok (.getfield 18, 3) := by decide +kernel
theorem dX2_recall_27 : decode cX2_recall 27 = .ok (.iadd, 1) := by decide +kernel
theorem dX2_recall_28 : decode cX2_recall 28 = .ok (.bipush 14, 2) := by decide +kernel
theorem dX2_recall_30 : decode cX2_recall 30 = .ok (.irem, 1) := by decide +kernel
theorem dX2_recall_31 : decode cX2_recall 31 = .ok (.istore_n 2, 1) := by decide +kernel
theorem dX2_recall_32 : decode cX2_recall 32 = .ok (.aload_n 0, 1) := by decide +kernel
theorem dX2_recall_33 : decode cX2_recall 33 = .ok (.getfield 11, 3) := by decide +kernel
theorem dX2_recall_36 : decode cX2_recall 36 = .ok (.iload_n 2, 1) := by decide +kernel
theorem dX2_recall_37 : decode cX2_recall 37 = .ok (.aaload, 1) := by decide +kernel
theorem dX2_recall_38 : decode cX2_recall 38 = .ok (.astore_n 3, 1) := by decide +kernel
theorem dX2_recall_39 : decode cX2_recall 39 = .ok (.aload_n 0, 1) := by decide +kernel
theorem dX2_recall_40 : decode cX2_recall 40 = .ok (.getfield 11, 3) := by decide +kernel
theorem dX2_recall_43 : decode cX2_recall 43 = .ok (.iload_n 2, 1) := by decide +kernel
theorem dX2_recall_44 : decode cX2_recall 44 = .ok (.aload_n 1, 1) := by decide +kernel
theorem dX2_recall_45 : decode cX2_recall 45 = .ok (.aastore, 1) := by decide +kernel
theorem dX2_recall_46 : decode cX2_recall 46 = .ok (.aload_n 3, 1) := by decide +kernel
theorem dX2_recall_47 : decode cX2_recall 47 = .ok (.areturn, 1) := by decide +kernel
theorem dX3_init_0 : decode cX3_init 0 = .ok (.aload_n 0, 1) := by decide +kernel
theorem dX3_init_1 : decode cX3_init 1 = .ok (.invokespecial 3, 3) := by decide +kernel
theorem dX3_init_4 : decode cX3_init 4 = .ok (.aload_n 0, 1) := by decide +kernel
theorem dX3_init_5 : decode cX3_init 5 = .ok (.bipush 10, 2) := by decide +kernel
theorem dX3_init_7 : decode cX3_init 7 = .ok (.newarray .int, 2) := by decide +kernel
theorem dX3_init_9 : decode cX3_init 9 = .ok (.putfield 9, 3) := by decide +kernel
theorem dX3_init_12 : decode cX3_init 12 = .ok (.aload_n 0, 1) := by decide +kernel
theorem dX3_init_13 : decode cX3_init 13 = .ok (.bipush 10, 2) := by decide +kernel
theorem dX3_init_15 : decode cX3_init 15 = .ok (.newarray .int, 2) := by decide +kernel
theorem dX3_init_17 : decode cX3_init 17 = .ok (.putfield 15, 3) := by decide +kernel
theorem dX3_init_20 : decode cX3_init 20 = .ok (.return_, 1) := by decide +kernel
theorem dX3_copy_0 : decode cX3_copy 0 = .ok (.aload_n 0, 1) := by decide +kernel
theorem dX3_copy_1 : decode cX3_copy 1 = .ok (.aload_n 1, 1) := by decide +kernel
theorem dX3_copy_2 : decode cX3_copy 2 = .ok (.getfield 18, 3) := by decide +kernel
theorem dX3_copy_5 : decode cX3_copy 5 = .ok (.putfield 18, 3) := by decide +kernel
theorem dX3_copy_8 : decode cX3_copy 8 = .ok (.aload_n 1, 1) := by decide +kernel
theorem dX3_copy_9 : decode cX3_copy 9 = .ok (.getfield 9, 3) := by decide +kernel
theorem dX3_copy_12 : decode cX3_copy 12 = .ok (.iconst 0, 1) := by decide +kernel
theorem dX3_copy_13 : decode cX3_copy 13 = .ok (.aload_n 0, 1) := by decide +kernel
theorem dX3_copy_14 : decode cX3_copy 14 = .ok (.getfield 9, 3) := by decide +kernel
theorem dX3_copy_17 : decode cX3_copy 17 = .ok (.iconst 0, 1) := by decide +kernel
theorem dX3_copy_18 : decode cX3_copy 18 = .ok (.bipush 10, 2) := by decide +kernel
theorem dX3_copy_20 : decode cX3_copy 20 = .ok (.invokestatic 22, 3) := by decide +kernel
theorem dX3_copy_23 : decode cX3_copy 23 = .ok (.aload_n 1, 1) := by decide +kernel
theorem dX3_copy_24 : decode cX3_copy 24 = .ok (.getfield 15, 3) := by decide +kernel
theorem dX3_copy_27 : decode cX3_copy 27 = .ok (.iconst 0, 1) := by decide +kernel
theorem dX3_copy_28 : decode cX3_copy 28 = .ok (.aload_n 0, 1) := by decide +kernel
theorem dX3_copy_29 : decode cX3_copy 29 = .ok (.getfield 15, 3) := by decide +kernel
theorem dX3_copy_32 : decode cX3_copy 32 = .ok (.iconst 0, 1) := by decide +kernel
theorem dX3_copy_33 : decode cX3_copy 33 = .ok (.bipush 10, 2) := by decide +kernel
theorem dX3_copy_35 : decode cX3_copy 35 = .ok (.invokestatic 22, 3) := by decide +kernel
theorem dX3_copy_38 : decode cX3_copy 38 = .ok (.return_, 1) := by decide +kernel
theorem dX3_isBehindAll_0 : decode cX3_isBehindAll 0 = .ok (.aload_n 0, 1) := by decide +kernel
theorem dX3_isBehindAll_1 : decode cX3_isBehindAll 1 = .ok (.getfield 18, 3) := by decide +kernel
theorem dX3_isBehindAll_4 : decode cX3_isBehindAll 4 = .ok (.ifCond .eq 18, 3) := by decide +kernel
theorem dX3_isBehindAll_7 : decode cX3_isBehindAll 7 = .ok (.iload_n 1, 1) := by decide +kernel
theorem dX3_isBehindAll_8 : decode cX3_isBehindAll 8 = .ok (.aload_n 0, 1) := by decide +kernel
theorem dX3_isBehindAll_9 : decode cX3_isBehindAll 9 = .ok (.getfield 9, 3) := by decide +kernel
theorem dX3_isBehindAll_12 : decode cX3_isBehindAll 12 = .ok (.aload_n 0, 1) := by decide +kernel
theorem dX3_isBehindAll_13 : decode cX3_isBehindAll 13 = .ok (.getfield 18, 3) := by decide +kernel
theorem dX3_isBehindAll_16 : decode cX3_isBehindAll 16 = .ok (.iconst 1, 1) := by decide +kernel
theorem dX3_isBehindAll_17 : decode cX3_isBehindAll 17 = .ok (.isub, 1) := by decide +kernel
theorem dX3_isBehindAll_18 : decode cX3_isBehindAll 18 = .ok (.iaload, 1) := by decide +kernel
theorem dX3_isBehindAll_19 : decode cX3_isBehindAll 19 = .ok (.if_icmp .le 7, 3) := by decide +kernel
theorem dX3_isBehindAll_22 : decode cX3_isBehindAll 22 = .ok (.iconst 1, 1) := by decide +kernel
theorem dX3_isBehindAll_23 : decode cX3_isBehindAll 23 = .ok (.goto 4, 3) := by decide +kernel
theorem dX3_isBehindAll_26 : decode cX3_isBehindAll 26 = .ok (.iconst 0, 1) := by decide +kernel
theorem dX3_isBehindAll_27 : decode cX3_isBehindAll 27 = .ok (.ireturn, 1) := by decide +kernel
set_option maxRecDepth 20000 in
theorem ggX3_endOf_X3_lastOfSpan : GoodIn wsX3_endOf wsX3_lastOfSpan := goodIn_r _ [5, 6, 7, 8, 9, 10] (by decide +kernel) (by decide +kernel)
set_option maxRecDepth 20000 in
theorem gX3_endOf_X3_lastOfSpan : GoodIn wsX3_endOf (wsV RX3 28 RX3 yX3_lastOfSpan wsX3_lastOfSpan) := goodIn_app (goodIn_of _ (by decide +kernel)) ggX3_endOf_X3_lastOfSpan
theorem dX3_endOf_0 : decode cX3_endOf 0 = .ok (.aload_n 0, 1) := by decide +kernel
theorem dX3_endOf_1 : decode cX3_endOf 1 = .ok (.iload_n 1, 1) := by decide +kernel
theorem dX3_endOf_2 : decode cX3_endOf 2 = .ok (.iconst 1, 1) := by decide +kernel
theorem dX3_endOf_3 : decode cX3_endOf 3 = .ok (.iadd, 1) := by decide +kernel
theorem dX3_endOf_4 : decode cX3_endOf 4 = .ok (.invokevirtual 28, 3) := by decide +kernel
theorem dX3_endOf_7 : decode cX3_endOf 7 = .ok (.ireturn, 1) := by decide +kernel
theorem dX3_firstOfSpan_0 : decode cX3_firstOfSpan 0 = .ok (.iload_n 1, 1) := by decide +kernel
theorem dX3_firstOfSpan_1 : decode cX3_firstOfSpan 1 = .ok (.ifCond .ne 9, 3) := by decide +kernel
theorem dX3_firstOfSpan_4 : decode cX3_firstOfSpan 4 = .ok (.sipush 1000, 3) := by decide +kernel
theorem dX3_firstOfSpan_7 : decode cX3_firstOfSpan 7 = .ok (.goto 11, 3) := by decide +kernel
theorem dX3_firstOfSpan_10 : decode cX3_firstOfSpan 10 = .ok (.aload_n 0, 1) := by decide +kernel
theorem dX3_firstOfSpan_11 : decode cX3_firstOfSpan 11 = .ok (.getfield 9, 3) := by decide +kernel
theorem dX3_firstOfSpan_14 : decode cX3_firstOfSpan 14 = .ok (.iload_n 1, 1) := by decide +kernel
theorem dX3_firstOfSpan_15 : decode cX3_firstOfSpan 15 = .ok (.iconst 1, 1) := by decide +kernel
theorem dX3_firstOfSpan_16 : decode cX3_firstOfSpan 16 = .ok (.isub, 1) := by decide +kernel
theorem dX3_firstOfSpan_17 : decode cX3_firstOfSpan 17 = .ok (.iaload, 1) := by decide +kernel
theorem dX3_firstOfSpan_18 : decode cX3_firstOfSpan 18 = .ok (.ireturn, 1) := by decide +kernel
theorem dX3_lastOfSpan_0 : decode cX3_lastOfSpan 0 = .ok (.iload_n 1, 1) := by decide +kernel
theorem dX3_lastOfSpan_1 : decode cX3_lastOfSpan 1 = .ok (.aload_n 0, 1) := by decide +kernel
theorem dX3_lastOfSpan_2 : decode cX3_lastOfSpan 2 = .ok (.getfield 18, 3) := by decide +kernel
theorem dX3_lastOfSpan_5 : decode cX3_lastOfSpan 5 = .ok (.if_icmp .ne 9, 3) := by decide +kernel
theorem dX3_lastOfSpan_8 : decode cX3_lastOfSpan 8 = .ok (.sipush 1999, 3) := by decide +kernel
theorem dX3_lastOfSpan_11 : decode cX3_lastOfSpan 11 = .ok (.goto 11, 3) := by decide +kernel
theorem dX3_lastOfSpan_14 : decode cX3_lastOfSpan 14 = .ok (.aload_n 0, 1) := by decide +kernel
theorem dX3_lastOfSpan_15 : decode cX3_lastOfSpan 15 = .ok (.getfield 9, 3) := by decide +kernel
theorem dX3_lastOfSpan_18 : decode cX3_lastOfSpan 18 = .ok (.iload_n 1, 1) := by decide +kernel
theorem dX3_lastOfSpan_19 : decode cX3_lastOfSpan 19 = .ok (.iaload, 1) := by decide +kernel
theorem dX3_lastOfSpan_20 : decode cX3_lastOfSpan 20 = .ok (.iconst 1, 1) := by decide +kernel
theorem dX3_lastOfSpan_21 : decode cX3_lastOfSpan 21 = .ok (.isub, 1) := by decide +kernel
theorem dX3_lastOfSpan_22 : decode cX3_lastOfSpan 22 = .ok (.ireturn, 1) := by decide +kernel
theorem dX3_spanOf_0 : decode cX3_spanOf 0 = .ok (.iconst 0, 1) := by decide +kernel
theorem dX3_spanOf_1 : decode cX3_spanOf 1 = .ok (.istore_n 2, 1) := by decide +kernel
theorem dX3_spanOf_2 : decode cX3_spanOf 2 = .ok (.iload_n 2, 1) := by decide +kernel
theorem dX3_spanOf_3 : decode cX3_spanOf 3 = .ok (.aload_n 0, 1) := by decide +kernel
theorem dX3_spanOf_4 : decode cX3_spanOf 4 = .ok (.getfield 18, 3) := by decide +kernel
theorem dX3_spanOf_7 : decode cX3_spanOf 7 = .ok (.if_icmp .ge 19, 3) := by decide +kernel
theorem dX3_spanOf_10 : decode cX3_spanOf 10 = .ok (.aload_n 0, 1) := by decide +kernel
theorem dX3_spanOf_11 : decode cX3_spanOf 11 = .ok (.getfield 9, 3) := by decide +kernel
theorem dX3_spanOf_14 : decode cX3_spanOf 14 = .ok (.iload_n 2, 1) := by decide +kernel
theorem dX3_spanOf_15 : decode cX3_spanOf 15 = .ok (.iaload, 1) := by decide +kernel
theorem dX3_spanOf_16 : decode cX3_spanOf 16 = .ok (.iload_n 1, 1) := by decide +kernel
theorem dX3_spanOf_17 : decode cX3_spanOf 17 = .ok (.if_icmp .gt 9, 3) := by decide +kernel
theorem dX3_spanOf_20 : decode cX3_spanOf 20 = .ok (.iinc 2 1, 3) := by decide +kernel
theorem dX3_spanOf_23 : decode cX3_spanOf 23 = .ok (.goto (-21), 3) := by decide +kernel
theorem dX3_spanOf_26 : decode cX3_spanOf 26 = .ok (.iload_n 2, 1) := by decide +kernel
theorem dX3_spanOf_27 : decode cX3_spanOf 27 = .ok (.ireturn, 1) := by decide +kernel
theorem dX3_rightSpans_0 : decode cX3_rightSpans 0 = .ok (.iload_n 1, 1) := by decide +kernel
theorem dX3_rightSpans_1 : decode cX3_rightSpans 1 = .ok (.iconst (-1), 1) := by decide +kernel
theorem dX3_rightSpans_2 : decode cX3_rightSpans 2 = .ok (.if_icmp .ne 14, 3) := by decide +kernel
theorem dX3_rightSpans_5 : decode cX3_rightSpans 5 = .ok (.iconst 1, 1) := by decide +kernel
theorem dX3_rightSpans_6 : decode cX3_rightSpans 6 = .ok (.aload_n 0, 1) := by decide +kernel
theorem dX3_rightSpans_7 : decode cX3_rightSpans 7 = .ok (.getfield 18, 3) := by decide +kernel
theorem dX3_rightSpans_10 : decode cX3_rightSpans 10 = .ok (.iconst 1, 1) := by decide +kernel
theorem dX3_rightSpans_11 : decode cX3_rightSpans 11 = .ok (.iadd, 1) := by decide +kernel
theorem dX3_rightSpans_12 : decode cX3_rightSpans 12 = .ok (.ishl, 1) := by decide +kernel
theorem dX3_rightSpans_13 : decode cX3_rightSpans 13 = .ok (.iconst 1, 1) := by decide +kernel
theorem dX3_rightSpans_14 : decode cX3_rightSpans 14 = .ok (.isub, 1) := by decide +kernel
theorem dX3_rightSpans_15 : decode cX3_rightSpans 15 = .ok (.ireturn, 1) := by decide +kernel
theorem dX3_rightSpans_16 : decode cX3_rightSpans 16 = .ok (.iconst 0, 1) := by decide +kernel
theorem dX3_rightSpans_17 : decode cX3_rightSpans 17 = .ok (.istore_n 2, 1) := by decide +kernel
theorem dX3_rightSpans_18 : decode cX3_rightSpans 18 = .ok (.iconst 0, 1) := by decide +kernel
theorem dX3_rightSpans_19 : decode cX3_rightSpans 19 = .ok (.istore_n 3, 1) := by decide +kernel
theorem dX3_rightSpans_20 : decode cX3_rightSpans 20 = .ok (.iload_n 3, 1) := by decide +kernel
theorem dX3_rightSpans_21 : decode cX3_rightSpans 21 = .ok (.aload_n 0, 1) := by decide +kernel
theorem dX3_rightSpans_22 : decode cX3_rightSpans 22 = .ok (.getfield 18, 3) := by decide +kernel
theorem dX3_rightSpans_25 : decode cX3_rightSpans 25 = .ok (.if_icmp .ge 30, 3) := by decide +kernel
theorem dX3_rightSpans_28 : decode cX3_rightSpans 28 = .ok (.aload_n 0, 1) := by decide +kernel
theorem dX3_rightSpans_29 : decode cX3_rightSpans 29 = .ok (.getfield 15, 3) := by decide +kernel
theorem dX3_rightSpans_32 : decode cX3_rightSpans 32 = .ok (.iload_n 3, 1) := by decide +kernel
theorem dX3_rightSpans_33 : decode cX3_rightSpans 33 = .ok (.iaload, 1) := by decide +kernel
theorem dX3_rightSpans_34 : decode cX3_rightSpans 34 = .ok (.iload_n 1, 1) := by decide +kernel
theorem dX3_rightSpans_35 : decode cX3_rightSpans 35 = .ok (.ishr, 1) := by decide +kernel
theorem dX3_rightSpans_36 : decode cX3_rightSpans 36 = .ok (.iconst 1, 1) := by decide +kernel
theorem dX3_rightSpans_37 : decode cX3_rightSpans 37 = .ok (.iand, 1) := by decide +kernel
theorem dX3_rightSpans_38 : decode cX3_rightSpans 38 = .ok (.ifCond .eq 11, 3) := by decide +kernel
theorem dX3_rightSpans_41 : decode cX3_rightSpans 41 = .ok (.iload_n 2, 1) := by decide +kernel
theorem dX3_rightSpans_42 : decode cX3_rightSpans 42 = .ok (.iconst 1, 1) := by decide +kernel
theorem dX3_rightSpans_43 : decode cX3_rightSpans 43 = .ok (.iload_n 3, 1) := by decide +kernel
theorem dX3_rightSpans_44 : decode cX3_rightSpans 44 = .ok (.iconst 1, 1) := by decide +kernel
theorem dX3_rightSpans_45 : decode cX3_rightSpans 45 = .ok (.iadd, 1) := by decide +kernel
theorem dX3_rightSpans_46 : decode cX3_rightSpans 46 = .ok (.ishl, 1) := by decide +kernel
theorem dX3_rightSpans_47 : decode cX3_rightSpans 47 = .ok (.ior, 1) := by decide +kernel
theorem dX3_rightSpans_48 : decode cX3_rightSpans 48 = .ok (.istore_n 2, 1) := by decide +kernel
theorem dX3_rightSpans_49 : decode cX3_rightSpans 49 = .ok (.iinc 3 1, 3) := by decide +kernel
theorem dX3_rightSpans_52 : decode cX3_rightSpans 52 = .ok (.goto (-32), 3) := by decide +kernel
theorem dX3_rightSpans_55 : decode cX3_rightSpans 55 = .ok (.iload_n 2, 1) := by decide +kernel
theorem dX3_rightSpans_56 : decode cX3_rightSpans 56 = .ok (.ireturn, 1) := by decide +kernel
theorem dX4_init_0 : decode cX4_init 0 = .ok (.aload_n 0, 1) := by decide +kernel
theorem dX4_init_1 : decode cX4_init 1 = .ok (.invokespecial 3, 3) := by decide +kernel
theorem dX4_init_4 : decode cX4_init 4 = .ok (.aload_n 0, 1) := by decide +kernel
theorem dX4_init_5 : decode cX4_init 5 = .ok (.bipush 24, 2) := by decide +kernel
theorem dX4_init_7 : decode cX4_init 7 = .ok (.newarray .int, 2) := by decide +kernel
theorem dX4_init_9 : decode cX4_init 9 = .ok (.putfield 9, 3) := by decide +kernel
theorem dX4_init_12 : decode cX4_init 12 = .ok (.aload_n 0, 1) := by decide +kernel
theorem dX4_init_13 : decode cX4_init 13 = .ok (.bipush 24, 2) := by decide +kernel
theorem dX4_init_15 : decode cX4_init 15 = .ok (.newarray .int, 2) := by decide +kernel
theorem dX4_init_17 : decode cX4_init 17 = .ok (.putfield 15, 3) := by decide +kernel
theorem dX4_init_20 : decode cX4_init 20 = .ok (.aload_n 0, 1) := by decide +kernel
theorem dX4_init_21 : decode cX4_init 21 = .ok (.bipush 24, 2) := by decide +kernel
theorem dX4_init_23 : decode cX4_init 23 = .ok (.newarray .int, 2) := by decide +kernel
theorem dX4_init_25 : decode cX4_init 25 = .ok (.putfield 18, 3) := by decide +kernel
theorem dX4_init_28 : decode cX4_init 28 = .ok (.aload_n 0, 1) := by decide +kernel
theorem dX4_init_29 : decode cX4_init 29 = .ok (.bipush 24, 2) := by decide +kernel
theorem dX4_init_31 : decode cX4_init 31 = .ok (.newarray .int, 2) := by decide +kernel
theorem dX4_init_33 : decode cX4_init 33 = .ok (.putfield 21, 3) := by decide +kernel
theorem dX4_init_36 : decode cX4_init 36 = .ok (.aload_n 0, 1) := by decide +kernel
theorem dX4_init_37 : decode cX4_init 37 = .ok (.bipush 24, 2) := by decide +kernel
theorem dX4_init_39 : decode cX4_init 39 = .ok (.newarray .int, 2) := by decide +kernel
theorem dX4_init_41 : decode cX4_init 41 = .ok (.putfield 24, 3) := by decide +kernel
theorem dX4_init_44 : decode cX4_init 44 = .ok (.aload_n 0, 1) := by decide +kernel
theorem dX4_init_45 : decode cX4_init 45 = .ok (.bipush 24, 2) := by decide +kernel
theorem dX4_init_47 : decode cX4_init 47 = .ok (.newarray .int, 2) := by decide +kernel
theorem dX4_init_49 : decode cX4_init 49 = .ok (.putfield 27, 3) := by decide +kernel
theorem dX4_init_52 : decode cX4_init 52 = .ok (.return_, 1) := by decide +kernel
theorem dX4_copy_0 : decode cX4_copy 0 = .ok (.aload_n 0, 1) := by decide +kernel
theorem dX4_copy_1 : decode cX4_copy 1 = .ok (.aload_n 1, 1) := by decide +kernel
theorem dX4_copy_2 : decode cX4_copy 2 = .ok (.getfield 30, 3) := by decide +kernel
theorem dX4_copy_5 : decode cX4_copy 5 = .ok (.putfield 30, 3) := by decide +kernel
theorem dX4_copy_8 : decode cX4_copy 8 = .ok (.aload_n 1, 1) := by decide +kernel
theorem dX4_copy_9 : decode cX4_copy 9 = .ok (.getfield 9, 3) := by decide +kernel
theorem dX4_copy_12 : decode cX4_copy 12 = .ok (.iconst 0, 1) := by decide +kernel
theorem dX4_copy_13 : decode cX4_copy 13 = .ok (.aload_n 0, 1) := by decide +kernel
theorem dX4_copy_14 : decode cX4_copy 14 = .ok (.getfield 9, 3) := by decide +kernel
theorem dX4_copy_17 : decode cX4_copy 17 = .ok (.iconst 0, 1) := by decide +kernel
theorem dX4_copy_18 : decode cX4_copy 18 = .ok (.bipush 24, 2) := by decide +kernel
theorem dX4_copy_20 : decode cX4_copy 20 = .ok (.invokestatic 34, 3) := by decide +kernel
theorem dX4_copy_23 : decode cX4_copy 23 = .ok (.aload_n 1, 1) := by decide +kernel
theorem dX4_copy_24 : decode cX4_copy 24 = .ok (.getfield 15, 3) := by decide +kernel
theorem dX4_copy_27 : decode cX4_copy 27 = .ok (.iconst 0, 1) := by decide +kernel
theorem dX4_copy_28 : decode cX4_copy 28 = .ok (.aload_n 0, 1) := by decide +kernel
theorem dX4_copy_29 : decode cX4_copy 29 = .ok (.getfield 15, 3) := by decide +kernel
theorem dX4_copy_32 : decode cX4_copy 32 = .ok (.iconst 0, 1) := by decide +kernel
theorem dX4_copy_33 : decode cX4_copy 33 = .ok (.bipush 24, 2) := by decide +kernel
theorem dX4_copy_35 : decode cX4_copy 35 = .ok (.invokestatic 34, 3) := by decide +kernel
theorem dX4_copy_38 : decode cX4_copy 38 = .ok (.aload_n 1, 1) := by decide +kernel
theorem dX4_copy_39 : decode cX4_copy 39 = .ok (.getfield 18, 3) := by decide +kernel
theorem dX4_copy_42 : decode cX4_copy 42 = .ok (.iconst 0, 1) := by decide +kernel
theorem dX4_copy_43 : decode cX4_copy 43 = .ok (.aload_n 0, 1) := by decide +kernel
theorem dX4_copy_44 : decode cX4_copy 44 = .ok (.getfield 18, 3) := by decide +kernel
theorem dX4_copy_47 : decode cX4_copy 47 = .ok (.iconst 0, 1) := by decide +kernel
theorem dX4_copy_48 : decode cX4_copy 48 = .ok (.bipush 24, 2) := by decide +kernel
theorem dX4_copy_50 : decode cX4_copy 50 = .ok (.invokestatic 34, 3) := by decide +kernel
theorem dX4_copy_53 : decode cX4_copy 53 = .ok (.aload_n 1, 1) := by decide +kernel
theorem dX4_copy_54 : decode cX4_copy 54 = .ok (.getfield 21, 3) := by decide +kernel
theorem dX4_copy_57 : decode cX4_copy 57 = .ok (.iconst 0, 1) := by decide +kernel
theorem dX4_copy_58 : decode cX4_copy 58 = .ok (.aload_n 0, 1) := by decide +kernel
theorem dX4_copy_59 : decode cX4_copy 59 = .ok (.getfield 21, 3) := by decide +kernel
theorem dX4_copy_62 : decode cX4_copy 62 = .ok (.iconst 0, 1) := by decide +kernel
theorem dX4_copy_63 : decode cX4_copy 63 = .ok (.bipush 24, 2) := by decide +kernel
theorem dX4_copy_65 : decode cX4_copy 65 = .ok (.invokestatic 34, 3) := by decide +kernel
theorem dX4_copy_68 : decode cX4_copy 68 = .ok (.aload_n 1, 1) := by decide +kernel
theorem dX4_copy_69 : decode cX4_copy 69 = .ok (.getfield 24, 3) := by decide +kernel
theorem dX4_copy_72 : decode cX4_copy 72 = .ok (.iconst 0, 1) := by decide +kernel
theorem dX4_copy_73 : decode cX4_copy 73 = .ok (.aload_n 0, 1) := by decide +kernel
theorem dX4_copy_74 : decode cX4_copy 74 = .ok (.getfield 24, 3) := by decide +kernel
theorem dX4_copy_77 : decode cX4_copy 77 = .ok (.iconst 0, 1) := by decide +kernel
theorem dX4_copy_78 : decode cX4_copy 78 = .ok (.bipush 24, 2) := by decide +kernel
theorem dX4_copy_80 : decode cX4_copy 80 = .ok (.invokestatic 34, 3) := by decide +kernel
theorem dX4_copy_83 : decode cX4_copy 83 = .ok (.aload_n 1, 1) := by decide +kernel
theorem dX4_copy_84 : decode cX4_copy 84 = .ok (.getfield 27, 3) := by decide +kernel
theorem dX4_copy_87 : decode cX4_copy 87 = .ok (.iconst 0, 1) := by decide +kernel
theorem dX4_copy_88 : decode cX4_copy 88 = .ok (.aload_n 0, 1) := by decide +kernel
theorem dX4_copy_89 : decode cX4_copy 89 = .ok (.getfield 27, 3) := by decide +kernel
theorem dX4_copy_92 : decode cX4_copy 92 = .ok (.iconst 0, 1) := by decide +kernel
theorem dX4_copy_93 : decode cX4_copy 93 = .ok (.bipush 24, 2) := by decide +kernel
theorem dX4_copy_95 : decode cX4_copy 95 = .ok (.invokestatic 34, 3) := by decide +kernel
theorem dX4_copy_98 : decode cX4_copy 98 = .ok (.return_, 1) := by decide +kernel
theorem dX4_has_0 : decode cX4_has 0 = .ok (.iload_n 1, 1) := by decide +kernel
theorem dX4_has_1 : decode cX4_has 1 = .ok (.ifCond .lt 15, 3) := by decide +kernel
theorem dX4_has_4 : decode cX4_has 4 = .ok (.iload_n 1, 1) := by decide +kernel
theorem dX4_has_5 : decode cX4_has 5 = .ok (.aload_n 0, 1) := by decide +kernel
theorem dX4_has_6 : decode cX4_has 6 = .ok (.getfield 30, 3) := by decide +kernel
theorem dX4_has_9 : decode cX4_has 9 = .ok (.if_icmp .ge 7, 3) := by decide +kernel
theorem dX4_has_12 : decode cX4_has 12 = .ok (.iconst 1, 1) := by decide +kernel
theorem dX4_has_13 : decode cX4_has 13 = .ok (.goto 4, 3) := by decide +kernel
theorem dX4_has_16 : decode cX4_has 16 = .ok (.iconst 0, 1) := by decide +kernel
theorem dX4_has_17 : decode cX4_has 17 = .ok (.ireturn, 1) := by decide +kernel
theorem dX4_ofOneDie_0 : decode cX4_ofOneDie 0 = .ok (.iconst 0, 1) := by decide +kernel
theorem dX4_ofOneDie_1 : decode cX4_ofOneDie 1 = .ok (.istore_n 2, 1) := by decide +kernel
theorem dX4_ofOneDie_2 : decode cX4_ofOneDie 2 = .ok (.iconst 0, 1) := by decide +kernel
theorem dX4_ofOneDie_3 : decode cX4_ofOneDie 3 = .ok (.istore_n 3, 1) := by decide +kernel
theorem dX4_ofOneDie_4 : decode cX4_ofOneDie 4 = .ok (.iload_n 3, 1) := by decide +kernel
theorem dX4_ofOneDie_5 : decode cX4_ofOneDie 5 = .ok (.aload_n 0, 1) := by decide +kernel
theorem dX4_ofOneDie_6 : decode cX4_ofOneDie 6 = .ok (.getfield 30, 3) := by decide +kernel
theorem dX4_ofOneDie_9 : decode cX4_ofOneDie 9 = .ok (.if_icmp .ge 22, 3) := by decide +kernel
theorem dX4_ofOneDie_12 : decode cX4_ofOneDie 12 = .ok (.aload_n 0, 1) := by decide +kernel
theorem dX4_ofOneDie_13 : decode cX4_ofOneDie 13 = .ok (.getfield 9, 3) := by decide +kernel
theorem dX4_ofOneDie_16 : decode cX4_ofOneDie 16 = .ok (.iload_n 3, 1) := by decide +kernel
theorem dX4_ofOneDie_17 : decode cX4_ofOneDie 17 = .ok (.iaload, 1) := by decide +kernel
theorem dX4_ofOneDie_18 : decode cX4_ofOneDie 18 = .ok (.iload_n 1, 1) := by decide +kernel
theorem dX4_ofOneDie_19 : decode cX4_ofOneDie 19 = .ok (.if_icmp .ne 6, 3) := by decide +kernel
theorem dX4_ofOneDie_22 : decode cX4_ofOneDie 22 = .ok (.iinc 2 1, 3) := by decide +kernel
theorem dX4_ofOneDie_25 : decode cX4_ofOneDie 25 = .ok (.iinc 3 1, 3) := by decide +kernel
theorem dX4_ofOneDie_28 : decode cX4_ofOneDie 28 = .ok (.goto (-24), 3) := by decide +kernel
theorem dX4_ofOneDie_31 : decode cX4_ofOneDie 31 = .ok (.iload_n 2, 1) := by decide +kernel
theorem dX4_ofOneDie_32 : decode cX4_ofOneDie 32 = .ok (.ireturn, 1) := by decide +kernel
theorem dX4_ofOneCharter_0 : decode cX4_ofOneCharter 0 = .ok (.iconst 0, 1) := by decide +kernel
theorem dX4_ofOneCharter_1 : decode cX4_ofOneCharter 1 = .ok (.istore_n 2, 1) := by decide +kernel
theorem dX4_ofOneCharter_2 : decode cX4_ofOneCharter 2 = .ok (.iconst 0, 1) := by decide +kernel
theorem dX4_ofOneCharter_3 : decode cX4_ofOneCharter 3 = .ok (.istore_n 3, 1) := by decide +kernel
theorem dX4_ofOneCharter_4 : decode cX4_ofOneCharter 4 = .ok (.iload_n 3, 1) := by decide +kernel
theorem dX4_ofOneCharter_5 : decode cX4_ofOneCharter 5 = .ok (.aload_n 0, 1) := by decide +kernel
theorem dX4_ofOneCharter_6 : decode cX4_ofOneCharter 6 = .ok (.getfield 30, 3) := by decide +kernel
theorem dX4_ofOneCharter_9 : decode cX4_ofOneCharter 9 = .ok (.if_icmp .ge 22, 3) := by decide +kernel
theorem dX4_ofOneCharter_12 : decode cX4_ofOneCharter 12 = .ok (.aload_n 0, 1) := by decide +kernel
theorem dX4_ofOneCharter_13 : decode cX4_ofOneCharter 13 = .ok (.getfield 27, 3) := by decide +kernel
theorem dX4_ofOneCharter_16 : decode cX4_ofOneCharter 16 = .ok (.iload_n 3, 1) := by decide +kernel
theorem dX4_ofOneCharter_17 : decode cX4_ofOneCharter 17 = .ok (.iaload, 1) := by decide +kernel
theorem dX4_ofOneCharter_18 : decode cX4_ofOneCharter 18 = .ok (.iload_n 1, 1) := by decide +kernel
theorem dX4_ofOneCharter_19 : decode cX4_ofOneCharter 19 = .ok (.if_icmp .ne 6, 3) := by decide +kernel
theorem dX4_ofOneCharter_22 : decode cX4_ofOneCharter 22 = .ok (.iinc 2 1, 3) := by decide +kernel
theorem dX4_ofOneCharter_25 : decode cX4_ofOneCharter 25 = .ok (.iinc 3 1, 3) := by decide +kernel
theorem dX4_ofOneCharter_28 : decode cX4_ofOneCharter 28 = .ok (.goto (-24), 3) := by decide +kernel
theorem dX4_ofOneCharter_31 : decode cX4_ofOneCharter 31 = .ok (.iload_n 2, 1) := by decide +kernel
theorem dX4_ofOneCharter_32 : decode cX4_ofOneCharter 32 = .ok (.ireturn, 1) := by decide +kernel
theorem dX4_haveBubbles_0 : decode cX4_haveBubbles 0 = .ok (.iconst 0, 1) := by decide +kernel
theorem dX4_haveBubbles_1 : decode cX4_haveBubbles 1 = .ok (.istore_n 3, 1) := by decide +kernel
theorem dX4_haveBubbles_2 : decode cX4_haveBubbles 2 = .ok (.iload_n 3, 1) := by decide +kernel
theorem dX4_haveBubbles_3 : decode cX4_haveBubbles 3 = .ok (.aload_n 0, 1) := by decide +kernel
theorem dX4_haveBubbles_4 : decode cX4_haveBubbles 4 = .ok (.getfield 30, 3) := by decide +kernel
theorem dX4_haveBubbles_7 : decode cX4_haveBubbles 7 = .ok (.if_icmp .ge 31, 3) := by decide +kernel
theorem dX4_haveBubbles_10 : decode cX4_haveBubbles 10 = .ok (.aload_n 0, 1) := by decide +kernel
theorem dX4_haveBubbles_11 : decode cX4_haveBubbles 11 = .ok (.getfield 15, 3) := by decide +kernel
theorem dX4_haveBubbles_14 : decode cX4_haveBubbles 14 = .ok (.iload_n 3, 1) := by decide +kernel
theorem dX4_haveBubbles_15 : decode cX4_haveBubbles 15 = .ok (.iaload, 1) := by decide +kernel
theorem dX4_haveBubbles_16 : decode cX4_haveBubbles 16 = .ok (.iload_n 1, 1) := by decide +kernel
theorem dX4_haveBubbles_17 : decode cX4_haveBubbles 17 = .ok (.if_icmp .ne 15, 3) := by decide +kernel
theorem dX4_haveBubbles_20 : decode cX4_haveBubbles 20 = .ok (.aload_n 0, 1) := by decide +kernel
theorem dX4_haveBubbles_21 : decode cX4_haveBubbles 21 = .ok (.getfield 21, 3) := by decide +kernel
theorem dX4_haveBubbles_24 : decode cX4_haveBubbles 24 = .ok (.iload_n 3, 1) := by decide +kernel
theorem dX4_haveBubbles_25 : decode cX4_haveBubbles 25 = .ok (.iaload, 1) := by decide +kernel
theorem dX4_haveBubbles_26 : decode cX4_haveBubbles 26 = .ok (.iload_n 2, 1) := by decide +kernel
theorem dX4_haveBubbles_27 : decode cX4_haveBubbles 27 = .ok (.if_icmp .ne 5, 3) := by decide +kernel
theorem dX4_haveBubbles_30 : decode cX4_haveBubbles 30 = .ok (.iconst 1, 1) := by decide +kernel
theorem dX4_haveBubbles_31 : decode cX4_haveBubbles 31 = .ok (.ireturn, 1) := by decide +kernel
theorem dX4_haveBubbles_32 : decode cX4_haveBubbles 32 = .ok (.iinc 3 1, 3) := by decide +kernel
theorem dX4_haveBubbles_35 : decode cX4_haveBubbles 35 = .ok (.goto (-33), 3) := by decide +kernel
theorem dX4_haveBubbles_38 : decode cX4_haveBubbles 38 = .ok (.iconst 0, 1) := by decide +kernel
theorem dX4_haveBubbles_39 : decode cX4_haveBubbles 39 = .ok (.ireturn, 1) := by decide +kernel
set_option maxRecDepth 20000 in
theorem ggX4_hanging_X4_ofOneCharter : GoodIn wsX4_hanging wsX4_ofOneCharter := goodIn_r _ [6, 1, 7, 8, 9, 10, 11, 12, 13, 14] (by decide +kernel) (by decide +kernel)
set_option maxRecDepth 20000 in
theorem gX4_hanging_X4_ofOneCharter : GoodIn wsX4_hanging (wsV RX4 40 RX4 yX4_ofOneCharter wsX4_ofOneCharter) := goodIn_app (goodIn_of _ (by decide +kernel)) ggX4_hanging_X4_ofOneCharter
theorem dX4_hanging_0 : decode cX4_hanging 0 = .ok (.aload_n 0, 1) := by decide +kernel
theorem dX4_hanging_1 : decode cX4_hanging 1 = .ok (.getfield 30, 3) := by decide +kernel
theorem dX4_hanging_4 : decode cX4_hanging 4 = .ok (.aload_n 0, 1) := by decide +kernel
theorem dX4_hanging_5 : decode cX4_hanging 5 = .ok (.iconst (-1), 1) := by decide +kernel
theorem dX4_hanging_6 : decode cX4_hanging 6 = .ok (.invokevirtual 40, 3) := by decide +kernel
theorem dX4_hanging_9 : decode cX4_hanging 9 = .ok (.isub, 1) := by decide +kernel
theorem dX4_hanging_10 : decode cX4_hanging 10 = .ok (.ireturn, 1) := by decide +kernel
