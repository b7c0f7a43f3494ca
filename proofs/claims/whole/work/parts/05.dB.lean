theorem dX5_init_0 : decode cX5_init 0 = .ok (.aload_n 0, 1) := by decide +kernel
theorem dX5_init_1 : decode cX5_init 1 = .ok (.invokespecial 3, 3) := by decide +kernel
theorem dX5_init_4 : decode cX5_init 4 = .ok (.aload_n 0, 1) := by decide +kernel
theorem dX5_init_5 : decode cX5_init 5 = .ok (.bipush 6, 2) := by decide +kernel
theorem dX5_init_7 : decode cX5_init 7 = .ok (.newarray .int, 2) := by decide +kernel
theorem dX5_init_9 : decode cX5_init 9 = .ok (.putfield 9, 3) := by decide +kernel
theorem dX5_init_12 : decode cX5_init 12 = .ok (.aload_n 0, 1) := by decide +kernel
theorem dX5_init_13 : decode cX5_init 13 = .ok (.bipush 36, 2) := by decide +kernel
theorem dX5_init_15 : decode cX5_init 15 = .ok (.newarray .int, 2) := by decide +kernel
theorem dX5_init_17 : decode cX5_init 17 = .ok (.putfield 15, 3) := by decide +kernel
theorem dX5_init_20 : decode cX5_init 20 = .ok (.return_, 1) := by decide +kernel
theorem dX5_copy_0 : decode cX5_copy 0 = .ok (.aload_n 1, 1) := by decide +kernel
theorem dX5_copy_1 : decode cX5_copy 1 = .ok (.getfield 9, 3) := by decide +kernel
theorem dX5_copy_4 : decode cX5_copy 4 = .ok (.iconst 0, 1) := by decide +kernel
theorem dX5_copy_5 : decode cX5_copy 5 = .ok (.aload_n 0, 1) := by decide +kernel
theorem dX5_copy_6 : decode cX5_copy 6 = .ok (.getfield 9, 3) := by decide +kernel
theorem dX5_copy_9 : decode cX5_copy 9 = .ok (.iconst 0, 1) := by decide +kernel
theorem dX5_copy_10 : decode cX5_copy 10 = .ok (.bipush 6, 2) := by decide +kernel
theorem dX5_copy_12 : decode cX5_copy 12 = .ok (.invokestatic 18, 3) := by decide +kernel
theorem dX5_copy_15 : decode cX5_copy 15 = .ok (.aload_n 1, 1) := by decide +kernel
theorem dX5_copy_16 : decode cX5_copy 16 = .ok (.getfield 15, 3) := by decide +kernel
theorem dX5_copy_19 : decode cX5_copy 19 = .ok (.iconst 0, 1) := by decide +kernel
theorem dX5_copy_20 : decode cX5_copy 20 = .ok (.aload_n 0, 1) := by decide +kernel
theorem dX5_copy_21 : decode cX5_copy 21 = .ok (.getfield 15, 3) := by decide +kernel
theorem dX5_copy_24 : decode cX5_copy 24 = .ok (.iconst 0, 1) := by decide +kernel
theorem dX5_copy_25 : decode cX5_copy 25 = .ok (.bipush 36, 2) := by decide +kernel
theorem dX5_copy_27 : decode cX5_copy 27 = .ok (.invokestatic 18, 3) := by decide +kernel
theorem dX5_copy_30 : decode cX5_copy 30 = .ok (.return_, 1) := by decide +kernel
theorem dX5_makeEmpty_0 : decode cX5_makeEmpty 0 = .ok (.iconst 0, 1) := by decide +kernel
theorem dX5_makeEmpty_1 : decode cX5_makeEmpty 1 = .ok (.istore_n 1, 1) := by decide +kernel
theorem dX5_makeEmpty_2 : decode cX5_makeEmpty 2 = .ok (.iload_n 1, 1) := by decide +kernel
theorem dX5_makeEmpty_3 : decode cX5_makeEmpty 3 = .ok (.bipush 6, 2) := by decide +kernel
theorem dX5_makeEmpty_5 : decode cX5_makeEmpty 5 = .ok (.if_icmp .ge 16, 3) := by decide +kernel
theorem dX5_makeEmpty_8 : decode cX5_makeEmpty 8 = .ok (.aload_n 0, 1) := by decide +kernel
theorem dX5_makeEmpty_9 : decode cX5_makeEmpty 9 = .ok (.getfield 9, 3) := by decide +kernel
theorem dX5_makeEmpty_12 : decode cX5_makeEmpty 12 = .ok (.iload_n 1, 1) := by decide +kernel
theorem dX5_makeEmpty_13 : decode cX5_makeEmpty 13 = .ok (.iconst 0, 1) := by decide +kernel
theorem dX5_makeEmpty_14 : decode cX5_makeEmpty 14 = .ok (.iastore, 1) := by decide +kernel
theorem dX5_makeEmpty_15 : decode cX5_makeEmpty 15 = .ok (.iinc 1 1, 3) := by decide +kernel
theorem dX5_makeEmpty_18 : decode cX5_makeEmpty 18 = .ok (.goto (-16), 3) := by decide +kernel
theorem dX5_makeEmpty_21 : decode cX5_makeEmpty 21 = .ok (.return_, 1) := by decide +kernel
theorem dX5_at_0 : decode cX5_at 0 = .ok (.aload_n 0, 1) := by decide +kernel
theorem dX5_at_1 : decode cX5_at 1 = .ok (.getfield 15, 3) := by decide +kernel
theorem dX5_at_4 : decode cX5_at 4 = .ok (.iload_n 1, 1) := by decide +kernel
theorem dX5_at_5 : decode cX5_at 5 = .ok (.bipush 6, 2) := by decide +kernel
theorem dX5_at_7 : decode cX5_at 7 = .ok (.imul, 1) := by decide +kernel
theorem dX5_at_8 : decode cX5_at 8 = .ok (.iload_n 2, 1) := by decide +kernel
theorem dX5_at_9 : decode cX5_at 9 = .ok (.iadd, 1) := by decide +kernel
theorem dX5_at_10 : decode cX5_at 10 = .ok (.iaload, 1) := by decide +kernel
theorem dX5_at_11 : decode cX5_at 11 = .ok (.ireturn, 1) := by decide +kernel
theorem dX5_put_0 : decode cX5_put 0 = .ok (.aload_n 0, 1) := by decide +kernel
theorem dX5_put_1 : decode cX5_put 1 = .ok (.getfield 15, 3) := by decide +kernel
theorem dX5_put_4 : decode cX5_put 4 = .ok (.iload_n 1, 1) := by decide +kernel
theorem dX5_put_5 : decode cX5_put 5 = .ok (.bipush 6, 2) := by decide +kernel
theorem dX5_put_7 : decode cX5_put 7 = .ok (.imul, 1) := by decide +kernel
theorem dX5_put_8 : decode cX5_put 8 = .ok (.iload_n 2, 1) := by decide +kernel
theorem dX5_put_9 : decode cX5_put 9 = .ok (.iadd, 1) := by decide +kernel
theorem dX5_put_10 : decode cX5_put 10 = .ok (.iload_n 3, 1) := by decide +kernel
theorem dX5_put_11 : decode cX5_put 11 = .ok (.iastore, 1) := by decide +kernel
theorem dX5_put_12 : decode cX5_put 12 = .ok (.return_, 1) := by decide +kernel
theorem dX5_filled_0 : decode cX5_filled 0 = .ok (.iconst 0, 1) := by decide +kernel
theorem dX5_filled_1 : decode cX5_filled 1 = .ok (.istore_n 1, 1) := by decide +kernel
theorem dX5_filled_2 : decode cX5_filled 2 = .ok (.iconst 0, 1) := by decide +kernel
theorem dX5_filled_3 : decode cX5_filled 3 = .ok (.istore_n 2, 1) := by decide +kernel
theorem dX5_filled_4 : decode cX5_filled 4 = .ok (.iload_n 2, 1) := by decide +kernel
theorem dX5_filled_5 : decode cX5_filled 5 = .ok (.bipush 6, 2) := by decide +kernel
theorem dX5_filled_7 : decode cX5_filled 7 = .ok (.if_icmp .ge 18, 3) := by decide +kernel
theorem dX5_filled_10 : decode cX5_filled 10 = .ok (.iload_n 1, 1) := by decide +kernel
theorem dX5_filled_11 : decode cX5_filled 11 = .ok (.aload_n 0, 1) := by decide +kernel
theorem dX5_filled_12 : decode cX5_filled 12 = .ok (.getfield 9, 3) := by decide +kernel
theorem dX5_filled_15 : decode cX5_filled 15 = .ok (.iload_n 2, 1) := by decide +kernel
theorem dX5_filled_16 : decode cX5_filled 16 = .ok (.iaload, 1) := by decide +kernel
theorem dX5_filled_17 : decode cX5_filled 17 = .ok (.iadd, 1) := by decide +kernel
theorem dX5_filled_18 : decode cX5_filled 18 = .ok (.istore_n 1, 1) := by decide +kernel
theorem dX5_filled_19 : decode cX5_filled 19 = .ok (.iinc 2 1, 3) := by decide +kernel
theorem dX5_filled_22 : decode cX5_filled 22 = .ok (.goto (-18), 3) := by decide +kernel
theorem dX5_filled_25 : decode cX5_filled 25 = .ok (.iload_n 1, 1) := by decide +kernel
theorem dX5_filled_26 : decode cX5_filled 26 = .ok (.ireturn, 1) := by decide +kernel
set_option maxRecDepth 20000 in
theorem ggX5_placeOn_X5_at : GoodIn wsX5_placeOn wsX5_at := goodIn_r _ [6, 7, 8, 9] (by decide +kernel) (by decide +kernel)
set_option maxRecDepth 20000 in
theorem gX5_placeOn_X5_at : GoodIn wsX5_placeOn (wsV RX5 24 RX5 yX5_at wsX5_at) := goodIn_app (goodIn_of _ (by decide +kernel)) ggX5_placeOn_X5_at
theorem dX5_placeOn_0 : decode cX5_placeOn 0 = .ok (.iconst 0, 1) := by decide +kernel
theorem dX5_placeOn_1 : decode cX5_placeOn 1 = .ok (.istore_n 3, 1) := by decide +kernel
theorem dX5_placeOn_2 : decode cX5_placeOn 2 = .ok (.iload_n 3, 1) := by decide +kernel
theorem dX5_placeOn_3 : decode cX5_placeOn 3 = .ok (.aload_n 0, 1) := by decide +kernel
theorem dX5_placeOn_4 : decode cX5_placeOn 4 = .ok (.getfield 9, 3) := by decide +kernel
theorem dX5_placeOn_7 : decode cX5_placeOn 7 = .ok (.iload_n 1, 1) := by decide +kernel
theorem dX5_placeOn_8 : decode cX5_placeOn 8 = .ok (.iaload, 1) := by decide +kernel
theorem dX5_placeOn_9 : decode cX5_placeOn 9 = .ok (.if_icmp .ge 21, 3) := by decide +kernel
theorem dX5_placeOn_12 : decode cX5_placeOn 12 = .ok (.aload_n 0, 1) := by decide +kernel
theorem dX5_placeOn_13 : decode cX5_placeOn 13 = .ok (.iload_n 1, 1) := by decide +kernel
theorem dX5_placeOn_14 : decode cX5_placeOn 14 = .ok (.iload_n 3, 1) := by decide +kernel
theorem dX5_placeOn_15 : decode cX5_placeOn 15 = .ok (.invokevirtual 24, 3) := by decide +kernel
theorem dX5_placeOn_18 : decode cX5_placeOn 18 = .ok (.iload_n 2, 1) := by decide +kernel
theorem dX5_placeOn_19 : decode cX5_placeOn 19 = .ok (.if_icmp .ne 5, 3) := by decide +kernel
theorem dX5_placeOn_22 : decode cX5_placeOn 22 = .ok (.iload_n 3, 1) := by decide +kernel
theorem dX5_placeOn_23 : decode cX5_placeOn 23 = .ok (.ireturn, 1) := by decide +kernel
theorem dX5_placeOn_24 : decode cX5_placeOn 24 = .ok (.iinc 3 1, 3) := by decide +kernel
theorem dX5_placeOn_27 : decode cX5_placeOn 27 = .ok (.goto (-25), 3) := by decide +kernel
theorem dX5_placeOn_30 : decode cX5_placeOn 30 = .ok (.iconst (-1), 1) := by decide +kernel
theorem dX5_placeOn_31 : decode cX5_placeOn 31 = .ok (.ireturn, 1) := by decide +kernel
set_option maxRecDepth 20000 in
theorem ggX5_shelfOf_X5_placeOn : GoodIn wsX5_shelfOf wsX5_placeOn := goodIn_r _ [5, 6, 7, 8, 9, 4, 10, 11, 12, 13] (by decide +kernel) (by decide +kernel)
set_option maxRecDepth 20000 in
theorem gX5_shelfOf_X5_placeOn : GoodIn wsX5_shelfOf (wsV RX5 28 RX5 yX5_placeOn wsX5_placeOn) := goodIn_app (goodIn_of _ (by decide +kernel)) ggX5_shelfOf_X5_placeOn
theorem dX5_shelfOf_0 : decode cX5_shelfOf 0 = .ok (.iconst 0, 1) := by decide +kernel
theorem dX5_shelfOf_1 : decode cX5_shelfOf 1 = .ok (.istore_n 2, 1) := by decide +kernel
theorem dX5_shelfOf_2 : decode cX5_shelfOf 2 = .ok (.iload_n 2, 1) := by decide +kernel
theorem dX5_shelfOf_3 : decode cX5_shelfOf 3 = .ok (.bipush 6, 2) := by decide +kernel
theorem dX5_shelfOf_5 : decode cX5_shelfOf 5 = .ok (.if_icmp .ge 21, 3) := by decide +kernel
theorem dX5_shelfOf_8 : decode cX5_shelfOf 8 = .ok (.aload_n 0, 1) := by decide +kernel
theorem dX5_shelfOf_9 : decode cX5_shelfOf 9 = .ok (.iload_n 2, 1) := by decide +kernel
theorem dX5_shelfOf_10 : decode cX5_shelfOf 10 = .ok (.iload_n 1, 1) := by decide +kernel
theorem dX5_shelfOf_11 : decode cX5_shelfOf 11 = .ok (.invokevirtual 28, 3) := by decide +kernel
theorem dX5_shelfOf_14 : decode cX5_shelfOf 14 = .ok (.iconst (-1), 1) := by decide +kernel
theorem dX5_shelfOf_15 : decode cX5_shelfOf 15 = .ok (.if_icmp .eq 5, 3) := by decide +kernel
theorem dX5_shelfOf_18 : decode cX5_shelfOf 18 = .ok (.iload_n 2, 1) := by decide +kernel
theorem dX5_shelfOf_19 : decode cX5_shelfOf 19 = .ok (.ireturn, 1) := by decide +kernel
theorem dX5_shelfOf_20 : decode cX5_shelfOf 20 = .ok (.iinc 2 1, 3) := by decide +kernel
theorem dX5_shelfOf_23 : decode cX5_shelfOf 23 = .ok (.goto (-21), 3) := by decide +kernel
theorem dX5_shelfOf_26 : decode cX5_shelfOf 26 = .ok (.iconst (-1), 1) := by decide +kernel
theorem dX5_shelfOf_27 : decode cX5_shelfOf 27 = .ok (.ireturn, 1) := by decide +kernel
set_option maxRecDepth 20000 in
theorem ggX5_placeOf_X5_shelfOf : GoodIn wsX5_placeOf wsX5_shelfOf := goodIn_r _ [5, 6, 7, 8, 4, 9, 10, 11, 12, 13, 14, 15, 16, 17] (by decide +kernel) (by decide +kernel)
set_option maxRecDepth 20000 in
theorem gX5_placeOf_X5_shelfOf : GoodIn wsX5_placeOf (wsV RX5 31 RX5 yX5_shelfOf wsX5_shelfOf) := goodIn_app (goodIn_of _ (by decide +kernel)) ggX5_placeOf_X5_shelfOf
set_option maxRecDepth 20000 in
theorem ggX5_placeOf_X5_placeOn : GoodIn wsX5_placeOf wsX5_placeOn := goodIn_r _ [9, 10, 11, 12, 13, 4, 14, 15, 16, 17] (by decide +kernel) (by decide +kernel)
set_option maxRecDepth 20000 in
theorem gX5_placeOf_X5_placeOn : GoodIn wsX5_placeOf (wsV RX5 28 RX5 yX5_placeOn wsX5_placeOn) := goodIn_app (goodIn_of _ (by decide +kernel)) ggX5_placeOf_X5_placeOn
theorem dX5_placeOf_0 : decode cX5_placeOf 0 = .ok (.aload_n 0, 1) := by decide +kernel
theorem dX5_placeOf_1 : decode cX5_placeOf 1 = .ok (.iload_n 1, 1) := by decide +kernel
theorem dX5_placeOf_2 : decode cX5_placeOf 2 = .ok (.invokevirtual 31, 3) := by decide +kernel
theorem dX5_placeOf_5 : decode cX5_placeOf 5 = .ok (.istore_n 2, 1) := by decide +kernel
theorem dX5_placeOf_6 : decode cX5_placeOf 6 = .ok (.iload_n 2, 1) := by decide +kernel
theorem dX5_placeOf_7 : decode cX5_placeOf 7 = .ok (.iconst (-1), 1) := by decide +kernel
theorem dX5_placeOf_8 : decode cX5_placeOf 8 = .ok (.if_icmp .ne 7, 3) := by decide +kernel
theorem dX5_placeOf_11 : decode cX5_placeOf 11 = .ok (.iconst (-1), 1) := by decide +kernel
theorem dX5_placeOf_12 : decode cX5_placeOf 12 = .ok (.goto 9, 3) := by decide +kernel
theorem dX5_placeOf_15 : decode cX5_placeOf 15 = .ok (.aload_n 0, 1) := by decide +kernel
theorem dX5_placeOf_16 : decode cX5_placeOf 16 = .ok (.iload_n 2, 1) := by decide +kernel
theorem dX5_placeOf_17 : decode cX5_placeOf 17 = .ok (.iload_n 1, 1) := by decide +kernel
theorem dX5_placeOf_18 : decode cX5_placeOf 18 = .ok (.invokevirtual 28, 3) := by decide +kernel
theorem dX5_placeOf_21 : decode cX5_placeOf 21 = .ok (.ireturn, 1) := by decide +kernel
set_option maxRecDepth 20000 in
theorem ggX5_others_X5_placeOn : GoodIn wsX5_others wsX5_placeOn := goodIn_r _ [6, 1, 7, 8, 9, 5, 10, 11, 12, 13] (by decide +kernel) (by decide +kernel)
set_option maxRecDepth 20000 in
theorem gX5_others_X5_placeOn : GoodIn wsX5_others (wsV RX5 28 RX5 yX5_placeOn wsX5_placeOn) := goodIn_app (goodIn_of _ (by decide +kernel)) ggX5_others_X5_placeOn
theorem dX5_others_0 : decode cX5_others 0 = .ok (.aload_n 0, 1) := by decide +kernel
theorem dX5_others_1 : decode cX5_others 1 = .ok (.iload_n 1, 1) := by decide +kernel
theorem dX5_others_2 : decode cX5_others 2 = .ok (.iload_n 2, 1) := by decide +kernel
theorem dX5_others_3 : decode cX5_others 3 = .ok (.invokevirtual 28, 3) := by decide +kernel
theorem dX5_others_6 : decode cX5_others 6 = .ok (.iconst (-1), 1) := by decide +kernel
theorem dX5_others_7 : decode cX5_others 7 = .ok (.if_icmp .ne 12, 3) := by decide +kernel
theorem dX5_others_10 : decode cX5_others 10 = .ok (.aload_n 0, 1) := by decide +kernel
theorem dX5_others_11 : decode cX5_others 11 = .ok (.getfield 9, 3) := by decide +kernel
theorem dX5_others_14 : decode cX5_others 14 = .ok (.iload_n 1, 1) := by decide +kernel
theorem dX5_others_15 : decode cX5_others 15 = .ok (.iaload, 1) := by decide +kernel
theorem dX5_others_16 : decode cX5_others 16 = .ok (.goto 11, 3) := by decide +kernel
theorem dX5_others_19 : decode cX5_others 19 = .ok (.aload_n 0, 1) := by decide +kernel
theorem dX5_others_20 : decode cX5_others 20 = .ok (.getfield 9, 3) := by decide +kernel
theorem dX5_others_23 : decode cX5_others 23 = .ok (.iload_n 1, 1) := by decide +kernel
theorem dX5_others_24 : decode cX5_others 24 = .ok (.iaload, 1) := by decide +kernel
theorem dX5_others_25 : decode cX5_others 25 = .ok (.iconst 1, 1) := by decide +kernel
theorem dX5_others_26 : decode cX5_others 26 = .ok (.isub, 1) := by decide +kernel
theorem dX5_others_27 : decode cX5_others 27 = .ok (.ireturn, 1) := by decide +kernel
set_option maxRecDepth 20000 in
theorem ggX5_remove_X5_shelfOf : GoodIn wsX5_remove wsX5_shelfOf := goodIn_r _ [6, 7, 8, 9, 5, 10, 1, 11, 12, 13, 14, 15, 20, 21] (by decide +kernel) (by decide +kernel)
set_option maxRecDepth 20000 in
theorem gX5_remove_X5_shelfOf : GoodIn wsX5_remove (wsV RX5 31 RX5 yX5_shelfOf wsX5_shelfOf) := goodIn_app (goodIn_of _ (by decide +kernel)) ggX5_remove_X5_shelfOf
set_option maxRecDepth 20000 in
theorem ggX5_remove_X5_placeOn : GoodIn wsX5_remove wsX5_placeOn := goodIn_r _ [10, 1, 11, 12, 13, 5, 14, 15, 20, 21] (by decide +kernel) (by decide +kernel)
set_option maxRecDepth 20000 in
theorem gX5_remove_X5_placeOn : GoodIn wsX5_remove (wsV RX5 28 RX5 yX5_placeOn wsX5_placeOn) := goodIn_app (goodIn_of _ (by decide +kernel)) ggX5_remove_X5_placeOn
set_option maxRecDepth 20000 in
theorem ggX5_remove_X5_at : GoodIn wsX5_remove wsX5_at := goodIn_r _ [14, 15, 20, 21] (by decide +kernel) (by decide +kernel)
set_option maxRecDepth 20000 in
theorem gX5_remove_X5_at : GoodIn wsX5_remove (wsV RX5 24 RX5 yX5_at wsX5_at) := goodIn_app (goodIn_of _ (by decide +kernel)) ggX5_remove_X5_at
set_option maxRecDepth 20000 in
theorem ggX5_remove_X5_put : GoodIn wsX5_remove wsX5_put := goodIn_r _ [19, 15, 20, 21] (by decide +kernel) (by decide +kernel)
set_option maxRecDepth 20000 in
theorem gX5_remove_X5_put : GoodIn wsX5_remove (wsV RX5 35 RX5 yX5_put wsX5_put) := goodIn_app (goodIn_of _ (by decide +kernel)) ggX5_remove_X5_put
theorem dX5_remove_0 : decode cX5_remove 0 = .ok (.aload_n 0, 1) := by decide +kernel
theorem dX5_remove_1 : decode cX5_remove 1 = .ok (.iload_n 1, 1) := by decide +kernel
theorem dX5_remove_2 : decode cX5_remove 2 = .ok (.invokevirtual 31, 3) := by decide +kernel
theorem dX5_remove_5 : decode cX5_remove 5 = .ok (.istore_n 2, 1) := by decide +kernel
theorem dX5_remove_6 : decode cX5_remove 6 = .ok (.iload_n 2, 1) := by decide +kernel
theorem dX5_remove_7 : decode cX5_remove 7 = .ok (.iconst (-1), 1) := by decide +kernel
theorem dX5_remove_8 : decode cX5_remove 8 = .ok (.if_icmp .ne 4, 3) := by decide +kernel
theorem dX5_remove_11 : decode cX5_remove 11 = .ok (.return_, 1) := by decide +kernel
theorem dX5_remove_12 : decode cX5_remove 12 = .ok (.aload_n 0, 1) := by decide +kernel
theorem dX5_remove_13 : decode cX5_remove 13 = .ok (.iload_n 2, 1) := by decide +kernel
theorem dX5_remove_14 : decode cX5_remove 14 = .ok (.iload_n 1, 1) := by decide +kernel
theorem dX5_remove_15 : decode cX5_remove 15 = .ok (.invokevirtual 28, 3) := by decide +kernel
theorem dX5_remove_18 : decode cX5_remove 18 = .ok (.iconst 1, 1) := by decide +kernel
theorem dX5_remove_19 : decode cX5_remove 19 = .ok (.iadd, 1) := by decide +kernel
theorem dX5_remove_20 : decode cX5_remove 20 = .ok (.istore_n 3, 1) := by decide +kernel
theorem dX5_remove_21 : decode cX5_remove 21 = .ok (.iload_n 3, 1) := by decide +kernel
theorem dX5_remove_22 : decode cX5_remove 22 = .ok (.aload_n 0, 1) := by decide +kernel
theorem dX5_remove_23 : decode cX5_remove 23 = .ok (.getfield 9, 3) := by decide +kernel
theorem dX5_remove_26 : decode cX5_remove 26 = .ok (.iload_n 2, 1) := by decide +kernel
theorem dX5_remove_27 : decode cX5_remove 27 = .ok (.iaload, 1) := by decide +kernel
theorem dX5_remove_28 : decode cX5_remove 28 = .ok (.if_icmp .ge 23, 3) := by decide +kernel
theorem dX5_remove_31 : decode cX5_remove 31 = .ok (.aload_n 0, 1) := by decide +kernel
theorem dX5_remove_32 : decode cX5_remove 32 = .ok (.iload_n 2, 1) := by decide +kernel
theorem dX5_remove_33 : decode cX5_remove 33 = .ok (.iload_n 3, 1) := by decide +kernel
theorem dX5_remove_34 : decode cX5_remove 34 = .ok (.iconst 1, 1) := by decide +kernel
theorem dX5_remove_35 : decode cX5_remove 35 = .ok (.isub, 1) := by decide +kernel
theorem dX5_remove_36 : decode cX5_remove 36 = .ok (.aload_n 0, 1) := by decide +kernel
theorem dX5_remove_37 : decode cX5_remove 37 = .ok (.iload_n 2, 1) := by decide +kernel
theorem dX5_remove_38 : decode cX5_remove 38 = .ok (.iload_n 3, 1) := by decide +kernel
theorem dX5_remove_39 : decode cX5_remove 39 = .ok (.invokevirtual 24, 3) := by decide +kernel
theorem dX5_remove_42 : decode cX5_remove 42 = .ok (.invokevirtual 35, 3) := by decide +kernel
theorem dX5_remove_45 : decode cX5_remove 45 = .ok (.iinc 3 1, 3) := by decide +kernel
theorem dX5_remove_48 : decode cX5_remove 48 = .ok (.goto (-27), 3) := by decide +kernel
theorem dX5_remove_51 : decode cX5_remove 51 = .ok (.aload_n 0, 1) := by decide +kernel
theorem dX5_remove_52 : decode cX5_remove 52 = .ok (.getfield 9, 3) := by decide +kernel
theorem dX5_remove_55 : decode cX5_remove 55 = .ok (.iload_n 2, 1) := by decide +kernel
theorem dX5_remove_56 : decode cX5_remove 56 = .ok (.dup2, 1) := by decide +kernel
theorem dX5_remove_57 : decode cX5_remove 57 = .ok (.iaload, 1) := by decide +kernel
theorem dX5_remove_58 : decode cX5_remove 58 = .ok (.iconst 1, 1) := by decide +kernel
theorem dX5_remove_59 : decode cX5_remove 59 = .ok (.isub, 1) := by decide +kernel
theorem dX5_remove_60 : decode cX5_remove 60 = .ok (.iastore, 1) := by decide +kernel
theorem dX5_remove_61 : decode cX5_remove 61 = .ok (.return_, 1) := by decide +kernel
set_option maxRecDepth 20000 in
theorem ggX5_insert_X5_at : GoodIn wsX5_insert wsX5_at := goodIn_r _ [6, 7, 12, 13] (by decide +kernel) (by decide +kernel)
set_option maxRecDepth 20000 in
theorem gX5_insert_X5_at : GoodIn wsX5_insert (wsV RX5 24 RX5 yX5_at wsX5_at) := goodIn_app (goodIn_of _ (by decide +kernel)) ggX5_insert_X5_at
set_option maxRecDepth 20000 in
theorem ggX5_insert_X5_put : GoodIn wsX5_insert wsX5_put := goodIn_r _ [11, 7, 12, 13] (by decide +kernel) (by decide +kernel)
set_option maxRecDepth 20000 in
theorem gX5_insert_X5_put : GoodIn wsX5_insert (wsV RX5 35 RX5 yX5_put wsX5_put) := goodIn_app (goodIn_of _ (by decide +kernel)) ggX5_insert_X5_put
theorem dX5_insert_0 : decode cX5_insert 0 = .ok (.aload_n 0, 1) := by decide +kernel
theorem dX5_insert_1 : decode cX5_insert 1 = .ok (.getfield 9, 3) := by decide +kernel
theorem dX5_insert_4 : decode cX5_insert 4 = .ok (.iload_n 1, 1) := by decide +kernel
theorem dX5_insert_5 : decode cX5_insert 5 = .ok (.iaload, 1) := by decide +kernel
theorem dX5_insert_6 : decode cX5_insert 6 = .ok (.istore 4, 2) := by decide +kernel
theorem dX5_insert_8 : decode cX5_insert 8 = .ok (.iload 4, 2) := by decide +kernel
theorem dX5_insert_10 : decode cX5_insert 10 = .ok (.iload_n 2, 1) := by decide +kernel
theorem dX5_insert_11 : decode cX5_insert 11 = .ok (.if_icmp .le 25, 3) := by decide +kernel
theorem dX5_insert_14 : decode cX5_insert 14 = .ok (.aload_n 0, 1) := by decide +kernel
theorem dX5_insert_15 : decode cX5_insert 15 = .ok (.iload_n 1, 1) := by decide +kernel
theorem dX5_insert_16 : decode cX5_insert 16 = .ok (.iload 4, 2) := by decide +kernel
theorem dX5_insert_18 : decode cX5_insert 18 = .ok (.aload_n 0, 1) := by decide +kernel
theorem dX5_insert_19 : decode cX5_insert 19 = .ok (.iload_n 1, 1) := by decide +kernel
theorem dX5_insert_20 : decode cX5_insert 20 = .ok (.iload 4, 2) := by decide +kernel
theorem dX5_insert_22 : decode cX5_insert 22 = .ok (.iconst 1, 1) := by decide +kernel
theorem dX5_insert_23 : decode cX5_insert 23 = .ok (.isub, 1) := by decide +kernel
theorem dX5_insert_24 : decode cX5_insert 24 = .ok (.invokevirtual 24, 3) := by decide +kernel
theorem dX5_insert_27 : decode cX5_insert 27 = .ok (.invokevirtual 35, 3) := by decide +kernel
theorem dX5_insert_30 : decode cX5_insert 30 = .ok (.iinc 4 (-1), 3) := by decide +kernel
theorem dX5_insert_33 : decode cX5_insert 33 = .ok (.goto (-25), 3) := by decide +kernel
theorem dX5_insert_36 : decode cX5_insert 36 = .ok (.aload_n 0, 1) := by decide +kernel
theorem dX5_insert_37 : decode cX5_insert 37 = .ok (.iload_n 1, 1) := by decide +kernel
theorem dX5_insert_38 : decode cX5_insert 38 = .ok (.iload_n 2, 1) := by decide +kernel
theorem dX5_insert_39 : decode cX5_insert 39 = .ok (.iload_n 3, 1) := by decide +kernel
theorem dX5_insert_40 : decode cX5_insert 40 = .ok (.invokevirtual 35, 3) := by decide +kernel
theorem dX5_insert_43 : decode cX5_insert 43 = .ok (.aload_n 0, 1) := by decide +kernel
theorem dX5_insert_44 : decode cX5_insert 44 = .ok (.getfield 9, 3) := by decide +kernel
theorem dX5_insert_47 : decode cX5_insert 47 = .ok (.iload_n 1, 1) := by decide +kernel
theorem dX5_insert_48 : decode cX5_insert 48 = .ok (.dup2, 1) := by decide +kernel
theorem dX5_insert_49 : decode cX5_insert 49 = .ok (.iaload, 1) := by decide +kernel
theorem dX5_insert_50 : decode cX5_insert 50 = .ok (.iconst 1, 1) := by decide +kernel
theorem dX5_insert_51 : decode cX5_insert 51 = .ok (.iadd, 1) := by decide +kernel
theorem dX5_insert_52 : decode cX5_insert 52 = .ok (.iastore, 1) := by decide +kernel
theorem dX5_insert_53 : decode cX5_insert 53 = .ok (.return_, 1) := by decide +kernel
set_option maxRecDepth 20000 in
theorem ggX6_init_X3_init : GoodIn wsX6_init wsX3_init := goodIn_r _ [23, 24, 2, 3, 20, 25, 26, 61, 62, 63] (by decide +kernel) (by decide +kernel)
set_option maxRecDepth 20000 in
theorem gX6_init_X3_init_n11 : GoodIn wsX6_init (wsX3_init) := ggX6_init_X3_init
set_option maxRecDepth 20000 in
theorem ggX6_init_X0_init : GoodIn wsX6_init wsX0_init := goodIn_r _ [28, 29, 2, 3, 20, 30, 31, 32, 33, 34, 69, 70, 71, 72, 73, 74] (by decide +kernel) (by decide +kernel)
set_option maxRecDepth 20000 in
theorem gX6_init_X0_init_n20 : GoodIn wsX6_init (wsX0_init) := ggX6_init_X0_init
set_option maxRecDepth 20000 in
theorem ggX6_init_X4_init : GoodIn wsX6_init wsX4_init := goodIn_r _ [36, 37, 2, 3, 20, 38, 39, 40, 41, 42, 43, 75, 76, 77, 78, 79, 80, 81] (by decide +kernel) (by decide +kernel)
set_option maxRecDepth 20000 in
theorem gX6_init_X4_init_n27 : GoodIn wsX6_init (wsX4_init) := ggX6_init_X4_init
set_option maxRecDepth 20000 in
theorem ggX6_init_X5_init : GoodIn wsX6_init wsX5_init := goodIn_r _ [45, 46, 2, 3, 20, 47, 48, 82, 83] (by decide +kernel) (by decide +kernel)
set_option maxRecDepth 20000 in
theorem gX6_init_X5_init_n34 : GoodIn wsX6_init (wsX5_init) := ggX6_init_X5_init
set_option maxRecDepth 20000 in
theorem ggX6_init_X6_makeEmpty : GoodIn wsX6_init wsX6_makeEmpty := goodIn_r _ [53, 7, 54, 11, 55, 15, 56, 19, 21, 57, 58, 59, 18, 60, 47, 64, 65, 66, 67, 68, 61, 62, 63, 69, 70, 71, 72, 73, 74, 75, 76, 77, 78, 79, 80, 81, 82, 83] (by decide +kernel) (by decide +kernel)
set_option maxRecDepth 20000 in
theorem gX6_init_X6_makeEmpty : GoodIn wsX6_init (wsV RX6 43 RX6 yX6_makeEmpty wsX6_makeEmpty) := goodIn_app (goodIn_of _ (by decide +kernel)) ggX6_init_X6_makeEmpty
theorem dX6_init_0 : decode cX6_init 0 = .ok (.aload_n 0, 1) := by decide +kernel
theorem dX6_init_1 : decode cX6_init 1 = .ok (.invokespecial 3, 3) := by decide +kernel
theorem dX6_init_4 : decode cX6_init 4 = .ok (.aload_n 0, 1) := by decide +kernel
theorem dX6_init_5 : decode cX6_init 5 = .ok (.new 9, 3) := by decide +kernel
theorem dX6_init_8 : decode cX6_init 8 = .ok (.dup, 1) := by decide +kernel
theorem dX6_init_9 : decode cX6_init 9 = .ok (.invokespecial 11, 3) := by decide +kernel
theorem dX6_init_12 : decode cX6_init 12 = .ok (.putfield 12, 3) := by decide +kernel
theorem dX6_init_15 : decode cX6_init 15 = .ok (.aload_n 0, 1) := by decide +kernel
theorem dX6_init_16 : decode cX6_init 16 = .ok (.new 18, 3) := by decide +kernel
theorem dX6_init_19 : decode cX6_init 19 = .ok (.dup, 1) := by decide +kernel
theorem dX6_init_20 : decode cX6_init 20 = .ok (.invokespecial 20, 3) := by decide +kernel
theorem dX6_init_23 : decode cX6_init 23 = .ok (.putfield 21, 3) := by decide +kernel
theorem dX6_init_26 : decode cX6_init 26 = .ok (.aload_n 0, 1) := by decide +kernel
theorem dX6_init_27 : decode cX6_init 27 = .ok (.new 25, 3) := by decide +kernel
theorem dX6_init_30 : decode cX6_init 30 = .ok (.dup, 1) := by decide +kernel
theorem dX6_init_31 : decode cX6_init 31 = .ok (.invokespecial 27, 3) := by decide +kernel
theorem dX6_init_34 : decode cX6_init 34 = .ok (.putfield 28, 3) := by decide +kernel
theorem dX6_init_37 : decode cX6_init 37 = .ok (.aload_n 0, 1) := by decide +kernel
theorem dX6_init_38 : decode cX6_init 38 = .ok (.new 32, 3) := by decide +kernel
theorem dX6_init_41 : decode cX6_init 41 = .ok (.dup, 1) := by decide +kernel
theorem dX6_init_42 : decode cX6_init 42 = .ok (.invokespecial 34, 3) := by decide +kernel
theorem dX6_init_45 : decode cX6_init 45 = .ok (.putfield 35, 3) := by decide +kernel
theorem dX6_init_48 : decode cX6_init 48 = .ok (.aload_n 0, 1) := by decide +kernel
theorem dX6_init_49 : decode cX6_init 49 = .ok (.iconst 2, 1) := by decide +kernel
theorem dX6_init_50 : decode cX6_init 50 = .ok (.newarray .int, 2) := by decide +kernel
theorem dX6_init_52 : decode cX6_init 52 = .ok (.putfield 39, 3) := by decide +kernel
theorem dX6_init_55 : decode cX6_init 55 = .ok (.aload_n 0, 1) := by decide +kernel
theorem dX6_init_56 : decode cX6_init 56 = .ok (.invokevirtual 43, 3) := by decide +kernel
theorem dX6_init_59 : decode cX6_init 59 = .ok (.return_, 1) := by decide +kernel
set_option maxRecDepth 20000 in
theorem ggX6_makeEmpty_X5_makeEmpty : GoodIn wsX6_makeEmpty wsX5_makeEmpty := goodIn_r _ [13, 14, 36, 37] (by decide +kernel) (by decide +kernel)
set_option maxRecDepth 20000 in
theorem gX6_makeEmpty_X5_makeEmpty : GoodIn wsX6_makeEmpty (wsV RX6 52 RX5 yX5_makeEmpty wsX5_makeEmpty) := goodIn_app (goodIn_of _ (by decide +kernel)) ggX6_makeEmpty_X5_makeEmpty
theorem dX6_makeEmpty_0 : decode cX6_makeEmpty 0 = .ok (.aload_n 0, 1) := by decide +kernel
theorem dX6_makeEmpty_1 : decode cX6_makeEmpty 1 = .ok (.getfield 12, 3) := by decide +kernel
theorem dX6_makeEmpty_4 : decode cX6_makeEmpty 4 = .ok (.iconst 0, 1) := by decide +kernel
theorem dX6_makeEmpty_5 : decode cX6_makeEmpty 5 = .ok (.putfield 46, 3) := by decide +kernel
theorem dX6_makeEmpty_8 : decode cX6_makeEmpty 8 = .ok (.aload_n 0, 1) := by decide +kernel
theorem dX6_makeEmpty_9 : decode cX6_makeEmpty 9 = .ok (.getfield 21, 3) := by decide +kernel
theorem dX6_makeEmpty_12 : decode cX6_makeEmpty 12 = .ok (.iconst 0, 1) := by decide +kernel
theorem dX6_makeEmpty_13 : decode cX6_makeEmpty 13 = .ok (.putfield 50, 3) := by decide +kernel
theorem dX6_makeEmpty_16 : decode cX6_makeEmpty 16 = .ok (.aload_n 0, 1) := by decide +kernel
theorem dX6_makeEmpty_17 : decode cX6_makeEmpty 17 = .ok (.getfield 28, 3) := by decide +kernel
theorem dX6_makeEmpty_20 : decode cX6_makeEmpty 20 = .ok (.iconst 0, 1) := by decide +kernel
theorem dX6_makeEmpty_21 : decode cX6_makeEmpty 21 = .ok (.putfield 51, 3) := by decide +kernel
theorem dX6_makeEmpty_24 : decode cX6_makeEmpty 24 = .ok (.aload_n 0, 1) := by decide +kernel
theorem dX6_makeEmpty_25 : decode cX6_makeEmpty 25 = .ok (.getfield 35, 3) := by decide +kernel
theorem dX6_makeEmpty_28 : decode cX6_makeEmpty 28 = .ok (.invokevirtual 52, 3) := by decide +kernel
theorem dX6_makeEmpty_31 : decode cX6_makeEmpty 31 = .ok (.aload_n 0, 1) := by decide +kernel
theorem dX6_makeEmpty_32 : decode cX6_makeEmpty 32 = .ok (.getfield 39, 3) := by decide +kernel
theorem dX6_makeEmpty_35 : decode cX6_makeEmpty 35 = .ok (.iconst 0, 1) := by decide +kernel
theorem dX6_makeEmpty_36 : decode cX6_makeEmpty 36 = .ok (.bipush 10, 2) := by decide +kernel
theorem dX6_makeEmpty_38 : decode cX6_makeEmpty 38 = .ok (.iastore, 1) := by decide +kernel
theorem dX6_makeEmpty_39 : decode cX6_makeEmpty 39 = .ok (.aload_n 0, 1) := by decide +kernel
theorem dX6_makeEmpty_40 : decode cX6_makeEmpty 40 = .ok (.getfield 39, 3) := by decide +kernel
theorem dX6_makeEmpty_43 : decode cX6_makeEmpty 43 = .ok (.iconst 1, 1) := by decide +kernel
theorem dX6_makeEmpty_44 : decode cX6_makeEmpty 44 = .ok (.iconst 3, 1) := by decide +kernel
theorem dX6_makeEmpty_45 : decode cX6_makeEmpty 45 = .ok (.iastore, 1) := by decide +kernel
theorem dX6_makeEmpty_46 : decode cX6_makeEmpty 46 = .ok (.return_, 1) := by decide +kernel
set_option maxRecDepth 20000 in
theorem ggX6_copy_X3_copy : GoodIn wsX6_copy wsX3_copy := goodIn_r _ [14, 15, 16, 17, 7, 8, 9, 18, 57, 58, 59] (by decide +kernel) (by decide +kernel)
set_option maxRecDepth 20000 in
theorem gX6_copy_X3_copy : GoodIn wsX6_copy (wsV RX6 53 RX3 yX3_copy wsX3_copy) := goodIn_app (goodIn_of _ (by decide +kernel)) ggX6_copy_X3_copy
set_option maxRecDepth 20000 in
theorem ggX6_copy_X0_copy : GoodIn wsX6_copy wsX0_copy := goodIn_r _ [23, 24, 25, 26, 7, 8, 9, 27, 28, 29, 30, 60, 61, 62, 63, 64, 65] (by decide +kernel) (by decide +kernel)
set_option maxRecDepth 20000 in
theorem gX6_copy_X0_copy : GoodIn wsX6_copy (wsV RX6 57 RX0 yX0_copy wsX0_copy) := goodIn_app (goodIn_of _ (by decide +kernel)) ggX6_copy_X0_copy
set_option maxRecDepth 20000 in
theorem ggX6_copy_X4_copy : GoodIn wsX6_copy wsX4_copy := goodIn_r _ [35, 36, 37, 38, 7, 8, 9, 39, 40, 41, 42, 43, 66, 67, 68, 69, 70, 71, 72] (by decide +kernel) (by decide +kernel)
set_option maxRecDepth 20000 in
theorem gX6_copy_X4_copy : GoodIn wsX6_copy (wsV RX6 60 RX4 yX4_copy wsX4_copy) := goodIn_app (goodIn_of _ (by decide +kernel)) ggX6_copy_X4_copy
set_option maxRecDepth 20000 in
theorem ggX6_copy_X5_copy : GoodIn wsX6_copy wsX5_copy := goodIn_r _ [48, 49, 50, 7, 8, 9, 51, 73, 74] (by decide +kernel) (by decide +kernel)
set_option maxRecDepth 20000 in
theorem gX6_copy_X5_copy : GoodIn wsX6_copy (wsV RX6 63 RX5 yX5_copy wsX5_copy) := goodIn_app (goodIn_of _ (by decide +kernel)) ggX6_copy_X5_copy
theorem dX6_copy_0 : decode cX6_copy 0 = .ok (.aload_n 0, 1) := by decide +kernel
theorem dX6_copy_1 : decode cX6_copy 1 = .ok (.getfield 12, 3) := by decide +kernel
theorem dX6_copy_4 : decode cX6_copy 4 = .ok (.aload_n 1, 1) := by decide +kernel
theorem dX6_copy_5 : decode cX6_copy 5 = .ok (.getfield 12, 3) := by decide +kernel
theorem dX6_copy_8 : decode cX6_copy 8 = .ok (.invokevirtual 53, 3) := by decide +kernel
theorem dX6_copy_11 : decode cX6_copy 11 = .ok (.aload_n 0, 1) := by decide +kernel
theorem dX6_copy_12 : decode cX6_copy 12 = .ok (.getfield 21, 3) := by decide +kernel
theorem dX6_copy_15 : decode cX6_copy 15 = .ok (.aload_n 1, 1) := by decide +kernel
theorem dX6_copy_16 : decode cX6_copy 16 = .ok (.getfield 21, 3) := by decide +kernel
theorem dX6_copy_19 : decode cX6_copy 19 = .ok (.invokevirtual 57, 3) := by decide +kernel
theorem dX6_copy_22 : decode cX6_copy 22 = .ok (.aload_n 0, 1) := by decide +kernel
theorem dX6_copy_23 : decode cX6_copy 23 = .ok (.getfield 28, 3) := by decide +kernel
theorem dX6_copy_26 : decode cX6_copy 26 = .ok (.aload_n 1, 1) := by decide +kernel
theorem dX6_copy_27 : decode cX6_copy 27 = .ok (.getfield 28, 3) := by decide +kernel
theorem dX6_copy_30 : decode cX6_copy 30 = .ok (.invokevirtual 60, 3) := by decide +kernel
theorem dX6_copy_33 : decode cX6_copy 33 = .ok (.aload_n 0, 1) := by decide +kernel
theorem dX6_copy_34 : decode cX6_copy 34 = .ok (.getfield 35, 3) := by decide +kernel
theorem dX6_copy_37 : decode cX6_copy 37 = .ok (.aload_n 1, 1) := by decide +kernel
theorem dX6_copy_38 : decode cX6_copy 38 = .ok (.getfield 35, 3) := by decide +kernel
theorem dX6_copy_41 : decode cX6_copy 41 = .ok (.invokevirtual 63, 3) := by decide +kernel
theorem dX6_copy_44 : decode cX6_copy 44 = .ok (.aload_n 1, 1) := by decide +kernel
theorem dX6_copy_45 : decode cX6_copy 45 = .ok (.getfield 39, 3) := by decide +kernel
theorem dX6_copy_48 : decode cX6_copy 48 = .ok (.iconst 0, 1) := by decide +kernel
theorem dX6_copy_49 : decode cX6_copy 49 = .ok (.aload_n 0, 1) := by decide +kernel
theorem dX6_copy_50 : decode cX6_copy 50 = .ok (.getfield 39, 3) := by decide +kernel
theorem dX6_copy_53 : decode cX6_copy 53 = .ok (.iconst 0, 1) := by decide +kernel
theorem dX6_copy_54 : decode cX6_copy 54 = .ok (.iconst 2, 1) := by decide +kernel
theorem dX6_copy_55 : decode cX6_copy 55 = .ok (.invokestatic 66, 3) := by decide +kernel
theorem dX6_copy_58 : decode cX6_copy 58 = .ok (.return_, 1) := by decide +kernel
set_option maxRecDepth 20000 in
theorem ggX6_enter_X6_addReign : GoodIn wsX6_enter wsX6_addReign := goodIn_r _ [13, 14, 15, 16, 17, 18, 19, 20, 21, 22, 23, 24, 25, 26, 27, 108, 109, 110, 111, 112, 113, 114, 115] (by decide +kernel) (by decide +kernel)
set_option maxRecDepth 20000 in
theorem gX6_enter_X6_addReign : GoodIn wsX6_enter (wsV RX6 83 RX6 yX6_addReign wsX6_addReign) := goodIn_app (goodIn_of _ (by decide +kernel)) ggX6_enter_X6_addReign
set_option maxRecDepth 20000 in
theorem ggX6_enter_X6_addDie : GoodIn wsX6_enter wsX6_addDie := goodIn_r _ [31, 32, 33, 34, 35, 36, 37, 18, 19, 20, 108, 109, 110, 111, 112, 116, 117, 118, 119, 120, 121] (by decide +kernel) (by decide +kernel)
set_option maxRecDepth 20000 in
theorem gX6_enter_X6_addDie : GoodIn wsX6_enter (wsV RX6 93 RX6 yX6_addDie wsX6_addDie) := goodIn_app (goodIn_of _ (by decide +kernel)) ggX6_enter_X6_addDie
set_option maxRecDepth 20000 in
theorem ggX6_enter_X6_addCrack : GoodIn wsX6_enter wsX6_addCrack := goodIn_r _ [41, 32, 37, 42, 43, 44, 45, 46, 47, 48, 18, 19, 20, 49, 50, 51, 52, 53, 54, 55, 56, 57, 58, 108, 109, 110, 111, 112, 116, 117, 118, 119, 120, 121] (by decide +kernel) (by decide +kernel)
set_option maxRecDepth 20000 in
theorem gX6_enter_X6_addCrack : GoodIn wsX6_enter (wsV RX6 97 RX6 yX6_addCrack wsX6_addCrack) := goodIn_app (goodIn_of _ (by decide +kernel)) ggX6_enter_X6_addCrack
set_option maxRecDepth 20000 in
theorem ggX6_enter_X6_addSeal : GoodIn wsX6_enter wsX6_addSeal := goodIn_r _ [62, 32, 63, 64, 65, 66, 67, 68, 69, 70, 43, 44, 45, 46, 47, 48, 71, 19, 72, 73, 74, 75, 76, 77, 78, 53, 108, 109, 110, 111, 112, 122, 123, 124, 125, 126, 127, 128, 116, 117, 118, 119, 120, 121] (by decide +kernel) (by decide +kernel)
set_option maxRecDepth 20000 in
theorem gX6_enter_X6_addSeal : GoodIn wsX6_enter (wsV RX6 106 RX6 yX6_addSeal wsX6_addSeal) := goodIn_app (goodIn_of _ (by decide +kernel)) ggX6_enter_X6_addSeal
set_option maxRecDepth 20000 in
theorem ggX6_enter_X6_hangOn : GoodIn wsX6_enter wsX6_hangOn := goodIn_r _ [82, 63, 70, 83, 84, 85, 86, 87, 88, 89, 19, 90, 91, 92, 93, 94, 95, 108, 109, 110, 111, 112, 122, 123, 124, 125, 126, 127, 128] (by decide +kernel) (by decide +kernel)
set_option maxRecDepth 20000 in
theorem gX6_enter_X6_hangOn : GoodIn wsX6_enter (wsV RX6 113 RX6 yX6_hangOn wsX6_hangOn) := goodIn_app (goodIn_of _ (by decide +kernel)) ggX6_enter_X6_hangOn
theorem dX6_enter_0 : decode cX6_enter 0 = .ok (.aload_n 1, 1) := by decide +kernel
theorem dX6_enter_1 : decode cX6_enter 1 = .ok (.getfield 72, 3) := by decide +kernel
theorem dX6_enter_4 : decode cX6_enter 4 = .ok (.lookupswitch 139 #[(98, 117), (100, 65), (107, 82), (114, 52), (119, 95)], 52) := by decide +kernel
theorem dX6_enter_56 : decode cX6_enter 56 = .ok (.aload_n 0, 1) := by decide +kernel
theorem dX6_enter_57 : decode cX6_enter 57 = .ok (.aload_n 1, 1) := by decide +kernel
theorem dX6_enter_58 : decode cX6_enter 58 = .ok (.getfield 77, 3) := by decide +kernel
theorem dX6_enter_61 : decode cX6_enter 61 = .ok (.aload_n 1, 1) := by decide +kernel
theorem dX6_enter_62 : decode cX6_enter 62 = .ok (.getfield 80, 3) := by decide +kernel
theorem dX6_enter_65 : decode cX6_enter 65 = .ok (.invokevirtual 83, 3) := by decide +kernel
theorem dX6_enter_68 : decode cX6_enter 68 = .ok (.ireturn, 1) := by decide +kernel
theorem dX6_enter_69 : decode cX6_enter 69 = .ok (.aload_n 0, 1) := by decide +kernel
theorem dX6_enter_70 : decode cX6_enter 70 = .ok (.aload_n 1, 1) := by decide +kernel
theorem dX6_enter_71 : decode cX6_enter 71 = .ok (.getfield 87, 3) := by decide +kernel
theorem dX6_enter_74 : decode cX6_enter 74 = .ok (.aload_n 1, 1) := by decide +kernel
theorem dX6_enter_75 : decode cX6_enter 75 = .ok (.getfield 77, 3) := by decide +kernel
theorem dX6_enter_78 : decode cX6_enter 78 = .ok (.aload_n 1, 1) := by decide +kernel
theorem dX6_enter_79 : decode cX6_enter 79 = .ok (.getfield 90, 3) := by decide +kernel
theorem dX6_enter_82 : decode cX6_enter 82 = .ok (.invokevirtual 93, 3) := by decide +kernel
theorem dX6_enter_85 : decode cX6_enter 85 = .ok (.ireturn, 1) := by decide +kernel
theorem dX6_enter_86 : decode cX6_enter 86 = .ok (.aload_n 0, 1) := by decide +kernel
theorem dX6_enter_87 : decode cX6_enter 87 = .ok (.aload_n 1, 1) := by decide +kernel
theorem dX6_enter_88 : decode cX6_enter 88 = .ok (.getfield 87, 3) := by decide +kernel
theorem dX6_enter_91 : decode cX6_enter 91 = .ok (.aload_n 1, 1) := by decide +kernel
theorem dX6_enter_92 : decode cX6_enter 92 = .ok (.getfield 77, 3) := by decide +kernel
theorem dX6_enter_95 : decode cX6_enter 95 = .ok (.invokevirtual 97, 3) := by decide +kernel
theorem dX6_enter_98 : decode cX6_enter 98 = .ok (.ireturn, 1) := by decide +kernel
theorem dX6_enter_99 : decode cX6_enter 99 = .ok (.aload_n 0, 1) := by decide +kernel
theorem dX6_enter_100 : decode cX6_enter 100 = .ok (.aload_n 1, 1) := by decide +kernel
theorem dX6_enter_101 : decode cX6_enter 101 = .ok (.getfield 87, 3) := by decide +kernel
theorem dX6_enter_104 : decode cX6_enter 104 = .ok (.iconst 0, 1) := by decide +kernel
theorem dX6_enter_105 : decode cX6_enter 105 = .ok (.aload_n 1, 1) := by decide +kernel
theorem dX6_enter_106 : decode cX6_enter 106 = .ok (.getfield 100, 3) := by decide +kernel
theorem dX6_enter_109 : decode cX6_enter 109 = .ok (.aload_n 1, 1) := by decide +kernel
theorem dX6_enter_110 : decode cX6_enter 110 = .ok (.getfield 103, 3) := by decide +kernel
theorem dX6_enter_113 : decode cX6_enter 113 = .ok (.aload_n 1, 1) := by decide +kernel
theorem dX6_enter_114 : decode cX6_enter 114 = .ok (.getfield 80, 3) := by decide +kernel
theorem dX6_enter_117 : decode cX6_enter 117 = .ok (.invokevirtual 106, 3) := by decide +kernel
theorem dX6_enter_120 : decode cX6_enter 120 = .ok (.ireturn, 1) := by decide +kernel
theorem dX6_enter_121 : decode cX6_enter 121 = .ok (.aload_n 0, 1) := by decide +kernel
theorem dX6_enter_122 : decode cX6_enter 122 = .ok (.aload_n 1, 1) := by decide +kernel
theorem dX6_enter_123 : decode cX6_enter 123 = .ok (.getfield 87, 3) := by decide +kernel
theorem dX6_enter_126 : decode cX6_enter 126 = .ok (.iconst 1, 1) := by decide +kernel
theorem dX6_enter_127 : decode cX6_enter 127 = .ok (.aload_n 1, 1) := by decide +kernel
theorem dX6_enter_128 : decode cX6_enter 128 = .ok (.getfield 100, 3) := by decide +kernel
theorem dX6_enter_131 : decode cX6_enter 131 = .ok (.aload_n 1, 1) := by decide +kernel
theorem dX6_enter_132 : decode cX6_enter 132 = .ok (.getfield 103, 3) := by decide +kernel
theorem dX6_enter_135 : decode cX6_enter 135 = .ok (.aload_n 1, 1) := by decide +kernel
theorem dX6_enter_136 : decode cX6_enter 136 = .ok (.getfield 80, 3) := by decide +kernel
theorem dX6_enter_139 : decode cX6_enter 139 = .ok (.invokevirtual 106, 3) := by decide +kernel
theorem dX6_enter_142 : decode cX6_enter 142 = .ok (.ireturn, 1) := by decide +kernel
theorem dX6_enter_143 : decode cX6_enter 143 = .ok (.aload_n 0, 1) := by decide +kernel
theorem dX6_enter_144 : decode cX6_enter 144 = .ok (.aload_n 1, 1) := by decide +kernel
theorem dX6_enter_145 : decode cX6_enter 145 = .ok (.getfield 87, 3) := by decide +kernel
theorem dX6_enter_148 : decode cX6_enter 148 = .ok (.aload_n 1, 1) := by decide +kernel
theorem dX6_enter_149 : decode cX6_enter 149 = .ok (.getfield 110, 3) := by decide +kernel
theorem dX6_enter_152 : decode cX6_enter 152 = .ok (.invokevirtual 113, 3) := by decide +kernel
theorem dX6_enter_155 : decode cX6_enter 155 = .ok (.ireturn, 1) := by decide +kernel
set_option maxRecDepth 20000 in
theorem ggX6_addReign_X9_isYear : GoodIn wsX6_addReign wsX9_isYear := goodIn_r _ [7] (by decide +kernel) (by decide +kernel)
set_option maxRecDepth 20000 in
theorem gX6_addReign_X9_isYear_n116 : GoodIn wsX6_addReign (wsX9_isYear) := ggX6_addReign_X9_isYear
set_option maxRecDepth 20000 in
theorem ggX6_addReign_X3_isBehindAll : GoodIn wsX6_addReign wsX3_isBehindAll := goodIn_r _ [12, 13, 14, 20, 21, 22] (by decide +kernel) (by decide +kernel)
set_option maxRecDepth 20000 in
theorem gX6_addReign_X3_isBehindAll : GoodIn wsX6_addReign (wsV RX6 120 RX3 yX3_isBehindAll wsX3_isBehindAll) := goodIn_app (goodIn_of _ (by decide +kernel)) ggX6_addReign_X3_isBehindAll
theorem dX6_addReign_0 : decode cX6_addReign 0 = .ok (.iload_n 1, 1) := by decide +kernel
theorem dX6_addReign_1 : decode cX6_addReign 1 = .ok (.invokestatic 116, 3) := by decide +kernel
theorem dX6_addReign_4 : decode cX6_addReign 4 = .ok (.ifCond .eq 15, 3) := by decide +kernel
theorem dX6_addReign_7 : decode cX6_addReign 7 = .ok (.iload_n 2, 1) := by decide +kernel
theorem dX6_addReign_8 : decode cX6_addReign 8 = .ok (.iconst 1, 1) := by decide +kernel
theorem dX6_addReign_9 : decode cX6_addReign 9 = .ok (.if_icmp .lt 10, 3) := by decide +kernel
theorem dX6_addReign_12 : decode cX6_addReign 12 = .ok (.iload_n 2, 1) := by decide +kernel
theorem dX6_addReign_13 : decode cX6_addReign 13 = .ok (.sipush 256, 3) := by decide +kernel
theorem dX6_addReign_16 : decode cX6_addReign 16 = .ok (.if_icmp .lt 6, 3) := by decide +kernel
theorem dX6_addReign_19 : decode cX6_addReign 19 = .ok (.bipush (-3), 2) := by decide +kernel
theorem dX6_addReign_21 : decode cX6_addReign 21 = .ok (.ireturn, 1) := by decide +kernel
theorem dX6_addReign_22 : decode cX6_addReign 22 = .ok (.aload_n 0, 1) := by decide +kernel
theorem dX6_addReign_23 : decode cX6_addReign 23 = .ok (.getfield 12, 3) := by decide +kernel
theorem dX6_addReign_26 : decode cX6_addReign 26 = .ok (.getfield 46, 3) := by decide +kernel
theorem dX6_addReign_29 : decode cX6_addReign 29 = .ok (.bipush 10, 2) := by decide +kernel
theorem dX6_addReign_31 : decode cX6_addReign 31 = .ok (.if_icmp .ge 14, 3) := by decide +kernel
theorem dX6_addReign_34 : decode cX6_addReign 34 = .ok (.aload_n 0, 1) := by decide +kernel
theorem dX6_addReign_35 : decode cX6_addReign 35 = .ok (.getfield 12, 3) := by decide +kernel
theorem dX6_addReign_38 : decode cX6_addReign 38 = .ok (.iload_n 1, 1) := by decide +kernel
theorem dX6_addReign_39 : decode cX6_addReign 39 = .ok (.invokevirtual 120, 3) := by decide +kernel
theorem dX6_addReign_42 : decode cX6_addReign 42 = .ok (.ifCond .ne 6, 3) := by decide +kernel
theorem dX6_addReign_45 : decode cX6_addReign 45 = .ok (.bipush (-4), 2) := by decide +kernel
theorem dX6_addReign_47 : decode cX6_addReign 47 = .ok (.ireturn, 1) := by decide +kernel
theorem dX6_addReign_48 : decode cX6_addReign 48 = .ok (.aload_n 0, 1) := by decide +kernel
theorem dX6_addReign_49 : decode cX6_addReign 49 = .ok (.getfield 12, 3) := by decide +kernel
theorem dX6_addReign_52 : decode cX6_addReign 52 = .ok (.getfield 123, 3) := by decide +kernel
theorem dX6_addReign_55 : decode cX6_addReign 55 = .ok (.aload_n 0, 1) := by decide +kernel
theorem dX6_addReign_56 : decode cX6_addReign 56 = .ok (.getfield 12, 3) := by decide +kernel
theorem dX6_addReign_59 : decode cX6_addReign 59 = .ok (.getfield 46, 3) := by decide +kernel
theorem dX6_addReign_62 : decode cX6_addReign 62 = .ok (.iload_n 1, 1) := by decide +kernel
theorem dX6_addReign_63 : decode cX6_addReign 63 = .ok (.iastore, 1) := by decide +kernel
theorem dX6_addReign_64 : decode cX6_addReign 64 = .ok (.aload_n 0, 1) := by decide +kernel
theorem dX6_addReign_65 : decode cX6_addReign 65 = .ok (.getfield 12, 3) := by decide +kernel
theorem dX6_addReign_68 : decode cX6_addReign 68 = .ok (.getfield 126, 3) := by decide +kernel
theorem dX6_addReign_71 : decode cX6_addReign 71 = .ok (.aload_n 0, 1) := by decide +kernel
theorem dX6_addReign_72 : decode cX6_addReign 72 = .ok (.getfield 12, 3) := by decide +kernel
theorem dX6_addReign_75 : decode cX6_addReign 75 = .ok (.getfield 46, 3) := by decide +kernel
theorem dX6_addReign_78 : decode cX6_addReign 78 = .ok (.iload_n 2, 1) := by decide +kernel
theorem dX6_addReign_79 : decode cX6_addReign 79 = .ok (.iastore, 1) := by decide +kernel
theorem dX6_addReign_80 : decode cX6_addReign 80 = .ok (.aload_n 0, 1) := by decide +kernel
theorem dX6_addReign_81 : decode cX6_addReign 81 = .ok (.getfield 12, 3) := by decide +kernel
theorem dX6_addReign_84 : decode cX6_addReign 84 = .ok (.dup, 1) := by decide +kernel
theorem dX6_addReign_85 : decode cX6_addReign 85 = .ok (.getfield 46, 3) := by decide +kernel
theorem dX6_addReign_88 : decode cX6_addReign 88 = .ok (.dup_x1, 1) := by decide +kernel
theorem dX6_addReign_89 : decode cX6_addReign 89 = .ok (.iconst 1, 1) := by decide +kernel
theorem dX6_addReign_90 : decode cX6_addReign 90 = .ok (.iadd, 1) := by decide +kernel
theorem dX6_addReign_91 : decode cX6_addReign 91 = .ok (.putfield 46, 3) := by decide +kernel
theorem dX6_addReign_94 : decode cX6_addReign 94 = .ok (.ireturn, 1) := by decide +kernel
set_option maxRecDepth 20000 in
theorem ggX6_addDie_X9_isYear : GoodIn wsX6_addDie wsX9_isYear := goodIn_r _ [9] (by decide +kernel) (by decide +kernel)
set_option maxRecDepth 20000 in
theorem gX6_addDie_X9_isYear_n116 : GoodIn wsX6_addDie (wsX9_isYear) := ggX6_addDie_X9_isYear
theorem dX6_addDie_0 : decode cX6_addDie 0 = .ok (.iload_n 1, 1) := by decide +kernel
theorem dX6_addDie_1 : decode cX6_addDie 1 = .ok (.ifCond .lt 28, 3) := by decide +kernel
theorem dX6_addDie_4 : decode cX6_addDie 4 = .ok (.iload_n 1, 1) := by decide +kernel
theorem dX6_addDie_5 : decode cX6_addDie 5 = .ok (.bipush 6, 2) := by decide +kernel
theorem dX6_addDie_7 : decode cX6_addDie 7 = .ok (.if_icmp .ge 22, 3) := by decide +kernel
theorem dX6_addDie_10 : decode cX6_addDie 10 = .ok (.iload_n 2, 1) := by decide +kernel
theorem dX6_addDie_11 : decode cX6_addDie 11 = .ok (.invokestatic 116, 3) := by decide +kernel
theorem dX6_addDie_14 : decode cX6_addDie 14 = .ok (.ifCond .eq 15, 3) := by decide +kernel
theorem dX6_addDie_17 : decode cX6_addDie 17 = .ok (.iload_n 3, 1) := by decide +kernel
theorem dX6_addDie_18 : decode cX6_addDie 18 = .ok (.invokestatic 116, 3) := by decide +kernel
theorem dX6_addDie_21 : decode cX6_addDie 21 = .ok (.ifCond .eq 8, 3) := by decide +kernel
theorem dX6_addDie_24 : decode cX6_addDie 24 = .ok (.iload_n 3, 1) := by decide +kernel
theorem dX6_addDie_25 : decode cX6_addDie 25 = .ok (.iload_n 2, 1) := by decide +kernel
theorem dX6_addDie_26 : decode cX6_addDie 26 = .ok (.if_icmp .ge 6, 3) := by decide +kernel
theorem dX6_addDie_29 : decode cX6_addDie 29 = .ok (.bipush (-3), 2) := by decide +kernel
theorem dX6_addDie_31 : decode cX6_addDie 31 = .ok (.ireturn, 1) := by decide +kernel
theorem dX6_addDie_32 : decode cX6_addDie 32 = .ok (.aload_n 0, 1) := by decide +kernel
theorem dX6_addDie_33 : decode cX6_addDie 33 = .ok (.getfield 21, 3) := by decide +kernel
theorem dX6_addDie_36 : decode cX6_addDie 36 = .ok (.getfield 50, 3) := by decide +kernel
theorem dX6_addDie_39 : decode cX6_addDie 39 = .ok (.bipush 10, 2) := by decide +kernel
theorem dX6_addDie_41 : decode cX6_addDie 41 = .ok (.if_icmp .lt 6, 3) := by decide +kernel
theorem dX6_addDie_44 : decode cX6_addDie 44 = .ok (.bipush (-4), 2) := by decide +kernel
theorem dX6_addDie_46 : decode cX6_addDie 46 = .ok (.ireturn, 1) := by decide +kernel
theorem dX6_addDie_47 : decode cX6_addDie 47 = .ok (.aload_n 0, 1) := by decide +kernel
theorem dX6_addDie_48 : decode cX6_addDie 48 = .ok (.getfield 21, 3) := by decide +kernel
theorem dX6_addDie_51 : decode cX6_addDie 51 = .ok (.getfield 129, 3) := by decide +kernel
theorem dX6_addDie_54 : decode cX6_addDie 54 = .ok (.aload_n 0, 1) := by decide +kernel
theorem dX6_addDie_55 : decode cX6_addDie 55 = .ok (.getfield 21, 3) := by decide +kernel
theorem dX6_addDie_58 : decode cX6_addDie 58 = .ok (.getfield 50, 3) := by decide +kernel
theorem dX6_addDie_61 : decode cX6_addDie 61 = .ok (.iload_n 1, 1) := by decide +kernel
theorem dX6_addDie_62 : decode cX6_addDie 62 = .ok (.iastore, 1) := by decide +kernel
theorem dX6_addDie_63 : decode cX6_addDie 63 = .ok (.aload_n 0, 1) := by decide +kernel
theorem dX6_addDie_64 : decode cX6_addDie 64 = .ok (.getfield 21, 3) := by decide +kernel
theorem dX6_addDie_67 : decode cX6_addDie 67 = .ok (.getfield 132, 3) := by decide +kernel
theorem dX6_addDie_70 : decode cX6_addDie 70 = .ok (.aload_n 0, 1) := by decide +kernel
theorem dX6_addDie_71 : decode cX6_addDie 71 = .ok (.getfield 21, 3) := by decide +kernel
theorem dX6_addDie_74 : decode cX6_addDie 74 = .ok (.getfield 50, 3) := by decide +kernel
theorem dX6_addDie_77 : decode cX6_addDie 77 = .ok (.iload_n 2, 1) := by decide +kernel
theorem dX6_addDie_78 : decode cX6_addDie 78 = .ok (.iastore, 1) := by decide +kernel
theorem dX6_addDie_79 : decode cX6_addDie 79 = .ok (.aload_n 0, 1) := by decide +kernel
theorem dX6_addDie_80 : decode cX6_addDie 80 = .ok (.getfield 21, 3) := by decide +kernel
theorem dX6_addDie_83 : decode cX6_addDie 83 = .ok (.getfield 135, 3) := by decide +kernel
theorem dX6_addDie_86 : decode cX6_addDie 86 = .ok (.aload_n 0, 1) := by decide +kernel
theorem dX6_addDie_87 : decode cX6_addDie 87 = .ok (.getfield 21, 3) := by decide +kernel
theorem dX6_addDie_90 : decode cX6_addDie 90 = .ok (.getfield 50, 3) := by decide +kernel
theorem dX6_addDie_93 : decode cX6_addDie 93 = .ok (.iload_n 3, 1) := by decide +kernel
theorem dX6_addDie_94 : decode cX6_addDie 94 = .ok (.iastore, 1) := by decide +kernel
theorem dX6_addDie_95 : decode cX6_addDie 95 = .ok (.aload_n 0, 1) := by decide +kernel
theorem dX6_addDie_96 : decode cX6_addDie 96 = .ok (.getfield 21, 3) := by decide +kernel
theorem dX6_addDie_99 : decode cX6_addDie 99 = .ok (.getfield 138, 3) := by decide +kernel
theorem dX6_addDie_102 : decode cX6_addDie 102 = .ok (.aload_n 0, 1) := by decide +kernel
theorem dX6_addDie_103 : decode cX6_addDie 103 = .ok (.getfield 21, 3) := by decide +kernel
theorem dX6_addDie_106 : decode cX6_addDie 106 = .ok (.getfield 50, 3) := by decide +kernel
theorem dX6_addDie_109 : decode cX6_addDie 109 = .ok (.iconst 0, 1) := by decide +kernel
theorem dX6_addDie_110 : decode cX6_addDie 110 = .ok (.iastore, 1) := by decide +kernel
theorem dX6_addDie_111 : decode cX6_addDie 111 = .ok (.aload_n 0, 1) := by decide +kernel
theorem dX6_addDie_112 : decode cX6_addDie 112 = .ok (.getfield 21, 3) := by decide +kernel
theorem dX6_addDie_115 : decode cX6_addDie 115 = .ok (.dup, 1) := by decide +kernel
theorem dX6_addDie_116 : decode cX6_addDie 116 = .ok (.getfield 50, 3) := by decide +kernel
theorem dX6_addDie_119 : decode cX6_addDie 119 = .ok (.dup_x1, 1) := by decide +kernel
theorem dX6_addDie_120 : decode cX6_addDie 120 = .ok (.iconst 1, 1) := by decide +kernel
theorem dX6_addDie_121 : decode cX6_addDie 121 = .ok (.iadd, 1) := by decide +kernel
theorem dX6_addDie_122 : decode cX6_addDie 122 = .ok (.putfield 50, 3) := by decide +kernel
theorem dX6_addDie_125 : decode cX6_addDie 125 = .ok (.ireturn, 1) := by decide +kernel
set_option maxRecDepth 20000 in
theorem ggX6_addCrack_X0_has : GoodIn wsX6_addCrack wsX0_has := goodIn_r _ [8, 9, 28, 29, 30, 31, 32, 33] (by decide +kernel) (by decide +kernel)
set_option maxRecDepth 20000 in
theorem gX6_addCrack_X0_has : GoodIn wsX6_addCrack (wsV RX6 141 RX0 yX0_has wsX0_has) := goodIn_app (goodIn_of _ (by decide +kernel)) ggX6_addCrack_X0_has
set_option maxRecDepth 20000 in
theorem ggX6_addCrack_X9_isYear : GoodIn wsX6_addCrack wsX9_isYear := goodIn_r _ [12] (by decide +kernel) (by decide +kernel)
set_option maxRecDepth 20000 in
theorem gX6_addCrack_X9_isYear_n116 : GoodIn wsX6_addCrack (wsX9_isYear) := ggX6_addCrack_X9_isYear
set_option maxRecDepth 20000 in
theorem ggX6_addCrack_X0_crackedIn : GoodIn wsX6_addCrack wsX0_crackedIn := goodIn_r _ [16, 17, 18, 19, 20, 7, 21, 22, 28, 29, 30, 31, 32, 33] (by decide +kernel) (by decide +kernel)
set_option maxRecDepth 20000 in
theorem gX6_addCrack_X0_crackedIn : GoodIn wsX6_addCrack (wsV RX6 144 RX0 yX0_crackedIn wsX0_crackedIn) := goodIn_app (goodIn_of _ (by decide +kernel)) ggX6_addCrack_X0_crackedIn
theorem dX6_addCrack_0 : decode cX6_addCrack 0 = .ok (.aload_n 0, 1) := by decide +kernel
theorem dX6_addCrack_1 : decode cX6_addCrack 1 = .ok (.getfield 21, 3) := by decide +kernel
theorem dX6_addCrack_4 : decode cX6_addCrack 4 = .ok (.iload_n 1, 1) := by decide +kernel
theorem dX6_addCrack_5 : decode cX6_addCrack 5 = .ok (.invokevirtual 141, 3) := by decide +kernel
theorem dX6_addCrack_8 : decode cX6_addCrack 8 = .ok (.ifCond .ne 6, 3) := by decide +kernel
theorem dX6_addCrack_11 : decode cX6_addCrack 11 = .ok (.bipush (-2), 2) := by decide +kernel
theorem dX6_addCrack_13 : decode cX6_addCrack 13 = .ok (.ireturn, 1) := by decide +kernel
theorem dX6_addCrack_14 : decode cX6_addCrack 14 = .ok (.iload_n 2, 1) := by decide +kernel
theorem dX6_addCrack_15 : decode cX6_addCrack 15 = .ok (.invokestatic 116, 3) := by decide +kernel
theorem dX6_addCrack_18 : decode cX6_addCrack 18 = .ok (.ifCond .ne 6, 3) := by decide +kernel
theorem dX6_addCrack_21 : decode cX6_addCrack 21 = .ok (.bipush (-3), 2) := by decide +kernel
theorem dX6_addCrack_23 : decode cX6_addCrack 23 = .ok (.ireturn, 1) := by decide +kernel
theorem dX6_addCrack_24 : decode cX6_addCrack 24 = .ok (.aload_n 0, 1) := by decide +kernel
theorem dX6_addCrack_25 : decode cX6_addCrack 25 = .ok (.getfield 21, 3) := by decide +kernel
theorem dX6_addCrack_28 : decode cX6_addCrack 28 = .ok (.getfield 138, 3) := by decide +kernel
theorem dX6_addCrack_31 : decode cX6_addCrack 31 = .ok (.iload_n 1, 1) := by decide +kernel
theorem dX6_addCrack_32 : decode cX6_addCrack 32 = .ok (.iaload, 1) := by decide +kernel
theorem dX6_addCrack_33 : decode cX6_addCrack 33 = .ok (.iconst 4, 1) := by decide +kernel
theorem dX6_addCrack_34 : decode cX6_addCrack 34 = .ok (.if_icmp .ge 15, 3) := by decide +kernel
theorem dX6_addCrack_37 : decode cX6_addCrack 37 = .ok (.aload_n 0, 1) := by decide +kernel
theorem dX6_addCrack_38 : decode cX6_addCrack 38 = .ok (.getfield 21, 3) := by decide +kernel
theorem dX6_addCrack_41 : decode cX6_addCrack 41 = .ok (.iload_n 1, 1) := by decide +kernel
theorem dX6_addCrack_42 : decode cX6_addCrack 42 = .ok (.iload_n 2, 1) := by decide +kernel
theorem dX6_addCrack_43 : decode cX6_addCrack 43 = .ok (.invokevirtual 144, 3) := by decide +kernel
theorem dX6_addCrack_46 : decode cX6_addCrack 46 = .ok (.ifCond .eq 6, 3) := by decide +kernel
theorem dX6_addCrack_49 : decode cX6_addCrack 49 = .ok (.bipush (-4), 2) := by decide +kernel
theorem dX6_addCrack_51 : decode cX6_addCrack 51 = .ok (.ireturn, 1) := by decide +kernel
theorem dX6_addCrack_52 : decode cX6_addCrack 52 = .ok (.aload_n 0, 1) := by decide +kernel
theorem dX6_addCrack_53 : decode cX6_addCrack 53 = .ok (.getfield 21, 3) := by decide +kernel
theorem dX6_addCrack_56 : decode cX6_addCrack 56 = .ok (.getfield 148, 3) := by decide +kernel
theorem dX6_addCrack_59 : decode cX6_addCrack 59 = .ok (.iload_n 1, 1) := by decide +kernel
theorem dX6_addCrack_60 : decode cX6_addCrack 60 = .ok (.iconst 4, 1) := by decide +kernel
theorem dX6_addCrack_61 : decode cX6_addCrack 61 = .ok (.imul, 1) := by decide +kernel
theorem dX6_addCrack_62 : decode cX6_addCrack 62 = .ok (.aload_n 0, 1) := by decide +kernel
theorem dX6_addCrack_63 : decode cX6_addCrack 63 = .ok (.getfield 21, 3) := by decide +kernel
theorem dX6_addCrack_66 : decode cX6_addCrack 66 = .ok (.getfield 138, 3) := by decide +kernel
theorem dX6_addCrack_69 : decode cX6_addCrack 69 = .ok (.iload_n 1, 1) := by decide +kernel
theorem dX6_addCrack_70 : decode cX6_addCrack 70 = .ok (.iaload, 1) := by decide +kernel
theorem dX6_addCrack_71 : decode cX6_addCrack 71 = .ok (.iadd, 1) := by decide +kernel
theorem dX6_addCrack_72 : decode cX6_addCrack 72 = .ok (.iload_n 2, 1) := by decide +kernel
theorem dX6_addCrack_73 : decode cX6_addCrack 73 = .ok (.iastore, 1) := by decide +kernel
theorem dX6_addCrack_74 : decode cX6_addCrack 74 = .ok (.aload_n 0, 1) := by decide +kernel
theorem dX6_addCrack_75 : decode cX6_addCrack 75 = .ok (.getfield 21, 3) := by decide +kernel
theorem dX6_addCrack_78 : decode cX6_addCrack 78 = .ok (.getfield 138, 3) := by decide +kernel
theorem dX6_addCrack_81 : decode cX6_addCrack 81 = .ok (.iload_n 1, 1) := by decide +kernel
theorem dX6_addCrack_82 : decode cX6_addCrack 82 = .ok (.dup2, 1) := by decide +kernel
theorem dX6_addCrack_83 : decode cX6_addCrack 83 = .ok (.iaload, 1) := by decide +kernel
theorem dX6_addCrack_84 : decode cX6_addCrack 84 = .ok (.dup_x2, 1) := by decide +kernel
theorem dX6_addCrack_85 : decode cX6_addCrack 85 = .ok (.iconst 1, 1) := by decide +kernel
theorem dX6_addCrack_86 : decode cX6_addCrack 86 = .ok (.iadd, 1) := by decide +kernel
theorem dX6_addCrack_87 : decode cX6_addCrack 87 = .ok (.iastore, 1) := by decide +kernel
theorem dX6_addCrack_88 : decode cX6_addCrack 88 = .ok (.ireturn, 1) := by decide +kernel
set_option maxRecDepth 20000 in
theorem ggX6_addSeal_X0_has : GoodIn wsX6_addSeal wsX0_has := goodIn_r _ [14, 15, 38, 39, 40, 41, 42, 43] (by decide +kernel) (by decide +kernel)
set_option maxRecDepth 20000 in
theorem gX6_addSeal_X0_has : GoodIn wsX6_addSeal (wsV RX6 141 RX0 yX0_has wsX0_has) := goodIn_app (goodIn_of _ (by decide +kernel)) ggX6_addSeal_X0_has
set_option maxRecDepth 20000 in
theorem ggX6_addSeal_X9_isMaterial : GoodIn wsX6_addSeal wsX9_isMaterial := goodIn_r _ [18] (by decide +kernel) (by decide +kernel)
set_option maxRecDepth 20000 in
theorem gX6_addSeal_X9_isMaterial_n151 : GoodIn wsX6_addSeal (wsX9_isMaterial) := ggX6_addSeal_X9_isMaterial
set_option maxRecDepth 20000 in
theorem ggX6_addSeal_X9_isBubbles : GoodIn wsX6_addSeal wsX9_isBubbles := goodIn_r _ [20] (by decide +kernel) (by decide +kernel)
set_option maxRecDepth 20000 in
theorem gX6_addSeal_X9_isBubbles_n154 : GoodIn wsX6_addSeal (wsX9_isBubbles) := ggX6_addSeal_X9_isBubbles
set_option maxRecDepth 20000 in
theorem ggX6_addSeal_X0_hasCracks : GoodIn wsX6_addSeal wsX0_hasCracks := goodIn_r _ [24, 25, 38, 39, 40, 41, 42, 43] (by decide +kernel) (by decide +kernel)
set_option maxRecDepth 20000 in
theorem gX6_addSeal_X0_hasCracks : GoodIn wsX6_addSeal (wsV RX6 157 RX0 yX0_hasCracks wsX0_hasCracks) := goodIn_app (goodIn_of _ (by decide +kernel)) ggX6_addSeal_X0_hasCracks
theorem dX6_addSeal_0 : decode cX6_addSeal 0 = .ok (.aload_n 0, 1) := by decide +kernel
theorem dX6_addSeal_1 : decode cX6_addSeal 1 = .ok (.getfield 21, 3) := by decide +kernel
theorem dX6_addSeal_4 : decode cX6_addSeal 4 = .ok (.iload_n 1, 1) := by decide +kernel
theorem dX6_addSeal_5 : decode cX6_addSeal 5 = .ok (.invokevirtual 141, 3) := by decide +kernel
theorem dX6_addSeal_8 : decode cX6_addSeal 8 = .ok (.ifCond .ne 6, 3) := by decide +kernel
theorem dX6_addSeal_11 : decode cX6_addSeal 11 = .ok (.bipush (-2), 2) := by decide +kernel
theorem dX6_addSeal_13 : decode cX6_addSeal 13 = .ok (.ireturn, 1) := by decide +kernel
theorem dX6_addSeal_14 : decode cX6_addSeal 14 = .ok (.iload_n 2, 1) := by decide +kernel
theorem dX6_addSeal_15 : decode cX6_addSeal 15 = .ok (.invokestatic 151, 3) := by decide +kernel
theorem dX6_addSeal_18 : decode cX6_addSeal 18 = .ok (.ifCond .eq 35, 3) := by decide +kernel
theorem dX6_addSeal_21 : decode cX6_addSeal 21 = .ok (.iload_n 3, 1) := by decide +kernel
theorem dX6_addSeal_22 : decode cX6_addSeal 22 = .ok (.iconst (-1), 1) := by decide +kernel
theorem dX6_addSeal_23 : decode cX6_addSeal 23 = .ok (.if_icmp .lt 30, 3) := by decide +kernel
theorem dX6_addSeal_26 : decode cX6_addSeal 26 = .ok (.iload_n 3, 1) := by decide +kernel
theorem dX6_addSeal_27 : decode cX6_addSeal 27 = .ok (.bipush 8, 2) := by decide +kernel
theorem dX6_addSeal_29 : decode cX6_addSeal 29 = .ok (.if_icmp .ge 24, 3) := by decide +kernel
theorem dX6_addSeal_32 : decode cX6_addSeal 32 = .ok (.iload 4, 2) := by decide +kernel
theorem dX6_addSeal_34 : decode cX6_addSeal 34 = .ok (.invokestatic 154, 3) := by decide +kernel
theorem dX6_addSeal_37 : decode cX6_addSeal 37 = .ok (.ifCond .eq 16, 3) := by decide +kernel
theorem dX6_addSeal_40 : decode cX6_addSeal 40 = .ok (.aload_n 0, 1) := by decide +kernel
theorem dX6_addSeal_41 : decode cX6_addSeal 41 = .ok (.getfield 21, 3) := by decide +kernel
theorem dX6_addSeal_44 : decode cX6_addSeal 44 = .ok (.iload_n 1, 1) := by decide +kernel
theorem dX6_addSeal_45 : decode cX6_addSeal 45 = .ok (.iload 5, 2) := by decide +kernel
theorem dX6_addSeal_47 : decode cX6_addSeal 47 = .ok (.invokevirtual 157, 3) := by decide +kernel
theorem dX6_addSeal_50 : decode cX6_addSeal 50 = .ok (.ifCond .ne 6, 3) := by decide +kernel
theorem dX6_addSeal_53 : decode cX6_addSeal 53 = .ok (.bipush (-3), 2) := by decide +kernel
theorem dX6_addSeal_55 : decode cX6_addSeal 55 = .ok (.ireturn, 1) := by decide +kernel
theorem dX6_addSeal_56 : decode cX6_addSeal 56 = .ok (.aload_n 0, 1) := by decide +kernel
theorem dX6_addSeal_57 : decode cX6_addSeal 57 = .ok (.getfield 28, 3) := by decide +kernel
theorem dX6_addSeal_60 : decode cX6_addSeal 60 = .ok (.getfield 51, 3) := by decide +kernel
theorem dX6_addSeal_63 : decode cX6_addSeal 63 = .ok (.bipush 24, 2) := by decide +kernel
theorem dX6_addSeal_65 : decode cX6_addSeal 65 = .ok (.if_icmp .lt 6, 3) := by decide +kernel
theorem dX6_addSeal_68 : decode cX6_addSeal 68 = .ok (.bipush (-4), 2) := by decide +kernel
theorem dX6_addSeal_70 : decode cX6_addSeal 70 = .ok (.ireturn, 1) := by decide +kernel
theorem dX6_addSeal_71 : decode cX6_addSeal 71 = .ok (.aload_n 0, 1) := by decide +kernel
theorem dX6_addSeal_72 : decode cX6_addSeal 72 = .ok (.getfield 28, 3) := by decide +kernel
theorem dX6_addSeal_75 : decode cX6_addSeal 75 = .ok (.getfield 160, 3) := by decide +kernel
theorem dX6_addSeal_78 : decode cX6_addSeal 78 = .ok (.aload_n 0, 1) := by decide +kernel
theorem dX6_addSeal_79 : decode cX6_addSeal 79 = .ok (.getfield 28, 3) := by decide +kernel
theorem dX6_addSeal_82 : decode cX6_addSeal 82 = .ok (.getfield 51, 3) := by decide +kernel
theorem dX6_addSeal_85 : decode cX6_addSeal 85 = .ok (.iload_n 1, 1) := by decide +kernel
theorem dX6_addSeal_86 : decode cX6_addSeal 86 = .ok (.iastore, 1) := by decide +kernel
theorem dX6_addSeal_87 : decode cX6_addSeal 87 = .ok (.aload_n 0, 1) := by decide +kernel
theorem dX6_addSeal_88 : decode cX6_addSeal 88 = .ok (.getfield 28, 3) := by decide +kernel
theorem dX6_addSeal_91 : decode cX6_addSeal 91 = .ok (.getfield 163, 3) := by decide +kernel
theorem dX6_addSeal_94 : decode cX6_addSeal 94 = .ok (.aload_n 0, 1) := by decide +kernel
theorem dX6_addSeal_95 : decode cX6_addSeal 95 = .ok (.getfield 28, 3) := by decide +kernel
theorem dX6_addSeal_98 : decode cX6_addSeal 98 = .ok (.getfield 51, 3) := by decide +kernel
theorem dX6_addSeal_101 : decode cX6_addSeal 101 = .ok (.iload_n 2, 1) := by decide +kernel
theorem dX6_addSeal_102 : decode cX6_addSeal 102 = .ok (.iastore, 1) := by decide +kernel
theorem dX6_addSeal_103 : decode cX6_addSeal 103 = .ok (.aload_n 0, 1) := by decide +kernel
theorem dX6_addSeal_104 : decode cX6_addSeal 104 = .ok (.getfield 28, 3) := by decide +kernel
theorem dX6_addSeal_107 : decode cX6_addSeal 107 = .ok (.getfield 166, 3) := by decide +kernel
theorem dX6_addSeal_110 : decode cX6_addSeal 110 = .ok (.aload_n 0, 1) := by decide +kernel
theorem dX6_addSeal_111 : decode cX6_addSeal 111 = .ok (.getfield 28, 3) := by decide +kernel
theorem dX6_addSeal_114 : decode cX6_addSeal 114 = .ok (.getfield 51, 3) := by decide +kernel
theorem dX6_addSeal_117 : decode cX6_addSeal 117 = .ok (.iload_n 3, 1) := by decide +kernel
theorem dX6_addSeal_118 : decode cX6_addSeal 118 = .ok (.iastore, 1) := by decide +kernel
theorem dX6_addSeal_119 : decode cX6_addSeal 119 = .ok (.aload_n 0, 1) := by decide +kernel
theorem dX6_addSeal_120 : decode cX6_addSeal 120 = .ok (.getfield 28, 3) := by decide +kernel
theorem dX6_addSeal_123 : decode cX6_addSeal 123 = .ok (.getfield 168, 3) := by decide +kernel
theorem dX6_addSeal_126 : decode cX6_addSeal 126 = .ok (.aload_n 0, 1) := by decide +kernel
theorem dX6_addSeal_127 : decode cX6_addSeal 127 = .ok (.getfield 28, 3) := by decide +kernel
theorem dX6_addSeal_130 : decode cX6_addSeal 130 = .ok (.getfield 51, 3) := by decide +kernel
theorem dX6_addSeal_133 : decode cX6_addSeal 133 = .ok (.iload 4, 2) := by decide +kernel
theorem dX6_addSeal_135 : decode cX6_addSeal 135 = .ok (.iastore, 1) := by decide +kernel
theorem dX6_addSeal_136 : decode cX6_addSeal 136 = .ok (.aload_n 0, 1) := by decide +kernel
theorem dX6_addSeal_137 : decode cX6_addSeal 137 = .ok (.getfield 28, 3) := by decide +kernel
theorem dX6_addSeal_140 : decode cX6_addSeal 140 = .ok (.getfield 170, 3) := by decide +kernel
theorem dX6_addSeal_143 : decode cX6_addSeal 143 = .ok (.aload_n 0, 1) := by decide +kernel
theorem dX6_addSeal_144 : decode cX6_addSeal 144 = .ok (.getfield 28, 3) := by decide +kernel
theorem dX6_addSeal_147 : decode cX6_addSeal 147 = .ok (.getfield 51, 3) := by decide +kernel
theorem dX6_addSeal_150 : decode cX6_addSeal 150 = .ok (.iload 5, 2) := by decide +kernel
theorem dX6_addSeal_152 : decode cX6_addSeal 152 = .ok (.iastore, 1) := by decide +kernel
theorem dX6_addSeal_153 : decode cX6_addSeal 153 = .ok (.aload_n 0, 1) := by decide +kernel
theorem dX6_addSeal_154 : decode cX6_addSeal 154 = .ok (.getfield 28, 3) := by decide +kernel
theorem dX6_addSeal_157 : decode cX6_addSeal 157 = .ok (.getfield 173, 3) := by decide +kernel
theorem dX6_addSeal_160 : decode cX6_addSeal 160 = .ok (.aload_n 0, 1) := by decide +kernel
theorem dX6_addSeal_161 : decode cX6_addSeal 161 = .ok (.getfield 28, 3) := by decide +kernel
theorem dX6_addSeal_164 : decode cX6_addSeal 164 = .ok (.getfield 51, 3) := by decide +kernel
theorem dX6_addSeal_167 : decode cX6_addSeal 167 = .ok (.iconst (-1), 1) := by decide +kernel
theorem dX6_addSeal_168 : decode cX6_addSeal 168 = .ok (.iastore, 1) := by decide +kernel
theorem dX6_addSeal_169 : decode cX6_addSeal 169 = .ok (.aload_n 0, 1) := by decide +kernel
theorem dX6_addSeal_170 : decode cX6_addSeal 170 = .ok (.getfield 28, 3) := by decide +kernel
theorem dX6_addSeal_173 : decode cX6_addSeal 173 = .ok (.dup, 1) := by decide +kernel
theorem dX6_addSeal_174 : decode cX6_addSeal 174 = .ok (.getfield 51, 3) := by decide +kernel
theorem dX6_addSeal_177 : decode cX6_addSeal 177 = .ok (.dup_x1, 1) := by decide +kernel
theorem dX6_addSeal_178 : decode cX6_addSeal 178 = .ok (.iconst 1, 1) := by decide +kernel
theorem dX6_addSeal_179 : decode cX6_addSeal 179 = .ok (.iadd, 1) := by decide +kernel
theorem dX6_addSeal_180 : decode cX6_addSeal 180 = .ok (.putfield 51, 3) := by decide +kernel
theorem dX6_addSeal_183 : decode cX6_addSeal 183 = .ok (.ireturn, 1) := by decide +kernel
set_option maxRecDepth 20000 in
theorem ggX6_showCracks_X4_has : GoodIn wsX6_showCracks wsX4_has := goodIn_r _ [9, 10, 22, 23, 24, 25, 26, 27, 28] (by decide +kernel) (by decide +kernel)
set_option maxRecDepth 20000 in
theorem gX6_showCracks_X4_has : GoodIn wsX6_showCracks (wsV RX6 175 RX4 yX4_has wsX4_has) := goodIn_app (goodIn_of _ (by decide +kernel)) ggX6_showCracks_X4_has
set_option maxRecDepth 20000 in
theorem ggX6_showCracks_X0_hasCracks : GoodIn wsX6_showCracks wsX0_hasCracks := goodIn_r _ [15, 16, 29, 30, 31, 32, 33, 34] (by decide +kernel) (by decide +kernel)
set_option maxRecDepth 20000 in
theorem gX6_showCracks_X0_hasCracks : GoodIn wsX6_showCracks (wsV RX6 157 RX0 yX0_hasCracks wsX0_hasCracks) := goodIn_app (goodIn_of _ (by decide +kernel)) ggX6_showCracks_X0_hasCracks
theorem dX6_showCracks_0 : decode cX6_showCracks 0 = .ok (.aload_n 0, 1) := by decide +kernel
theorem dX6_showCracks_1 : decode cX6_showCracks 1 = .ok (.getfield 28, 3) := by decide +kernel
theorem dX6_showCracks_4 : decode cX6_showCracks 4 = .ok (.iload_n 1, 1) := by decide +kernel
theorem dX6_showCracks_5 : decode cX6_showCracks 5 = .ok (.invokevirtual 175, 3) := by decide +kernel
theorem dX6_showCracks_8 : decode cX6_showCracks 8 = .ok (.ifCond .ne 6, 3) := by decide +kernel
theorem dX6_showCracks_11 : decode cX6_showCracks 11 = .ok (.bipush (-2), 2) := by decide +kernel
theorem dX6_showCracks_13 : decode cX6_showCracks 13 = .ok (.ireturn, 1) := by decide +kernel
theorem dX6_showCracks_14 : decode cX6_showCracks 14 = .ok (.aload_n 0, 1) := by decide +kernel
theorem dX6_showCracks_15 : decode cX6_showCracks 15 = .ok (.getfield 21, 3) := by decide +kernel
theorem dX6_showCracks_18 : decode cX6_showCracks 18 = .ok (.aload_n 0, 1) := by decide +kernel
theorem dX6_showCracks_19 : decode cX6_showCracks 19 = .ok (.getfield 28, 3) := by decide +kernel
theorem dX6_showCracks_22 : decode cX6_showCracks 22 = .ok (.getfield 160, 3) := by decide +kernel
theorem dX6_showCracks_25 : decode cX6_showCracks 25 = .ok (.iload_n 1, 1) := by decide +kernel
theorem dX6_showCracks_26 : decode cX6_showCracks 26 = .ok (.iaload, 1) := by decide +kernel
theorem dX6_showCracks_27 : decode cX6_showCracks 27 = .ok (.iload_n 2, 1) := by decide +kernel
theorem dX6_showCracks_28 : decode cX6_showCracks 28 = .ok (.invokevirtual 157, 3) := by decide +kernel
theorem dX6_showCracks_31 : decode cX6_showCracks 31 = .ok (.ifCond .ne 6, 3) := by decide +kernel
theorem dX6_showCracks_34 : decode cX6_showCracks 34 = .ok (.bipush (-3), 2) := by decide +kernel
theorem dX6_showCracks_36 : decode cX6_showCracks 36 = .ok (.ireturn, 1) := by decide +kernel
theorem dX6_showCracks_37 : decode cX6_showCracks 37 = .ok (.aload_n 0, 1) := by decide +kernel
theorem dX6_showCracks_38 : decode cX6_showCracks 38 = .ok (.getfield 28, 3) := by decide +kernel
theorem dX6_showCracks_41 : decode cX6_showCracks 41 = .ok (.getfield 170, 3) := by decide +kernel
theorem dX6_showCracks_44 : decode cX6_showCracks 44 = .ok (.iload_n 1, 1) := by decide +kernel
theorem dX6_showCracks_45 : decode cX6_showCracks 45 = .ok (.iaload, 1) := by decide +kernel
theorem dX6_showCracks_46 : decode cX6_showCracks 46 = .ok (.istore_n 3, 1) := by decide +kernel
theorem dX6_showCracks_47 : decode cX6_showCracks 47 = .ok (.aload_n 0, 1) := by decide +kernel
theorem dX6_showCracks_48 : decode cX6_showCracks 48 = .ok (.getfield 28, 3) := by decide +kernel
theorem dX6_showCracks_51 : decode cX6_showCracks 51 = .ok (.getfield 170, 3) := by decide +kernel
theorem dX6_showCracks_54 : decode cX6_showCracks 54 = .ok (.iload_n 1, 1) := by decide +kernel
theorem dX6_showCracks_55 : decode cX6_showCracks 55 = .ok (.iload_n 2, 1) := by decide +kernel
theorem dX6_showCracks_56 : decode cX6_showCracks 56 = .ok (.iastore, 1) := by decide +kernel
theorem dX6_showCracks_57 : decode cX6_showCracks 57 = .ok (.iload_n 3, 1) := by decide +kernel
theorem dX6_showCracks_58 : decode cX6_showCracks 58 = .ok (.ireturn, 1) := by decide +kernel
set_option maxRecDepth 20000 in
theorem ggX6_hangOn_X4_has : GoodIn wsX6_hangOn wsX4_has := goodIn_r _ [7, 8, 22, 23, 24, 25, 26, 27, 28] (by decide +kernel) (by decide +kernel)
set_option maxRecDepth 20000 in
theorem gX6_hangOn_X4_has : GoodIn wsX6_hangOn (wsV RX6 175 RX4 yX4_has wsX4_has) := goodIn_app (goodIn_of _ (by decide +kernel)) ggX6_hangOn_X4_has
set_option maxRecDepth 20000 in
theorem ggX6_hangOn_X9_isCharter : GoodIn wsX6_hangOn wsX9_isCharter := goodIn_r _ [11] (by decide +kernel) (by decide +kernel)
set_option maxRecDepth 20000 in
theorem gX6_hangOn_X9_isCharter_n176 : GoodIn wsX6_hangOn (wsX9_isCharter) := ggX6_hangOn_X9_isCharter
set_option maxRecDepth 20000 in
theorem ggX6_hangOn_X4_ofOneCharter : GoodIn wsX6_hangOn wsX4_ofOneCharter := goodIn_r _ [15, 8, 16, 22, 23, 24, 25, 26, 27, 28] (by decide +kernel) (by decide +kernel)
set_option maxRecDepth 20000 in
theorem gX6_hangOn_X4_ofOneCharter : GoodIn wsX6_hangOn (wsV RX6 179 RX4 yX4_ofOneCharter wsX4_ofOneCharter) := goodIn_app (goodIn_of _ (by decide +kernel)) ggX6_hangOn_X4_ofOneCharter
theorem dX6_hangOn_0 : decode cX6_hangOn 0 = .ok (.aload_n 0, 1) := by decide +kernel
theorem dX6_hangOn_1 : decode cX6_hangOn 1 = .ok (.getfield 28, 3) := by decide +kernel
theorem dX6_hangOn_4 : decode cX6_hangOn 4 = .ok (.iload_n 1, 1) := by decide +kernel
theorem dX6_hangOn_5 : decode cX6_hangOn 5 = .ok (.invokevirtual 175, 3) := by decide +kernel
theorem dX6_hangOn_8 : decode cX6_hangOn 8 = .ok (.ifCond .eq 10, 3) := by decide +kernel
theorem dX6_hangOn_11 : decode cX6_hangOn 11 = .ok (.iload_n 2, 1) := by decide +kernel
theorem dX6_hangOn_12 : decode cX6_hangOn 12 = .ok (.invokestatic 176, 3) := by decide +kernel
theorem dX6_hangOn_15 : decode cX6_hangOn 15 = .ok (.ifCond .ne 6, 3) := by decide +kernel
theorem dX6_hangOn_18 : decode cX6_hangOn 18 = .ok (.bipush (-2), 2) := by decide +kernel
theorem dX6_hangOn_20 : decode cX6_hangOn 20 = .ok (.ireturn, 1) := by decide +kernel
theorem dX6_hangOn_21 : decode cX6_hangOn 21 = .ok (.aload_n 0, 1) := by decide +kernel
theorem dX6_hangOn_22 : decode cX6_hangOn 22 = .ok (.getfield 28, 3) := by decide +kernel
theorem dX6_hangOn_25 : decode cX6_hangOn 25 = .ok (.getfield 173, 3) := by decide +kernel
theorem dX6_hangOn_28 : decode cX6_hangOn 28 = .ok (.iload_n 1, 1) := by decide +kernel
theorem dX6_hangOn_29 : decode cX6_hangOn 29 = .ok (.iload_n 2, 1) := by decide +kernel
theorem dX6_hangOn_30 : decode cX6_hangOn 30 = .ok (.iastore, 1) := by decide +kernel
theorem dX6_hangOn_31 : decode cX6_hangOn 31 = .ok (.aload_n 0, 1) := by decide +kernel
theorem dX6_hangOn_32 : decode cX6_hangOn 32 = .ok (.getfield 28, 3) := by decide +kernel
theorem dX6_hangOn_35 : decode cX6_hangOn 35 = .ok (.iload_n 2, 1) := by decide +kernel
theorem dX6_hangOn_36 : decode cX6_hangOn 36 = .ok (.invokevirtual 179, 3) := by decide +kernel
theorem dX6_hangOn_39 : decode cX6_hangOn 39 = .ok (.ireturn, 1) := by decide +kernel
set_option maxRecDepth 20000 in
theorem ggX6_cutOff_X4_has : GoodIn wsX6_cutOff wsX4_has := goodIn_r _ [7, 8, 14, 15, 16, 17, 18, 19, 20] (by decide +kernel) (by decide +kernel)
set_option maxRecDepth 20000 in
theorem gX6_cutOff_X4_has : GoodIn wsX6_cutOff (wsV RX6 175 RX4 yX4_has wsX4_has) := goodIn_app (goodIn_of _ (by decide +kernel)) ggX6_cutOff_X4_has
theorem dX6_cutOff_0 : decode cX6_cutOff 0 = .ok (.aload_n 0, 1) := by decide +kernel
theorem dX6_cutOff_1 : decode cX6_cutOff 1 = .ok (.getfield 28, 3) := by decide +kernel
theorem dX6_cutOff_4 : decode cX6_cutOff 4 = .ok (.iload_n 1, 1) := by decide +kernel
theorem dX6_cutOff_5 : decode cX6_cutOff 5 = .ok (.invokevirtual 175, 3) := by decide +kernel
theorem dX6_cutOff_8 : decode cX6_cutOff 8 = .ok (.ifCond .ne 6, 3) := by decide +kernel
theorem dX6_cutOff_11 : decode cX6_cutOff 11 = .ok (.bipush (-2), 2) := by decide +kernel
theorem dX6_cutOff_13 : decode cX6_cutOff 13 = .ok (.ireturn, 1) := by decide +kernel
theorem dX6_cutOff_14 : decode cX6_cutOff 14 = .ok (.aload_n 0, 1) := by decide +kernel
theorem dX6_cutOff_15 : decode cX6_cutOff 15 = .ok (.getfield 28, 3) := by decide +kernel
theorem dX6_cutOff_18 : decode cX6_cutOff 18 = .ok (.getfield 173, 3) := by decide +kernel
theorem dX6_cutOff_21 : decode cX6_cutOff 21 = .ok (.iload_n 1, 1) := by decide +kernel
theorem dX6_cutOff_22 : decode cX6_cutOff 22 = .ok (.iaload, 1) := by decide +kernel
theorem dX6_cutOff_23 : decode cX6_cutOff 23 = .ok (.istore_n 2, 1) := by decide +kernel
theorem dX6_cutOff_24 : decode cX6_cutOff 24 = .ok (.iload_n 2, 1) := by decide +kernel
theorem dX6_cutOff_25 : decode cX6_cutOff 25 = .ok (.iconst (-1), 1) := by decide +kernel
theorem dX6_cutOff_26 : decode cX6_cutOff 26 = .ok (.if_icmp .ne 6, 3) := by decide +kernel
theorem dX6_cutOff_29 : decode cX6_cutOff 29 = .ok (.bipush (-4), 2) := by decide +kernel
theorem dX6_cutOff_31 : decode cX6_cutOff 31 = .ok (.ireturn, 1) := by decide +kernel
theorem dX6_cutOff_32 : decode cX6_cutOff 32 = .ok (.aload_n 0, 1) := by decide +kernel
theorem dX6_cutOff_33 : decode cX6_cutOff 33 = .ok (.getfield 28, 3) := by decide +kernel
theorem dX6_cutOff_36 : decode cX6_cutOff 36 = .ok (.getfield 173, 3) := by decide +kernel
theorem dX6_cutOff_39 : decode cX6_cutOff 39 = .ok (.iload_n 1, 1) := by decide +kernel
theorem dX6_cutOff_40 : decode cX6_cutOff 40 = .ok (.iconst (-1), 1) := by decide +kernel
theorem dX6_cutOff_41 : decode cX6_cutOff 41 = .ok (.iastore, 1) := by decide +kernel
theorem dX6_cutOff_42 : decode cX6_cutOff 42 = .ok (.iload_n 2, 1) := by decide +kernel
theorem dX6_cutOff_43 : decode cX6_cutOff 43 = .ok (.ireturn, 1) := by decide +kernel
set_option maxRecDepth 20000 in
theorem ggX6_putOnShelf_X4_has : GoodIn wsX6_putOnShelf wsX4_has := goodIn_r _ [8, 9, 64, 65, 66, 67, 68, 69, 70] (by decide +kernel) (by decide +kernel)
set_option maxRecDepth 20000 in
theorem gX6_putOnShelf_X4_has : GoodIn wsX6_putOnShelf (wsV RX6 175 RX4 yX4_has wsX4_has) := goodIn_app (goodIn_of _ (by decide +kernel)) ggX6_putOnShelf_X4_has
set_option maxRecDepth 20000 in
theorem ggX6_putOnShelf_X9_isShelf : GoodIn wsX6_putOnShelf wsX9_isShelf := goodIn_r _ [12] (by decide +kernel) (by decide +kernel)
set_option maxRecDepth 20000 in
theorem gX6_putOnShelf_X9_isShelf_n183 : GoodIn wsX6_putOnShelf (wsX9_isShelf) := ggX6_putOnShelf_X9_isShelf
set_option maxRecDepth 20000 in
theorem ggX6_putOnShelf_X5_others : GoodIn wsX6_putOnShelf wsX5_others := goodIn_r _ [17, 18, 19, 20, 21, 16, 22, 23, 24, 25, 26, 27, 62, 63] (by decide +kernel) (by decide +kernel)
set_option maxRecDepth 20000 in
theorem gX6_putOnShelf_X5_others : GoodIn wsX6_putOnShelf (wsV RX6 186 RX5 yX5_others wsX5_others) := goodIn_app (goodIn_of _ (by decide +kernel)) ggX6_putOnShelf_X5_others
set_option maxRecDepth 20000 in
theorem ggX6_putOnShelf_X6_hasOtherHouse : GoodIn wsX6_putOnShelf wsX6_hasOtherHouse := goodIn_r _ [32, 2, 3, 33, 24, 25, 16, 26, 27, 34, 35, 36, 31, 37, 38, 39, 1, 40, 57, 58, 59, 60, 61, 62, 63, 71, 72, 73, 74, 75, 76, 64, 65, 66, 67, 68, 69, 70] (by decide +kernel) (by decide +kernel)
set_option maxRecDepth 20000 in
theorem gX6_putOnShelf_X6_hasOtherHouse : GoodIn wsX6_putOnShelf (wsV RX6 189 RX6 yX6_hasOtherHouse wsX6_hasOtherHouse) := goodIn_app (goodIn_of _ (by decide +kernel)) ggX6_putOnShelf_X6_hasOtherHouse
set_option maxRecDepth 20000 in
theorem ggX6_putOnShelf_X5_remove : GoodIn wsX6_putOnShelf wsX5_remove := goodIn_r _ [44, 18, 45, 46, 47, 16, 48, 19, 20, 21, 22, 23, 24, 25, 26, 27, 49, 50, 51, 52, 62, 63] (by decide +kernel) (by decide +kernel)
set_option maxRecDepth 20000 in
theorem gX6_putOnShelf_X5_remove : GoodIn wsX6_putOnShelf (wsV RX6 192 RX5 yX5_remove wsX5_remove) := goodIn_app (goodIn_of _ (by decide +kernel)) ggX6_putOnShelf_X5_remove
set_option maxRecDepth 20000 in
theorem ggX6_putOnShelf_X5_insert : GoodIn wsX6_putOnShelf wsX5_insert := goodIn_r _ [56, 18, 23, 24, 25, 16, 26, 27, 49, 50, 51, 52, 62, 63] (by decide +kernel) (by decide +kernel)
set_option maxRecDepth 20000 in
theorem gX6_putOnShelf_X5_insert : GoodIn wsX6_putOnShelf (wsV RX6 196 RX5 yX5_insert wsX5_insert) := goodIn_app (goodIn_of _ (by decide +kernel)) ggX6_putOnShelf_X5_insert
theorem dX6_putOnShelf_0 : decode cX6_putOnShelf 0 = .ok (.aload_n 0, 1) := by decide +kernel
theorem dX6_putOnShelf_1 : decode cX6_putOnShelf 1 = .ok (.getfield 28, 3) := by decide +kernel
theorem dX6_putOnShelf_4 : decode cX6_putOnShelf 4 = .ok (.iload_n 1, 1) := by decide +kernel
theorem dX6_putOnShelf_5 : decode cX6_putOnShelf 5 = .ok (.invokevirtual 175, 3) := by decide +kernel
theorem dX6_putOnShelf_8 : decode cX6_putOnShelf 8 = .ok (.ifCond .eq 10, 3) := by decide +kernel
theorem dX6_putOnShelf_11 : decode cX6_putOnShelf 11 = .ok (.iload_n 2, 1) := by decide +kernel
theorem dX6_putOnShelf_12 : decode cX6_putOnShelf 12 = .ok (.invokestatic 183, 3) := by decide +kernel
theorem dX6_putOnShelf_15 : decode cX6_putOnShelf 15 = .ok (.ifCond .ne 6, 3) := by decide +kernel
theorem dX6_putOnShelf_18 : decode cX6_putOnShelf 18 = .ok (.bipush (-2), 2) := by decide +kernel
theorem dX6_putOnShelf_20 : decode cX6_putOnShelf 20 = .ok (.ireturn, 1) := by decide +kernel
theorem dX6_putOnShelf_21 : decode cX6_putOnShelf 21 = .ok (.aload_n 0, 1) := by decide +kernel
theorem dX6_putOnShelf_22 : decode cX6_putOnShelf 22 = .ok (.getfield 35, 3) := by decide +kernel
theorem dX6_putOnShelf_25 : decode cX6_putOnShelf 25 = .ok (.iload_n 2, 1) := by decide +kernel
theorem dX6_putOnShelf_26 : decode cX6_putOnShelf 26 = .ok (.iload_n 1, 1) := by decide +kernel
theorem dX6_putOnShelf_27 : decode cX6_putOnShelf 27 = .ok (.invokevirtual 186, 3) := by decide +kernel
theorem dX6_putOnShelf_30 : decode cX6_putOnShelf 30 = .ok (.istore 4, 2) := by decide +kernel
theorem dX6_putOnShelf_32 : decode cX6_putOnShelf 32 = .ok (.iload_n 3, 1) := by decide +kernel
theorem dX6_putOnShelf_33 : decode cX6_putOnShelf 33 = .ok (.ifCond .lt 9, 3) := by decide +kernel
theorem dX6_putOnShelf_36 : decode cX6_putOnShelf 36 = .ok (.iload_n 3, 1) := by decide +kernel
theorem dX6_putOnShelf_37 : decode cX6_putOnShelf 37 = .ok (.iload 4, 2) := by decide +kernel
theorem dX6_putOnShelf_39 : decode cX6_putOnShelf 39 = .ok (.if_icmp .le 6, 3) := by decide +kernel
theorem dX6_putOnShelf_42 : decode cX6_putOnShelf 42 = .ok (.bipush (-3), 2) := by decide +kernel
theorem dX6_putOnShelf_44 : decode cX6_putOnShelf 44 = .ok (.ireturn, 1) := by decide +kernel
theorem dX6_putOnShelf_45 : decode cX6_putOnShelf 45 = .ok (.iload 4, 2) := by decide +kernel
theorem dX6_putOnShelf_47 : decode cX6_putOnShelf 47 = .ok (.bipush 6, 2) := by decide +kernel
theorem dX6_putOnShelf_49 : decode cX6_putOnShelf 49 = .ok (.if_icmp .ge 12, 3) := by decide +kernel
theorem dX6_putOnShelf_52 : decode cX6_putOnShelf 52 = .ok (.aload_n 0, 1) := by decide +kernel
theorem dX6_putOnShelf_53 : decode cX6_putOnShelf 53 = .ok (.iload_n 2, 1) := by decide +kernel
theorem dX6_putOnShelf_54 : decode cX6_putOnShelf 54 = .ok (.iload_n 1, 1) := by decide +kernel
theorem dX6_putOnShelf_55 : decode cX6_putOnShelf 55 = .ok (.invokevirtual 189, 3) := by decide +kernel
theorem dX6_putOnShelf_58 : decode cX6_putOnShelf 58 = .ok (.ifCond .eq 6, 3) := by decide +kernel
theorem dX6_putOnShelf_61 : decode cX6_putOnShelf 61 = .ok (.bipush (-4), 2) := by decide +kernel
theorem dX6_putOnShelf_63 : decode cX6_putOnShelf 63 = .ok (.ireturn, 1) := by decide +kernel
theorem dX6_putOnShelf_64 : decode cX6_putOnShelf 64 = .ok (.aload_n 0, 1) := by decide +kernel
theorem dX6_putOnShelf_65 : decode cX6_putOnShelf 65 = .ok (.getfield 35, 3) := by decide +kernel
theorem dX6_putOnShelf_68 : decode cX6_putOnShelf 68 = .ok (.iload_n 1, 1) := by decide +kernel
theorem dX6_putOnShelf_69 : decode cX6_putOnShelf 69 = .ok (.invokevirtual 192, 3) := by decide +kernel
theorem dX6_putOnShelf_72 : decode cX6_putOnShelf 72 = .ok (.aload_n 0, 1) := by decide +kernel
theorem dX6_putOnShelf_73 : decode cX6_putOnShelf 73 = .ok (.getfield 35, 3) := by decide +kernel
theorem dX6_putOnShelf_76 : decode cX6_putOnShelf 76 = .ok (.iload_n 2, 1) := by decide +kernel
theorem dX6_putOnShelf_77 : decode cX6_putOnShelf 77 = .ok (.iload_n 3, 1) := by decide +kernel
theorem dX6_putOnShelf_78 : decode cX6_putOnShelf 78 = .ok (.iload_n 1, 1) := by decide +kernel
theorem dX6_putOnShelf_79 : decode cX6_putOnShelf 79 = .ok (.invokevirtual 196, 3) := by decide +kernel
theorem dX6_putOnShelf_82 : decode cX6_putOnShelf 82 = .ok (.aload_n 0, 1) := by decide +kernel
theorem dX6_putOnShelf_83 : decode cX6_putOnShelf 83 = .ok (.getfield 35, 3) := by decide +kernel
theorem dX6_putOnShelf_86 : decode cX6_putOnShelf 86 = .ok (.getfield 200, 3) := by decide +kernel
theorem dX6_putOnShelf_89 : decode cX6_putOnShelf 89 = .ok (.iload_n 2, 1) := by decide +kernel
theorem dX6_putOnShelf_90 : decode cX6_putOnShelf 90 = .ok (.iaload, 1) := by decide +kernel
theorem dX6_putOnShelf_91 : decode cX6_putOnShelf 91 = .ok (.ireturn, 1) := by decide +kernel
set_option maxRecDepth 20000 in
theorem ggX6_hasOtherHouse_X5_at : GoodIn wsX6_hasOtherHouse wsX5_at := goodIn_r _ [7, 8, 23, 24] (by decide +kernel) (by decide +kernel)
set_option maxRecDepth 20000 in
theorem gX6_hasOtherHouse_X5_at : GoodIn wsX6_hasOtherHouse (wsV RX6 202 RX5 yX5_at wsX5_at) := goodIn_app (goodIn_of _ (by decide +kernel)) ggX6_hasOtherHouse_X5_at
set_option maxRecDepth 20000 in
theorem ggX6_hasOtherHouse_X6_houseOf : GoodIn wsX6_hasOtherHouse wsX6_houseOf := goodIn_r _ [13, 14, 15, 16, 17, 18, 19, 20, 21, 22, 25, 26, 27, 28, 29, 30, 31, 32, 33, 34, 35, 36, 37] (by decide +kernel) (by decide +kernel)
set_option maxRecDepth 20000 in
theorem gX6_hasOtherHouse_X6_houseOf : GoodIn wsX6_hasOtherHouse (wsV RX6 205 RX6 yX6_houseOf wsX6_houseOf) := goodIn_app (goodIn_of _ (by decide +kernel)) ggX6_hasOtherHouse_X6_houseOf
theorem dX6_hasOtherHouse_0 : decode cX6_hasOtherHouse 0 = .ok (.iconst 0, 1) := by decide +kernel
theorem dX6_hasOtherHouse_1 : decode cX6_hasOtherHouse 1 = .ok (.istore_n 3, 1) := by decide +kernel
theorem dX6_hasOtherHouse_2 : decode cX6_hasOtherHouse 2 = .ok (.iload_n 3, 1) := by decide +kernel
theorem dX6_hasOtherHouse_3 : decode cX6_hasOtherHouse 3 = .ok (.aload_n 0, 1) := by decide +kernel
theorem dX6_hasOtherHouse_4 : decode cX6_hasOtherHouse 4 = .ok (.getfield 35, 3) := by decide +kernel
theorem dX6_hasOtherHouse_7 : decode cX6_hasOtherHouse 7 = .ok (.getfield 200, 3) := by decide +kernel
theorem dX6_hasOtherHouse_10 : decode cX6_hasOtherHouse 10 = .ok (.iload_n 1, 1) := by decide +kernel
theorem dX6_hasOtherHouse_11 : decode cX6_hasOtherHouse 11 = .ok (.iaload, 1) := by decide +kernel
theorem dX6_hasOtherHouse_12 : decode cX6_hasOtherHouse 12 = .ok (.if_icmp .ge 32, 3) := by decide +kernel
theorem dX6_hasOtherHouse_15 : decode cX6_hasOtherHouse 15 = .ok (.aload_n 0, 1) := by decide +kernel
theorem dX6_hasOtherHouse_16 : decode cX6_hasOtherHouse 16 = .ok (.aload_n 0, 1) := by decide +kernel
theorem dX6_hasOtherHouse_17 : decode cX6_hasOtherHouse 17 = .ok (.getfield 35, 3) := by decide +kernel
theorem dX6_hasOtherHouse_20 : decode cX6_hasOtherHouse 20 = .ok (.iload_n 1, 1) := by decide +kernel
theorem dX6_hasOtherHouse_21 : decode cX6_hasOtherHouse 21 = .ok (.iload_n 3, 1) := by decide +kernel
theorem dX6_hasOtherHouse_22 : decode cX6_hasOtherHouse 22 = .ok (.invokevirtual 202, 3) := by decide +kernel
theorem dX6_hasOtherHouse_25 : decode cX6_hasOtherHouse 25 = .ok (.invokevirtual 205, 3) := by decide +kernel
theorem dX6_hasOtherHouse_28 : decode cX6_hasOtherHouse 28 = .ok (.aload_n 0, 1) := by decide +kernel
theorem dX6_hasOtherHouse_29 : decode cX6_hasOtherHouse 29 = .ok (.iload_n 2, 1) := by decide +kernel
theorem dX6_hasOtherHouse_30 : decode cX6_hasOtherHouse 30 = .ok (.invokevirtual 205, 3) := by decide +kernel
theorem dX6_hasOtherHouse_33 : decode cX6_hasOtherHouse 33 = .ok (.if_icmp .eq 5, 3) := by decide +kernel
theorem dX6_hasOtherHouse_36 : decode cX6_hasOtherHouse 36 = .ok (.iconst 1, 1) := by decide +kernel
theorem dX6_hasOtherHouse_37 : decode cX6_hasOtherHouse 37 = .ok (.ireturn, 1) := by decide +kernel
theorem dX6_hasOtherHouse_38 : decode cX6_hasOtherHouse 38 = .ok (.iinc 3 1, 3) := by decide +kernel
theorem dX6_hasOtherHouse_41 : decode cX6_hasOtherHouse 41 = .ok (.goto (-39), 3) := by decide +kernel
theorem dX6_hasOtherHouse_44 : decode cX6_hasOtherHouse 44 = .ok (.iconst 0, 1) := by decide +kernel
theorem dX6_hasOtherHouse_45 : decode cX6_hasOtherHouse 45 = .ok (.ireturn, 1) := by decide +kernel
theorem dX6_houseOf_0 : decode cX6_houseOf 0 = .ok (.aload_n 0, 1) := by decide +kernel
theorem dX6_houseOf_1 : decode cX6_houseOf 1 = .ok (.getfield 21, 3) := by decide +kernel
theorem dX6_houseOf_4 : decode cX6_houseOf 4 = .ok (.getfield 129, 3) := by decide +kernel
theorem dX6_houseOf_7 : decode cX6_houseOf 7 = .ok (.aload_n 0, 1) := by decide +kernel
theorem dX6_houseOf_8 : decode cX6_houseOf 8 = .ok (.getfield 28, 3) := by decide +kernel
theorem dX6_houseOf_11 : decode cX6_houseOf 11 = .ok (.getfield 160, 3) := by decide +kernel
theorem dX6_houseOf_14 : decode cX6_houseOf 14 = .ok (.iload_n 1, 1) := by decide +kernel
theorem dX6_houseOf_15 : decode cX6_houseOf 15 = .ok (.iaload, 1) := by decide +kernel
theorem dX6_houseOf_16 : decode cX6_houseOf 16 = .ok (.iaload, 1) := by decide +kernel
theorem dX6_houseOf_17 : decode cX6_houseOf 17 = .ok (.ireturn, 1) := by decide +kernel
set_option maxRecDepth 20000 in
theorem ggX6_takeOff_X4_has : GoodIn wsX6_takeOff wsX4_has := goodIn_r _ [7, 8, 38, 39, 40, 41, 42, 43, 44] (by decide +kernel) (by decide +kernel)
set_option maxRecDepth 20000 in
theorem gX6_takeOff_X4_has : GoodIn wsX6_takeOff (wsV RX6 175 RX4 yX4_has wsX4_has) := goodIn_app (goodIn_of _ (by decide +kernel)) ggX6_takeOff_X4_has
set_option maxRecDepth 20000 in
theorem ggX6_takeOff_X5_shelfOf : GoodIn wsX6_takeOff wsX5_shelfOf := goodIn_r _ [13, 14, 15, 16, 12, 17, 18, 19, 20, 21, 22, 23, 45, 46] (by decide +kernel) (by decide +kernel)
set_option maxRecDepth 20000 in
theorem gX6_takeOff_X5_shelfOf : GoodIn wsX6_takeOff (wsV RX6 208 RX5 yX5_shelfOf wsX5_shelfOf) := goodIn_app (goodIn_of _ (by decide +kernel)) ggX6_takeOff_X5_shelfOf
set_option maxRecDepth 20000 in
theorem ggX6_takeOff_X5_remove : GoodIn wsX6_takeOff wsX5_remove := goodIn_r _ [27, 18, 28, 10, 11, 12, 13, 14, 15, 16, 17, 19, 20, 21, 22, 23, 29, 30, 31, 32, 45, 46] (by decide +kernel) (by decide +kernel)
set_option maxRecDepth 20000 in
theorem gX6_takeOff_X5_remove : GoodIn wsX6_takeOff (wsV RX6 192 RX5 yX5_remove wsX5_remove) := goodIn_app (goodIn_of _ (by decide +kernel)) ggX6_takeOff_X5_remove
theorem dX6_takeOff_0 : decode cX6_takeOff 0 = .ok (.aload_n 0, 1) := by decide +kernel
theorem dX6_takeOff_1 : decode cX6_takeOff 1 = .ok (.getfield 28, 3) := by decide +kernel
theorem dX6_takeOff_4 : decode cX6_takeOff 4 = .ok (.iload_n 1, 1) := by decide +kernel
theorem dX6_takeOff_5 : decode cX6_takeOff 5 = .ok (.invokevirtual 175, 3) := by decide +kernel
theorem dX6_takeOff_8 : decode cX6_takeOff 8 = .ok (.ifCond .ne 6, 3) := by decide +kernel
theorem dX6_takeOff_11 : decode cX6_takeOff 11 = .ok (.bipush (-2), 2) := by decide +kernel
theorem dX6_takeOff_13 : decode cX6_takeOff 13 = .ok (.ireturn, 1) := by decide +kernel
theorem dX6_takeOff_14 : decode cX6_takeOff 14 = .ok (.aload_n 0, 1) := by decide +kernel
theorem dX6_takeOff_15 : decode cX6_takeOff 15 = .ok (.getfield 35, 3) := by decide +kernel
theorem dX6_takeOff_18 : decode cX6_takeOff 18 = .ok (.iload_n 1, 1) := by decide +kernel
theorem dX6_takeOff_19 : decode cX6_takeOff 19 = .ok (.invokevirtual 208, 3) := by decide +kernel
theorem dX6_takeOff_22 : decode cX6_takeOff 22 = .ok (.istore_n 2, 1) := by decide +kernel
theorem dX6_takeOff_23 : decode cX6_takeOff 23 = .ok (.iload_n 2, 1) := by decide +kernel
theorem dX6_takeOff_24 : decode cX6_takeOff 24 = .ok (.iconst (-1), 1) := by decide +kernel
theorem dX6_takeOff_25 : decode cX6_takeOff 25 = .ok (.if_icmp .ne 6, 3) := by decide +kernel
theorem dX6_takeOff_28 : decode cX6_takeOff 28 = .ok (.bipush (-4), 2) := by decide +kernel
theorem dX6_takeOff_30 : decode cX6_takeOff 30 = .ok (.ireturn, 1) := by decide +kernel
theorem dX6_takeOff_31 : decode cX6_takeOff 31 = .ok (.aload_n 0, 1) := by decide +kernel
theorem dX6_takeOff_32 : decode cX6_takeOff 32 = .ok (.getfield 35, 3) := by decide +kernel
theorem dX6_takeOff_35 : decode cX6_takeOff 35 = .ok (.iload_n 1, 1) := by decide +kernel
theorem dX6_takeOff_36 : decode cX6_takeOff 36 = .ok (.invokevirtual 192, 3) := by decide +kernel
theorem dX6_takeOff_39 : decode cX6_takeOff 39 = .ok (.iload_n 2, 1) := by decide +kernel
theorem dX6_takeOff_40 : decode cX6_takeOff 40 = .ok (.ireturn, 1) := by decide +kernel
set_option maxRecDepth 20000 in
theorem ggX6_change_X9_isMaterial : GoodIn wsX6_change wsX9_isMaterial := goodIn_r _ [4] (by decide +kernel) (by decide +kernel)
set_option maxRecDepth 20000 in
theorem gX6_change_X9_isMaterial_n151 : GoodIn wsX6_change (wsX9_isMaterial) := ggX6_change_X9_isMaterial
set_option maxRecDepth 20000 in
theorem ggX6_change_X9_isBubbles : GoodIn wsX6_change wsX9_isBubbles := goodIn_r _ [6] (by decide +kernel) (by decide +kernel)
set_option maxRecDepth 20000 in
theorem gX6_change_X9_isBubbles_n154 : GoodIn wsX6_change (wsX9_isBubbles) := ggX6_change_X9_isBubbles
theorem dX6_change_0 : decode cX6_change 0 = .ok (.iload_n 1, 1) := by decide +kernel
theorem dX6_change_1 : decode cX6_change 1 = .ok (.invokestatic 151, 3) := by decide +kernel
theorem dX6_change_4 : decode cX6_change 4 = .ok (.ifCond .eq 10, 3) := by decide +kernel
theorem dX6_change_7 : decode cX6_change 7 = .ok (.iload_n 2, 1) := by decide +kernel
theorem dX6_change_8 : decode cX6_change 8 = .ok (.invokestatic 154, 3) := by decide +kernel
theorem dX6_change_11 : decode cX6_change 11 = .ok (.ifCond .ne 6, 3) := by decide +kernel
theorem dX6_change_14 : decode cX6_change 14 = .ok (.bipush (-3), 2) := by decide +kernel
theorem dX6_change_16 : decode cX6_change 16 = .ok (.ireturn, 1) := by decide +kernel
theorem dX6_change_17 : decode cX6_change 17 = .ok (.aload_n 0, 1) := by decide +kernel
theorem dX6_change_18 : decode cX6_change 18 = .ok (.getfield 39, 3) := by decide +kernel
theorem dX6_change_21 : decode cX6_change 21 = .ok (.iload_n 1, 1) := by decide +kernel
theorem dX6_change_22 : decode cX6_change 22 = .ok (.iaload, 1) := by decide +kernel
theorem dX6_change_23 : decode cX6_change 23 = .ok (.istore_n 3, 1) := by decide +kernel
theorem dX6_change_24 : decode cX6_change 24 = .ok (.aload_n 0, 1) := by decide +kernel
theorem dX6_change_25 : decode cX6_change 25 = .ok (.getfield 39, 3) := by decide +kernel
theorem dX6_change_28 : decode cX6_change 28 = .ok (.iload_n 1, 1) := by decide +kernel
theorem dX6_change_29 : decode cX6_change 29 = .ok (.iload_n 2, 1) := by decide +kernel
theorem dX6_change_30 : decode cX6_change 30 = .ok (.iastore, 1) := by decide +kernel
theorem dX6_change_31 : decode cX6_change 31 = .ok (.iload_n 3, 1) := by decide +kernel
theorem dX6_change_32 : decode cX6_change 32 = .ok (.ireturn, 1) := by decide +kernel
theorem dX7_init_0 : decode cX7_init 0 = .ok (.aload_n 0, 1) := by decide +kernel
theorem dX7_init_1 : decode cX7_init 1 = .ok (.invokespecial 3, 3) := by decide +kernel
theorem dX7_init_4 : decode cX7_init 4 = .ok (.aload_n 0, 1) := by decide +kernel
theorem dX7_init_5 : decode cX7_init 5 = .ok (.bipush 120, 2) := by decide +kernel
theorem dX7_init_7 : decode cX7_init 7 = .ok (.newarray .char, 2) := by decide +kernel
theorem dX7_init_9 : decode cX7_init 9 = .ok (.putfield 9, 3) := by decide +kernel
theorem dX7_init_12 : decode cX7_init 12 = .ok (.return_, 1) := by decide +kernel
theorem dX7_add_0 : decode cX7_add 0 = .ok (.aload_n 0, 1) := by decide +kernel
theorem dX7_add_1 : decode cX7_add 1 = .ok (.getfield 15, 3) := by decide +kernel
theorem dX7_add_4 : decode cX7_add 4 = .ok (.bipush 120, 2) := by decide +kernel
theorem dX7_add_6 : decode cX7_add 6 = .ok (.if_icmp .ge 23, 3) := by decide +kernel
theorem dX7_add_9 : decode cX7_add 9 = .ok (.aload_n 0, 1) := by decide +kernel
theorem dX7_add_10 : decode cX7_add 10 = .ok (.getfield 9, 3) := by decide +kernel
theorem dX7_add_13 : decode cX7_add 13 = .ok (.aload_n 0, 1) := by decide +kernel
theorem dX7_add_14 : decode cX7_add 14 = .ok (.getfield 15, 3) := by decide +kernel
theorem dX7_add_17 : decode cX7_add 17 = .ok (.iload_n 1, 1) := by decide +kernel
theorem dX7_add_18 : decode cX7_add 18 = .ok (.castore, 1) := by decide +kernel
theorem dX7_add_19 : decode cX7_add 19 = .ok (.aload_n 0, 1) := by decide +kernel
theorem dX7_add_20 : decode cX7_add 20 = .ok (.dup, 1) := by decide +kernel
theorem dX7_add_21 : decode cX7_add 21 = .ok (.getfield 15, 3) := by decide +kernel
theorem dX7_add_24 : decode cX7_add 24 = .ok (.iconst 1, 1) := by decide +kernel
theorem dX7_add_25 : decode cX7_add 25 = .ok (.iadd, 1) := by decide +kernel
theorem dX7_add_26 : decode cX7_add 26 = .ok (.putfield 15, 3) := by decide +kernel
theorem dX7_add_29 : decode cX7_add 29 = .ok (.aload_n 0, 1) := by decide +kernel
theorem dX7_add_30 : decode cX7_add 30 = .ok (.getfield 15, 3) := by decide +kernel
theorem dX7_add_33 : decode cX7_add 33 = .ok (.ireturn, 1) := by decide +kernel
theorem dX7_makeEmpty_0 : decode cX7_makeEmpty 0 = .ok (.aload_n 0, 1) := by decide +kernel
theorem dX7_makeEmpty_1 : decode cX7_makeEmpty 1 = .ok (.getfield 15, 3) := by decide +kernel
theorem dX7_makeEmpty_4 : decode cX7_makeEmpty 4 = .ok (.istore_n 1, 1) := by decide +kernel
theorem dX7_makeEmpty_5 : decode cX7_makeEmpty 5 = .ok (.aload_n 0, 1) := by decide +kernel
theorem dX7_makeEmpty_6 : decode cX7_makeEmpty 6 = .ok (.iconst 0, 1) := by decide +kernel
theorem dX7_makeEmpty_7 : decode cX7_makeEmpty 7 = .ok (.putfield 15, 3) := by decide +kernel
theorem dX7_makeEmpty_10 : decode cX7_makeEmpty 10 = .ok (.iload_n 1, 1) := by decide +kernel
theorem dX7_makeEmpty_11 : decode cX7_makeEmpty 11 = .ok (.ireturn, 1) := by decide +kernel
set_option maxRecDepth 20000 in
theorem ggX7_firstError_X7_toStart : GoodIn wsX7_firstError wsX7_toStart := goodIn_r _ [7, 2, 1, 70, 71, 72, 73, 74, 75, 76, 77, 78, 79, 80, 81] (by decide +kernel) (by decide +kernel)
set_option maxRecDepth 20000 in
theorem gX7_firstError_X7_toStart : GoodIn wsX7_firstError (wsV RX7 19 RX7 yX7_toStart wsX7_toStart) := goodIn_app (goodIn_of _ (by decide +kernel)) ggX7_firstError_X7_toStart
set_option maxRecDepth 20000 in
theorem ggX7_firstError_X7_readNext : GoodIn wsX7_firstError wsX7_readNext := goodIn_r _ [11, 2, 12, 1, 13, 14, 15, 6, 16, 17, 18, 19, 20, 21, 22, 23, 24, 25, 26, 27, 28, 29, 30, 31, 32, 33, 34, 35, 36, 37, 38, 39, 40, 41, 42, 43, 44, 45, 46, 47, 48, 49, 50, 51, 52, 53, 54, 55, 56, 57, 58, 59, 60, 61, 62, 63, 64, 65, 66, 67, 68, 69, 70, 71, 72, 73, 74, 75, 76, 77, 78, 79, 80, 81] (by decide +kernel) (by decide +kernel)
set_option maxRecDepth 20000 in
theorem gX7_firstError_X7_readNext : GoodIn wsX7_firstError (wsV RX7 22 RX7 yX7_readNext wsX7_readNext) := goodIn_app (goodIn_of _ (by decide +kernel)) ggX7_firstError_X7_readNext
theorem dX7_firstError_0 : decode cX7_firstError 0 = .ok (.aload_n 0, 1) := by decide +kernel
theorem dX7_firstError_1 : decode cX7_firstError 1 = .ok (.invokevirtual 19, 3) := by decide +kernel
theorem dX7_firstError_4 : decode cX7_firstError 4 = .ok (.iconst 0, 1) := by decide +kernel
theorem dX7_firstError_5 : decode cX7_firstError 5 = .ok (.istore_n 1, 1) := by decide +kernel
theorem dX7_firstError_6 : decode cX7_firstError 6 = .ok (.iload_n 1, 1) := by decide +kernel
theorem dX7_firstError_7 : decode cX7_firstError 7 = .ok (.bipush 120, 2) := by decide +kernel
theorem dX7_firstError_9 : decode cX7_firstError 9 = .ok (.if_icmp .ge 16, 3) := by decide +kernel
theorem dX7_firstError_12 : decode cX7_firstError 12 = .ok (.aload_n 0, 1) := by decide +kernel
theorem dX7_firstError_13 : decode cX7_firstError 13 = .ok (.invokevirtual 22, 3) := by decide +kernel
theorem dX7_firstError_16 : decode cX7_firstError 16 = .ok (.ifCond .eq 9, 3) := by decide +kernel
theorem dX7_firstError_19 : decode cX7_firstError 19 = .ok (.iinc 1 1, 3) := by decide +kernel
theorem dX7_firstError_22 : decode cX7_firstError 22 = .ok (.goto (-16), 3) := by decide +kernel
theorem dX7_firstError_25 : decode cX7_firstError 25 = .ok (.aload_n 0, 1) := by decide +kernel
theorem dX7_firstError_26 : decode cX7_firstError 26 = .ok (.getfield 26, 3) := by decide +kernel
theorem dX7_firstError_29 : decode cX7_firstError 29 = .ok (.ifCond .eq 10, 3) := by decide +kernel
theorem dX7_firstError_32 : decode cX7_firstError 32 = .ok (.aload_n 0, 1) := by decide +kernel
theorem dX7_firstError_33 : decode cX7_firstError 33 = .ok (.getfield 30, 3) := by decide +kernel
theorem dX7_firstError_36 : decode cX7_firstError 36 = .ok (.goto 4, 3) := by decide +kernel
theorem dX7_firstError_39 : decode cX7_firstError 39 = .ok (.iconst (-1), 1) := by decide +kernel
theorem dX7_firstError_40 : decode cX7_firstError 40 = .ok (.ireturn, 1) := by decide +kernel
theorem dX7_toStart_0 : decode cX7_toStart 0 = .ok (.aload_n 0, 1) := by decide +kernel
theorem dX7_toStart_1 : decode cX7_toStart 1 = .ok (.iconst 0, 1) := by decide +kernel
theorem dX7_toStart_2 : decode cX7_toStart 2 = .ok (.putfield 30, 3) := by decide +kernel
theorem dX7_toStart_5 : decode cX7_toStart 5 = .ok (.aload_n 0, 1) := by decide +kernel
theorem dX7_toStart_6 : decode cX7_toStart 6 = .ok (.iconst 0, 1) := by decide +kernel
theorem dX7_toStart_7 : decode cX7_toStart 7 = .ok (.putfield 26, 3) := by decide +kernel
theorem dX7_toStart_10 : decode cX7_toStart 10 = .ok (.return_, 1) := by decide +kernel
set_option maxRecDepth 20000 in
theorem ggX7_readNext_X7_readSign : GoodIn wsX7_readNext wsX7_readSign := goodIn_r _ [8, 3, 1, 2, 9, 62, 63, 64, 65, 66, 67, 68, 69, 70, 71, 72, 73] (by decide +kernel) (by decide +kernel)
set_option maxRecDepth 20000 in
theorem gX7_readNext_X7_readSign : GoodIn wsX7_readNext (wsV RX7 33 RX7 yX7_readSign wsX7_readSign) := goodIn_app (goodIn_of _ (by decide +kernel)) ggX7_readNext_X7_readSign
set_option maxRecDepth 20000 in
theorem ggX7_readNext_X7_readEntry : GoodIn wsX7_readNext wsX7_readEntry := goodIn_r _ [13, 1, 2, 9, 14, 3, 15, 16, 17, 7, 18, 19, 20, 21, 22, 23, 24, 25, 26, 27, 28, 29, 30, 31, 32, 33, 34, 35, 36, 37, 38, 39, 40, 41, 42, 4, 5, 6, 8, 43, 44, 45, 46, 47, 48, 49, 50, 51, 52, 53, 54, 55, 56, 57, 58, 59, 60, 61, 62, 63, 64, 65, 66, 67, 68, 69, 70, 71, 72, 73] (by decide +kernel) (by decide +kernel)
set_option maxRecDepth 20000 in
theorem gX7_readNext_X7_readEntry : GoodIn wsX7_readNext (wsV RX7 37 RX7 yX7_readEntry wsX7_readEntry) := goodIn_app (goodIn_of _ (by decide +kernel)) ggX7_readNext_X7_readEntry
theorem dX7_readNext_0 : decode cX7_readNext 0 = .ok (.aload_n 0, 1) := by decide +kernel
theorem dX7_readNext_1 : decode cX7_readNext 1 = .ok (.getfield 30, 3) := by decide +kernel
theorem dX7_readNext_4 : decode cX7_readNext 4 = .ok (.ifCond .le 16, 3) := by decide +kernel
theorem dX7_readNext_7 : decode cX7_readNext 7 = .ok (.aload_n 0, 1) := by decide +kernel
theorem dX7_readNext_8 : decode cX7_readNext 8 = .ok (.getfield 30, 3) := by decide +kernel
theorem dX7_readNext_11 : decode cX7_readNext 11 = .ok (.aload_n 0, 1) := by decide +kernel
theorem dX7_readNext_12 : decode cX7_readNext 12 = .ok (.getfield 15, 3) := by decide +kernel
theorem dX7_readNext_15 : decode cX7_readNext 15 = .ok (.if_icmp .lt 5, 3) := by decide +kernel
theorem dX7_readNext_18 : decode cX7_readNext 18 = .ok (.iconst 0, 1) := by decide +kernel
theorem dX7_readNext_19 : decode cX7_readNext 19 = .ok (.ireturn, 1) := by decide +kernel
theorem dX7_readNext_20 : decode cX7_readNext 20 = .ok (.aload_n 0, 1) := by decide +kernel
theorem dX7_readNext_21 : decode cX7_readNext 21 = .ok (.getfield 30, 3) := by decide +kernel
theorem dX7_readNext_24 : decode cX7_readNext 24 = .ok (.ifCond .le 9, 3) := by decide +kernel
theorem dX7_readNext_27 : decode cX7_readNext 27 = .ok (.aload_n 0, 1) := by decide +kernel
theorem dX7_readNext_28 : decode cX7_readNext 28 = .ok (.bipush 59, 2) := by decide +kernel
theorem dX7_readNext_30 : decode cX7_readNext 30 = .ok (.invokevirtual 33, 3) := by decide +kernel
theorem dX7_readNext_33 : decode cX7_readNext 33 = .ok (.aload_n 0, 1) := by decide +kernel
theorem dX7_readNext_34 : decode cX7_readNext 34 = .ok (.getfield 26, 3) := by decide +kernel
theorem dX7_readNext_37 : decode cX7_readNext 37 = .ok (.ifCond .ne 7, 3) := by decide +kernel
theorem dX7_readNext_40 : decode cX7_readNext 40 = .ok (.aload_n 0, 1) := by decide +kernel
theorem dX7_readNext_41 : decode cX7_readNext 41 = .ok (.invokevirtual 37, 3) := by decide +kernel
theorem dX7_readNext_44 : decode cX7_readNext 44 = .ok (.aload_n 0, 1) := by decide +kernel
theorem dX7_readNext_45 : decode cX7_readNext 45 = .ok (.getfield 26, 3) := by decide +kernel
theorem dX7_readNext_48 : decode cX7_readNext 48 = .ok (.ifCond .ne 7, 3) := by decide +kernel
theorem dX7_readNext_51 : decode cX7_readNext 51 = .ok (.iconst 1, 1) := by decide +kernel
theorem dX7_readNext_52 : decode cX7_readNext 52 = .ok (.goto 4, 3) := by decide +kernel
theorem dX7_readNext_55 : decode cX7_readNext 55 = .ok (.iconst 0, 1) := by decide +kernel
theorem dX7_readNext_56 : decode cX7_readNext 56 = .ok (.ireturn, 1) := by decide +kernel
set_option maxRecDepth 20000 in
theorem ggX7_readEntry_X7_readReign : GoodIn wsX7_readEntry wsX7_readReign := goodIn_r _ [10, 1, 11, 12, 5, 13, 14, 15, 9, 16, 17, 18, 19, 20, 3, 21, 22, 23, 24, 2, 25, 26, 27, 28, 58, 59, 60, 61, 62, 63, 64, 65, 66, 67, 68, 69] (by decide +kernel) (by decide +kernel)
set_option maxRecDepth 20000 in
theorem gX7_readEntry_X7_readReign : GoodIn wsX7_readEntry (wsV RX7 43 RX7 yX7_readReign wsX7_readReign) := goodIn_app (goodIn_of _ (by decide +kernel)) ggX7_readEntry_X7_readReign
set_option maxRecDepth 20000 in
theorem ggX7_readEntry_X7_readDie : GoodIn wsX7_readEntry wsX7_readDie := goodIn_r _ [32, 1, 33, 11, 34, 17, 18, 19, 9, 20, 5, 3, 21, 22, 23, 24, 2, 13, 14, 15, 16, 35, 36, 37, 38, 58, 59, 60, 61, 62, 63, 64, 65, 66, 67, 68, 69] (by decide +kernel) (by decide +kernel)
set_option maxRecDepth 20000 in
theorem gX7_readEntry_X7_readDie : GoodIn wsX7_readEntry (wsV RX7 46 RX7 yX7_readDie wsX7_readDie) := goodIn_app (goodIn_of _ (by decide +kernel)) ggX7_readEntry_X7_readDie
set_option maxRecDepth 20000 in
theorem ggX7_readEntry_X7_readCrack : GoodIn wsX7_readEntry wsX7_readCrack := goodIn_r _ [42, 1, 33, 11, 17, 18, 19, 9, 20, 5, 3, 21, 22, 23, 24, 2, 13, 14, 15, 16, 58, 59, 60, 61, 62, 63, 64, 65, 66, 67, 68, 69] (by decide +kernel) (by decide +kernel)
set_option maxRecDepth 20000 in
theorem gX7_readEntry_X7_readCrack : GoodIn wsX7_readEntry (wsV RX7 49 RX7 yX7_readCrack wsX7_readCrack) := goodIn_app (goodIn_of _ (by decide +kernel)) ggX7_readEntry_X7_readCrack
set_option maxRecDepth 20000 in
theorem ggX7_readEntry_X7_readSeal : GoodIn wsX7_readEntry wsX7_readSeal := goodIn_r _ [46, 1, 33, 47, 48, 12, 17, 18, 19, 9, 20, 5, 3, 21, 22, 23, 24, 2, 49, 50, 51, 52, 25, 26, 27, 28, 58, 59, 60, 61, 62, 63, 64, 65, 66, 67, 68, 69] (by decide +kernel) (by decide +kernel)
set_option maxRecDepth 20000 in
theorem gX7_readEntry_X7_readSeal : GoodIn wsX7_readEntry (wsV RX7 52 RX7 yX7_readSeal wsX7_readSeal) := goodIn_app (goodIn_of _ (by decide +kernel)) ggX7_readEntry_X7_readSeal
set_option maxRecDepth 20000 in
theorem ggX7_readEntry_X7_readHanging : GoodIn wsX7_readEntry wsX7_readHanging := goodIn_r _ [56, 1, 33, 57, 17, 18, 19, 9, 20, 5, 3, 21, 22, 23, 24, 2, 58, 59, 60, 61, 62, 63, 64, 65, 66, 67, 68, 69] (by decide +kernel) (by decide +kernel)
set_option maxRecDepth 20000 in
theorem gX7_readEntry_X7_readHanging : GoodIn wsX7_readEntry (wsV RX7 55 RX7 yX7_readHanging wsX7_readHanging) := goodIn_app (goodIn_of _ (by decide +kernel)) ggX7_readEntry_X7_readHanging
theorem dX7_readEntry_0 : decode cX7_readEntry 0 = .ok (.aload_n 0, 1) := by decide +kernel
theorem dX7_readEntry_1 : decode cX7_readEntry 1 = .ok (.aload_n 0, 1) := by decide +kernel
theorem dX7_readEntry_2 : decode cX7_readEntry 2 = .ok (.getfield 30, 3) := by decide +kernel
theorem dX7_readEntry_5 : decode cX7_readEntry 5 = .ok (.aload_n 0, 1) := by decide +kernel
theorem dX7_readEntry_6 : decode cX7_readEntry 6 = .ok (.getfield 15, 3) := by decide +kernel
theorem dX7_readEntry_9 : decode cX7_readEntry 9 = .ok (.if_icmp .ge 15, 3) := by decide +kernel
theorem dX7_readEntry_12 : decode cX7_readEntry 12 = .ok (.aload_n 0, 1) := by decide +kernel
theorem dX7_readEntry_13 : decode cX7_readEntry 13 = .ok (.getfield 9, 3) := by decide +kernel
theorem dX7_readEntry_16 : decode cX7_readEntry 16 = .ok (.aload_n 0, 1) := by decide +kernel
theorem dX7_readEntry_17 : decode cX7_readEntry 17 = .ok (.getfield 30, 3) := by decide +kernel
theorem dX7_readEntry_20 : decode cX7_readEntry 20 = .ok (.caload, 1) := by decide +kernel
theorem dX7_readEntry_21 : decode cX7_readEntry 21 = .ok (.goto 5, 3) := by decide +kernel
theorem dX7_readEntry_24 : decode cX7_readEntry 24 = .ok (.bipush 32, 2) := by decide +kernel
theorem dX7_readEntry_26 : decode cX7_readEntry 26 = .ok (.putfield 40, 3) := by decide +kernel
theorem dX7_readEntry_29 : decode cX7_readEntry 29 = .ok (.aload_n 0, 1) := by decide +kernel
theorem dX7_readEntry_30 : decode cX7_readEntry 30 = .ok (.getfield 40, 3) := by decide +kernel
theorem dX7_readEntry_33 : decode cX7_readEntry 33 = .ok (.lookupswitch 94 #[(98, 80), (100, 66), (104, 87), (107, 73), (114, 59), (119, 80)], 59) := by decide +kernel
theorem dX7_readEntry_92 : decode cX7_readEntry 92 = .ok (.aload_n 0, 1) := by decide +kernel
theorem dX7_readEntry_93 : decode cX7_readEntry 93 = .ok (.invokevirtual 43, 3) := by decide +kernel
theorem dX7_readEntry_96 : decode cX7_readEntry 96 = .ok (.goto 36, 3) := by decide +kernel
theorem dX7_readEntry_99 : decode cX7_readEntry 99 = .ok (.aload_n 0, 1) := by decide +kernel
theorem dX7_readEntry_100 : decode cX7_readEntry 100 = .ok (.invokevirtual 46, 3) := by decide +kernel
theorem dX7_readEntry_103 : decode cX7_readEntry 103 = .ok (.goto 29, 3) := by decide +kernel
theorem dX7_readEntry_106 : decode cX7_readEntry 106 = .ok (.aload_n 0, 1) := by decide +kernel
theorem dX7_readEntry_107 : decode cX7_readEntry 107 = .ok (.invokevirtual 49, 3) := by decide +kernel
theorem dX7_readEntry_110 : decode cX7_readEntry 110 = .ok (.goto 22, 3) := by decide +kernel
theorem dX7_readEntry_113 : decode cX7_readEntry 113 = .ok (.aload_n 0, 1) := by decide +kernel
theorem dX7_readEntry_114 : decode cX7_readEntry 114 = .ok (.invokevirtual 52, 3) := by decide +kernel
theorem dX7_readEntry_117 : decode cX7_readEntry 117 = .ok (.goto 15, 3) := by decide +kernel
theorem dX7_readEntry_120 : decode cX7_readEntry 120 = .ok (.aload_n 0, 1) := by decide +kernel
theorem dX7_readEntry_121 : decode cX7_readEntry 121 = .ok (.invokevirtual 55, 3) := by decide +kernel
theorem dX7_readEntry_124 : decode cX7_readEntry 124 = .ok (.goto 8, 3) := by decide +kernel
theorem dX7_readEntry_127 : decode cX7_readEntry 127 = .ok (.aload_n 0, 1) := by decide +kernel
theorem dX7_readEntry_128 : decode cX7_readEntry 128 = .ok (.iconst 1, 1) := by decide +kernel
theorem dX7_readEntry_129 : decode cX7_readEntry 129 = .ok (.putfield 26, 3) := by decide +kernel
theorem dX7_readEntry_132 : decode cX7_readEntry 132 = .ok (.return_, 1) := by decide +kernel
set_option maxRecDepth 20000 in
theorem ggX7_readReign_X7_readYear : GoodIn wsX7_readReign wsX7_readYear := goodIn_r _ [9, 10, 11, 12, 8, 13, 4, 1, 14, 15, 16, 17, 18, 19, 24, 25, 26, 27, 28, 29, 30, 31, 32, 33, 34, 35] (by decide +kernel) (by decide +kernel)
set_option maxRecDepth 20000 in
theorem gX7_readReign_X7_readYear : GoodIn wsX7_readReign (wsV RX7 58 RX7 yX7_readYear wsX7_readYear) := goodIn_app (goodIn_of _ (by decide +kernel)) ggX7_readReign_X7_readYear
set_option maxRecDepth 20000 in
theorem ggX7_readReign_X7_readRising : GoodIn wsX7_readReign wsX7_readRising := goodIn_r _ [23, 4, 1, 15, 16, 17, 8, 18, 19, 14, 24, 25, 26, 27, 28, 29, 30, 31, 32, 33, 34, 35] (by decide +kernel) (by decide +kernel)
set_option maxRecDepth 20000 in
theorem gX7_readReign_X7_readRising : GoodIn wsX7_readReign (wsV RX7 65 RX7 yX7_readRising wsX7_readRising) := goodIn_app (goodIn_of _ (by decide +kernel)) ggX7_readReign_X7_readRising
theorem dX7_readReign_0 : decode cX7_readReign 0 = .ok (.aload_n 0, 1) := by decide +kernel
theorem dX7_readReign_1 : decode cX7_readReign 1 = .ok (.dup, 1) := by decide +kernel
theorem dX7_readReign_2 : decode cX7_readReign 2 = .ok (.getfield 30, 3) := by decide +kernel
theorem dX7_readReign_5 : decode cX7_readReign 5 = .ok (.iconst 1, 1) := by decide +kernel
theorem dX7_readReign_6 : decode cX7_readReign 6 = .ok (.iadd, 1) := by decide +kernel
theorem dX7_readReign_7 : decode cX7_readReign 7 = .ok (.putfield 30, 3) := by decide +kernel
theorem dX7_readReign_10 : decode cX7_readReign 10 = .ok (.aload_n 0, 1) := by decide +kernel
theorem dX7_readReign_11 : decode cX7_readReign 11 = .ok (.aload_n 0, 1) := by decide +kernel
theorem dX7_readReign_12 : decode cX7_readReign 12 = .ok (.invokevirtual 58, 3) := by decide +kernel
theorem dX7_readReign_15 : decode cX7_readReign 15 = .ok (.putfield 62, 3) := by decide +kernel
theorem dX7_readReign_18 : decode cX7_readReign 18 = .ok (.aload_n 0, 1) := by decide +kernel
theorem dX7_readReign_19 : decode cX7_readReign 19 = .ok (.aload_n 0, 1) := by decide +kernel
theorem dX7_readReign_20 : decode cX7_readReign 20 = .ok (.bipush 7, 2) := by decide +kernel
theorem dX7_readReign_22 : decode cX7_readReign 22 = .ok (.invokevirtual 65, 3) := by decide +kernel
theorem dX7_readReign_25 : decode cX7_readReign 25 = .ok (.putfield 69, 3) := by decide +kernel
theorem dX7_readReign_28 : decode cX7_readReign 28 = .ok (.aload_n 0, 1) := by decide +kernel
theorem dX7_readReign_29 : decode cX7_readReign 29 = .ok (.getfield 69, 3) := by decide +kernel
theorem dX7_readReign_32 : decode cX7_readReign 32 = .ok (.ifCond .ne 8, 3) := by decide +kernel
theorem dX7_readReign_35 : decode cX7_readReign 35 = .ok (.aload_n 0, 1) := by decide +kernel
theorem dX7_readReign_36 : decode cX7_readReign 36 = .ok (.iconst 1, 1) := by decide +kernel
theorem dX7_readReign_37 : decode cX7_readReign 37 = .ok (.putfield 26, 3) := by decide +kernel
theorem dX7_readReign_40 : decode cX7_readReign 40 = .ok (.return_, 1) := by decide +kernel
set_option maxRecDepth 20000 in
theorem ggX7_readDie_X7_readDigit : GoodIn wsX7_readDie wsX7_readDigit := goodIn_r _ [9, 10, 1, 11, 12, 13, 14, 8, 15, 16, 25, 26, 27, 28, 29, 30, 31, 32, 33, 34, 35, 36] (by decide +kernel) (by decide +kernel)
set_option maxRecDepth 20000 in
theorem gX7_readDie_X7_readDigit : GoodIn wsX7_readDie (wsV RX7 72 RX7 yX7_readDigit wsX7_readDigit) := goodIn_app (goodIn_of _ (by decide +kernel)) ggX7_readDie_X7_readDigit
set_option maxRecDepth 20000 in
theorem ggX7_readDie_X7_readYear : GoodIn wsX7_readDie wsX7_readYear := goodIn_r _ [20, 5, 6, 7, 8, 9, 10, 1, 11, 12, 13, 14, 15, 16, 25, 26, 27, 28, 29, 30, 31, 32, 33, 34, 35, 36] (by decide +kernel) (by decide +kernel)
set_option maxRecDepth 20000 in
theorem gX7_readDie_X7_readYear : GoodIn wsX7_readDie (wsV RX7 58 RX7 yX7_readYear wsX7_readYear) := goodIn_app (goodIn_of _ (by decide +kernel)) ggX7_readDie_X7_readYear
set_option maxRecDepth 20000 in
theorem ggX7_readDie_X7_readSign : GoodIn wsX7_readDie wsX7_readSign := goodIn_r _ [24, 10, 1, 16, 11, 25, 26, 27, 28, 29, 30, 31, 32, 33, 34, 35, 36] (by decide +kernel) (by decide +kernel)
set_option maxRecDepth 20000 in
theorem gX7_readDie_X7_readSign : GoodIn wsX7_readDie (wsV RX7 33 RX7 yX7_readSign wsX7_readSign) := goodIn_app (goodIn_of _ (by decide +kernel)) ggX7_readDie_X7_readSign
theorem dX7_readDie_0 : decode cX7_readDie 0 = .ok (.aload_n 0, 1) := by decide +kernel
theorem dX7_readDie_1 : decode cX7_readDie 1 = .ok (.dup, 1) := by decide +kernel
theorem dX7_readDie_2 : decode cX7_readDie 2 = .ok (.getfield 30, 3) := by decide +kernel
theorem dX7_readDie_5 : decode cX7_readDie 5 = .ok (.iconst 1, 1) := by decide +kernel
theorem dX7_readDie_6 : decode cX7_readDie 6 = .ok (.iadd, 1) := by decide +kernel
theorem dX7_readDie_7 : decode cX7_readDie 7 = .ok (.putfield 30, 3) := by decide +kernel
theorem dX7_readDie_10 : decode cX7_readDie 10 = .ok (.aload_n 0, 1) := by decide +kernel
theorem dX7_readDie_11 : decode cX7_readDie 11 = .ok (.aload_n 0, 1) := by decide +kernel
theorem dX7_readDie_12 : decode cX7_readDie 12 = .ok (.iconst 0, 1) := by decide +kernel
theorem dX7_readDie_13 : decode cX7_readDie 13 = .ok (.iconst 5, 1) := by decide +kernel
theorem dX7_readDie_14 : decode cX7_readDie 14 = .ok (.invokevirtual 72, 3) := by decide +kernel
theorem dX7_readDie_17 : decode cX7_readDie 17 = .ok (.putfield 76, 3) := by decide +kernel
theorem dX7_readDie_20 : decode cX7_readDie 20 = .ok (.aload_n 0, 1) := by decide +kernel
theorem dX7_readDie_21 : decode cX7_readDie 21 = .ok (.aload_n 0, 1) := by decide +kernel
theorem dX7_readDie_22 : decode cX7_readDie 22 = .ok (.invokevirtual 58, 3) := by decide +kernel
theorem dX7_readDie_25 : decode cX7_readDie 25 = .ok (.putfield 62, 3) := by decide +kernel
theorem dX7_readDie_28 : decode cX7_readDie 28 = .ok (.aload_n 0, 1) := by decide +kernel
theorem dX7_readDie_29 : decode cX7_readDie 29 = .ok (.bipush 45, 2) := by decide +kernel
theorem dX7_readDie_31 : decode cX7_readDie 31 = .ok (.invokevirtual 33, 3) := by decide +kernel
theorem dX7_readDie_34 : decode cX7_readDie 34 = .ok (.aload_n 0, 1) := by decide +kernel
theorem dX7_readDie_35 : decode cX7_readDie 35 = .ok (.aload_n 0, 1) := by decide +kernel
theorem dX7_readDie_36 : decode cX7_readDie 36 = .ok (.invokevirtual 58, 3) := by decide +kernel
theorem dX7_readDie_39 : decode cX7_readDie 39 = .ok (.putfield 79, 3) := by decide +kernel
theorem dX7_readDie_42 : decode cX7_readDie 42 = .ok (.return_, 1) := by decide +kernel
set_option maxRecDepth 20000 in
theorem ggX7_readCrack_X7_readDigit : GoodIn wsX7_readCrack wsX7_readDigit := goodIn_r _ [8, 9, 1, 10, 11, 12, 13, 7, 14, 15, 20, 21, 22, 23, 24, 25, 26, 27, 28, 29, 30, 31] (by decide +kernel) (by decide +kernel)
set_option maxRecDepth 20000 in
theorem gX7_readCrack_X7_readDigit : GoodIn wsX7_readCrack (wsV RX7 72 RX7 yX7_readDigit wsX7_readDigit) := goodIn_app (goodIn_of _ (by decide +kernel)) ggX7_readCrack_X7_readDigit
set_option maxRecDepth 20000 in
theorem ggX7_readCrack_X7_readYear : GoodIn wsX7_readCrack wsX7_readYear := goodIn_r _ [19, 4, 5, 6, 7, 8, 9, 1, 10, 11, 12, 13, 14, 15, 20, 21, 22, 23, 24, 25, 26, 27, 28, 29, 30, 31] (by decide +kernel) (by decide +kernel)
set_option maxRecDepth 20000 in
theorem gX7_readCrack_X7_readYear : GoodIn wsX7_readCrack (wsV RX7 58 RX7 yX7_readYear wsX7_readYear) := goodIn_app (goodIn_of _ (by decide +kernel)) ggX7_readCrack_X7_readYear
theorem dX7_readCrack_0 : decode cX7_readCrack 0 = .ok (.aload_n 0, 1) := by decide +kernel
theorem dX7_readCrack_1 : decode cX7_readCrack 1 = .ok (.dup, 1) := by decide +kernel
theorem dX7_readCrack_2 : decode cX7_readCrack 2 = .ok (.getfield 30, 3) := by decide +kernel
theorem dX7_readCrack_5 : decode cX7_readCrack 5 = .ok (.iconst 1, 1) := by decide +kernel
theorem dX7_readCrack_6 : decode cX7_readCrack 6 = .ok (.iadd, 1) := by decide +kernel
theorem dX7_readCrack_7 : decode cX7_readCrack 7 = .ok (.putfield 30, 3) := by decide +kernel
theorem dX7_readCrack_10 : decode cX7_readCrack 10 = .ok (.aload_n 0, 1) := by decide +kernel
theorem dX7_readCrack_11 : decode cX7_readCrack 11 = .ok (.aload_n 0, 1) := by decide +kernel
theorem dX7_readCrack_12 : decode cX7_readCrack 12 = .ok (.iconst 0, 1) := by decide +kernel
theorem dX7_readCrack_13 : decode cX7_readCrack 13 = .ok (.bipush 9, 2) := by decide +kernel
theorem dX7_readCrack_15 : decode cX7_readCrack 15 = .ok (.invokevirtual 72, 3) := by decide +kernel
theorem dX7_readCrack_18 : decode cX7_readCrack 18 = .ok (.putfield 76, 3) := by decide +kernel
theorem dX7_readCrack_21 : decode cX7_readCrack 21 = .ok (.aload_n 0, 1) := by decide +kernel
theorem dX7_readCrack_22 : decode cX7_readCrack 22 = .ok (.aload_n 0, 1) := by decide +kernel
theorem dX7_readCrack_23 : decode cX7_readCrack 23 = .ok (.invokevirtual 58, 3) := by decide +kernel
theorem dX7_readCrack_26 : decode cX7_readCrack 26 = .ok (.putfield 62, 3) := by decide +kernel
theorem dX7_readCrack_29 : decode cX7_readCrack 29 = .ok (.return_, 1) := by decide +kernel
set_option maxRecDepth 20000 in
theorem ggX7_readSeal_X7_readDigit : GoodIn wsX7_readSeal wsX7_readDigit := goodIn_r _ [10, 11, 1, 12, 13, 14, 15, 9, 16, 17, 26, 27, 28, 29, 30, 31, 32, 33, 34, 35, 36, 37] (by decide +kernel) (by decide +kernel)
set_option maxRecDepth 20000 in
theorem gX7_readSeal_X7_readDigit : GoodIn wsX7_readSeal (wsV RX7 72 RX7 yX7_readDigit wsX7_readDigit) := goodIn_app (goodIn_of _ (by decide +kernel)) ggX7_readSeal_X7_readDigit
set_option maxRecDepth 20000 in
theorem ggX7_readSeal_X7_readColour : GoodIn wsX7_readSeal wsX7_readColour := goodIn_r _ [21, 11, 1, 17, 12, 6, 7, 8, 9, 10, 13, 14, 15, 16, 26, 27, 28, 29, 30, 31, 32, 33, 34, 35, 36, 37] (by decide +kernel) (by decide +kernel)
set_option maxRecDepth 20000 in
theorem gX7_readSeal_X7_readColour : GoodIn wsX7_readSeal (wsV RX7 82 RX7 yX7_readColour wsX7_readColour) := goodIn_app (goodIn_of _ (by decide +kernel)) ggX7_readSeal_X7_readColour
set_option maxRecDepth 20000 in
theorem ggX7_readSeal_X7_readRising : GoodIn wsX7_readSeal wsX7_readRising := goodIn_r _ [25, 11, 1, 13, 14, 15, 9, 16, 17, 12, 26, 27, 28, 29, 30, 31, 32, 33, 34, 35, 36, 37] (by decide +kernel) (by decide +kernel)
set_option maxRecDepth 20000 in
theorem gX7_readSeal_X7_readRising : GoodIn wsX7_readSeal (wsV RX7 65 RX7 yX7_readRising wsX7_readRising) := goodIn_app (goodIn_of _ (by decide +kernel)) ggX7_readSeal_X7_readRising
theorem dX7_readSeal_0 : decode cX7_readSeal 0 = .ok (.aload_n 0, 1) := by decide +kernel
theorem dX7_readSeal_1 : decode cX7_readSeal 1 = .ok (.dup, 1) := by decide +kernel
theorem dX7_readSeal_2 : decode cX7_readSeal 2 = .ok (.getfield 30, 3) := by decide +kernel
theorem dX7_readSeal_5 : decode cX7_readSeal 5 = .ok (.iconst 1, 1) := by decide +kernel
theorem dX7_readSeal_6 : decode cX7_readSeal 6 = .ok (.iadd, 1) := by decide +kernel
theorem dX7_readSeal_7 : decode cX7_readSeal 7 = .ok (.putfield 30, 3) := by decide +kernel
theorem dX7_readSeal_10 : decode cX7_readSeal 10 = .ok (.aload_n 0, 1) := by decide +kernel
theorem dX7_readSeal_11 : decode cX7_readSeal 11 = .ok (.aload_n 0, 1) := by decide +kernel
theorem dX7_readSeal_12 : decode cX7_readSeal 12 = .ok (.iconst 0, 1) := by decide +kernel
theorem dX7_readSeal_13 : decode cX7_readSeal 13 = .ok (.bipush 9, 2) := by decide +kernel
theorem dX7_readSeal_15 : decode cX7_readSeal 15 = .ok (.invokevirtual 72, 3) := by decide +kernel
theorem dX7_readSeal_18 : decode cX7_readSeal 18 = .ok (.putfield 76, 3) := by decide +kernel
theorem dX7_readSeal_21 : decode cX7_readSeal 21 = .ok (.aload_n 0, 1) := by decide +kernel
theorem dX7_readSeal_22 : decode cX7_readSeal 22 = .ok (.aload_n 0, 1) := by decide +kernel
theorem dX7_readSeal_23 : decode cX7_readSeal 23 = .ok (.invokevirtual 82, 3) := by decide +kernel
theorem dX7_readSeal_26 : decode cX7_readSeal 26 = .ok (.putfield 85, 3) := by decide +kernel
theorem dX7_readSeal_29 : decode cX7_readSeal 29 = .ok (.aload_n 0, 1) := by decide +kernel
theorem dX7_readSeal_30 : decode cX7_readSeal 30 = .ok (.bipush 10, 2) := by decide +kernel
theorem dX7_readSeal_32 : decode cX7_readSeal 32 = .ok (.aload_n 0, 1) := by decide +kernel
theorem dX7_readSeal_33 : decode cX7_readSeal 33 = .ok (.iconst 0, 1) := by decide +kernel
theorem dX7_readSeal_34 : decode cX7_readSeal 34 = .ok (.bipush 9, 2) := by decide +kernel
theorem dX7_readSeal_36 : decode cX7_readSeal 36 = .ok (.invokevirtual 72, 3) := by decide +kernel
theorem dX7_readSeal_39 : decode cX7_readSeal 39 = .ok (.imul, 1) := by decide +kernel
theorem dX7_readSeal_40 : decode cX7_readSeal 40 = .ok (.putfield 88, 3) := by decide +kernel
theorem dX7_readSeal_43 : decode cX7_readSeal 43 = .ok (.aload_n 0, 1) := by decide +kernel
theorem dX7_readSeal_44 : decode cX7_readSeal 44 = .ok (.dup, 1) := by decide +kernel
theorem dX7_readSeal_45 : decode cX7_readSeal 45 = .ok (.getfield 88, 3) := by decide +kernel
theorem dX7_readSeal_48 : decode cX7_readSeal 48 = .ok (.aload_n 0, 1) := by decide +kernel
theorem dX7_readSeal_49 : decode cX7_readSeal 49 = .ok (.iconst 0, 1) := by decide +kernel
theorem dX7_readSeal_50 : decode cX7_readSeal 50 = .ok (.bipush 9, 2) := by decide +kernel
theorem dX7_readSeal_52 : decode cX7_readSeal 52 = .ok (.invokevirtual 72, 3) := by decide +kernel
theorem dX7_readSeal_55 : decode cX7_readSeal 55 = .ok (.iadd, 1) := by decide +kernel
theorem dX7_readSeal_56 : decode cX7_readSeal 56 = .ok (.putfield 88, 3) := by decide +kernel
theorem dX7_readSeal_59 : decode cX7_readSeal 59 = .ok (.aload_n 0, 1) := by decide +kernel
theorem dX7_readSeal_60 : decode cX7_readSeal 60 = .ok (.aload_n 0, 1) := by decide +kernel
theorem dX7_readSeal_61 : decode cX7_readSeal 61 = .ok (.iconst 3, 1) := by decide +kernel
theorem dX7_readSeal_62 : decode cX7_readSeal 62 = .ok (.invokevirtual 65, 3) := by decide +kernel
theorem dX7_readSeal_65 : decode cX7_readSeal 65 = .ok (.putfield 69, 3) := by decide +kernel
theorem dX7_readSeal_68 : decode cX7_readSeal 68 = .ok (.return_, 1) := by decide +kernel
set_option maxRecDepth 20000 in
theorem ggX7_readHanging_X7_readDigit : GoodIn wsX7_readHanging wsX7_readDigit := goodIn_r _ [8, 9, 1, 10, 11, 12, 13, 7, 14, 15, 16, 17, 18, 19, 20, 21, 22, 23, 24, 25, 26, 27] (by decide +kernel) (by decide +kernel)
set_option maxRecDepth 20000 in
theorem gX7_readHanging_X7_readDigit : GoodIn wsX7_readHanging (wsV RX7 72 RX7 yX7_readDigit wsX7_readDigit) := goodIn_app (goodIn_of _ (by decide +kernel)) ggX7_readHanging_X7_readDigit
theorem dX7_readHanging_0 : decode cX7_readHanging 0 = .ok (.aload_n 0, 1) := by decide +kernel
theorem dX7_readHanging_1 : decode cX7_readHanging 1 = .ok (.dup, 1) := by decide +kernel
theorem dX7_readHanging_2 : decode cX7_readHanging 2 = .ok (.getfield 30, 3) := by decide +kernel
theorem dX7_readHanging_5 : decode cX7_readHanging 5 = .ok (.iconst 1, 1) := by decide +kernel
theorem dX7_readHanging_6 : decode cX7_readHanging 6 = .ok (.iadd, 1) := by decide +kernel
theorem dX7_readHanging_7 : decode cX7_readHanging 7 = .ok (.putfield 30, 3) := by decide +kernel
theorem dX7_readHanging_10 : decode cX7_readHanging 10 = .ok (.aload_n 0, 1) := by decide +kernel
theorem dX7_readHanging_11 : decode cX7_readHanging 11 = .ok (.iconst 0, 1) := by decide +kernel
theorem dX7_readHanging_12 : decode cX7_readHanging 12 = .ok (.iconst 2, 1) := by decide +kernel
theorem dX7_readHanging_13 : decode cX7_readHanging 13 = .ok (.invokevirtual 72, 3) := by decide +kernel
theorem dX7_readHanging_16 : decode cX7_readHanging 16 = .ok (.istore_n 1, 1) := by decide +kernel
theorem dX7_readHanging_17 : decode cX7_readHanging 17 = .ok (.iload_n 1, 1) := by decide +kernel
theorem dX7_readHanging_18 : decode cX7_readHanging 18 = .ok (.iconst 2, 1) := by decide +kernel
theorem dX7_readHanging_19 : decode cX7_readHanging 19 = .ok (.if_icmp .ne 7, 3) := by decide +kernel
theorem dX7_readHanging_22 : decode cX7_readHanging 22 = .ok (.iconst 3, 1) := by decide +kernel
theorem dX7_readHanging_23 : decode cX7_readHanging 23 = .ok (.goto 5, 3) := by decide +kernel
theorem dX7_readHanging_26 : decode cX7_readHanging 26 = .ok (.bipush 9, 2) := by decide +kernel
theorem dX7_readHanging_28 : decode cX7_readHanging 28 = .ok (.istore_n 2, 1) := by decide +kernel
theorem dX7_readHanging_29 : decode cX7_readHanging 29 = .ok (.aload_n 0, 1) := by decide +kernel
theorem dX7_readHanging_30 : decode cX7_readHanging 30 = .ok (.bipush 10, 2) := by decide +kernel
theorem dX7_readHanging_32 : decode cX7_readHanging 32 = .ok (.iload_n 1, 1) := by decide +kernel
theorem dX7_readHanging_33 : decode cX7_readHanging 33 = .ok (.imul, 1) := by decide +kernel
theorem dX7_readHanging_34 : decode cX7_readHanging 34 = .ok (.aload_n 0, 1) := by decide +kernel
theorem dX7_readHanging_35 : decode cX7_readHanging 35 = .ok (.iconst 0, 1) := by decide +kernel
theorem dX7_readHanging_36 : decode cX7_readHanging 36 = .ok (.iload_n 2, 1) := by decide +kernel
theorem dX7_readHanging_37 : decode cX7_readHanging 37 = .ok (.invokevirtual 72, 3) := by decide +kernel
theorem dX7_readHanging_40 : decode cX7_readHanging 40 = .ok (.iadd, 1) := by decide +kernel
theorem dX7_readHanging_41 : decode cX7_readHanging 41 = .ok (.putfield 76, 3) := by decide +kernel
theorem dX7_readHanging_44 : decode cX7_readHanging 44 = .ok (.aload_n 0, 1) := by decide +kernel
theorem dX7_readHanging_45 : decode cX7_readHanging 45 = .ok (.aload_n 0, 1) := by decide +kernel
theorem dX7_readHanging_46 : decode cX7_readHanging 46 = .ok (.iconst 0, 1) := by decide +kernel
theorem dX7_readHanging_47 : decode cX7_readHanging 47 = .ok (.iconst 5, 1) := by decide +kernel
theorem dX7_readHanging_48 : decode cX7_readHanging 48 = .ok (.invokevirtual 72, 3) := by decide +kernel
theorem dX7_readHanging_51 : decode cX7_readHanging 51 = .ok (.putfield 91, 3) := by decide +kernel
theorem dX7_readHanging_54 : decode cX7_readHanging 54 = .ok (.return_, 1) := by decide +kernel
set_option maxRecDepth 20000 in
theorem ggX7_readYear_X7_readDigit : GoodIn wsX7_readYear wsX7_readDigit := goodIn_r _ [5, 6, 7, 8, 9, 10, 11, 4, 12, 13, 14, 15, 16, 17, 18, 19, 20, 21, 22, 23, 24, 25] (by decide +kernel) (by decide +kernel)
set_option maxRecDepth 20000 in
theorem gX7_readYear_X7_readDigit : GoodIn wsX7_readYear (wsV RX7 72 RX7 yX7_readDigit wsX7_readDigit) := goodIn_app (goodIn_of _ (by decide +kernel)) ggX7_readYear_X7_readDigit
theorem dX7_readYear_0 : decode cX7_readYear 0 = .ok (.aload_n 0, 1) := by decide +kernel
theorem dX7_readYear_1 : decode cX7_readYear 1 = .ok (.iconst 1, 1) := by decide +kernel
theorem dX7_readYear_2 : decode cX7_readYear 2 = .ok (.iconst 1, 1) := by decide +kernel
theorem dX7_readYear_3 : decode cX7_readYear 3 = .ok (.invokevirtual 72, 3) := by decide +kernel
theorem dX7_readYear_6 : decode cX7_readYear 6 = .ok (.istore_n 1, 1) := by decide +kernel
theorem dX7_readYear_7 : decode cX7_readYear 7 = .ok (.iconst 0, 1) := by decide +kernel
theorem dX7_readYear_8 : decode cX7_readYear 8 = .ok (.istore_n 2, 1) := by decide +kernel
theorem dX7_readYear_9 : decode cX7_readYear 9 = .ok (.iload_n 2, 1) := by decide +kernel
theorem dX7_readYear_10 : decode cX7_readYear 10 = .ok (.iconst 3, 1) := by decide +kernel
theorem dX7_readYear_11 : decode cX7_readYear 11 = .ok (.if_icmp .ge 22, 3) := by decide +kernel
theorem dX7_readYear_14 : decode cX7_readYear 14 = .ok (.bipush 10, 2) := by decide +kernel
theorem dX7_readYear_16 : decode cX7_readYear 16 = .ok (.iload_n 1, 1) := by decide +kernel
theorem dX7_readYear_17 : decode cX7_readYear 17 = .ok (.imul, 1) := by decide +kernel
theorem dX7_readYear_18 : decode cX7_readYear 18 = .ok (.aload_n 0, 1) := by decide +kernel
theorem dX7_readYear_19 : decode cX7_readYear 19 = .ok (.iconst 0, 1) := by decide +kernel
theorem dX7_readYear_20 : decode cX7_readYear 20 = .ok (.bipush 9, 2) := by decide +kernel
theorem dX7_readYear_22 : decode cX7_readYear 22 = .ok (.invokevirtual 72, 3) := by decide +kernel
theorem dX7_readYear_25 : decode cX7_readYear 25 = .ok (.iadd, 1) := by decide +kernel
theorem dX7_readYear_26 : decode cX7_readYear 26 = .ok (.istore_n 1, 1) := by decide +kernel
theorem dX7_readYear_27 : decode cX7_readYear 27 = .ok (.iinc 2 1, 3) := by decide +kernel
theorem dX7_readYear_30 : decode cX7_readYear 30 = .ok (.goto (-21), 3) := by decide +kernel
theorem dX7_readYear_33 : decode cX7_readYear 33 = .ok (.iload_n 1, 1) := by decide +kernel
theorem dX7_readYear_34 : decode cX7_readYear 34 = .ok (.ireturn, 1) := by decide +kernel
set_option maxRecDepth 20000 in
theorem ggX7_readColour_X7_readDigit : GoodIn wsX7_readColour wsX7_readDigit := goodIn_r _ [9, 1, 2, 4, 10, 11, 12, 8, 13, 3, 14, 15, 16, 17, 18, 19, 20, 21, 22, 23, 24, 25] (by decide +kernel) (by decide +kernel)
set_option maxRecDepth 20000 in
theorem gX7_readColour_X7_readDigit : GoodIn wsX7_readColour (wsV RX7 72 RX7 yX7_readDigit wsX7_readDigit) := goodIn_app (goodIn_of _ (by decide +kernel)) ggX7_readColour_X7_readDigit
theorem dX7_readColour_0 : decode cX7_readColour 0 = .ok (.aload_n 0, 1) := by decide +kernel
theorem dX7_readColour_1 : decode cX7_readColour 1 = .ok (.getfield 26, 3) := by decide +kernel
theorem dX7_readColour_4 : decode cX7_readColour 4 = .ok (.ifCond .ne 40, 3) := by decide +kernel
theorem dX7_readColour_7 : decode cX7_readColour 7 = .ok (.aload_n 0, 1) := by decide +kernel
theorem dX7_readColour_8 : decode cX7_readColour 8 = .ok (.getfield 30, 3) := by decide +kernel
theorem dX7_readColour_11 : decode cX7_readColour 11 = .ok (.aload_n 0, 1) := by decide +kernel
theorem dX7_readColour_12 : decode cX7_readColour 12 = .ok (.getfield 15, 3) := by decide +kernel
theorem dX7_readColour_15 : decode cX7_readColour 15 = .ok (.if_icmp .ge 29, 3) := by decide +kernel
theorem dX7_readColour_18 : decode cX7_readColour 18 = .ok (.aload_n 0, 1) := by decide +kernel
theorem dX7_readColour_19 : decode cX7_readColour 19 = .ok (.getfield 9, 3) := by decide +kernel
theorem dX7_readColour_22 : decode cX7_readColour 22 = .ok (.aload_n 0, 1) := by decide +kernel
theorem dX7_readColour_23 : decode cX7_readColour 23 = .ok (.getfield 30, 3) := by decide +kernel
theorem dX7_readColour_26 : decode cX7_readColour 26 = .ok (.caload, 1) := by decide +kernel
theorem dX7_readColour_27 : decode cX7_readColour 27 = .ok (.bipush 46, 2) := by decide +kernel
theorem dX7_readColour_29 : decode cX7_readColour 29 = .ok (.if_icmp .ne 15, 3) := by decide +kernel
theorem dX7_readColour_32 : decode cX7_readColour 32 = .ok (.aload_n 0, 1) := by decide +kernel
theorem dX7_readColour_33 : decode cX7_readColour 33 = .ok (.dup, 1) := by decide +kernel
theorem dX7_readColour_34 : decode cX7_readColour 34 = .ok (.getfield 30, 3) := by decide +kernel
theorem dX7_readColour_37 : decode cX7_readColour 37 = .ok (.iconst 1, 1) := by decide +kernel
theorem dX7_readColour_38 : decode cX7_readColour 38 = .ok (.iadd, 1) := by decide +kernel
theorem dX7_readColour_39 : decode cX7_readColour 39 = .ok (.putfield 30, 3) := by decide +kernel
theorem dX7_readColour_42 : decode cX7_readColour 42 = .ok (.iconst (-1), 1) := by decide +kernel
theorem dX7_readColour_43 : decode cX7_readColour 43 = .ok (.ireturn, 1) := by decide +kernel
theorem dX7_readColour_44 : decode cX7_readColour 44 = .ok (.aload_n 0, 1) := by decide +kernel
theorem dX7_readColour_45 : decode cX7_readColour 45 = .ok (.iconst 0, 1) := by decide +kernel
theorem dX7_readColour_46 : decode cX7_readColour 46 = .ok (.bipush 7, 2) := by decide +kernel
theorem dX7_readColour_48 : decode cX7_readColour 48 = .ok (.invokevirtual 72, 3) := by decide +kernel
theorem dX7_readColour_51 : decode cX7_readColour 51 = .ok (.ireturn, 1) := by decide +kernel
set_option maxRecDepth 20000 in
theorem ggX7_readDigit_X7_isDigit : GoodIn wsX7_readDigit wsX7_isDigit := goodIn_r _ [8, 2, 9, 3, 10, 11, 12, 13, 14, 15, 16, 17, 18, 19, 20, 21] (by decide +kernel) (by decide +kernel)
set_option maxRecDepth 20000 in
theorem gX7_readDigit_X7_isDigit : GoodIn wsX7_readDigit (wsV RX7 94 RX7 yX7_isDigit wsX7_isDigit) := goodIn_app (goodIn_of _ (by decide +kernel)) ggX7_readDigit_X7_isDigit
theorem dX7_readDigit_0 : decode cX7_readDigit 0 = .ok (.aload_n 0, 1) := by decide +kernel
theorem dX7_readDigit_1 : decode cX7_readDigit 1 = .ok (.getfield 26, 3) := by decide +kernel
theorem dX7_readDigit_4 : decode cX7_readDigit 4 = .ok (.ifCond .ne 12, 3) := by decide +kernel
theorem dX7_readDigit_7 : decode cX7_readDigit 7 = .ok (.aload_n 0, 1) := by decide +kernel
theorem dX7_readDigit_8 : decode cX7_readDigit 8 = .ok (.iload_n 1, 1) := by decide +kernel
theorem dX7_readDigit_9 : decode cX7_readDigit 9 = .ok (.iload_n 2, 1) := by decide +kernel
theorem dX7_readDigit_10 : decode cX7_readDigit 10 = .ok (.invokevirtual 94, 3) := by decide +kernel
theorem dX7_readDigit_13 : decode cX7_readDigit 13 = .ok (.ifCond .ne 10, 3) := by decide +kernel
theorem dX7_readDigit_16 : decode cX7_readDigit 16 = .ok (.aload_n 0, 1) := by decide +kernel
theorem dX7_readDigit_17 : decode cX7_readDigit 17 = .ok (.iconst 1, 1) := by decide +kernel
theorem dX7_readDigit_18 : decode cX7_readDigit 18 = .ok (.putfield 26, 3) := by decide +kernel
theorem dX7_readDigit_21 : decode cX7_readDigit 21 = .ok (.iconst 0, 1) := by decide +kernel
theorem dX7_readDigit_22 : decode cX7_readDigit 22 = .ok (.ireturn, 1) := by decide +kernel
theorem dX7_readDigit_23 : decode cX7_readDigit 23 = .ok (.aload_n 0, 1) := by decide +kernel
theorem dX7_readDigit_24 : decode cX7_readDigit 24 = .ok (.dup, 1) := by decide +kernel
theorem dX7_readDigit_25 : decode cX7_readDigit 25 = .ok (.getfield 30, 3) := by decide +kernel
theorem dX7_readDigit_28 : decode cX7_readDigit 28 = .ok (.iconst 1, 1) := by decide +kernel
theorem dX7_readDigit_29 : decode cX7_readDigit 29 = .ok (.iadd, 1) := by decide +kernel
theorem dX7_readDigit_30 : decode cX7_readDigit 30 = .ok (.putfield 30, 3) := by decide +kernel
theorem dX7_readDigit_33 : decode cX7_readDigit 33 = .ok (.aload_n 0, 1) := by decide +kernel
theorem dX7_readDigit_34 : decode cX7_readDigit 34 = .ok (.getfield 9, 3) := by decide +kernel
theorem dX7_readDigit_37 : decode cX7_readDigit 37 = .ok (.aload_n 0, 1) := by decide +kernel
theorem dX7_readDigit_38 : decode cX7_readDigit 38 = .ok (.getfield 30, 3) := by decide +kernel
theorem dX7_readDigit_41 : decode cX7_readDigit 41 = .ok (.iconst 1, 1) := by decide +kernel
theorem dX7_readDigit_42 : decode cX7_readDigit 42 = .ok (.isub, 1) := by decide +kernel
theorem dX7_readDigit_43 : decode cX7_readDigit 43 = .ok (.caload, 1) := by decide +kernel
theorem dX7_readDigit_44 : decode cX7_readDigit 44 = .ok (.bipush 48, 2) := by decide +kernel
theorem dX7_readDigit_46 : decode cX7_readDigit 46 = .ok (.isub, 1) := by decide +kernel
theorem dX7_readDigit_47 : decode cX7_readDigit 47 = .ok (.ireturn, 1) := by decide +kernel
set_option maxRecDepth 20000 in
theorem ggX7_readRising_X7_isDigit : GoodIn wsX7_readRising wsX7_isDigit := goodIn_r _ [7, 2, 8, 9, 10, 11, 12, 13, 14, 15, 16, 17, 18, 19, 20, 21] (by decide +kernel) (by decide +kernel)
set_option maxRecDepth 20000 in
theorem gX7_readRising_X7_isDigit : GoodIn wsX7_readRising (wsV RX7 94 RX7 yX7_isDigit wsX7_isDigit) := goodIn_app (goodIn_of _ (by decide +kernel)) ggX7_readRising_X7_isDigit
theorem dX7_readRising_0 : decode cX7_readRising 0 = .ok (.iconst 0, 1) := by decide +kernel
theorem dX7_readRising_1 : decode cX7_readRising 1 = .ok (.istore_n 2, 1) := by decide +kernel
theorem dX7_readRising_2 : decode cX7_readRising 2 = .ok (.iconst 0, 1) := by decide +kernel
theorem dX7_readRising_3 : decode cX7_readRising 3 = .ok (.istore_n 3, 1) := by decide +kernel
theorem dX7_readRising_4 : decode cX7_readRising 4 = .ok (.iload_n 3, 1) := by decide +kernel
theorem dX7_readRising_5 : decode cX7_readRising 5 = .ok (.iload_n 1, 1) := by decide +kernel
theorem dX7_readRising_6 : decode cX7_readRising 6 = .ok (.if_icmp .gt 41, 3) := by decide +kernel
theorem dX7_readRising_9 : decode cX7_readRising 9 = .ok (.aload_n 0, 1) := by decide +kernel
theorem dX7_readRising_10 : decode cX7_readRising 10 = .ok (.getfield 26, 3) := by decide +kernel
theorem dX7_readRising_13 : decode cX7_readRising 13 = .ok (.ifCond .ne 28, 3) := by decide +kernel
theorem dX7_readRising_16 : decode cX7_readRising 16 = .ok (.aload_n 0, 1) := by decide +kernel
theorem dX7_readRising_17 : decode cX7_readRising 17 = .ok (.iload_n 3, 1) := by decide +kernel
theorem dX7_readRising_18 : decode cX7_readRising 18 = .ok (.iload_n 3, 1) := by decide +kernel
theorem dX7_readRising_19 : decode cX7_readRising 19 = .ok (.invokevirtual 94, 3) := by decide +kernel
theorem dX7_readRising_22 : decode cX7_readRising 22 = .ok (.ifCond .eq 19, 3) := by decide +kernel
theorem dX7_readRising_25 : decode cX7_readRising 25 = .ok (.aload_n 0, 1) := by decide +kernel
theorem dX7_readRising_26 : decode cX7_readRising 26 = .ok (.dup, 1) := by decide +kernel
theorem dX7_readRising_27 : decode cX7_readRising 27 = .ok (.getfield 30, 3) := by decide +kernel
theorem dX7_readRising_30 : decode cX7_readRising 30 = .ok (.iconst 1, 1) := by decide +kernel
theorem dX7_readRising_31 : decode cX7_readRising 31 = .ok (.iadd, 1) := by decide +kernel
theorem dX7_readRising_32 : decode cX7_readRising 32 = .ok (.putfield 30, 3) := by decide +kernel
theorem dX7_readRising_35 : decode cX7_readRising 35 = .ok (.iload_n 2, 1) := by decide +kernel
theorem dX7_readRising_36 : decode cX7_readRising 36 = .ok (.iconst 1, 1) := by decide +kernel
theorem dX7_readRising_37 : decode cX7_readRising 37 = .ok (.iload_n 3, 1) := by decide +kernel
theorem dX7_readRising_38 : decode cX7_readRising 38 = .ok (.ishl, 1) := by decide +kernel
theorem dX7_readRising_39 : decode cX7_readRising 39 = .ok (.ior, 1) := by decide +kernel
theorem dX7_readRising_40 : decode cX7_readRising 40 = .ok (.istore_n 2, 1) := by decide +kernel
theorem dX7_readRising_41 : decode cX7_readRising 41 = .ok (.iinc 3 1, 3) := by decide +kernel
theorem dX7_readRising_44 : decode cX7_readRising 44 = .ok (.goto (-40), 3) := by decide +kernel
theorem dX7_readRising_47 : decode cX7_readRising 47 = .ok (.iload_n 2, 1) := by decide +kernel
theorem dX7_readRising_48 : decode cX7_readRising 48 = .ok (.ireturn, 1) := by decide +kernel
theorem dX7_isDigit_0 : decode cX7_isDigit 0 = .ok (.aload_n 0, 1) := by decide +kernel
theorem dX7_isDigit_1 : decode cX7_isDigit 1 = .ok (.getfield 30, 3) := by decide +kernel
theorem dX7_isDigit_4 : decode cX7_isDigit 4 = .ok (.aload_n 0, 1) := by decide +kernel
theorem dX7_isDigit_5 : decode cX7_isDigit 5 = .ok (.getfield 15, 3) := by decide +kernel
theorem dX7_isDigit_8 : decode cX7_isDigit 8 = .ok (.if_icmp .ge 39, 3) := by decide +kernel
theorem dX7_isDigit_11 : decode cX7_isDigit 11 = .ok (.aload_n 0, 1) := by decide +kernel
theorem dX7_isDigit_12 : decode cX7_isDigit 12 = .ok (.getfield 9, 3) := by decide +kernel
theorem dX7_isDigit_15 : decode cX7_isDigit 15 = .ok (.aload_n 0, 1) := by decide +kernel
theorem dX7_isDigit_16 : decode cX7_isDigit 16 = .ok (.getfield 30, 3) := by decide +kernel
theorem dX7_isDigit_19 : decode cX7_isDigit 19 = .ok (.caload, 1) := by decide +kernel
theorem dX7_isDigit_20 : decode cX7_isDigit 20 = .ok (.bipush 48, 2) := by decide +kernel
theorem dX7_isDigit_22 : decode cX7_isDigit 22 = .ok (.iload_n 1, 1) := by decide +kernel
theorem dX7_isDigit_23 : decode cX7_isDigit 23 = .ok (.iadd, 1) := by decide +kernel
theorem dX7_isDigit_24 : decode cX7_isDigit 24 = .ok (.if_icmp .lt 23, 3) := by decide +kernel
theorem dX7_isDigit_27 : decode cX7_isDigit 27 = .ok (.aload_n 0, 1) := by decide +kernel
theorem dX7_isDigit_28 : decode cX7_isDigit 28 = .ok (.getfield 9, 3) := by decide +kernel
theorem dX7_isDigit_31 : decode cX7_isDigit 31 = .ok (.aload_n 0, 1) := by decide +kernel
theorem dX7_isDigit_32 : decode cX7_isDigit 32 = .ok (.getfield 30, 3) := by decide +kernel
theorem dX7_isDigit_35 : decode cX7_isDigit 35 = .ok (.caload, 1) := by decide +kernel
theorem dX7_isDigit_36 : decode cX7_isDigit 36 = .ok (.bipush 48, 2) := by decide +kernel
theorem dX7_isDigit_38 : decode cX7_isDigit 38 = .ok (.iload_n 2, 1) := by decide +kernel
theorem dX7_isDigit_39 : decode cX7_isDigit 39 = .ok (.iadd, 1) := by decide +kernel
theorem dX7_isDigit_40 : decode cX7_isDigit 40 = .ok (.if_icmp .gt 7, 3) := by decide +kernel
theorem dX7_isDigit_43 : decode cX7_isDigit 43 = .ok (.iconst 1, 1) := by decide +kernel
theorem dX7_isDigit_44 : decode cX7_isDigit 44 = .ok (.goto 4, 3) := by decide +kernel
theorem dX7_isDigit_47 : decode cX7_isDigit 47 = .ok (.iconst 0, 1) := by decide +kernel
theorem dX7_isDigit_48 : decode cX7_isDigit 48 = .ok (.ireturn, 1) := by decide +kernel
theorem dX7_readSign_0 : decode cX7_readSign 0 = .ok (.aload_n 0, 1) := by decide +kernel
theorem dX7_readSign_1 : decode cX7_readSign 1 = .ok (.getfield 26, 3) := by decide +kernel
theorem dX7_readSign_4 : decode cX7_readSign 4 = .ok (.ifCond .ne 27, 3) := by decide +kernel
theorem dX7_readSign_7 : decode cX7_readSign 7 = .ok (.aload_n 0, 1) := by decide +kernel
theorem dX7_readSign_8 : decode cX7_readSign 8 = .ok (.getfield 30, 3) := by decide +kernel
theorem dX7_readSign_11 : decode cX7_readSign 11 = .ok (.aload_n 0, 1) := by decide +kernel
theorem dX7_readSign_12 : decode cX7_readSign 12 = .ok (.getfield 15, 3) := by decide +kernel
theorem dX7_readSign_15 : decode cX7_readSign 15 = .ok (.if_icmp .ge 16, 3) := by decide +kernel
theorem dX7_readSign_18 : decode cX7_readSign 18 = .ok (.aload_n 0, 1) := by decide +kernel
theorem dX7_readSign_19 : decode cX7_readSign 19 = .ok (.getfield 9, 3) := by decide +kernel
theorem dX7_readSign_22 : decode cX7_readSign 22 = .ok (.aload_n 0, 1) := by decide +kernel
theorem dX7_readSign_23 : decode cX7_readSign 23 = .ok (.getfield 30, 3) := by decide +kernel
theorem dX7_readSign_26 : decode cX7_readSign 26 = .ok (.caload, 1) := by decide +kernel
theorem dX7_readSign_27 : decode cX7_readSign 27 = .ok (.iload_n 1, 1) := by decide +kernel
theorem dX7_readSign_28 : decode cX7_readSign 28 = .ok (.if_icmp .eq 9, 3) := by decide +kernel
theorem dX7_readSign_31 : decode cX7_readSign 31 = .ok (.aload_n 0, 1) := by decide +kernel
theorem dX7_readSign_32 : decode cX7_readSign 32 = .ok (.iconst 1, 1) := by decide +kernel
theorem dX7_readSign_33 : decode cX7_readSign 33 = .ok (.putfield 26, 3) := by decide +kernel
theorem dX7_readSign_36 : decode cX7_readSign 36 = .ok (.return_, 1) := by decide +kernel
theorem dX7_readSign_37 : decode cX7_readSign 37 = .ok (.aload_n 0, 1) := by decide +kernel
theorem dX7_readSign_38 : decode cX7_readSign 38 = .ok (.dup, 1) := by decide +kernel
theorem dX7_readSign_39 : decode cX7_readSign 39 = .ok (.getfield 30, 3) := by decide +kernel
theorem dX7_readSign_42 : decode cX7_readSign 42 = .ok (.iconst 1, 1) := by decide +kernel
theorem dX7_readSign_43 : decode cX7_readSign 43 = .ok (.iadd, 1) := by decide +kernel
theorem dX7_readSign_44 : decode cX7_readSign 44 = .ok (.putfield 30, 3) := by decide +kernel
theorem dX7_readSign_47 : decode cX7_readSign 47 = .ok (.return_, 1) := by decide +kernel
theorem dX8_init_0 : decode cX8_init 0 = .ok (.aload_n 0, 1) := by decide +kernel
theorem dX8_init_1 : decode cX8_init 1 = .ok (.invokespecial 3, 3) := by decide +kernel
theorem dX8_init_4 : decode cX8_init 4 = .ok (.return_, 1) := by decide +kernel
theorem dX8_start_0 : decode cX8_start 0 = .ok (.aload_n 0, 1) := by decide +kernel
theorem dX8_start_1 : decode cX8_start 1 = .ok (.iload_n 1, 1) := by decide +kernel
theorem dX8_start_2 : decode cX8_start 2 = .ok (.putfield 9, 3) := by decide +kernel
theorem dX8_start_5 : decode cX8_start 5 = .ok (.aload_n 0, 1) := by decide +kernel
theorem dX8_start_6 : decode cX8_start 6 = .ok (.iload_n 2, 1) := by decide +kernel
theorem dX8_start_7 : decode cX8_start 7 = .ok (.putfield 15, 3) := by decide +kernel
theorem dX8_start_10 : decode cX8_start 10 = .ok (.aload_n 0, 1) := by decide +kernel
theorem dX8_start_11 : decode cX8_start 11 = .ok (.iload_n 3, 1) := by decide +kernel
theorem dX8_start_12 : decode cX8_start 12 = .ok (.putfield 18, 3) := by decide +kernel
theorem dX8_start_15 : decode cX8_start 15 = .ok (.return_, 1) := by decide +kernel
theorem dX8_copy_0 : decode cX8_copy 0 = .ok (.aload_n 0, 1) := by decide +kernel
theorem dX8_copy_1 : decode cX8_copy 1 = .ok (.aload_n 1, 1) := by decide +kernel
theorem dX8_copy_2 : decode cX8_copy 2 = .ok (.getfield 9, 3) := by decide +kernel
theorem dX8_copy_5 : decode cX8_copy 5 = .ok (.putfield 9, 3) := by decide +kernel
theorem dX8_copy_8 : decode cX8_copy 8 = .ok (.aload_n 0, 1) := by decide +kernel
theorem dX8_copy_9 : decode cX8_copy 9 = .ok (.aload_n 1, 1) := by decide +kernel
theorem dX8_copy_10 : decode cX8_copy 10 = .ok (.getfield 15, 3) := by decide +kernel
theorem dX8_copy_13 : decode cX8_copy 13 = .ok (.putfield 15, 3) := by decide +kernel
theorem dX8_copy_16 : decode cX8_copy 16 = .ok (.aload_n 0, 1) := by decide +kernel
theorem dX8_copy_17 : decode cX8_copy 17 = .ok (.aload_n 1, 1) := by decide +kernel
theorem dX8_copy_18 : decode cX8_copy 18 = .ok (.getfield 18, 3) := by decide +kernel
theorem dX8_copy_21 : decode cX8_copy 21 = .ok (.putfield 18, 3) := by decide +kernel
theorem dX8_copy_24 : decode cX8_copy 24 = .ok (.return_, 1) := by decide +kernel
theorem dX8_narrow_0 : decode cX8_narrow 0 = .ok (.aload_n 0, 1) := by decide +kernel
theorem dX8_narrow_1 : decode cX8_narrow 1 = .ok (.aload_n 0, 1) := by decide +kernel
theorem dX8_narrow_2 : decode cX8_narrow 2 = .ok (.getfield 9, 3) := by decide +kernel
theorem dX8_narrow_5 : decode cX8_narrow 5 = .ok (.aload_n 1, 1) := by decide +kernel
theorem dX8_narrow_6 : decode cX8_narrow 6 = .ok (.getfield 9, 3) := by decide +kernel
theorem dX8_narrow_9 : decode cX8_narrow 9 = .ok (.invokestatic 21, 3) := by decide +kernel
theorem dX8_narrow_12 : decode cX8_narrow 12 = .ok (.putfield 9, 3) := by decide +kernel
theorem dX8_narrow_15 : decode cX8_narrow 15 = .ok (.aload_n 0, 1) := by decide +kernel
theorem dX8_narrow_16 : decode cX8_narrow 16 = .ok (.aload_n 0, 1) := by decide +kernel
theorem dX8_narrow_17 : decode cX8_narrow 17 = .ok (.getfield 15, 3) := by decide +kernel
theorem dX8_narrow_20 : decode cX8_narrow 20 = .ok (.aload_n 1, 1) := by decide +kernel
theorem dX8_narrow_21 : decode cX8_narrow 21 = .ok (.getfield 15, 3) := by decide +kernel
theorem dX8_narrow_24 : decode cX8_narrow 24 = .ok (.invokestatic 27, 3) := by decide +kernel
theorem dX8_narrow_27 : decode cX8_narrow 27 = .ok (.putfield 15, 3) := by decide +kernel
theorem dX8_narrow_30 : decode cX8_narrow 30 = .ok (.aload_n 0, 1) := by decide +kernel
theorem dX8_narrow_31 : decode cX8_narrow 31 = .ok (.dup, 1) := by decide +kernel
theorem dX8_narrow_32 : decode cX8_narrow 32 = .ok (.getfield 18, 3) := by decide +kernel
theorem dX8_narrow_35 : decode cX8_narrow 35 = .ok (.aload_n 1, 1) := by decide +kernel
theorem dX8_narrow_36 : decode cX8_narrow 36 = .ok (.getfield 18, 3) := by decide +kernel
theorem dX8_narrow_39 : decode cX8_narrow 39 = .ok (.iand, 1) := by decide +kernel
theorem dX8_narrow_40 : decode cX8_narrow 40 = .ok (.putfield 18, 3) := by decide +kernel
theorem dX8_narrow_43 : decode cX8_narrow 43 = .ok (.return_, 1) := by decide +kernel
theorem dX8_hasSpan_0 : decode cX8_hasSpan 0 = .ok (.aload_n 0, 1) := by decide +kernel
theorem dX8_hasSpan_1 : decode cX8_hasSpan 1 = .ok (.getfield 18, 3) := by decide +kernel
theorem dX8_hasSpan_4 : decode cX8_hasSpan 4 = .ok (.iload_n 1, 1) := by decide +kernel
theorem dX8_hasSpan_5 : decode cX8_hasSpan 5 = .ok (.ishr, 1) := by decide +kernel
theorem dX8_hasSpan_6 : decode cX8_hasSpan 6 = .ok (.iconst 1, 1) := by decide +kernel
theorem dX8_hasSpan_7 : decode cX8_hasSpan 7 = .ok (.iand, 1) := by decide +kernel
theorem dX8_hasSpan_8 : decode cX8_hasSpan 8 = .ok (.ifCond .eq 7, 3) := by decide +kernel
theorem dX8_hasSpan_11 : decode cX8_hasSpan 11 = .ok (.iconst 1, 1) := by decide +kernel
theorem dX8_hasSpan_12 : decode cX8_hasSpan 12 = .ok (.goto 4, 3) := by decide +kernel
theorem dX8_hasSpan_15 : decode cX8_hasSpan 15 = .ok (.iconst 0, 1) := by decide +kernel
theorem dX8_hasSpan_16 : decode cX8_hasSpan 16 = .ok (.ireturn, 1) := by decide +kernel
set_option maxRecDepth 20000 in
theorem ggX8_first_X3_firstOfSpan : GoodIn wsX8_first wsX3_firstOfSpan := goodIn_r _ [15, 16, 28, 29, 30] (by decide +kernel) (by decide +kernel)
set_option maxRecDepth 20000 in
theorem gX8_first_X3_firstOfSpan : GoodIn wsX8_first (wsV RX8 35 RX3 yX3_firstOfSpan wsX3_firstOfSpan) := goodIn_app (goodIn_of _ (by decide +kernel)) ggX8_first_X3_firstOfSpan
set_option maxRecDepth 20000 in
theorem ggX8_first_X8_hasSpan : GoodIn wsX8_first wsX8_hasSpan := goodIn_r _ [21, 22, 31, 32, 33] (by decide +kernel) (by decide +kernel)
set_option maxRecDepth 20000 in
theorem gX8_first_X8_hasSpan : GoodIn wsX8_first (wsV RX8 39 RX8 yX8_hasSpan wsX8_hasSpan) := goodIn_app (goodIn_of _ (by decide +kernel)) ggX8_first_X8_hasSpan
set_option maxRecDepth 20000 in
theorem ggX8_first_X3_lastOfSpan : GoodIn wsX8_first wsX3_lastOfSpan := goodIn_r _ [26, 27, 16, 28, 29, 30] (by decide +kernel) (by decide +kernel)
set_option maxRecDepth 20000 in
theorem gX8_first_X3_lastOfSpan : GoodIn wsX8_first (wsV RX8 43 RX3 yX3_lastOfSpan wsX3_lastOfSpan) := goodIn_app (goodIn_of _ (by decide +kernel)) ggX8_first_X3_lastOfSpan
theorem dX8_first_0 : decode cX8_first 0 = .ok (.iconst 0, 1) := by decide +kernel
theorem dX8_first_1 : decode cX8_first 1 = .ok (.istore_n 2, 1) := by decide +kernel
theorem dX8_first_2 : decode cX8_first 2 = .ok (.iload_n 2, 1) := by decide +kernel
theorem dX8_first_3 : decode cX8_first 3 = .ok (.aload_n 1, 1) := by decide +kernel
theorem dX8_first_4 : decode cX8_first 4 = .ok (.getfield 30, 3) := by decide +kernel
theorem dX8_first_7 : decode cX8_first 7 = .ok (.if_icmp .gt 48, 3) := by decide +kernel
theorem dX8_first_10 : decode cX8_first 10 = .ok (.aload_n 0, 1) := by decide +kernel
theorem dX8_first_11 : decode cX8_first 11 = .ok (.getfield 9, 3) := by decide +kernel
theorem dX8_first_14 : decode cX8_first 14 = .ok (.aload_n 1, 1) := by decide +kernel
theorem dX8_first_15 : decode cX8_first 15 = .ok (.iload_n 2, 1) := by decide +kernel
theorem dX8_first_16 : decode cX8_first 16 = .ok (.invokevirtual 35, 3) := by decide +kernel
theorem dX8_first_19 : decode cX8_first 19 = .ok (.invokestatic 21, 3) := by decide +kernel
theorem dX8_first_22 : decode cX8_first 22 = .ok (.istore_n 3, 1) := by decide +kernel
theorem dX8_first_23 : decode cX8_first 23 = .ok (.aload_n 0, 1) := by decide +kernel
theorem dX8_first_24 : decode cX8_first 24 = .ok (.iload_n 2, 1) := by decide +kernel
theorem dX8_first_25 : decode cX8_first 25 = .ok (.invokevirtual 39, 3) := by decide +kernel
theorem dX8_first_28 : decode cX8_first 28 = .ok (.ifCond .eq 21, 3) := by decide +kernel
theorem dX8_first_31 : decode cX8_first 31 = .ok (.iload_n 3, 1) := by decide +kernel
theorem dX8_first_32 : decode cX8_first 32 = .ok (.aload_n 0, 1) := by decide +kernel
theorem dX8_first_33 : decode cX8_first 33 = .ok (.getfield 15, 3) := by decide +kernel
theorem dX8_first_36 : decode cX8_first 36 = .ok (.aload_n 1, 1) := by decide +kernel
theorem dX8_first_37 : decode cX8_first 37 = .ok (.iload_n 2, 1) := by decide +kernel
theorem dX8_first_38 : decode cX8_first 38 = .ok (.invokevirtual 43, 3) := by decide +kernel
theorem dX8_first_41 : decode cX8_first 41 = .ok (.invokestatic 27, 3) := by decide +kernel
theorem dX8_first_44 : decode cX8_first 44 = .ok (.if_icmp .gt 5, 3) := by decide +kernel
theorem dX8_first_47 : decode cX8_first 47 = .ok (.iload_n 3, 1) := by decide +kernel
theorem dX8_first_48 : decode cX8_first 48 = .ok (.ireturn, 1) := by decide +kernel
theorem dX8_first_49 : decode cX8_first 49 = .ok (.iinc 2 1, 3) := by decide +kernel
theorem dX8_first_52 : decode cX8_first 52 = .ok (.goto (-50), 3) := by decide +kernel
theorem dX8_first_55 : decode cX8_first 55 = .ok (.iconst (-1), 1) := by decide +kernel
theorem dX8_first_56 : decode cX8_first 56 = .ok (.ireturn, 1) := by decide +kernel
set_option maxRecDepth 20000 in
theorem ggX8_last_X3_lastOfSpan : GoodIn wsX8_last wsX3_lastOfSpan := goodIn_r _ [15, 16, 17, 28, 29, 30] (by decide +kernel) (by decide +kernel)
set_option maxRecDepth 20000 in
theorem gX8_last_X3_lastOfSpan : GoodIn wsX8_last (wsV RX8 43 RX3 yX3_lastOfSpan wsX3_lastOfSpan) := goodIn_app (goodIn_of _ (by decide +kernel)) ggX8_last_X3_lastOfSpan
set_option maxRecDepth 20000 in
theorem ggX8_last_X8_hasSpan : GoodIn wsX8_last wsX8_hasSpan := goodIn_r _ [22, 23, 31, 32, 33] (by decide +kernel) (by decide +kernel)
set_option maxRecDepth 20000 in
theorem gX8_last_X8_hasSpan : GoodIn wsX8_last (wsV RX8 39 RX8 yX8_hasSpan wsX8_hasSpan) := goodIn_app (goodIn_of _ (by decide +kernel)) ggX8_last_X8_hasSpan
set_option maxRecDepth 20000 in
theorem ggX8_last_X3_firstOfSpan : GoodIn wsX8_last wsX3_firstOfSpan := goodIn_r _ [27, 17, 28, 29, 30] (by decide +kernel) (by decide +kernel)
set_option maxRecDepth 20000 in
theorem gX8_last_X3_firstOfSpan : GoodIn wsX8_last (wsV RX8 35 RX3 yX3_firstOfSpan wsX3_firstOfSpan) := goodIn_app (goodIn_of _ (by decide +kernel)) ggX8_last_X3_firstOfSpan
theorem dX8_last_0 : decode cX8_last 0 = .ok (.aload_n 1, 1) := by decide +kernel
theorem dX8_last_1 : decode cX8_last 1 = .ok (.getfield 30, 3) := by decide +kernel
theorem dX8_last_4 : decode cX8_last 4 = .ok (.istore_n 2, 1) := by decide +kernel
theorem dX8_last_5 : decode cX8_last 5 = .ok (.iload_n 2, 1) := by decide +kernel
theorem dX8_last_6 : decode cX8_last 6 = .ok (.ifCond .lt 48, 3) := by decide +kernel
theorem dX8_last_9 : decode cX8_last 9 = .ok (.aload_n 0, 1) := by decide +kernel
theorem dX8_last_10 : decode cX8_last 10 = .ok (.getfield 15, 3) := by decide +kernel
theorem dX8_last_13 : decode cX8_last 13 = .ok (.aload_n 1, 1) := by decide +kernel
theorem dX8_last_14 : decode cX8_last 14 = .ok (.iload_n 2, 1) := by decide +kernel
theorem dX8_last_15 : decode cX8_last 15 = .ok (.invokevirtual 43, 3) := by decide +kernel
theorem dX8_last_18 : decode cX8_last 18 = .ok (.invokestatic 27, 3) := by decide +kernel
theorem dX8_last_21 : decode cX8_last 21 = .ok (.istore_n 3, 1) := by decide +kernel
theorem dX8_last_22 : decode cX8_last 22 = .ok (.aload_n 0, 1) := by decide +kernel
theorem dX8_last_23 : decode cX8_last 23 = .ok (.iload_n 2, 1) := by decide +kernel
theorem dX8_last_24 : decode cX8_last 24 = .ok (.invokevirtual 39, 3) := by decide +kernel
theorem dX8_last_27 : decode cX8_last 27 = .ok (.ifCond .eq 21, 3) := by decide +kernel
theorem dX8_last_30 : decode cX8_last 30 = .ok (.iload_n 3, 1) := by decide +kernel
theorem dX8_last_31 : decode cX8_last 31 = .ok (.aload_n 0, 1) := by decide +kernel
theorem dX8_last_32 : decode cX8_last 32 = .ok (.getfield 9, 3) := by decide +kernel
theorem dX8_last_35 : decode cX8_last 35 = .ok (.aload_n 1, 1) := by decide +kernel
theorem dX8_last_36 : decode cX8_last 36 = .ok (.iload_n 2, 1) := by decide +kernel
theorem dX8_last_37 : decode cX8_last 37 = .ok (.invokevirtual 35, 3) := by decide +kernel
theorem dX8_last_40 : decode cX8_last 40 = .ok (.invokestatic 21, 3) := by decide +kernel
theorem dX8_last_43 : decode cX8_last 43 = .ok (.if_icmp .lt 5, 3) := by decide +kernel
theorem dX8_last_46 : decode cX8_last 46 = .ok (.iload_n 3, 1) := by decide +kernel
theorem dX8_last_47 : decode cX8_last 47 = .ok (.ireturn, 1) := by decide +kernel
theorem dX8_last_48 : decode cX8_last 48 = .ok (.iinc 2 (-1), 3) := by decide +kernel
theorem dX8_last_51 : decode cX8_last 51 = .ok (.goto (-46), 3) := by decide +kernel
theorem dX8_last_54 : decode cX8_last 54 = .ok (.iconst (-1), 1) := by decide +kernel
theorem dX8_last_55 : decode cX8_last 55 = .ok (.ireturn, 1) := by decide +kernel
set_option maxRecDepth 20000 in
theorem ggX8_count_X3_firstOfSpan : GoodIn wsX8_count wsX3_firstOfSpan := goodIn_r _ [15, 16, 28, 29, 30] (by decide +kernel) (by decide +kernel)
set_option maxRecDepth 20000 in
theorem gX8_count_X3_firstOfSpan : GoodIn wsX8_count (wsV RX8 35 RX3 yX3_firstOfSpan wsX3_firstOfSpan) := goodIn_app (goodIn_of _ (by decide +kernel)) ggX8_count_X3_firstOfSpan
set_option maxRecDepth 20000 in
theorem ggX8_count_X3_lastOfSpan : GoodIn wsX8_count wsX3_lastOfSpan := goodIn_r _ [20, 21, 16, 28, 29, 30] (by decide +kernel) (by decide +kernel)
set_option maxRecDepth 20000 in
theorem gX8_count_X3_lastOfSpan : GoodIn wsX8_count (wsV RX8 43 RX3 yX3_lastOfSpan wsX3_lastOfSpan) := goodIn_app (goodIn_of _ (by decide +kernel)) ggX8_count_X3_lastOfSpan
set_option maxRecDepth 20000 in
theorem ggX8_count_X8_hasSpan : GoodIn wsX8_count wsX8_hasSpan := goodIn_r _ [26, 27, 31, 32, 33] (by decide +kernel) (by decide +kernel)
set_option maxRecDepth 20000 in
theorem gX8_count_X8_hasSpan : GoodIn wsX8_count (wsV RX8 39 RX8 yX8_hasSpan wsX8_hasSpan) := goodIn_app (goodIn_of _ (by decide +kernel)) ggX8_count_X8_hasSpan
theorem dX8_count_0 : decode cX8_count 0 = .ok (.iconst 0, 1) := by decide +kernel
theorem dX8_count_1 : decode cX8_count 1 = .ok (.istore_n 2, 1) := by decide +kernel
theorem dX8_count_2 : decode cX8_count 2 = .ok (.iconst 0, 1) := by decide +kernel
theorem dX8_count_3 : decode cX8_count 3 = .ok (.istore_n 3, 1) := by decide +kernel
theorem dX8_count_4 : decode cX8_count 4 = .ok (.iload_n 3, 1) := by decide +kernel
theorem dX8_count_5 : decode cX8_count 5 = .ok (.aload_n 1, 1) := by decide +kernel
theorem dX8_count_6 : decode cX8_count 6 = .ok (.getfield 30, 3) := by decide +kernel
theorem dX8_count_9 : decode cX8_count 9 = .ok (.if_icmp .gt 62, 3) := by decide +kernel
theorem dX8_count_12 : decode cX8_count 12 = .ok (.aload_n 0, 1) := by decide +kernel
theorem dX8_count_13 : decode cX8_count 13 = .ok (.getfield 9, 3) := by decide +kernel
theorem dX8_count_16 : decode cX8_count 16 = .ok (.aload_n 1, 1) := by decide +kernel
theorem dX8_count_17 : decode cX8_count 17 = .ok (.iload_n 3, 1) := by decide +kernel
theorem dX8_count_18 : decode cX8_count 18 = .ok (.invokevirtual 35, 3) := by decide +kernel
theorem dX8_count_21 : decode cX8_count 21 = .ok (.invokestatic 21, 3) := by decide +kernel
theorem dX8_count_24 : decode cX8_count 24 = .ok (.istore 4, 2) := by decide +kernel
theorem dX8_count_26 : decode cX8_count 26 = .ok (.aload_n 0, 1) := by decide +kernel
theorem dX8_count_27 : decode cX8_count 27 = .ok (.getfield 15, 3) := by decide +kernel
theorem dX8_count_30 : decode cX8_count 30 = .ok (.aload_n 1, 1) := by decide +kernel
theorem dX8_count_31 : decode cX8_count 31 = .ok (.iload_n 3, 1) := by decide +kernel
theorem dX8_count_32 : decode cX8_count 32 = .ok (.invokevirtual 43, 3) := by decide +kernel
theorem dX8_count_35 : decode cX8_count 35 = .ok (.invokestatic 27, 3) := by decide +kernel
theorem dX8_count_38 : decode cX8_count 38 = .ok (.istore 5, 2) := by decide +kernel
theorem dX8_count_40 : decode cX8_count 40 = .ok (.aload_n 0, 1) := by decide +kernel
theorem dX8_count_41 : decode cX8_count 41 = .ok (.iload_n 3, 1) := by decide +kernel
theorem dX8_count_42 : decode cX8_count 42 = .ok (.invokevirtual 39, 3) := by decide +kernel
theorem dX8_count_45 : decode cX8_count 45 = .ok (.ifCond .eq 20, 3) := by decide +kernel
theorem dX8_count_48 : decode cX8_count 48 = .ok (.iload 4, 2) := by decide +kernel
theorem dX8_count_50 : decode cX8_count 50 = .ok (.iload 5, 2) := by decide +kernel
theorem dX8_count_52 : decode cX8_count 52 = .ok (.if_icmp .gt 13, 3) := by decide +kernel
theorem dX8_count_55 : decode cX8_count 55 = .ok (.iload_n 2, 1) := by decide +kernel
theorem dX8_count_56 : decode cX8_count 56 = .ok (.iload 5, 2) := by decide +kernel
theorem dX8_count_58 : decode cX8_count 58 = .ok (.iload 4, 2) := by decide +kernel
theorem dX8_count_60 : decode cX8_count 60 = .ok (.isub, 1) := by decide +kernel
theorem dX8_count_61 : decode cX8_count 61 = .ok (.iconst 1, 1) := by decide +kernel
theorem dX8_count_62 : decode cX8_count 62 = .ok (.iadd, 1) := by decide +kernel
theorem dX8_count_63 : decode cX8_count 63 = .ok (.iadd, 1) := by decide +kernel
theorem dX8_count_64 : decode cX8_count 64 = .ok (.istore_n 2, 1) := by decide +kernel
theorem dX8_count_65 : decode cX8_count 65 = .ok (.iinc 3 1, 3) := by decide +kernel
theorem dX8_count_68 : decode cX8_count 68 = .ok (.goto (-64), 3) := by decide +kernel
theorem dX8_count_71 : decode cX8_count 71 = .ok (.iload_n 2, 1) := by decide +kernel
theorem dX8_count_72 : decode cX8_count 72 = .ok (.ireturn, 1) := by decide +kernel
set_option maxRecDepth 20000 in
theorem ggX8_contains_X3_spanOf : GoodIn wsX8_contains wsX3_spanOf := goodIn_r _ [7, 8, 9, 19, 20, 21] (by decide +kernel) (by decide +kernel)
set_option maxRecDepth 20000 in
theorem gX8_contains_X3_spanOf : GoodIn wsX8_contains (wsV RX8 46 RX3 yX3_spanOf wsX3_spanOf) := goodIn_app (goodIn_of _ (by decide +kernel)) ggX8_contains_X3_spanOf
set_option maxRecDepth 20000 in
theorem ggX8_contains_X8_hasSpan : GoodIn wsX8_contains wsX8_hasSpan := goodIn_r _ [14, 15, 16, 17, 18] (by decide +kernel) (by decide +kernel)
set_option maxRecDepth 20000 in
theorem gX8_contains_X8_hasSpan : GoodIn wsX8_contains (wsV RX8 39 RX8 yX8_hasSpan wsX8_hasSpan) := goodIn_app (goodIn_of _ (by decide +kernel)) ggX8_contains_X8_hasSpan
theorem dX8_contains_0 : decode cX8_contains 0 = .ok (.iload_n 2, 1) := by decide +kernel
theorem dX8_contains_1 : decode cX8_contains 1 = .ok (.aload_n 0, 1) := by decide +kernel
theorem dX8_contains_2 : decode cX8_contains 2 = .ok (.getfield 9, 3) := by decide +kernel
theorem dX8_contains_5 : decode cX8_contains 5 = .ok (.if_icmp .lt 27, 3) := by decide +kernel
theorem dX8_contains_8 : decode cX8_contains 8 = .ok (.iload_n 2, 1) := by decide +kernel
theorem dX8_contains_9 : decode cX8_contains 9 = .ok (.aload_n 0, 1) := by decide +kernel
theorem dX8_contains_10 : decode cX8_contains 10 = .ok (.getfield 15, 3) := by decide +kernel
theorem dX8_contains_13 : decode cX8_contains 13 = .ok (.if_icmp .gt 19, 3) := by decide +kernel
theorem dX8_contains_16 : decode cX8_contains 16 = .ok (.aload_n 0, 1) := by decide +kernel
theorem dX8_contains_17 : decode cX8_contains 17 = .ok (.aload_n 1, 1) := by decide +kernel
theorem dX8_contains_18 : decode cX8_contains 18 = .ok (.iload_n 2, 1) := by decide +kernel
theorem dX8_contains_19 : decode cX8_contains 19 = .ok (.invokevirtual 46, 3) := by decide +kernel
theorem dX8_contains_22 : decode cX8_contains 22 = .ok (.invokevirtual 39, 3) := by decide +kernel
theorem dX8_contains_25 : decode cX8_contains 25 = .ok (.ifCond .eq 7, 3) := by decide +kernel
theorem dX8_contains_28 : decode cX8_contains 28 = .ok (.iconst 1, 1) := by decide +kernel
theorem dX8_contains_29 : decode cX8_contains 29 = .ok (.goto 4, 3) := by decide +kernel
theorem dX8_contains_32 : decode cX8_contains 32 = .ok (.iconst 0, 1) := by decide +kernel
theorem dX8_contains_33 : decode cX8_contains 33 = .ok (.ireturn, 1) := by decide +kernel
