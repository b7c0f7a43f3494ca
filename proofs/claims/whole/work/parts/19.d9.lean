set_option maxRecDepth 20000 in
theorem ggX9_init_X7_init : GoodIn wsX9_init wsX7_init := goodIn_r _ [25, 26, 2, 3, 27, 28, 112, 113, 114, 115, 116, 117, 118, 119, 120, 121, 122, 123] (by decide +kernel) (by decide +kernel)
set_option maxRecDepth 20000 in
theorem gX9_init_X7_init_n9 : GoodIn wsX9_init (wsX7_init) := ggX9_init_X7_init
set_option maxRecDepth 20000 in
theorem ggX9_init_X1_init : GoodIn wsX9_init wsX1_init := goodIn_r _ [31, 32, 2, 3, 33, 34, 35, 36, 37, 38, 39, 40, 41, 42, 43, 44, 45, 131, 132, 133, 134, 135, 136, 145, 146, 147] (by decide +kernel) (by decide +kernel)
set_option maxRecDepth 20000 in
theorem gX9_init_X1_init : GoodIn wsX9_init (wsX1_init) := ggX9_init_X1_init
set_option maxRecDepth 20000 in
theorem ggX9_init_X2_init : GoodIn wsX9_init wsX2_init := goodIn_r _ [48, 49, 2, 3, 50, 51, 20, 21, 52, 53, 54, 55, 56, 57, 58, 59, 60, 61, 62, 63, 64, 65, 66, 67, 68, 69, 70, 71, 36, 72, 73, 74, 75, 76, 77, 78, 79, 80, 81, 82, 83, 84, 85, 86, 87, 88, 89, 90, 91, 92, 93, 94, 95, 96, 97, 98, 99, 100, 101, 102, 103, 104, 105, 106, 107, 108, 109, 110, 137, 138, 139, 140, 141, 142, 143, 144, 148, 149, 150, 151, 152, 153, 154, 155, 156, 157, 158, 159, 160, 161, 162, 163, 164, 165] (by decide +kernel) (by decide +kernel)
set_option maxRecDepth 20000 in
theorem gX9_init_X2_init : GoodIn wsX9_init (wsX2_init) := ggX9_init_X2_init
set_option maxRecDepth 20000 in
theorem ggX9_init_X6_init : GoodIn wsX9_init wsX6_init := goodIn_r _ [54, 55, 2, 3, 56, 57, 58, 59, 60, 61, 62, 63, 64, 65, 66, 67, 68, 69, 70, 71, 36, 72, 73, 74, 75, 76, 77, 78, 79, 80, 81, 82, 83, 84, 85, 86, 87, 88, 89, 90, 91, 92, 93, 94, 95, 96, 97, 98, 99, 100, 101, 102, 21, 103, 104, 105, 106, 107, 108, 109, 110, 148, 149, 150, 140, 141, 142, 143, 144, 151, 152, 153, 154, 155, 156, 157, 158, 159, 160, 161, 162, 163, 164, 165] (by decide +kernel) (by decide +kernel)
set_option maxRecDepth 20000 in
theorem gX9_init_X6_init : GoodIn wsX9_init (wsX6_init) := ggX9_init_X6_init
theorem dX9_init_0 : decode cX9_init 0 = .ok (.aload_n 0, 1) := by decide +kernel
theorem dX9_init_1 : decode cX9_init 1 = .ok (.invokespecial 1, 3) := by decide +kernel
theorem dX9_init_4 : decode cX9_init 4 = .ok (.aload_n 0, 1) := by decide +kernel
theorem dX9_init_5 : decode cX9_init 5 = .ok (.new 7, 3) := by decide +kernel
theorem dX9_init_8 : decode cX9_init 8 = .ok (.dup, 1) := by decide +kernel
theorem dX9_init_9 : decode cX9_init 9 = .ok (.invokespecial 9, 3) := by decide +kernel
theorem dX9_init_12 : decode cX9_init 12 = .ok (.putfield 10, 3) := by decide +kernel
theorem dX9_init_15 : decode cX9_init 15 = .ok (.aload_n 0, 1) := by decide +kernel
theorem dX9_init_16 : decode cX9_init 16 = .ok (.new 16, 3) := by decide +kernel
theorem dX9_init_19 : decode cX9_init 19 = .ok (.dup, 1) := by decide +kernel
theorem dX9_init_20 : decode cX9_init 20 = .ok (.invokespecial 18, 3) := by decide +kernel
theorem dX9_init_23 : decode cX9_init 23 = .ok (.putfield 19, 3) := by decide +kernel
theorem dX9_init_26 : decode cX9_init 26 = .ok (.aload_n 0, 1) := by decide +kernel
theorem dX9_init_27 : decode cX9_init 27 = .ok (.new 23, 3) := by decide +kernel
theorem dX9_init_30 : decode cX9_init 30 = .ok (.dup, 1) := by decide +kernel
theorem dX9_init_31 : decode cX9_init 31 = .ok (.invokespecial 25, 3) := by decide +kernel
theorem dX9_init_34 : decode cX9_init 34 = .ok (.putfield 26, 3) := by decide +kernel
theorem dX9_init_37 : decode cX9_init 37 = .ok (.aload_n 0, 1) := by decide +kernel
theorem dX9_init_38 : decode cX9_init 38 = .ok (.iconst 2, 1) := by decide +kernel
theorem dX9_init_39 : decode cX9_init 39 = .ok (.anewarray 30, 3) := by decide +kernel
theorem dX9_init_42 : decode cX9_init 42 = .ok (.putfield 32, 3) := by decide +kernel
theorem dX9_init_45 : decode cX9_init 45 = .ok (.aload_n 0, 1) := by decide +kernel
theorem dX9_init_46 : decode cX9_init 46 = .ok (.iconst 2, 1) := by decide +kernel
theorem dX9_init_47 : decode cX9_init 47 = .ok (.newarray .boolean, 2) := by decide +kernel
theorem dX9_init_49 : decode cX9_init 49 = .ok (.putfield 36, 3) := by decide +kernel
theorem dX9_init_52 : decode cX9_init 52 = .ok (.aload_n 0, 1) := by decide +kernel
theorem dX9_init_53 : decode cX9_init 53 = .ok (.new 30, 3) := by decide +kernel
theorem dX9_init_56 : decode cX9_init 56 = .ok (.dup, 1) := by decide +kernel
theorem dX9_init_57 : decode cX9_init 57 = .ok (.invokespecial 40, 3) := by decide +kernel
theorem dX9_init_60 : decode cX9_init 60 = .ok (.putfield 41, 3) := by decide +kernel
theorem dX9_init_63 : decode cX9_init 63 = .ok (.aload_n 0, 1) := by decide +kernel
theorem dX9_init_64 : decode cX9_init 64 = .ok (.new 30, 3) := by decide +kernel
theorem dX9_init_67 : decode cX9_init 67 = .ok (.dup, 1) := by decide +kernel
theorem dX9_init_68 : decode cX9_init 68 = .ok (.invokespecial 40, 3) := by decide +kernel
theorem dX9_init_71 : decode cX9_init 71 = .ok (.putfield 45, 3) := by decide +kernel
theorem dX9_init_74 : decode cX9_init 74 = .ok (.iconst 0, 1) := by decide +kernel
theorem dX9_init_75 : decode cX9_init 75 = .ok (.istore_n 1, 1) := by decide +kernel
theorem dX9_init_76 : decode cX9_init 76 = .ok (.iload_n 1, 1) := by decide +kernel
theorem dX9_init_77 : decode cX9_init 77 = .ok (.iconst 2, 1) := by decide +kernel
theorem dX9_init_78 : decode cX9_init 78 = .ok (.if_icmp .ge 22, 3) := by decide +kernel
theorem dX9_init_81 : decode cX9_init 81 = .ok (.aload_n 0, 1) := by decide +kernel
theorem dX9_init_82 : decode cX9_init 82 = .ok (.getfield 32, 3) := by decide +kernel
theorem dX9_init_85 : decode cX9_init 85 = .ok (.iload_n 1, 1) := by decide +kernel
theorem dX9_init_86 : decode cX9_init 86 = .ok (.new 30, 3) := by decide +kernel
theorem dX9_init_89 : decode cX9_init 89 = .ok (.dup, 1) := by decide +kernel
theorem dX9_init_90 : decode cX9_init 90 = .ok (.invokespecial 40, 3) := by decide +kernel
theorem dX9_init_93 : decode cX9_init 93 = .ok (.aastore, 1) := by decide +kernel
theorem dX9_init_94 : decode cX9_init 94 = .ok (.iinc 1 1, 3) := by decide +kernel
theorem dX9_init_97 : decode cX9_init 97 = .ok (.goto (-21), 3) := by decide +kernel
theorem dX9_init_100 : decode cX9_init 100 = .ok (.return_, 1) := by decide +kernel
set_option maxRecDepth 20000 in
theorem ggX9_append_X9_mustFit : GoodIn wsX9_append wsX9_mustFit := goodIn_ca (goodIn_r _ [6, 7, 8] (by decide +kernel) (by decide +kernel)) (goodIn_sub (fun _ h => List.mem_cons_of_mem _ (List.mem_append_left _ (List.mem_append_right _ h))) (by decide +kernel))
set_option maxRecDepth 20000 in
theorem gX9_append_X9_mustFit : GoodIn wsX9_append (va_wsS RX9 48 yX9_mustFit wsX9_mustFit) := goodIn_app (goodIn_of _ (by decide +kernel)) ggX9_append_X9_mustFit
set_option maxRecDepth 20000 in
theorem ggX9_append_X9_mustBeFree : GoodIn wsX9_append wsX9_mustBeFree := goodIn_ca (goodIn_r _ [11, 12, 13] (by decide +kernel) (by decide +kernel)) (goodIn_sub (fun _ h => List.mem_cons_of_mem _ (List.mem_append_right _ h)) (by decide +kernel))
set_option maxRecDepth 20000 in
theorem gX9_append_X9_mustBeFree : GoodIn wsX9_append (va_wsS RX9 56 yX9_mustBeFree wsX9_mustBeFree) := goodIn_app (goodIn_of _ (by decide +kernel)) ggX9_append_X9_mustBeFree
set_option maxRecDepth 20000 in
theorem ggX9_append_X7_add : GoodIn wsX9_append wsX7_add := goodIn_r _ [18, 19, 20, 28, 29, 30, 31, 32, 33, 34, 35, 36, 37, 38, 39] (by decide +kernel) (by decide +kernel)
set_option maxRecDepth 20000 in
theorem gX9_append_X7_add : GoodIn wsX9_append (wsV RX9 59 RX7 yX7_add wsX7_add) := goodIn_app (goodIn_of _ (by decide +kernel)) ggX9_append_X7_add
theorem dX9_append_0 : decode cX9_append 0 = .ok (.iload_n 1, 1) := by decide +kernel
theorem dX9_append_1 : decode cX9_append 1 = .ok (.ifCond .lt 14, 3) := by decide +kernel
theorem dX9_append_4 : decode cX9_append 4 = .ok (.iload_n 1, 1) := by decide +kernel
theorem dX9_append_5 : decode cX9_append 5 = .ok (.sipush 255, 3) := by decide +kernel
theorem dX9_append_8 : decode cX9_append 8 = .ok (.if_icmp .gt 7, 3) := by decide +kernel
theorem dX9_append_11 : decode cX9_append 11 = .ok (.iconst 1, 1) := by decide +kernel
theorem dX9_append_12 : decode cX9_append 12 = .ok (.goto 4, 3) := by decide +kernel
theorem dX9_append_15 : decode cX9_append 15 = .ok (.iconst 0, 1) := by decide +kernel
theorem dX9_append_16 : decode cX9_append 16 = .ok (.invokestatic 48, 3) := by decide +kernel
theorem dX9_append_19 : decode cX9_append 19 = .ok (.aload_n 0, 1) := by decide +kernel
theorem dX9_append_20 : decode cX9_append 20 = .ok (.getfield 10, 3) := by decide +kernel
theorem dX9_append_23 : decode cX9_append 23 = .ok (.getfield 52, 3) := by decide +kernel
theorem dX9_append_26 : decode cX9_append 26 = .ok (.bipush 120, 2) := by decide +kernel
theorem dX9_append_28 : decode cX9_append 28 = .ok (.if_icmp .ge 7, 3) := by decide +kernel
theorem dX9_append_31 : decode cX9_append 31 = .ok (.iconst 1, 1) := by decide +kernel
theorem dX9_append_32 : decode cX9_append 32 = .ok (.goto 4, 3) := by decide +kernel
theorem dX9_append_35 : decode cX9_append 35 = .ok (.iconst 0, 1) := by decide +kernel
theorem dX9_append_36 : decode cX9_append 36 = .ok (.invokestatic 56, 3) := by decide +kernel
theorem dX9_append_39 : decode cX9_append 39 = .ok (.aload_n 0, 1) := by decide +kernel
theorem dX9_append_40 : decode cX9_append 40 = .ok (.getfield 10, 3) := by decide +kernel
theorem dX9_append_43 : decode cX9_append 43 = .ok (.iload_n 1, 1) := by decide +kernel
theorem dX9_append_44 : decode cX9_append 44 = .ok (.i2c, 1) := by decide +kernel
theorem dX9_append_45 : decode cX9_append 45 = .ok (.invokevirtual 59, 3) := by decide +kernel
theorem dX9_append_48 : decode cX9_append 48 = .ok (.ireturn, 1) := by decide +kernel
set_option maxRecDepth 20000 in
theorem ggX9_clearText_X7_makeEmpty : GoodIn wsX9_clearText wsX7_makeEmpty := goodIn_r _ [6, 7, 15, 16, 17, 18, 19, 20, 21, 22, 23, 24, 25, 26] (by decide +kernel) (by decide +kernel)
set_option maxRecDepth 20000 in
theorem gX9_clearText_X7_makeEmpty : GoodIn wsX9_clearText (wsV RX9 63 RX7 yX7_makeEmpty wsX7_makeEmpty) := goodIn_app (goodIn_of _ (by decide +kernel)) ggX9_clearText_X7_makeEmpty
theorem dX9_clearText_0 : decode cX9_clearText 0 = .ok (.aload_n 0, 1) := by decide +kernel
theorem dX9_clearText_1 : decode cX9_clearText 1 = .ok (.getfield 10, 3) := by decide +kernel
theorem dX9_clearText_4 : decode cX9_clearText 4 = .ok (.invokevirtual 63, 3) := by decide +kernel
theorem dX9_clearText_7 : decode cX9_clearText 7 = .ok (.ireturn, 1) := by decide +kernel
set_option maxRecDepth 20000 in
theorem ggX9_errorPosition_X7_firstError : GoodIn wsX9_errorPosition wsX7_firstError := goodIn_r _ [6, 7, 8, 9, 10, 11, 5, 12, 13, 14, 15, 16, 17, 18, 19, 20, 21, 22, 23, 24, 25, 26, 27, 28, 29, 30, 31, 32, 33, 34, 35, 36, 37, 38, 39, 40, 41, 42, 43, 44, 45, 46, 47, 48, 49, 50, 51, 52, 53, 54, 55, 56, 57, 58, 59, 60, 61, 62, 63, 64, 65, 66, 67, 68, 69, 70, 71, 72, 73, 74, 82, 83, 84, 85, 86, 87, 88, 89, 90, 91, 92, 93] (by decide +kernel) (by decide +kernel)
set_option maxRecDepth 20000 in
theorem gX9_errorPosition_X7_firstError : GoodIn wsX9_errorPosition (wsV RX9 67 RX7 yX7_firstError wsX7_firstError) := goodIn_app (goodIn_of _ (by decide +kernel)) ggX9_errorPosition_X7_firstError
theorem dX9_errorPosition_0 : decode cX9_errorPosition 0 = .ok (.aload_n 0, 1) := by decide +kernel
theorem dX9_errorPosition_1 : decode cX9_errorPosition 1 = .ok (.getfield 10, 3) := by decide +kernel
theorem dX9_errorPosition_4 : decode cX9_errorPosition 4 = .ok (.invokevirtual 67, 3) := by decide +kernel
theorem dX9_errorPosition_7 : decode cX9_errorPosition 7 = .ok (.ireturn, 1) := by decide +kernel
set_option maxRecDepth 20000 in
theorem ggX9_load_X7_firstError : GoodIn wsX9_load wsX7_firstError := goodIn_r _ [9, 10, 11, 12, 13, 14, 8, 15, 16, 17, 18, 19, 20, 21, 22, 23, 24, 25, 26, 27, 28, 29, 30, 31, 32, 33, 34, 35, 36, 37, 38, 39, 40, 41, 42, 43, 44, 45, 46, 47, 48, 49, 50, 51, 52, 53, 54, 55, 56, 57, 58, 59, 60, 61, 62, 63, 64, 65, 66, 67, 68, 69, 70, 71, 72, 73, 74, 75, 76, 77, 213, 214, 215, 216, 217, 218, 219, 220, 221, 222, 223, 224] (by decide +kernel) (by decide +kernel)
set_option maxRecDepth 20000 in
theorem gX9_load_X7_firstError : GoodIn wsX9_load (wsV RX9 67 RX7 yX7_firstError wsX7_firstError) := goodIn_app (goodIn_of _ (by decide +kernel)) ggX9_load_X7_firstError
set_option maxRecDepth 20000 in
theorem ggX9_load_X9_mustBeFree : GoodIn wsX9_load wsX9_mustBeFree := goodIn_ca (goodIn_r _ [81, 82, 83] (by decide +kernel) (by decide +kernel)) (goodIn_sub (fun _ h => List.mem_cons_of_mem _ (List.mem_append_right _ h)) (by decide +kernel))
set_option maxRecDepth 20000 in
theorem gX9_load_X9_mustBeFree : GoodIn wsX9_load (va_wsS RX9 56 yX9_mustBeFree wsX9_mustBeFree) := goodIn_app (goodIn_of _ (by decide +kernel)) ggX9_load_X9_mustBeFree
set_option maxRecDepth 20000 in
theorem ggX9_load_X6_makeEmpty : GoodIn wsX9_load wsX6_makeEmpty := goodIn_r _ [88, 89, 90, 91, 92, 93, 94, 95, 96, 97, 98, 99, 100, 101, 102, 225, 226, 227, 228, 229, 230, 231, 232, 233, 234, 235, 236, 237, 238, 239, 240, 241, 242, 243, 244, 245, 246, 247] (by decide +kernel) (by decide +kernel)
set_option maxRecDepth 20000 in
theorem gX9_load_X6_makeEmpty : GoodIn wsX9_load (wsV RX9 70 RX6 yX6_makeEmpty wsX6_makeEmpty) := goodIn_app (goodIn_of _ (by decide +kernel)) ggX9_load_X6_makeEmpty
set_option maxRecDepth 20000 in
theorem ggX9_load_X2_forget : GoodIn wsX9_load wsX2_forget := goodIn_r _ [107, 108, 248, 249, 250] (by decide +kernel) (by decide +kernel)
set_option maxRecDepth 20000 in
theorem gX9_load_X2_forget : GoodIn wsX9_load (wsV RX9 72 RX2 yX2_forget wsX2_forget) := goodIn_app (goodIn_of _ (by decide +kernel)) ggX9_load_X2_forget
set_option maxRecDepth 20000 in
theorem ggX9_load_X9_enterText : GoodIn wsX9_load wsX9_enterText := goodIn_r _ [112, 1, 2, 113, 13, 14, 8, 15, 11, 10, 114, 17, 18, 19, 20, 21, 22, 23, 24, 25, 26, 27, 28, 29, 30, 31, 32, 33, 34, 35, 36, 37, 38, 39, 40, 41, 42, 43, 44, 45, 46, 47, 48, 49, 50, 51, 52, 53, 54, 55, 56, 57, 58, 59, 60, 61, 62, 63, 64, 65, 66, 67, 68, 69, 70, 71, 72, 73, 74, 75, 76, 77, 115, 116, 117, 87, 118, 119, 120, 121, 122, 123, 124, 125, 126, 127, 128, 129, 130, 89, 90, 131, 132, 133, 80, 134, 135, 136, 137, 138, 139, 140, 141, 142, 143, 144, 145, 91, 92, 146, 147, 148, 149, 150, 151, 152, 153, 154, 155, 156, 157, 158, 159, 160, 161, 162, 163, 164, 165, 166, 167, 168, 169, 170, 171, 172, 173, 174, 93, 94, 175, 176, 177, 178, 179, 180, 181, 182, 183, 184, 185, 186, 187, 188, 189, 190, 191, 192, 193, 194, 195, 196, 197, 198, 199, 200, 201, 202, 203, 204, 205, 206, 207, 208, 209, 210, 211, 212, 213, 214, 215, 216, 217, 218, 219, 220, 221, 222, 223, 224, 225, 226, 227, 228, 229, 230, 231, 232, 233, 234, 235, 236, 237, 238, 239, 240, 241, 242, 243, 244, 245] (by decide +kernel) (by decide +kernel)
set_option maxRecDepth 20000 in
theorem gX9_load_X9_enterText : GoodIn wsX9_load (wsV RX9 75 RX9 yX9_enterText wsX9_enterText) := goodIn_app (goodIn_of _ (by decide +kernel)) ggX9_load_X9_enterText
theorem dX9_load_0 : decode cX9_load 0 = .ok (.aload_n 0, 1) := by decide +kernel
theorem dX9_load_1 : decode cX9_load 1 = .ok (.getfield 10, 3) := by decide +kernel
theorem dX9_load_4 : decode cX9_load 4 = .ok (.invokevirtual 67, 3) := by decide +kernel
theorem dX9_load_7 : decode cX9_load 7 = .ok (.iconst (-1), 1) := by decide +kernel
theorem dX9_load_8 : decode cX9_load 8 = .ok (.if_icmp .ne 7, 3) := by decide +kernel
theorem dX9_load_11 : decode cX9_load 11 = .ok (.iconst 1, 1) := by decide +kernel
theorem dX9_load_12 : decode cX9_load 12 = .ok (.goto 4, 3) := by decide +kernel
theorem dX9_load_15 : decode cX9_load 15 = .ok (.iconst 0, 1) := by decide +kernel
theorem dX9_load_16 : decode cX9_load 16 = .ok (.invokestatic 56, 3) := by decide +kernel
theorem dX9_load_19 : decode cX9_load 19 = .ok (.aload_n 0, 1) := by decide +kernel
theorem dX9_load_20 : decode cX9_load 20 = .ok (.getfield 41, 3) := by decide +kernel
theorem dX9_load_23 : decode cX9_load 23 = .ok (.invokevirtual 70, 3) := by decide +kernel
theorem dX9_load_26 : decode cX9_load 26 = .ok (.aload_n 0, 1) := by decide +kernel
theorem dX9_load_27 : decode cX9_load 27 = .ok (.getfield 26, 3) := by decide +kernel
theorem dX9_load_30 : decode cX9_load 30 = .ok (.invokevirtual 72, 3) := by decide +kernel
theorem dX9_load_33 : decode cX9_load 33 = .ok (.iconst 0, 1) := by decide +kernel
theorem dX9_load_34 : decode cX9_load 34 = .ok (.istore_n 1, 1) := by decide +kernel
theorem dX9_load_35 : decode cX9_load 35 = .ok (.iload_n 1, 1) := by decide +kernel
theorem dX9_load_36 : decode cX9_load 36 = .ok (.iconst 2, 1) := by decide +kernel
theorem dX9_load_37 : decode cX9_load 37 = .ok (.if_icmp .ge 16, 3) := by decide +kernel
theorem dX9_load_40 : decode cX9_load 40 = .ok (.aload_n 0, 1) := by decide +kernel
theorem dX9_load_41 : decode cX9_load 41 = .ok (.getfield 36, 3) := by decide +kernel
theorem dX9_load_44 : decode cX9_load 44 = .ok (.iload_n 1, 1) := by decide +kernel
theorem dX9_load_45 : decode cX9_load 45 = .ok (.iconst 0, 1) := by decide +kernel
theorem dX9_load_46 : decode cX9_load 46 = .ok (.bastore, 1) := by decide +kernel
theorem dX9_load_47 : decode cX9_load 47 = .ok (.iinc 1 1, 3) := by decide +kernel
theorem dX9_load_50 : decode cX9_load 50 = .ok (.goto (-15), 3) := by decide +kernel
theorem dX9_load_53 : decode cX9_load 53 = .ok (.aload_n 0, 1) := by decide +kernel
theorem dX9_load_54 : decode cX9_load 54 = .ok (.invokevirtual 75, 3) := by decide +kernel
theorem dX9_load_57 : decode cX9_load 57 = .ok (.ireturn, 1) := by decide +kernel
set_option maxRecDepth 20000 in
theorem ggX9_enterText_X7_toStart : GoodIn wsX9_enterText wsX7_toStart := goodIn_r _ [7, 8, 9, 178, 179, 180, 181, 182, 183, 184, 185, 186, 187, 188, 189] (by decide +kernel) (by decide +kernel)
set_option maxRecDepth 20000 in
theorem gX9_enterText_X7_toStart : GoodIn wsX9_enterText (wsV RX9 78 RX7 yX7_toStart wsX7_toStart) := goodIn_app (goodIn_of _ (by decide +kernel)) ggX9_enterText_X7_toStart
set_option maxRecDepth 20000 in
theorem ggX9_enterText_X7_readNext : GoodIn wsX9_enterText wsX7_readNext := goodIn_r _ [13, 8, 14, 9, 15, 16, 17, 6, 18, 19, 20, 21, 22, 23, 24, 25, 26, 27, 28, 29, 30, 31, 32, 33, 34, 35, 36, 37, 38, 39, 40, 41, 42, 43, 44, 45, 46, 47, 48, 49, 50, 51, 52, 53, 54, 55, 56, 57, 58, 59, 60, 61, 62, 63, 64, 65, 66, 67, 68, 69, 70, 71, 178, 179, 180, 181, 182, 183, 184, 185, 186, 187, 188, 189] (by decide +kernel) (by decide +kernel)
set_option maxRecDepth 20000 in
theorem gX9_enterText_X7_readNext : GoodIn wsX9_enterText (wsV RX9 81 RX7 yX7_readNext wsX7_readNext) := goodIn_app (goodIn_of _ (by decide +kernel)) ggX9_enterText_X7_readNext
set_option maxRecDepth 20000 in
theorem ggX9_enterText_X6_enter : GoodIn wsX9_enterText wsX6_enter := goodIn_r _ [76, 77, 78, 79, 80, 81, 82, 83, 84, 85, 86, 87, 75, 88, 89, 90, 91, 92, 93, 94, 95, 96, 97, 98, 99, 100, 101, 102, 103, 104, 105, 106, 107, 108, 109, 110, 111, 112, 113, 114, 115, 116, 117, 118, 119, 120, 121, 122, 123, 124, 125, 126, 127, 128, 129, 130, 131, 132, 133, 134, 135, 136, 137, 138, 139, 140, 141, 142, 143, 144, 145, 146, 147, 148, 149, 150, 151, 152, 153, 154, 155, 156, 157, 158, 159, 160, 161, 162, 163, 164, 165, 166, 167, 168, 169, 170, 178, 179, 180, 181, 182, 183, 184, 185, 186, 187, 188, 189, 190, 191, 192, 193, 194, 195, 196, 197, 198, 199, 200, 201, 202, 203, 204, 205, 206, 207, 208, 209, 210] (by decide +kernel) (by decide +kernel)
set_option maxRecDepth 20000 in
theorem gX9_enterText_X6_enter : GoodIn wsX9_enterText (wsV RX9 85 RX6 yX6_enter wsX6_enter) := goodIn_app (goodIn_of _ (by decide +kernel)) ggX9_enterText_X6_enter
theorem dX9_enterText_0 : decode cX9_enterText 0 = .ok (.iconst 0, 1) := by decide +kernel
theorem dX9_enterText_1 : decode cX9_enterText 1 = .ok (.istore_n 1, 1) := by decide +kernel
theorem dX9_enterText_2 : decode cX9_enterText 2 = .ok (.aload_n 0, 1) := by decide +kernel
theorem dX9_enterText_3 : decode cX9_enterText 3 = .ok (.getfield 10, 3) := by decide +kernel
theorem dX9_enterText_6 : decode cX9_enterText 6 = .ok (.invokevirtual 78, 3) := by decide +kernel
theorem dX9_enterText_9 : decode cX9_enterText 9 = .ok (.iconst 0, 1) := by decide +kernel
theorem dX9_enterText_10 : decode cX9_enterText 10 = .ok (.istore_n 2, 1) := by decide +kernel
theorem dX9_enterText_11 : decode cX9_enterText 11 = .ok (.iload_n 2, 1) := by decide +kernel
theorem dX9_enterText_12 : decode cX9_enterText 12 = .ok (.bipush 120, 2) := by decide +kernel
theorem dX9_enterText_14 : decode cX9_enterText 14 = .ok (.if_icmp .ge 36, 3) := by decide +kernel
theorem dX9_enterText_17 : decode cX9_enterText 17 = .ok (.aload_n 0, 1) := by decide +kernel
theorem dX9_enterText_18 : decode cX9_enterText 18 = .ok (.getfield 10, 3) := by decide +kernel
theorem dX9_enterText_21 : decode cX9_enterText 21 = .ok (.invokevirtual 81, 3) := by decide +kernel
theorem dX9_enterText_24 : decode cX9_enterText 24 = .ok (.ifCond .eq 26, 3) := by decide +kernel
theorem dX9_enterText_27 : decode cX9_enterText 27 = .ok (.aload_n 0, 1) := by decide +kernel
theorem dX9_enterText_28 : decode cX9_enterText 28 = .ok (.getfield 41, 3) := by decide +kernel
theorem dX9_enterText_31 : decode cX9_enterText 31 = .ok (.aload_n 0, 1) := by decide +kernel
theorem dX9_enterText_32 : decode cX9_enterText 32 = .ok (.getfield 10, 3) := by decide +kernel
theorem dX9_enterText_35 : decode cX9_enterText 35 = .ok (.invokevirtual 85, 3) := by decide +kernel
theorem dX9_enterText_38 : decode cX9_enterText 38 = .ok (.ifCond .ge 6, 3) := by decide +kernel
theorem dX9_enterText_41 : decode cX9_enterText 41 = .ok (.iinc 1 1, 3) := by decide +kernel
theorem dX9_enterText_44 : decode cX9_enterText 44 = .ok (.iinc 2 1, 3) := by decide +kernel
theorem dX9_enterText_47 : decode cX9_enterText 47 = .ok (.goto (-36), 3) := by decide +kernel
theorem dX9_enterText_50 : decode cX9_enterText 50 = .ok (.iload_n 1, 1) := by decide +kernel
theorem dX9_enterText_51 : decode cX9_enterText 51 = .ok (.ireturn, 1) := by decide +kernel
set_option maxRecDepth 20000 in
theorem ggX9_about_X9_mustFit : GoodIn wsX9_about wsX9_mustFit := goodIn_ca (goodIn_r _ [13, 14, 15] (by decide +kernel) (by decide +kernel)) (goodIn_sub (fun _ h => List.mem_cons_of_mem _ (List.mem_append_right _ h)) (by decide +kernel))
set_option maxRecDepth 20000 in
theorem gX9_about_X9_mustFit : GoodIn wsX9_about (va_wsS RX9 48 yX9_mustFit wsX9_mustFit) := goodIn_app (goodIn_of _ (by decide +kernel)) ggX9_about_X9_mustFit
set_option maxRecDepth 20000 in
theorem ggX9_about_X1_look : GoodIn wsX9_about wsX1_look := goodIn_r _ [20, 21, 22, 23, 19, 24, 25, 26, 27, 28, 29, 30, 31, 32, 33, 34, 35, 36, 37, 38, 39, 40, 41, 42, 43, 44, 45, 46, 47, 48, 49, 50, 51, 52, 53, 54, 55, 56, 57, 58, 59, 60, 61, 62, 63, 64, 65, 66, 67, 68, 69, 70, 71, 72, 73, 74, 75, 76, 77, 78, 79, 80, 81, 82, 83, 84, 85, 86, 87, 88, 89, 90, 91, 92, 93, 94, 95, 96, 97, 98, 99, 100, 101, 102, 103, 104, 105, 106, 107, 108, 109, 110, 111, 112, 113, 114, 115, 116, 117, 118, 119, 120, 121, 122, 123, 124, 125, 126, 127, 183, 184, 185, 186, 187, 197, 198, 199, 200, 201, 202, 203, 204, 205, 206, 207, 208, 209, 191, 192, 193, 194, 195, 196, 188, 189, 190, 210, 211, 212] (by decide +kernel) (by decide +kernel)
set_option maxRecDepth 20000 in
theorem gX9_about_X1_look : GoodIn wsX9_about (wsV RX9 89 RX1 yX1_look wsX1_look) := goodIn_app (goodIn_of _ (by decide +kernel)) ggX9_about_X1_look
set_option maxRecDepth 20000 in
theorem ggX9_about_X1_fakes : GoodIn wsX9_about wsX1_fakes := goodIn_r _ [131, 25, 26, 97, 183, 184, 185, 186, 187, 197, 198, 199, 200, 201, 202, 203, 204, 205, 206, 207, 208, 209] (by decide +kernel) (by decide +kernel)
set_option maxRecDepth 20000 in
theorem gX9_about_X1_fakes : GoodIn wsX9_about (wsV RX9 116 RX1 yX1_fakes wsX1_fakes) := goodIn_app (goodIn_of _ (by decide +kernel)) ggX9_about_X1_fakes
set_option maxRecDepth 20000 in
theorem ggX9_about_X1_casts : GoodIn wsX9_about wsX1_casts := goodIn_r _ [135, 25, 26, 97, 183, 184, 185, 186, 187, 197, 198, 199, 200, 201, 202, 203, 204, 205, 206, 207, 208, 209] (by decide +kernel) (by decide +kernel)
set_option maxRecDepth 20000 in
theorem gX9_about_X1_casts : GoodIn wsX9_about (wsV RX9 120 RX1 yX1_casts wsX1_casts) := goodIn_app (goodIn_of _ (by decide +kernel)) ggX9_about_X1_casts
set_option maxRecDepth 20000 in
theorem ggX9_about_X4_hanging : GoodIn wsX9_about wsX4_hanging := goodIn_r _ [140, 141, 142, 143, 144, 139, 145, 146, 197, 198, 199, 200, 201, 202, 203] (by decide +kernel) (by decide +kernel)
set_option maxRecDepth 20000 in
theorem gX9_about_X4_hanging : GoodIn wsX9_about (wsV RX9 123 RX4 yX4_hanging wsX4_hanging) := goodIn_app (goodIn_of _ (by decide +kernel)) ggX9_about_X4_hanging
set_option maxRecDepth 20000 in
theorem ggX9_about_X1_chartersWithFakes : GoodIn wsX9_about wsX1_chartersWithFakes := goodIn_r _ [150, 151, 152, 153, 19, 154, 25, 26, 115, 97, 183, 184, 185, 186, 187, 197, 198, 199, 200, 201, 202, 203, 204, 205, 206, 207, 208, 209] (by decide +kernel) (by decide +kernel)
set_option maxRecDepth 20000 in
theorem gX9_about_X1_chartersWithFakes : GoodIn wsX9_about (wsV RX9 126 RX1 yX1_chartersWithFakes wsX1_chartersWithFakes) := goodIn_app (goodIn_of _ (by decide +kernel)) ggX9_about_X1_chartersWithFakes
set_option maxRecDepth 20000 in
theorem ggX9_about_X5_filled : GoodIn wsX9_about wsX5_filled := goodIn_r _ [159, 160, 213, 214] (by decide +kernel) (by decide +kernel)
set_option maxRecDepth 20000 in
theorem gX9_about_X5_filled : GoodIn wsX9_about (wsV RX9 133 RX5 yX5_filled wsX5_filled) := goodIn_app (goodIn_of _ (by decide +kernel)) ggX9_about_X5_filled
set_option maxRecDepth 20000 in
theorem ggX9_about_X1_badShelves : GoodIn wsX9_about wsX1_badShelves := goodIn_r _ [164, 165, 166, 167, 19, 168, 169, 170, 97, 33, 171, 172, 173, 158, 174, 175, 183, 184, 185, 186, 187, 213, 214, 204, 205, 206, 207, 208, 209] (by decide +kernel) (by decide +kernel)
set_option maxRecDepth 20000 in
theorem gX9_about_X1_badShelves : GoodIn wsX9_about (wsV RX9 138 RX1 yX1_badShelves wsX1_badShelves) := goodIn_app (goodIn_of _ (by decide +kernel)) ggX9_about_X1_badShelves
theorem dX9_about_0 : decode cX9_about 0 = .ok (.iload_n 1, 1) := by decide +kernel
theorem dX9_about_1 : decode cX9_about 1 = .ok (.ifCond .lt 13, 3) := by decide +kernel
theorem dX9_about_4 : decode cX9_about 4 = .ok (.iload_n 1, 1) := by decide +kernel
theorem dX9_about_5 : decode cX9_about 5 = .ok (.bipush 8, 2) := by decide +kernel
theorem dX9_about_7 : decode cX9_about 7 = .ok (.if_icmp .gt 7, 3) := by decide +kernel
theorem dX9_about_10 : decode cX9_about 10 = .ok (.iconst 1, 1) := by decide +kernel
theorem dX9_about_11 : decode cX9_about 11 = .ok (.goto 4, 3) := by decide +kernel
theorem dX9_about_14 : decode cX9_about 14 = .ok (.iconst 0, 1) := by decide +kernel
theorem dX9_about_15 : decode cX9_about 15 = .ok (.invokestatic 48, 3) := by decide +kernel
theorem dX9_about_18 : decode cX9_about 18 = .ok (.aload_n 0, 1) := by decide +kernel
theorem dX9_about_19 : decode cX9_about 19 = .ok (.getfield 19, 3) := by decide +kernel
theorem dX9_about_22 : decode cX9_about 22 = .ok (.aload_n 0, 1) := by decide +kernel
theorem dX9_about_23 : decode cX9_about 23 = .ok (.getfield 41, 3) := by decide +kernel
theorem dX9_about_26 : decode cX9_about 26 = .ok (.invokevirtual 89, 3) := by decide +kernel
theorem dX9_about_29 : decode cX9_about 29 = .ok (.iload_n 1, 1) := by decide +kernel
theorem dX9_about_30 : decode cX9_about 30 = .ok (.tableswitch 137 0 7 #[46, 57, 68, 79, 91, 103, 114, 126], 46) := by decide +kernel
theorem dX9_about_76 : decode cX9_about 76 = .ok (.aload_n 0, 1) := by decide +kernel
theorem dX9_about_77 : decode cX9_about 77 = .ok (.getfield 41, 3) := by decide +kernel
theorem dX9_about_80 : decode cX9_about 80 = .ok (.getfield 93, 3) := by decide +kernel
theorem dX9_about_83 : decode cX9_about 83 = .ok (.getfield 97, 3) := by decide +kernel
theorem dX9_about_86 : decode cX9_about 86 = .ok (.ireturn, 1) := by decide +kernel
theorem dX9_about_87 : decode cX9_about 87 = .ok (.aload_n 0, 1) := by decide +kernel
theorem dX9_about_88 : decode cX9_about 88 = .ok (.getfield 41, 3) := by decide +kernel
theorem dX9_about_91 : decode cX9_about 91 = .ok (.getfield 102, 3) := by decide +kernel
theorem dX9_about_94 : decode cX9_about 94 = .ok (.getfield 106, 3) := by decide +kernel
theorem dX9_about_97 : decode cX9_about 97 = .ok (.ireturn, 1) := by decide +kernel
theorem dX9_about_98 : decode cX9_about 98 = .ok (.aload_n 0, 1) := by decide +kernel
theorem dX9_about_99 : decode cX9_about 99 = .ok (.getfield 41, 3) := by decide +kernel
theorem dX9_about_102 : decode cX9_about 102 = .ok (.getfield 109, 3) := by decide +kernel
theorem dX9_about_105 : decode cX9_about 105 = .ok (.getfield 113, 3) := by decide +kernel
theorem dX9_about_108 : decode cX9_about 108 = .ok (.ireturn, 1) := by decide +kernel
theorem dX9_about_109 : decode cX9_about 109 = .ok (.aload_n 0, 1) := by decide +kernel
theorem dX9_about_110 : decode cX9_about 110 = .ok (.getfield 19, 3) := by decide +kernel
theorem dX9_about_113 : decode cX9_about 113 = .ok (.aload_n 0, 1) := by decide +kernel
theorem dX9_about_114 : decode cX9_about 114 = .ok (.getfield 41, 3) := by decide +kernel
theorem dX9_about_117 : decode cX9_about 117 = .ok (.invokevirtual 116, 3) := by decide +kernel
theorem dX9_about_120 : decode cX9_about 120 = .ok (.ireturn, 1) := by decide +kernel
theorem dX9_about_121 : decode cX9_about 121 = .ok (.aload_n 0, 1) := by decide +kernel
theorem dX9_about_122 : decode cX9_about 122 = .ok (.getfield 19, 3) := by decide +kernel
theorem dX9_about_125 : decode cX9_about 125 = .ok (.aload_n 0, 1) := by decide +kernel
theorem dX9_about_126 : decode cX9_about 126 = .ok (.getfield 41, 3) := by decide +kernel
theorem dX9_about_129 : decode cX9_about 129 = .ok (.invokevirtual 120, 3) := by decide +kernel
theorem dX9_about_132 : decode cX9_about 132 = .ok (.ireturn, 1) := by decide +kernel
theorem dX9_about_133 : decode cX9_about 133 = .ok (.aload_n 0, 1) := by decide +kernel
theorem dX9_about_134 : decode cX9_about 134 = .ok (.getfield 41, 3) := by decide +kernel
theorem dX9_about_137 : decode cX9_about 137 = .ok (.getfield 109, 3) := by decide +kernel
theorem dX9_about_140 : decode cX9_about 140 = .ok (.invokevirtual 123, 3) := by decide +kernel
theorem dX9_about_143 : decode cX9_about 143 = .ok (.ireturn, 1) := by decide +kernel
theorem dX9_about_144 : decode cX9_about 144 = .ok (.aload_n 0, 1) := by decide +kernel
theorem dX9_about_145 : decode cX9_about 145 = .ok (.getfield 19, 3) := by decide +kernel
theorem dX9_about_148 : decode cX9_about 148 = .ok (.aload_n 0, 1) := by decide +kernel
theorem dX9_about_149 : decode cX9_about 149 = .ok (.getfield 41, 3) := by decide +kernel
theorem dX9_about_152 : decode cX9_about 152 = .ok (.invokevirtual 126, 3) := by decide +kernel
theorem dX9_about_155 : decode cX9_about 155 = .ok (.ireturn, 1) := by decide +kernel
theorem dX9_about_156 : decode cX9_about 156 = .ok (.aload_n 0, 1) := by decide +kernel
theorem dX9_about_157 : decode cX9_about 157 = .ok (.getfield 41, 3) := by decide +kernel
theorem dX9_about_160 : decode cX9_about 160 = .ok (.getfield 129, 3) := by decide +kernel
theorem dX9_about_163 : decode cX9_about 163 = .ok (.invokevirtual 133, 3) := by decide +kernel
theorem dX9_about_166 : decode cX9_about 166 = .ok (.ireturn, 1) := by decide +kernel
theorem dX9_about_167 : decode cX9_about 167 = .ok (.aload_n 0, 1) := by decide +kernel
theorem dX9_about_168 : decode cX9_about 168 = .ok (.getfield 19, 3) := by decide +kernel
theorem dX9_about_171 : decode cX9_about 171 = .ok (.aload_n 0, 1) := by decide +kernel
theorem dX9_about_172 : decode cX9_about 172 = .ok (.getfield 41, 3) := by decide +kernel
theorem dX9_about_175 : decode cX9_about 175 = .ok (.invokevirtual 138, 3) := by decide +kernel
theorem dX9_about_178 : decode cX9_about 178 = .ok (.ireturn, 1) := by decide +kernel
set_option maxRecDepth 20000 in
theorem ggX9_ofReign_X9_mustExist : GoodIn wsX9_ofReign wsX9_mustExist := goodIn_ca (goodIn_r _ [9, 10, 11] (by decide +kernel) (by decide +kernel)) (goodIn_sub (fun _ h => List.mem_cons_of_mem _ (List.mem_append_left _ (List.mem_append_right _ h))) (by decide +kernel))
set_option maxRecDepth 20000 in
theorem gX9_ofReign_X9_mustExist : GoodIn wsX9_ofReign (va_wsS RX9 141 yX9_mustExist wsX9_mustExist) := goodIn_app (goodIn_of _ (by decide +kernel)) ggX9_ofReign_X9_mustExist
set_option maxRecDepth 20000 in
theorem ggX9_ofReign_X9_mustFit : GoodIn wsX9_ofReign wsX9_mustFit := goodIn_ca (goodIn_r _ [14, 15, 16] (by decide +kernel) (by decide +kernel)) (goodIn_sub (fun _ h => List.mem_cons_of_mem _ (List.mem_append_right _ h)) (by decide +kernel))
set_option maxRecDepth 20000 in
theorem gX9_ofReign_X9_mustFit : GoodIn wsX9_ofReign (va_wsS RX9 48 yX9_mustFit wsX9_mustFit) := goodIn_app (goodIn_of _ (by decide +kernel)) ggX9_ofReign_X9_mustFit
set_option maxRecDepth 20000 in
theorem ggX9_ofReign_X3_endOf : GoodIn wsX9_ofReign wsX3_endOf := goodIn_r _ [21, 22, 23, 24, 20, 25, 26, 27, 40, 41, 42] (by decide +kernel) (by decide +kernel)
set_option maxRecDepth 20000 in
theorem gX9_ofReign_X3_endOf : GoodIn wsX9_ofReign (wsV RX9 148 RX3 yX3_endOf wsX3_endOf) := goodIn_app (goodIn_of _ (by decide +kernel)) ggX9_ofReign_X3_endOf
theorem dX9_ofReign_0 : decode cX9_ofReign 0 = .ok (.iload_n 1, 1) := by decide +kernel
theorem dX9_ofReign_1 : decode cX9_ofReign 1 = .ok (.ifCond .lt 21, 3) := by decide +kernel
theorem dX9_ofReign_4 : decode cX9_ofReign 4 = .ok (.iload_n 1, 1) := by decide +kernel
theorem dX9_ofReign_5 : decode cX9_ofReign 5 = .ok (.aload_n 0, 1) := by decide +kernel
theorem dX9_ofReign_6 : decode cX9_ofReign 6 = .ok (.getfield 41, 3) := by decide +kernel
theorem dX9_ofReign_9 : decode cX9_ofReign 9 = .ok (.getfield 93, 3) := by decide +kernel
theorem dX9_ofReign_12 : decode cX9_ofReign 12 = .ok (.getfield 97, 3) := by decide +kernel
theorem dX9_ofReign_15 : decode cX9_ofReign 15 = .ok (.if_icmp .ge 7, 3) := by decide +kernel
theorem dX9_ofReign_18 : decode cX9_ofReign 18 = .ok (.iconst 1, 1) := by decide +kernel
theorem dX9_ofReign_19 : decode cX9_ofReign 19 = .ok (.goto 4, 3) := by decide +kernel
theorem dX9_ofReign_22 : decode cX9_ofReign 22 = .ok (.iconst 0, 1) := by decide +kernel
theorem dX9_ofReign_23 : decode cX9_ofReign 23 = .ok (.invokestatic 141, 3) := by decide +kernel
theorem dX9_ofReign_26 : decode cX9_ofReign 26 = .ok (.iload_n 2, 1) := by decide +kernel
theorem dX9_ofReign_27 : decode cX9_ofReign 27 = .ok (.ifCond .lt 12, 3) := by decide +kernel
theorem dX9_ofReign_30 : decode cX9_ofReign 30 = .ok (.iload_n 2, 1) := by decide +kernel
theorem dX9_ofReign_31 : decode cX9_ofReign 31 = .ok (.iconst 2, 1) := by decide +kernel
theorem dX9_ofReign_32 : decode cX9_ofReign 32 = .ok (.if_icmp .gt 7, 3) := by decide +kernel
theorem dX9_ofReign_35 : decode cX9_ofReign 35 = .ok (.iconst 1, 1) := by decide +kernel
theorem dX9_ofReign_36 : decode cX9_ofReign 36 = .ok (.goto 4, 3) := by decide +kernel
theorem dX9_ofReign_39 : decode cX9_ofReign 39 = .ok (.iconst 0, 1) := by decide +kernel
theorem dX9_ofReign_40 : decode cX9_ofReign 40 = .ok (.invokestatic 48, 3) := by decide +kernel
theorem dX9_ofReign_43 : decode cX9_ofReign 43 = .ok (.iload_n 2, 1) := by decide +kernel
theorem dX9_ofReign_44 : decode cX9_ofReign 44 = .ok (.lookupswitch 53 #[(0, 28), (1, 41)], 28) := by decide +kernel
theorem dX9_ofReign_72 : decode cX9_ofReign 72 = .ok (.aload_n 0, 1) := by decide +kernel
theorem dX9_ofReign_73 : decode cX9_ofReign 73 = .ok (.getfield 41, 3) := by decide +kernel
theorem dX9_ofReign_76 : decode cX9_ofReign 76 = .ok (.getfield 93, 3) := by decide +kernel
theorem dX9_ofReign_79 : decode cX9_ofReign 79 = .ok (.getfield 144, 3) := by decide +kernel
theorem dX9_ofReign_82 : decode cX9_ofReign 82 = .ok (.iload_n 1, 1) := by decide +kernel
theorem dX9_ofReign_83 : decode cX9_ofReign 83 = .ok (.iaload, 1) := by decide +kernel
theorem dX9_ofReign_84 : decode cX9_ofReign 84 = .ok (.ireturn, 1) := by decide +kernel
theorem dX9_ofReign_85 : decode cX9_ofReign 85 = .ok (.aload_n 0, 1) := by decide +kernel
theorem dX9_ofReign_86 : decode cX9_ofReign 86 = .ok (.getfield 41, 3) := by decide +kernel
theorem dX9_ofReign_89 : decode cX9_ofReign 89 = .ok (.getfield 93, 3) := by decide +kernel
theorem dX9_ofReign_92 : decode cX9_ofReign 92 = .ok (.iload_n 1, 1) := by decide +kernel
theorem dX9_ofReign_93 : decode cX9_ofReign 93 = .ok (.invokevirtual 148, 3) := by decide +kernel
theorem dX9_ofReign_96 : decode cX9_ofReign 96 = .ok (.ireturn, 1) := by decide +kernel
theorem dX9_ofReign_97 : decode cX9_ofReign 97 = .ok (.aload_n 0, 1) := by decide +kernel
theorem dX9_ofReign_98 : decode cX9_ofReign 98 = .ok (.getfield 41, 3) := by decide +kernel
theorem dX9_ofReign_101 : decode cX9_ofReign 101 = .ok (.getfield 93, 3) := by decide +kernel
theorem dX9_ofReign_104 : decode cX9_ofReign 104 = .ok (.getfield 152, 3) := by decide +kernel
theorem dX9_ofReign_107 : decode cX9_ofReign 107 = .ok (.iload_n 1, 1) := by decide +kernel
theorem dX9_ofReign_108 : decode cX9_ofReign 108 = .ok (.iaload, 1) := by decide +kernel
theorem dX9_ofReign_109 : decode cX9_ofReign 109 = .ok (.ireturn, 1) := by decide +kernel
set_option maxRecDepth 20000 in
theorem ggX9_ofDie_X0_has : GoodIn wsX9_ofDie wsX0_has := goodIn_r _ [13, 14, 160, 161, 162, 163, 164, 165] (by decide +kernel) (by decide +kernel)
set_option maxRecDepth 20000 in
theorem gX9_ofDie_X0_has : GoodIn wsX9_ofDie (wsV RX9 155 RX0 yX0_has wsX0_has) := goodIn_app (goodIn_of _ (by decide +kernel)) ggX9_ofDie_X0_has
set_option maxRecDepth 20000 in
theorem ggX9_ofDie_X9_mustExist : GoodIn wsX9_ofDie wsX9_mustExist := goodIn_ca (goodIn_r _ [18, 19, 20] (by decide +kernel) (by decide +kernel)) (goodIn_sub (fun _ h => List.mem_cons_of_mem _ (List.mem_append_left _ (List.mem_append_right _ h))) (by decide +kernel))
set_option maxRecDepth 20000 in
theorem gX9_ofDie_X9_mustExist : GoodIn wsX9_ofDie (va_wsS RX9 141 yX9_mustExist wsX9_mustExist) := goodIn_app (goodIn_of _ (by decide +kernel)) ggX9_ofDie_X9_mustExist
set_option maxRecDepth 20000 in
theorem ggX9_ofDie_X9_mustFit : GoodIn wsX9_ofDie wsX9_mustFit := goodIn_ca (goodIn_r _ [23, 24, 25] (by decide +kernel) (by decide +kernel)) (goodIn_sub (fun _ h => List.mem_cons_of_mem _ (List.mem_append_right _ h)) (by decide +kernel))
set_option maxRecDepth 20000 in
theorem gX9_ofDie_X9_mustFit : GoodIn wsX9_ofDie (va_wsS RX9 48 yX9_mustFit wsX9_mustFit) := goodIn_app (goodIn_of _ (by decide +kernel)) ggX9_ofDie_X9_mustFit
set_option maxRecDepth 20000 in
theorem ggX9_ofDie_X4_ofOneDie : GoodIn wsX9_ofDie wsX4_ofOneDie := goodIn_r _ [30, 31, 32, 166, 167, 168, 169, 170, 171, 172] (by decide +kernel) (by decide +kernel)
set_option maxRecDepth 20000 in
theorem gX9_ofDie_X4_ofOneDie : GoodIn wsX9_ofDie (wsV RX9 171 RX4 yX4_ofOneDie wsX4_ofOneDie) := goodIn_app (goodIn_of _ (by decide +kernel)) ggX9_ofDie_X4_ofOneDie
set_option maxRecDepth 20000 in
theorem ggX9_ofDie_X1_look : GoodIn wsX9_ofDie wsX1_look := goodIn_r _ [37, 38, 39, 40, 36, 41, 42, 43, 44, 45, 46, 47, 48, 49, 50, 51, 52, 53, 12, 54, 55, 56, 57, 58, 59, 60, 61, 62, 63, 64, 65, 66, 67, 68, 69, 70, 71, 72, 73, 74, 75, 76, 77, 78, 79, 80, 81, 82, 83, 84, 85, 86, 87, 88, 89, 90, 91, 92, 93, 94, 95, 96, 97, 98, 99, 100, 101, 102, 103, 104, 105, 106, 107, 108, 109, 110, 111, 112, 113, 114, 115, 116, 117, 118, 119, 120, 121, 122, 123, 124, 125, 126, 127, 128, 129, 130, 131, 132, 133, 134, 135, 136, 137, 138, 139, 140, 141, 142, 143, 155, 156, 157, 158, 159, 166, 167, 168, 169, 170, 171, 172, 173, 174, 175, 176, 177, 178, 160, 161, 162, 163, 164, 165, 179, 180, 181, 182, 183, 184] (by decide +kernel) (by decide +kernel)
set_option maxRecDepth 20000 in
theorem gX9_ofDie_X1_look : GoodIn wsX9_ofDie (wsV RX9 89 RX1 yX1_look wsX1_look) := goodIn_app (goodIn_of _ (by decide +kernel)) ggX9_ofDie_X1_look
set_option maxRecDepth 20000 in
theorem ggX9_ofDie_X1_fakesOfDie : GoodIn wsX9_ofDie wsX1_fakesOfDie := goodIn_r _ [147, 42, 43, 44, 113, 155, 156, 157, 158, 159, 166, 167, 168, 169, 170, 171, 172, 173, 174, 175, 176, 177, 178] (by decide +kernel) (by decide +kernel)
set_option maxRecDepth 20000 in
theorem gX9_ofDie_X1_fakesOfDie : GoodIn wsX9_ofDie (wsV RX9 174 RX1 yX1_fakesOfDie wsX1_fakesOfDie) := goodIn_app (goodIn_of _ (by decide +kernel)) ggX9_ofDie_X1_fakesOfDie
theorem dX9_ofDie_0 : decode cX9_ofDie 0 = .ok (.aload_n 0, 1) := by decide +kernel
theorem dX9_ofDie_1 : decode cX9_ofDie 1 = .ok (.getfield 41, 3) := by decide +kernel
theorem dX9_ofDie_4 : decode cX9_ofDie 4 = .ok (.getfield 102, 3) := by decide +kernel
theorem dX9_ofDie_7 : decode cX9_ofDie 7 = .ok (.iload_n 1, 1) := by decide +kernel
theorem dX9_ofDie_8 : decode cX9_ofDie 8 = .ok (.invokevirtual 155, 3) := by decide +kernel
theorem dX9_ofDie_11 : decode cX9_ofDie 11 = .ok (.invokestatic 141, 3) := by decide +kernel
theorem dX9_ofDie_14 : decode cX9_ofDie 14 = .ok (.iload_n 2, 1) := by decide +kernel
theorem dX9_ofDie_15 : decode cX9_ofDie 15 = .ok (.ifCond .lt 12, 3) := by decide +kernel
theorem dX9_ofDie_18 : decode cX9_ofDie 18 = .ok (.iload_n 2, 1) := by decide +kernel
theorem dX9_ofDie_19 : decode cX9_ofDie 19 = .ok (.iconst 5, 1) := by decide +kernel
theorem dX9_ofDie_20 : decode cX9_ofDie 20 = .ok (.if_icmp .gt 7, 3) := by decide +kernel
theorem dX9_ofDie_23 : decode cX9_ofDie 23 = .ok (.iconst 1, 1) := by decide +kernel
theorem dX9_ofDie_24 : decode cX9_ofDie 24 = .ok (.goto 4, 3) := by decide +kernel
theorem dX9_ofDie_27 : decode cX9_ofDie 27 = .ok (.iconst 0, 1) := by decide +kernel
theorem dX9_ofDie_28 : decode cX9_ofDie 28 = .ok (.invokestatic 48, 3) := by decide +kernel
theorem dX9_ofDie_31 : decode cX9_ofDie 31 = .ok (.iload_n 2, 1) := by decide +kernel
theorem dX9_ofDie_32 : decode cX9_ofDie 32 = .ok (.tableswitch 100 0 4 #[36, 49, 62, 75, 88], 36) := by decide +kernel
theorem dX9_ofDie_68 : decode cX9_ofDie 68 = .ok (.aload_n 0, 1) := by decide +kernel
theorem dX9_ofDie_69 : decode cX9_ofDie 69 = .ok (.getfield 41, 3) := by decide +kernel
theorem dX9_ofDie_72 : decode cX9_ofDie 72 = .ok (.getfield 102, 3) := by decide +kernel
theorem dX9_ofDie_75 : decode cX9_ofDie 75 = .ok (.getfield 159, 3) := by decide +kernel
theorem dX9_ofDie_78 : decode cX9_ofDie 78 = .ok (.iload_n 1, 1) := by decide +kernel
theorem dX9_ofDie_79 : decode cX9_ofDie 79 = .ok (.iaload, 1) := by decide +kernel
theorem dX9_ofDie_80 : decode cX9_ofDie 80 = .ok (.ireturn, 1) := by decide +kernel
theorem dX9_ofDie_81 : decode cX9_ofDie 81 = .ok (.aload_n 0, 1) := by decide +kernel
theorem dX9_ofDie_82 : decode cX9_ofDie 82 = .ok (.getfield 41, 3) := by decide +kernel
theorem dX9_ofDie_85 : decode cX9_ofDie 85 = .ok (.getfield 102, 3) := by decide +kernel
theorem dX9_ofDie_88 : decode cX9_ofDie 88 = .ok (.getfield 162, 3) := by decide +kernel
theorem dX9_ofDie_91 : decode cX9_ofDie 91 = .ok (.iload_n 1, 1) := by decide +kernel
theorem dX9_ofDie_92 : decode cX9_ofDie 92 = .ok (.iaload, 1) := by decide +kernel
theorem dX9_ofDie_93 : decode cX9_ofDie 93 = .ok (.ireturn, 1) := by decide +kernel
theorem dX9_ofDie_94 : decode cX9_ofDie 94 = .ok (.aload_n 0, 1) := by decide +kernel
theorem dX9_ofDie_95 : decode cX9_ofDie 95 = .ok (.getfield 41, 3) := by decide +kernel
theorem dX9_ofDie_98 : decode cX9_ofDie 98 = .ok (.getfield 102, 3) := by decide +kernel
theorem dX9_ofDie_101 : decode cX9_ofDie 101 = .ok (.getfield 165, 3) := by decide +kernel
theorem dX9_ofDie_104 : decode cX9_ofDie 104 = .ok (.iload_n 1, 1) := by decide +kernel
theorem dX9_ofDie_105 : decode cX9_ofDie 105 = .ok (.iaload, 1) := by decide +kernel
theorem dX9_ofDie_106 : decode cX9_ofDie 106 = .ok (.ireturn, 1) := by decide +kernel
theorem dX9_ofDie_107 : decode cX9_ofDie 107 = .ok (.aload_n 0, 1) := by decide +kernel
theorem dX9_ofDie_108 : decode cX9_ofDie 108 = .ok (.getfield 41, 3) := by decide +kernel
theorem dX9_ofDie_111 : decode cX9_ofDie 111 = .ok (.getfield 102, 3) := by decide +kernel
theorem dX9_ofDie_114 : decode cX9_ofDie 114 = .ok (.getfield 168, 3) := by decide +kernel
theorem dX9_ofDie_117 : decode cX9_ofDie 117 = .ok (.iload_n 1, 1) := by decide +kernel
theorem dX9_ofDie_118 : decode cX9_ofDie 118 = .ok (.iaload, 1) := by decide +kernel
theorem dX9_ofDie_119 : decode cX9_ofDie 119 = .ok (.ireturn, 1) := by decide +kernel
theorem dX9_ofDie_120 : decode cX9_ofDie 120 = .ok (.aload_n 0, 1) := by decide +kernel
theorem dX9_ofDie_121 : decode cX9_ofDie 121 = .ok (.getfield 41, 3) := by decide +kernel
theorem dX9_ofDie_124 : decode cX9_ofDie 124 = .ok (.getfield 109, 3) := by decide +kernel
theorem dX9_ofDie_127 : decode cX9_ofDie 127 = .ok (.iload_n 1, 1) := by decide +kernel
theorem dX9_ofDie_128 : decode cX9_ofDie 128 = .ok (.invokevirtual 171, 3) := by decide +kernel
theorem dX9_ofDie_131 : decode cX9_ofDie 131 = .ok (.ireturn, 1) := by decide +kernel
theorem dX9_ofDie_132 : decode cX9_ofDie 132 = .ok (.aload_n 0, 1) := by decide +kernel
theorem dX9_ofDie_133 : decode cX9_ofDie 133 = .ok (.getfield 19, 3) := by decide +kernel
theorem dX9_ofDie_136 : decode cX9_ofDie 136 = .ok (.aload_n 0, 1) := by decide +kernel
theorem dX9_ofDie_137 : decode cX9_ofDie 137 = .ok (.getfield 41, 3) := by decide +kernel
theorem dX9_ofDie_140 : decode cX9_ofDie 140 = .ok (.invokevirtual 89, 3) := by decide +kernel
theorem dX9_ofDie_143 : decode cX9_ofDie 143 = .ok (.aload_n 0, 1) := by decide +kernel
theorem dX9_ofDie_144 : decode cX9_ofDie 144 = .ok (.getfield 19, 3) := by decide +kernel
theorem dX9_ofDie_147 : decode cX9_ofDie 147 = .ok (.aload_n 0, 1) := by decide +kernel
theorem dX9_ofDie_148 : decode cX9_ofDie 148 = .ok (.getfield 41, 3) := by decide +kernel
theorem dX9_ofDie_151 : decode cX9_ofDie 151 = .ok (.iload_n 1, 1) := by decide +kernel
theorem dX9_ofDie_152 : decode cX9_ofDie 152 = .ok (.invokevirtual 174, 3) := by decide +kernel
theorem dX9_ofDie_155 : decode cX9_ofDie 155 = .ok (.ireturn, 1) := by decide +kernel
set_option maxRecDepth 20000 in
theorem ggX9_crackYear_X0_has : GoodIn wsX9_crackYear wsX0_has := goodIn_r _ [8, 9, 33, 34, 35, 36, 37, 38] (by decide +kernel) (by decide +kernel)
set_option maxRecDepth 20000 in
theorem gX9_crackYear_X0_has : GoodIn wsX9_crackYear (wsV RX9 155 RX0 yX0_has wsX0_has) := goodIn_app (goodIn_of _ (by decide +kernel)) ggX9_crackYear_X0_has
set_option maxRecDepth 20000 in
theorem ggX9_crackYear_X9_mustExist : GoodIn wsX9_crackYear wsX9_mustExist := goodIn_ca (goodIn_r _ [13, 14, 15] (by decide +kernel) (by decide +kernel)) (goodIn_sub (fun _ h => List.mem_cons_of_mem _ (List.mem_append_right _ h)) (by decide +kernel))
set_option maxRecDepth 20000 in
theorem gX9_crackYear_X9_mustExist : GoodIn wsX9_crackYear (va_wsS RX9 141 yX9_mustExist wsX9_mustExist) := goodIn_app (goodIn_of _ (by decide +kernel)) ggX9_crackYear_X9_mustExist
set_option maxRecDepth 20000 in
theorem ggX9_crackYear_X0_yearOfCrack : GoodIn wsX9_crackYear wsX0_yearOfCrack := goodIn_r _ [19, 20, 33, 34, 35, 36, 37, 38] (by decide +kernel) (by decide +kernel)
set_option maxRecDepth 20000 in
theorem gX9_crackYear_X0_yearOfCrack : GoodIn wsX9_crackYear (wsV RX9 178 RX0 yX0_yearOfCrack wsX0_yearOfCrack) := goodIn_app (goodIn_of _ (by decide +kernel)) ggX9_crackYear_X0_yearOfCrack
theorem dX9_crackYear_0 : decode cX9_crackYear 0 = .ok (.aload_n 0, 1) := by decide +kernel
theorem dX9_crackYear_1 : decode cX9_crackYear 1 = .ok (.getfield 41, 3) := by decide +kernel
theorem dX9_crackYear_4 : decode cX9_crackYear 4 = .ok (.getfield 102, 3) := by decide +kernel
theorem dX9_crackYear_7 : decode cX9_crackYear 7 = .ok (.iload_n 1, 1) := by decide +kernel
theorem dX9_crackYear_8 : decode cX9_crackYear 8 = .ok (.invokevirtual 155, 3) := by decide +kernel
theorem dX9_crackYear_11 : decode cX9_crackYear 11 = .ok (.invokestatic 141, 3) := by decide +kernel
theorem dX9_crackYear_14 : decode cX9_crackYear 14 = .ok (.iload_n 2, 1) := by decide +kernel
theorem dX9_crackYear_15 : decode cX9_crackYear 15 = .ok (.ifCond .lt 23, 3) := by decide +kernel
theorem dX9_crackYear_18 : decode cX9_crackYear 18 = .ok (.iload_n 2, 1) := by decide +kernel
theorem dX9_crackYear_19 : decode cX9_crackYear 19 = .ok (.aload_n 0, 1) := by decide +kernel
theorem dX9_crackYear_20 : decode cX9_crackYear 20 = .ok (.getfield 41, 3) := by decide +kernel
theorem dX9_crackYear_23 : decode cX9_crackYear 23 = .ok (.getfield 102, 3) := by decide +kernel
theorem dX9_crackYear_26 : decode cX9_crackYear 26 = .ok (.getfield 168, 3) := by decide +kernel
theorem dX9_crackYear_29 : decode cX9_crackYear 29 = .ok (.iload_n 1, 1) := by decide +kernel
theorem dX9_crackYear_30 : decode cX9_crackYear 30 = .ok (.iaload, 1) := by decide +kernel
theorem dX9_crackYear_31 : decode cX9_crackYear 31 = .ok (.if_icmp .ge 7, 3) := by decide +kernel
theorem dX9_crackYear_34 : decode cX9_crackYear 34 = .ok (.iconst 1, 1) := by decide +kernel
theorem dX9_crackYear_35 : decode cX9_crackYear 35 = .ok (.goto 4, 3) := by decide +kernel
theorem dX9_crackYear_38 : decode cX9_crackYear 38 = .ok (.iconst 0, 1) := by decide +kernel
theorem dX9_crackYear_39 : decode cX9_crackYear 39 = .ok (.invokestatic 141, 3) := by decide +kernel
theorem dX9_crackYear_42 : decode cX9_crackYear 42 = .ok (.aload_n 0, 1) := by decide +kernel
theorem dX9_crackYear_43 : decode cX9_crackYear 43 = .ok (.getfield 41, 3) := by decide +kernel
theorem dX9_crackYear_46 : decode cX9_crackYear 46 = .ok (.getfield 102, 3) := by decide +kernel
theorem dX9_crackYear_49 : decode cX9_crackYear 49 = .ok (.iload_n 1, 1) := by decide +kernel
theorem dX9_crackYear_50 : decode cX9_crackYear 50 = .ok (.iload_n 2, 1) := by decide +kernel
theorem dX9_crackYear_51 : decode cX9_crackYear 51 = .ok (.invokevirtual 178, 3) := by decide +kernel
theorem dX9_crackYear_54 : decode cX9_crackYear 54 = .ok (.ireturn, 1) := by decide +kernel
set_option maxRecDepth 20000 in
theorem ggX9_ofSeal_X4_has : GoodIn wsX9_ofSeal wsX4_has := goodIn_r _ [14, 15, 59, 60, 61, 62, 63, 64, 65] (by decide +kernel) (by decide +kernel)
set_option maxRecDepth 20000 in
theorem gX9_ofSeal_X4_has : GoodIn wsX9_ofSeal (wsV RX9 182 RX4 yX4_has wsX4_has) := goodIn_app (goodIn_of _ (by decide +kernel)) ggX9_ofSeal_X4_has
set_option maxRecDepth 20000 in
theorem ggX9_ofSeal_X9_mustExist : GoodIn wsX9_ofSeal wsX9_mustExist := goodIn_ca (goodIn_r _ [19, 20, 21] (by decide +kernel) (by decide +kernel)) (goodIn_sub (fun _ h => List.mem_cons_of_mem _ (List.mem_append_left _ (List.mem_append_right _ h))) (by decide +kernel))
set_option maxRecDepth 20000 in
theorem gX9_ofSeal_X9_mustExist : GoodIn wsX9_ofSeal (va_wsS RX9 141 yX9_mustExist wsX9_mustExist) := goodIn_app (goodIn_of _ (by decide +kernel)) ggX9_ofSeal_X9_mustExist
set_option maxRecDepth 20000 in
theorem ggX9_ofSeal_X9_mustFit : GoodIn wsX9_ofSeal wsX9_mustFit := goodIn_ca (goodIn_r _ [24, 25, 26] (by decide +kernel) (by decide +kernel)) (goodIn_sub (fun _ h => List.mem_cons_of_mem _ (List.mem_append_right _ h)) (by decide +kernel))
set_option maxRecDepth 20000 in
theorem gX9_ofSeal_X9_mustFit : GoodIn wsX9_ofSeal (va_wsS RX9 48 yX9_mustFit wsX9_mustFit) := goodIn_app (goodIn_of _ (by decide +kernel)) ggX9_ofSeal_X9_mustFit
set_option maxRecDepth 20000 in
theorem ggX9_ofSeal_X5_shelfOf : GoodIn wsX9_ofSeal wsX5_shelfOf := goodIn_r _ [31, 32, 33, 34, 30, 35, 36, 37, 38, 39, 40, 41, 66, 67] (by decide +kernel) (by decide +kernel)
set_option maxRecDepth 20000 in
theorem gX9_ofSeal_X5_shelfOf : GoodIn wsX9_ofSeal (wsV RX9 201 RX5 yX5_shelfOf wsX5_shelfOf) := goodIn_app (goodIn_of _ (by decide +kernel)) ggX9_ofSeal_X5_shelfOf
set_option maxRecDepth 20000 in
theorem ggX9_ofSeal_X5_placeOf : GoodIn wsX9_ofSeal wsX5_placeOf := goodIn_r _ [45, 46, 28, 29, 30, 31, 32, 33, 34, 35, 36, 37, 38, 39, 40, 41, 66, 67] (by decide +kernel) (by decide +kernel)
set_option maxRecDepth 20000 in
theorem gX9_ofSeal_X5_placeOf : GoodIn wsX9_ofSeal (wsV RX9 204 RX5 yX5_placeOf wsX5_placeOf) := goodIn_app (goodIn_of _ (by decide +kernel)) ggX9_ofSeal_X5_placeOf
theorem dX9_ofSeal_0 : decode cX9_ofSeal 0 = .ok (.aload_n 0, 1) := by decide +kernel
theorem dX9_ofSeal_1 : decode cX9_ofSeal 1 = .ok (.getfield 41, 3) := by decide +kernel
theorem dX9_ofSeal_4 : decode cX9_ofSeal 4 = .ok (.getfield 109, 3) := by decide +kernel
theorem dX9_ofSeal_7 : decode cX9_ofSeal 7 = .ok (.iload_n 1, 1) := by decide +kernel
theorem dX9_ofSeal_8 : decode cX9_ofSeal 8 = .ok (.invokevirtual 182, 3) := by decide +kernel
theorem dX9_ofSeal_11 : decode cX9_ofSeal 11 = .ok (.invokestatic 141, 3) := by decide +kernel
theorem dX9_ofSeal_14 : decode cX9_ofSeal 14 = .ok (.iload_n 2, 1) := by decide +kernel
theorem dX9_ofSeal_15 : decode cX9_ofSeal 15 = .ok (.ifCond .lt 13, 3) := by decide +kernel
theorem dX9_ofSeal_18 : decode cX9_ofSeal 18 = .ok (.iload_n 2, 1) := by decide +kernel
theorem dX9_ofSeal_19 : decode cX9_ofSeal 19 = .ok (.bipush 7, 2) := by decide +kernel
theorem dX9_ofSeal_21 : decode cX9_ofSeal 21 = .ok (.if_icmp .gt 7, 3) := by decide +kernel
theorem dX9_ofSeal_24 : decode cX9_ofSeal 24 = .ok (.iconst 1, 1) := by decide +kernel
theorem dX9_ofSeal_25 : decode cX9_ofSeal 25 = .ok (.goto 4, 3) := by decide +kernel
theorem dX9_ofSeal_28 : decode cX9_ofSeal 28 = .ok (.iconst 0, 1) := by decide +kernel
theorem dX9_ofSeal_29 : decode cX9_ofSeal 29 = .ok (.invokestatic 48, 3) := by decide +kernel
theorem dX9_ofSeal_32 : decode cX9_ofSeal 32 = .ok (.iload_n 2, 1) := by decide +kernel
theorem dX9_ofSeal_33 : decode cX9_ofSeal 33 = .ok (.tableswitch 133 0 6 #[43, 56, 69, 82, 95, 108, 121], 43) := by decide +kernel
theorem dX9_ofSeal_76 : decode cX9_ofSeal 76 = .ok (.aload_n 0, 1) := by decide +kernel
theorem dX9_ofSeal_77 : decode cX9_ofSeal 77 = .ok (.getfield 41, 3) := by decide +kernel
theorem dX9_ofSeal_80 : decode cX9_ofSeal 80 = .ok (.getfield 109, 3) := by decide +kernel
theorem dX9_ofSeal_83 : decode cX9_ofSeal 83 = .ok (.getfield 183, 3) := by decide +kernel
theorem dX9_ofSeal_86 : decode cX9_ofSeal 86 = .ok (.iload_n 1, 1) := by decide +kernel
theorem dX9_ofSeal_87 : decode cX9_ofSeal 87 = .ok (.iaload, 1) := by decide +kernel
theorem dX9_ofSeal_88 : decode cX9_ofSeal 88 = .ok (.ireturn, 1) := by decide +kernel
theorem dX9_ofSeal_89 : decode cX9_ofSeal 89 = .ok (.aload_n 0, 1) := by decide +kernel
theorem dX9_ofSeal_90 : decode cX9_ofSeal 90 = .ok (.getfield 41, 3) := by decide +kernel
theorem dX9_ofSeal_93 : decode cX9_ofSeal 93 = .ok (.getfield 109, 3) := by decide +kernel
theorem dX9_ofSeal_96 : decode cX9_ofSeal 96 = .ok (.getfield 186, 3) := by decide +kernel
theorem dX9_ofSeal_99 : decode cX9_ofSeal 99 = .ok (.iload_n 1, 1) := by decide +kernel
theorem dX9_ofSeal_100 : decode cX9_ofSeal 100 = .ok (.iaload, 1) := by decide +kernel
theorem dX9_ofSeal_101 : decode cX9_ofSeal 101 = .ok (.ireturn, 1) := by decide +kernel
theorem dX9_ofSeal_102 : decode cX9_ofSeal 102 = .ok (.aload_n 0, 1) := by decide +kernel
theorem dX9_ofSeal_103 : decode cX9_ofSeal 103 = .ok (.getfield 41, 3) := by decide +kernel
theorem dX9_ofSeal_106 : decode cX9_ofSeal 106 = .ok (.getfield 109, 3) := by decide +kernel
theorem dX9_ofSeal_109 : decode cX9_ofSeal 109 = .ok (.getfield 189, 3) := by decide +kernel
theorem dX9_ofSeal_112 : decode cX9_ofSeal 112 = .ok (.iload_n 1, 1) := by decide +kernel
theorem dX9_ofSeal_113 : decode cX9_ofSeal 113 = .ok (.iaload, 1) := by decide +kernel
theorem dX9_ofSeal_114 : decode cX9_ofSeal 114 = .ok (.ireturn, 1) := by decide +kernel
theorem dX9_ofSeal_115 : decode cX9_ofSeal 115 = .ok (.aload_n 0, 1) := by decide +kernel
theorem dX9_ofSeal_116 : decode cX9_ofSeal 116 = .ok (.getfield 41, 3) := by decide +kernel
theorem dX9_ofSeal_119 : decode cX9_ofSeal 119 = .ok (.getfield 109, 3) := by decide +kernel
theorem dX9_ofSeal_122 : decode cX9_ofSeal 122 = .ok (.getfield 192, 3) := by decide +kernel
theorem dX9_ofSeal_125 : decode cX9_ofSeal 125 = .ok (.iload_n 1, 1) := by decide +kernel
theorem dX9_ofSeal_126 : decode cX9_ofSeal 126 = .ok (.iaload, 1) := by decide +kernel
theorem dX9_ofSeal_127 : decode cX9_ofSeal 127 = .ok (.ireturn, 1) := by decide +kernel
theorem dX9_ofSeal_128 : decode cX9_ofSeal 128 = .ok (.aload_n 0, 1) := by decide +kernel
theorem dX9_ofSeal_129 : decode cX9_ofSeal 129 = .ok (.getfield 41, 3) := by decide +kernel
theorem dX9_ofSeal_132 : decode cX9_ofSeal 132 = .ok (.getfield 109, 3) := by decide +kernel
theorem dX9_ofSeal_135 : decode cX9_ofSeal 135 = .ok (.getfield 195, 3) := by decide +kernel
theorem dX9_ofSeal_138 : decode cX9_ofSeal 138 = .ok (.iload_n 1, 1) := by decide +kernel
theorem dX9_ofSeal_139 : decode cX9_ofSeal 139 = .ok (.iaload, 1) := by decide +kernel
theorem dX9_ofSeal_140 : decode cX9_ofSeal 140 = .ok (.ireturn, 1) := by decide +kernel
theorem dX9_ofSeal_141 : decode cX9_ofSeal 141 = .ok (.aload_n 0, 1) := by decide +kernel
theorem dX9_ofSeal_142 : decode cX9_ofSeal 142 = .ok (.getfield 41, 3) := by decide +kernel
theorem dX9_ofSeal_145 : decode cX9_ofSeal 145 = .ok (.getfield 109, 3) := by decide +kernel
theorem dX9_ofSeal_148 : decode cX9_ofSeal 148 = .ok (.getfield 198, 3) := by decide +kernel
theorem dX9_ofSeal_151 : decode cX9_ofSeal 151 = .ok (.iload_n 1, 1) := by decide +kernel
theorem dX9_ofSeal_152 : decode cX9_ofSeal 152 = .ok (.iaload, 1) := by decide +kernel
theorem dX9_ofSeal_153 : decode cX9_ofSeal 153 = .ok (.ireturn, 1) := by decide +kernel
theorem dX9_ofSeal_154 : decode cX9_ofSeal 154 = .ok (.aload_n 0, 1) := by decide +kernel
theorem dX9_ofSeal_155 : decode cX9_ofSeal 155 = .ok (.getfield 41, 3) := by decide +kernel
theorem dX9_ofSeal_158 : decode cX9_ofSeal 158 = .ok (.getfield 129, 3) := by decide +kernel
theorem dX9_ofSeal_161 : decode cX9_ofSeal 161 = .ok (.iload_n 1, 1) := by decide +kernel
theorem dX9_ofSeal_162 : decode cX9_ofSeal 162 = .ok (.invokevirtual 201, 3) := by decide +kernel
theorem dX9_ofSeal_165 : decode cX9_ofSeal 165 = .ok (.ireturn, 1) := by decide +kernel
theorem dX9_ofSeal_166 : decode cX9_ofSeal 166 = .ok (.aload_n 0, 1) := by decide +kernel
theorem dX9_ofSeal_167 : decode cX9_ofSeal 167 = .ok (.getfield 41, 3) := by decide +kernel
theorem dX9_ofSeal_170 : decode cX9_ofSeal 170 = .ok (.getfield 129, 3) := by decide +kernel
theorem dX9_ofSeal_173 : decode cX9_ofSeal 173 = .ok (.iload_n 1, 1) := by decide +kernel
theorem dX9_ofSeal_174 : decode cX9_ofSeal 174 = .ok (.invokevirtual 204, 3) := by decide +kernel
theorem dX9_ofSeal_177 : decode cX9_ofSeal 177 = .ok (.ireturn, 1) := by decide +kernel
set_option maxRecDepth 20000 in
theorem ggX9_dated_X4_has : GoodIn wsX9_dated wsX4_has := goodIn_r _ [12, 13, 163, 164, 165, 166, 167, 168, 169] (by decide +kernel) (by decide +kernel)
set_option maxRecDepth 20000 in
theorem gX9_dated_X4_has : GoodIn wsX9_dated (wsV RX9 182 RX4 yX4_has wsX4_has) := goodIn_app (goodIn_of _ (by decide +kernel)) ggX9_dated_X4_has
set_option maxRecDepth 20000 in
theorem ggX9_dated_X9_mustExist : GoodIn wsX9_dated wsX9_mustExist := goodIn_ca (goodIn_r _ [17, 18, 19] (by decide +kernel) (by decide +kernel)) (goodIn_sub (fun _ h => List.mem_cons_of_mem _ (List.mem_append_left _ (List.mem_append_right _ h))) (by decide +kernel))
set_option maxRecDepth 20000 in
theorem gX9_dated_X9_mustExist : GoodIn wsX9_dated (va_wsS RX9 141 yX9_mustExist wsX9_mustExist) := goodIn_app (goodIn_of _ (by decide +kernel)) ggX9_dated_X9_mustExist
set_option maxRecDepth 20000 in
theorem ggX9_dated_X9_mustFit : GoodIn wsX9_dated wsX9_mustFit := goodIn_ca (goodIn_r _ [22, 23, 24] (by decide +kernel) (by decide +kernel)) (goodIn_sub (fun _ h => List.mem_cons_of_mem _ (List.mem_append_right _ h)) (by decide +kernel))
set_option maxRecDepth 20000 in
theorem gX9_dated_X9_mustFit : GoodIn wsX9_dated (va_wsS RX9 48 yX9_mustFit wsX9_mustFit) := goodIn_app (goodIn_of _ (by decide +kernel)) ggX9_dated_X9_mustFit
set_option maxRecDepth 20000 in
theorem ggX9_dated_X1_look : GoodIn wsX9_dated wsX1_look := goodIn_r _ [29, 30, 31, 32, 28, 33, 34, 35, 36, 37, 38, 39, 40, 41, 42, 43, 44, 45, 46, 47, 48, 49, 50, 51, 52, 53, 54, 55, 56, 57, 58, 59, 60, 61, 62, 63, 64, 65, 66, 67, 68, 69, 70, 71, 72, 73, 74, 75, 76, 77, 78, 79, 80, 81, 82, 83, 84, 85, 86, 87, 88, 89, 90, 91, 92, 93, 94, 95, 96, 97, 98, 99, 100, 101, 102, 103, 104, 105, 106, 107, 108, 109, 110, 111, 112, 113, 114, 115, 116, 117, 118, 119, 120, 121, 122, 123, 124, 125, 126, 127, 128, 129, 130, 131, 132, 133, 134, 135, 136, 152, 153, 154, 155, 156, 163, 164, 165, 166, 167, 168, 169, 157, 158, 159, 160, 161, 162, 170, 171, 172, 173, 174, 175, 176, 177, 178, 179, 180, 181] (by decide +kernel) (by decide +kernel)
set_option maxRecDepth 20000 in
theorem gX9_dated_X1_look : GoodIn wsX9_dated (wsV RX9 89 RX1 yX1_look wsX1_look) := goodIn_app (goodIn_of _ (by decide +kernel)) ggX9_dated_X1_look
set_option maxRecDepth 20000 in
theorem ggX9_dated_X8_last : GoodIn wsX9_dated wsX8_last := goodIn_r _ [140, 86, 80, 88, 65, 52, 66, 79, 87, 51, 53, 98, 99, 100, 70, 101, 72, 93, 94, 95, 96, 77, 97, 81, 89, 90, 91, 92, 176, 177, 178, 179, 180, 181] (by decide +kernel) (by decide +kernel)
set_option maxRecDepth 20000 in
theorem gX9_dated_X8_last : GoodIn wsX9_dated (wsV RX9 214 RX8 yX8_last wsX8_last) := goodIn_app (goodIn_of _ (by decide +kernel)) ggX9_dated_X8_last
set_option maxRecDepth 20000 in
theorem ggX9_dated_X8_count : GoodIn wsX9_dated wsX8_count := goodIn_r _ [144, 86, 79, 87, 51, 52, 53, 80, 88, 65, 66, 89, 90, 91, 70, 92, 93, 98, 99, 100, 101, 72, 94, 95, 96, 77, 97, 81, 176, 177, 178, 179, 180, 181] (by decide +kernel) (by decide +kernel)
set_option maxRecDepth 20000 in
theorem gX9_dated_X8_count : GoodIn wsX9_dated (wsV RX9 220 RX8 yX8_count wsX8_count) := goodIn_app (goodIn_of _ (by decide +kernel)) ggX9_dated_X8_count
theorem dX9_dated_0 : decode cX9_dated 0 = .ok (.aload_n 0, 1) := by decide +kernel
theorem dX9_dated_1 : decode cX9_dated 1 = .ok (.getfield 41, 3) := by decide +kernel
theorem dX9_dated_4 : decode cX9_dated 4 = .ok (.getfield 109, 3) := by decide +kernel
theorem dX9_dated_7 : decode cX9_dated 7 = .ok (.iload_n 1, 1) := by decide +kernel
theorem dX9_dated_8 : decode cX9_dated 8 = .ok (.invokevirtual 182, 3) := by decide +kernel
theorem dX9_dated_11 : decode cX9_dated 11 = .ok (.invokestatic 141, 3) := by decide +kernel
theorem dX9_dated_14 : decode cX9_dated 14 = .ok (.iload_n 2, 1) := by decide +kernel
theorem dX9_dated_15 : decode cX9_dated 15 = .ok (.ifCond .lt 12, 3) := by decide +kernel
theorem dX9_dated_18 : decode cX9_dated 18 = .ok (.iload_n 2, 1) := by decide +kernel
theorem dX9_dated_19 : decode cX9_dated 19 = .ok (.iconst 3, 1) := by decide +kernel
theorem dX9_dated_20 : decode cX9_dated 20 = .ok (.if_icmp .gt 7, 3) := by decide +kernel
theorem dX9_dated_23 : decode cX9_dated 23 = .ok (.iconst 1, 1) := by decide +kernel
theorem dX9_dated_24 : decode cX9_dated 24 = .ok (.goto 4, 3) := by decide +kernel
theorem dX9_dated_27 : decode cX9_dated 27 = .ok (.iconst 0, 1) := by decide +kernel
theorem dX9_dated_28 : decode cX9_dated 28 = .ok (.invokestatic 48, 3) := by decide +kernel
theorem dX9_dated_31 : decode cX9_dated 31 = .ok (.aload_n 0, 1) := by decide +kernel
theorem dX9_dated_32 : decode cX9_dated 32 = .ok (.getfield 19, 3) := by decide +kernel
theorem dX9_dated_35 : decode cX9_dated 35 = .ok (.aload_n 0, 1) := by decide +kernel
theorem dX9_dated_36 : decode cX9_dated 36 = .ok (.getfield 41, 3) := by decide +kernel
theorem dX9_dated_39 : decode cX9_dated 39 = .ok (.invokevirtual 89, 3) := by decide +kernel
theorem dX9_dated_42 : decode cX9_dated 42 = .ok (.iload_n 2, 1) := by decide +kernel
theorem dX9_dated_43 : decode cX9_dated 43 = .ok (.tableswitch 75 0 2 #[25, 35, 55], 25) := by decide +kernel
theorem dX9_dated_68 : decode cX9_dated 68 = .ok (.aload_n 0, 1) := by decide +kernel
theorem dX9_dated_69 : decode cX9_dated 69 = .ok (.getfield 19, 3) := by decide +kernel
theorem dX9_dated_72 : decode cX9_dated 72 = .ok (.getfield 207, 3) := by decide +kernel
theorem dX9_dated_75 : decode cX9_dated 75 = .ok (.iload_n 1, 1) := by decide +kernel
theorem dX9_dated_76 : decode cX9_dated 76 = .ok (.iaload, 1) := by decide +kernel
theorem dX9_dated_77 : decode cX9_dated 77 = .ok (.ireturn, 1) := by decide +kernel
theorem dX9_dated_78 : decode cX9_dated 78 = .ok (.aload_n 0, 1) := by decide +kernel
theorem dX9_dated_79 : decode cX9_dated 79 = .ok (.getfield 19, 3) := by decide +kernel
theorem dX9_dated_82 : decode cX9_dated 82 = .ok (.getfield 210, 3) := by decide +kernel
theorem dX9_dated_85 : decode cX9_dated 85 = .ok (.iload_n 1, 1) := by decide +kernel
theorem dX9_dated_86 : decode cX9_dated 86 = .ok (.aaload, 1) := by decide +kernel
theorem dX9_dated_87 : decode cX9_dated 87 = .ok (.aload_n 0, 1) := by decide +kernel
theorem dX9_dated_88 : decode cX9_dated 88 = .ok (.getfield 41, 3) := by decide +kernel
theorem dX9_dated_91 : decode cX9_dated 91 = .ok (.getfield 93, 3) := by decide +kernel
theorem dX9_dated_94 : decode cX9_dated 94 = .ok (.invokevirtual 214, 3) := by decide +kernel
theorem dX9_dated_97 : decode cX9_dated 97 = .ok (.ireturn, 1) := by decide +kernel
theorem dX9_dated_98 : decode cX9_dated 98 = .ok (.aload_n 0, 1) := by decide +kernel
theorem dX9_dated_99 : decode cX9_dated 99 = .ok (.getfield 19, 3) := by decide +kernel
theorem dX9_dated_102 : decode cX9_dated 102 = .ok (.getfield 210, 3) := by decide +kernel
theorem dX9_dated_105 : decode cX9_dated 105 = .ok (.iload_n 1, 1) := by decide +kernel
theorem dX9_dated_106 : decode cX9_dated 106 = .ok (.aaload, 1) := by decide +kernel
theorem dX9_dated_107 : decode cX9_dated 107 = .ok (.aload_n 0, 1) := by decide +kernel
theorem dX9_dated_108 : decode cX9_dated 108 = .ok (.getfield 41, 3) := by decide +kernel
theorem dX9_dated_111 : decode cX9_dated 111 = .ok (.getfield 93, 3) := by decide +kernel
theorem dX9_dated_114 : decode cX9_dated 114 = .ok (.invokevirtual 220, 3) := by decide +kernel
theorem dX9_dated_117 : decode cX9_dated 117 = .ok (.ireturn, 1) := by decide +kernel
theorem dX9_dated_118 : decode cX9_dated 118 = .ok (.aload_n 0, 1) := by decide +kernel
theorem dX9_dated_119 : decode cX9_dated 119 = .ok (.getfield 19, 3) := by decide +kernel
theorem dX9_dated_122 : decode cX9_dated 122 = .ok (.getfield 222, 3) := by decide +kernel
theorem dX9_dated_125 : decode cX9_dated 125 = .ok (.iload_n 1, 1) := by decide +kernel
theorem dX9_dated_126 : decode cX9_dated 126 = .ok (.iaload, 1) := by decide +kernel
theorem dX9_dated_127 : decode cX9_dated 127 = .ok (.ireturn, 1) := by decide +kernel
set_option maxRecDepth 20000 in
theorem ggX9_isPossible_X4_has : GoodIn wsX9_isPossible wsX4_has := goodIn_r _ [10, 11, 164, 165, 166, 167, 168, 169, 170] (by decide +kernel) (by decide +kernel)
set_option maxRecDepth 20000 in
theorem gX9_isPossible_X4_has : GoodIn wsX9_isPossible (wsV RX9 182 RX4 yX4_has wsX4_has) := goodIn_app (goodIn_of _ (by decide +kernel)) ggX9_isPossible_X4_has
set_option maxRecDepth 20000 in
theorem ggX9_isPossible_X9_mustExist : GoodIn wsX9_isPossible wsX9_mustExist := goodIn_ca (goodIn_r _ [15, 16, 17] (by decide +kernel) (by decide +kernel)) (goodIn_sub (fun _ h => List.mem_cons_of_mem _ (List.mem_append_left _ (List.mem_append_right _ h))) (by decide +kernel))
set_option maxRecDepth 20000 in
theorem gX9_isPossible_X9_mustExist : GoodIn wsX9_isPossible (va_wsS RX9 141 yX9_mustExist wsX9_mustExist) := goodIn_app (goodIn_of _ (by decide +kernel)) ggX9_isPossible_X9_mustExist
set_option maxRecDepth 20000 in
theorem ggX9_isPossible_X9_isYear : GoodIn wsX9_isPossible wsX9_isYear := goodIn_r _ [20] (by decide +kernel) (by decide +kernel)
set_option maxRecDepth 20000 in
theorem gX9_isPossible_X9_isYear : GoodIn wsX9_isPossible (va_wsS RX9 225 yX9_isYear wsX9_isYear) := goodIn_app (goodIn_of _ (by decide +kernel)) ggX9_isPossible_X9_isYear
set_option maxRecDepth 20000 in
theorem ggX9_isPossible_X9_mustFit : GoodIn wsX9_isPossible wsX9_mustFit := goodIn_ca (goodIn_r _ [23, 24, 25] (by decide +kernel) (by decide +kernel)) (goodIn_sub (fun _ h => List.mem_cons_of_mem _ (List.mem_append_right _ h)) (by decide +kernel))
set_option maxRecDepth 20000 in
theorem gX9_isPossible_X9_mustFit : GoodIn wsX9_isPossible (va_wsS RX9 48 yX9_mustFit wsX9_mustFit) := goodIn_app (goodIn_of _ (by decide +kernel)) ggX9_isPossible_X9_mustFit
set_option maxRecDepth 20000 in
theorem ggX9_isPossible_X1_look : GoodIn wsX9_isPossible wsX1_look := goodIn_r _ [30, 31, 32, 33, 29, 34, 35, 36, 37, 38, 39, 40, 41, 42, 43, 44, 45, 46, 47, 48, 49, 50, 51, 52, 53, 54, 55, 56, 57, 58, 59, 60, 61, 62, 63, 64, 65, 66, 67, 68, 69, 70, 71, 72, 73, 74, 75, 76, 77, 78, 79, 80, 81, 82, 83, 84, 85, 86, 87, 88, 89, 90, 91, 92, 93, 94, 95, 96, 97, 98, 99, 100, 101, 102, 103, 104, 105, 106, 107, 108, 109, 110, 111, 112, 113, 114, 115, 116, 117, 118, 119, 120, 121, 122, 123, 124, 125, 126, 127, 128, 129, 130, 131, 132, 133, 134, 135, 136, 137, 153, 154, 155, 156, 157, 164, 165, 166, 167, 168, 169, 170, 158, 159, 160, 161, 162, 163, 171, 172, 173, 174, 175, 176, 177, 178, 179, 180, 181, 182] (by decide +kernel) (by decide +kernel)
set_option maxRecDepth 20000 in
theorem gX9_isPossible_X1_look : GoodIn wsX9_isPossible (wsV RX9 89 RX1 yX1_look wsX1_look) := goodIn_app (goodIn_of _ (by decide +kernel)) ggX9_isPossible_X1_look
set_option maxRecDepth 20000 in
theorem ggX9_isPossible_X8_contains : GoodIn wsX9_isPossible wsX8_contains := goodIn_r _ [141, 80, 81, 142, 143, 144, 71, 145, 73, 94, 95, 96, 97, 78, 98, 82, 180, 181, 182, 177, 178, 179] (by decide +kernel) (by decide +kernel)
set_option maxRecDepth 20000 in
theorem gX9_isPossible_X8_contains : GoodIn wsX9_isPossible (wsV RX9 228 RX8 yX8_contains wsX8_contains) := goodIn_app (goodIn_of _ (by decide +kernel)) ggX9_isPossible_X8_contains
theorem dX9_isPossible_0 : decode cX9_isPossible 0 = .ok (.aload_n 0, 1) := by decide +kernel
theorem dX9_isPossible_1 : decode cX9_isPossible 1 = .ok (.getfield 41, 3) := by decide +kernel
theorem dX9_isPossible_4 : decode cX9_isPossible 4 = .ok (.getfield 109, 3) := by decide +kernel
theorem dX9_isPossible_7 : decode cX9_isPossible 7 = .ok (.iload_n 1, 1) := by decide +kernel
theorem dX9_isPossible_8 : decode cX9_isPossible 8 = .ok (.invokevirtual 182, 3) := by decide +kernel
theorem dX9_isPossible_11 : decode cX9_isPossible 11 = .ok (.invokestatic 141, 3) := by decide +kernel
theorem dX9_isPossible_14 : decode cX9_isPossible 14 = .ok (.iload_n 2, 1) := by decide +kernel
theorem dX9_isPossible_15 : decode cX9_isPossible 15 = .ok (.invokestatic 225, 3) := by decide +kernel
theorem dX9_isPossible_18 : decode cX9_isPossible 18 = .ok (.invokestatic 48, 3) := by decide +kernel
theorem dX9_isPossible_21 : decode cX9_isPossible 21 = .ok (.aload_n 0, 1) := by decide +kernel
theorem dX9_isPossible_22 : decode cX9_isPossible 22 = .ok (.getfield 19, 3) := by decide +kernel
theorem dX9_isPossible_25 : decode cX9_isPossible 25 = .ok (.aload_n 0, 1) := by decide +kernel
theorem dX9_isPossible_26 : decode cX9_isPossible 26 = .ok (.getfield 41, 3) := by decide +kernel
theorem dX9_isPossible_29 : decode cX9_isPossible 29 = .ok (.invokevirtual 89, 3) := by decide +kernel
theorem dX9_isPossible_32 : decode cX9_isPossible 32 = .ok (.aload_n 0, 1) := by decide +kernel
theorem dX9_isPossible_33 : decode cX9_isPossible 33 = .ok (.getfield 19, 3) := by decide +kernel
theorem dX9_isPossible_36 : decode cX9_isPossible 36 = .ok (.getfield 210, 3) := by decide +kernel
theorem dX9_isPossible_39 : decode cX9_isPossible 39 = .ok (.iload_n 1, 1) := by decide +kernel
theorem dX9_isPossible_40 : decode cX9_isPossible 40 = .ok (.aaload, 1) := by decide +kernel
theorem dX9_isPossible_41 : decode cX9_isPossible 41 = .ok (.aload_n 0, 1) := by decide +kernel
theorem dX9_isPossible_42 : decode cX9_isPossible 42 = .ok (.getfield 41, 3) := by decide +kernel
theorem dX9_isPossible_45 : decode cX9_isPossible 45 = .ok (.getfield 93, 3) := by decide +kernel
theorem dX9_isPossible_48 : decode cX9_isPossible 48 = .ok (.iload_n 2, 1) := by decide +kernel
theorem dX9_isPossible_49 : decode cX9_isPossible 49 = .ok (.invokevirtual 228, 3) := by decide +kernel
theorem dX9_isPossible_52 : decode cX9_isPossible 52 = .ok (.ireturn, 1) := by decide +kernel
set_option maxRecDepth 20000 in
theorem ggX9_charter_X9_isCharter : GoodIn wsX9_charter wsX9_isCharter := goodIn_r _ [9] (by decide +kernel) (by decide +kernel)
set_option maxRecDepth 20000 in
theorem gX9_charter_X9_isCharter : GoodIn wsX9_charter (va_wsS RX9 232 yX9_isCharter wsX9_isCharter) := goodIn_app (goodIn_of _ (by decide +kernel)) ggX9_charter_X9_isCharter
set_option maxRecDepth 20000 in
theorem ggX9_charter_X9_mustExist : GoodIn wsX9_charter wsX9_mustExist := goodIn_ca (goodIn_r _ [12, 13, 14] (by decide +kernel) (by decide +kernel)) (goodIn_sub (fun _ h => List.mem_cons_of_mem _ (List.mem_append_left _ (List.mem_append_right _ h))) (by decide +kernel))
set_option maxRecDepth 20000 in
theorem gX9_charter_X9_mustExist : GoodIn wsX9_charter (va_wsS RX9 141 yX9_mustExist wsX9_mustExist) := goodIn_app (goodIn_of _ (by decide +kernel)) ggX9_charter_X9_mustExist
set_option maxRecDepth 20000 in
theorem ggX9_charter_X9_mustFit : GoodIn wsX9_charter wsX9_mustFit := goodIn_ca (goodIn_r _ [17, 18, 19] (by decide +kernel) (by decide +kernel)) (goodIn_sub (fun _ h => List.mem_cons_of_mem _ (List.mem_append_right _ h)) (by decide +kernel))
set_option maxRecDepth 20000 in
theorem gX9_charter_X9_mustFit : GoodIn wsX9_charter (va_wsS RX9 48 yX9_mustFit wsX9_mustFit) := goodIn_app (goodIn_of _ (by decide +kernel)) ggX9_charter_X9_mustFit
set_option maxRecDepth 20000 in
theorem ggX9_charter_X1_look : GoodIn wsX9_charter wsX1_look := goodIn_r _ [24, 25, 26, 27, 23, 28, 29, 30, 31, 32, 33, 34, 35, 36, 37, 38, 39, 40, 41, 42, 43, 44, 45, 46, 47, 48, 49, 50, 51, 52, 53, 54, 55, 56, 57, 58, 59, 60, 61, 62, 63, 64, 65, 66, 67, 68, 69, 70, 71, 72, 73, 74, 75, 76, 77, 78, 79, 80, 81, 82, 83, 84, 85, 86, 87, 88, 89, 90, 91, 92, 93, 94, 95, 96, 97, 98, 99, 100, 101, 102, 103, 104, 105, 106, 107, 108, 109, 110, 111, 112, 113, 114, 115, 116, 117, 118, 119, 120, 121, 122, 123, 124, 125, 126, 127, 128, 129, 130, 131, 159, 160, 161, 162, 163, 170, 171, 172, 173, 174, 175, 176, 164, 165, 166, 167, 168, 169, 177, 178, 179, 180, 181, 182, 183, 184, 185, 186, 187, 188] (by decide +kernel) (by decide +kernel)
set_option maxRecDepth 20000 in
theorem gX9_charter_X1_look : GoodIn wsX9_charter (wsV RX9 89 RX1 yX1_look wsX1_look) := goodIn_app (goodIn_of _ (by decide +kernel)) ggX9_charter_X1_look
set_option maxRecDepth 20000 in
theorem ggX9_charter_X4_ofOneCharter : GoodIn wsX9_charter wsX4_ofOneCharter := goodIn_r _ [136, 137, 138, 170, 171, 172, 173, 174, 175, 176] (by decide +kernel) (by decide +kernel)
set_option maxRecDepth 20000 in
theorem gX9_charter_X4_ofOneCharter : GoodIn wsX9_charter (wsV RX9 235 RX4 yX4_ofOneCharter wsX4_ofOneCharter) := goodIn_app (goodIn_of _ (by decide +kernel)) ggX9_charter_X4_ofOneCharter
set_option maxRecDepth 20000 in
theorem ggX9_charter_X8_first : GoodIn wsX9_charter wsX8_first := goodIn_r _ [80, 81, 74, 82, 46, 47, 48, 75, 83, 60, 61, 84, 85, 86, 65, 87, 88, 89, 90, 91, 72, 92, 76, 93, 94, 95, 96, 67, 183, 184, 185, 186, 187, 188] (by decide +kernel) (by decide +kernel)
set_option maxRecDepth 20000 in
theorem gX9_charter_X8_first : GoodIn wsX9_charter (wsV RX9 241 RX8 yX8_first wsX8_first) := goodIn_app (goodIn_of _ (by decide +kernel)) ggX9_charter_X8_first
set_option maxRecDepth 20000 in
theorem ggX9_charter_X8_last : GoodIn wsX9_charter wsX8_last := goodIn_r _ [143, 81, 75, 83, 60, 47, 61, 74, 82, 46, 48, 93, 94, 95, 65, 96, 67, 88, 89, 90, 91, 72, 92, 76, 84, 85, 86, 87, 183, 184, 185, 186, 187, 188] (by decide +kernel) (by decide +kernel)
set_option maxRecDepth 20000 in
theorem gX9_charter_X8_last : GoodIn wsX9_charter (wsV RX9 214 RX8 yX8_last wsX8_last) := goodIn_app (goodIn_of _ (by decide +kernel)) ggX9_charter_X8_last
set_option maxRecDepth 20000 in
theorem ggX9_charter_X8_count : GoodIn wsX9_charter wsX8_count := goodIn_r _ [147, 81, 74, 82, 46, 47, 48, 75, 83, 60, 61, 84, 85, 86, 65, 87, 88, 93, 94, 95, 96, 67, 89, 90, 91, 72, 92, 76, 183, 184, 185, 186, 187, 188] (by decide +kernel) (by decide +kernel)
set_option maxRecDepth 20000 in
theorem gX9_charter_X8_count : GoodIn wsX9_charter (wsV RX9 220 RX8 yX8_count wsX8_count) := goodIn_app (goodIn_of _ (by decide +kernel)) ggX9_charter_X8_count
set_option maxRecDepth 20000 in
theorem ggX9_charter_X1_fakesOfCharter : GoodIn wsX9_charter wsX1_fakesOfCharter := goodIn_r _ [151, 29, 30, 119, 101, 159, 160, 161, 162, 163, 170, 171, 172, 173, 174, 175, 176, 164, 165, 166, 167, 168, 169] (by decide +kernel) (by decide +kernel)
set_option maxRecDepth 20000 in
theorem gX9_charter_X1_fakesOfCharter : GoodIn wsX9_charter (wsV RX9 243 RX1 yX1_fakesOfCharter wsX1_fakesOfCharter) := goodIn_app (goodIn_of _ (by decide +kernel)) ggX9_charter_X1_fakesOfCharter
theorem dX9_charter_0 : decode cX9_charter 0 = .ok (.iload_n 1, 1) := by decide +kernel
theorem dX9_charter_1 : decode cX9_charter 1 = .ok (.invokestatic 232, 3) := by decide +kernel
theorem dX9_charter_4 : decode cX9_charter 4 = .ok (.invokestatic 141, 3) := by decide +kernel
theorem dX9_charter_7 : decode cX9_charter 7 = .ok (.iload_n 2, 1) := by decide +kernel
theorem dX9_charter_8 : decode cX9_charter 8 = .ok (.ifCond .lt 12, 3) := by decide +kernel
theorem dX9_charter_11 : decode cX9_charter 11 = .ok (.iload_n 2, 1) := by decide +kernel
theorem dX9_charter_12 : decode cX9_charter 12 = .ok (.iconst 4, 1) := by decide +kernel
theorem dX9_charter_13 : decode cX9_charter 13 = .ok (.if_icmp .gt 7, 3) := by decide +kernel
theorem dX9_charter_16 : decode cX9_charter 16 = .ok (.iconst 1, 1) := by decide +kernel
theorem dX9_charter_17 : decode cX9_charter 17 = .ok (.goto 4, 3) := by decide +kernel
theorem dX9_charter_20 : decode cX9_charter 20 = .ok (.iconst 0, 1) := by decide +kernel
theorem dX9_charter_21 : decode cX9_charter 21 = .ok (.invokestatic 48, 3) := by decide +kernel
theorem dX9_charter_24 : decode cX9_charter 24 = .ok (.aload_n 0, 1) := by decide +kernel
theorem dX9_charter_25 : decode cX9_charter 25 = .ok (.getfield 19, 3) := by decide +kernel
theorem dX9_charter_28 : decode cX9_charter 28 = .ok (.aload_n 0, 1) := by decide +kernel
theorem dX9_charter_29 : decode cX9_charter 29 = .ok (.getfield 41, 3) := by decide +kernel
theorem dX9_charter_32 : decode cX9_charter 32 = .ok (.invokevirtual 89, 3) := by decide +kernel
theorem dX9_charter_35 : decode cX9_charter 35 = .ok (.iload_n 2, 1) := by decide +kernel
theorem dX9_charter_36 : decode cX9_charter 36 = .ok (.tableswitch 104 0 3 #[32, 44, 64, 84], 32) := by decide +kernel
theorem dX9_charter_68 : decode cX9_charter 68 = .ok (.aload_n 0, 1) := by decide +kernel
theorem dX9_charter_69 : decode cX9_charter 69 = .ok (.getfield 41, 3) := by decide +kernel
theorem dX9_charter_72 : decode cX9_charter 72 = .ok (.getfield 109, 3) := by decide +kernel
theorem dX9_charter_75 : decode cX9_charter 75 = .ok (.iload_n 1, 1) := by decide +kernel
theorem dX9_charter_76 : decode cX9_charter 76 = .ok (.invokevirtual 235, 3) := by decide +kernel
theorem dX9_charter_79 : decode cX9_charter 79 = .ok (.ireturn, 1) := by decide +kernel
theorem dX9_charter_80 : decode cX9_charter 80 = .ok (.aload_n 0, 1) := by decide +kernel
theorem dX9_charter_81 : decode cX9_charter 81 = .ok (.getfield 19, 3) := by decide +kernel
theorem dX9_charter_84 : decode cX9_charter 84 = .ok (.getfield 238, 3) := by decide +kernel
theorem dX9_charter_87 : decode cX9_charter 87 = .ok (.iload_n 1, 1) := by decide +kernel
theorem dX9_charter_88 : decode cX9_charter 88 = .ok (.aaload, 1) := by decide +kernel
theorem dX9_charter_89 : decode cX9_charter 89 = .ok (.aload_n 0, 1) := by decide +kernel
theorem dX9_charter_90 : decode cX9_charter 90 = .ok (.getfield 41, 3) := by decide +kernel
theorem dX9_charter_93 : decode cX9_charter 93 = .ok (.getfield 93, 3) := by decide +kernel
theorem dX9_charter_96 : decode cX9_charter 96 = .ok (.invokevirtual 241, 3) := by decide +kernel
theorem dX9_charter_99 : decode cX9_charter 99 = .ok (.ireturn, 1) := by decide +kernel
theorem dX9_charter_100 : decode cX9_charter 100 = .ok (.aload_n 0, 1) := by decide +kernel
theorem dX9_charter_101 : decode cX9_charter 101 = .ok (.getfield 19, 3) := by decide +kernel
theorem dX9_charter_104 : decode cX9_charter 104 = .ok (.getfield 238, 3) := by decide +kernel
theorem dX9_charter_107 : decode cX9_charter 107 = .ok (.iload_n 1, 1) := by decide +kernel
theorem dX9_charter_108 : decode cX9_charter 108 = .ok (.aaload, 1) := by decide +kernel
theorem dX9_charter_109 : decode cX9_charter 109 = .ok (.aload_n 0, 1) := by decide +kernel
theorem dX9_charter_110 : decode cX9_charter 110 = .ok (.getfield 41, 3) := by decide +kernel
theorem dX9_charter_113 : decode cX9_charter 113 = .ok (.getfield 93, 3) := by decide +kernel
theorem dX9_charter_116 : decode cX9_charter 116 = .ok (.invokevirtual 214, 3) := by decide +kernel
theorem dX9_charter_119 : decode cX9_charter 119 = .ok (.ireturn, 1) := by decide +kernel
theorem dX9_charter_120 : decode cX9_charter 120 = .ok (.aload_n 0, 1) := by decide +kernel
theorem dX9_charter_121 : decode cX9_charter 121 = .ok (.getfield 19, 3) := by decide +kernel
theorem dX9_charter_124 : decode cX9_charter 124 = .ok (.getfield 238, 3) := by decide +kernel
theorem dX9_charter_127 : decode cX9_charter 127 = .ok (.iload_n 1, 1) := by decide +kernel
theorem dX9_charter_128 : decode cX9_charter 128 = .ok (.aaload, 1) := by decide +kernel
theorem dX9_charter_129 : decode cX9_charter 129 = .ok (.aload_n 0, 1) := by decide +kernel
theorem dX9_charter_130 : decode cX9_charter 130 = .ok (.getfield 41, 3) := by decide +kernel
theorem dX9_charter_133 : decode cX9_charter 133 = .ok (.getfield 93, 3) := by decide +kernel
theorem dX9_charter_136 : decode cX9_charter 136 = .ok (.invokevirtual 220, 3) := by decide +kernel
theorem dX9_charter_139 : decode cX9_charter 139 = .ok (.ireturn, 1) := by decide +kernel
theorem dX9_charter_140 : decode cX9_charter 140 = .ok (.aload_n 0, 1) := by decide +kernel
theorem dX9_charter_141 : decode cX9_charter 141 = .ok (.getfield 19, 3) := by decide +kernel
theorem dX9_charter_144 : decode cX9_charter 144 = .ok (.aload_n 0, 1) := by decide +kernel
theorem dX9_charter_145 : decode cX9_charter 145 = .ok (.getfield 41, 3) := by decide +kernel
theorem dX9_charter_148 : decode cX9_charter 148 = .ok (.iload_n 1, 1) := by decide +kernel
theorem dX9_charter_149 : decode cX9_charter 149 = .ok (.invokevirtual 243, 3) := by decide +kernel
theorem dX9_charter_152 : decode cX9_charter 152 = .ok (.ireturn, 1) := by decide +kernel
set_option maxRecDepth 20000 in
theorem ggX9_onShelf_X9_isShelf : GoodIn wsX9_onShelf wsX9_isShelf := goodIn_r _ [7] (by decide +kernel) (by decide +kernel)
set_option maxRecDepth 20000 in
theorem gX9_onShelf_X9_isShelf : GoodIn wsX9_onShelf (va_wsS RX9 246 yX9_isShelf wsX9_isShelf) := goodIn_app (goodIn_of _ (by decide +kernel)) ggX9_onShelf_X9_isShelf
set_option maxRecDepth 20000 in
theorem ggX9_onShelf_X9_mustExist : GoodIn wsX9_onShelf wsX9_mustExist := goodIn_ca (goodIn_r _ [10, 11, 12] (by decide +kernel) (by decide +kernel)) (goodIn_sub (fun _ h => List.mem_cons_of_mem _ (List.mem_append_left _ (List.mem_append_right _ h))) (by decide +kernel))
set_option maxRecDepth 20000 in
theorem gX9_onShelf_X9_mustExist : GoodIn wsX9_onShelf (va_wsS RX9 141 yX9_mustExist wsX9_mustExist) := goodIn_app (goodIn_of _ (by decide +kernel)) ggX9_onShelf_X9_mustExist
set_option maxRecDepth 20000 in
theorem ggX9_onShelf_X9_mustFit : GoodIn wsX9_onShelf wsX9_mustFit := goodIn_ca (goodIn_r _ [15, 16, 17] (by decide +kernel) (by decide +kernel)) (goodIn_sub (fun _ h => List.mem_cons_of_mem _ (List.mem_append_right _ h)) (by decide +kernel))
set_option maxRecDepth 20000 in
theorem gX9_onShelf_X9_mustFit : GoodIn wsX9_onShelf (va_wsS RX9 48 yX9_mustFit wsX9_mustFit) := goodIn_app (goodIn_of _ (by decide +kernel)) ggX9_onShelf_X9_mustFit
set_option maxRecDepth 20000 in
theorem ggX9_onShelf_X5_at : GoodIn wsX9_onShelf wsX5_at := goodIn_r _ [22, 23, 36, 37] (by decide +kernel) (by decide +kernel)
set_option maxRecDepth 20000 in
theorem gX9_onShelf_X5_at : GoodIn wsX9_onShelf (wsV RX9 251 RX5 yX5_at wsX5_at) := goodIn_app (goodIn_of _ (by decide +kernel)) ggX9_onShelf_X5_at
theorem dX9_onShelf_0 : decode cX9_onShelf 0 = .ok (.iload_n 1, 1) := by decide +kernel
theorem dX9_onShelf_1 : decode cX9_onShelf 1 = .ok (.invokestatic 246, 3) := by decide +kernel
theorem dX9_onShelf_4 : decode cX9_onShelf 4 = .ok (.invokestatic 141, 3) := by decide +kernel
theorem dX9_onShelf_7 : decode cX9_onShelf 7 = .ok (.iload_n 2, 1) := by decide +kernel
theorem dX9_onShelf_8 : decode cX9_onShelf 8 = .ok (.ifCond .lt 7, 3) := by decide +kernel
theorem dX9_onShelf_11 : decode cX9_onShelf 11 = .ok (.iconst 1, 1) := by decide +kernel
theorem dX9_onShelf_12 : decode cX9_onShelf 12 = .ok (.goto 4, 3) := by decide +kernel
theorem dX9_onShelf_15 : decode cX9_onShelf 15 = .ok (.iconst 0, 1) := by decide +kernel
theorem dX9_onShelf_16 : decode cX9_onShelf 16 = .ok (.invokestatic 48, 3) := by decide +kernel
theorem dX9_onShelf_19 : decode cX9_onShelf 19 = .ok (.iload_n 2, 1) := by decide +kernel
theorem dX9_onShelf_20 : decode cX9_onShelf 20 = .ok (.aload_n 0, 1) := by decide +kernel
theorem dX9_onShelf_21 : decode cX9_onShelf 21 = .ok (.getfield 41, 3) := by decide +kernel
theorem dX9_onShelf_24 : decode cX9_onShelf 24 = .ok (.getfield 129, 3) := by decide +kernel
theorem dX9_onShelf_27 : decode cX9_onShelf 27 = .ok (.getfield 249, 3) := by decide +kernel
theorem dX9_onShelf_30 : decode cX9_onShelf 30 = .ok (.iload_n 1, 1) := by decide +kernel
theorem dX9_onShelf_31 : decode cX9_onShelf 31 = .ok (.iaload, 1) := by decide +kernel
theorem dX9_onShelf_32 : decode cX9_onShelf 32 = .ok (.if_icmp .ge 18, 3) := by decide +kernel
theorem dX9_onShelf_35 : decode cX9_onShelf 35 = .ok (.aload_n 0, 1) := by decide +kernel
theorem dX9_onShelf_36 : decode cX9_onShelf 36 = .ok (.getfield 41, 3) := by decide +kernel
theorem dX9_onShelf_39 : decode cX9_onShelf 39 = .ok (.getfield 129, 3) := by decide +kernel
theorem dX9_onShelf_42 : decode cX9_onShelf 42 = .ok (.iload_n 1, 1) := by decide +kernel
theorem dX9_onShelf_43 : decode cX9_onShelf 43 = .ok (.iload_n 2, 1) := by decide +kernel
theorem dX9_onShelf_44 : decode cX9_onShelf 44 = .ok (.invokevirtual 251, 3) := by decide +kernel
theorem dX9_onShelf_47 : decode cX9_onShelf 47 = .ok (.goto 4, 3) := by decide +kernel
theorem dX9_onShelf_50 : decode cX9_onShelf 50 = .ok (.iconst (-1), 1) := by decide +kernel
theorem dX9_onShelf_51 : decode cX9_onShelf 51 = .ok (.ireturn, 1) := by decide +kernel
set_option maxRecDepth 20000 in
theorem ggX9_reign_X9_freshTrial : GoodIn wsX9_reign wsX9_freshTrial := goodIn_r _ [5, 6, 7, 8, 9, 10, 11, 12, 13, 14, 15, 16, 17, 18, 19, 20, 21, 22, 23, 24, 25, 26, 27, 28, 29, 30, 31, 32, 33, 34, 35, 36, 37, 38, 39, 40, 41, 42, 43, 44, 45, 46, 47, 48, 49, 50, 51, 52, 53, 54, 55, 56, 57, 58, 59, 60, 61, 62, 63, 108, 109, 110, 111, 112, 113, 114, 115, 116, 117, 118, 119, 120, 121, 122, 123, 124, 125, 126, 127, 128, 129, 130, 131, 132, 133, 134, 135, 136, 137] (by decide +kernel) (by decide +kernel)
set_option maxRecDepth 20000 in
theorem gX9_reign_X9_freshTrial : GoodIn wsX9_reign (wsV RX9 254 RX9 yX9_freshTrial wsX9_freshTrial) := goodIn_app (goodIn_of _ (by decide +kernel)) ggX9_reign_X9_freshTrial
set_option maxRecDepth 20000 in
theorem ggX9_reign_X6_addReign : GoodIn wsX9_reign wsX6_addReign := goodIn_r _ [67, 13, 68, 69, 70, 71, 4, 72, 73, 74, 75, 25, 76, 27, 28, 115, 116, 117, 118, 119, 120, 121, 122] (by decide +kernel) (by decide +kernel)
set_option maxRecDepth 20000 in
theorem gX9_reign_X6_addReign : GoodIn wsX9_reign (wsV RX9 258 RX6 yX6_addReign wsX6_addReign) := goodIn_app (goodIn_of _ (by decide +kernel)) ggX9_reign_X6_addReign
set_option maxRecDepth 20000 in
theorem ggX9_reign_X9_finish : GoodIn wsX9_reign wsX9_finish := goodIn_ca (goodIn_ca (goodIn_ca (goodIn_r _ [80, 7, 6, 81, 82, 83, 4, 84, 85, 86, 87, 88, 89, 90, 91, 92, 93, 94, 95, 96, 97, 98, 99, 100, 101, 102, 103, 104, 105, 106, 107, 108, 109, 110, 111, 112, 113, 114, 138, 139, 140] (by decide +kernel) (by decide +kernel)) (goodIn_sub (fun _ h => List.mem_cons_of_mem _ (List.mem_append_left _ (List.mem_append_left _ (List.mem_append_right _ h)))) (by decide +kernel))) (goodIn_sub (fun _ h => List.mem_cons_of_mem _ (List.mem_append_left _ (List.mem_append_right _ h))) (by decide +kernel))) (goodIn_sub (fun _ h => List.mem_cons_of_mem _ (List.mem_append_right _ h)) (by decide +kernel))
set_option maxRecDepth 20000 in
theorem gX9_reign_X9_finish : GoodIn wsX9_reign (wsV RX9 261 RX9 yX9_finish wsX9_finish) := goodIn_app (goodIn_of _ (by decide +kernel)) ggX9_reign_X9_finish
theorem dX9_reign_0 : decode cX9_reign 0 = .ok (.aload_n 0, 1) := by decide +kernel
theorem dX9_reign_1 : decode cX9_reign 1 = .ok (.aload_n 0, 1) := by decide +kernel
theorem dX9_reign_2 : decode cX9_reign 2 = .ok (.invokevirtual 254, 3) := by decide +kernel
theorem dX9_reign_5 : decode cX9_reign 5 = .ok (.iload_n 1, 1) := by decide +kernel
theorem dX9_reign_6 : decode cX9_reign 6 = .ok (.iload_n 2, 1) := by decide +kernel
theorem dX9_reign_7 : decode cX9_reign 7 = .ok (.invokevirtual 258, 3) := by decide +kernel
theorem dX9_reign_10 : decode cX9_reign 10 = .ok (.invokevirtual 261, 3) := by decide +kernel
theorem dX9_reign_13 : decode cX9_reign 13 = .ok (.ireturn, 1) := by decide +kernel
set_option maxRecDepth 20000 in
theorem ggX9_die_X9_freshTrial : GoodIn wsX9_die wsX9_freshTrial := goodIn_r _ [5, 6, 7, 8, 9, 10, 11, 12, 13, 14, 15, 16, 17, 18, 19, 20, 21, 22, 23, 24, 25, 26, 27, 28, 29, 30, 31, 32, 33, 34, 35, 36, 37, 38, 39, 40, 41, 42, 43, 44, 45, 46, 47, 48, 49, 50, 51, 52, 53, 54, 55, 56, 57, 58, 59, 60, 61, 62, 63, 106, 107, 108, 109, 110, 111, 112, 113, 114, 115, 116, 117, 118, 119, 120, 121, 122, 123, 124, 125, 126, 127, 128, 129, 130, 131, 132, 133, 134, 135] (by decide +kernel) (by decide +kernel)
set_option maxRecDepth 20000 in
theorem gX9_die_X9_freshTrial : GoodIn wsX9_die (wsV RX9 254 RX9 yX9_freshTrial wsX9_freshTrial) := goodIn_app (goodIn_of _ (by decide +kernel)) ggX9_die_X9_freshTrial
set_option maxRecDepth 20000 in
theorem ggX9_die_X6_addDie : GoodIn wsX9_die wsX6_addDie := goodIn_r _ [67, 14, 68, 69, 70, 71, 72, 73, 4, 74, 113, 114, 115, 116, 117, 121, 122, 123, 124, 125, 126] (by decide +kernel) (by decide +kernel)
set_option maxRecDepth 20000 in
theorem gX9_die_X6_addDie : GoodIn wsX9_die (wsV RX9 264 RX6 yX6_addDie wsX6_addDie) := goodIn_app (goodIn_of _ (by decide +kernel)) ggX9_die_X6_addDie
set_option maxRecDepth 20000 in
theorem ggX9_die_X9_finish : GoodIn wsX9_die wsX9_finish := goodIn_ca (goodIn_ca (goodIn_ca (goodIn_r _ [78, 7, 6, 79, 80, 81, 4, 82, 83, 84, 85, 86, 87, 88, 89, 90, 91, 92, 93, 94, 95, 96, 97, 98, 99, 100, 101, 102, 103, 104, 105, 106, 107, 108, 109, 110, 111, 112, 136, 137, 138] (by decide +kernel) (by decide +kernel)) (goodIn_sub (fun _ h => List.mem_cons_of_mem _ (List.mem_append_left _ (List.mem_append_left _ (List.mem_append_right _ h)))) (by decide +kernel))) (goodIn_sub (fun _ h => List.mem_cons_of_mem _ (List.mem_append_left _ (List.mem_append_right _ h))) (by decide +kernel))) (goodIn_sub (fun _ h => List.mem_cons_of_mem _ (List.mem_append_right _ h)) (by decide +kernel))
set_option maxRecDepth 20000 in
theorem gX9_die_X9_finish : GoodIn wsX9_die (wsV RX9 261 RX9 yX9_finish wsX9_finish) := goodIn_app (goodIn_of _ (by decide +kernel)) ggX9_die_X9_finish
theorem dX9_die_0 : decode cX9_die 0 = .ok (.aload_n 0, 1) := by decide +kernel
theorem dX9_die_1 : decode cX9_die 1 = .ok (.aload_n 0, 1) := by decide +kernel
theorem dX9_die_2 : decode cX9_die 2 = .ok (.invokevirtual 254, 3) := by decide +kernel
theorem dX9_die_5 : decode cX9_die 5 = .ok (.iload_n 1, 1) := by decide +kernel
theorem dX9_die_6 : decode cX9_die 6 = .ok (.iload_n 2, 1) := by decide +kernel
theorem dX9_die_7 : decode cX9_die 7 = .ok (.iload_n 3, 1) := by decide +kernel
theorem dX9_die_8 : decode cX9_die 8 = .ok (.invokevirtual 264, 3) := by decide +kernel
theorem dX9_die_11 : decode cX9_die 11 = .ok (.invokevirtual 261, 3) := by decide +kernel
theorem dX9_die_14 : decode cX9_die 14 = .ok (.ireturn, 1) := by decide +kernel
set_option maxRecDepth 20000 in
theorem ggX9_crack_X9_freshTrial : GoodIn wsX9_crack wsX9_freshTrial := goodIn_r _ [5, 6, 7, 8, 9, 10, 11, 12, 13, 14, 15, 16, 17, 18, 19, 20, 21, 22, 23, 24, 25, 26, 27, 28, 29, 30, 31, 32, 33, 34, 35, 36, 37, 38, 39, 40, 41, 42, 43, 44, 45, 46, 47, 48, 49, 50, 51, 52, 53, 54, 55, 56, 57, 58, 59, 60, 61, 62, 63, 115, 116, 117, 118, 119, 120, 121, 122, 123, 124, 125, 126, 127, 128, 129, 130, 131, 132, 133, 134, 135, 136, 137, 138, 139, 140, 141, 142, 143, 144] (by decide +kernel) (by decide +kernel)
set_option maxRecDepth 20000 in
theorem gX9_crack_X9_freshTrial : GoodIn wsX9_crack (wsV RX9 254 RX9 yX9_freshTrial wsX9_freshTrial) := goodIn_app (goodIn_of _ (by decide +kernel)) ggX9_crack_X9_freshTrial
set_option maxRecDepth 20000 in
theorem ggX9_crack_X6_addCrack : GoodIn wsX9_crack wsX6_addCrack := goodIn_r _ [67, 14, 68, 69, 70, 71, 72, 34, 73, 36, 74, 4, 75, 76, 77, 78, 79, 41, 80, 81, 82, 83, 42, 122, 123, 124, 125, 126, 130, 131, 132, 133, 134, 135] (by decide +kernel) (by decide +kernel)
set_option maxRecDepth 20000 in
theorem gX9_crack_X6_addCrack : GoodIn wsX9_crack (wsV RX9 268 RX6 yX6_addCrack wsX6_addCrack) := goodIn_app (goodIn_of _ (by decide +kernel)) ggX9_crack_X6_addCrack
set_option maxRecDepth 20000 in
theorem ggX9_crack_X9_finish : GoodIn wsX9_crack wsX9_finish := goodIn_ca (goodIn_ca (goodIn_ca (goodIn_r _ [87, 7, 6, 88, 89, 90, 4, 91, 92, 93, 94, 95, 96, 97, 98, 99, 100, 101, 102, 103, 104, 105, 106, 107, 108, 109, 110, 111, 112, 113, 114, 115, 116, 117, 118, 119, 120, 121, 145, 146, 147] (by decide +kernel) (by decide +kernel)) (goodIn_sub (fun _ h => List.mem_cons_of_mem _ (List.mem_append_left _ (List.mem_append_left _ (List.mem_append_right _ h)))) (by decide +kernel))) (goodIn_sub (fun _ h => List.mem_cons_of_mem _ (List.mem_append_left _ (List.mem_append_right _ h))) (by decide +kernel))) (goodIn_sub (fun _ h => List.mem_cons_of_mem _ (List.mem_append_right _ h)) (by decide +kernel))
set_option maxRecDepth 20000 in
theorem gX9_crack_X9_finish : GoodIn wsX9_crack (wsV RX9 261 RX9 yX9_finish wsX9_finish) := goodIn_app (goodIn_of _ (by decide +kernel)) ggX9_crack_X9_finish
theorem dX9_crack_0 : decode cX9_crack 0 = .ok (.aload_n 0, 1) := by decide +kernel
theorem dX9_crack_1 : decode cX9_crack 1 = .ok (.aload_n 0, 1) := by decide +kernel
theorem dX9_crack_2 : decode cX9_crack 2 = .ok (.invokevirtual 254, 3) := by decide +kernel
theorem dX9_crack_5 : decode cX9_crack 5 = .ok (.iload_n 1, 1) := by decide +kernel
theorem dX9_crack_6 : decode cX9_crack 6 = .ok (.iload_n 2, 1) := by decide +kernel
theorem dX9_crack_7 : decode cX9_crack 7 = .ok (.invokevirtual 268, 3) := by decide +kernel
theorem dX9_crack_10 : decode cX9_crack 10 = .ok (.invokevirtual 261, 3) := by decide +kernel
theorem dX9_crack_13 : decode cX9_crack 13 = .ok (.ireturn, 1) := by decide +kernel
set_option maxRecDepth 20000 in
theorem ggX9_seal_X9_freshTrial : GoodIn wsX9_seal wsX9_freshTrial := goodIn_r _ [5, 6, 7, 8, 9, 10, 11, 12, 13, 14, 15, 16, 17, 18, 19, 20, 21, 22, 23, 24, 25, 26, 27, 28, 29, 30, 31, 32, 33, 34, 35, 36, 37, 38, 39, 40, 41, 42, 43, 44, 45, 46, 47, 48, 49, 50, 51, 52, 53, 54, 55, 56, 57, 58, 59, 60, 61, 62, 63, 118, 119, 120, 121, 122, 123, 124, 125, 126, 127, 128, 129, 130, 131, 132, 133, 134, 135, 136, 137, 138, 139, 140, 141, 142, 143, 144, 145, 146, 147] (by decide +kernel) (by decide +kernel)
set_option maxRecDepth 20000 in
theorem gX9_seal_X9_freshTrial : GoodIn wsX9_seal (wsV RX9 254 RX9 yX9_freshTrial wsX9_freshTrial) := goodIn_app (goodIn_of _ (by decide +kernel)) ggX9_seal_X9_freshTrial
set_option maxRecDepth 20000 in
theorem ggX9_seal_X6_addSeal : GoodIn wsX9_seal wsX6_addSeal := goodIn_r _ [67, 14, 15, 68, 69, 70, 71, 72, 73, 74, 75, 76, 77, 34, 78, 36, 79, 4, 80, 81, 82, 83, 84, 85, 86, 41, 125, 126, 127, 128, 129, 139, 140, 141, 142, 143, 144, 145, 133, 134, 135, 136, 137, 138] (by decide +kernel) (by decide +kernel)
set_option maxRecDepth 20000 in
theorem gX9_seal_X6_addSeal : GoodIn wsX9_seal (wsV RX9 271 RX6 yX6_addSeal wsX6_addSeal) := goodIn_app (goodIn_of _ (by decide +kernel)) ggX9_seal_X6_addSeal
set_option maxRecDepth 20000 in
theorem ggX9_seal_X9_finish : GoodIn wsX9_seal wsX9_finish := goodIn_ca (goodIn_ca (goodIn_ca (goodIn_r _ [90, 7, 6, 91, 92, 93, 4, 94, 95, 96, 97, 98, 99, 100, 101, 102, 103, 104, 105, 106, 107, 108, 109, 110, 111, 112, 113, 114, 115, 116, 117, 118, 119, 120, 121, 122, 123, 124, 148, 149, 150] (by decide +kernel) (by decide +kernel)) (goodIn_sub (fun _ h => List.mem_cons_of_mem _ (List.mem_append_left _ (List.mem_append_left _ (List.mem_append_right _ h)))) (by decide +kernel))) (goodIn_sub (fun _ h => List.mem_cons_of_mem _ (List.mem_append_left _ (List.mem_append_right _ h))) (by decide +kernel))) (goodIn_sub (fun _ h => List.mem_cons_of_mem _ (List.mem_append_right _ h)) (by decide +kernel))
set_option maxRecDepth 20000 in
theorem gX9_seal_X9_finish : GoodIn wsX9_seal (wsV RX9 261 RX9 yX9_finish wsX9_finish) := goodIn_app (goodIn_of _ (by decide +kernel)) ggX9_seal_X9_finish
theorem dX9_seal_0 : decode cX9_seal 0 = .ok (.aload_n 0, 1) := by decide +kernel
theorem dX9_seal_1 : decode cX9_seal 1 = .ok (.aload_n 0, 1) := by decide +kernel
theorem dX9_seal_2 : decode cX9_seal 2 = .ok (.invokevirtual 254, 3) := by decide +kernel
theorem dX9_seal_5 : decode cX9_seal 5 = .ok (.iload_n 1, 1) := by decide +kernel
theorem dX9_seal_6 : decode cX9_seal 6 = .ok (.iload_n 2, 1) := by decide +kernel
theorem dX9_seal_7 : decode cX9_seal 7 = .ok (.iload_n 3, 1) := by decide +kernel
theorem dX9_seal_8 : decode cX9_seal 8 = .ok (.iload 4, 2) := by decide +kernel
theorem dX9_seal_10 : decode cX9_seal 10 = .ok (.iload 5, 2) := by decide +kernel
theorem dX9_seal_12 : decode cX9_seal 12 = .ok (.invokevirtual 271, 3) := by decide +kernel
theorem dX9_seal_15 : decode cX9_seal 15 = .ok (.invokevirtual 261, 3) := by decide +kernel
theorem dX9_seal_18 : decode cX9_seal 18 = .ok (.ireturn, 1) := by decide +kernel
set_option maxRecDepth 20000 in
theorem ggX9_show_X9_freshTrial : GoodIn wsX9_show wsX9_freshTrial := goodIn_r _ [5, 6, 7, 8, 9, 10, 11, 12, 13, 14, 15, 16, 17, 18, 19, 20, 21, 22, 23, 24, 25, 26, 27, 28, 29, 30, 31, 32, 33, 34, 35, 36, 37, 38, 39, 40, 41, 42, 43, 44, 45, 46, 47, 48, 49, 50, 51, 52, 53, 54, 55, 56, 57, 58, 59, 60, 61, 62, 63, 109, 110, 111, 112, 113, 114, 115, 116, 117, 118, 119, 120, 121, 122, 123, 124, 125, 126, 127, 128, 129, 130, 131, 132, 133, 134, 135, 136, 137, 138] (by decide +kernel) (by decide +kernel)
set_option maxRecDepth 20000 in
theorem gX9_show_X9_freshTrial : GoodIn wsX9_show (wsV RX9 254 RX9 yX9_freshTrial wsX9_freshTrial) := goodIn_app (goodIn_of _ (by decide +kernel)) ggX9_show_X9_freshTrial
set_option maxRecDepth 20000 in
theorem ggX9_show_X6_showCracks : GoodIn wsX9_show wsX6_showCracks := goodIn_r _ [67, 15, 14, 68, 69, 70, 71, 72, 46, 73, 48, 74, 75, 76, 34, 77, 41, 116, 117, 118, 119, 120, 130, 131, 132, 133, 134, 135, 136, 124, 125, 126, 127, 128, 129] (by decide +kernel) (by decide +kernel)
set_option maxRecDepth 20000 in
theorem gX9_show_X6_showCracks : GoodIn wsX9_show (wsV RX9 275 RX6 yX6_showCracks wsX6_showCracks) := goodIn_app (goodIn_of _ (by decide +kernel)) ggX9_show_X6_showCracks
set_option maxRecDepth 20000 in
theorem ggX9_show_X9_finish : GoodIn wsX9_show wsX9_finish := goodIn_ca (goodIn_ca (goodIn_ca (goodIn_r _ [81, 7, 6, 82, 83, 84, 4, 85, 86, 87, 88, 89, 90, 91, 92, 93, 94, 95, 96, 97, 98, 99, 100, 101, 102, 103, 104, 105, 106, 107, 108, 109, 110, 111, 112, 113, 114, 115, 139, 140, 141] (by decide +kernel) (by decide +kernel)) (goodIn_sub (fun _ h => List.mem_cons_of_mem _ (List.mem_append_left _ (List.mem_append_left _ (List.mem_append_right _ h)))) (by decide +kernel))) (goodIn_sub (fun _ h => List.mem_cons_of_mem _ (List.mem_append_left _ (List.mem_append_right _ h))) (by decide +kernel))) (goodIn_sub (fun _ h => List.mem_cons_of_mem _ (List.mem_append_right _ h)) (by decide +kernel))
set_option maxRecDepth 20000 in
theorem gX9_show_X9_finish : GoodIn wsX9_show (wsV RX9 261 RX9 yX9_finish wsX9_finish) := goodIn_app (goodIn_of _ (by decide +kernel)) ggX9_show_X9_finish
theorem dX9_show_0 : decode cX9_show 0 = .ok (.aload_n 0, 1) := by decide +kernel
theorem dX9_show_1 : decode cX9_show 1 = .ok (.aload_n 0, 1) := by decide +kernel
theorem dX9_show_2 : decode cX9_show 2 = .ok (.invokevirtual 254, 3) := by decide +kernel
theorem dX9_show_5 : decode cX9_show 5 = .ok (.iload_n 1, 1) := by decide +kernel
theorem dX9_show_6 : decode cX9_show 6 = .ok (.iload_n 2, 1) := by decide +kernel
theorem dX9_show_7 : decode cX9_show 7 = .ok (.invokevirtual 275, 3) := by decide +kernel
theorem dX9_show_10 : decode cX9_show 10 = .ok (.invokevirtual 261, 3) := by decide +kernel
theorem dX9_show_13 : decode cX9_show 13 = .ok (.ireturn, 1) := by decide +kernel
set_option maxRecDepth 20000 in
theorem ggX9_hang_X9_freshTrial : GoodIn wsX9_hang wsX9_freshTrial := goodIn_r _ [5, 6, 7, 8, 9, 10, 11, 12, 13, 14, 15, 16, 17, 18, 19, 20, 21, 22, 23, 24, 25, 26, 27, 28, 29, 30, 31, 32, 33, 34, 35, 36, 37, 38, 39, 40, 41, 42, 43, 44, 45, 46, 47, 48, 49, 50, 51, 52, 53, 54, 55, 56, 57, 58, 59, 60, 61, 62, 63, 110, 111, 112, 113, 114, 115, 116, 117, 118, 119, 120, 121, 122, 123, 124, 125, 126, 127, 128, 129, 130, 131, 132, 133, 134, 135, 136, 137, 138, 139] (by decide +kernel) (by decide +kernel)
set_option maxRecDepth 20000 in
theorem gX9_hang_X9_freshTrial : GoodIn wsX9_hang (wsV RX9 254 RX9 yX9_freshTrial wsX9_freshTrial) := goodIn_app (goodIn_of _ (by decide +kernel)) ggX9_hang_X9_freshTrial
set_option maxRecDepth 20000 in
theorem ggX9_hang_X6_hangOn : GoodIn wsX9_hang wsX6_hangOn := goodIn_r _ [67, 15, 68, 69, 70, 71, 46, 72, 48, 73, 4, 74, 75, 76, 77, 78, 55, 117, 118, 119, 120, 121, 131, 132, 133, 134, 135, 136, 137] (by decide +kernel) (by decide +kernel)
set_option maxRecDepth 20000 in
theorem gX9_hang_X6_hangOn : GoodIn wsX9_hang (wsV RX9 278 RX6 yX6_hangOn wsX6_hangOn) := goodIn_app (goodIn_of _ (by decide +kernel)) ggX9_hang_X6_hangOn
set_option maxRecDepth 20000 in
theorem ggX9_hang_X9_finish : GoodIn wsX9_hang wsX9_finish := goodIn_ca (goodIn_ca (goodIn_ca (goodIn_r _ [82, 7, 6, 83, 84, 85, 4, 86, 87, 88, 89, 90, 91, 92, 93, 94, 95, 96, 97, 98, 99, 100, 101, 102, 103, 104, 105, 106, 107, 108, 109, 110, 111, 112, 113, 114, 115, 116, 140, 141, 142] (by decide +kernel) (by decide +kernel)) (goodIn_sub (fun _ h => List.mem_cons_of_mem _ (List.mem_append_left _ (List.mem_append_left _ (List.mem_append_right _ h)))) (by decide +kernel))) (goodIn_sub (fun _ h => List.mem_cons_of_mem _ (List.mem_append_left _ (List.mem_append_right _ h))) (by decide +kernel))) (goodIn_sub (fun _ h => List.mem_cons_of_mem _ (List.mem_append_right _ h)) (by decide +kernel))
set_option maxRecDepth 20000 in
theorem gX9_hang_X9_finish : GoodIn wsX9_hang (wsV RX9 261 RX9 yX9_finish wsX9_finish) := goodIn_app (goodIn_of _ (by decide +kernel)) ggX9_hang_X9_finish
theorem dX9_hang_0 : decode cX9_hang 0 = .ok (.aload_n 0, 1) := by decide +kernel
theorem dX9_hang_1 : decode cX9_hang 1 = .ok (.aload_n 0, 1) := by decide +kernel
theorem dX9_hang_2 : decode cX9_hang 2 = .ok (.invokevirtual 254, 3) := by decide +kernel
theorem dX9_hang_5 : decode cX9_hang 5 = .ok (.iload_n 1, 1) := by decide +kernel
theorem dX9_hang_6 : decode cX9_hang 6 = .ok (.iload_n 2, 1) := by decide +kernel
theorem dX9_hang_7 : decode cX9_hang 7 = .ok (.invokevirtual 278, 3) := by decide +kernel
theorem dX9_hang_10 : decode cX9_hang 10 = .ok (.invokevirtual 261, 3) := by decide +kernel
theorem dX9_hang_13 : decode cX9_hang 13 = .ok (.ireturn, 1) := by decide +kernel
set_option maxRecDepth 20000 in
theorem ggX9_cut_X9_freshTrial : GoodIn wsX9_cut wsX9_freshTrial := goodIn_r _ [5, 6, 7, 8, 9, 10, 11, 12, 13, 14, 15, 16, 17, 18, 19, 20, 21, 22, 23, 24, 25, 26, 27, 28, 29, 30, 31, 32, 33, 34, 35, 36, 37, 38, 39, 40, 41, 42, 43, 44, 45, 46, 47, 48, 49, 50, 51, 52, 53, 54, 55, 56, 57, 58, 59, 60, 61, 62, 63, 104, 105, 106, 107, 108, 109, 110, 111, 112, 113, 114, 115, 116, 117, 118, 119, 120, 121, 122, 123, 124, 125, 126, 127, 128, 129, 130, 131, 132, 133] (by decide +kernel) (by decide +kernel)
set_option maxRecDepth 20000 in
theorem gX9_cut_X9_freshTrial : GoodIn wsX9_cut (wsV RX9 254 RX9 yX9_freshTrial wsX9_freshTrial) := goodIn_app (goodIn_of _ (by decide +kernel)) ggX9_cut_X9_freshTrial
set_option maxRecDepth 20000 in
theorem ggX9_cut_X6_cutOff : GoodIn wsX9_cut wsX6_cutOff := goodIn_r _ [67, 15, 68, 69, 70, 71, 46, 72, 48, 111, 112, 113, 114, 115, 125, 126, 127, 128, 129, 130, 131] (by decide +kernel) (by decide +kernel)
set_option maxRecDepth 20000 in
theorem gX9_cut_X6_cutOff : GoodIn wsX9_cut (wsV RX9 281 RX6 yX6_cutOff wsX6_cutOff) := goodIn_app (goodIn_of _ (by decide +kernel)) ggX9_cut_X6_cutOff
set_option maxRecDepth 20000 in
theorem ggX9_cut_X9_finish : GoodIn wsX9_cut wsX9_finish := goodIn_ca (goodIn_ca (goodIn_ca (goodIn_r _ [76, 7, 6, 77, 78, 79, 4, 80, 81, 82, 83, 84, 85, 86, 87, 88, 89, 90, 91, 92, 93, 94, 95, 96, 97, 98, 99, 100, 101, 102, 103, 104, 105, 106, 107, 108, 109, 110, 134, 135, 136] (by decide +kernel) (by decide +kernel)) (goodIn_sub (fun _ h => List.mem_cons_of_mem _ (List.mem_append_left _ (List.mem_append_left _ (List.mem_append_right _ h)))) (by decide +kernel))) (goodIn_sub (fun _ h => List.mem_cons_of_mem _ (List.mem_append_left _ (List.mem_append_right _ h))) (by decide +kernel))) (goodIn_sub (fun _ h => List.mem_cons_of_mem _ (List.mem_append_right _ h)) (by decide +kernel))
set_option maxRecDepth 20000 in
theorem gX9_cut_X9_finish : GoodIn wsX9_cut (wsV RX9 261 RX9 yX9_finish wsX9_finish) := goodIn_app (goodIn_of _ (by decide +kernel)) ggX9_cut_X9_finish
theorem dX9_cut_0 : decode cX9_cut 0 = .ok (.aload_n 0, 1) := by decide +kernel
theorem dX9_cut_1 : decode cX9_cut 1 = .ok (.aload_n 0, 1) := by decide +kernel
theorem dX9_cut_2 : decode cX9_cut 2 = .ok (.invokevirtual 254, 3) := by decide +kernel
theorem dX9_cut_5 : decode cX9_cut 5 = .ok (.iload_n 1, 1) := by decide +kernel
theorem dX9_cut_6 : decode cX9_cut 6 = .ok (.invokevirtual 281, 3) := by decide +kernel
theorem dX9_cut_9 : decode cX9_cut 9 = .ok (.invokevirtual 261, 3) := by decide +kernel
theorem dX9_cut_12 : decode cX9_cut 12 = .ok (.ireturn, 1) := by decide +kernel
set_option maxRecDepth 20000 in
theorem ggX9_shelve_X9_freshTrial : GoodIn wsX9_shelve wsX9_freshTrial := goodIn_r _ [5, 6, 7, 8, 9, 10, 11, 12, 13, 14, 15, 16, 17, 18, 19, 20, 21, 22, 23, 24, 25, 26, 27, 28, 29, 30, 31, 32, 33, 34, 35, 36, 37, 38, 39, 40, 41, 42, 43, 44, 45, 46, 47, 48, 49, 50, 51, 52, 53, 54, 55, 56, 57, 58, 59, 60, 61, 62, 63, 145, 146, 147, 148, 149, 150, 151, 152, 153, 154, 155, 156, 157, 158, 159, 160, 161, 162, 163, 164, 165, 166, 167, 168, 169, 170, 171, 172, 173, 174] (by decide +kernel) (by decide +kernel)
set_option maxRecDepth 20000 in
theorem gX9_shelve_X9_freshTrial : GoodIn wsX9_shelve (wsV RX9 254 RX9 yX9_freshTrial wsX9_freshTrial) := goodIn_app (goodIn_of _ (by decide +kernel)) ggX9_shelve_X9_freshTrial
set_option maxRecDepth 20000 in
theorem ggX9_shelve_X6_putOnShelf : GoodIn wsX9_shelve wsX6_putOnShelf := goodIn_r _ [67, 15, 16, 68, 69, 70, 71, 46, 72, 48, 73, 4, 74, 75, 76, 77, 59, 78, 61, 79, 80, 81, 82, 83, 84, 85, 86, 63, 87, 88, 89, 11, 90, 91, 92, 93, 94, 95, 14, 96, 97, 98, 99, 100, 101, 102, 103, 104, 105, 106, 107, 108, 109, 110, 111, 112, 113, 152, 153, 154, 155, 156, 173, 174, 166, 167, 168, 169, 170, 171, 172, 160, 161, 162, 163, 164, 165] (by decide +kernel) (by decide +kernel)
set_option maxRecDepth 20000 in
theorem gX9_shelve_X6_putOnShelf : GoodIn wsX9_shelve (wsV RX9 284 RX6 yX6_putOnShelf wsX6_putOnShelf) := goodIn_app (goodIn_of _ (by decide +kernel)) ggX9_shelve_X6_putOnShelf
set_option maxRecDepth 20000 in
theorem ggX9_shelve_X9_finish : GoodIn wsX9_shelve wsX9_finish := goodIn_ca (goodIn_ca (goodIn_ca (goodIn_r _ [117, 7, 6, 118, 119, 120, 4, 121, 122, 123, 124, 125, 126, 127, 128, 129, 130, 131, 132, 133, 134, 135, 136, 137, 138, 139, 140, 141, 142, 143, 144, 145, 146, 147, 148, 149, 150, 151, 175, 176, 177] (by decide +kernel) (by decide +kernel)) (goodIn_sub (fun _ h => List.mem_cons_of_mem _ (List.mem_append_left _ (List.mem_append_left _ (List.mem_append_right _ h)))) (by decide +kernel))) (goodIn_sub (fun _ h => List.mem_cons_of_mem _ (List.mem_append_left _ (List.mem_append_right _ h))) (by decide +kernel))) (goodIn_sub (fun _ h => List.mem_cons_of_mem _ (List.mem_append_right _ h)) (by decide +kernel))
set_option maxRecDepth 20000 in
theorem gX9_shelve_X9_finish : GoodIn wsX9_shelve (wsV RX9 261 RX9 yX9_finish wsX9_finish) := goodIn_app (goodIn_of _ (by decide +kernel)) ggX9_shelve_X9_finish
theorem dX9_shelve_0 : decode cX9_shelve 0 = .ok (.aload_n 0, 1) := by decide +kernel
theorem dX9_shelve_1 : decode cX9_shelve 1 = .ok (.aload_n 0, 1) := by decide +kernel
theorem dX9_shelve_2 : decode cX9_shelve 2 = .ok (.invokevirtual 254, 3) := by decide +kernel
theorem dX9_shelve_5 : decode cX9_shelve 5 = .ok (.iload_n 1, 1) := by decide +kernel
theorem dX9_shelve_6 : decode cX9_shelve 6 = .ok (.iload_n 2, 1) := by decide +kernel
theorem dX9_shelve_7 : decode cX9_shelve 7 = .ok (.iload_n 3, 1) := by decide +kernel
theorem dX9_shelve_8 : decode cX9_shelve 8 = .ok (.invokevirtual 284, 3) := by decide +kernel
theorem dX9_shelve_11 : decode cX9_shelve 11 = .ok (.invokevirtual 261, 3) := by decide +kernel
theorem dX9_shelve_14 : decode cX9_shelve 14 = .ok (.ireturn, 1) := by decide +kernel
set_option maxRecDepth 20000 in
theorem ggX9_take_X9_freshTrial : GoodIn wsX9_take wsX9_freshTrial := goodIn_r _ [5, 6, 7, 8, 9, 10, 11, 12, 13, 14, 15, 16, 17, 18, 19, 20, 21, 22, 23, 24, 25, 26, 27, 28, 29, 30, 31, 32, 33, 34, 35, 36, 37, 38, 39, 40, 41, 42, 43, 44, 45, 46, 47, 48, 49, 50, 51, 52, 53, 54, 55, 56, 57, 58, 59, 60, 61, 62, 63, 124, 125, 126, 127, 128, 129, 130, 131, 132, 133, 134, 135, 136, 137, 138, 139, 140, 141, 142, 143, 144, 145, 146, 147, 148, 149, 150, 151, 152, 153] (by decide +kernel) (by decide +kernel)
set_option maxRecDepth 20000 in
theorem gX9_take_X9_freshTrial : GoodIn wsX9_take (wsV RX9 254 RX9 yX9_freshTrial wsX9_freshTrial) := goodIn_app (goodIn_of _ (by decide +kernel)) ggX9_take_X9_freshTrial
set_option maxRecDepth 20000 in
theorem ggX9_take_X6_takeOff : GoodIn wsX9_take wsX6_takeOff := goodIn_r _ [67, 15, 16, 68, 69, 70, 46, 71, 48, 72, 73, 74, 59, 75, 76, 77, 78, 79, 61, 80, 81, 82, 83, 63, 84, 85, 86, 87, 88, 89, 90, 91, 92, 131, 132, 133, 134, 135, 145, 146, 147, 148, 149, 150, 151, 152, 153] (by decide +kernel) (by decide +kernel)
set_option maxRecDepth 20000 in
theorem gX9_take_X6_takeOff : GoodIn wsX9_take (wsV RX9 287 RX6 yX6_takeOff wsX6_takeOff) := goodIn_app (goodIn_of _ (by decide +kernel)) ggX9_take_X6_takeOff
set_option maxRecDepth 20000 in
theorem ggX9_take_X9_finish : GoodIn wsX9_take wsX9_finish := goodIn_ca (goodIn_ca (goodIn_ca (goodIn_r _ [96, 7, 6, 97, 98, 99, 4, 100, 101, 102, 103, 104, 105, 106, 107, 108, 109, 110, 111, 112, 113, 114, 115, 116, 117, 118, 119, 120, 121, 122, 123, 124, 125, 126, 127, 128, 129, 130, 154, 155, 156] (by decide +kernel) (by decide +kernel)) (goodIn_sub (fun _ h => List.mem_cons_of_mem _ (List.mem_append_left _ (List.mem_append_left _ (List.mem_append_right _ h)))) (by decide +kernel))) (goodIn_sub (fun _ h => List.mem_cons_of_mem _ (List.mem_append_left _ (List.mem_append_right _ h))) (by decide +kernel))) (goodIn_sub (fun _ h => List.mem_cons_of_mem _ (List.mem_append_right _ h)) (by decide +kernel))
set_option maxRecDepth 20000 in
theorem gX9_take_X9_finish : GoodIn wsX9_take (wsV RX9 261 RX9 yX9_finish wsX9_finish) := goodIn_app (goodIn_of _ (by decide +kernel)) ggX9_take_X9_finish
theorem dX9_take_0 : decode cX9_take 0 = .ok (.aload_n 0, 1) := by decide +kernel
theorem dX9_take_1 : decode cX9_take 1 = .ok (.aload_n 0, 1) := by decide +kernel
theorem dX9_take_2 : decode cX9_take 2 = .ok (.invokevirtual 254, 3) := by decide +kernel
theorem dX9_take_5 : decode cX9_take 5 = .ok (.iload_n 1, 1) := by decide +kernel
theorem dX9_take_6 : decode cX9_take 6 = .ok (.invokevirtual 287, 3) := by decide +kernel
theorem dX9_take_9 : decode cX9_take 9 = .ok (.invokevirtual 261, 3) := by decide +kernel
theorem dX9_take_12 : decode cX9_take 12 = .ok (.ireturn, 1) := by decide +kernel
set_option maxRecDepth 20000 in
theorem ggX9_sort_X9_freshTrial : GoodIn wsX9_sort wsX9_freshTrial := goodIn_r _ [6, 7, 8, 9, 10, 11, 12, 13, 14, 15, 16, 17, 18, 19, 20, 21, 22, 23, 24, 25, 26, 27, 28, 29, 30, 31, 32, 33, 34, 35, 36, 37, 38, 39, 40, 41, 42, 43, 44, 45, 46, 47, 48, 49, 50, 51, 52, 53, 54, 55, 56, 57, 58, 59, 60, 61, 62, 63, 64, 226, 227, 228, 229, 230, 231, 232, 233, 234, 235, 236, 237, 238, 239, 240, 241, 242, 243, 244, 245, 246, 247, 248, 249, 250, 251, 252, 253, 254, 255] (by decide +kernel) (by decide +kernel)
set_option maxRecDepth 20000 in
theorem gX9_sort_X9_freshTrial : GoodIn wsX9_sort (wsV RX9 254 RX9 yX9_freshTrial wsX9_freshTrial) := goodIn_app (goodIn_of _ (by decide +kernel)) ggX9_sort_X9_freshTrial
set_option maxRecDepth 20000 in
theorem ggX9_sort_X1_sortShelf : GoodIn wsX9_sort wsX1_sortShelf := goodIn_r _ [69, 70, 71, 72, 73, 20, 21, 22, 74, 75, 5, 76, 77, 78, 79, 68, 80, 81, 82, 83, 84, 85, 86, 87, 88, 89, 90, 91, 92, 93, 94, 95, 96, 35, 97, 40, 42, 98, 99, 100, 101, 102, 103, 104, 105, 43, 106, 107, 108, 109, 41, 110, 111, 112, 113, 114, 115, 26, 116, 28, 31, 117, 118, 119, 120, 121, 122, 123, 124, 125, 126, 127, 128, 129, 130, 131, 132, 133, 134, 135, 29, 136, 137, 138, 139, 140, 141, 142, 143, 144, 145, 146, 147, 148, 149, 150, 151, 152, 153, 154, 155, 156, 157, 158, 159, 160, 161, 162, 163, 164, 165, 166, 167, 168, 169, 170, 171, 172, 173, 174, 175, 176, 177, 178, 179, 180, 181, 182, 183, 184, 185, 60, 186, 64, 187, 188, 189, 190, 191, 192, 193, 194, 233, 234, 235, 236, 237, 254, 255, 256, 257, 258, 259, 260, 261, 247, 248, 249, 250, 251, 252, 253, 241, 242, 243, 244, 245, 246, 238, 239, 240, 262, 263, 264] (by decide +kernel) (by decide +kernel)
set_option maxRecDepth 20000 in
theorem gX9_sort_X1_sortShelf : GoodIn wsX9_sort (wsV RX9 290 RX1 yX1_sortShelf wsX1_sortShelf) := goodIn_app (goodIn_of _ (by decide +kernel)) ggX9_sort_X1_sortShelf
set_option maxRecDepth 20000 in
theorem ggX9_sort_X9_finish : GoodIn wsX9_sort wsX9_finish := goodIn_ca (goodIn_ca (goodIn_ca (goodIn_r _ [198, 8, 7, 199, 200, 201, 5, 202, 203, 204, 205, 206, 207, 208, 209, 210, 211, 212, 213, 214, 215, 216, 217, 218, 219, 220, 221, 222, 223, 224, 225, 226, 227, 228, 229, 230, 231, 232, 265, 266, 267] (by decide +kernel) (by decide +kernel)) (goodIn_sub (fun _ h => List.mem_cons_of_mem _ (List.mem_append_left _ (List.mem_append_left _ (List.mem_append_right _ h)))) (by decide +kernel))) (goodIn_sub (fun _ h => List.mem_cons_of_mem _ (List.mem_append_left _ (List.mem_append_right _ h))) (by decide +kernel))) (goodIn_sub (fun _ h => List.mem_cons_of_mem _ (List.mem_append_right _ h)) (by decide +kernel))
set_option maxRecDepth 20000 in
theorem gX9_sort_X9_finish : GoodIn wsX9_sort (wsV RX9 261 RX9 yX9_finish wsX9_finish) := goodIn_app (goodIn_of _ (by decide +kernel)) ggX9_sort_X9_finish
theorem dX9_sort_0 : decode cX9_sort 0 = .ok (.aload_n 0, 1) := by decide +kernel
theorem dX9_sort_1 : decode cX9_sort 1 = .ok (.aload_n 0, 1) := by decide +kernel
theorem dX9_sort_2 : decode cX9_sort 2 = .ok (.getfield 19, 3) := by decide +kernel
theorem dX9_sort_5 : decode cX9_sort 5 = .ok (.aload_n 0, 1) := by decide +kernel
theorem dX9_sort_6 : decode cX9_sort 6 = .ok (.invokevirtual 254, 3) := by decide +kernel
theorem dX9_sort_9 : decode cX9_sort 9 = .ok (.iload_n 1, 1) := by decide +kernel
theorem dX9_sort_10 : decode cX9_sort 10 = .ok (.invokevirtual 290, 3) := by decide +kernel
theorem dX9_sort_13 : decode cX9_sort 13 = .ok (.invokevirtual 261, 3) := by decide +kernel
theorem dX9_sort_16 : decode cX9_sort 16 = .ok (.ireturn, 1) := by decide +kernel
set_option maxRecDepth 20000 in
theorem ggX9_set_X9_freshTrial : GoodIn wsX9_set wsX9_freshTrial := goodIn_r _ [5, 6, 7, 8, 9, 10, 11, 12, 13, 14, 15, 16, 17, 18, 19, 20, 21, 22, 23, 24, 25, 26, 27, 28, 29, 30, 31, 32, 33, 34, 35, 36, 37, 38, 39, 40, 41, 42, 43, 44, 45, 46, 47, 48, 49, 50, 51, 52, 53, 54, 55, 56, 57, 58, 59, 60, 61, 62, 63, 103, 104, 105, 106, 107, 108, 109, 110, 111, 112, 113, 114, 115, 116, 117, 118, 119, 120, 121, 122, 123, 124, 125, 126, 127, 128, 129, 130, 131, 132] (by decide +kernel) (by decide +kernel)
set_option maxRecDepth 20000 in
theorem gX9_set_X9_freshTrial : GoodIn wsX9_set (wsV RX9 254 RX9 yX9_freshTrial wsX9_freshTrial) := goodIn_app (goodIn_of _ (by decide +kernel)) ggX9_set_X9_freshTrial
set_option maxRecDepth 20000 in
theorem ggX9_set_X6_change : GoodIn wsX9_set wsX6_change := goodIn_r _ [67, 17, 68, 4, 69, 70, 71, 110, 111, 112, 113, 114] (by decide +kernel) (by decide +kernel)
set_option maxRecDepth 20000 in
theorem gX9_set_X6_change : GoodIn wsX9_set (wsV RX9 293 RX6 yX6_change wsX6_change) := goodIn_app (goodIn_of _ (by decide +kernel)) ggX9_set_X6_change
set_option maxRecDepth 20000 in
theorem ggX9_set_X9_finish : GoodIn wsX9_set wsX9_finish := goodIn_ca (goodIn_ca (goodIn_ca (goodIn_r _ [75, 7, 6, 76, 77, 78, 4, 79, 80, 81, 82, 83, 84, 85, 86, 87, 88, 89, 90, 91, 92, 93, 94, 95, 96, 97, 98, 99, 100, 101, 102, 103, 104, 105, 106, 107, 108, 109, 133, 134, 135] (by decide +kernel) (by decide +kernel)) (goodIn_sub (fun _ h => List.mem_cons_of_mem _ (List.mem_append_left _ (List.mem_append_left _ (List.mem_append_right _ h)))) (by decide +kernel))) (goodIn_sub (fun _ h => List.mem_cons_of_mem _ (List.mem_append_left _ (List.mem_append_right _ h))) (by decide +kernel))) (goodIn_sub (fun _ h => List.mem_cons_of_mem _ (List.mem_append_right _ h)) (by decide +kernel))
set_option maxRecDepth 20000 in
theorem gX9_set_X9_finish : GoodIn wsX9_set (wsV RX9 261 RX9 yX9_finish wsX9_finish) := goodIn_app (goodIn_of _ (by decide +kernel)) ggX9_set_X9_finish
theorem dX9_set_0 : decode cX9_set 0 = .ok (.aload_n 0, 1) := by decide +kernel
theorem dX9_set_1 : decode cX9_set 1 = .ok (.aload_n 0, 1) := by decide +kernel
theorem dX9_set_2 : decode cX9_set 2 = .ok (.invokevirtual 254, 3) := by decide +kernel
theorem dX9_set_5 : decode cX9_set 5 = .ok (.iload_n 1, 1) := by decide +kernel
theorem dX9_set_6 : decode cX9_set 6 = .ok (.iload_n 2, 1) := by decide +kernel
theorem dX9_set_7 : decode cX9_set 7 = .ok (.invokevirtual 293, 3) := by decide +kernel
theorem dX9_set_10 : decode cX9_set 10 = .ok (.invokevirtual 261, 3) := by decide +kernel
theorem dX9_set_13 : decode cX9_set 13 = .ok (.ireturn, 1) := by decide +kernel
set_option maxRecDepth 20000 in
theorem ggX9_undo_X9_mustBeFree : GoodIn wsX9_undo wsX9_mustBeFree := goodIn_ca (goodIn_r _ [7, 8, 9] (by decide +kernel) (by decide +kernel)) (goodIn_sub (fun _ h => List.mem_cons_of_mem _ (List.mem_append_right _ h)) (by decide +kernel))
set_option maxRecDepth 20000 in
theorem gX9_undo_X9_mustBeFree : GoodIn wsX9_undo (va_wsS RX9 56 yX9_mustBeFree wsX9_mustBeFree) := goodIn_app (goodIn_of _ (by decide +kernel)) ggX9_undo_X9_mustBeFree
set_option maxRecDepth 20000 in
theorem ggX9_undo_X2_recall : GoodIn wsX9_undo wsX2_recall := goodIn_r _ [14, 15, 16, 17, 25, 26, 27] (by decide +kernel) (by decide +kernel)
set_option maxRecDepth 20000 in
theorem gX9_undo_X2_recall : GoodIn wsX9_undo (wsV RX9 297 RX2 yX2_recall wsX2_recall) := goodIn_app (goodIn_of _ (by decide +kernel)) ggX9_undo_X2_recall
theorem dX9_undo_0 : decode cX9_undo 0 = .ok (.aload_n 0, 1) := by decide +kernel
theorem dX9_undo_1 : decode cX9_undo 1 = .ok (.getfield 26, 3) := by decide +kernel
theorem dX9_undo_4 : decode cX9_undo 4 = .ok (.getfield 296, 3) := by decide +kernel
theorem dX9_undo_7 : decode cX9_undo 7 = .ok (.ifCond .le 7, 3) := by decide +kernel
theorem dX9_undo_10 : decode cX9_undo 10 = .ok (.iconst 1, 1) := by decide +kernel
theorem dX9_undo_11 : decode cX9_undo 11 = .ok (.goto 4, 3) := by decide +kernel
theorem dX9_undo_14 : decode cX9_undo 14 = .ok (.iconst 0, 1) := by decide +kernel
theorem dX9_undo_15 : decode cX9_undo 15 = .ok (.invokestatic 56, 3) := by decide +kernel
theorem dX9_undo_18 : decode cX9_undo 18 = .ok (.aload_n 0, 1) := by decide +kernel
theorem dX9_undo_19 : decode cX9_undo 19 = .ok (.aload_n 0, 1) := by decide +kernel
theorem dX9_undo_20 : decode cX9_undo 20 = .ok (.getfield 26, 3) := by decide +kernel
theorem dX9_undo_23 : decode cX9_undo 23 = .ok (.aload_n 0, 1) := by decide +kernel
theorem dX9_undo_24 : decode cX9_undo 24 = .ok (.getfield 41, 3) := by decide +kernel
theorem dX9_undo_27 : decode cX9_undo 27 = .ok (.invokevirtual 297, 3) := by decide +kernel
theorem dX9_undo_30 : decode cX9_undo 30 = .ok (.putfield 41, 3) := by decide +kernel
theorem dX9_undo_33 : decode cX9_undo 33 = .ok (.aload_n 0, 1) := by decide +kernel
theorem dX9_undo_34 : decode cX9_undo 34 = .ok (.getfield 26, 3) := by decide +kernel
theorem dX9_undo_37 : decode cX9_undo 37 = .ok (.getfield 296, 3) := by decide +kernel
theorem dX9_undo_40 : decode cX9_undo 40 = .ok (.ireturn, 1) := by decide +kernel
set_option maxRecDepth 20000 in
theorem ggX9_freshTrial_X6_copy : GoodIn wsX9_freshTrial wsX6_copy := goodIn_r _ [7, 8, 9, 10, 11, 12, 13, 14, 15, 16, 17, 18, 19, 20, 21, 22, 23, 24, 25, 26, 27, 28, 29, 30, 31, 32, 33, 34, 35, 36, 37, 38, 39, 40, 41, 42, 43, 44, 45, 46, 47, 48, 49, 50, 51, 52, 53, 54, 55, 56, 57, 58, 66, 67, 68, 69, 70, 71, 72, 73, 74, 75, 76, 77, 78, 79, 80, 81, 82, 83, 84, 85, 86, 87, 88] (by decide +kernel) (by decide +kernel)
set_option maxRecDepth 20000 in
theorem gX9_freshTrial_X6_copy : GoodIn wsX9_freshTrial (wsV RX9 301 RX6 yX6_copy wsX6_copy) := goodIn_app (goodIn_of _ (by decide +kernel)) ggX9_freshTrial_X6_copy
theorem dX9_freshTrial_0 : decode cX9_freshTrial 0 = .ok (.aload_n 0, 1) := by decide +kernel
theorem dX9_freshTrial_1 : decode cX9_freshTrial 1 = .ok (.getfield 45, 3) := by decide +kernel
theorem dX9_freshTrial_4 : decode cX9_freshTrial 4 = .ok (.aload_n 0, 1) := by decide +kernel
theorem dX9_freshTrial_5 : decode cX9_freshTrial 5 = .ok (.getfield 41, 3) := by decide +kernel
theorem dX9_freshTrial_8 : decode cX9_freshTrial 8 = .ok (.invokevirtual 301, 3) := by decide +kernel
theorem dX9_freshTrial_11 : decode cX9_freshTrial 11 = .ok (.aload_n 0, 1) := by decide +kernel
theorem dX9_freshTrial_12 : decode cX9_freshTrial 12 = .ok (.getfield 45, 3) := by decide +kernel
theorem dX9_freshTrial_15 : decode cX9_freshTrial 15 = .ok (.areturn, 1) := by decide +kernel
set_option maxRecDepth 20000 in
theorem ggX9_finish_X9_mustBeAnswer : GoodIn wsX9_finish wsX9_mustBeAnswer := goodIn_ca (goodIn_ca (goodIn_ca (goodIn_r _ [7, 8, 9, 6, 10, 11, 12, 13, 14, 15, 16, 17, 18, 19, 20, 21, 22] (by decide +kernel) (by decide +kernel)) (goodIn_sub (fun _ h => List.mem_cons_of_mem _ (List.mem_append_left _ (List.mem_append_left _ (List.mem_append_right _ h)))) (by decide +kernel))) (goodIn_sub (fun _ h => List.mem_cons_of_mem _ (List.mem_append_left _ (List.mem_append_right _ h))) (by decide +kernel))) (goodIn_sub (fun _ h => List.mem_cons_of_mem _ (List.mem_append_right _ h)) (by decide +kernel))
set_option maxRecDepth 20000 in
theorem gX9_finish_X9_mustBeAnswer : GoodIn wsX9_finish (va_wsS RX9 304 yX9_mustBeAnswer wsX9_mustBeAnswer) := goodIn_app (goodIn_of _ (by decide +kernel)) ggX9_finish_X9_mustBeAnswer
set_option maxRecDepth 20000 in
theorem ggX9_finish_X2_remember : GoodIn wsX9_finish wsX2_remember := goodIn_r _ [27, 28, 29, 30, 38, 39, 40] (by decide +kernel) (by decide +kernel)
set_option maxRecDepth 20000 in
theorem gX9_finish_X2_remember : GoodIn wsX9_finish (wsV RX9 308 RX2 yX2_remember wsX2_remember) := goodIn_app (goodIn_of _ (by decide +kernel)) ggX9_finish_X2_remember
theorem dX9_finish_0 : decode cX9_finish 0 = .ok (.iload_n 1, 1) := by decide +kernel
theorem dX9_finish_1 : decode cX9_finish 1 = .ok (.invokestatic 304, 3) := by decide +kernel
theorem dX9_finish_4 : decode cX9_finish 4 = .ok (.aload_n 0, 1) := by decide +kernel
theorem dX9_finish_5 : decode cX9_finish 5 = .ok (.getfield 41, 3) := by decide +kernel
theorem dX9_finish_8 : decode cX9_finish 8 = .ok (.astore_n 2, 1) := by decide +kernel
theorem dX9_finish_9 : decode cX9_finish 9 = .ok (.aload_n 0, 1) := by decide +kernel
theorem dX9_finish_10 : decode cX9_finish 10 = .ok (.aload_n 0, 1) := by decide +kernel
theorem dX9_finish_11 : decode cX9_finish 11 = .ok (.getfield 45, 3) := by decide +kernel
theorem dX9_finish_14 : decode cX9_finish 14 = .ok (.putfield 41, 3) := by decide +kernel
theorem dX9_finish_17 : decode cX9_finish 17 = .ok (.aload_n 0, 1) := by decide +kernel
theorem dX9_finish_18 : decode cX9_finish 18 = .ok (.aload_n 0, 1) := by decide +kernel
theorem dX9_finish_19 : decode cX9_finish 19 = .ok (.getfield 26, 3) := by decide +kernel
theorem dX9_finish_22 : decode cX9_finish 22 = .ok (.aload_n 2, 1) := by decide +kernel
theorem dX9_finish_23 : decode cX9_finish 23 = .ok (.invokevirtual 308, 3) := by decide +kernel
theorem dX9_finish_26 : decode cX9_finish 26 = .ok (.putfield 45, 3) := by decide +kernel
theorem dX9_finish_29 : decode cX9_finish 29 = .ok (.iload_n 1, 1) := by decide +kernel
theorem dX9_finish_30 : decode cX9_finish 30 = .ok (.ireturn, 1) := by decide +kernel
set_option maxRecDepth 20000 in
theorem ggX9_older_X4_has : GoodIn wsX9_older wsX4_has := goodIn_r _ [8, 9, 148, 149, 150, 151, 152, 153, 154] (by decide +kernel) (by decide +kernel)
set_option maxRecDepth 20000 in
theorem gX9_older_X4_has : GoodIn wsX9_older (wsV RX9 182 RX4 yX4_has wsX4_has) := goodIn_app (goodIn_of _ (by decide +kernel)) ggX9_older_X4_has
set_option maxRecDepth 20000 in
theorem ggX9_older_X9_mustExist : GoodIn wsX9_older wsX9_mustExist := goodIn_ca (goodIn_r _ [13, 14, 15] (by decide +kernel) (by decide +kernel)) (goodIn_sub (fun _ h => List.mem_cons_of_mem _ (List.mem_append_right _ h)) (by decide +kernel))
set_option maxRecDepth 20000 in
theorem gX9_older_X9_mustExist : GoodIn wsX9_older (va_wsS RX9 141 yX9_mustExist wsX9_mustExist) := goodIn_app (goodIn_of _ (by decide +kernel)) ggX9_older_X9_mustExist
set_option maxRecDepth 20000 in
theorem ggX9_older_X1_look : GoodIn wsX9_older wsX1_look := goodIn_r _ [20, 21, 22, 23, 19, 24, 25, 26, 27, 28, 29, 30, 31, 32, 33, 34, 35, 36, 37, 38, 39, 40, 41, 42, 43, 44, 45, 46, 47, 48, 49, 50, 51, 52, 53, 54, 55, 56, 57, 58, 59, 60, 61, 62, 63, 64, 65, 66, 67, 68, 69, 70, 71, 72, 73, 74, 75, 76, 77, 78, 79, 80, 81, 82, 83, 84, 85, 86, 87, 88, 89, 90, 91, 92, 93, 94, 95, 96, 97, 98, 99, 100, 101, 102, 103, 104, 105, 106, 107, 108, 109, 110, 111, 112, 113, 114, 115, 116, 117, 118, 119, 120, 121, 122, 123, 124, 125, 126, 127, 143, 144, 145, 146, 147, 148, 149, 150, 151, 152, 153, 154, 155, 156, 157, 158, 159, 160, 161, 162, 163, 164, 165, 166, 167, 168, 169, 170, 171, 172] (by decide +kernel) (by decide +kernel)
set_option maxRecDepth 20000 in
theorem gX9_older_X1_look : GoodIn wsX9_older (wsV RX9 89 RX1 yX1_look wsX1_look) := goodIn_app (goodIn_of _ (by decide +kernel)) ggX9_older_X1_look
set_option maxRecDepth 20000 in
theorem ggX9_older_X1_isAhead : GoodIn wsX9_older wsX1_isAhead := goodIn_r _ [131, 30, 31, 33, 132, 133, 134, 68, 135, 77, 71, 79, 56, 43, 57, 70, 78, 42, 44, 89, 90, 91, 61, 92, 63, 84, 85, 86, 87, 88, 72, 80, 81, 82, 83, 155, 156, 157, 158, 159, 160, 143, 144, 145, 146, 147, 167, 168, 169, 170, 171, 172] (by decide +kernel) (by decide +kernel)
set_option maxRecDepth 20000 in
theorem gX9_older_X1_isAhead : GoodIn wsX9_older (wsV RX9 311 RX1 yX1_isAhead wsX1_isAhead) := goodIn_app (goodIn_of _ (by decide +kernel)) ggX9_older_X1_isAhead
theorem dX9_older_0 : decode cX9_older 0 = .ok (.aload_n 0, 1) := by decide +kernel
theorem dX9_older_1 : decode cX9_older 1 = .ok (.getfield 41, 3) := by decide +kernel
theorem dX9_older_4 : decode cX9_older 4 = .ok (.getfield 109, 3) := by decide +kernel
theorem dX9_older_7 : decode cX9_older 7 = .ok (.iload_n 1, 1) := by decide +kernel
theorem dX9_older_8 : decode cX9_older 8 = .ok (.invokevirtual 182, 3) := by decide +kernel
theorem dX9_older_11 : decode cX9_older 11 = .ok (.ifCond .eq 21, 3) := by decide +kernel
theorem dX9_older_14 : decode cX9_older 14 = .ok (.aload_n 0, 1) := by decide +kernel
theorem dX9_older_15 : decode cX9_older 15 = .ok (.getfield 41, 3) := by decide +kernel
theorem dX9_older_18 : decode cX9_older 18 = .ok (.getfield 109, 3) := by decide +kernel
theorem dX9_older_21 : decode cX9_older 21 = .ok (.iload_n 2, 1) := by decide +kernel
theorem dX9_older_22 : decode cX9_older 22 = .ok (.invokevirtual 182, 3) := by decide +kernel
theorem dX9_older_25 : decode cX9_older 25 = .ok (.ifCond .eq 7, 3) := by decide +kernel
theorem dX9_older_28 : decode cX9_older 28 = .ok (.iconst 1, 1) := by decide +kernel
theorem dX9_older_29 : decode cX9_older 29 = .ok (.goto 4, 3) := by decide +kernel
theorem dX9_older_32 : decode cX9_older 32 = .ok (.iconst 0, 1) := by decide +kernel
theorem dX9_older_33 : decode cX9_older 33 = .ok (.invokestatic 141, 3) := by decide +kernel
theorem dX9_older_36 : decode cX9_older 36 = .ok (.aload_n 0, 1) := by decide +kernel
theorem dX9_older_37 : decode cX9_older 37 = .ok (.getfield 19, 3) := by decide +kernel
theorem dX9_older_40 : decode cX9_older 40 = .ok (.aload_n 0, 1) := by decide +kernel
theorem dX9_older_41 : decode cX9_older 41 = .ok (.getfield 41, 3) := by decide +kernel
theorem dX9_older_44 : decode cX9_older 44 = .ok (.invokevirtual 89, 3) := by decide +kernel
theorem dX9_older_47 : decode cX9_older 47 = .ok (.aload_n 0, 1) := by decide +kernel
theorem dX9_older_48 : decode cX9_older 48 = .ok (.getfield 19, 3) := by decide +kernel
theorem dX9_older_51 : decode cX9_older 51 = .ok (.aload_n 0, 1) := by decide +kernel
theorem dX9_older_52 : decode cX9_older 52 = .ok (.getfield 41, 3) := by decide +kernel
theorem dX9_older_55 : decode cX9_older 55 = .ok (.iload_n 1, 1) := by decide +kernel
theorem dX9_older_56 : decode cX9_older 56 = .ok (.iload_n 2, 1) := by decide +kernel
theorem dX9_older_57 : decode cX9_older 57 = .ok (.invokevirtual 311, 3) := by decide +kernel
theorem dX9_older_60 : decode cX9_older 60 = .ok (.ifCond .eq 5, 3) := by decide +kernel
theorem dX9_older_63 : decode cX9_older 63 = .ok (.iload_n 1, 1) := by decide +kernel
theorem dX9_older_64 : decode cX9_older 64 = .ok (.ireturn, 1) := by decide +kernel
theorem dX9_older_65 : decode cX9_older 65 = .ok (.aload_n 0, 1) := by decide +kernel
theorem dX9_older_66 : decode cX9_older 66 = .ok (.getfield 19, 3) := by decide +kernel
theorem dX9_older_69 : decode cX9_older 69 = .ok (.aload_n 0, 1) := by decide +kernel
theorem dX9_older_70 : decode cX9_older 70 = .ok (.getfield 41, 3) := by decide +kernel
theorem dX9_older_73 : decode cX9_older 73 = .ok (.iload_n 2, 1) := by decide +kernel
theorem dX9_older_74 : decode cX9_older 74 = .ok (.iload_n 1, 1) := by decide +kernel
theorem dX9_older_75 : decode cX9_older 75 = .ok (.invokevirtual 311, 3) := by decide +kernel
theorem dX9_older_78 : decode cX9_older 78 = .ok (.ifCond .eq 7, 3) := by decide +kernel
theorem dX9_older_81 : decode cX9_older 81 = .ok (.iload_n 2, 1) := by decide +kernel
theorem dX9_older_82 : decode cX9_older 82 = .ok (.goto 4, 3) := by decide +kernel
theorem dX9_older_85 : decode cX9_older 85 = .ok (.iconst (-1), 1) := by decide +kernel
theorem dX9_older_86 : decode cX9_older 86 = .ok (.ireturn, 1) := by decide +kernel
set_option maxRecDepth 20000 in
theorem ggX9_decides_X9_isCharter : GoodIn wsX9_decides wsX9_isCharter := goodIn_r _ [6] (by decide +kernel) (by decide +kernel)
set_option maxRecDepth 20000 in
theorem gX9_decides_X9_isCharter : GoodIn wsX9_decides (va_wsS RX9 232 yX9_isCharter wsX9_isCharter) := goodIn_app (goodIn_of _ (by decide +kernel)) ggX9_decides_X9_isCharter
set_option maxRecDepth 20000 in
theorem ggX9_decides_X9_mustExist : GoodIn wsX9_decides wsX9_mustExist := goodIn_ca (goodIn_r _ [9, 10, 11] (by decide +kernel) (by decide +kernel)) (goodIn_sub (fun _ h => List.mem_cons_of_mem _ (List.mem_append_right _ h)) (by decide +kernel))
set_option maxRecDepth 20000 in
theorem gX9_decides_X9_mustExist : GoodIn wsX9_decides (va_wsS RX9 141 yX9_mustExist wsX9_mustExist) := goodIn_app (goodIn_of _ (by decide +kernel)) ggX9_decides_X9_mustExist
set_option maxRecDepth 20000 in
theorem ggX9_decides_X1_look : GoodIn wsX9_decides wsX1_look := goodIn_r _ [16, 17, 18, 19, 15, 20, 21, 22, 23, 24, 25, 26, 27, 28, 29, 30, 31, 32, 33, 34, 35, 36, 37, 38, 39, 40, 41, 42, 43, 44, 45, 46, 47, 48, 49, 50, 51, 52, 53, 54, 55, 56, 57, 58, 59, 60, 61, 62, 63, 64, 65, 66, 67, 68, 69, 70, 71, 72, 73, 74, 75, 76, 77, 78, 79, 80, 81, 82, 83, 84, 85, 86, 87, 88, 89, 90, 91, 92, 93, 94, 95, 96, 97, 98, 99, 100, 101, 102, 103, 104, 105, 106, 107, 108, 109, 110, 111, 112, 113, 114, 115, 116, 117, 118, 119, 120, 121, 122, 123, 139, 140, 141, 142, 143, 144, 145, 146, 147, 148, 149, 150, 151, 152, 153, 154, 155, 156, 157, 158, 159, 160, 161, 162, 163, 164, 165, 166, 167, 168] (by decide +kernel) (by decide +kernel)
set_option maxRecDepth 20000 in
theorem gX9_decides_X1_look : GoodIn wsX9_decides (wsV RX9 89 RX1 yX1_look wsX1_look) := goodIn_app (goodIn_of _ (by decide +kernel)) ggX9_decides_X1_look
set_option maxRecDepth 20000 in
theorem ggX9_decides_X1_decider : GoodIn wsX9_decides wsX1_decider := goodIn_r _ [127, 21, 22, 95, 27, 107, 108, 109, 15, 110, 111, 93, 103, 104, 105, 106, 26, 61, 62, 63, 64, 65, 66, 67, 68, 112, 113, 114, 115, 74, 38, 39, 40, 75, 52, 53, 116, 117, 118, 119, 128, 129, 130, 131, 73, 76, 77, 78, 57, 79, 80, 85, 86, 87, 88, 59, 81, 82, 83, 84, 139, 140, 141, 142, 143, 144, 145, 146, 147, 148, 149, 150, 151, 152, 153, 154, 155, 156, 166, 167, 168, 163, 164, 165] (by decide +kernel) (by decide +kernel)
set_option maxRecDepth 20000 in
theorem gX9_decides_X1_decider : GoodIn wsX9_decides (wsV RX9 315 RX1 yX1_decider wsX1_decider) := goodIn_app (goodIn_of _ (by decide +kernel)) ggX9_decides_X1_decider
theorem dX9_decides_0 : decode cX9_decides 0 = .ok (.iload_n 1, 1) := by decide +kernel
theorem dX9_decides_1 : decode cX9_decides 1 = .ok (.invokestatic 232, 3) := by decide +kernel
theorem dX9_decides_4 : decode cX9_decides 4 = .ok (.invokestatic 141, 3) := by decide +kernel
theorem dX9_decides_7 : decode cX9_decides 7 = .ok (.aload_n 0, 1) := by decide +kernel
theorem dX9_decides_8 : decode cX9_decides 8 = .ok (.getfield 19, 3) := by decide +kernel
theorem dX9_decides_11 : decode cX9_decides 11 = .ok (.aload_n 0, 1) := by decide +kernel
theorem dX9_decides_12 : decode cX9_decides 12 = .ok (.getfield 41, 3) := by decide +kernel
theorem dX9_decides_15 : decode cX9_decides 15 = .ok (.invokevirtual 89, 3) := by decide +kernel
theorem dX9_decides_18 : decode cX9_decides 18 = .ok (.aload_n 0, 1) := by decide +kernel
theorem dX9_decides_19 : decode cX9_decides 19 = .ok (.getfield 19, 3) := by decide +kernel
theorem dX9_decides_22 : decode cX9_decides 22 = .ok (.aload_n 0, 1) := by decide +kernel
theorem dX9_decides_23 : decode cX9_decides 23 = .ok (.getfield 41, 3) := by decide +kernel
theorem dX9_decides_26 : decode cX9_decides 26 = .ok (.iload_n 1, 1) := by decide +kernel
theorem dX9_decides_27 : decode cX9_decides 27 = .ok (.invokevirtual 315, 3) := by decide +kernel
theorem dX9_decides_30 : decode cX9_decides 30 = .ok (.ireturn, 1) := by decide +kernel
set_option maxRecDepth 20000 in
theorem ggX9_ifCracked_X9_freshTrial : GoodIn wsX9_ifCracked wsX9_freshTrial := goodIn_r _ [8, 2, 3, 9, 10, 11, 12, 13, 14, 15, 16, 17, 18, 19, 20, 21, 22, 23, 24, 25, 26, 27, 28, 29, 30, 31, 32, 33, 34, 35, 36, 37, 38, 39, 40, 41, 42, 43, 44, 45, 46, 47, 48, 49, 50, 51, 52, 53, 54, 55, 56, 57, 58, 59, 60, 61, 62, 63, 64, 210, 211, 212, 213, 214, 215, 216, 217, 218, 219, 220, 221, 222, 223, 224, 225, 226, 227, 228, 229, 230, 231, 232, 233, 234, 235, 236, 237, 238, 239] (by decide +kernel) (by decide +kernel)
set_option maxRecDepth 20000 in
theorem gX9_ifCracked_X9_freshTrial : GoodIn wsX9_ifCracked (wsV RX9 254 RX9 yX9_freshTrial wsX9_freshTrial) := goodIn_app (goodIn_of _ (by decide +kernel)) ggX9_ifCracked_X9_freshTrial
set_option maxRecDepth 20000 in
theorem ggX9_ifCracked_X6_addCrack : GoodIn wsX9_ifCracked wsX6_addCrack := goodIn_r _ [68, 15, 69, 70, 71, 72, 73, 35, 74, 37, 75, 7, 76, 77, 78, 79, 80, 42, 81, 82, 83, 84, 43, 217, 218, 219, 220, 221, 225, 226, 227, 228, 229, 230] (by decide +kernel) (by decide +kernel)
set_option maxRecDepth 20000 in
theorem gX9_ifCracked_X6_addCrack : GoodIn wsX9_ifCracked (wsV RX9 268 RX6 yX6_addCrack wsX6_addCrack) := goodIn_app (goodIn_of _ (by decide +kernel)) ggX9_ifCracked_X6_addCrack
set_option maxRecDepth 20000 in
theorem ggX9_ifCracked_X9_mustBeAnswer : GoodIn wsX9_ifCracked wsX9_mustBeAnswer := goodIn_ca (goodIn_ca (goodIn_ca (goodIn_r _ [87, 88, 89, 7, 90, 91, 92, 93, 94, 95, 96, 97, 98, 99, 100, 101, 102] (by decide +kernel) (by decide +kernel)) (goodIn_sub (fun _ h => List.mem_cons_of_mem _ (List.mem_append_left _ (List.mem_append_left _ (List.mem_append_right _ h)))) (by decide +kernel))) (goodIn_sub (fun _ h => List.mem_cons_of_mem _ (List.mem_append_left _ (List.mem_append_right _ h))) (by decide +kernel))) (goodIn_sub (fun _ h => List.mem_cons_of_mem _ (List.mem_append_right _ h)) (by decide +kernel))
set_option maxRecDepth 20000 in
theorem gX9_ifCracked_X9_mustBeAnswer : GoodIn wsX9_ifCracked (va_wsS RX9 304 yX9_mustBeAnswer wsX9_mustBeAnswer) := goodIn_app (goodIn_of _ (by decide +kernel)) ggX9_ifCracked_X9_mustBeAnswer
set_option maxRecDepth 20000 in
theorem ggX9_ifCracked_X1_fakesIn : GoodIn wsX9_ifCracked wsX1_fakesIn := goodIn_r _ [107, 108, 109, 110, 106, 111, 112, 113, 114, 115, 116, 117, 118, 119, 120, 121, 122, 123, 124, 125, 126, 127, 35, 128, 40, 42, 129, 130, 131, 132, 81, 82, 83, 84, 43, 133, 134, 135, 136, 41, 137, 138, 139, 140, 141, 142, 26, 143, 28, 31, 144, 145, 146, 147, 148, 149, 150, 151, 152, 153, 154, 155, 156, 157, 158, 159, 160, 161, 162, 29, 163, 164, 165, 166, 167, 168, 169, 170, 171, 172, 173, 174, 175, 176, 177, 178, 179, 180, 181, 182, 183, 184, 185, 186, 187, 188, 189, 190, 191, 192, 193, 194, 195, 196, 197, 198, 199, 200, 201, 202, 203, 204, 205, 206, 207, 208, 209, 217, 218, 219, 220, 221, 231, 232, 233, 234, 235, 236, 237, 240, 241, 242, 243, 244, 245, 225, 226, 227, 228, 229, 230, 222, 223, 224, 246, 247, 248] (by decide +kernel) (by decide +kernel)
set_option maxRecDepth 20000 in
theorem gX9_ifCracked_X1_fakesIn : GoodIn wsX9_ifCracked (wsV RX9 318 RX1 yX1_fakesIn wsX1_fakesIn) := goodIn_app (goodIn_of _ (by decide +kernel)) ggX9_ifCracked_X1_fakesIn
theorem dX9_ifCracked_0 : decode cX9_ifCracked 0 = .ok (.aload_n 0, 1) := by decide +kernel
theorem dX9_ifCracked_1 : decode cX9_ifCracked 1 = .ok (.invokevirtual 254, 3) := by decide +kernel
theorem dX9_ifCracked_4 : decode cX9_ifCracked 4 = .ok (.iload_n 1, 1) := by decide +kernel
theorem dX9_ifCracked_5 : decode cX9_ifCracked 5 = .ok (.iload_n 2, 1) := by decide +kernel
theorem dX9_ifCracked_6 : decode cX9_ifCracked 6 = .ok (.invokevirtual 268, 3) := by decide +kernel
theorem dX9_ifCracked_9 : decode cX9_ifCracked 9 = .ok (.invokestatic 304, 3) := by decide +kernel
theorem dX9_ifCracked_12 : decode cX9_ifCracked 12 = .ok (.aload_n 0, 1) := by decide +kernel
theorem dX9_ifCracked_13 : decode cX9_ifCracked 13 = .ok (.getfield 19, 3) := by decide +kernel
theorem dX9_ifCracked_16 : decode cX9_ifCracked 16 = .ok (.aload_n 0, 1) := by decide +kernel
theorem dX9_ifCracked_17 : decode cX9_ifCracked 17 = .ok (.getfield 45, 3) := by decide +kernel
theorem dX9_ifCracked_20 : decode cX9_ifCracked 20 = .ok (.invokevirtual 318, 3) := by decide +kernel
theorem dX9_ifCracked_23 : decode cX9_ifCracked 23 = .ok (.aload_n 0, 1) := by decide +kernel
theorem dX9_ifCracked_24 : decode cX9_ifCracked 24 = .ok (.getfield 19, 3) := by decide +kernel
theorem dX9_ifCracked_27 : decode cX9_ifCracked 27 = .ok (.aload_n 0, 1) := by decide +kernel
theorem dX9_ifCracked_28 : decode cX9_ifCracked 28 = .ok (.getfield 41, 3) := by decide +kernel
theorem dX9_ifCracked_31 : decode cX9_ifCracked 31 = .ok (.invokevirtual 318, 3) := by decide +kernel
theorem dX9_ifCracked_34 : decode cX9_ifCracked 34 = .ok (.isub, 1) := by decide +kernel
theorem dX9_ifCracked_35 : decode cX9_ifCracked 35 = .ok (.ireturn, 1) := by decide +kernel
set_option maxRecDepth 20000 in
theorem ggX9_ifHung_X9_freshTrial : GoodIn wsX9_ifHung wsX9_freshTrial := goodIn_r _ [9, 2, 10, 11, 12, 13, 14, 15, 16, 17, 18, 19, 20, 21, 22, 23, 24, 25, 26, 27, 28, 29, 30, 31, 32, 33, 34, 35, 36, 37, 38, 39, 40, 41, 42, 43, 44, 45, 46, 47, 48, 49, 50, 51, 52, 53, 54, 55, 56, 57, 58, 59, 60, 61, 62, 63, 64, 65, 66, 207, 208, 209, 210, 211, 212, 213, 220, 221, 222, 223, 224, 225, 226, 227, 228, 229, 230, 231, 232, 233, 234, 235, 236, 237, 238, 239, 240, 241, 242] (by decide +kernel) (by decide +kernel)
set_option maxRecDepth 20000 in
theorem gX9_ifHung_X9_freshTrial : GoodIn wsX9_ifHung (wsV RX9 254 RX9 yX9_freshTrial wsX9_freshTrial) := goodIn_app (goodIn_of _ (by decide +kernel)) ggX9_ifHung_X9_freshTrial
set_option maxRecDepth 20000 in
theorem ggX9_ifHung_X6_hangOn : GoodIn wsX9_ifHung wsX6_hangOn := goodIn_r _ [70, 18, 71, 72, 73, 74, 49, 75, 51, 76, 8, 77, 78, 79, 80, 81, 58, 220, 221, 222, 223, 224, 234, 235, 236, 237, 238, 239, 240] (by decide +kernel) (by decide +kernel)
set_option maxRecDepth 20000 in
theorem gX9_ifHung_X6_hangOn : GoodIn wsX9_ifHung (wsV RX9 278 RX6 yX6_hangOn wsX6_hangOn) := goodIn_app (goodIn_of _ (by decide +kernel)) ggX9_ifHung_X6_hangOn
set_option maxRecDepth 20000 in
theorem ggX9_ifHung_X9_mustBeAnswer : GoodIn wsX9_ifHung wsX9_mustBeAnswer := goodIn_ca (goodIn_ca (goodIn_ca (goodIn_r _ [84, 85, 86, 8, 87, 88, 89, 90, 91, 92, 93, 94, 95, 96, 97, 98, 99] (by decide +kernel) (by decide +kernel)) (goodIn_sub (fun _ h => List.mem_cons_of_mem _ (List.mem_append_left _ (List.mem_append_left _ (List.mem_append_right _ h)))) (by decide +kernel))) (goodIn_sub (fun _ h => List.mem_cons_of_mem _ (List.mem_append_left _ (List.mem_append_right _ h))) (by decide +kernel))) (goodIn_sub (fun _ h => List.mem_cons_of_mem _ (List.mem_append_right _ h)) (by decide +kernel))
set_option maxRecDepth 20000 in
theorem gX9_ifHung_X9_mustBeAnswer : GoodIn wsX9_ifHung (va_wsS RX9 304 yX9_mustBeAnswer wsX9_mustBeAnswer) := goodIn_app (goodIn_of _ (by decide +kernel)) ggX9_ifHung_X9_mustBeAnswer
set_option maxRecDepth 20000 in
theorem ggX9_ifHung_X1_look : GoodIn wsX9_ifHung wsX1_look := goodIn_r _ [104, 105, 106, 107, 103, 108, 109, 110, 111, 112, 113, 114, 115, 116, 117, 118, 119, 120, 37, 121, 42, 44, 122, 123, 124, 125, 126, 127, 128, 129, 45, 130, 131, 132, 133, 43, 134, 135, 136, 137, 138, 139, 28, 140, 30, 33, 141, 142, 143, 144, 145, 146, 147, 148, 149, 150, 151, 152, 153, 154, 155, 156, 157, 158, 159, 31, 160, 161, 162, 163, 164, 165, 166, 167, 168, 169, 170, 171, 172, 173, 174, 175, 176, 177, 178, 179, 180, 181, 182, 183, 184, 185, 186, 187, 188, 189, 190, 191, 192, 193, 194, 195, 196, 197, 198, 199, 200, 201, 202, 220, 221, 222, 223, 224, 234, 235, 236, 237, 238, 239, 240, 214, 215, 216, 217, 218, 219, 228, 229, 230, 231, 232, 233, 225, 226, 227, 243, 244, 245] (by decide +kernel) (by decide +kernel)
set_option maxRecDepth 20000 in
theorem gX9_ifHung_X1_look : GoodIn wsX9_ifHung (wsV RX9 89 RX1 yX1_look wsX1_look) := goodIn_app (goodIn_of _ (by decide +kernel)) ggX9_ifHung_X1_look
set_option maxRecDepth 20000 in
theorem ggX9_ifHung_X8_count : GoodIn wsX9_ifHung wsX8_count := goodIn_r _ [206, 153, 146, 154, 123, 124, 125, 147, 155, 135, 136, 156, 157, 158, 28, 159, 31, 164, 165, 166, 167, 30, 160, 161, 162, 144, 163, 148, 225, 226, 227, 243, 244, 245] (by decide +kernel) (by decide +kernel)
set_option maxRecDepth 20000 in
theorem gX9_ifHung_X8_count : GoodIn wsX9_ifHung (wsV RX9 220 RX8 yX8_count wsX8_count) := goodIn_app (goodIn_of _ (by decide +kernel)) ggX9_ifHung_X8_count
theorem dX9_ifHung_0 : decode cX9_ifHung 0 = .ok (.aload_n 0, 1) := by decide +kernel
theorem dX9_ifHung_1 : decode cX9_ifHung 1 = .ok (.invokevirtual 254, 3) := by decide +kernel
theorem dX9_ifHung_4 : decode cX9_ifHung 4 = .ok (.iload_n 1, 1) := by decide +kernel
theorem dX9_ifHung_5 : decode cX9_ifHung 5 = .ok (.iload_n 2, 1) := by decide +kernel
theorem dX9_ifHung_6 : decode cX9_ifHung 6 = .ok (.invokevirtual 278, 3) := by decide +kernel
theorem dX9_ifHung_9 : decode cX9_ifHung 9 = .ok (.invokestatic 304, 3) := by decide +kernel
theorem dX9_ifHung_12 : decode cX9_ifHung 12 = .ok (.aload_n 0, 1) := by decide +kernel
theorem dX9_ifHung_13 : decode cX9_ifHung 13 = .ok (.getfield 19, 3) := by decide +kernel
theorem dX9_ifHung_16 : decode cX9_ifHung 16 = .ok (.aload_n 0, 1) := by decide +kernel
theorem dX9_ifHung_17 : decode cX9_ifHung 17 = .ok (.getfield 45, 3) := by decide +kernel
theorem dX9_ifHung_20 : decode cX9_ifHung 20 = .ok (.invokevirtual 89, 3) := by decide +kernel
theorem dX9_ifHung_23 : decode cX9_ifHung 23 = .ok (.aload_n 0, 1) := by decide +kernel
theorem dX9_ifHung_24 : decode cX9_ifHung 24 = .ok (.getfield 19, 3) := by decide +kernel
theorem dX9_ifHung_27 : decode cX9_ifHung 27 = .ok (.getfield 238, 3) := by decide +kernel
theorem dX9_ifHung_30 : decode cX9_ifHung 30 = .ok (.iload_n 2, 1) := by decide +kernel
theorem dX9_ifHung_31 : decode cX9_ifHung 31 = .ok (.aaload, 1) := by decide +kernel
theorem dX9_ifHung_32 : decode cX9_ifHung 32 = .ok (.aload_n 0, 1) := by decide +kernel
theorem dX9_ifHung_33 : decode cX9_ifHung 33 = .ok (.getfield 45, 3) := by decide +kernel
theorem dX9_ifHung_36 : decode cX9_ifHung 36 = .ok (.getfield 93, 3) := by decide +kernel
theorem dX9_ifHung_39 : decode cX9_ifHung 39 = .ok (.invokevirtual 220, 3) := by decide +kernel
theorem dX9_ifHung_42 : decode cX9_ifHung 42 = .ok (.ireturn, 1) := by decide +kernel
set_option maxRecDepth 20000 in
theorem ggX9_inYear_X9_isYear : GoodIn wsX9_inYear wsX9_isYear := goodIn_r _ [6] (by decide +kernel) (by decide +kernel)
set_option maxRecDepth 20000 in
theorem gX9_inYear_X9_isYear : GoodIn wsX9_inYear (va_wsS RX9 225 yX9_isYear wsX9_isYear) := goodIn_app (goodIn_of _ (by decide +kernel)) ggX9_inYear_X9_isYear
set_option maxRecDepth 20000 in
theorem ggX9_inYear_X9_mustFit : GoodIn wsX9_inYear wsX9_mustFit := goodIn_ca (goodIn_r _ [9, 10, 11] (by decide +kernel) (by decide +kernel)) (goodIn_sub (fun _ h => List.mem_cons_of_mem _ (List.mem_append_right _ h)) (by decide +kernel))
set_option maxRecDepth 20000 in
theorem gX9_inYear_X9_mustFit : GoodIn wsX9_inYear (va_wsS RX9 48 yX9_mustFit wsX9_mustFit) := goodIn_app (goodIn_of _ (by decide +kernel)) ggX9_inYear_X9_mustFit
set_option maxRecDepth 20000 in
theorem ggX9_inYear_X1_look : GoodIn wsX9_inYear wsX1_look := goodIn_r _ [16, 17, 18, 19, 15, 20, 21, 22, 23, 24, 25, 26, 27, 28, 29, 30, 31, 32, 33, 34, 35, 36, 37, 38, 39, 40, 41, 42, 43, 44, 45, 46, 47, 48, 49, 50, 51, 52, 53, 54, 55, 56, 57, 58, 59, 60, 61, 62, 63, 64, 65, 66, 67, 68, 69, 70, 71, 72, 73, 74, 75, 76, 77, 78, 79, 80, 81, 82, 83, 84, 85, 86, 87, 88, 89, 90, 91, 92, 93, 94, 95, 96, 97, 98, 99, 100, 101, 102, 103, 104, 105, 106, 107, 108, 109, 110, 111, 112, 113, 114, 115, 116, 117, 118, 119, 120, 121, 122, 123, 143, 144, 145, 146, 147, 148, 149, 150, 151, 152, 153, 154, 155, 156, 157, 158, 159, 160, 161, 162, 163, 164, 165, 166, 167, 168, 169, 170, 171, 172] (by decide +kernel) (by decide +kernel)
set_option maxRecDepth 20000 in
theorem gX9_inYear_X1_look : GoodIn wsX9_inYear (wsV RX9 89 RX1 yX1_look wsX1_look) := goodIn_app (goodIn_of _ (by decide +kernel)) ggX9_inYear_X1_look
set_option maxRecDepth 20000 in
theorem ggX9_inYear_X1_genuineIn : GoodIn wsX9_inYear wsX1_genuineIn := goodIn_r _ [127, 21, 22, 93, 26, 27, 128, 129, 130, 64, 131, 66, 67, 132, 133, 134, 57, 135, 59, 80, 81, 82, 83, 84, 68, 143, 144, 145, 146, 147, 148, 149, 150, 151, 152, 153, 154, 155, 156, 157, 158, 159, 160, 170, 171, 172, 167, 168, 169] (by decide +kernel) (by decide +kernel)
set_option maxRecDepth 20000 in
theorem gX9_inYear_X1_genuineIn : GoodIn wsX9_inYear (wsV RX9 321 RX1 yX1_genuineIn wsX1_genuineIn) := goodIn_app (goodIn_of _ (by decide +kernel)) ggX9_inYear_X1_genuineIn
theorem dX9_inYear_0 : decode cX9_inYear 0 = .ok (.iload_n 1, 1) := by decide +kernel
theorem dX9_inYear_1 : decode cX9_inYear 1 = .ok (.invokestatic 225, 3) := by decide +kernel
theorem dX9_inYear_4 : decode cX9_inYear 4 = .ok (.invokestatic 48, 3) := by decide +kernel
theorem dX9_inYear_7 : decode cX9_inYear 7 = .ok (.aload_n 0, 1) := by decide +kernel
theorem dX9_inYear_8 : decode cX9_inYear 8 = .ok (.getfield 19, 3) := by decide +kernel
theorem dX9_inYear_11 : decode cX9_inYear 11 = .ok (.aload_n 0, 1) := by decide +kernel
theorem dX9_inYear_12 : decode cX9_inYear 12 = .ok (.getfield 41, 3) := by decide +kernel
theorem dX9_inYear_15 : decode cX9_inYear 15 = .ok (.invokevirtual 89, 3) := by decide +kernel
theorem dX9_inYear_18 : decode cX9_inYear 18 = .ok (.aload_n 0, 1) := by decide +kernel
theorem dX9_inYear_19 : decode cX9_inYear 19 = .ok (.getfield 19, 3) := by decide +kernel
theorem dX9_inYear_22 : decode cX9_inYear 22 = .ok (.aload_n 0, 1) := by decide +kernel
theorem dX9_inYear_23 : decode cX9_inYear 23 = .ok (.getfield 41, 3) := by decide +kernel
theorem dX9_inYear_26 : decode cX9_inYear 26 = .ok (.iload_n 1, 1) := by decide +kernel
theorem dX9_inYear_27 : decode cX9_inYear 27 = .ok (.invokevirtual 321, 3) := by decide +kernel
theorem dX9_inYear_30 : decode cX9_inYear 30 = .ok (.ireturn, 1) := by decide +kernel
set_option maxRecDepth 20000 in
theorem ggX9_leastBubbles_X9_isMaterial : GoodIn wsX9_leastBubbles wsX9_isMaterial := goodIn_r _ [6] (by decide +kernel) (by decide +kernel)
set_option maxRecDepth 20000 in
theorem gX9_leastBubbles_X9_isMaterial : GoodIn wsX9_leastBubbles (va_wsS RX9 324 yX9_isMaterial wsX9_isMaterial) := goodIn_app (goodIn_of _ (by decide +kernel)) ggX9_leastBubbles_X9_isMaterial
set_option maxRecDepth 20000 in
theorem ggX9_leastBubbles_X9_mustFit : GoodIn wsX9_leastBubbles wsX9_mustFit := goodIn_ca (goodIn_r _ [9, 10, 11] (by decide +kernel) (by decide +kernel)) (goodIn_sub (fun _ h => List.mem_cons_of_mem _ (List.mem_append_right _ h)) (by decide +kernel))
set_option maxRecDepth 20000 in
theorem gX9_leastBubbles_X9_mustFit : GoodIn wsX9_leastBubbles (va_wsS RX9 48 yX9_mustFit wsX9_mustFit) := goodIn_app (goodIn_of _ (by decide +kernel)) ggX9_leastBubbles_X9_mustFit
set_option maxRecDepth 20000 in
theorem ggX9_leastBubbles_X9_freshTrial : GoodIn wsX9_leastBubbles wsX9_freshTrial := goodIn_r _ [15, 2, 16, 17, 18, 19, 20, 21, 22, 23, 24, 25, 26, 27, 28, 29, 30, 31, 32, 33, 34, 35, 36, 37, 38, 39, 40, 41, 42, 43, 44, 45, 46, 47, 48, 49, 50, 51, 52, 53, 54, 55, 56, 57, 58, 59, 60, 61, 62, 63, 64, 65, 66, 67, 68, 69, 70, 71, 72, 190, 191, 192, 193, 194, 195, 196, 197, 198, 199, 200, 201, 202, 203, 204, 205, 206, 207, 208, 209, 210, 211, 212, 213, 214, 215, 216, 217, 218, 219] (by decide +kernel) (by decide +kernel)
set_option maxRecDepth 20000 in
theorem gX9_leastBubbles_X9_freshTrial : GoodIn wsX9_leastBubbles (wsV RX9 254 RX9 yX9_freshTrial wsX9_freshTrial) := goodIn_app (goodIn_of _ (by decide +kernel)) ggX9_leastBubbles_X9_freshTrial
set_option maxRecDepth 20000 in
theorem ggX9_leastBubbles_X1_date : GoodIn wsX9_leastBubbles wsX1_date := goodIn_r _ [77, 78, 79, 80, 81, 82, 83, 84, 85, 86, 87, 88, 89, 43, 90, 48, 50, 91, 92, 93, 94, 95, 96, 97, 98, 51, 99, 100, 101, 102, 49, 103, 104, 105, 106, 107, 108, 34, 109, 36, 39, 110, 111, 112, 113, 114, 115, 116, 117, 118, 119, 120, 121, 122, 123, 124, 125, 126, 127, 128, 37, 129, 130, 131, 132, 133, 134, 135, 136, 197, 198, 199, 200, 201, 211, 212, 213, 214, 215, 216, 217, 220, 221, 222, 223, 224, 225, 205, 206, 207, 208, 209, 210, 202, 203, 204, 226, 227, 228] (by decide +kernel) (by decide +kernel)
set_option maxRecDepth 20000 in
theorem gX9_leastBubbles_X1_date : GoodIn wsX9_leastBubbles (wsV RX9 327 RX1 yX1_date wsX1_date) := goodIn_app (goodIn_of _ (by decide +kernel)) ggX9_leastBubbles_X1_date
set_option maxRecDepth 20000 in
theorem ggX9_leastBubbles_X9_mayTellMore : GoodIn wsX9_leastBubbles wsX9_mayTellMore := goodIn_r _ [140, 2, 141, 142, 143, 144, 55, 145, 57, 60, 62, 190, 191, 192, 193, 194, 195, 196, 197, 198, 199, 200, 201, 211, 212, 213, 214, 215, 216, 217] (by decide +kernel) (by decide +kernel)
set_option maxRecDepth 20000 in
theorem gX9_leastBubbles_X9_mayTellMore : GoodIn wsX9_leastBubbles (wsV RX9 330 RX9 yX9_mayTellMore wsX9_mayTellMore) := goodIn_app (goodIn_of _ (by decide +kernel)) ggX9_leastBubbles_X9_mayTellMore
set_option maxRecDepth 20000 in
theorem ggX9_leastBubbles_X9_fakesWith : GoodIn wsX9_leastBubbles wsX9_fakesWith := goodIn_r _ [149, 2, 150, 1, 151, 152, 153, 76, 154, 78, 79, 155, 156, 157, 84, 158, 159, 160, 161, 162, 163, 164, 83, 86, 165, 166, 167, 168, 110, 111, 112, 113, 114, 115, 116, 117, 169, 170, 171, 172, 173, 174, 175, 176, 177, 123, 92, 93, 94, 124, 104, 105, 178, 179, 180, 181, 118, 119, 120, 121, 122, 125, 126, 127, 34, 128, 37, 129, 130, 131, 132, 133, 134, 135, 136, 36, 182, 183, 184, 185, 186, 187, 188, 189, 190, 191, 192, 193, 194, 195, 196, 197, 198, 199, 200, 201, 211, 212, 213, 214, 215, 216, 217, 220, 221, 222, 223, 224, 225, 226, 227, 228, 202, 203, 204] (by decide +kernel) (by decide +kernel)
set_option maxRecDepth 20000 in
theorem gX9_leastBubbles_X9_fakesWith : GoodIn wsX9_leastBubbles (wsV RX9 334 RX9 yX9_fakesWith wsX9_fakesWith) := goodIn_app (goodIn_of _ (by decide +kernel)) ggX9_leastBubbles_X9_fakesWith
theorem dX9_leastBubbles_0 : decode cX9_leastBubbles 0 = .ok (.iload_n 1, 1) := by decide +kernel
theorem dX9_leastBubbles_1 : decode cX9_leastBubbles 1 = .ok (.invokestatic 324, 3) := by decide +kernel
theorem dX9_leastBubbles_4 : decode cX9_leastBubbles 4 = .ok (.ifCond .eq 11, 3) := by decide +kernel
theorem dX9_leastBubbles_7 : decode cX9_leastBubbles 7 = .ok (.iload_n 2, 1) := by decide +kernel
theorem dX9_leastBubbles_8 : decode cX9_leastBubbles 8 = .ok (.ifCond .lt 7, 3) := by decide +kernel
theorem dX9_leastBubbles_11 : decode cX9_leastBubbles 11 = .ok (.iconst 1, 1) := by decide +kernel
theorem dX9_leastBubbles_12 : decode cX9_leastBubbles 12 = .ok (.goto 4, 3) := by decide +kernel
theorem dX9_leastBubbles_15 : decode cX9_leastBubbles 15 = .ok (.iconst 0, 1) := by decide +kernel
theorem dX9_leastBubbles_16 : decode cX9_leastBubbles 16 = .ok (.invokestatic 48, 3) := by decide +kernel
theorem dX9_leastBubbles_19 : decode cX9_leastBubbles 19 = .ok (.aload_n 0, 1) := by decide +kernel
theorem dX9_leastBubbles_20 : decode cX9_leastBubbles 20 = .ok (.invokevirtual 254, 3) := by decide +kernel
theorem dX9_leastBubbles_23 : decode cX9_leastBubbles 23 = .ok (.pop, 1) := by decide +kernel
theorem dX9_leastBubbles_24 : decode cX9_leastBubbles 24 = .ok (.aload_n 0, 1) := by decide +kernel
theorem dX9_leastBubbles_25 : decode cX9_leastBubbles 25 = .ok (.getfield 19, 3) := by decide +kernel
theorem dX9_leastBubbles_28 : decode cX9_leastBubbles 28 = .ok (.aload_n 0, 1) := by decide +kernel
theorem dX9_leastBubbles_29 : decode cX9_leastBubbles 29 = .ok (.getfield 45, 3) := by decide +kernel
theorem dX9_leastBubbles_32 : decode cX9_leastBubbles 32 = .ok (.invokevirtual 327, 3) := by decide +kernel
theorem dX9_leastBubbles_35 : decode cX9_leastBubbles 35 = .ok (.iconst 0, 1) := by decide +kernel
theorem dX9_leastBubbles_36 : decode cX9_leastBubbles 36 = .ok (.istore_n 3, 1) := by decide +kernel
theorem dX9_leastBubbles_37 : decode cX9_leastBubbles 37 = .ok (.iload_n 3, 1) := by decide +kernel
theorem dX9_leastBubbles_38 : decode cX9_leastBubbles 38 = .ok (.bipush 99, 2) := by decide +kernel
theorem dX9_leastBubbles_40 : decode cX9_leastBubbles 40 = .ok (.if_icmp .gt 30, 3) := by decide +kernel
theorem dX9_leastBubbles_43 : decode cX9_leastBubbles 43 = .ok (.aload_n 0, 1) := by decide +kernel
theorem dX9_leastBubbles_44 : decode cX9_leastBubbles 44 = .ok (.iload_n 1, 1) := by decide +kernel
theorem dX9_leastBubbles_45 : decode cX9_leastBubbles 45 = .ok (.iload_n 3, 1) := by decide +kernel
theorem dX9_leastBubbles_46 : decode cX9_leastBubbles 46 = .ok (.invokevirtual 330, 3) := by decide +kernel
theorem dX9_leastBubbles_49 : decode cX9_leastBubbles 49 = .ok (.ifCond .eq 15, 3) := by decide +kernel
theorem dX9_leastBubbles_52 : decode cX9_leastBubbles 52 = .ok (.aload_n 0, 1) := by decide +kernel
theorem dX9_leastBubbles_53 : decode cX9_leastBubbles 53 = .ok (.iload_n 1, 1) := by decide +kernel
theorem dX9_leastBubbles_54 : decode cX9_leastBubbles 54 = .ok (.iload_n 3, 1) := by decide +kernel
theorem dX9_leastBubbles_55 : decode cX9_leastBubbles 55 = .ok (.invokevirtual 334, 3) := by decide +kernel
theorem dX9_leastBubbles_58 : decode cX9_leastBubbles 58 = .ok (.iload_n 2, 1) := by decide +kernel
theorem dX9_leastBubbles_59 : decode cX9_leastBubbles 59 = .ok (.if_icmp .gt 5, 3) := by decide +kernel
theorem dX9_leastBubbles_62 : decode cX9_leastBubbles 62 = .ok (.iload_n 3, 1) := by decide +kernel
theorem dX9_leastBubbles_63 : decode cX9_leastBubbles 63 = .ok (.ireturn, 1) := by decide +kernel
theorem dX9_leastBubbles_64 : decode cX9_leastBubbles 64 = .ok (.iinc 3 1, 3) := by decide +kernel
theorem dX9_leastBubbles_67 : decode cX9_leastBubbles 67 = .ok (.goto (-30), 3) := by decide +kernel
theorem dX9_leastBubbles_70 : decode cX9_leastBubbles 70 = .ok (.iconst (-1), 1) := by decide +kernel
theorem dX9_leastBubbles_71 : decode cX9_leastBubbles 71 = .ok (.ireturn, 1) := by decide +kernel
set_option maxRecDepth 20000 in
theorem ggX9_mayTellMore_X4_haveBubbles : GoodIn wsX9_mayTellMore wsX4_haveBubbles := goodIn_r _ [7, 8, 9, 10, 23, 24, 25, 26, 27, 28, 29] (by decide +kernel) (by decide +kernel)
set_option maxRecDepth 20000 in
theorem gX9_mayTellMore_X4_haveBubbles : GoodIn wsX9_mayTellMore (wsV RX9 337 RX4 yX4_haveBubbles wsX4_haveBubbles) := goodIn_app (goodIn_of _ (by decide +kernel)) ggX9_mayTellMore_X4_haveBubbles
theorem dX9_mayTellMore_0 : decode cX9_mayTellMore 0 = .ok (.iload_n 2, 1) := by decide +kernel
theorem dX9_mayTellMore_1 : decode cX9_mayTellMore 1 = .ok (.ifCond .eq 18, 3) := by decide +kernel
theorem dX9_mayTellMore_4 : decode cX9_mayTellMore 4 = .ok (.aload_n 0, 1) := by decide +kernel
theorem dX9_mayTellMore_5 : decode cX9_mayTellMore 5 = .ok (.getfield 45, 3) := by decide +kernel
theorem dX9_mayTellMore_8 : decode cX9_mayTellMore 8 = .ok (.getfield 109, 3) := by decide +kernel
theorem dX9_mayTellMore_11 : decode cX9_mayTellMore 11 = .ok (.iload_n 1, 1) := by decide +kernel
theorem dX9_mayTellMore_12 : decode cX9_mayTellMore 12 = .ok (.iload_n 2, 1) := by decide +kernel
theorem dX9_mayTellMore_13 : decode cX9_mayTellMore 13 = .ok (.invokevirtual 337, 3) := by decide +kernel
theorem dX9_mayTellMore_16 : decode cX9_mayTellMore 16 = .ok (.ifCond .eq 7, 3) := by decide +kernel
theorem dX9_mayTellMore_19 : decode cX9_mayTellMore 19 = .ok (.iconst 1, 1) := by decide +kernel
theorem dX9_mayTellMore_20 : decode cX9_mayTellMore 20 = .ok (.goto 4, 3) := by decide +kernel
theorem dX9_mayTellMore_23 : decode cX9_mayTellMore 23 = .ok (.iconst 0, 1) := by decide +kernel
theorem dX9_mayTellMore_24 : decode cX9_mayTellMore 24 = .ok (.ireturn, 1) := by decide +kernel
set_option maxRecDepth 20000 in
theorem ggX9_fakesWith_X1_blame : GoodIn wsX9_fakesWith wsX1_blame := goodIn_r _ [8, 9, 10, 11, 12, 13, 14, 15, 16, 17, 7, 18, 19, 20, 21, 22, 23, 24, 25, 26, 27, 28, 29, 30, 31, 32, 33, 34, 35, 36, 37, 38, 39, 40, 41, 42, 43, 44, 45, 46, 47, 48, 49, 50, 51, 52, 53, 54, 55, 56, 57, 58, 59, 60, 61, 62, 63, 64, 65, 66, 67, 68, 69, 70, 71, 72, 73, 74, 75, 76, 77, 78, 79, 91, 92, 93, 94, 95, 96, 97, 98, 99, 100, 101, 102, 103, 104, 105, 106, 107, 108, 109, 110, 111, 112, 113, 114] (by decide +kernel) (by decide +kernel)
set_option maxRecDepth 20000 in
theorem gX9_fakesWith_X1_blame : GoodIn wsX9_fakesWith (wsV RX9 343 RX1 yX1_blame wsX1_blame) := goodIn_app (goodIn_of _ (by decide +kernel)) ggX9_fakesWith_X1_blame
set_option maxRecDepth 20000 in
theorem ggX9_fakesWith_X1_fakes : GoodIn wsX9_fakesWith wsX1_fakes := goodIn_r _ [83, 9, 10, 11, 91, 92, 93, 94, 95, 96, 97, 98, 99, 100, 101, 102, 103, 104, 105, 106, 107, 108] (by decide +kernel) (by decide +kernel)
set_option maxRecDepth 20000 in
theorem gX9_fakesWith_X1_fakes : GoodIn wsX9_fakesWith (wsV RX9 116 RX1 yX1_fakes wsX1_fakes) := goodIn_app (goodIn_of _ (by decide +kernel)) ggX9_fakesWith_X1_fakes
theorem dX9_fakesWith_0 : decode cX9_fakesWith 0 = .ok (.aload_n 0, 1) := by decide +kernel
theorem dX9_fakesWith_1 : decode cX9_fakesWith 1 = .ok (.getfield 45, 3) := by decide +kernel
theorem dX9_fakesWith_4 : decode cX9_fakesWith 4 = .ok (.getfield 340, 3) := by decide +kernel
theorem dX9_fakesWith_7 : decode cX9_fakesWith 7 = .ok (.iload_n 1, 1) := by decide +kernel
theorem dX9_fakesWith_8 : decode cX9_fakesWith 8 = .ok (.iload_n 2, 1) := by decide +kernel
theorem dX9_fakesWith_9 : decode cX9_fakesWith 9 = .ok (.iastore, 1) := by decide +kernel
theorem dX9_fakesWith_10 : decode cX9_fakesWith 10 = .ok (.aload_n 0, 1) := by decide +kernel
theorem dX9_fakesWith_11 : decode cX9_fakesWith 11 = .ok (.getfield 19, 3) := by decide +kernel
theorem dX9_fakesWith_14 : decode cX9_fakesWith 14 = .ok (.aload_n 0, 1) := by decide +kernel
theorem dX9_fakesWith_15 : decode cX9_fakesWith 15 = .ok (.getfield 45, 3) := by decide +kernel
theorem dX9_fakesWith_18 : decode cX9_fakesWith 18 = .ok (.invokevirtual 343, 3) := by decide +kernel
theorem dX9_fakesWith_21 : decode cX9_fakesWith 21 = .ok (.aload_n 0, 1) := by decide +kernel
theorem dX9_fakesWith_22 : decode cX9_fakesWith 22 = .ok (.getfield 19, 3) := by decide +kernel
theorem dX9_fakesWith_25 : decode cX9_fakesWith 25 = .ok (.aload_n 0, 1) := by decide +kernel
theorem dX9_fakesWith_26 : decode cX9_fakesWith 26 = .ok (.getfield 45, 3) := by decide +kernel
theorem dX9_fakesWith_29 : decode cX9_fakesWith 29 = .ok (.invokevirtual 116, 3) := by decide +kernel
theorem dX9_fakesWith_32 : decode cX9_fakesWith 32 = .ok (.ireturn, 1) := by decide +kernel
set_option maxRecDepth 20000 in
theorem ggX9_runScript_X9_mustFit : GoodIn wsX9_runScript wsX9_mustFit := goodIn_ca (goodIn_r _ [5, 6, 7] (by decide +kernel) (by decide +kernel)) (goodIn_sub (fun _ h => List.mem_cons_of_mem _ (List.mem_append_right _ h)) (by decide +kernel))
set_option maxRecDepth 20000 in
theorem gX9_runScript_X9_mustFit : GoodIn wsX9_runScript (va_wsS RX9 48 yX9_mustFit wsX9_mustFit) := goodIn_app (goodIn_of _ (by decide +kernel)) ggX9_runScript_X9_mustFit
set_option maxRecDepth 20000 in
theorem ggX9_runScript_X9_freshTrial : GoodIn wsX9_runScript wsX9_freshTrial := goodIn_r _ [11, 12, 13, 14, 15, 16, 17, 18, 19, 20, 21, 22, 23, 24, 25, 26, 27, 28, 29, 30, 31, 32, 33, 34, 35, 36, 37, 38, 39, 40, 41, 42, 43, 44, 45, 46, 47, 48, 49, 50, 51, 52, 53, 54, 55, 56, 57, 58, 59, 60, 61, 62, 63, 64, 65, 66, 67, 68, 69, 312, 313, 314, 315, 316, 317, 318, 319, 320, 321, 322, 323, 324, 325, 326, 327, 328, 329, 330, 331, 332, 333, 334, 335, 336, 337, 338, 339, 340, 341] (by decide +kernel) (by decide +kernel)
set_option maxRecDepth 20000 in
theorem gX9_runScript_X9_freshTrial : GoodIn wsX9_runScript (wsV RX9 254 RX9 yX9_freshTrial wsX9_freshTrial) := goodIn_app (goodIn_of _ (by decide +kernel)) ggX9_runScript_X9_freshTrial
set_option maxRecDepth 20000 in
theorem ggX9_runScript_X9_succeeds : GoodIn wsX9_runScript wsX9_succeeds := goodIn_r _ [73, 74, 12, 75, 76, 77, 78, 17, 79, 20, 80, 81, 82, 83, 84, 40, 85, 42, 86, 4, 87, 88, 89, 90, 91, 47, 92, 93, 94, 95, 48, 96, 97, 98, 99, 21, 100, 101, 102, 103, 52, 104, 54, 105, 106, 107, 108, 109, 110, 61, 111, 112, 113, 114, 115, 116, 117, 118, 22, 119, 120, 121, 122, 123, 124, 65, 125, 67, 126, 127, 128, 129, 130, 131, 132, 133, 69, 134, 135, 136, 137, 138, 139, 140, 141, 142, 143, 144, 145, 146, 147, 148, 149, 150, 151, 152, 153, 154, 155, 156, 157, 158, 159, 160, 161, 162, 163, 164, 165, 166, 167, 168, 169, 170, 171, 172, 173, 174, 175, 176, 177, 178, 25, 26, 27, 179, 180, 181, 182, 183, 184, 185, 186, 187, 188, 189, 190, 191, 192, 193, 194, 195, 196, 197, 198, 199, 200, 45, 201, 202, 203, 204, 205, 206, 207, 208, 46, 209, 210, 211, 212, 213, 214, 31, 215, 33, 36, 216, 217, 218, 219, 220, 221, 222, 223, 224, 225, 226, 227, 228, 229, 230, 231, 232, 233, 234, 34, 235, 236, 237, 238, 239, 240, 241, 242, 243, 244, 245, 246, 247, 248, 249, 250, 251, 252, 253, 254, 255, 256, 257, 258, 259, 260, 261, 262, 263, 264, 265, 266, 267, 268, 269, 270, 271, 272, 273, 274, 275, 276, 277, 278, 279, 280, 281, 282, 283, 284, 285, 286, 287, 288, 289, 290, 291, 23, 292, 293, 294, 295, 296, 297, 298, 299, 300, 301, 302, 303, 304, 305, 306, 307, 308, 309, 310, 311, 312, 313, 314, 315, 316, 317, 318, 319, 320, 321, 322, 323, 327, 328, 329, 330, 331, 332, 333, 334, 335, 336, 337, 338, 339, 340, 341, 342, 343, 344, 345, 346, 347, 324, 325, 326, 348, 349, 350] (by decide +kernel) (by decide +kernel)
set_option maxRecDepth 20000 in
theorem gX9_runScript_X9_succeeds : GoodIn wsX9_runScript (wsV RX9 348 RX9 yX9_succeeds wsX9_succeeds) := goodIn_app (goodIn_of _ (by decide +kernel)) ggX9_runScript_X9_succeeds
theorem dX9_runScript_0 : decode cX9_runScript 0 = .ok (.iload_n 1, 1) := by decide +kernel
theorem dX9_runScript_1 : decode cX9_runScript 1 = .ok (.iconst 1, 1) := by decide +kernel
theorem dX9_runScript_2 : decode cX9_runScript 2 = .ok (.if_icmp .lt 12, 3) := by decide +kernel
theorem dX9_runScript_5 : decode cX9_runScript 5 = .ok (.iload_n 1, 1) := by decide +kernel
theorem dX9_runScript_6 : decode cX9_runScript 6 = .ok (.iconst 3, 1) := by decide +kernel
theorem dX9_runScript_7 : decode cX9_runScript 7 = .ok (.if_icmp .gt 7, 3) := by decide +kernel
theorem dX9_runScript_10 : decode cX9_runScript 10 = .ok (.iconst 1, 1) := by decide +kernel
theorem dX9_runScript_11 : decode cX9_runScript 11 = .ok (.goto 4, 3) := by decide +kernel
theorem dX9_runScript_14 : decode cX9_runScript 14 = .ok (.iconst 0, 1) := by decide +kernel
theorem dX9_runScript_15 : decode cX9_runScript 15 = .ok (.invokestatic 48, 3) := by decide +kernel
theorem dX9_runScript_18 : decode cX9_runScript 18 = .ok (.lconst 1, 1) := by decide +kernel
theorem dX9_runScript_19 : decode cX9_runScript 19 = .ok (.lstore 4, 2) := by decide +kernel
theorem dX9_runScript_21 : decode cX9_runScript 21 = .ok (.iconst 0, 1) := by decide +kernel
theorem dX9_runScript_22 : decode cX9_runScript 22 = .ok (.istore 6, 2) := by decide +kernel
theorem dX9_runScript_24 : decode cX9_runScript 24 = .ok (.iload 6, 2) := by decide +kernel
theorem dX9_runScript_26 : decode cX9_runScript 26 = .ok (.iload_n 1, 1) := by decide +kernel
theorem dX9_runScript_27 : decode cX9_runScript 27 = .ok (.if_icmp .ge 17, 3) := by decide +kernel
theorem dX9_runScript_30 : decode cX9_runScript 30 = .ok (.lload 4, 2) := by decide +kernel
theorem dX9_runScript_32 : decode cX9_runScript 32 = .ok (.ldc2_w 346, 3) := by decide +kernel
theorem dX9_runScript_35 : decode cX9_runScript 35 = .ok (.lmul, 1) := by decide +kernel
theorem dX9_runScript_36 : decode cX9_runScript 36 = .ok (.lstore 4, 2) := by decide +kernel
theorem dX9_runScript_38 : decode cX9_runScript 38 = .ok (.iinc 6 1, 3) := by decide +kernel
theorem dX9_runScript_41 : decode cX9_runScript 41 = .ok (.goto (-17), 3) := by decide +kernel
theorem dX9_runScript_44 : decode cX9_runScript 44 = .ok (.lload_n 2, 1) := by decide +kernel
theorem dX9_runScript_45 : decode cX9_runScript 45 = .ok (.lconst 0, 1) := by decide +kernel
theorem dX9_runScript_46 : decode cX9_runScript 46 = .ok (.lcmp, 1) := by decide +kernel
theorem dX9_runScript_47 : decode cX9_runScript 47 = .ok (.ifCond .lt 14, 3) := by decide +kernel
theorem dX9_runScript_50 : decode cX9_runScript 50 = .ok (.lload_n 2, 1) := by decide +kernel
theorem dX9_runScript_51 : decode cX9_runScript 51 = .ok (.lload 4, 2) := by decide +kernel
theorem dX9_runScript_53 : decode cX9_runScript 53 = .ok (.lcmp, 1) := by decide +kernel
theorem dX9_runScript_54 : decode cX9_runScript 54 = .ok (.ifCond .ge 7, 3) := by decide +kernel
theorem dX9_runScript_57 : decode cX9_runScript 57 = .ok (.iconst 1, 1) := by decide +kernel
theorem dX9_runScript_58 : decode cX9_runScript 58 = .ok (.goto 4, 3) := by decide +kernel
theorem dX9_runScript_61 : decode cX9_runScript 61 = .ok (.iconst 0, 1) := by decide +kernel
theorem dX9_runScript_62 : decode cX9_runScript 62 = .ok (.invokestatic 48, 3) := by decide +kernel
theorem dX9_runScript_65 : decode cX9_runScript 65 = .ok (.aload_n 0, 1) := by decide +kernel
theorem dX9_runScript_66 : decode cX9_runScript 66 = .ok (.invokevirtual 254, 3) := by decide +kernel
theorem dX9_runScript_69 : decode cX9_runScript 69 = .ok (.pop, 1) := by decide +kernel
theorem dX9_runScript_70 : decode cX9_runScript 70 = .ok (.iconst 0, 1) := by decide +kernel
theorem dX9_runScript_71 : decode cX9_runScript 71 = .ok (.istore 6, 2) := by decide +kernel
theorem dX9_runScript_73 : decode cX9_runScript 73 = .ok (.iload 6, 2) := by decide +kernel
theorem dX9_runScript_75 : decode cX9_runScript 75 = .ok (.iload_n 1, 1) := by decide +kernel
theorem dX9_runScript_76 : decode cX9_runScript 76 = .ok (.if_icmp .ge 36, 3) := by decide +kernel
theorem dX9_runScript_79 : decode cX9_runScript 79 = .ok (.lload 4, 2) := by decide +kernel
theorem dX9_runScript_81 : decode cX9_runScript 81 = .ok (.ldc2_w 346, 3) := by decide +kernel
theorem dX9_runScript_84 : decode cX9_runScript 84 = .ok (.ldiv, 1) := by decide +kernel
theorem dX9_runScript_85 : decode cX9_runScript 85 = .ok (.lstore 4, 2) := by decide +kernel
theorem dX9_runScript_87 : decode cX9_runScript 87 = .ok (.aload_n 0, 1) := by decide +kernel
theorem dX9_runScript_88 : decode cX9_runScript 88 = .ok (.lload_n 2, 1) := by decide +kernel
theorem dX9_runScript_89 : decode cX9_runScript 89 = .ok (.lload 4, 2) := by decide +kernel
theorem dX9_runScript_91 : decode cX9_runScript 91 = .ok (.ldiv, 1) := by decide +kernel
theorem dX9_runScript_92 : decode cX9_runScript 92 = .ok (.ldc2_w 346, 3) := by decide +kernel
theorem dX9_runScript_95 : decode cX9_runScript 95 = .ok (.lrem, 1) := by decide +kernel
theorem dX9_runScript_96 : decode cX9_runScript 96 = .ok (.l2i, 1) := by decide +kernel
theorem dX9_runScript_97 : decode cX9_runScript 97 = .ok (.invokevirtual 348, 3) := by decide +kernel
theorem dX9_runScript_100 : decode cX9_runScript 100 = .ok (.ifCond .ne 6, 3) := by decide +kernel
theorem dX9_runScript_103 : decode cX9_runScript 103 = .ok (.iload 6, 2) := by decide +kernel
theorem dX9_runScript_105 : decode cX9_runScript 105 = .ok (.ireturn, 1) := by decide +kernel
theorem dX9_runScript_106 : decode cX9_runScript 106 = .ok (.iinc 6 1, 3) := by decide +kernel
theorem dX9_runScript_109 : decode cX9_runScript 109 = .ok (.goto (-36), 3) := by decide +kernel
theorem dX9_runScript_112 : decode cX9_runScript 112 = .ok (.iconst (-1), 1) := by decide +kernel
theorem dX9_runScript_113 : decode cX9_runScript 113 = .ok (.ireturn, 1) := by decide +kernel
set_option maxRecDepth 20000 in
theorem ggX9_succeeds_X6_addCrack : GoodIn wsX9_succeeds wsX6_addCrack := goodIn_r _ [8, 9, 10, 11, 12, 13, 14, 15, 16, 17, 18, 19, 20, 21, 22, 23, 24, 25, 26, 27, 28, 29, 30, 272, 273, 274, 275, 276, 277, 278, 279, 280, 281, 282] (by decide +kernel) (by decide +kernel)
set_option maxRecDepth 20000 in
theorem gX9_succeeds_X6_addCrack : GoodIn wsX9_succeeds (wsV RX9 268 RX6 yX6_addCrack wsX6_addCrack) := goodIn_app (goodIn_of _ (by decide +kernel)) ggX9_succeeds_X6_addCrack
set_option maxRecDepth 20000 in
theorem ggX9_succeeds_X6_hangOn : GoodIn wsX9_succeeds wsX6_hangOn := goodIn_r _ [34, 35, 36, 37, 38, 39, 40, 41, 42, 43, 19, 44, 45, 46, 47, 48, 49, 272, 273, 274, 275, 276, 283, 284, 285, 286, 287, 288, 289] (by decide +kernel) (by decide +kernel)
set_option maxRecDepth 20000 in
theorem gX9_succeeds_X6_hangOn : GoodIn wsX9_succeeds (wsV RX9 278 RX6 yX6_hangOn wsX6_hangOn) := goodIn_app (goodIn_of _ (by decide +kernel)) ggX9_succeeds_X6_hangOn
set_option maxRecDepth 20000 in
theorem ggX9_succeeds_X6_cutOff : GoodIn wsX9_succeeds wsX6_cutOff := goodIn_r _ [53, 35, 36, 37, 38, 39, 40, 41, 42, 272, 273, 274, 275, 276, 283, 284, 285, 286, 287, 288, 289] (by decide +kernel) (by decide +kernel)
set_option maxRecDepth 20000 in
theorem gX9_succeeds_X6_cutOff : GoodIn wsX9_succeeds (wsV RX9 281 RX6 yX6_cutOff wsX6_cutOff) := goodIn_app (goodIn_of _ (by decide +kernel)) ggX9_succeeds_X6_cutOff
set_option maxRecDepth 20000 in
theorem ggX9_succeeds_X6_putOnShelf : GoodIn wsX9_succeeds wsX6_putOnShelf := goodIn_r _ [57, 35, 58, 59, 37, 38, 39, 40, 41, 42, 60, 19, 61, 62, 63, 64, 65, 66, 67, 68, 69, 70, 71, 72, 73, 74, 75, 76, 77, 78, 79, 7, 80, 81, 82, 83, 84, 85, 9, 86, 87, 88, 89, 90, 91, 92, 93, 94, 95, 96, 97, 98, 99, 100, 101, 102, 103, 272, 273, 274, 275, 276, 290, 291, 283, 284, 285, 286, 287, 288, 289, 277, 278, 279, 280, 281, 282] (by decide +kernel) (by decide +kernel)
set_option maxRecDepth 20000 in
theorem gX9_succeeds_X6_putOnShelf : GoodIn wsX9_succeeds (wsV RX9 284 RX6 yX6_putOnShelf wsX6_putOnShelf) := goodIn_app (goodIn_of _ (by decide +kernel)) ggX9_succeeds_X6_putOnShelf
set_option maxRecDepth 20000 in
theorem ggX9_succeeds_X6_showCracks : GoodIn wsX9_succeeds wsX6_showCracks := goodIn_r _ [107, 35, 9, 87, 108, 37, 38, 39, 40, 41, 42, 109, 110, 111, 15, 112, 25, 272, 273, 274, 275, 276, 283, 284, 285, 286, 287, 288, 289, 277, 278, 279, 280, 281, 282] (by decide +kernel) (by decide +kernel)
set_option maxRecDepth 20000 in
theorem gX9_succeeds_X6_showCracks : GoodIn wsX9_succeeds (wsV RX9 275 RX6 yX6_showCracks wsX6_showCracks) := goodIn_app (goodIn_of _ (by decide +kernel)) ggX9_succeeds_X6_showCracks
set_option maxRecDepth 20000 in
theorem ggX9_succeeds_X1_sortShelf : GoodIn wsX9_succeeds wsX1_sortShelf := goodIn_r _ [117, 118, 119, 120, 121, 122, 123, 124, 125, 60, 19, 61, 126, 127, 128, 116, 129, 130, 131, 132, 133, 134, 135, 136, 137, 138, 139, 140, 141, 142, 143, 144, 145, 15, 146, 147, 25, 148, 149, 150, 151, 26, 27, 28, 29, 30, 152, 153, 154, 155, 156, 157, 158, 159, 160, 161, 162, 163, 164, 165, 166, 167, 168, 169, 170, 171, 172, 173, 174, 175, 176, 177, 178, 179, 180, 181, 182, 183, 184, 185, 186, 187, 188, 189, 190, 191, 192, 193, 194, 195, 196, 197, 198, 199, 200, 201, 202, 203, 204, 205, 206, 207, 208, 209, 210, 211, 212, 213, 214, 215, 216, 217, 218, 219, 220, 221, 222, 223, 224, 225, 226, 227, 228, 229, 230, 231, 232, 233, 234, 73, 74, 65, 75, 76, 235, 236, 237, 238, 239, 97, 98, 99, 272, 273, 274, 275, 276, 290, 291, 292, 293, 294, 295, 296, 297, 283, 284, 285, 286, 287, 288, 289, 277, 278, 279, 280, 281, 282, 298, 299, 300, 301, 302, 303] (by decide +kernel) (by decide +kernel)
set_option maxRecDepth 20000 in
theorem gX9_succeeds_X1_sortShelf : GoodIn wsX9_succeeds (wsV RX9 290 RX1 yX1_sortShelf wsX1_sortShelf) := goodIn_app (goodIn_of _ (by decide +kernel)) ggX9_succeeds_X1_sortShelf
set_option maxRecDepth 20000 in
theorem ggX9_succeeds_X6_change : GoodIn wsX9_succeeds wsX6_change := goodIn_r _ [243, 244, 245, 19, 246, 247, 248, 272, 273, 274, 275, 276] (by decide +kernel) (by decide +kernel)
set_option maxRecDepth 20000 in
theorem gX9_succeeds_X6_change : GoodIn wsX9_succeeds (wsV RX9 293 RX6 yX6_change wsX6_change) := goodIn_app (goodIn_of _ (by decide +kernel)) ggX9_succeeds_X6_change
set_option maxRecDepth 20000 in
theorem ggX9_succeeds_X1_fakesIn : GoodIn wsX9_succeeds wsX1_fakesIn := goodIn_r _ [252, 126, 127, 128, 116, 129, 130, 131, 132, 133, 134, 135, 136, 137, 138, 139, 140, 141, 142, 143, 144, 145, 15, 146, 147, 25, 148, 149, 150, 151, 26, 27, 28, 29, 30, 152, 153, 154, 155, 156, 157, 158, 159, 160, 161, 162, 163, 164, 165, 166, 167, 168, 169, 170, 171, 172, 173, 174, 175, 176, 177, 178, 179, 180, 181, 182, 183, 184, 185, 186, 187, 188, 189, 190, 191, 192, 193, 194, 195, 196, 197, 198, 199, 200, 201, 202, 203, 204, 205, 206, 207, 208, 209, 210, 211, 212, 213, 214, 215, 216, 217, 218, 219, 220, 221, 222, 223, 224, 225, 226, 227, 228, 229, 253, 254, 255, 256, 272, 273, 274, 275, 276, 283, 284, 285, 286, 287, 288, 289, 292, 293, 294, 295, 296, 297, 277, 278, 279, 280, 281, 282, 298, 299, 300, 301, 302, 303] (by decide +kernel) (by decide +kernel)
set_option maxRecDepth 20000 in
theorem gX9_succeeds_X1_fakesIn : GoodIn wsX9_succeeds (wsV RX9 318 RX1 yX1_fakesIn wsX1_fakesIn) := goodIn_app (goodIn_of _ (by decide +kernel)) ggX9_succeeds_X1_fakesIn
set_option maxRecDepth 20000 in
theorem ggX9_succeeds_X9_isFakeBy : GoodIn wsX9_succeeds wsX9_isFakeBy := goodIn_r _ [260, 2, 261, 3, 262, 263, 38, 39, 40, 41, 42, 264, 127, 128, 116, 129, 130, 131, 132, 133, 134, 135, 136, 137, 138, 139, 140, 141, 142, 143, 144, 145, 15, 146, 147, 25, 148, 149, 150, 151, 26, 27, 28, 29, 30, 152, 153, 154, 155, 156, 157, 158, 159, 160, 161, 162, 163, 164, 165, 166, 167, 168, 169, 170, 171, 172, 173, 174, 175, 176, 177, 178, 179, 180, 181, 182, 183, 184, 185, 186, 187, 188, 189, 190, 191, 192, 193, 194, 195, 196, 197, 198, 199, 200, 201, 202, 203, 204, 205, 206, 207, 208, 209, 210, 211, 212, 213, 214, 215, 216, 217, 218, 219, 220, 221, 222, 223, 224, 225, 226, 227, 228, 229, 265, 266, 267, 268, 269, 270, 271, 272, 273, 274, 275, 276, 292, 293, 294, 295, 296, 297, 283, 284, 285, 286, 287, 288, 289, 277, 278, 279, 280, 281, 282, 298, 299, 300, 301, 302, 303] (by decide +kernel) (by decide +kernel)
set_option maxRecDepth 20000 in
theorem gX9_succeeds_X9_isFakeBy : GoodIn wsX9_succeeds (wsV RX9 352 RX9 yX9_isFakeBy wsX9_isFakeBy) := goodIn_app (goodIn_of _ (by decide +kernel)) ggX9_succeeds_X9_isFakeBy
theorem dX9_succeeds_0 : decode cX9_succeeds 0 = .ok (.iload_n 1, 1) := by decide +kernel
theorem dX9_succeeds_1 : decode cX9_succeeds 1 = .ok (.sipush 10000, 3) := by decide +kernel
theorem dX9_succeeds_4 : decode cX9_succeeds 4 = .ok (.idiv, 1) := by decide +kernel
theorem dX9_succeeds_5 : decode cX9_succeeds 5 = .ok (.bipush 10, 2) := by decide +kernel
theorem dX9_succeeds_7 : decode cX9_succeeds 7 = .ok (.irem, 1) := by decide +kernel
theorem dX9_succeeds_8 : decode cX9_succeeds 8 = .ok (.istore_n 2, 1) := by decide +kernel
theorem dX9_succeeds_9 : decode cX9_succeeds 9 = .ok (.iload_n 1, 1) := by decide +kernel
theorem dX9_succeeds_10 : decode cX9_succeeds 10 = .ok (.sipush 1000, 3) := by decide +kernel
theorem dX9_succeeds_13 : decode cX9_succeeds 13 = .ok (.idiv, 1) := by decide +kernel
theorem dX9_succeeds_14 : decode cX9_succeeds 14 = .ok (.bipush 100, 2) := by decide +kernel
theorem dX9_succeeds_16 : decode cX9_succeeds 16 = .ok (.irem, 1) := by decide +kernel
theorem dX9_succeeds_17 : decode cX9_succeeds 17 = .ok (.istore_n 3, 1) := by decide +kernel
theorem dX9_succeeds_18 : decode cX9_succeeds 18 = .ok (.iload_n 1, 1) := by decide +kernel
theorem dX9_succeeds_19 : decode cX9_succeeds 19 = .ok (.bipush 100, 2) := by decide +kernel
theorem dX9_succeeds_21 : decode cX9_succeeds 21 = .ok (.idiv, 1) := by decide +kernel
theorem dX9_succeeds_22 : decode cX9_succeeds 22 = .ok (.bipush 10, 2) := by decide +kernel
theorem dX9_succeeds_24 : decode cX9_succeeds 24 = .ok (.irem, 1) := by decide +kernel
theorem dX9_succeeds_25 : decode cX9_succeeds 25 = .ok (.istore 4, 2) := by decide +kernel
theorem dX9_succeeds_27 : decode cX9_succeeds 27 = .ok (.iload_n 1, 1) := by decide +kernel
theorem dX9_succeeds_28 : decode cX9_succeeds 28 = .ok (.ldc_w 351, 3) := by decide +kernel
theorem dX9_succeeds_31 : decode cX9_succeeds 31 = .ok (.idiv, 1) := by decide +kernel
theorem dX9_succeeds_32 : decode cX9_succeeds 32 = .ok (.tableswitch 312 1 9 #[52, 74, 100, 125, 158, 189, 218, 249, 284], 52) := by decide +kernel
theorem dX9_succeeds_84 : decode cX9_succeeds 84 = .ok (.aload_n 0, 1) := by decide +kernel
theorem dX9_succeeds_85 : decode cX9_succeeds 85 = .ok (.getfield 45, 3) := by decide +kernel
theorem dX9_succeeds_88 : decode cX9_succeeds 88 = .ok (.iload_n 2, 1) := by decide +kernel
theorem dX9_succeeds_89 : decode cX9_succeeds 89 = .ok (.iload_n 1, 1) := by decide +kernel
theorem dX9_succeeds_90 : decode cX9_succeeds 90 = .ok (.sipush 10000, 3) := by decide +kernel
theorem dX9_succeeds_93 : decode cX9_succeeds 93 = .ok (.irem, 1) := by decide +kernel
theorem dX9_succeeds_94 : decode cX9_succeeds 94 = .ok (.invokevirtual 268, 3) := by decide +kernel
theorem dX9_succeeds_97 : decode cX9_succeeds 97 = .ok (.ifCond .lt 7, 3) := by decide +kernel
theorem dX9_succeeds_100 : decode cX9_succeeds 100 = .ok (.iconst 1, 1) := by decide +kernel
theorem dX9_succeeds_101 : decode cX9_succeeds 101 = .ok (.goto 4, 3) := by decide +kernel
theorem dX9_succeeds_104 : decode cX9_succeeds 104 = .ok (.iconst 0, 1) := by decide +kernel
theorem dX9_succeeds_105 : decode cX9_succeeds 105 = .ok (.ireturn, 1) := by decide +kernel
theorem dX9_succeeds_106 : decode cX9_succeeds 106 = .ok (.iload_n 1, 1) := by decide +kernel
theorem dX9_succeeds_107 : decode cX9_succeeds 107 = .ok (.bipush 100, 2) := by decide +kernel
theorem dX9_succeeds_109 : decode cX9_succeeds 109 = .ok (.irem, 1) := by decide +kernel
theorem dX9_succeeds_110 : decode cX9_succeeds 110 = .ok (.ifCond .ne 20, 3) := by decide +kernel
theorem dX9_succeeds_113 : decode cX9_succeeds 113 = .ok (.aload_n 0, 1) := by decide +kernel
theorem dX9_succeeds_114 : decode cX9_succeeds 114 = .ok (.getfield 45, 3) := by decide +kernel
theorem dX9_succeeds_117 : decode cX9_succeeds 117 = .ok (.iload_n 3, 1) := by decide +kernel
theorem dX9_succeeds_118 : decode cX9_succeeds 118 = .ok (.iload 4, 2) := by decide +kernel
theorem dX9_succeeds_120 : decode cX9_succeeds 120 = .ok (.invokevirtual 278, 3) := by decide +kernel
theorem dX9_succeeds_123 : decode cX9_succeeds 123 = .ok (.ifCond .lt 7, 3) := by decide +kernel
theorem dX9_succeeds_126 : decode cX9_succeeds 126 = .ok (.iconst 1, 1) := by decide +kernel
theorem dX9_succeeds_127 : decode cX9_succeeds 127 = .ok (.goto 4, 3) := by decide +kernel
theorem dX9_succeeds_130 : decode cX9_succeeds 130 = .ok (.iconst 0, 1) := by decide +kernel
theorem dX9_succeeds_131 : decode cX9_succeeds 131 = .ok (.ireturn, 1) := by decide +kernel
theorem dX9_succeeds_132 : decode cX9_succeeds 132 = .ok (.iload_n 1, 1) := by decide +kernel
theorem dX9_succeeds_133 : decode cX9_succeeds 133 = .ok (.sipush 1000, 3) := by decide +kernel
theorem dX9_succeeds_136 : decode cX9_succeeds 136 = .ok (.irem, 1) := by decide +kernel
theorem dX9_succeeds_137 : decode cX9_succeeds 137 = .ok (.ifCond .ne 18, 3) := by decide +kernel
theorem dX9_succeeds_140 : decode cX9_succeeds 140 = .ok (.aload_n 0, 1) := by decide +kernel
theorem dX9_succeeds_141 : decode cX9_succeeds 141 = .ok (.getfield 45, 3) := by decide +kernel
theorem dX9_succeeds_144 : decode cX9_succeeds 144 = .ok (.iload_n 3, 1) := by decide +kernel
theorem dX9_succeeds_145 : decode cX9_succeeds 145 = .ok (.invokevirtual 281, 3) := by decide +kernel
theorem dX9_succeeds_148 : decode cX9_succeeds 148 = .ok (.ifCond .lt 7, 3) := by decide +kernel
theorem dX9_succeeds_151 : decode cX9_succeeds 151 = .ok (.iconst 1, 1) := by decide +kernel
theorem dX9_succeeds_152 : decode cX9_succeeds 152 = .ok (.goto 4, 3) := by decide +kernel
theorem dX9_succeeds_155 : decode cX9_succeeds 155 = .ok (.iconst 0, 1) := by decide +kernel
theorem dX9_succeeds_156 : decode cX9_succeeds 156 = .ok (.ireturn, 1) := by decide +kernel
theorem dX9_succeeds_157 : decode cX9_succeeds 157 = .ok (.iload_n 1, 1) := by decide +kernel
theorem dX9_succeeds_158 : decode cX9_succeeds 158 = .ok (.bipush 10, 2) := by decide +kernel
theorem dX9_succeeds_160 : decode cX9_succeeds 160 = .ok (.irem, 1) := by decide +kernel
theorem dX9_succeeds_161 : decode cX9_succeeds 161 = .ok (.ifCond .ne 27, 3) := by decide +kernel
theorem dX9_succeeds_164 : decode cX9_succeeds 164 = .ok (.aload_n 0, 1) := by decide +kernel
theorem dX9_succeeds_165 : decode cX9_succeeds 165 = .ok (.getfield 45, 3) := by decide +kernel
theorem dX9_succeeds_168 : decode cX9_succeeds 168 = .ok (.iload_n 3, 1) := by decide +kernel
theorem dX9_succeeds_169 : decode cX9_succeeds 169 = .ok (.iload 4, 2) := by decide +kernel
theorem dX9_succeeds_171 : decode cX9_succeeds 171 = .ok (.iload_n 1, 1) := by decide +kernel
theorem dX9_succeeds_172 : decode cX9_succeeds 172 = .ok (.bipush 10, 2) := by decide +kernel
theorem dX9_succeeds_174 : decode cX9_succeeds 174 = .ok (.idiv, 1) := by decide +kernel
theorem dX9_succeeds_175 : decode cX9_succeeds 175 = .ok (.bipush 10, 2) := by decide +kernel
theorem dX9_succeeds_177 : decode cX9_succeeds 177 = .ok (.irem, 1) := by decide +kernel
theorem dX9_succeeds_178 : decode cX9_succeeds 178 = .ok (.invokevirtual 284, 3) := by decide +kernel
theorem dX9_succeeds_181 : decode cX9_succeeds 181 = .ok (.ifCond .lt 7, 3) := by decide +kernel
theorem dX9_succeeds_184 : decode cX9_succeeds 184 = .ok (.iconst 1, 1) := by decide +kernel
theorem dX9_succeeds_185 : decode cX9_succeeds 185 = .ok (.goto 4, 3) := by decide +kernel
theorem dX9_succeeds_188 : decode cX9_succeeds 188 = .ok (.iconst 0, 1) := by decide +kernel
theorem dX9_succeeds_189 : decode cX9_succeeds 189 = .ok (.ireturn, 1) := by decide +kernel
theorem dX9_succeeds_190 : decode cX9_succeeds 190 = .ok (.iload_n 1, 1) := by decide +kernel
theorem dX9_succeeds_191 : decode cX9_succeeds 191 = .ok (.bipush 10, 2) := by decide +kernel
theorem dX9_succeeds_193 : decode cX9_succeeds 193 = .ok (.irem, 1) := by decide +kernel
theorem dX9_succeeds_194 : decode cX9_succeeds 194 = .ok (.ifCond .ne 25, 3) := by decide +kernel
theorem dX9_succeeds_197 : decode cX9_succeeds 197 = .ok (.aload_n 0, 1) := by decide +kernel
theorem dX9_succeeds_198 : decode cX9_succeeds 198 = .ok (.getfield 45, 3) := by decide +kernel
theorem dX9_succeeds_201 : decode cX9_succeeds 201 = .ok (.iload_n 3, 1) := by decide +kernel
theorem dX9_succeeds_202 : decode cX9_succeeds 202 = .ok (.iload_n 1, 1) := by decide +kernel
theorem dX9_succeeds_203 : decode cX9_succeeds 203 = .ok (.bipush 10, 2) := by decide +kernel
theorem dX9_succeeds_205 : decode cX9_succeeds 205 = .ok (.idiv, 1) := by decide +kernel
theorem dX9_succeeds_206 : decode cX9_succeeds 206 = .ok (.bipush 100, 2) := by decide +kernel
theorem dX9_succeeds_208 : decode cX9_succeeds 208 = .ok (.irem, 1) := by decide +kernel
theorem dX9_succeeds_209 : decode cX9_succeeds 209 = .ok (.invokevirtual 275, 3) := by decide +kernel
theorem dX9_succeeds_212 : decode cX9_succeeds 212 = .ok (.ifCond .lt 7, 3) := by decide +kernel
theorem dX9_succeeds_215 : decode cX9_succeeds 215 = .ok (.iconst 1, 1) := by decide +kernel
theorem dX9_succeeds_216 : decode cX9_succeeds 216 = .ok (.goto 4, 3) := by decide +kernel
theorem dX9_succeeds_219 : decode cX9_succeeds 219 = .ok (.iconst 0, 1) := by decide +kernel
theorem dX9_succeeds_220 : decode cX9_succeeds 220 = .ok (.ireturn, 1) := by decide +kernel
theorem dX9_succeeds_221 : decode cX9_succeeds 221 = .ok (.iload_n 1, 1) := by decide +kernel
theorem dX9_succeeds_222 : decode cX9_succeeds 222 = .ok (.sipush 10000, 3) := by decide +kernel
theorem dX9_succeeds_225 : decode cX9_succeeds 225 = .ok (.irem, 1) := by decide +kernel
theorem dX9_succeeds_226 : decode cX9_succeeds 226 = .ok (.ifCond .ne 22, 3) := by decide +kernel
theorem dX9_succeeds_229 : decode cX9_succeeds 229 = .ok (.aload_n 0, 1) := by decide +kernel
theorem dX9_succeeds_230 : decode cX9_succeeds 230 = .ok (.getfield 19, 3) := by decide +kernel
theorem dX9_succeeds_233 : decode cX9_succeeds 233 = .ok (.aload_n 0, 1) := by decide +kernel
theorem dX9_succeeds_234 : decode cX9_succeeds 234 = .ok (.getfield 45, 3) := by decide +kernel
theorem dX9_succeeds_237 : decode cX9_succeeds 237 = .ok (.iload_n 2, 1) := by decide +kernel
theorem dX9_succeeds_238 : decode cX9_succeeds 238 = .ok (.invokevirtual 290, 3) := by decide +kernel
theorem dX9_succeeds_241 : decode cX9_succeeds 241 = .ok (.ifCond .lt 7, 3) := by decide +kernel
theorem dX9_succeeds_244 : decode cX9_succeeds 244 = .ok (.iconst 1, 1) := by decide +kernel
theorem dX9_succeeds_245 : decode cX9_succeeds 245 = .ok (.goto 4, 3) := by decide +kernel
theorem dX9_succeeds_248 : decode cX9_succeeds 248 = .ok (.iconst 0, 1) := by decide +kernel
theorem dX9_succeeds_249 : decode cX9_succeeds 249 = .ok (.ireturn, 1) := by decide +kernel
theorem dX9_succeeds_250 : decode cX9_succeeds 250 = .ok (.iload_n 1, 1) := by decide +kernel
theorem dX9_succeeds_251 : decode cX9_succeeds 251 = .ok (.bipush 100, 2) := by decide +kernel
theorem dX9_succeeds_253 : decode cX9_succeeds 253 = .ok (.irem, 1) := by decide +kernel
theorem dX9_succeeds_254 : decode cX9_succeeds 254 = .ok (.ifCond .ne 25, 3) := by decide +kernel
theorem dX9_succeeds_257 : decode cX9_succeeds 257 = .ok (.aload_n 0, 1) := by decide +kernel
theorem dX9_succeeds_258 : decode cX9_succeeds 258 = .ok (.getfield 45, 3) := by decide +kernel
theorem dX9_succeeds_261 : decode cX9_succeeds 261 = .ok (.iload_n 2, 1) := by decide +kernel
theorem dX9_succeeds_262 : decode cX9_succeeds 262 = .ok (.iload_n 1, 1) := by decide +kernel
theorem dX9_succeeds_263 : decode cX9_succeeds 263 = .ok (.bipush 100, 2) := by decide +kernel
theorem dX9_succeeds_265 : decode cX9_succeeds 265 = .ok (.idiv, 1) := by decide +kernel
theorem dX9_succeeds_266 : decode cX9_succeeds 266 = .ok (.bipush 100, 2) := by decide +kernel
theorem dX9_succeeds_268 : decode cX9_succeeds 268 = .ok (.irem, 1) := by decide +kernel
theorem dX9_succeeds_269 : decode cX9_succeeds 269 = .ok (.invokevirtual 293, 3) := by decide +kernel
theorem dX9_succeeds_272 : decode cX9_succeeds 272 = .ok (.ifCond .lt 7, 3) := by decide +kernel
theorem dX9_succeeds_275 : decode cX9_succeeds 275 = .ok (.iconst 1, 1) := by decide +kernel
theorem dX9_succeeds_276 : decode cX9_succeeds 276 = .ok (.goto 4, 3) := by decide +kernel
theorem dX9_succeeds_279 : decode cX9_succeeds 279 = .ok (.iconst 0, 1) := by decide +kernel
theorem dX9_succeeds_280 : decode cX9_succeeds 280 = .ok (.ireturn, 1) := by decide +kernel
theorem dX9_succeeds_281 : decode cX9_succeeds 281 = .ok (.iload_n 1, 1) := by decide +kernel
theorem dX9_succeeds_282 : decode cX9_succeeds 282 = .ok (.bipush 100, 2) := by decide +kernel
theorem dX9_succeeds_284 : decode cX9_succeeds 284 = .ok (.idiv, 1) := by decide +kernel
theorem dX9_succeeds_285 : decode cX9_succeeds 285 = .ok (.sipush 1000, 3) := by decide +kernel
theorem dX9_succeeds_288 : decode cX9_succeeds 288 = .ok (.irem, 1) := by decide +kernel
theorem dX9_succeeds_289 : decode cX9_succeeds 289 = .ok (.ifCond .ne 25, 3) := by decide +kernel
theorem dX9_succeeds_292 : decode cX9_succeeds 292 = .ok (.aload_n 0, 1) := by decide +kernel
theorem dX9_succeeds_293 : decode cX9_succeeds 293 = .ok (.getfield 19, 3) := by decide +kernel
theorem dX9_succeeds_296 : decode cX9_succeeds 296 = .ok (.aload_n 0, 1) := by decide +kernel
theorem dX9_succeeds_297 : decode cX9_succeeds 297 = .ok (.getfield 45, 3) := by decide +kernel
theorem dX9_succeeds_300 : decode cX9_succeeds 300 = .ok (.invokevirtual 318, 3) := by decide +kernel
theorem dX9_succeeds_303 : decode cX9_succeeds 303 = .ok (.iload_n 1, 1) := by decide +kernel
theorem dX9_succeeds_304 : decode cX9_succeeds 304 = .ok (.bipush 100, 2) := by decide +kernel
theorem dX9_succeeds_306 : decode cX9_succeeds 306 = .ok (.irem, 1) := by decide +kernel
theorem dX9_succeeds_307 : decode cX9_succeeds 307 = .ok (.if_icmp .gt 7, 3) := by decide +kernel
theorem dX9_succeeds_310 : decode cX9_succeeds 310 = .ok (.iconst 1, 1) := by decide +kernel
theorem dX9_succeeds_311 : decode cX9_succeeds 311 = .ok (.goto 4, 3) := by decide +kernel
theorem dX9_succeeds_314 : decode cX9_succeeds 314 = .ok (.iconst 0, 1) := by decide +kernel
theorem dX9_succeeds_315 : decode cX9_succeeds 315 = .ok (.ireturn, 1) := by decide +kernel
theorem dX9_succeeds_316 : decode cX9_succeeds 316 = .ok (.iload_n 1, 1) := by decide +kernel
theorem dX9_succeeds_317 : decode cX9_succeeds 317 = .ok (.bipush 10, 2) := by decide +kernel
theorem dX9_succeeds_319 : decode cX9_succeeds 319 = .ok (.idiv, 1) := by decide +kernel
theorem dX9_succeeds_320 : decode cX9_succeeds 320 = .ok (.bipush 100, 2) := by decide +kernel
theorem dX9_succeeds_322 : decode cX9_succeeds 322 = .ok (.irem, 1) := by decide +kernel
theorem dX9_succeeds_323 : decode cX9_succeeds 323 = .ok (.ifCond .ne 19, 3) := by decide +kernel
theorem dX9_succeeds_326 : decode cX9_succeeds 326 = .ok (.aload_n 0, 1) := by decide +kernel
theorem dX9_succeeds_327 : decode cX9_succeeds 327 = .ok (.iload_n 3, 1) := by decide +kernel
theorem dX9_succeeds_328 : decode cX9_succeeds 328 = .ok (.iload_n 1, 1) := by decide +kernel
theorem dX9_succeeds_329 : decode cX9_succeeds 329 = .ok (.bipush 10, 2) := by decide +kernel
theorem dX9_succeeds_331 : decode cX9_succeeds 331 = .ok (.irem, 1) := by decide +kernel
theorem dX9_succeeds_332 : decode cX9_succeeds 332 = .ok (.invokevirtual 352, 3) := by decide +kernel
theorem dX9_succeeds_335 : decode cX9_succeeds 335 = .ok (.ifCond .eq 7, 3) := by decide +kernel
theorem dX9_succeeds_338 : decode cX9_succeeds 338 = .ok (.iconst 1, 1) := by decide +kernel
theorem dX9_succeeds_339 : decode cX9_succeeds 339 = .ok (.goto 4, 3) := by decide +kernel
theorem dX9_succeeds_342 : decode cX9_succeeds 342 = .ok (.iconst 0, 1) := by decide +kernel
theorem dX9_succeeds_343 : decode cX9_succeeds 343 = .ok (.ireturn, 1) := by decide +kernel
theorem dX9_succeeds_344 : decode cX9_succeeds 344 = .ok (.iconst 0, 1) := by decide +kernel
theorem dX9_succeeds_345 : decode cX9_succeeds 345 = .ok (.ireturn, 1) := by decide +kernel
set_option maxRecDepth 20000 in
theorem ggX9_isFakeBy_X4_has : GoodIn wsX9_isFakeBy wsX4_has := goodIn_r _ [9, 10, 141, 142, 143, 144, 145, 146, 147] (by decide +kernel) (by decide +kernel)
set_option maxRecDepth 20000 in
theorem gX9_isFakeBy_X4_has : GoodIn wsX9_isFakeBy (wsV RX9 182 RX4 yX4_has wsX4_has) := goodIn_app (goodIn_of _ (by decide +kernel)) ggX9_isFakeBy_X4_has
set_option maxRecDepth 20000 in
theorem ggX9_isFakeBy_X1_look : GoodIn wsX9_isFakeBy wsX1_look := goodIn_r _ [15, 16, 17, 18, 14, 19, 20, 21, 22, 23, 24, 25, 26, 27, 28, 29, 30, 31, 32, 33, 34, 35, 36, 37, 38, 39, 40, 41, 42, 43, 44, 45, 46, 47, 48, 49, 50, 51, 52, 53, 54, 55, 56, 57, 58, 59, 60, 61, 62, 63, 64, 65, 66, 67, 68, 69, 70, 71, 72, 73, 74, 75, 76, 77, 78, 79, 80, 81, 82, 83, 84, 85, 86, 87, 88, 89, 90, 91, 92, 93, 94, 95, 96, 97, 98, 99, 100, 101, 102, 103, 104, 105, 106, 107, 108, 109, 110, 111, 112, 113, 114, 115, 116, 117, 118, 119, 120, 121, 122, 130, 131, 132, 133, 134, 141, 142, 143, 144, 145, 146, 147, 135, 136, 137, 138, 139, 140, 148, 149, 150, 151, 152, 153, 154, 155, 156, 157, 158, 159] (by decide +kernel) (by decide +kernel)
set_option maxRecDepth 20000 in
theorem gX9_isFakeBy_X1_look : GoodIn wsX9_isFakeBy (wsV RX9 89 RX1 yX1_look wsX1_look) := goodIn_app (goodIn_of _ (by decide +kernel)) ggX9_isFakeBy_X1_look
theorem dX9_isFakeBy_0 : decode cX9_isFakeBy 0 = .ok (.aload_n 0, 1) := by decide +kernel
theorem dX9_isFakeBy_1 : decode cX9_isFakeBy 1 = .ok (.getfield 45, 3) := by decide +kernel
theorem dX9_isFakeBy_4 : decode cX9_isFakeBy 4 = .ok (.getfield 109, 3) := by decide +kernel
theorem dX9_isFakeBy_7 : decode cX9_isFakeBy 7 = .ok (.iload_n 1, 1) := by decide +kernel
theorem dX9_isFakeBy_8 : decode cX9_isFakeBy 8 = .ok (.invokevirtual 182, 3) := by decide +kernel
theorem dX9_isFakeBy_11 : decode cX9_isFakeBy 11 = .ok (.ifCond .ne 5, 3) := by decide +kernel
theorem dX9_isFakeBy_14 : decode cX9_isFakeBy 14 = .ok (.iconst 0, 1) := by decide +kernel
theorem dX9_isFakeBy_15 : decode cX9_isFakeBy 15 = .ok (.ireturn, 1) := by decide +kernel
theorem dX9_isFakeBy_16 : decode cX9_isFakeBy 16 = .ok (.aload_n 0, 1) := by decide +kernel
theorem dX9_isFakeBy_17 : decode cX9_isFakeBy 17 = .ok (.getfield 19, 3) := by decide +kernel
theorem dX9_isFakeBy_20 : decode cX9_isFakeBy 20 = .ok (.aload_n 0, 1) := by decide +kernel
theorem dX9_isFakeBy_21 : decode cX9_isFakeBy 21 = .ok (.getfield 45, 3) := by decide +kernel
theorem dX9_isFakeBy_24 : decode cX9_isFakeBy 24 = .ok (.invokevirtual 89, 3) := by decide +kernel
theorem dX9_isFakeBy_27 : decode cX9_isFakeBy 27 = .ok (.aload_n 0, 1) := by decide +kernel
theorem dX9_isFakeBy_28 : decode cX9_isFakeBy 28 = .ok (.getfield 19, 3) := by decide +kernel
theorem dX9_isFakeBy_31 : decode cX9_isFakeBy 31 = .ok (.getfield 222, 3) := by decide +kernel
theorem dX9_isFakeBy_34 : decode cX9_isFakeBy 34 = .ok (.iload_n 1, 1) := by decide +kernel
theorem dX9_isFakeBy_35 : decode cX9_isFakeBy 35 = .ok (.iaload, 1) := by decide +kernel
theorem dX9_isFakeBy_36 : decode cX9_isFakeBy 36 = .ok (.iload_n 2, 1) := by decide +kernel
theorem dX9_isFakeBy_37 : decode cX9_isFakeBy 37 = .ok (.if_icmp .ne 7, 3) := by decide +kernel
theorem dX9_isFakeBy_40 : decode cX9_isFakeBy 40 = .ok (.iconst 1, 1) := by decide +kernel
theorem dX9_isFakeBy_41 : decode cX9_isFakeBy 41 = .ok (.goto 4, 3) := by decide +kernel
theorem dX9_isFakeBy_44 : decode cX9_isFakeBy 44 = .ok (.iconst 0, 1) := by decide +kernel
theorem dX9_isFakeBy_45 : decode cX9_isFakeBy 45 = .ok (.ireturn, 1) := by decide +kernel
set_option maxRecDepth 20000 in
theorem ggX9_simulate_X9_mustFit : GoodIn wsX9_simulate wsX9_mustFit := goodIn_ca (goodIn_r _ [10, 11, 12] (by decide +kernel) (by decide +kernel)) (goodIn_sub (fun _ h => List.mem_cons_of_mem _ (List.mem_append_right _ h)) (by decide +kernel))
set_option maxRecDepth 20000 in
theorem gX9_simulate_X9_mustFit : GoodIn wsX9_simulate (va_wsS RX9 48 yX9_mustFit wsX9_mustFit) := goodIn_app (goodIn_of _ (by decide +kernel)) ggX9_simulate_X9_mustFit
set_option maxRecDepth 20000 in
theorem ggX9_simulate_X9_freshTrial : GoodIn wsX9_simulate wsX9_freshTrial := goodIn_r _ [16, 4, 17, 18, 19, 20, 21, 22, 23, 24, 25, 26, 27, 28, 29, 30, 31, 32, 33, 34, 35, 36, 37, 38, 39, 40, 41, 42, 43, 44, 45, 46, 47, 48, 49, 50, 51, 52, 53, 54, 55, 56, 57, 58, 59, 60, 61, 62, 63, 64, 65, 66, 67, 68, 69, 70, 71, 72, 73, 315, 316, 317, 318, 319, 320, 321, 322, 323, 324, 325, 326, 334, 335, 336, 337, 338, 339, 340, 341, 342, 327, 328, 329, 330, 331, 332, 333, 343, 344] (by decide +kernel) (by decide +kernel)
set_option maxRecDepth 20000 in
theorem gX9_simulate_X9_freshTrial : GoodIn wsX9_simulate (wsV RX9 254 RX9 yX9_freshTrial wsX9_freshTrial) := goodIn_app (goodIn_of _ (by decide +kernel)) ggX9_simulate_X9_freshTrial
set_option maxRecDepth 20000 in
theorem ggX9_simulate_X9_takeTurn : GoodIn wsX9_simulate wsX9_takeTurn := goodIn_r _ [77, 4, 3, 78, 79, 80, 21, 81, 24, 82, 83, 84, 85, 86, 44, 87, 46, 88, 9, 89, 90, 91, 92, 93, 51, 94, 95, 96, 97, 52, 98, 99, 100, 101, 25, 102, 103, 104, 105, 106, 56, 107, 58, 108, 109, 110, 111, 112, 113, 114, 115, 116, 117, 118, 119, 120, 121, 122, 65, 123, 124, 125, 126, 26, 127, 128, 129, 130, 131, 132, 69, 133, 71, 134, 135, 136, 137, 138, 139, 140, 141, 73, 142, 143, 144, 145, 146, 147, 148, 149, 150, 151, 152, 153, 154, 155, 156, 157, 158, 159, 160, 161, 162, 163, 164, 165, 166, 167, 168, 169, 170, 171, 172, 173, 174, 175, 176, 177, 178, 179, 180, 29, 30, 31, 181, 182, 183, 184, 185, 186, 187, 188, 189, 190, 191, 192, 193, 194, 195, 196, 197, 198, 199, 200, 201, 202, 49, 203, 204, 205, 206, 207, 208, 209, 210, 50, 211, 212, 213, 214, 215, 216, 35, 217, 37, 40, 218, 219, 220, 221, 222, 223, 224, 225, 226, 227, 228, 229, 230, 231, 232, 233, 234, 235, 236, 38, 237, 238, 239, 240, 241, 242, 243, 244, 245, 246, 247, 248, 249, 250, 251, 252, 253, 254, 255, 256, 257, 258, 259, 260, 261, 262, 263, 264, 265, 266, 267, 268, 269, 270, 271, 272, 273, 274, 275, 276, 277, 278, 279, 280, 281, 282, 283, 284, 285, 286, 287, 288, 289, 290, 291, 292, 293, 294, 295, 296, 297, 298, 299, 300, 301, 315, 316, 317, 318, 319, 320, 321, 322, 323, 324, 325, 326, 337, 338, 339, 340, 341, 342, 327, 328, 329, 330, 331, 332, 333, 343, 344, 345, 346, 347, 348, 349, 350, 334, 335, 336, 351, 352, 353] (by decide +kernel) (by decide +kernel)
set_option maxRecDepth 20000 in
theorem gX9_simulate_X9_takeTurn : GoodIn wsX9_simulate (wsV RX9 359 RX9 yX9_takeTurn wsX9_takeTurn) := goodIn_app (goodIn_of _ (by decide +kernel)) ggX9_simulate_X9_takeTurn
set_option maxRecDepth 20000 in
theorem ggX9_simulate_X1_look : GoodIn wsX9_simulate wsX1_look := goodIn_r _ [185, 186, 187, 188, 175, 189, 190, 191, 192, 193, 194, 195, 196, 197, 198, 199, 200, 201, 44, 202, 49, 51, 203, 204, 205, 206, 94, 95, 96, 97, 52, 207, 208, 209, 210, 50, 211, 212, 213, 214, 215, 216, 35, 217, 37, 40, 218, 219, 220, 221, 222, 223, 224, 225, 226, 227, 228, 229, 230, 231, 232, 233, 234, 235, 236, 38, 237, 238, 239, 240, 241, 242, 243, 244, 245, 246, 247, 248, 249, 250, 251, 252, 253, 254, 255, 256, 257, 258, 259, 260, 261, 262, 263, 264, 265, 266, 267, 268, 269, 270, 271, 272, 273, 274, 275, 276, 277, 278, 279, 322, 323, 324, 325, 326, 327, 328, 329, 330, 331, 332, 333, 345, 346, 347, 348, 349, 350, 337, 338, 339, 340, 341, 342, 334, 335, 336, 351, 352, 353] (by decide +kernel) (by decide +kernel)
set_option maxRecDepth 20000 in
theorem gX9_simulate_X1_look : GoodIn wsX9_simulate (wsV RX9 89 RX1 yX1_look wsX1_look) := goodIn_app (goodIn_of _ (by decide +kernel)) ggX9_simulate_X1_look
set_option maxRecDepth 20000 in
theorem ggX9_simulate_X1_fakes : GoodIn wsX9_simulate wsX1_fakes := goodIn_r _ [306, 190, 191, 249, 322, 323, 324, 325, 326, 327, 328, 329, 330, 331, 332, 333, 345, 346, 347, 348, 349, 350] (by decide +kernel) (by decide +kernel)
set_option maxRecDepth 20000 in
theorem gX9_simulate_X1_fakes : GoodIn wsX9_simulate (wsV RX9 116 RX1 yX1_fakes wsX1_fakes) := goodIn_app (goodIn_of _ (by decide +kernel)) ggX9_simulate_X1_fakes
set_option maxRecDepth 20000 in
theorem ggX9_simulate_X1_badShelves : GoodIn wsX9_simulate wsX1_badShelves := goodIn_r _ [310, 311, 312, 313, 175, 314, 177, 181, 249, 198, 284, 139, 140, 69, 141, 73, 322, 323, 324, 325, 326, 343, 344, 345, 346, 347, 348, 349, 350] (by decide +kernel) (by decide +kernel)
set_option maxRecDepth 20000 in
theorem gX9_simulate_X1_badShelves : GoodIn wsX9_simulate (wsV RX9 138 RX1 yX1_badShelves wsX1_badShelves) := goodIn_app (goodIn_of _ (by decide +kernel)) ggX9_simulate_X1_badShelves
theorem dX9_simulate_0 : decode cX9_simulate 0 = .ok (.iload_n 3, 1) := by decide +kernel
theorem dX9_simulate_1 : decode cX9_simulate 1 = .ok (.iconst 1, 1) := by decide +kernel
theorem dX9_simulate_2 : decode cX9_simulate 2 = .ok (.if_icmp .lt 13, 3) := by decide +kernel
theorem dX9_simulate_5 : decode cX9_simulate 5 = .ok (.iload_n 3, 1) := by decide +kernel
theorem dX9_simulate_6 : decode cX9_simulate 6 = .ok (.bipush 60, 2) := by decide +kernel
theorem dX9_simulate_8 : decode cX9_simulate 8 = .ok (.if_icmp .gt 7, 3) := by decide +kernel
theorem dX9_simulate_11 : decode cX9_simulate 11 = .ok (.iconst 1, 1) := by decide +kernel
theorem dX9_simulate_12 : decode cX9_simulate 12 = .ok (.goto 4, 3) := by decide +kernel
theorem dX9_simulate_15 : decode cX9_simulate 15 = .ok (.iconst 0, 1) := by decide +kernel
theorem dX9_simulate_16 : decode cX9_simulate 16 = .ok (.invokestatic 48, 3) := by decide +kernel
theorem dX9_simulate_19 : decode cX9_simulate 19 = .ok (.aload_n 0, 1) := by decide +kernel
theorem dX9_simulate_20 : decode cX9_simulate 20 = .ok (.invokevirtual 254, 3) := by decide +kernel
theorem dX9_simulate_23 : decode cX9_simulate 23 = .ok (.pop, 1) := by decide +kernel
theorem dX9_simulate_24 : decode cX9_simulate 24 = .ok (.lload_n 1, 1) := by decide +kernel
theorem dX9_simulate_25 : decode cX9_simulate 25 = .ok (.lstore 4, 2) := by decide +kernel
theorem dX9_simulate_27 : decode cX9_simulate 27 = .ok (.iconst 0, 1) := by decide +kernel
theorem dX9_simulate_28 : decode cX9_simulate 28 = .ok (.istore 6, 2) := by decide +kernel
theorem dX9_simulate_30 : decode cX9_simulate 30 = .ok (.iload 6, 2) := by decide +kernel
theorem dX9_simulate_32 : decode cX9_simulate 32 = .ok (.iload_n 3, 1) := by decide +kernel
theorem dX9_simulate_33 : decode cX9_simulate 33 = .ok (.if_icmp .ge 44, 3) := by decide +kernel
theorem dX9_simulate_36 : decode cX9_simulate 36 = .ok (.lload 4, 2) := by decide +kernel
theorem dX9_simulate_38 : decode cX9_simulate 38 = .ok (.ldc2_w 355, 3) := by decide +kernel
theorem dX9_simulate_41 : decode cX9_simulate 41 = .ok (.lmul, 1) := by decide +kernel
theorem dX9_simulate_42 : decode cX9_simulate 42 = .ok (.ldc2_w 357, 3) := by decide +kernel
theorem dX9_simulate_45 : decode cX9_simulate 45 = .ok (.ladd, 1) := by decide +kernel
theorem dX9_simulate_46 : decode cX9_simulate 46 = .ok (.lstore 4, 2) := by decide +kernel
theorem dX9_simulate_48 : decode cX9_simulate 48 = .ok (.lload 4, 2) := by decide +kernel
theorem dX9_simulate_50 : decode cX9_simulate 50 = .ok (.bipush 33, 2) := by decide +kernel
theorem dX9_simulate_52 : decode cX9_simulate 52 = .ok (.lushr, 1) := by decide +kernel
theorem dX9_simulate_53 : decode cX9_simulate 53 = .ok (.l2i, 1) := by decide +kernel
theorem dX9_simulate_54 : decode cX9_simulate 54 = .ok (.istore 7, 2) := by decide +kernel
theorem dX9_simulate_56 : decode cX9_simulate 56 = .ok (.aload_n 0, 1) := by decide +kernel
theorem dX9_simulate_57 : decode cX9_simulate 57 = .ok (.iload 7, 2) := by decide +kernel
theorem dX9_simulate_59 : decode cX9_simulate 59 = .ok (.bipush 8, 2) := by decide +kernel
theorem dX9_simulate_61 : decode cX9_simulate 61 = .ok (.irem, 1) := by decide +kernel
theorem dX9_simulate_62 : decode cX9_simulate 62 = .ok (.iload 7, 2) := by decide +kernel
theorem dX9_simulate_64 : decode cX9_simulate 64 = .ok (.bipush 8, 2) := by decide +kernel
theorem dX9_simulate_66 : decode cX9_simulate 66 = .ok (.idiv, 1) := by decide +kernel
theorem dX9_simulate_67 : decode cX9_simulate 67 = .ok (.invokevirtual 359, 3) := by decide +kernel
theorem dX9_simulate_70 : decode cX9_simulate 70 = .ok (.pop, 1) := by decide +kernel
theorem dX9_simulate_71 : decode cX9_simulate 71 = .ok (.iinc 6 1, 3) := by decide +kernel
theorem dX9_simulate_74 : decode cX9_simulate 74 = .ok (.goto (-44), 3) := by decide +kernel
theorem dX9_simulate_77 : decode cX9_simulate 77 = .ok (.aload_n 0, 1) := by decide +kernel
theorem dX9_simulate_78 : decode cX9_simulate 78 = .ok (.getfield 19, 3) := by decide +kernel
theorem dX9_simulate_81 : decode cX9_simulate 81 = .ok (.aload_n 0, 1) := by decide +kernel
theorem dX9_simulate_82 : decode cX9_simulate 82 = .ok (.getfield 45, 3) := by decide +kernel
theorem dX9_simulate_85 : decode cX9_simulate 85 = .ok (.invokevirtual 89, 3) := by decide +kernel
theorem dX9_simulate_88 : decode cX9_simulate 88 = .ok (.sipush 1000, 3) := by decide +kernel
theorem dX9_simulate_91 : decode cX9_simulate 91 = .ok (.aload_n 0, 1) := by decide +kernel
theorem dX9_simulate_92 : decode cX9_simulate 92 = .ok (.getfield 45, 3) := by decide +kernel
theorem dX9_simulate_95 : decode cX9_simulate 95 = .ok (.getfield 109, 3) := by decide +kernel
theorem dX9_simulate_98 : decode cX9_simulate 98 = .ok (.getfield 113, 3) := by decide +kernel
theorem dX9_simulate_101 : decode cX9_simulate 101 = .ok (.imul, 1) := by decide +kernel
theorem dX9_simulate_102 : decode cX9_simulate 102 = .ok (.bipush 10, 2) := by decide +kernel
theorem dX9_simulate_104 : decode cX9_simulate 104 = .ok (.aload_n 0, 1) := by decide +kernel
theorem dX9_simulate_105 : decode cX9_simulate 105 = .ok (.getfield 19, 3) := by decide +kernel
theorem dX9_simulate_108 : decode cX9_simulate 108 = .ok (.aload_n 0, 1) := by decide +kernel
theorem dX9_simulate_109 : decode cX9_simulate 109 = .ok (.getfield 45, 3) := by decide +kernel
theorem dX9_simulate_112 : decode cX9_simulate 112 = .ok (.invokevirtual 116, 3) := by decide +kernel
theorem dX9_simulate_115 : decode cX9_simulate 115 = .ok (.imul, 1) := by decide +kernel
theorem dX9_simulate_116 : decode cX9_simulate 116 = .ok (.iadd, 1) := by decide +kernel
theorem dX9_simulate_117 : decode cX9_simulate 117 = .ok (.aload_n 0, 1) := by decide +kernel
theorem dX9_simulate_118 : decode cX9_simulate 118 = .ok (.getfield 19, 3) := by decide +kernel
theorem dX9_simulate_121 : decode cX9_simulate 121 = .ok (.aload_n 0, 1) := by decide +kernel
theorem dX9_simulate_122 : decode cX9_simulate 122 = .ok (.getfield 45, 3) := by decide +kernel
theorem dX9_simulate_125 : decode cX9_simulate 125 = .ok (.invokevirtual 138, 3) := by decide +kernel
theorem dX9_simulate_128 : decode cX9_simulate 128 = .ok (.iadd, 1) := by decide +kernel
theorem dX9_simulate_129 : decode cX9_simulate 129 = .ok (.ireturn, 1) := by decide +kernel
set_option maxRecDepth 20000 in
theorem ggX9_takeTurn_X6_addCrack : GoodIn wsX9_takeTurn wsX6_addCrack := goodIn_r _ [7, 8, 9, 10, 11, 12, 13, 14, 15, 16, 17, 18, 19, 20, 21, 22, 23, 24, 25, 26, 27, 28, 29, 258, 259, 260, 261, 262, 263, 264, 265, 266, 267, 268] (by decide +kernel) (by decide +kernel)
set_option maxRecDepth 20000 in
theorem gX9_takeTurn_X6_addCrack : GoodIn wsX9_takeTurn (wsV RX9 268 RX6 yX6_addCrack wsX6_addCrack) := goodIn_app (goodIn_of _ (by decide +kernel)) ggX9_takeTurn_X6_addCrack
set_option maxRecDepth 20000 in
theorem ggX9_takeTurn_X6_showCracks : GoodIn wsX9_takeTurn wsX6_showCracks := goodIn_r _ [33, 34, 8, 35, 36, 37, 38, 39, 40, 41, 42, 43, 44, 45, 14, 46, 24, 258, 259, 260, 261, 262, 269, 270, 271, 272, 273, 274, 275, 263, 264, 265, 266, 267, 268] (by decide +kernel) (by decide +kernel)
set_option maxRecDepth 20000 in
theorem gX9_takeTurn_X6_showCracks : GoodIn wsX9_takeTurn (wsV RX9 275 RX6 yX6_showCracks wsX6_showCracks) := goodIn_app (goodIn_of _ (by decide +kernel)) ggX9_takeTurn_X6_showCracks
set_option maxRecDepth 20000 in
theorem ggX9_takeTurn_X6_hangOn : GoodIn wsX9_takeTurn wsX6_hangOn := goodIn_r _ [50, 34, 51, 37, 38, 39, 40, 41, 42, 52, 18, 53, 54, 55, 56, 57, 58, 258, 259, 260, 261, 262, 269, 270, 271, 272, 273, 274, 275] (by decide +kernel) (by decide +kernel)
set_option maxRecDepth 20000 in
theorem gX9_takeTurn_X6_hangOn : GoodIn wsX9_takeTurn (wsV RX9 278 RX6 yX6_hangOn wsX6_hangOn) := goodIn_app (goodIn_of _ (by decide +kernel)) ggX9_takeTurn_X6_hangOn
set_option maxRecDepth 20000 in
theorem ggX9_takeTurn_X6_putOnShelf : GoodIn wsX9_takeTurn wsX6_putOnShelf := goodIn_r _ [62, 34, 63, 64, 37, 38, 39, 40, 41, 42, 65, 18, 66, 67, 68, 69, 70, 71, 72, 73, 74, 75, 76, 77, 78, 79, 80, 81, 82, 83, 84, 6, 85, 86, 87, 88, 89, 90, 8, 91, 35, 92, 93, 94, 95, 96, 97, 98, 99, 100, 101, 102, 103, 104, 105, 106, 107, 258, 259, 260, 261, 262, 276, 277, 269, 270, 271, 272, 273, 274, 275, 263, 264, 265, 266, 267, 268] (by decide +kernel) (by decide +kernel)
set_option maxRecDepth 20000 in
theorem gX9_takeTurn_X6_putOnShelf : GoodIn wsX9_takeTurn (wsV RX9 284 RX6 yX6_putOnShelf wsX6_putOnShelf) := goodIn_app (goodIn_of _ (by decide +kernel)) ggX9_takeTurn_X6_putOnShelf
set_option maxRecDepth 20000 in
theorem ggX9_takeTurn_X6_cutOff : GoodIn wsX9_takeTurn wsX6_cutOff := goodIn_r _ [111, 34, 51, 37, 38, 39, 40, 41, 42, 258, 259, 260, 261, 262, 269, 270, 271, 272, 273, 274, 275] (by decide +kernel) (by decide +kernel)
set_option maxRecDepth 20000 in
theorem gX9_takeTurn_X6_cutOff : GoodIn wsX9_takeTurn (wsV RX9 281 RX6 yX6_cutOff wsX6_cutOff) := goodIn_app (goodIn_of _ (by decide +kernel)) ggX9_takeTurn_X6_cutOff
set_option maxRecDepth 20000 in
theorem ggX9_takeTurn_X1_sortShelf : GoodIn wsX9_takeTurn wsX1_sortShelf := goodIn_r _ [116, 117, 118, 119, 120, 121, 122, 123, 124, 65, 18, 66, 125, 126, 127, 115, 128, 129, 130, 131, 132, 133, 134, 135, 136, 137, 138, 139, 140, 141, 142, 143, 144, 14, 145, 146, 24, 147, 148, 149, 150, 25, 26, 27, 28, 29, 151, 152, 153, 154, 155, 156, 157, 158, 159, 160, 161, 162, 163, 164, 165, 166, 167, 168, 169, 170, 171, 172, 173, 174, 175, 176, 177, 178, 179, 180, 181, 182, 183, 184, 185, 186, 187, 188, 189, 190, 191, 192, 193, 194, 195, 196, 197, 198, 199, 200, 201, 202, 203, 204, 205, 206, 207, 208, 209, 210, 211, 212, 213, 214, 215, 216, 217, 218, 219, 220, 221, 222, 223, 224, 225, 226, 227, 228, 229, 230, 231, 232, 233, 78, 79, 70, 80, 81, 234, 235, 236, 237, 238, 101, 102, 103, 258, 259, 260, 261, 262, 276, 277, 278, 279, 280, 281, 282, 283, 269, 270, 271, 272, 273, 274, 275, 263, 264, 265, 266, 267, 268, 284, 285, 286, 287, 288, 289] (by decide +kernel) (by decide +kernel)
set_option maxRecDepth 20000 in
theorem gX9_takeTurn_X1_sortShelf : GoodIn wsX9_takeTurn (wsV RX9 290 RX1 yX1_sortShelf wsX1_sortShelf) := goodIn_app (goodIn_of _ (by decide +kernel)) ggX9_takeTurn_X1_sortShelf
set_option maxRecDepth 20000 in
theorem ggX9_takeTurn_X6_addSeal : GoodIn wsX9_takeTurn wsX6_addSeal := goodIn_r _ [242, 8, 34, 243, 35, 244, 245, 246, 36, 51, 11, 12, 13, 14, 15, 16, 247, 18, 248, 249, 250, 43, 44, 45, 46, 24, 258, 259, 260, 261, 262, 269, 270, 271, 272, 273, 274, 275, 263, 264, 265, 266, 267, 268] (by decide +kernel) (by decide +kernel)
set_option maxRecDepth 20000 in
theorem gX9_takeTurn_X6_addSeal : GoodIn wsX9_takeTurn (wsV RX9 271 RX6 yX6_addSeal wsX6_addSeal) := goodIn_app (goodIn_of _ (by decide +kernel)) ggX9_takeTurn_X6_addSeal
theorem dX9_takeTurn_0 : decode cX9_takeTurn 0 = .ok (.iload_n 1, 1) := by decide +kernel
theorem dX9_takeTurn_1 : decode cX9_takeTurn 1 = .ok (.tableswitch 149 2 7 #[39, 63, 82, 101, 121, 133], 39) := by decide +kernel
theorem dX9_takeTurn_40 : decode cX9_takeTurn 40 = .ok (.aload_n 0, 1) := by decide +kernel
theorem dX9_takeTurn_41 : decode cX9_takeTurn 41 = .ok (.getfield 45, 3) := by decide +kernel
theorem dX9_takeTurn_44 : decode cX9_takeTurn 44 = .ok (.iload_n 2, 1) := by decide +kernel
theorem dX9_takeTurn_45 : decode cX9_takeTurn 45 = .ok (.bipush 10, 2) := by decide +kernel
theorem dX9_takeTurn_47 : decode cX9_takeTurn 47 = .ok (.irem, 1) := by decide +kernel
theorem dX9_takeTurn_48 : decode cX9_takeTurn 48 = .ok (.sipush 1000, 3) := by decide +kernel
theorem dX9_takeTurn_51 : decode cX9_takeTurn 51 = .ok (.iload_n 2, 1) := by decide +kernel
theorem dX9_takeTurn_52 : decode cX9_takeTurn 52 = .ok (.bipush 16, 2) := by decide +kernel
theorem dX9_takeTurn_54 : decode cX9_takeTurn 54 = .ok (.idiv, 1) := by decide +kernel
theorem dX9_takeTurn_55 : decode cX9_takeTurn 55 = .ok (.sipush 1000, 3) := by decide +kernel
theorem dX9_takeTurn_58 : decode cX9_takeTurn 58 = .ok (.irem, 1) := by decide +kernel
theorem dX9_takeTurn_59 : decode cX9_takeTurn 59 = .ok (.iadd, 1) := by decide +kernel
theorem dX9_takeTurn_60 : decode cX9_takeTurn 60 = .ok (.invokevirtual 268, 3) := by decide +kernel
theorem dX9_takeTurn_63 : decode cX9_takeTurn 63 = .ok (.ireturn, 1) := by decide +kernel
theorem dX9_takeTurn_64 : decode cX9_takeTurn 64 = .ok (.aload_n 0, 1) := by decide +kernel
theorem dX9_takeTurn_65 : decode cX9_takeTurn 65 = .ok (.getfield 45, 3) := by decide +kernel
theorem dX9_takeTurn_68 : decode cX9_takeTurn 68 = .ok (.iload_n 2, 1) := by decide +kernel
theorem dX9_takeTurn_69 : decode cX9_takeTurn 69 = .ok (.bipush 24, 2) := by decide +kernel
theorem dX9_takeTurn_71 : decode cX9_takeTurn 71 = .ok (.irem, 1) := by decide +kernel
theorem dX9_takeTurn_72 : decode cX9_takeTurn 72 = .ok (.iload_n 2, 1) := by decide +kernel
theorem dX9_takeTurn_73 : decode cX9_takeTurn 73 = .ok (.bipush 32, 2) := by decide +kernel
theorem dX9_takeTurn_75 : decode cX9_takeTurn 75 = .ok (.idiv, 1) := by decide +kernel
theorem dX9_takeTurn_76 : decode cX9_takeTurn 76 = .ok (.bipush 16, 2) := by decide +kernel
theorem dX9_takeTurn_78 : decode cX9_takeTurn 78 = .ok (.irem, 1) := by decide +kernel
theorem dX9_takeTurn_79 : decode cX9_takeTurn 79 = .ok (.invokevirtual 275, 3) := by decide +kernel
theorem dX9_takeTurn_82 : decode cX9_takeTurn 82 = .ok (.ireturn, 1) := by decide +kernel
theorem dX9_takeTurn_83 : decode cX9_takeTurn 83 = .ok (.aload_n 0, 1) := by decide +kernel
theorem dX9_takeTurn_84 : decode cX9_takeTurn 84 = .ok (.getfield 45, 3) := by decide +kernel
theorem dX9_takeTurn_87 : decode cX9_takeTurn 87 = .ok (.iload_n 2, 1) := by decide +kernel
theorem dX9_takeTurn_88 : decode cX9_takeTurn 88 = .ok (.bipush 24, 2) := by decide +kernel
theorem dX9_takeTurn_90 : decode cX9_takeTurn 90 = .ok (.irem, 1) := by decide +kernel
theorem dX9_takeTurn_91 : decode cX9_takeTurn 91 = .ok (.iload_n 2, 1) := by decide +kernel
theorem dX9_takeTurn_92 : decode cX9_takeTurn 92 = .ok (.bipush 32, 2) := by decide +kernel
theorem dX9_takeTurn_94 : decode cX9_takeTurn 94 = .ok (.idiv, 1) := by decide +kernel
theorem dX9_takeTurn_95 : decode cX9_takeTurn 95 = .ok (.bipush 6, 2) := by decide +kernel
theorem dX9_takeTurn_97 : decode cX9_takeTurn 97 = .ok (.irem, 1) := by decide +kernel
theorem dX9_takeTurn_98 : decode cX9_takeTurn 98 = .ok (.invokevirtual 278, 3) := by decide +kernel
theorem dX9_takeTurn_101 : decode cX9_takeTurn 101 = .ok (.ireturn, 1) := by decide +kernel
theorem dX9_takeTurn_102 : decode cX9_takeTurn 102 = .ok (.aload_n 0, 1) := by decide +kernel
theorem dX9_takeTurn_103 : decode cX9_takeTurn 103 = .ok (.getfield 45, 3) := by decide +kernel
theorem dX9_takeTurn_106 : decode cX9_takeTurn 106 = .ok (.iload_n 2, 1) := by decide +kernel
theorem dX9_takeTurn_107 : decode cX9_takeTurn 107 = .ok (.bipush 24, 2) := by decide +kernel
theorem dX9_takeTurn_109 : decode cX9_takeTurn 109 = .ok (.irem, 1) := by decide +kernel
theorem dX9_takeTurn_110 : decode cX9_takeTurn 110 = .ok (.iload_n 2, 1) := by decide +kernel
theorem dX9_takeTurn_111 : decode cX9_takeTurn 111 = .ok (.bipush 32, 2) := by decide +kernel
theorem dX9_takeTurn_113 : decode cX9_takeTurn 113 = .ok (.idiv, 1) := by decide +kernel
theorem dX9_takeTurn_114 : decode cX9_takeTurn 114 = .ok (.bipush 6, 2) := by decide +kernel
theorem dX9_takeTurn_116 : decode cX9_takeTurn 116 = .ok (.irem, 1) := by decide +kernel
theorem dX9_takeTurn_117 : decode cX9_takeTurn 117 = .ok (.iconst 0, 1) := by decide +kernel
theorem dX9_takeTurn_118 : decode cX9_takeTurn 118 = .ok (.invokevirtual 284, 3) := by decide +kernel
theorem dX9_takeTurn_121 : decode cX9_takeTurn 121 = .ok (.ireturn, 1) := by decide +kernel
theorem dX9_takeTurn_122 : decode cX9_takeTurn 122 = .ok (.aload_n 0, 1) := by decide +kernel
theorem dX9_takeTurn_123 : decode cX9_takeTurn 123 = .ok (.getfield 45, 3) := by decide +kernel
theorem dX9_takeTurn_126 : decode cX9_takeTurn 126 = .ok (.iload_n 2, 1) := by decide +kernel
theorem dX9_takeTurn_127 : decode cX9_takeTurn 127 = .ok (.bipush 24, 2) := by decide +kernel
theorem dX9_takeTurn_129 : decode cX9_takeTurn 129 = .ok (.irem, 1) := by decide +kernel
theorem dX9_takeTurn_130 : decode cX9_takeTurn 130 = .ok (.invokevirtual 281, 3) := by decide +kernel
theorem dX9_takeTurn_133 : decode cX9_takeTurn 133 = .ok (.ireturn, 1) := by decide +kernel
theorem dX9_takeTurn_134 : decode cX9_takeTurn 134 = .ok (.aload_n 0, 1) := by decide +kernel
theorem dX9_takeTurn_135 : decode cX9_takeTurn 135 = .ok (.getfield 19, 3) := by decide +kernel
theorem dX9_takeTurn_138 : decode cX9_takeTurn 138 = .ok (.aload_n 0, 1) := by decide +kernel
theorem dX9_takeTurn_139 : decode cX9_takeTurn 139 = .ok (.getfield 45, 3) := by decide +kernel
theorem dX9_takeTurn_142 : decode cX9_takeTurn 142 = .ok (.iload_n 2, 1) := by decide +kernel
theorem dX9_takeTurn_143 : decode cX9_takeTurn 143 = .ok (.bipush 6, 2) := by decide +kernel
theorem dX9_takeTurn_145 : decode cX9_takeTurn 145 = .ok (.irem, 1) := by decide +kernel
theorem dX9_takeTurn_146 : decode cX9_takeTurn 146 = .ok (.invokevirtual 290, 3) := by decide +kernel
theorem dX9_takeTurn_149 : decode cX9_takeTurn 149 = .ok (.ireturn, 1) := by decide +kernel
theorem dX9_takeTurn_150 : decode cX9_takeTurn 150 = .ok (.aload_n 0, 1) := by decide +kernel
theorem dX9_takeTurn_151 : decode cX9_takeTurn 151 = .ok (.getfield 45, 3) := by decide +kernel
theorem dX9_takeTurn_154 : decode cX9_takeTurn 154 = .ok (.iload_n 2, 1) := by decide +kernel
theorem dX9_takeTurn_155 : decode cX9_takeTurn 155 = .ok (.bipush 10, 2) := by decide +kernel
theorem dX9_takeTurn_157 : decode cX9_takeTurn 157 = .ok (.irem, 1) := by decide +kernel
theorem dX9_takeTurn_158 : decode cX9_takeTurn 158 = .ok (.iload_n 2, 1) := by decide +kernel
theorem dX9_takeTurn_159 : decode cX9_takeTurn 159 = .ok (.bipush 16, 2) := by decide +kernel
theorem dX9_takeTurn_161 : decode cX9_takeTurn 161 = .ok (.idiv, 1) := by decide +kernel
theorem dX9_takeTurn_162 : decode cX9_takeTurn 162 = .ok (.iconst 2, 1) := by decide +kernel
theorem dX9_takeTurn_163 : decode cX9_takeTurn 163 = .ok (.irem, 1) := by decide +kernel
theorem dX9_takeTurn_164 : decode cX9_takeTurn 164 = .ok (.iload_n 2, 1) := by decide +kernel
theorem dX9_takeTurn_165 : decode cX9_takeTurn 165 = .ok (.bipush 32, 2) := by decide +kernel
theorem dX9_takeTurn_167 : decode cX9_takeTurn 167 = .ok (.idiv, 1) := by decide +kernel
theorem dX9_takeTurn_168 : decode cX9_takeTurn 168 = .ok (.bipush 9, 2) := by decide +kernel
theorem dX9_takeTurn_170 : decode cX9_takeTurn 170 = .ok (.irem, 1) := by decide +kernel
theorem dX9_takeTurn_171 : decode cX9_takeTurn 171 = .ok (.iconst 1, 1) := by decide +kernel
theorem dX9_takeTurn_172 : decode cX9_takeTurn 172 = .ok (.isub, 1) := by decide +kernel
theorem dX9_takeTurn_173 : decode cX9_takeTurn 173 = .ok (.iload_n 2, 1) := by decide +kernel
theorem dX9_takeTurn_174 : decode cX9_takeTurn 174 = .ok (.sipush 512, 3) := by decide +kernel
theorem dX9_takeTurn_177 : decode cX9_takeTurn 177 = .ok (.idiv, 1) := by decide +kernel
theorem dX9_takeTurn_178 : decode cX9_takeTurn 178 = .ok (.bipush 20, 2) := by decide +kernel
theorem dX9_takeTurn_180 : decode cX9_takeTurn 180 = .ok (.irem, 1) := by decide +kernel
theorem dX9_takeTurn_181 : decode cX9_takeTurn 181 = .ok (.iconst 0, 1) := by decide +kernel
theorem dX9_takeTurn_182 : decode cX9_takeTurn 182 = .ok (.invokevirtual 271, 3) := by decide +kernel
theorem dX9_takeTurn_185 : decode cX9_takeTurn 185 = .ok (.ireturn, 1) := by decide +kernel
set_option maxRecDepth 20000 in
theorem ggX9_save_X9_isSlot : GoodIn wsX9_save wsX9_isSlot := goodIn_r _ [9] (by decide +kernel) (by decide +kernel)
set_option maxRecDepth 20000 in
theorem gX9_save_X9_isSlot : GoodIn wsX9_save (va_wsS RX9 362 yX9_isSlot wsX9_isSlot) := goodIn_app (goodIn_of _ (by decide +kernel)) ggX9_save_X9_isSlot
set_option maxRecDepth 20000 in
theorem ggX9_save_X9_mustExist : GoodIn wsX9_save wsX9_mustExist := goodIn_ca (goodIn_r _ [12, 13, 14] (by decide +kernel) (by decide +kernel)) (goodIn_sub (fun _ h => List.mem_cons_of_mem _ (List.mem_append_right _ h)) (by decide +kernel))
set_option maxRecDepth 20000 in
theorem gX9_save_X9_mustExist : GoodIn wsX9_save (va_wsS RX9 141 yX9_mustExist wsX9_mustExist) := goodIn_app (goodIn_of _ (by decide +kernel)) ggX9_save_X9_mustExist
set_option maxRecDepth 20000 in
theorem ggX9_save_X6_copy : GoodIn wsX9_save wsX6_copy := goodIn_r _ [19, 20, 21, 22, 23, 24, 25, 26, 27, 28, 29, 30, 31, 32, 33, 34, 35, 36, 37, 38, 39, 40, 41, 42, 43, 44, 45, 46, 47, 48, 49, 50, 51, 52, 53, 54, 55, 56, 57, 58, 59, 60, 61, 62, 63, 64, 65, 66, 67, 68, 69, 70, 78, 79, 80, 81, 82, 90, 91, 92, 93, 94, 95, 96, 97, 98, 83, 84, 85, 86, 87, 88, 89, 99, 100] (by decide +kernel) (by decide +kernel)
set_option maxRecDepth 20000 in
theorem gX9_save_X6_copy : GoodIn wsX9_save (wsV RX9 301 RX6 yX6_copy wsX6_copy) := goodIn_app (goodIn_of _ (by decide +kernel)) ggX9_save_X6_copy
theorem dX9_save_0 : decode cX9_save 0 = .ok (.iload_n 1, 1) := by decide +kernel
theorem dX9_save_1 : decode cX9_save 1 = .ok (.invokestatic 362, 3) := by decide +kernel
theorem dX9_save_4 : decode cX9_save 4 = .ok (.invokestatic 141, 3) := by decide +kernel
theorem dX9_save_7 : decode cX9_save 7 = .ok (.aload_n 0, 1) := by decide +kernel
theorem dX9_save_8 : decode cX9_save 8 = .ok (.getfield 32, 3) := by decide +kernel
theorem dX9_save_11 : decode cX9_save 11 = .ok (.iload_n 1, 1) := by decide +kernel
theorem dX9_save_12 : decode cX9_save 12 = .ok (.aaload, 1) := by decide +kernel
theorem dX9_save_13 : decode cX9_save 13 = .ok (.aload_n 0, 1) := by decide +kernel
theorem dX9_save_14 : decode cX9_save 14 = .ok (.getfield 41, 3) := by decide +kernel
theorem dX9_save_17 : decode cX9_save 17 = .ok (.invokevirtual 301, 3) := by decide +kernel
theorem dX9_save_20 : decode cX9_save 20 = .ok (.aload_n 0, 1) := by decide +kernel
theorem dX9_save_21 : decode cX9_save 21 = .ok (.getfield 36, 3) := by decide +kernel
theorem dX9_save_24 : decode cX9_save 24 = .ok (.iload_n 1, 1) := by decide +kernel
theorem dX9_save_25 : decode cX9_save 25 = .ok (.iconst 1, 1) := by decide +kernel
theorem dX9_save_26 : decode cX9_save 26 = .ok (.bastore, 1) := by decide +kernel
theorem dX9_save_27 : decode cX9_save 27 = .ok (.aload_n 0, 1) := by decide +kernel
theorem dX9_save_28 : decode cX9_save 28 = .ok (.getfield 41, 3) := by decide +kernel
theorem dX9_save_31 : decode cX9_save 31 = .ok (.getfield 109, 3) := by decide +kernel
theorem dX9_save_34 : decode cX9_save 34 = .ok (.getfield 113, 3) := by decide +kernel
theorem dX9_save_37 : decode cX9_save 37 = .ok (.ireturn, 1) := by decide +kernel
set_option maxRecDepth 20000 in
theorem ggX9_restore_X9_isSlot : GoodIn wsX9_restore wsX9_isSlot := goodIn_r _ [10] (by decide +kernel) (by decide +kernel)
set_option maxRecDepth 20000 in
theorem gX9_restore_X9_isSlot : GoodIn wsX9_restore (va_wsS RX9 362 yX9_isSlot wsX9_isSlot) := goodIn_app (goodIn_of _ (by decide +kernel)) ggX9_restore_X9_isSlot
set_option maxRecDepth 20000 in
theorem ggX9_restore_X9_mustExist : GoodIn wsX9_restore wsX9_mustExist := goodIn_ca (goodIn_r _ [13, 14, 15] (by decide +kernel) (by decide +kernel)) (goodIn_sub (fun _ h => List.mem_cons_of_mem _ (List.mem_append_left _ (List.mem_append_right _ h))) (by decide +kernel))
set_option maxRecDepth 20000 in
theorem gX9_restore_X9_mustExist : GoodIn wsX9_restore (va_wsS RX9 141 yX9_mustExist wsX9_mustExist) := goodIn_app (goodIn_of _ (by decide +kernel)) ggX9_restore_X9_mustExist
set_option maxRecDepth 20000 in
theorem ggX9_restore_X9_mustBeFree : GoodIn wsX9_restore wsX9_mustBeFree := goodIn_ca (goodIn_r _ [18, 19, 20] (by decide +kernel) (by decide +kernel)) (goodIn_sub (fun _ h => List.mem_cons_of_mem _ (List.mem_append_right _ h)) (by decide +kernel))
set_option maxRecDepth 20000 in
theorem gX9_restore_X9_mustBeFree : GoodIn wsX9_restore (va_wsS RX9 56 yX9_mustBeFree wsX9_mustBeFree) := goodIn_app (goodIn_of _ (by decide +kernel)) ggX9_restore_X9_mustBeFree
set_option maxRecDepth 20000 in
theorem ggX9_restore_X6_copy : GoodIn wsX9_restore wsX6_copy := goodIn_r _ [25, 26, 27, 28, 29, 30, 31, 32, 33, 34, 35, 36, 37, 38, 39, 40, 41, 42, 43, 44, 45, 46, 47, 48, 49, 50, 51, 52, 53, 54, 55, 56, 57, 58, 59, 60, 61, 62, 63, 64, 65, 66, 67, 68, 69, 70, 71, 72, 73, 74, 75, 76, 90, 91, 92, 93, 94, 102, 103, 104, 105, 106, 107, 108, 109, 110, 95, 96, 97, 98, 99, 100, 101, 111, 112] (by decide +kernel) (by decide +kernel)
set_option maxRecDepth 20000 in
theorem gX9_restore_X6_copy : GoodIn wsX9_restore (wsV RX9 301 RX6 yX6_copy wsX6_copy) := goodIn_app (goodIn_of _ (by decide +kernel)) ggX9_restore_X6_copy
set_option maxRecDepth 20000 in
theorem ggX9_restore_X2_forget : GoodIn wsX9_restore wsX2_forget := goodIn_r _ [81, 82, 113, 114, 115] (by decide +kernel) (by decide +kernel)
set_option maxRecDepth 20000 in
theorem gX9_restore_X2_forget : GoodIn wsX9_restore (wsV RX9 72 RX2 yX2_forget wsX2_forget) := goodIn_app (goodIn_of _ (by decide +kernel)) ggX9_restore_X2_forget
theorem dX9_restore_0 : decode cX9_restore 0 = .ok (.iload_n 1, 1) := by decide +kernel
theorem dX9_restore_1 : decode cX9_restore 1 = .ok (.invokestatic 362, 3) := by decide +kernel
theorem dX9_restore_4 : decode cX9_restore 4 = .ok (.invokestatic 141, 3) := by decide +kernel
theorem dX9_restore_7 : decode cX9_restore 7 = .ok (.aload_n 0, 1) := by decide +kernel
theorem dX9_restore_8 : decode cX9_restore 8 = .ok (.getfield 36, 3) := by decide +kernel
theorem dX9_restore_11 : decode cX9_restore 11 = .ok (.iload_n 1, 1) := by decide +kernel
theorem dX9_restore_12 : decode cX9_restore 12 = .ok (.baload, 1) := by decide +kernel
theorem dX9_restore_13 : decode cX9_restore 13 = .ok (.invokestatic 56, 3) := by decide +kernel
theorem dX9_restore_16 : decode cX9_restore 16 = .ok (.aload_n 0, 1) := by decide +kernel
theorem dX9_restore_17 : decode cX9_restore 17 = .ok (.getfield 41, 3) := by decide +kernel
theorem dX9_restore_20 : decode cX9_restore 20 = .ok (.aload_n 0, 1) := by decide +kernel
theorem dX9_restore_21 : decode cX9_restore 21 = .ok (.getfield 32, 3) := by decide +kernel
theorem dX9_restore_24 : decode cX9_restore 24 = .ok (.iload_n 1, 1) := by decide +kernel
theorem dX9_restore_25 : decode cX9_restore 25 = .ok (.aaload, 1) := by decide +kernel
theorem dX9_restore_26 : decode cX9_restore 26 = .ok (.invokevirtual 301, 3) := by decide +kernel
theorem dX9_restore_29 : decode cX9_restore 29 = .ok (.aload_n 0, 1) := by decide +kernel
theorem dX9_restore_30 : decode cX9_restore 30 = .ok (.getfield 26, 3) := by decide +kernel
theorem dX9_restore_33 : decode cX9_restore 33 = .ok (.invokevirtual 72, 3) := by decide +kernel
theorem dX9_restore_36 : decode cX9_restore 36 = .ok (.aload_n 0, 1) := by decide +kernel
theorem dX9_restore_37 : decode cX9_restore 37 = .ok (.getfield 41, 3) := by decide +kernel
theorem dX9_restore_40 : decode cX9_restore 40 = .ok (.getfield 109, 3) := by decide +kernel
theorem dX9_restore_43 : decode cX9_restore 43 = .ok (.getfield 113, 3) := by decide +kernel
theorem dX9_restore_46 : decode cX9_restore 46 = .ok (.ireturn, 1) := by decide +kernel
theorem dX9_isYear_0 : decode cX9_isYear 0 = .ok (.iload_n 0, 1) := by decide +kernel
theorem dX9_isYear_1 : decode cX9_isYear 1 = .ok (.sipush 1000, 3) := by decide +kernel
theorem dX9_isYear_4 : decode cX9_isYear 4 = .ok (.if_icmp .lt 14, 3) := by decide +kernel
theorem dX9_isYear_7 : decode cX9_isYear 7 = .ok (.iload_n 0, 1) := by decide +kernel
theorem dX9_isYear_8 : decode cX9_isYear 8 = .ok (.sipush 1999, 3) := by decide +kernel
theorem dX9_isYear_11 : decode cX9_isYear 11 = .ok (.if_icmp .gt 7, 3) := by decide +kernel
theorem dX9_isYear_14 : decode cX9_isYear 14 = .ok (.iconst 1, 1) := by decide +kernel
theorem dX9_isYear_15 : decode cX9_isYear 15 = .ok (.goto 4, 3) := by decide +kernel
theorem dX9_isYear_18 : decode cX9_isYear 18 = .ok (.iconst 0, 1) := by decide +kernel
theorem dX9_isYear_19 : decode cX9_isYear 19 = .ok (.ireturn, 1) := by decide +kernel
theorem dX9_isMaterial_0 : decode cX9_isMaterial 0 = .ok (.iload_n 0, 1) := by decide +kernel
theorem dX9_isMaterial_1 : decode cX9_isMaterial 1 = .ok (.ifCond .lt 12, 3) := by decide +kernel
theorem dX9_isMaterial_4 : decode cX9_isMaterial 4 = .ok (.iload_n 0, 1) := by decide +kernel
theorem dX9_isMaterial_5 : decode cX9_isMaterial 5 = .ok (.iconst 2, 1) := by decide +kernel
theorem dX9_isMaterial_6 : decode cX9_isMaterial 6 = .ok (.if_icmp .ge 7, 3) := by decide +kernel
theorem dX9_isMaterial_9 : decode cX9_isMaterial 9 = .ok (.iconst 1, 1) := by decide +kernel
theorem dX9_isMaterial_10 : decode cX9_isMaterial 10 = .ok (.goto 4, 3) := by decide +kernel
theorem dX9_isMaterial_13 : decode cX9_isMaterial 13 = .ok (.iconst 0, 1) := by decide +kernel
theorem dX9_isMaterial_14 : decode cX9_isMaterial 14 = .ok (.ireturn, 1) := by decide +kernel
theorem dX9_isBubbles_0 : decode cX9_isBubbles 0 = .ok (.iload_n 0, 1) := by decide +kernel
theorem dX9_isBubbles_1 : decode cX9_isBubbles 1 = .ok (.ifCond .lt 13, 3) := by decide +kernel
theorem dX9_isBubbles_4 : decode cX9_isBubbles 4 = .ok (.iload_n 0, 1) := by decide +kernel
theorem dX9_isBubbles_5 : decode cX9_isBubbles 5 = .ok (.bipush 99, 2) := by decide +kernel
theorem dX9_isBubbles_7 : decode cX9_isBubbles 7 = .ok (.if_icmp .gt 7, 3) := by decide +kernel
theorem dX9_isBubbles_10 : decode cX9_isBubbles 10 = .ok (.iconst 1, 1) := by decide +kernel
theorem dX9_isBubbles_11 : decode cX9_isBubbles 11 = .ok (.goto 4, 3) := by decide +kernel
theorem dX9_isBubbles_14 : decode cX9_isBubbles 14 = .ok (.iconst 0, 1) := by decide +kernel
theorem dX9_isBubbles_15 : decode cX9_isBubbles 15 = .ok (.ireturn, 1) := by decide +kernel
theorem dX9_isCharter_0 : decode cX9_isCharter 0 = .ok (.iload_n 0, 1) := by decide +kernel
theorem dX9_isCharter_1 : decode cX9_isCharter 1 = .ok (.ifCond .lt 13, 3) := by decide +kernel
theorem dX9_isCharter_4 : decode cX9_isCharter 4 = .ok (.iload_n 0, 1) := by decide +kernel
theorem dX9_isCharter_5 : decode cX9_isCharter 5 = .ok (.bipush 6, 2) := by decide +kernel
theorem dX9_isCharter_7 : decode cX9_isCharter 7 = .ok (.if_icmp .ge 7, 3) := by decide +kernel
theorem dX9_isCharter_10 : decode cX9_isCharter 10 = .ok (.iconst 1, 1) := by decide +kernel
theorem dX9_isCharter_11 : decode cX9_isCharter 11 = .ok (.goto 4, 3) := by decide +kernel
theorem dX9_isCharter_14 : decode cX9_isCharter 14 = .ok (.iconst 0, 1) := by decide +kernel
theorem dX9_isCharter_15 : decode cX9_isCharter 15 = .ok (.ireturn, 1) := by decide +kernel
theorem dX9_isShelf_0 : decode cX9_isShelf 0 = .ok (.iload_n 0, 1) := by decide +kernel
theorem dX9_isShelf_1 : decode cX9_isShelf 1 = .ok (.ifCond .lt 13, 3) := by decide +kernel
theorem dX9_isShelf_4 : decode cX9_isShelf 4 = .ok (.iload_n 0, 1) := by decide +kernel
theorem dX9_isShelf_5 : decode cX9_isShelf 5 = .ok (.bipush 6, 2) := by decide +kernel
theorem dX9_isShelf_7 : decode cX9_isShelf 7 = .ok (.if_icmp .ge 7, 3) := by decide +kernel
theorem dX9_isShelf_10 : decode cX9_isShelf 10 = .ok (.iconst 1, 1) := by decide +kernel
theorem dX9_isShelf_11 : decode cX9_isShelf 11 = .ok (.goto 4, 3) := by decide +kernel
theorem dX9_isShelf_14 : decode cX9_isShelf 14 = .ok (.iconst 0, 1) := by decide +kernel
theorem dX9_isShelf_15 : decode cX9_isShelf 15 = .ok (.ireturn, 1) := by decide +kernel
theorem dX9_isSlot_0 : decode cX9_isSlot 0 = .ok (.iload_n 0, 1) := by decide +kernel
theorem dX9_isSlot_1 : decode cX9_isSlot 1 = .ok (.ifCond .lt 12, 3) := by decide +kernel
theorem dX9_isSlot_4 : decode cX9_isSlot 4 = .ok (.iload_n 0, 1) := by decide +kernel
theorem dX9_isSlot_5 : decode cX9_isSlot 5 = .ok (.iconst 2, 1) := by decide +kernel
theorem dX9_isSlot_6 : decode cX9_isSlot 6 = .ok (.if_icmp .ge 7, 3) := by decide +kernel
theorem dX9_isSlot_9 : decode cX9_isSlot 9 = .ok (.iconst 1, 1) := by decide +kernel
theorem dX9_isSlot_10 : decode cX9_isSlot 10 = .ok (.goto 4, 3) := by decide +kernel
theorem dX9_isSlot_13 : decode cX9_isSlot 13 = .ok (.iconst 0, 1) := by decide +kernel
theorem dX9_isSlot_14 : decode cX9_isSlot 14 = .ok (.ireturn, 1) := by decide +kernel
theorem dX9_mustExist_0 : decode cX9_mustExist 0 = .ok (.iload_n 0, 1) := by decide +kernel
theorem dX9_mustExist_1 : decode cX9_mustExist 1 = .ok (.ifCond .ne 14, 3) := by decide +kernel
theorem dX9_mustExist_4 : decode cX9_mustExist 4 = .ok (.new 365, 3) := by decide +kernel
theorem dX9_mustExist_7 : decode cX9_mustExist 7 = .ok (.dup, 1) := by decide +kernel
theorem dX9_mustExist_8 : decode cX9_mustExist 8 = .ok (.ldc_w 367, 3) := by decide +kernel
theorem dX9_mustExist_11 : decode cX9_mustExist 11 = .ok (.invokespecial 369, 3) := by decide +kernel
theorem dX9_mustExist_14 : decode cX9_mustExist 14 = .ok (.athrow, 1) := by decide +kernel
theorem dX9_mustExist_15 : decode cX9_mustExist 15 = .ok (.return_, 1) := by decide +kernel
theorem dX9_mustFit_0 : decode cX9_mustFit 0 = .ok (.iload_n 0, 1) := by decide +kernel
theorem dX9_mustFit_1 : decode cX9_mustFit 1 = .ok (.ifCond .ne 14, 3) := by decide +kernel
theorem dX9_mustFit_4 : decode cX9_mustFit 4 = .ok (.new 372, 3) := by decide +kernel
theorem dX9_mustFit_7 : decode cX9_mustFit 7 = .ok (.dup, 1) := by decide +kernel
theorem dX9_mustFit_8 : decode cX9_mustFit 8 = .ok (.ldc_w 374, 3) := by decide +kernel
theorem dX9_mustFit_11 : decode cX9_mustFit 11 = .ok (.invokespecial 376, 3) := by decide +kernel
theorem dX9_mustFit_14 : decode cX9_mustFit 14 = .ok (.athrow, 1) := by decide +kernel
theorem dX9_mustFit_15 : decode cX9_mustFit 15 = .ok (.return_, 1) := by decide +kernel
theorem dX9_mustBeFree_0 : decode cX9_mustBeFree 0 = .ok (.iload_n 0, 1) := by decide +kernel
theorem dX9_mustBeFree_1 : decode cX9_mustBeFree 1 = .ok (.ifCond .ne 14, 3) := by decide +kernel
theorem dX9_mustBeFree_4 : decode cX9_mustBeFree 4 = .ok (.new 377, 3) := by decide +kernel
theorem dX9_mustBeFree_7 : decode cX9_mustBeFree 7 = .ok (.dup, 1) := by decide +kernel
theorem dX9_mustBeFree_8 : decode cX9_mustBeFree 8 = .ok (.ldc_w 379, 3) := by decide +kernel
theorem dX9_mustBeFree_11 : decode cX9_mustBeFree 11 = .ok (.invokespecial 381, 3) := by decide +kernel
theorem dX9_mustBeFree_14 : decode cX9_mustBeFree 14 = .ok (.athrow, 1) := by decide +kernel
theorem dX9_mustBeFree_15 : decode cX9_mustBeFree 15 = .ok (.return_, 1) := by decide +kernel
set_option maxRecDepth 20000 in
theorem ggX9_mustBeAnswer_X9_mustExist : GoodIn wsX9_mustBeAnswer wsX9_mustExist := goodIn_ca (goodIn_r _ [4, 5, 6] (by decide +kernel) (by decide +kernel)) (goodIn_sub (fun _ h => List.mem_cons_of_mem _ (List.mem_append_left _ (List.mem_append_left _ (List.mem_append_right _ h)))) (by decide +kernel))
set_option maxRecDepth 20000 in
theorem gX9_mustBeAnswer_X9_mustExist : GoodIn wsX9_mustBeAnswer (va_wsS RX9 141 yX9_mustExist wsX9_mustExist) := goodIn_app (goodIn_of _ (by decide +kernel)) ggX9_mustBeAnswer_X9_mustExist
set_option maxRecDepth 20000 in
theorem ggX9_mustBeAnswer_X9_mustFit : GoodIn wsX9_mustBeAnswer wsX9_mustFit := goodIn_ca (goodIn_r _ [9, 10, 11] (by decide +kernel) (by decide +kernel)) (goodIn_sub (fun _ h => List.mem_cons_of_mem _ (List.mem_append_left _ (List.mem_append_right _ h))) (by decide +kernel))
set_option maxRecDepth 20000 in
theorem gX9_mustBeAnswer_X9_mustFit : GoodIn wsX9_mustBeAnswer (va_wsS RX9 48 yX9_mustFit wsX9_mustFit) := goodIn_app (goodIn_of _ (by decide +kernel)) ggX9_mustBeAnswer_X9_mustFit
set_option maxRecDepth 20000 in
theorem ggX9_mustBeAnswer_X9_mustBeFree : GoodIn wsX9_mustBeAnswer wsX9_mustBeFree := goodIn_ca (goodIn_r _ [14, 15, 16] (by decide +kernel) (by decide +kernel)) (goodIn_sub (fun _ h => List.mem_cons_of_mem _ (List.mem_append_right _ h)) (by decide +kernel))
set_option maxRecDepth 20000 in
theorem gX9_mustBeAnswer_X9_mustBeFree : GoodIn wsX9_mustBeAnswer (va_wsS RX9 56 yX9_mustBeFree wsX9_mustBeFree) := goodIn_app (goodIn_of _ (by decide +kernel)) ggX9_mustBeAnswer_X9_mustBeFree
theorem dX9_mustBeAnswer_0 : decode cX9_mustBeAnswer 0 = .ok (.iload_n 0, 1) := by decide +kernel
theorem dX9_mustBeAnswer_1 : decode cX9_mustBeAnswer 1 = .ok (.bipush (-2), 2) := by decide +kernel
theorem dX9_mustBeAnswer_3 : decode cX9_mustBeAnswer 3 = .ok (.if_icmp .eq 7, 3) := by decide +kernel
theorem dX9_mustBeAnswer_6 : decode cX9_mustBeAnswer 6 = .ok (.iconst 1, 1) := by decide +kernel
theorem dX9_mustBeAnswer_7 : decode cX9_mustBeAnswer 7 = .ok (.goto 4, 3) := by decide +kernel
theorem dX9_mustBeAnswer_10 : decode cX9_mustBeAnswer 10 = .ok (.iconst 0, 1) := by decide +kernel
theorem dX9_mustBeAnswer_11 : decode cX9_mustBeAnswer 11 = .ok (.invokestatic 141, 3) := by decide +kernel
theorem dX9_mustBeAnswer_14 : decode cX9_mustBeAnswer 14 = .ok (.iload_n 0, 1) := by decide +kernel
theorem dX9_mustBeAnswer_15 : decode cX9_mustBeAnswer 15 = .ok (.bipush (-3), 2) := by decide +kernel
theorem dX9_mustBeAnswer_17 : decode cX9_mustBeAnswer 17 = .ok (.if_icmp .eq 7, 3) := by decide +kernel
theorem dX9_mustBeAnswer_20 : decode cX9_mustBeAnswer 20 = .ok (.iconst 1, 1) := by decide +kernel
theorem dX9_mustBeAnswer_21 : decode cX9_mustBeAnswer 21 = .ok (.goto 4, 3) := by decide +kernel
theorem dX9_mustBeAnswer_24 : decode cX9_mustBeAnswer 24 = .ok (.iconst 0, 1) := by decide +kernel
theorem dX9_mustBeAnswer_25 : decode cX9_mustBeAnswer 25 = .ok (.invokestatic 48, 3) := by decide +kernel
theorem dX9_mustBeAnswer_28 : decode cX9_mustBeAnswer 28 = .ok (.iload_n 0, 1) := by decide +kernel
theorem dX9_mustBeAnswer_29 : decode cX9_mustBeAnswer 29 = .ok (.bipush (-4), 2) := by decide +kernel
theorem dX9_mustBeAnswer_31 : decode cX9_mustBeAnswer 31 = .ok (.if_icmp .eq 7, 3) := by decide +kernel
theorem dX9_mustBeAnswer_34 : decode cX9_mustBeAnswer 34 = .ok (.iconst 1, 1) := by decide +kernel
theorem dX9_mustBeAnswer_35 : decode cX9_mustBeAnswer 35 = .ok (.goto 4, 3) := by decide +kernel
theorem dX9_mustBeAnswer_38 : decode cX9_mustBeAnswer 38 = .ok (.iconst 0, 1) := by decide +kernel
theorem dX9_mustBeAnswer_39 : decode cX9_mustBeAnswer 39 = .ok (.invokestatic 56, 3) := by decide +kernel
theorem dX9_mustBeAnswer_42 : decode cX9_mustBeAnswer 42 = .ok (.return_, 1) := by decide +kernel
