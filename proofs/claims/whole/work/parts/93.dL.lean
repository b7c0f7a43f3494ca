/-! the law's statics: what they call, what they hold -/
set_option maxRecDepth 20000 in
theorem ggL_append_X9_append : GoodIn wsL_append wsX9_append := goodIn_ca (goodIn_ca (goodIn_r _ [7, 8, 9, 10, 11, 6, 12, 13, 14, 15, 16, 17, 18, 19, 20, 21, 22, 23, 24, 25, 26, 27, 28, 29, 30, 31, 32, 33, 34, 35, 36, 37, 38, 39, 40, 41, 42, 43, 44, 45] (by decide +kernel) (by decide +kernel)) (goodIn_sub (fun _ h => List.mem_cons_of_mem _ (List.mem_append_left _ (List.mem_append_right _ h))) (by decide +kernel))) (goodIn_sub (fun _ h => List.mem_cons_of_mem _ (List.mem_append_right _ h)) (by decide +kernel))
set_option maxRecDepth 20000 in
theorem gL_append_X9_append : GoodIn wsL_append (wsV RL 7 RX9 yX9_append wsX9_append) := goodIn_app (goodIn_of _ (by decide +kernel)) ggL_append_X9_append
theorem dL_append_0 : decode cL_append 0 = .ok (.aload_n 2, 1) := by decide +kernel
theorem dL_append_1 : decode cL_append 1 = .ok (.iconst 0, 1) := by decide +kernel
theorem dL_append_2 : decode cL_append 2 = .ok (.aload_n 0, 1) := by decide +kernel
theorem dL_append_3 : decode cL_append 3 = .ok (.iload_n 1, 1) := by decide +kernel
theorem dL_append_4 : decode cL_append 4 = .ok (.invokevirtual 7, 3) := by decide +kernel
theorem dL_append_7 : decode cL_append 7 = .ok (.i2l, 1) := by decide +kernel
theorem dL_append_8 : decode cL_append 8 = .ok (.lastore, 1) := by decide +kernel
theorem dL_append_9 : decode cL_append 9 = .ok (.goto 9, 3) := by decide +kernel
theorem dL_append_12 : decode cL_append 12 = .ok (.astore_n 3, 1) := by decide +kernel
theorem dL_append_13 : decode cL_append 13 = .ok (.iconst 1, 1) := by decide +kernel
theorem dL_append_14 : decode cL_append 14 = .ok (.ireturn, 1) := by decide +kernel
theorem dL_append_15 : decode cL_append 15 = .ok (.astore_n 3, 1) := by decide +kernel
theorem dL_append_16 : decode cL_append 16 = .ok (.iconst 2, 1) := by decide +kernel
theorem dL_append_17 : decode cL_append 17 = .ok (.ireturn, 1) := by decide +kernel
theorem dL_append_18 : decode cL_append 18 = .ok (.iconst 0, 1) := by decide +kernel
theorem dL_append_19 : decode cL_append 19 = .ok (.ireturn, 1) := by decide +kernel
set_option maxRecDepth 20000 in
theorem ggL_load_X9_load : GoodIn wsL_load wsX9_load := goodIn_ca (goodIn_r _ [6, 7, 8, 9, 10, 11, 12, 13, 14, 15, 16, 17, 18, 19, 20, 21, 22, 23, 24, 25, 26, 27, 28, 29, 30, 31, 32, 33, 34, 35, 36, 37, 38, 39, 40, 41, 42, 43, 44, 45, 46, 47, 48, 49, 50, 51, 52, 53, 54, 55, 56, 57, 58, 59, 60, 61, 62, 63, 64, 65, 66, 67, 68, 69, 70, 71, 72, 73, 74, 75, 76, 77, 78, 79, 80, 81, 82, 83, 84, 85, 5, 86, 87, 88, 89, 90, 91, 92, 93, 94, 95, 96, 97, 98, 99, 100, 101, 102, 103, 104, 105, 106, 107, 108, 109, 110, 111, 112, 113, 114, 115, 116, 117, 118, 119, 120, 121, 122, 123, 124, 125, 126, 127, 128, 129, 130, 131, 132, 133, 134, 135, 136, 137, 138, 139, 140, 141, 142, 143, 144, 145, 146, 147, 148, 149, 150, 151, 152, 153, 154, 155, 156, 157, 158, 159, 160, 161, 162, 163, 164, 165, 166, 167, 168, 169, 170, 171, 172, 173, 174, 175, 176, 177, 178, 179, 180, 181, 182, 183, 184, 185, 186, 187, 188, 189, 190, 191, 192, 193, 194, 195, 196, 197, 198, 199, 200, 201, 202, 203, 204, 205, 206, 207, 208, 209, 210, 211, 212, 213, 214, 215, 216, 217, 218, 219, 220, 221, 222, 223, 224, 225, 226, 227, 228, 229, 230, 231, 232, 233, 234, 235, 236, 237, 238, 239, 240, 241, 242, 243, 244, 245, 246, 247, 248, 249, 250, 251, 252, 253, 254, 255] (by decide +kernel) (by decide +kernel)) (goodIn_sub (fun _ h => List.mem_cons_of_mem _ (List.mem_append_right _ h)) (by decide +kernel))
set_option maxRecDepth 20000 in
theorem gL_load_X9_load : GoodIn wsL_load (wsV RL 17 RX9 yX9_load wsX9_load) := goodIn_app (goodIn_of _ (by decide +kernel)) ggL_load_X9_load
theorem dL_load_0 : decode cL_load 0 = .ok (.aload_n 1, 1) := by decide +kernel
theorem dL_load_1 : decode cL_load 1 = .ok (.iconst 0, 1) := by decide +kernel
theorem dL_load_2 : decode cL_load 2 = .ok (.aload_n 0, 1) := by decide +kernel
theorem dL_load_3 : decode cL_load 3 = .ok (.invokevirtual 17, 3) := by decide +kernel
theorem dL_load_6 : decode cL_load 6 = .ok (.i2l, 1) := by decide +kernel
theorem dL_load_7 : decode cL_load 7 = .ok (.lastore, 1) := by decide +kernel
theorem dL_load_8 : decode cL_load 8 = .ok (.goto 6, 3) := by decide +kernel
theorem dL_load_11 : decode cL_load 11 = .ok (.astore_n 2, 1) := by decide +kernel
theorem dL_load_12 : decode cL_load 12 = .ok (.iconst 1, 1) := by decide +kernel
theorem dL_load_13 : decode cL_load 13 = .ok (.ireturn, 1) := by decide +kernel
theorem dL_load_14 : decode cL_load 14 = .ok (.iconst 0, 1) := by decide +kernel
theorem dL_load_15 : decode cL_load 15 = .ok (.ireturn, 1) := by decide +kernel
set_option maxRecDepth 20000 in
theorem ggL_about_X9_about : GoodIn wsL_about wsX9_about := goodIn_ca (goodIn_r _ [6, 7, 8, 9, 10, 11, 12, 13, 14, 15, 16, 17, 5, 18, 19, 20, 21, 22, 23, 24, 25, 26, 27, 28, 29, 30, 31, 32, 33, 34, 35, 36, 37, 38, 39, 40, 41, 42, 43, 44, 45, 46, 47, 48, 49, 50, 51, 52, 53, 54, 55, 56, 57, 58, 59, 60, 61, 62, 63, 64, 65, 66, 67, 68, 69, 70, 71, 72, 73, 74, 75, 76, 77, 78, 79, 80, 81, 82, 83, 84, 85, 86, 87, 88, 89, 90, 91, 92, 93, 94, 95, 96, 97, 98, 99, 100, 101, 102, 103, 104, 105, 106, 107, 108, 109, 110, 111, 112, 113, 114, 115, 116, 117, 118, 119, 120, 121, 122, 123, 124, 125, 126, 127, 128, 129, 130, 131, 132, 133, 134, 135, 136, 137, 138, 139, 140, 141, 142, 143, 144, 145, 146, 147, 148, 149, 150, 151, 152, 153, 154, 155, 156, 157, 158, 159, 160, 161, 162, 163, 164, 165, 166, 167, 168, 169, 170, 171, 172, 173, 174, 175, 176, 177, 178, 179, 180, 181, 182, 183, 184, 185, 186, 187, 188, 189, 190, 191, 192, 193, 194, 195, 196, 197, 198, 199, 200, 201, 202, 203, 204, 205, 206, 207, 208, 209, 210, 211, 212, 213, 214, 215, 216, 217, 218, 219] (by decide +kernel) (by decide +kernel)) (goodIn_sub (fun _ h => List.mem_cons_of_mem _ (List.mem_append_right _ h)) (by decide +kernel))
set_option maxRecDepth 20000 in
theorem gL_about_X9_about : GoodIn wsL_about (wsV RL 21 RX9 yX9_about wsX9_about) := goodIn_app (goodIn_of _ (by decide +kernel)) ggL_about_X9_about
theorem dL_about_0 : decode cL_about 0 = .ok (.aload_n 2, 1) := by decide +kernel
theorem dL_about_1 : decode cL_about 1 = .ok (.iconst 0, 1) := by decide +kernel
theorem dL_about_2 : decode cL_about 2 = .ok (.aload_n 0, 1) := by decide +kernel
theorem dL_about_3 : decode cL_about 3 = .ok (.iload_n 1, 1) := by decide +kernel
theorem dL_about_4 : decode cL_about 4 = .ok (.invokevirtual 21, 3) := by decide +kernel
theorem dL_about_7 : decode cL_about 7 = .ok (.i2l, 1) := by decide +kernel
theorem dL_about_8 : decode cL_about 8 = .ok (.lastore, 1) := by decide +kernel
theorem dL_about_9 : decode cL_about 9 = .ok (.goto 6, 3) := by decide +kernel
theorem dL_about_12 : decode cL_about 12 = .ok (.astore_n 3, 1) := by decide +kernel
theorem dL_about_13 : decode cL_about 13 = .ok (.iconst 1, 1) := by decide +kernel
theorem dL_about_14 : decode cL_about 14 = .ok (.ireturn, 1) := by decide +kernel
theorem dL_about_15 : decode cL_about 15 = .ok (.iconst 0, 1) := by decide +kernel
theorem dL_about_16 : decode cL_about 16 = .ok (.ireturn, 1) := by decide +kernel
set_option maxRecDepth 20000 in
theorem ggL_ofReign_X9_ofReign : GoodIn wsL_ofReign wsX9_ofReign := goodIn_ca (goodIn_ca (goodIn_r _ [7, 8, 9, 10, 11, 12, 13, 14, 6, 15, 16, 17, 18, 19, 20, 21, 22, 23, 24, 25, 26, 27, 28, 29, 30, 31, 32, 33, 34, 35, 36, 37, 38, 39, 40, 41, 42, 43, 44, 45, 46, 47, 48] (by decide +kernel) (by decide +kernel)) (goodIn_sub (fun _ h => List.mem_cons_of_mem _ (List.mem_append_left _ (List.mem_append_right _ h))) (by decide +kernel))) (goodIn_sub (fun _ h => List.mem_cons_of_mem _ (List.mem_append_right _ h)) (by decide +kernel))
set_option maxRecDepth 20000 in
theorem gL_ofReign_X9_ofReign : GoodIn wsL_ofReign (wsV RL 24 RX9 yX9_ofReign wsX9_ofReign) := goodIn_app (goodIn_of _ (by decide +kernel)) ggL_ofReign_X9_ofReign
theorem dL_ofReign_0 : decode cL_ofReign 0 = .ok (.aload_n 3, 1) := by decide +kernel
theorem dL_ofReign_1 : decode cL_ofReign 1 = .ok (.iconst 0, 1) := by decide +kernel
theorem dL_ofReign_2 : decode cL_ofReign 2 = .ok (.aload_n 0, 1) := by decide +kernel
theorem dL_ofReign_3 : decode cL_ofReign 3 = .ok (.iload_n 1, 1) := by decide +kernel
theorem dL_ofReign_4 : decode cL_ofReign 4 = .ok (.iload_n 2, 1) := by decide +kernel
theorem dL_ofReign_5 : decode cL_ofReign 5 = .ok (.invokevirtual 24, 3) := by decide +kernel
theorem dL_ofReign_8 : decode cL_ofReign 8 = .ok (.i2l, 1) := by decide +kernel
theorem dL_ofReign_9 : decode cL_ofReign 9 = .ok (.lastore, 1) := by decide +kernel
theorem dL_ofReign_10 : decode cL_ofReign 10 = .ok (.goto 11, 3) := by decide +kernel
theorem dL_ofReign_13 : decode cL_ofReign 13 = .ok (.astore 4, 2) := by decide +kernel
theorem dL_ofReign_15 : decode cL_ofReign 15 = .ok (.iconst 1, 1) := by decide +kernel
theorem dL_ofReign_16 : decode cL_ofReign 16 = .ok (.ireturn, 1) := by decide +kernel
theorem dL_ofReign_17 : decode cL_ofReign 17 = .ok (.astore 4, 2) := by decide +kernel
theorem dL_ofReign_19 : decode cL_ofReign 19 = .ok (.iconst 2, 1) := by decide +kernel
theorem dL_ofReign_20 : decode cL_ofReign 20 = .ok (.ireturn, 1) := by decide +kernel
theorem dL_ofReign_21 : decode cL_ofReign 21 = .ok (.iconst 0, 1) := by decide +kernel
theorem dL_ofReign_22 : decode cL_ofReign 22 = .ok (.ireturn, 1) := by decide +kernel
set_option maxRecDepth 20000 in
theorem ggL_ofDie_X9_ofDie : GoodIn wsL_ofDie wsX9_ofDie := goodIn_ca (goodIn_ca (goodIn_r _ [7, 8, 9, 10, 11, 12, 13, 14, 15, 16, 17, 18, 19, 20, 21, 22, 23, 6, 24, 25, 26, 27, 28, 29, 30, 31, 32, 33, 34, 35, 36, 37, 38, 39, 40, 41, 42, 43, 44, 45, 46, 47, 48, 49, 50, 51, 52, 53, 54, 55, 56, 57, 58, 59, 60, 61, 62, 63, 64, 65, 66, 67, 68, 69, 70, 71, 72, 73, 74, 75, 76, 77, 78, 79, 80, 81, 82, 83, 84, 85, 86, 87, 88, 89, 90, 91, 92, 93, 94, 95, 96, 97, 98, 99, 100, 101, 102, 103, 104, 105, 106, 107, 108, 109, 110, 111, 112, 113, 114, 115, 116, 117, 118, 119, 120, 121, 122, 123, 124, 125, 126, 127, 128, 129, 130, 131, 132, 133, 134, 135, 136, 137, 138, 139, 140, 141, 142, 143, 144, 145, 146, 147, 148, 149, 150, 151, 152, 153, 154, 155, 156, 157, 158, 159, 160, 161, 162, 163, 164, 165, 166, 167, 168, 169, 170, 171, 172, 173, 174, 175, 176, 177, 178, 179, 180, 181, 182, 183, 184, 185, 186, 187, 188, 189, 190] (by decide +kernel) (by decide +kernel)) (goodIn_sub (fun _ h => List.mem_cons_of_mem _ (List.mem_append_left _ (List.mem_append_right _ h))) (by decide +kernel))) (goodIn_sub (fun _ h => List.mem_cons_of_mem _ (List.mem_append_right _ h)) (by decide +kernel))
set_option maxRecDepth 20000 in
theorem gL_ofDie_X9_ofDie : GoodIn wsL_ofDie (wsV RL 30 RX9 yX9_ofDie wsX9_ofDie) := goodIn_app (goodIn_of _ (by decide +kernel)) ggL_ofDie_X9_ofDie
theorem dL_ofDie_0 : decode cL_ofDie 0 = .ok (.aload_n 3, 1) := by decide +kernel
theorem dL_ofDie_1 : decode cL_ofDie 1 = .ok (.iconst 0, 1) := by decide +kernel
theorem dL_ofDie_2 : decode cL_ofDie 2 = .ok (.aload_n 0, 1) := by decide +kernel
theorem dL_ofDie_3 : decode cL_ofDie 3 = .ok (.iload_n 1, 1) := by decide +kernel
theorem dL_ofDie_4 : decode cL_ofDie 4 = .ok (.iload_n 2, 1) := by decide +kernel
theorem dL_ofDie_5 : decode cL_ofDie 5 = .ok (.invokevirtual 30, 3) := by decide +kernel
theorem dL_ofDie_8 : decode cL_ofDie 8 = .ok (.i2l, 1) := by decide +kernel
theorem dL_ofDie_9 : decode cL_ofDie 9 = .ok (.lastore, 1) := by decide +kernel
theorem dL_ofDie_10 : decode cL_ofDie 10 = .ok (.goto 11, 3) := by decide +kernel
theorem dL_ofDie_13 : decode cL_ofDie 13 = .ok (.astore 4, 2) := by decide +kernel
theorem dL_ofDie_15 : decode cL_ofDie 15 = .ok (.iconst 1, 1) := by decide +kernel
theorem dL_ofDie_16 : decode cL_ofDie 16 = .ok (.ireturn, 1) := by decide +kernel
theorem dL_ofDie_17 : decode cL_ofDie 17 = .ok (.astore 4, 2) := by decide +kernel
theorem dL_ofDie_19 : decode cL_ofDie 19 = .ok (.iconst 2, 1) := by decide +kernel
theorem dL_ofDie_20 : decode cL_ofDie 20 = .ok (.ireturn, 1) := by decide +kernel
theorem dL_ofDie_21 : decode cL_ofDie 21 = .ok (.iconst 0, 1) := by decide +kernel
theorem dL_ofDie_22 : decode cL_ofDie 22 = .ok (.ireturn, 1) := by decide +kernel
set_option maxRecDepth 20000 in
theorem ggL_crackYear_X9_crackYear : GoodIn wsL_crackYear wsX9_crackYear := goodIn_ca (goodIn_r _ [6, 7, 8, 9, 10, 11, 12, 13, 14, 15, 16, 17, 5, 18, 19, 20, 21, 22, 23, 24, 25, 26, 27, 28, 29, 30, 31, 32, 33, 34, 35, 36, 37, 38, 39, 40, 41, 42, 43] (by decide +kernel) (by decide +kernel)) (goodIn_sub (fun _ h => List.mem_cons_of_mem _ (List.mem_append_right _ h)) (by decide +kernel))
set_option maxRecDepth 20000 in
theorem gL_crackYear_X9_crackYear : GoodIn wsL_crackYear (wsV RL 33 RX9 yX9_crackYear wsX9_crackYear) := goodIn_app (goodIn_of _ (by decide +kernel)) ggL_crackYear_X9_crackYear
theorem dL_crackYear_0 : decode cL_crackYear 0 = .ok (.aload_n 3, 1) := by decide +kernel
theorem dL_crackYear_1 : decode cL_crackYear 1 = .ok (.iconst 0, 1) := by decide +kernel
theorem dL_crackYear_2 : decode cL_crackYear 2 = .ok (.aload_n 0, 1) := by decide +kernel
theorem dL_crackYear_3 : decode cL_crackYear 3 = .ok (.iload_n 1, 1) := by decide +kernel
theorem dL_crackYear_4 : decode cL_crackYear 4 = .ok (.iload_n 2, 1) := by decide +kernel
theorem dL_crackYear_5 : decode cL_crackYear 5 = .ok (.invokevirtual 33, 3) := by decide +kernel
theorem dL_crackYear_8 : decode cL_crackYear 8 = .ok (.i2l, 1) := by decide +kernel
theorem dL_crackYear_9 : decode cL_crackYear 9 = .ok (.lastore, 1) := by decide +kernel
theorem dL_crackYear_10 : decode cL_crackYear 10 = .ok (.goto 7, 3) := by decide +kernel
theorem dL_crackYear_13 : decode cL_crackYear 13 = .ok (.astore 4, 2) := by decide +kernel
theorem dL_crackYear_15 : decode cL_crackYear 15 = .ok (.iconst 1, 1) := by decide +kernel
theorem dL_crackYear_16 : decode cL_crackYear 16 = .ok (.ireturn, 1) := by decide +kernel
theorem dL_crackYear_17 : decode cL_crackYear 17 = .ok (.iconst 0, 1) := by decide +kernel
theorem dL_crackYear_18 : decode cL_crackYear 18 = .ok (.ireturn, 1) := by decide +kernel
set_option maxRecDepth 20000 in
theorem ggL_ofSeal_X9_ofSeal : GoodIn wsL_ofSeal wsX9_ofSeal := goodIn_ca (goodIn_ca (goodIn_r _ [7, 8, 9, 10, 11, 12, 13, 14, 15, 16, 17, 18, 19, 20, 21, 22, 23, 24, 6, 25, 26, 27, 28, 29, 30, 31, 32, 33, 34, 35, 36, 37, 38, 39, 40, 41, 42, 43, 44, 45, 46, 47, 48, 49, 50, 51, 52, 53, 54, 55, 56, 57, 58, 59, 60, 61, 62, 63, 64, 65, 66, 67, 68, 69, 70, 71, 72, 73] (by decide +kernel) (by decide +kernel)) (goodIn_sub (fun _ h => List.mem_cons_of_mem _ (List.mem_append_left _ (List.mem_append_right _ h))) (by decide +kernel))) (goodIn_sub (fun _ h => List.mem_cons_of_mem _ (List.mem_append_right _ h)) (by decide +kernel))
set_option maxRecDepth 20000 in
theorem gL_ofSeal_X9_ofSeal : GoodIn wsL_ofSeal (wsV RL 36 RX9 yX9_ofSeal wsX9_ofSeal) := goodIn_app (goodIn_of _ (by decide +kernel)) ggL_ofSeal_X9_ofSeal
theorem dL_ofSeal_0 : decode cL_ofSeal 0 = .ok (.aload_n 3, 1) := by decide +kernel
theorem dL_ofSeal_1 : decode cL_ofSeal 1 = .ok (.iconst 0, 1) := by decide +kernel
theorem dL_ofSeal_2 : decode cL_ofSeal 2 = .ok (.aload_n 0, 1) := by decide +kernel
theorem dL_ofSeal_3 : decode cL_ofSeal 3 = .ok (.iload_n 1, 1) := by decide +kernel
theorem dL_ofSeal_4 : decode cL_ofSeal 4 = .ok (.iload_n 2, 1) := by decide +kernel
theorem dL_ofSeal_5 : decode cL_ofSeal 5 = .ok (.invokevirtual 36, 3) := by decide +kernel
theorem dL_ofSeal_8 : decode cL_ofSeal 8 = .ok (.i2l, 1) := by decide +kernel
theorem dL_ofSeal_9 : decode cL_ofSeal 9 = .ok (.lastore, 1) := by decide +kernel
theorem dL_ofSeal_10 : decode cL_ofSeal 10 = .ok (.goto 11, 3) := by decide +kernel
theorem dL_ofSeal_13 : decode cL_ofSeal 13 = .ok (.astore 4, 2) := by decide +kernel
theorem dL_ofSeal_15 : decode cL_ofSeal 15 = .ok (.iconst 1, 1) := by decide +kernel
theorem dL_ofSeal_16 : decode cL_ofSeal 16 = .ok (.ireturn, 1) := by decide +kernel
theorem dL_ofSeal_17 : decode cL_ofSeal 17 = .ok (.astore 4, 2) := by decide +kernel
theorem dL_ofSeal_19 : decode cL_ofSeal 19 = .ok (.iconst 2, 1) := by decide +kernel
theorem dL_ofSeal_20 : decode cL_ofSeal 20 = .ok (.ireturn, 1) := by decide +kernel
theorem dL_ofSeal_21 : decode cL_ofSeal 21 = .ok (.iconst 0, 1) := by decide +kernel
theorem dL_ofSeal_22 : decode cL_ofSeal 22 = .ok (.ireturn, 1) := by decide +kernel
set_option maxRecDepth 20000 in
theorem ggL_dated_X9_dated : GoodIn wsL_dated wsX9_dated := goodIn_ca (goodIn_ca (goodIn_r _ [7, 8, 9, 10, 11, 12, 13, 14, 15, 16, 17, 18, 19, 20, 21, 22, 6, 23, 24, 25, 26, 27, 28, 29, 30, 31, 32, 33, 34, 35, 36, 37, 38, 39, 40, 41, 42, 43, 44, 45, 46, 47, 48, 49, 50, 51, 52, 53, 54, 55, 56, 57, 58, 59, 60, 61, 62, 63, 64, 65, 66, 67, 68, 69, 70, 71, 72, 73, 74, 75, 76, 77, 78, 79, 80, 81, 82, 83, 84, 85, 86, 87, 88, 89, 90, 91, 92, 93, 94, 95, 96, 97, 98, 99, 100, 101, 102, 103, 104, 105, 106, 107, 108, 109, 110, 111, 112, 113, 114, 115, 116, 117, 118, 119, 120, 121, 122, 123, 124, 125, 126, 127, 128, 129, 130, 131, 132, 133, 134, 135, 136, 137, 138, 139, 140, 141, 142, 143, 144, 145, 146, 147, 148, 149, 150, 151, 152, 153, 154, 155, 156, 157, 158, 159, 160, 161, 162, 163, 164, 165, 166, 167, 168, 169, 170, 171, 172, 173, 174, 175, 176, 177, 178, 179, 180, 181, 182, 183, 184, 185, 186, 187] (by decide +kernel) (by decide +kernel)) (goodIn_sub (fun _ h => List.mem_cons_of_mem _ (List.mem_append_left _ (List.mem_append_right _ h))) (by decide +kernel))) (goodIn_sub (fun _ h => List.mem_cons_of_mem _ (List.mem_append_right _ h)) (by decide +kernel))
set_option maxRecDepth 20000 in
theorem gL_dated_X9_dated : GoodIn wsL_dated (wsV RL 39 RX9 yX9_dated wsX9_dated) := goodIn_app (goodIn_of _ (by decide +kernel)) ggL_dated_X9_dated
theorem dL_dated_0 : decode cL_dated 0 = .ok (.aload_n 3, 1) := by decide +kernel
theorem dL_dated_1 : decode cL_dated 1 = .ok (.iconst 0, 1) := by decide +kernel
theorem dL_dated_2 : decode cL_dated 2 = .ok (.aload_n 0, 1) := by decide +kernel
theorem dL_dated_3 : decode cL_dated 3 = .ok (.iload_n 1, 1) := by decide +kernel
theorem dL_dated_4 : decode cL_dated 4 = .ok (.iload_n 2, 1) := by decide +kernel
theorem dL_dated_5 : decode cL_dated 5 = .ok (.invokevirtual 39, 3) := by decide +kernel
theorem dL_dated_8 : decode cL_dated 8 = .ok (.i2l, 1) := by decide +kernel
theorem dL_dated_9 : decode cL_dated 9 = .ok (.lastore, 1) := by decide +kernel
theorem dL_dated_10 : decode cL_dated 10 = .ok (.goto 11, 3) := by decide +kernel
theorem dL_dated_13 : decode cL_dated 13 = .ok (.astore 4, 2) := by decide +kernel
theorem dL_dated_15 : decode cL_dated 15 = .ok (.iconst 1, 1) := by decide +kernel
theorem dL_dated_16 : decode cL_dated 16 = .ok (.ireturn, 1) := by decide +kernel
theorem dL_dated_17 : decode cL_dated 17 = .ok (.astore 4, 2) := by decide +kernel
theorem dL_dated_19 : decode cL_dated 19 = .ok (.iconst 2, 1) := by decide +kernel
theorem dL_dated_20 : decode cL_dated 20 = .ok (.ireturn, 1) := by decide +kernel
theorem dL_dated_21 : decode cL_dated 21 = .ok (.iconst 0, 1) := by decide +kernel
theorem dL_dated_22 : decode cL_dated 22 = .ok (.ireturn, 1) := by decide +kernel
set_option maxRecDepth 20000 in
theorem ggL_isPossible_X9_isPossible : GoodIn wsL_isPossible wsX9_isPossible := goodIn_ca (goodIn_ca (goodIn_r _ [7, 8, 9, 10, 11, 12, 13, 14, 15, 16, 17, 18, 19, 20, 6, 21, 22, 23, 24, 25, 26, 27, 28, 29, 30, 31, 32, 33, 34, 35, 36, 37, 38, 39, 40, 41, 42, 43, 44, 45, 46, 47, 48, 49, 50, 51, 52, 53, 54, 55, 56, 57, 58, 59, 60, 61, 62, 63, 64, 65, 66, 67, 68, 69, 70, 71, 72, 73, 74, 75, 76, 77, 78, 79, 80, 81, 82, 83, 84, 85, 86, 87, 88, 89, 90, 91, 92, 93, 94, 95, 96, 97, 98, 99, 100, 101, 102, 103, 104, 105, 106, 107, 108, 109, 110, 111, 112, 113, 114, 115, 116, 117, 118, 119, 120, 121, 122, 123, 124, 125, 126, 127, 128, 129, 130, 131, 132, 133, 134, 135, 136, 137, 138, 139, 140, 141, 142, 143, 144, 145, 146, 147, 148, 149, 150, 151, 152, 153, 154, 155, 156, 157, 158, 159, 160, 161, 162, 163, 164, 165, 166, 167, 168, 169, 170, 171, 172, 173, 174, 175, 176, 177, 178, 179, 180, 181, 182, 183, 184, 185, 186, 187, 188] (by decide +kernel) (by decide +kernel)) (goodIn_sub (fun _ h => List.mem_cons_of_mem _ (List.mem_append_left _ (List.mem_append_right _ h))) (by decide +kernel))) (goodIn_sub (fun _ h => List.mem_cons_of_mem _ (List.mem_append_right _ h)) (by decide +kernel))
set_option maxRecDepth 20000 in
theorem gL_isPossible_X9_isPossible : GoodIn wsL_isPossible (wsV RL 42 RX9 yX9_isPossible wsX9_isPossible) := goodIn_app (goodIn_of _ (by decide +kernel)) ggL_isPossible_X9_isPossible
theorem dL_isPossible_0 : decode cL_isPossible 0 = .ok (.aload_n 3, 1) := by decide +kernel
theorem dL_isPossible_1 : decode cL_isPossible 1 = .ok (.iconst 0, 1) := by decide +kernel
theorem dL_isPossible_2 : decode cL_isPossible 2 = .ok (.aload_n 0, 1) := by decide +kernel
theorem dL_isPossible_3 : decode cL_isPossible 3 = .ok (.iload_n 1, 1) := by decide +kernel
theorem dL_isPossible_4 : decode cL_isPossible 4 = .ok (.iload_n 2, 1) := by decide +kernel
theorem dL_isPossible_5 : decode cL_isPossible 5 = .ok (.invokevirtual 42, 3) := by decide +kernel
theorem dL_isPossible_8 : decode cL_isPossible 8 = .ok (.ifCond .eq 7, 3) := by decide +kernel
theorem dL_isPossible_11 : decode cL_isPossible 11 = .ok (.lconst 1, 1) := by decide +kernel
theorem dL_isPossible_12 : decode cL_isPossible 12 = .ok (.goto 4, 3) := by decide +kernel
theorem dL_isPossible_15 : decode cL_isPossible 15 = .ok (.lconst 0, 1) := by decide +kernel
theorem dL_isPossible_16 : decode cL_isPossible 16 = .ok (.lastore, 1) := by decide +kernel
theorem dL_isPossible_17 : decode cL_isPossible 17 = .ok (.goto 11, 3) := by decide +kernel
theorem dL_isPossible_20 : decode cL_isPossible 20 = .ok (.astore 4, 2) := by decide +kernel
theorem dL_isPossible_22 : decode cL_isPossible 22 = .ok (.iconst 1, 1) := by decide +kernel
theorem dL_isPossible_23 : decode cL_isPossible 23 = .ok (.ireturn, 1) := by decide +kernel
theorem dL_isPossible_24 : decode cL_isPossible 24 = .ok (.astore 4, 2) := by decide +kernel
theorem dL_isPossible_26 : decode cL_isPossible 26 = .ok (.iconst 2, 1) := by decide +kernel
theorem dL_isPossible_27 : decode cL_isPossible 27 = .ok (.ireturn, 1) := by decide +kernel
theorem dL_isPossible_28 : decode cL_isPossible 28 = .ok (.iconst 0, 1) := by decide +kernel
theorem dL_isPossible_29 : decode cL_isPossible 29 = .ok (.ireturn, 1) := by decide +kernel
set_option maxRecDepth 20000 in
theorem ggL_charter_X9_charter : GoodIn wsL_charter wsX9_charter := goodIn_ca (goodIn_ca (goodIn_r _ [7, 8, 9, 10, 11, 12, 13, 14, 6, 15, 16, 17, 18, 19, 20, 21, 22, 23, 24, 25, 26, 27, 28, 29, 30, 31, 32, 33, 34, 35, 36, 37, 38, 39, 40, 41, 42, 43, 44, 45, 46, 47, 48, 49, 50, 51, 52, 53, 54, 55, 56, 57, 58, 59, 60, 61, 62, 63, 64, 65, 66, 67, 68, 69, 70, 71, 72, 73, 74, 75, 76, 77, 78, 79, 80, 81, 82, 83, 84, 85, 86, 87, 88, 89, 90, 91, 92, 93, 94, 95, 96, 97, 98, 99, 100, 101, 102, 103, 104, 105, 106, 107, 108, 109, 110, 111, 112, 113, 114, 115, 116, 117, 118, 119, 120, 121, 122, 123, 124, 125, 126, 127, 128, 129, 130, 131, 132, 133, 134, 135, 136, 137, 138, 139, 140, 141, 142, 143, 144, 145, 146, 147, 148, 149, 150, 151, 152, 153, 154, 155, 156, 157, 158, 159, 160, 161, 162, 163, 164, 165, 166, 167, 168, 169, 170, 171, 172, 173, 174, 175, 176, 177, 178, 179, 180, 181, 182, 183, 184, 185, 186, 187, 188, 189, 190, 191, 192, 193, 194] (by decide +kernel) (by decide +kernel)) (goodIn_sub (fun _ h => List.mem_cons_of_mem _ (List.mem_append_left _ (List.mem_append_right _ h))) (by decide +kernel))) (goodIn_sub (fun _ h => List.mem_cons_of_mem _ (List.mem_append_right _ h)) (by decide +kernel))
set_option maxRecDepth 20000 in
theorem gL_charter_X9_charter : GoodIn wsL_charter (wsV RL 46 RX9 yX9_charter wsX9_charter) := goodIn_app (goodIn_of _ (by decide +kernel)) ggL_charter_X9_charter
theorem dL_charter_0 : decode cL_charter 0 = .ok (.aload_n 3, 1) := by decide +kernel
theorem dL_charter_1 : decode cL_charter 1 = .ok (.iconst 0, 1) := by decide +kernel
theorem dL_charter_2 : decode cL_charter 2 = .ok (.aload_n 0, 1) := by decide +kernel
theorem dL_charter_3 : decode cL_charter 3 = .ok (.iload_n 1, 1) := by decide +kernel
theorem dL_charter_4 : decode cL_charter 4 = .ok (.iload_n 2, 1) := by decide +kernel
theorem dL_charter_5 : decode cL_charter 5 = .ok (.invokevirtual 46, 3) := by decide +kernel
theorem dL_charter_8 : decode cL_charter 8 = .ok (.i2l, 1) := by decide +kernel
theorem dL_charter_9 : decode cL_charter 9 = .ok (.lastore, 1) := by decide +kernel
theorem dL_charter_10 : decode cL_charter 10 = .ok (.goto 11, 3) := by decide +kernel
theorem dL_charter_13 : decode cL_charter 13 = .ok (.astore 4, 2) := by decide +kernel
theorem dL_charter_15 : decode cL_charter 15 = .ok (.iconst 1, 1) := by decide +kernel
theorem dL_charter_16 : decode cL_charter 16 = .ok (.ireturn, 1) := by decide +kernel
theorem dL_charter_17 : decode cL_charter 17 = .ok (.astore 4, 2) := by decide +kernel
theorem dL_charter_19 : decode cL_charter 19 = .ok (.iconst 2, 1) := by decide +kernel
theorem dL_charter_20 : decode cL_charter 20 = .ok (.ireturn, 1) := by decide +kernel
theorem dL_charter_21 : decode cL_charter 21 = .ok (.iconst 0, 1) := by decide +kernel
theorem dL_charter_22 : decode cL_charter 22 = .ok (.ireturn, 1) := by decide +kernel
set_option maxRecDepth 20000 in
theorem ggL_onShelf_X9_onShelf : GoodIn wsL_onShelf wsX9_onShelf := goodIn_ca (goodIn_ca (goodIn_r _ [7, 8, 9, 10, 11, 12, 6, 13, 14, 15, 16, 17, 18, 19, 20, 21, 22, 23, 24, 25, 26, 27, 28, 29, 30, 31, 32, 33, 34, 35, 36, 37, 38, 39, 40, 41, 42, 43] (by decide +kernel) (by decide +kernel)) (goodIn_sub (fun _ h => List.mem_cons_of_mem _ (List.mem_append_left _ (List.mem_append_right _ h))) (by decide +kernel))) (goodIn_sub (fun _ h => List.mem_cons_of_mem _ (List.mem_append_right _ h)) (by decide +kernel))
set_option maxRecDepth 20000 in
theorem gL_onShelf_X9_onShelf : GoodIn wsL_onShelf (wsV RL 49 RX9 yX9_onShelf wsX9_onShelf) := goodIn_app (goodIn_of _ (by decide +kernel)) ggL_onShelf_X9_onShelf
theorem dL_onShelf_0 : decode cL_onShelf 0 = .ok (.aload_n 3, 1) := by decide +kernel
theorem dL_onShelf_1 : decode cL_onShelf 1 = .ok (.iconst 0, 1) := by decide +kernel
theorem dL_onShelf_2 : decode cL_onShelf 2 = .ok (.aload_n 0, 1) := by decide +kernel
theorem dL_onShelf_3 : decode cL_onShelf 3 = .ok (.iload_n 1, 1) := by decide +kernel
theorem dL_onShelf_4 : decode cL_onShelf 4 = .ok (.iload_n 2, 1) := by decide +kernel
theorem dL_onShelf_5 : decode cL_onShelf 5 = .ok (.invokevirtual 49, 3) := by decide +kernel
theorem dL_onShelf_8 : decode cL_onShelf 8 = .ok (.i2l, 1) := by decide +kernel
theorem dL_onShelf_9 : decode cL_onShelf 9 = .ok (.lastore, 1) := by decide +kernel
theorem dL_onShelf_10 : decode cL_onShelf 10 = .ok (.goto 11, 3) := by decide +kernel
theorem dL_onShelf_13 : decode cL_onShelf 13 = .ok (.astore 4, 2) := by decide +kernel
theorem dL_onShelf_15 : decode cL_onShelf 15 = .ok (.iconst 1, 1) := by decide +kernel
theorem dL_onShelf_16 : decode cL_onShelf 16 = .ok (.ireturn, 1) := by decide +kernel
theorem dL_onShelf_17 : decode cL_onShelf 17 = .ok (.astore 4, 2) := by decide +kernel
theorem dL_onShelf_19 : decode cL_onShelf 19 = .ok (.iconst 2, 1) := by decide +kernel
theorem dL_onShelf_20 : decode cL_onShelf 20 = .ok (.ireturn, 1) := by decide +kernel
theorem dL_onShelf_21 : decode cL_onShelf 21 = .ok (.iconst 0, 1) := by decide +kernel
theorem dL_onShelf_22 : decode cL_onShelf 22 = .ok (.ireturn, 1) := by decide +kernel
set_option maxRecDepth 20000 in
theorem ggL_reign_X9_reign : GoodIn wsL_reign wsX9_reign := goodIn_ca (goodIn_ca (goodIn_ca (goodIn_r _ [7, 8, 9, 10, 6, 11, 12, 13, 14, 15, 16, 17, 18, 19, 20, 21, 22, 23, 24, 25, 26, 27, 28, 29, 30, 31, 32, 33, 34, 35, 36, 37, 38, 39, 40, 41, 42, 43, 44, 45, 46, 47, 48, 49, 50, 51, 52, 53, 54, 55, 56, 57, 58, 59, 60, 61, 62, 63, 64, 65, 66, 67, 68, 69, 70, 71, 72, 73, 74, 75, 76, 77, 78, 79, 80, 81, 82, 83, 84, 85, 86, 87, 88, 89, 90, 91, 92, 93, 94, 95, 96, 97, 98, 99, 100, 101, 102, 103, 104, 105, 106, 107, 108, 109, 110, 111, 112, 113, 114, 115, 116, 117, 118, 119, 120, 121, 122, 123, 124, 125, 126, 127, 128, 129, 130, 131, 132, 133, 134, 135, 136, 137, 138, 139, 140, 141, 142, 143, 144, 145, 146] (by decide +kernel) (by decide +kernel)) (goodIn_sub (fun _ h => List.mem_cons_of_mem _ (List.mem_append_left _ (List.mem_append_left _ (List.mem_append_right _ h)))) (by decide +kernel))) (goodIn_sub (fun _ h => List.mem_cons_of_mem _ (List.mem_append_left _ (List.mem_append_right _ h))) (by decide +kernel))) (goodIn_sub (fun _ h => List.mem_cons_of_mem _ (List.mem_append_right _ h)) (by decide +kernel))
set_option maxRecDepth 20000 in
theorem gL_reign_X9_reign : GoodIn wsL_reign (wsV RL 52 RX9 yX9_reign wsX9_reign) := goodIn_app (goodIn_of _ (by decide +kernel)) ggL_reign_X9_reign
theorem dL_reign_0 : decode cL_reign 0 = .ok (.aload_n 3, 1) := by decide +kernel
theorem dL_reign_1 : decode cL_reign 1 = .ok (.iconst 0, 1) := by decide +kernel
theorem dL_reign_2 : decode cL_reign 2 = .ok (.aload_n 0, 1) := by decide +kernel
theorem dL_reign_3 : decode cL_reign 3 = .ok (.iload_n 1, 1) := by decide +kernel
theorem dL_reign_4 : decode cL_reign 4 = .ok (.iload_n 2, 1) := by decide +kernel
theorem dL_reign_5 : decode cL_reign 5 = .ok (.invokevirtual 52, 3) := by decide +kernel
theorem dL_reign_8 : decode cL_reign 8 = .ok (.i2l, 1) := by decide +kernel
theorem dL_reign_9 : decode cL_reign 9 = .ok (.lastore, 1) := by decide +kernel
theorem dL_reign_10 : decode cL_reign 10 = .ok (.goto 11, 3) := by decide +kernel
theorem dL_reign_13 : decode cL_reign 13 = .ok (.astore 4, 2) := by decide +kernel
theorem dL_reign_15 : decode cL_reign 15 = .ok (.iconst 1, 1) := by decide +kernel
theorem dL_reign_16 : decode cL_reign 16 = .ok (.ireturn, 1) := by decide +kernel
theorem dL_reign_17 : decode cL_reign 17 = .ok (.astore 4, 2) := by decide +kernel
theorem dL_reign_19 : decode cL_reign 19 = .ok (.iconst 2, 1) := by decide +kernel
theorem dL_reign_20 : decode cL_reign 20 = .ok (.ireturn, 1) := by decide +kernel
theorem dL_reign_21 : decode cL_reign 21 = .ok (.iconst 0, 1) := by decide +kernel
theorem dL_reign_22 : decode cL_reign 22 = .ok (.ireturn, 1) := by decide +kernel
set_option maxRecDepth 20000 in
theorem ggL_die_X9_die : GoodIn wsL_die wsX9_die := goodIn_ca (goodIn_ca (goodIn_ca (goodIn_r _ [7, 8, 9, 10, 6, 11, 12, 13, 14, 15, 16, 17, 18, 19, 20, 21, 22, 23, 24, 25, 26, 27, 28, 29, 30, 31, 32, 33, 34, 35, 36, 37, 38, 39, 40, 41, 42, 43, 44, 45, 46, 47, 48, 49, 50, 51, 52, 53, 54, 55, 56, 57, 58, 59, 60, 61, 62, 63, 64, 65, 66, 67, 68, 69, 70, 71, 72, 73, 74, 75, 76, 77, 78, 79, 80, 81, 82, 83, 84, 85, 86, 87, 88, 89, 90, 91, 92, 93, 94, 95, 96, 97, 98, 99, 100, 101, 102, 103, 104, 105, 106, 107, 108, 109, 110, 111, 112, 113, 114, 115, 116, 117, 118, 119, 120, 121, 122, 123, 124, 125, 126, 127, 128, 129, 130, 131, 132, 133, 134, 135, 136, 137, 138, 139, 140, 141, 142, 143, 144] (by decide +kernel) (by decide +kernel)) (goodIn_sub (fun _ h => List.mem_cons_of_mem _ (List.mem_append_left _ (List.mem_append_left _ (List.mem_append_right _ h)))) (by decide +kernel))) (goodIn_sub (fun _ h => List.mem_cons_of_mem _ (List.mem_append_left _ (List.mem_append_right _ h))) (by decide +kernel))) (goodIn_sub (fun _ h => List.mem_cons_of_mem _ (List.mem_append_right _ h)) (by decide +kernel))
set_option maxRecDepth 20000 in
theorem gL_die_X9_die : GoodIn wsL_die (wsV RL 55 RX9 yX9_die wsX9_die) := goodIn_app (goodIn_of _ (by decide +kernel)) ggL_die_X9_die
theorem dL_die_0 : decode cL_die 0 = .ok (.aload 4, 2) := by decide +kernel
theorem dL_die_2 : decode cL_die 2 = .ok (.iconst 0, 1) := by decide +kernel
theorem dL_die_3 : decode cL_die 3 = .ok (.aload_n 0, 1) := by decide +kernel
theorem dL_die_4 : decode cL_die 4 = .ok (.iload_n 1, 1) := by decide +kernel
theorem dL_die_5 : decode cL_die 5 = .ok (.iload_n 2, 1) := by decide +kernel
theorem dL_die_6 : decode cL_die 6 = .ok (.iload_n 3, 1) := by decide +kernel
theorem dL_die_7 : decode cL_die 7 = .ok (.invokevirtual 55, 3) := by decide +kernel
theorem dL_die_10 : decode cL_die 10 = .ok (.i2l, 1) := by decide +kernel
theorem dL_die_11 : decode cL_die 11 = .ok (.lastore, 1) := by decide +kernel
theorem dL_die_12 : decode cL_die 12 = .ok (.goto 11, 3) := by decide +kernel
theorem dL_die_15 : decode cL_die 15 = .ok (.astore 5, 2) := by decide +kernel
theorem dL_die_17 : decode cL_die 17 = .ok (.iconst 1, 1) := by decide +kernel
theorem dL_die_18 : decode cL_die 18 = .ok (.ireturn, 1) := by decide +kernel
theorem dL_die_19 : decode cL_die 19 = .ok (.astore 5, 2) := by decide +kernel
theorem dL_die_21 : decode cL_die 21 = .ok (.iconst 2, 1) := by decide +kernel
theorem dL_die_22 : decode cL_die 22 = .ok (.ireturn, 1) := by decide +kernel
theorem dL_die_23 : decode cL_die 23 = .ok (.iconst 0, 1) := by decide +kernel
theorem dL_die_24 : decode cL_die 24 = .ok (.ireturn, 1) := by decide +kernel
set_option maxRecDepth 20000 in
theorem ggL_crack_X9_crack : GoodIn wsL_crack wsX9_crack := goodIn_ca (goodIn_ca (goodIn_ca (goodIn_r _ [8, 9, 10, 11, 7, 12, 13, 14, 15, 16, 17, 18, 19, 20, 21, 22, 23, 24, 25, 26, 27, 28, 29, 30, 31, 32, 33, 34, 35, 36, 37, 38, 39, 40, 41, 42, 43, 44, 45, 46, 47, 48, 49, 50, 51, 52, 53, 54, 55, 56, 57, 58, 59, 60, 61, 62, 63, 64, 65, 66, 67, 68, 69, 70, 71, 72, 73, 74, 75, 76, 77, 78, 79, 80, 81, 82, 83, 84, 85, 86, 87, 88, 89, 90, 91, 92, 93, 94, 95, 96, 97, 98, 99, 100, 101, 102, 103, 104, 105, 106, 107, 108, 109, 110, 111, 112, 113, 114, 115, 116, 117, 118, 119, 120, 121, 122, 123, 124, 125, 126, 127, 128, 129, 130, 131, 132, 133, 134, 135, 136, 137, 138, 139, 140, 141, 142, 143, 144, 145, 146, 147, 148, 149, 150, 151, 152, 153, 154] (by decide +kernel) (by decide +kernel)) (goodIn_sub (fun _ h => List.mem_cons_of_mem _ (List.mem_append_left _ (List.mem_append_left _ (List.mem_append_right _ h)))) (by decide +kernel))) (goodIn_sub (fun _ h => List.mem_cons_of_mem _ (List.mem_append_left _ (List.mem_append_right _ h))) (by decide +kernel))) (goodIn_sub (fun _ h => List.mem_cons_of_mem _ (List.mem_append_right _ h)) (by decide +kernel))
set_option maxRecDepth 20000 in
theorem gL_crack_X9_crack : GoodIn wsL_crack (wsV RL 59 RX9 yX9_crack wsX9_crack) := goodIn_app (goodIn_of _ (by decide +kernel)) ggL_crack_X9_crack
theorem dL_crack_0 : decode cL_crack 0 = .ok (.aload_n 3, 1) := by decide +kernel
theorem dL_crack_1 : decode cL_crack 1 = .ok (.iconst 0, 1) := by decide +kernel
theorem dL_crack_2 : decode cL_crack 2 = .ok (.aload_n 0, 1) := by decide +kernel
theorem dL_crack_3 : decode cL_crack 3 = .ok (.iload_n 1, 1) := by decide +kernel
theorem dL_crack_4 : decode cL_crack 4 = .ok (.iload_n 2, 1) := by decide +kernel
theorem dL_crack_5 : decode cL_crack 5 = .ok (.invokevirtual 59, 3) := by decide +kernel
theorem dL_crack_8 : decode cL_crack 8 = .ok (.i2l, 1) := by decide +kernel
theorem dL_crack_9 : decode cL_crack 9 = .ok (.lastore, 1) := by decide +kernel
theorem dL_crack_10 : decode cL_crack 10 = .ok (.goto 15, 3) := by decide +kernel
theorem dL_crack_13 : decode cL_crack 13 = .ok (.astore 4, 2) := by decide +kernel
theorem dL_crack_15 : decode cL_crack 15 = .ok (.iconst 1, 1) := by decide +kernel
theorem dL_crack_16 : decode cL_crack 16 = .ok (.ireturn, 1) := by decide +kernel
theorem dL_crack_17 : decode cL_crack 17 = .ok (.astore 4, 2) := by decide +kernel
theorem dL_crack_19 : decode cL_crack 19 = .ok (.iconst 2, 1) := by decide +kernel
theorem dL_crack_20 : decode cL_crack 20 = .ok (.ireturn, 1) := by decide +kernel
theorem dL_crack_21 : decode cL_crack 21 = .ok (.astore 4, 2) := by decide +kernel
theorem dL_crack_23 : decode cL_crack 23 = .ok (.iconst 3, 1) := by decide +kernel
theorem dL_crack_24 : decode cL_crack 24 = .ok (.ireturn, 1) := by decide +kernel
theorem dL_crack_25 : decode cL_crack 25 = .ok (.iconst 0, 1) := by decide +kernel
theorem dL_crack_26 : decode cL_crack 26 = .ok (.ireturn, 1) := by decide +kernel
set_option maxRecDepth 20000 in
theorem ggL_seal_X9_seal : GoodIn wsL_seal wsX9_seal := goodIn_ca (goodIn_ca (goodIn_ca (goodIn_r _ [8, 9, 10, 11, 7, 12, 13, 14, 15, 16, 17, 18, 19, 20, 21, 22, 23, 24, 25, 26, 27, 28, 29, 30, 31, 32, 33, 34, 35, 36, 37, 38, 39, 40, 41, 42, 43, 44, 45, 46, 47, 48, 49, 50, 51, 52, 53, 54, 55, 56, 57, 58, 59, 60, 61, 62, 63, 64, 65, 66, 67, 68, 69, 70, 71, 72, 73, 74, 75, 76, 77, 78, 79, 80, 81, 82, 83, 84, 85, 86, 87, 88, 89, 90, 91, 92, 93, 94, 95, 96, 97, 98, 99, 100, 101, 102, 103, 104, 105, 106, 107, 108, 109, 110, 111, 112, 113, 114, 115, 116, 117, 118, 119, 120, 121, 122, 123, 124, 125, 126, 127, 128, 129, 130, 131, 132, 133, 134, 135, 136, 137, 138, 139, 140, 141, 142, 143, 144, 145, 146, 147, 148, 149, 150, 151, 152, 153, 154, 155, 156, 157] (by decide +kernel) (by decide +kernel)) (goodIn_sub (fun _ h => List.mem_cons_of_mem _ (List.mem_append_left _ (List.mem_append_left _ (List.mem_append_right _ h)))) (by decide +kernel))) (goodIn_sub (fun _ h => List.mem_cons_of_mem _ (List.mem_append_left _ (List.mem_append_right _ h))) (by decide +kernel))) (goodIn_sub (fun _ h => List.mem_cons_of_mem _ (List.mem_append_right _ h)) (by decide +kernel))
set_option maxRecDepth 20000 in
theorem gL_seal_X9_seal : GoodIn wsL_seal (wsV RL 62 RX9 yX9_seal wsX9_seal) := goodIn_app (goodIn_of _ (by decide +kernel)) ggL_seal_X9_seal
theorem dL_seal_0 : decode cL_seal 0 = .ok (.aload 6, 2) := by decide +kernel
theorem dL_seal_2 : decode cL_seal 2 = .ok (.iconst 0, 1) := by decide +kernel
theorem dL_seal_3 : decode cL_seal 3 = .ok (.aload_n 0, 1) := by decide +kernel
theorem dL_seal_4 : decode cL_seal 4 = .ok (.iload_n 1, 1) := by decide +kernel
theorem dL_seal_5 : decode cL_seal 5 = .ok (.iload_n 2, 1) := by decide +kernel
theorem dL_seal_6 : decode cL_seal 6 = .ok (.iload_n 3, 1) := by decide +kernel
theorem dL_seal_7 : decode cL_seal 7 = .ok (.iload 4, 2) := by decide +kernel
theorem dL_seal_9 : decode cL_seal 9 = .ok (.iload 5, 2) := by decide +kernel
theorem dL_seal_11 : decode cL_seal 11 = .ok (.invokevirtual 62, 3) := by decide +kernel
theorem dL_seal_14 : decode cL_seal 14 = .ok (.i2l, 1) := by decide +kernel
theorem dL_seal_15 : decode cL_seal 15 = .ok (.lastore, 1) := by decide +kernel
theorem dL_seal_16 : decode cL_seal 16 = .ok (.goto 15, 3) := by decide +kernel
theorem dL_seal_19 : decode cL_seal 19 = .ok (.astore 7, 2) := by decide +kernel
theorem dL_seal_21 : decode cL_seal 21 = .ok (.iconst 1, 1) := by decide +kernel
theorem dL_seal_22 : decode cL_seal 22 = .ok (.ireturn, 1) := by decide +kernel
theorem dL_seal_23 : decode cL_seal 23 = .ok (.astore 7, 2) := by decide +kernel
theorem dL_seal_25 : decode cL_seal 25 = .ok (.iconst 2, 1) := by decide +kernel
theorem dL_seal_26 : decode cL_seal 26 = .ok (.ireturn, 1) := by decide +kernel
theorem dL_seal_27 : decode cL_seal 27 = .ok (.astore 7, 2) := by decide +kernel
theorem dL_seal_29 : decode cL_seal 29 = .ok (.iconst 3, 1) := by decide +kernel
theorem dL_seal_30 : decode cL_seal 30 = .ok (.ireturn, 1) := by decide +kernel
theorem dL_seal_31 : decode cL_seal 31 = .ok (.iconst 0, 1) := by decide +kernel
theorem dL_seal_32 : decode cL_seal 32 = .ok (.ireturn, 1) := by decide +kernel
set_option maxRecDepth 20000 in
theorem ggL_show_X9_show : GoodIn wsL_show wsX9_show := goodIn_ca (goodIn_ca (goodIn_ca (goodIn_r _ [7, 8, 9, 10, 6, 11, 12, 13, 14, 15, 16, 17, 18, 19, 20, 21, 22, 23, 24, 25, 26, 27, 28, 29, 30, 31, 32, 33, 34, 35, 36, 37, 38, 39, 40, 41, 42, 43, 44, 45, 46, 47, 48, 49, 50, 51, 52, 53, 54, 55, 56, 57, 58, 59, 60, 61, 62, 63, 64, 65, 66, 67, 68, 69, 70, 71, 72, 73, 74, 75, 76, 77, 78, 79, 80, 81, 82, 83, 84, 85, 86, 87, 88, 89, 90, 91, 92, 93, 94, 95, 96, 97, 98, 99, 100, 101, 102, 103, 104, 105, 106, 107, 108, 109, 110, 111, 112, 113, 114, 115, 116, 117, 118, 119, 120, 121, 122, 123, 124, 125, 126, 127, 128, 129, 130, 131, 132, 133, 134, 135, 136, 137, 138, 139, 140, 141, 142, 143, 144, 145, 146, 147] (by decide +kernel) (by decide +kernel)) (goodIn_sub (fun _ h => List.mem_cons_of_mem _ (List.mem_append_left _ (List.mem_append_left _ (List.mem_append_right _ h)))) (by decide +kernel))) (goodIn_sub (fun _ h => List.mem_cons_of_mem _ (List.mem_append_left _ (List.mem_append_right _ h))) (by decide +kernel))) (goodIn_sub (fun _ h => List.mem_cons_of_mem _ (List.mem_append_right _ h)) (by decide +kernel))
set_option maxRecDepth 20000 in
theorem gL_show_X9_show : GoodIn wsL_show (wsV RL 66 RX9 yX9_show wsX9_show) := goodIn_app (goodIn_of _ (by decide +kernel)) ggL_show_X9_show
theorem dL_show_0 : decode cL_show 0 = .ok (.aload_n 3, 1) := by decide +kernel
theorem dL_show_1 : decode cL_show 1 = .ok (.iconst 0, 1) := by decide +kernel
theorem dL_show_2 : decode cL_show 2 = .ok (.aload_n 0, 1) := by decide +kernel
theorem dL_show_3 : decode cL_show 3 = .ok (.iload_n 1, 1) := by decide +kernel
theorem dL_show_4 : decode cL_show 4 = .ok (.iload_n 2, 1) := by decide +kernel
theorem dL_show_5 : decode cL_show 5 = .ok (.invokevirtual 66, 3) := by decide +kernel
theorem dL_show_8 : decode cL_show 8 = .ok (.i2l, 1) := by decide +kernel
theorem dL_show_9 : decode cL_show 9 = .ok (.lastore, 1) := by decide +kernel
theorem dL_show_10 : decode cL_show 10 = .ok (.goto 11, 3) := by decide +kernel
theorem dL_show_13 : decode cL_show 13 = .ok (.astore 4, 2) := by decide +kernel
theorem dL_show_15 : decode cL_show 15 = .ok (.iconst 1, 1) := by decide +kernel
theorem dL_show_16 : decode cL_show 16 = .ok (.ireturn, 1) := by decide +kernel
theorem dL_show_17 : decode cL_show 17 = .ok (.astore 4, 2) := by decide +kernel
theorem dL_show_19 : decode cL_show 19 = .ok (.iconst 2, 1) := by decide +kernel
theorem dL_show_20 : decode cL_show 20 = .ok (.ireturn, 1) := by decide +kernel
theorem dL_show_21 : decode cL_show 21 = .ok (.iconst 0, 1) := by decide +kernel
theorem dL_show_22 : decode cL_show 22 = .ok (.ireturn, 1) := by decide +kernel
set_option maxRecDepth 20000 in
theorem ggL_hang_X9_hang : GoodIn wsL_hang wsX9_hang := goodIn_ca (goodIn_ca (goodIn_ca (goodIn_r _ [6, 7, 8, 9, 5, 10, 11, 12, 13, 14, 15, 16, 17, 18, 19, 20, 21, 22, 23, 24, 25, 26, 27, 28, 29, 30, 31, 32, 33, 34, 35, 36, 37, 38, 39, 40, 41, 42, 43, 44, 45, 46, 47, 48, 49, 50, 51, 52, 53, 54, 55, 56, 57, 58, 59, 60, 61, 62, 63, 64, 65, 66, 67, 68, 69, 70, 71, 72, 73, 74, 75, 76, 77, 78, 79, 80, 81, 82, 83, 84, 85, 86, 87, 88, 89, 90, 91, 92, 93, 94, 95, 96, 97, 98, 99, 100, 101, 102, 103, 104, 105, 106, 107, 108, 109, 110, 111, 112, 113, 114, 115, 116, 117, 118, 119, 120, 121, 122, 123, 124, 125, 126, 127, 128, 129, 130, 131, 132, 133, 134, 135, 136, 137, 138, 139, 140, 141, 142, 143, 144, 145, 146, 147] (by decide +kernel) (by decide +kernel)) (goodIn_sub (fun _ h => List.mem_cons_of_mem _ (List.mem_append_left _ (List.mem_append_left _ (List.mem_append_right _ h)))) (by decide +kernel))) (goodIn_sub (fun _ h => List.mem_cons_of_mem _ (List.mem_append_left _ (List.mem_append_right _ h))) (by decide +kernel))) (goodIn_sub (fun _ h => List.mem_cons_of_mem _ (List.mem_append_right _ h)) (by decide +kernel))
set_option maxRecDepth 20000 in
theorem gL_hang_X9_hang : GoodIn wsL_hang (wsV RL 69 RX9 yX9_hang wsX9_hang) := goodIn_app (goodIn_of _ (by decide +kernel)) ggL_hang_X9_hang
theorem dL_hang_0 : decode cL_hang 0 = .ok (.aload_n 3, 1) := by decide +kernel
theorem dL_hang_1 : decode cL_hang 1 = .ok (.iconst 0, 1) := by decide +kernel
theorem dL_hang_2 : decode cL_hang 2 = .ok (.aload_n 0, 1) := by decide +kernel
theorem dL_hang_3 : decode cL_hang 3 = .ok (.iload_n 1, 1) := by decide +kernel
theorem dL_hang_4 : decode cL_hang 4 = .ok (.iload_n 2, 1) := by decide +kernel
theorem dL_hang_5 : decode cL_hang 5 = .ok (.invokevirtual 69, 3) := by decide +kernel
theorem dL_hang_8 : decode cL_hang 8 = .ok (.i2l, 1) := by decide +kernel
theorem dL_hang_9 : decode cL_hang 9 = .ok (.lastore, 1) := by decide +kernel
theorem dL_hang_10 : decode cL_hang 10 = .ok (.goto 7, 3) := by decide +kernel
theorem dL_hang_13 : decode cL_hang 13 = .ok (.astore 4, 2) := by decide +kernel
theorem dL_hang_15 : decode cL_hang 15 = .ok (.iconst 1, 1) := by decide +kernel
theorem dL_hang_16 : decode cL_hang 16 = .ok (.ireturn, 1) := by decide +kernel
theorem dL_hang_17 : decode cL_hang 17 = .ok (.iconst 0, 1) := by decide +kernel
theorem dL_hang_18 : decode cL_hang 18 = .ok (.ireturn, 1) := by decide +kernel
set_option maxRecDepth 20000 in
theorem ggL_cut_X9_cut : GoodIn wsL_cut wsX9_cut := goodIn_ca (goodIn_ca (goodIn_ca (goodIn_r _ [7, 8, 9, 10, 6, 11, 12, 13, 14, 15, 16, 17, 18, 19, 20, 21, 22, 23, 24, 25, 26, 27, 28, 29, 30, 31, 32, 33, 34, 35, 36, 37, 38, 39, 40, 41, 42, 43, 44, 45, 46, 47, 48, 49, 50, 51, 52, 53, 54, 55, 56, 57, 58, 59, 60, 61, 62, 63, 64, 65, 66, 67, 68, 69, 70, 71, 72, 73, 74, 75, 76, 77, 78, 79, 80, 81, 82, 83, 84, 85, 86, 87, 88, 89, 90, 91, 92, 93, 94, 95, 96, 97, 98, 99, 100, 101, 102, 103, 104, 105, 106, 107, 108, 109, 110, 111, 112, 113, 114, 115, 116, 117, 118, 119, 120, 121, 122, 123, 124, 125, 126, 127, 128, 129, 130, 131, 132, 133, 134, 135, 136, 137, 138, 139, 140, 141, 142] (by decide +kernel) (by decide +kernel)) (goodIn_sub (fun _ h => List.mem_cons_of_mem _ (List.mem_append_left _ (List.mem_append_left _ (List.mem_append_right _ h)))) (by decide +kernel))) (goodIn_sub (fun _ h => List.mem_cons_of_mem _ (List.mem_append_left _ (List.mem_append_right _ h))) (by decide +kernel))) (goodIn_sub (fun _ h => List.mem_cons_of_mem _ (List.mem_append_right _ h)) (by decide +kernel))
set_option maxRecDepth 20000 in
theorem gL_cut_X9_cut : GoodIn wsL_cut (wsV RL 72 RX9 yX9_cut wsX9_cut) := goodIn_app (goodIn_of _ (by decide +kernel)) ggL_cut_X9_cut
theorem dL_cut_0 : decode cL_cut 0 = .ok (.aload_n 2, 1) := by decide +kernel
theorem dL_cut_1 : decode cL_cut 1 = .ok (.iconst 0, 1) := by decide +kernel
theorem dL_cut_2 : decode cL_cut 2 = .ok (.aload_n 0, 1) := by decide +kernel
theorem dL_cut_3 : decode cL_cut 3 = .ok (.iload_n 1, 1) := by decide +kernel
theorem dL_cut_4 : decode cL_cut 4 = .ok (.invokevirtual 72, 3) := by decide +kernel
theorem dL_cut_7 : decode cL_cut 7 = .ok (.i2l, 1) := by decide +kernel
theorem dL_cut_8 : decode cL_cut 8 = .ok (.lastore, 1) := by decide +kernel
theorem dL_cut_9 : decode cL_cut 9 = .ok (.goto 9, 3) := by decide +kernel
theorem dL_cut_12 : decode cL_cut 12 = .ok (.astore_n 3, 1) := by decide +kernel
theorem dL_cut_13 : decode cL_cut 13 = .ok (.iconst 1, 1) := by decide +kernel
theorem dL_cut_14 : decode cL_cut 14 = .ok (.ireturn, 1) := by decide +kernel
theorem dL_cut_15 : decode cL_cut 15 = .ok (.astore_n 3, 1) := by decide +kernel
theorem dL_cut_16 : decode cL_cut 16 = .ok (.iconst 2, 1) := by decide +kernel
theorem dL_cut_17 : decode cL_cut 17 = .ok (.ireturn, 1) := by decide +kernel
theorem dL_cut_18 : decode cL_cut 18 = .ok (.iconst 0, 1) := by decide +kernel
theorem dL_cut_19 : decode cL_cut 19 = .ok (.ireturn, 1) := by decide +kernel
set_option maxRecDepth 20000 in
theorem ggL_shelve_X9_shelve : GoodIn wsL_shelve wsX9_shelve := goodIn_ca (goodIn_ca (goodIn_ca (goodIn_r _ [8, 9, 10, 11, 7, 12, 13, 14, 15, 16, 17, 18, 19, 20, 21, 22, 23, 24, 25, 26, 27, 28, 29, 30, 31, 32, 33, 34, 35, 36, 37, 38, 39, 40, 41, 42, 43, 44, 45, 46, 47, 48, 49, 50, 51, 52, 53, 54, 55, 56, 57, 58, 59, 60, 61, 62, 63, 64, 65, 66, 67, 68, 69, 70, 71, 72, 73, 74, 75, 76, 77, 78, 79, 80, 81, 82, 83, 84, 85, 86, 87, 88, 89, 90, 91, 92, 93, 94, 95, 96, 97, 98, 99, 100, 101, 102, 103, 104, 105, 106, 107, 108, 109, 110, 111, 112, 113, 114, 115, 116, 117, 118, 119, 120, 121, 122, 123, 124, 125, 126, 127, 128, 129, 130, 131, 132, 133, 134, 135, 136, 137, 138, 139, 140, 141, 142, 143, 144, 145, 146, 147, 148, 149, 150, 151, 152, 153, 154, 155, 156, 157, 158, 159, 160, 161, 162, 163, 164, 165, 166, 167, 168, 169, 170, 171, 172, 173, 174, 175, 176, 177, 178, 179, 180, 181, 182, 183, 184] (by decide +kernel) (by decide +kernel)) (goodIn_sub (fun _ h => List.mem_cons_of_mem _ (List.mem_append_left _ (List.mem_append_left _ (List.mem_append_right _ h)))) (by decide +kernel))) (goodIn_sub (fun _ h => List.mem_cons_of_mem _ (List.mem_append_left _ (List.mem_append_right _ h))) (by decide +kernel))) (goodIn_sub (fun _ h => List.mem_cons_of_mem _ (List.mem_append_right _ h)) (by decide +kernel))
set_option maxRecDepth 20000 in
theorem gL_shelve_X9_shelve : GoodIn wsL_shelve (wsV RL 75 RX9 yX9_shelve wsX9_shelve) := goodIn_app (goodIn_of _ (by decide +kernel)) ggL_shelve_X9_shelve
theorem dL_shelve_0 : decode cL_shelve 0 = .ok (.aload 4, 2) := by decide +kernel
theorem dL_shelve_2 : decode cL_shelve 2 = .ok (.iconst 0, 1) := by decide +kernel
theorem dL_shelve_3 : decode cL_shelve 3 = .ok (.aload_n 0, 1) := by decide +kernel
theorem dL_shelve_4 : decode cL_shelve 4 = .ok (.iload_n 1, 1) := by decide +kernel
theorem dL_shelve_5 : decode cL_shelve 5 = .ok (.iload_n 2, 1) := by decide +kernel
theorem dL_shelve_6 : decode cL_shelve 6 = .ok (.iload_n 3, 1) := by decide +kernel
theorem dL_shelve_7 : decode cL_shelve 7 = .ok (.invokevirtual 75, 3) := by decide +kernel
theorem dL_shelve_10 : decode cL_shelve 10 = .ok (.i2l, 1) := by decide +kernel
theorem dL_shelve_11 : decode cL_shelve 11 = .ok (.lastore, 1) := by decide +kernel
theorem dL_shelve_12 : decode cL_shelve 12 = .ok (.goto 15, 3) := by decide +kernel
theorem dL_shelve_15 : decode cL_shelve 15 = .ok (.astore 5, 2) := by decide +kernel
theorem dL_shelve_17 : decode cL_shelve 17 = .ok (.iconst 1, 1) := by decide +kernel
theorem dL_shelve_18 : decode cL_shelve 18 = .ok (.ireturn, 1) := by decide +kernel
theorem dL_shelve_19 : decode cL_shelve 19 = .ok (.astore 5, 2) := by decide +kernel
theorem dL_shelve_21 : decode cL_shelve 21 = .ok (.iconst 2, 1) := by decide +kernel
theorem dL_shelve_22 : decode cL_shelve 22 = .ok (.ireturn, 1) := by decide +kernel
theorem dL_shelve_23 : decode cL_shelve 23 = .ok (.astore 5, 2) := by decide +kernel
theorem dL_shelve_25 : decode cL_shelve 25 = .ok (.iconst 3, 1) := by decide +kernel
theorem dL_shelve_26 : decode cL_shelve 26 = .ok (.ireturn, 1) := by decide +kernel
theorem dL_shelve_27 : decode cL_shelve 27 = .ok (.iconst 0, 1) := by decide +kernel
theorem dL_shelve_28 : decode cL_shelve 28 = .ok (.ireturn, 1) := by decide +kernel
set_option maxRecDepth 20000 in
theorem ggL_take_X9_take : GoodIn wsL_take wsX9_take := goodIn_ca (goodIn_ca (goodIn_ca (goodIn_r _ [7, 8, 9, 10, 6, 11, 12, 13, 14, 15, 16, 17, 18, 19, 20, 21, 22, 23, 24, 25, 26, 27, 28, 29, 30, 31, 32, 33, 34, 35, 36, 37, 38, 39, 40, 41, 42, 43, 44, 45, 46, 47, 48, 49, 50, 51, 52, 53, 54, 55, 56, 57, 58, 59, 60, 61, 62, 63, 64, 65, 66, 67, 68, 69, 70, 71, 72, 73, 74, 75, 76, 77, 78, 79, 80, 81, 82, 83, 84, 85, 86, 87, 88, 89, 90, 91, 92, 93, 94, 95, 96, 97, 98, 99, 100, 101, 102, 103, 104, 105, 106, 107, 108, 109, 110, 111, 112, 113, 114, 115, 116, 117, 118, 119, 120, 121, 122, 123, 124, 125, 126, 127, 128, 129, 130, 131, 132, 133, 134, 135, 136, 137, 138, 139, 140, 141, 142, 143, 144, 145, 146, 147, 148, 149, 150, 151, 152, 153, 154, 155, 156, 157, 158, 159, 160, 161, 162] (by decide +kernel) (by decide +kernel)) (goodIn_sub (fun _ h => List.mem_cons_of_mem _ (List.mem_append_left _ (List.mem_append_left _ (List.mem_append_right _ h)))) (by decide +kernel))) (goodIn_sub (fun _ h => List.mem_cons_of_mem _ (List.mem_append_left _ (List.mem_append_right _ h))) (by decide +kernel))) (goodIn_sub (fun _ h => List.mem_cons_of_mem _ (List.mem_append_right _ h)) (by decide +kernel))
set_option maxRecDepth 20000 in
theorem gL_take_X9_take : GoodIn wsL_take (wsV RL 78 RX9 yX9_take wsX9_take) := goodIn_app (goodIn_of _ (by decide +kernel)) ggL_take_X9_take
theorem dL_take_0 : decode cL_take 0 = .ok (.aload_n 2, 1) := by decide +kernel
theorem dL_take_1 : decode cL_take 1 = .ok (.iconst 0, 1) := by decide +kernel
theorem dL_take_2 : decode cL_take 2 = .ok (.aload_n 0, 1) := by decide +kernel
theorem dL_take_3 : decode cL_take 3 = .ok (.iload_n 1, 1) := by decide +kernel
theorem dL_take_4 : decode cL_take 4 = .ok (.invokevirtual 78, 3) := by decide +kernel
theorem dL_take_7 : decode cL_take 7 = .ok (.i2l, 1) := by decide +kernel
theorem dL_take_8 : decode cL_take 8 = .ok (.lastore, 1) := by decide +kernel
theorem dL_take_9 : decode cL_take 9 = .ok (.goto 9, 3) := by decide +kernel
theorem dL_take_12 : decode cL_take 12 = .ok (.astore_n 3, 1) := by decide +kernel
theorem dL_take_13 : decode cL_take 13 = .ok (.iconst 1, 1) := by decide +kernel
theorem dL_take_14 : decode cL_take 14 = .ok (.ireturn, 1) := by decide +kernel
theorem dL_take_15 : decode cL_take 15 = .ok (.astore_n 3, 1) := by decide +kernel
theorem dL_take_16 : decode cL_take 16 = .ok (.iconst 2, 1) := by decide +kernel
theorem dL_take_17 : decode cL_take 17 = .ok (.ireturn, 1) := by decide +kernel
theorem dL_take_18 : decode cL_take 18 = .ok (.iconst 0, 1) := by decide +kernel
theorem dL_take_19 : decode cL_take 19 = .ok (.ireturn, 1) := by decide +kernel
set_option maxRecDepth 20000 in
theorem ggL_sort_X9_sort : GoodIn wsL_sort wsX9_sort := goodIn_ca (goodIn_ca (goodIn_ca (goodIn_r _ [6, 7, 8, 9, 10, 5, 11, 12, 13, 14, 15, 16, 17, 18, 19, 20, 21, 22, 23, 24, 25, 26, 27, 28, 29, 30, 31, 32, 33, 34, 35, 36, 37, 38, 39, 40, 41, 42, 43, 44, 45, 46, 47, 48, 49, 50, 51, 52, 53, 54, 55, 56, 57, 58, 59, 60, 61, 62, 63, 64, 65, 66, 67, 68, 69, 70, 71, 72, 73, 74, 75, 76, 77, 78, 79, 80, 81, 82, 83, 84, 85, 86, 87, 88, 89, 90, 91, 92, 93, 94, 95, 96, 97, 98, 99, 100, 101, 102, 103, 104, 105, 106, 107, 108, 109, 110, 111, 112, 113, 114, 115, 116, 117, 118, 119, 120, 121, 122, 123, 124, 125, 126, 127, 128, 129, 130, 131, 132, 133, 134, 135, 136, 137, 138, 139, 140, 141, 142, 143, 144, 145, 146, 147, 148, 149, 150, 151, 152, 153, 154, 155, 156, 157, 158, 159, 160, 161, 162, 163, 164, 165, 166, 167, 168, 169, 170, 171, 172, 173, 174, 175, 176, 177, 178, 179, 180, 181, 182, 183, 184, 185, 186, 187, 188, 189, 190, 191, 192, 193, 194, 195, 196, 197, 198, 199, 200, 201, 202, 203, 204, 205, 206, 207, 208, 209, 210, 211, 212, 213, 214, 215, 216, 217, 218, 219, 220, 221, 222, 223, 224, 225, 226, 227, 228, 229, 230, 231, 232, 233, 234, 235, 236, 237, 238, 239, 240, 241, 242, 243, 244, 245, 246, 247, 248, 249, 250, 251, 252, 253, 254, 255, 256, 257, 258, 259, 260, 261, 262, 263, 264, 265, 266, 267, 268, 269, 270, 271, 272] (by decide +kernel) (by decide +kernel)) (goodIn_sub (fun _ h => List.mem_cons_of_mem _ (List.mem_append_left _ (List.mem_append_left _ (List.mem_append_right _ h)))) (by decide +kernel))) (goodIn_sub (fun _ h => List.mem_cons_of_mem _ (List.mem_append_left _ (List.mem_append_right _ h))) (by decide +kernel))) (goodIn_sub (fun _ h => List.mem_cons_of_mem _ (List.mem_append_right _ h)) (by decide +kernel))
set_option maxRecDepth 20000 in
theorem gL_sort_X9_sort : GoodIn wsL_sort (wsV RL 81 RX9 yX9_sort wsX9_sort) := goodIn_app (goodIn_of _ (by decide +kernel)) ggL_sort_X9_sort
theorem dL_sort_0 : decode cL_sort 0 = .ok (.aload_n 2, 1) := by decide +kernel
theorem dL_sort_1 : decode cL_sort 1 = .ok (.iconst 0, 1) := by decide +kernel
theorem dL_sort_2 : decode cL_sort 2 = .ok (.aload_n 0, 1) := by decide +kernel
theorem dL_sort_3 : decode cL_sort 3 = .ok (.iload_n 1, 1) := by decide +kernel
theorem dL_sort_4 : decode cL_sort 4 = .ok (.invokevirtual 81, 3) := by decide +kernel
theorem dL_sort_7 : decode cL_sort 7 = .ok (.i2l, 1) := by decide +kernel
theorem dL_sort_8 : decode cL_sort 8 = .ok (.lastore, 1) := by decide +kernel
theorem dL_sort_9 : decode cL_sort 9 = .ok (.goto 6, 3) := by decide +kernel
theorem dL_sort_12 : decode cL_sort 12 = .ok (.astore_n 3, 1) := by decide +kernel
theorem dL_sort_13 : decode cL_sort 13 = .ok (.iconst 1, 1) := by decide +kernel
theorem dL_sort_14 : decode cL_sort 14 = .ok (.ireturn, 1) := by decide +kernel
theorem dL_sort_15 : decode cL_sort 15 = .ok (.iconst 0, 1) := by decide +kernel
theorem dL_sort_16 : decode cL_sort 16 = .ok (.ireturn, 1) := by decide +kernel
set_option maxRecDepth 20000 in
theorem ggL_set_X9_set : GoodIn wsL_set wsX9_set := goodIn_ca (goodIn_ca (goodIn_ca (goodIn_r _ [6, 7, 8, 9, 5, 10, 11, 12, 13, 14, 15, 16, 17, 18, 19, 20, 21, 22, 23, 24, 25, 26, 27, 28, 29, 30, 31, 32, 33, 34, 35, 36, 37, 38, 39, 40, 41, 42, 43, 44, 45, 46, 47, 48, 49, 50, 51, 52, 53, 54, 55, 56, 57, 58, 59, 60, 61, 62, 63, 64, 65, 66, 67, 68, 69, 70, 71, 72, 73, 74, 75, 76, 77, 78, 79, 80, 81, 82, 83, 84, 85, 86, 87, 88, 89, 90, 91, 92, 93, 94, 95, 96, 97, 98, 99, 100, 101, 102, 103, 104, 105, 106, 107, 108, 109, 110, 111, 112, 113, 114, 115, 116, 117, 118, 119, 120, 121, 122, 123, 124, 125, 126, 127, 128, 129, 130, 131, 132, 133, 134, 135, 136, 137, 138, 139, 140] (by decide +kernel) (by decide +kernel)) (goodIn_sub (fun _ h => List.mem_cons_of_mem _ (List.mem_append_left _ (List.mem_append_left _ (List.mem_append_right _ h)))) (by decide +kernel))) (goodIn_sub (fun _ h => List.mem_cons_of_mem _ (List.mem_append_left _ (List.mem_append_right _ h))) (by decide +kernel))) (goodIn_sub (fun _ h => List.mem_cons_of_mem _ (List.mem_append_right _ h)) (by decide +kernel))
set_option maxRecDepth 20000 in
theorem gL_set_X9_set : GoodIn wsL_set (wsV RL 84 RX9 yX9_set wsX9_set) := goodIn_app (goodIn_of _ (by decide +kernel)) ggL_set_X9_set
theorem dL_set_0 : decode cL_set 0 = .ok (.aload_n 3, 1) := by decide +kernel
theorem dL_set_1 : decode cL_set 1 = .ok (.iconst 0, 1) := by decide +kernel
theorem dL_set_2 : decode cL_set 2 = .ok (.aload_n 0, 1) := by decide +kernel
theorem dL_set_3 : decode cL_set 3 = .ok (.iload_n 1, 1) := by decide +kernel
theorem dL_set_4 : decode cL_set 4 = .ok (.iload_n 2, 1) := by decide +kernel
theorem dL_set_5 : decode cL_set 5 = .ok (.invokevirtual 84, 3) := by decide +kernel
theorem dL_set_8 : decode cL_set 8 = .ok (.i2l, 1) := by decide +kernel
theorem dL_set_9 : decode cL_set 9 = .ok (.lastore, 1) := by decide +kernel
theorem dL_set_10 : decode cL_set 10 = .ok (.goto 7, 3) := by decide +kernel
theorem dL_set_13 : decode cL_set 13 = .ok (.astore 4, 2) := by decide +kernel
theorem dL_set_15 : decode cL_set 15 = .ok (.iconst 1, 1) := by decide +kernel
theorem dL_set_16 : decode cL_set 16 = .ok (.ireturn, 1) := by decide +kernel
theorem dL_set_17 : decode cL_set 17 = .ok (.iconst 0, 1) := by decide +kernel
theorem dL_set_18 : decode cL_set 18 = .ok (.ireturn, 1) := by decide +kernel
set_option maxRecDepth 20000 in
theorem ggL_undo_X9_undo : GoodIn wsL_undo wsX9_undo := goodIn_ca (goodIn_r _ [6, 7, 8, 9, 10, 11, 5, 12, 13, 14, 15, 16, 17, 18, 19, 20, 21, 22, 23, 24, 25, 26, 27, 28, 29, 30, 31, 32] (by decide +kernel) (by decide +kernel)) (goodIn_sub (fun _ h => List.mem_cons_of_mem _ (List.mem_append_right _ h)) (by decide +kernel))
set_option maxRecDepth 20000 in
theorem gL_undo_X9_undo : GoodIn wsL_undo (wsV RL 87 RX9 yX9_undo wsX9_undo) := goodIn_app (goodIn_of _ (by decide +kernel)) ggL_undo_X9_undo
theorem dL_undo_0 : decode cL_undo 0 = .ok (.aload_n 1, 1) := by decide +kernel
theorem dL_undo_1 : decode cL_undo 1 = .ok (.iconst 0, 1) := by decide +kernel
theorem dL_undo_2 : decode cL_undo 2 = .ok (.aload_n 0, 1) := by decide +kernel
theorem dL_undo_3 : decode cL_undo 3 = .ok (.invokevirtual 87, 3) := by decide +kernel
theorem dL_undo_6 : decode cL_undo 6 = .ok (.i2l, 1) := by decide +kernel
theorem dL_undo_7 : decode cL_undo 7 = .ok (.lastore, 1) := by decide +kernel
theorem dL_undo_8 : decode cL_undo 8 = .ok (.goto 6, 3) := by decide +kernel
theorem dL_undo_11 : decode cL_undo 11 = .ok (.astore_n 2, 1) := by decide +kernel
theorem dL_undo_12 : decode cL_undo 12 = .ok (.iconst 1, 1) := by decide +kernel
theorem dL_undo_13 : decode cL_undo 13 = .ok (.ireturn, 1) := by decide +kernel
theorem dL_undo_14 : decode cL_undo 14 = .ok (.iconst 0, 1) := by decide +kernel
theorem dL_undo_15 : decode cL_undo 15 = .ok (.ireturn, 1) := by decide +kernel
set_option maxRecDepth 20000 in
theorem ggL_older_X9_older : GoodIn wsL_older wsX9_older := goodIn_ca (goodIn_r _ [6, 7, 8, 9, 10, 11, 12, 13, 14, 15, 16, 17, 5, 18, 19, 20, 21, 22, 23, 24, 25, 26, 27, 28, 29, 30, 31, 32, 33, 34, 35, 36, 37, 38, 39, 40, 41, 42, 43, 44, 45, 46, 47, 48, 49, 50, 51, 52, 53, 54, 55, 56, 57, 58, 59, 60, 61, 62, 63, 64, 65, 66, 67, 68, 69, 70, 71, 72, 73, 74, 75, 76, 77, 78, 79, 80, 81, 82, 83, 84, 85, 86, 87, 88, 89, 90, 91, 92, 93, 94, 95, 96, 97, 98, 99, 100, 101, 102, 103, 104, 105, 106, 107, 108, 109, 110, 111, 112, 113, 114, 115, 116, 117, 118, 119, 120, 121, 122, 123, 124, 125, 126, 127, 128, 129, 130, 131, 132, 133, 134, 135, 136, 137, 138, 139, 140, 141, 142, 143, 144, 145, 146, 147, 148, 149, 150, 151, 152, 153, 154, 155, 156, 157, 158, 159, 160, 161, 162, 163, 164, 165, 166, 167, 168, 169, 170, 171, 172, 173, 174, 175, 176, 177] (by decide +kernel) (by decide +kernel)) (goodIn_sub (fun _ h => List.mem_cons_of_mem _ (List.mem_append_right _ h)) (by decide +kernel))
set_option maxRecDepth 20000 in
theorem gL_older_X9_older : GoodIn wsL_older (wsV RL 90 RX9 yX9_older wsX9_older) := goodIn_app (goodIn_of _ (by decide +kernel)) ggL_older_X9_older
theorem dL_older_0 : decode cL_older 0 = .ok (.aload_n 3, 1) := by decide +kernel
theorem dL_older_1 : decode cL_older 1 = .ok (.iconst 0, 1) := by decide +kernel
theorem dL_older_2 : decode cL_older 2 = .ok (.aload_n 0, 1) := by decide +kernel
theorem dL_older_3 : decode cL_older 3 = .ok (.iload_n 1, 1) := by decide +kernel
theorem dL_older_4 : decode cL_older 4 = .ok (.iload_n 2, 1) := by decide +kernel
theorem dL_older_5 : decode cL_older 5 = .ok (.invokevirtual 90, 3) := by decide +kernel
theorem dL_older_8 : decode cL_older 8 = .ok (.i2l, 1) := by decide +kernel
theorem dL_older_9 : decode cL_older 9 = .ok (.lastore, 1) := by decide +kernel
theorem dL_older_10 : decode cL_older 10 = .ok (.goto 7, 3) := by decide +kernel
theorem dL_older_13 : decode cL_older 13 = .ok (.astore 4, 2) := by decide +kernel
theorem dL_older_15 : decode cL_older 15 = .ok (.iconst 1, 1) := by decide +kernel
theorem dL_older_16 : decode cL_older 16 = .ok (.ireturn, 1) := by decide +kernel
theorem dL_older_17 : decode cL_older 17 = .ok (.iconst 0, 1) := by decide +kernel
theorem dL_older_18 : decode cL_older 18 = .ok (.ireturn, 1) := by decide +kernel
set_option maxRecDepth 20000 in
theorem ggL_decides_X9_decides : GoodIn wsL_decides wsX9_decides := goodIn_ca (goodIn_r _ [6, 7, 8, 9, 10, 5, 11, 12, 13, 14, 15, 16, 17, 18, 19, 20, 21, 22, 23, 24, 25, 26, 27, 28, 29, 30, 31, 32, 33, 34, 35, 36, 37, 38, 39, 40, 41, 42, 43, 44, 45, 46, 47, 48, 49, 50, 51, 52, 53, 54, 55, 56, 57, 58, 59, 60, 61, 62, 63, 64, 65, 66, 67, 68, 69, 70, 71, 72, 73, 74, 75, 76, 77, 78, 79, 80, 81, 82, 83, 84, 85, 86, 87, 88, 89, 90, 91, 92, 93, 94, 95, 96, 97, 98, 99, 100, 101, 102, 103, 104, 105, 106, 107, 108, 109, 110, 111, 112, 113, 114, 115, 116, 117, 118, 119, 120, 121, 122, 123, 124, 125, 126, 127, 128, 129, 130, 131, 132, 133, 134, 135, 136, 137, 138, 139, 140, 141, 142, 143, 144, 145, 146, 147, 148, 149, 150, 151, 152, 153, 154, 155, 156, 157, 158, 159, 160, 161, 162, 163, 164, 165, 166, 167, 168, 169, 170, 171, 172, 173] (by decide +kernel) (by decide +kernel)) (goodIn_sub (fun _ h => List.mem_cons_of_mem _ (List.mem_append_right _ h)) (by decide +kernel))
set_option maxRecDepth 20000 in
theorem gL_decides_X9_decides : GoodIn wsL_decides (wsV RL 93 RX9 yX9_decides wsX9_decides) := goodIn_app (goodIn_of _ (by decide +kernel)) ggL_decides_X9_decides
theorem dL_decides_0 : decode cL_decides 0 = .ok (.aload_n 2, 1) := by decide +kernel
theorem dL_decides_1 : decode cL_decides 1 = .ok (.iconst 0, 1) := by decide +kernel
theorem dL_decides_2 : decode cL_decides 2 = .ok (.aload_n 0, 1) := by decide +kernel
theorem dL_decides_3 : decode cL_decides 3 = .ok (.iload_n 1, 1) := by decide +kernel
theorem dL_decides_4 : decode cL_decides 4 = .ok (.invokevirtual 93, 3) := by decide +kernel
theorem dL_decides_7 : decode cL_decides 7 = .ok (.i2l, 1) := by decide +kernel
theorem dL_decides_8 : decode cL_decides 8 = .ok (.lastore, 1) := by decide +kernel
theorem dL_decides_9 : decode cL_decides 9 = .ok (.goto 6, 3) := by decide +kernel
theorem dL_decides_12 : decode cL_decides 12 = .ok (.astore_n 3, 1) := by decide +kernel
theorem dL_decides_13 : decode cL_decides 13 = .ok (.iconst 1, 1) := by decide +kernel
theorem dL_decides_14 : decode cL_decides 14 = .ok (.ireturn, 1) := by decide +kernel
theorem dL_decides_15 : decode cL_decides 15 = .ok (.iconst 0, 1) := by decide +kernel
theorem dL_decides_16 : decode cL_decides 16 = .ok (.ireturn, 1) := by decide +kernel
set_option maxRecDepth 20000 in
theorem ggL_ifCracked_X9_ifCracked : GoodIn wsL_ifCracked wsX9_ifCracked := goodIn_ca (goodIn_ca (goodIn_ca (goodIn_r _ [8, 9, 10, 11, 12, 13, 14, 7, 15, 16, 17, 18, 19, 20, 21, 22, 23, 24, 25, 26, 27, 28, 29, 30, 31, 32, 33, 34, 35, 36, 37, 38, 39, 40, 41, 42, 43, 44, 45, 46, 47, 48, 49, 50, 51, 52, 53, 54, 55, 56, 57, 58, 59, 60, 61, 62, 63, 64, 65, 66, 67, 68, 69, 70, 71, 72, 73, 74, 75, 76, 77, 78, 79, 80, 81, 82, 83, 84, 85, 86, 87, 88, 89, 90, 91, 92, 93, 94, 95, 96, 97, 98, 99, 100, 101, 102, 103, 104, 105, 106, 107, 108, 109, 110, 111, 112, 113, 114, 115, 116, 117, 118, 119, 120, 121, 122, 123, 124, 125, 126, 127, 128, 129, 130, 131, 132, 133, 134, 135, 136, 137, 138, 139, 140, 141, 142, 143, 144, 145, 146, 147, 148, 149, 150, 151, 152, 153, 154, 155, 156, 157, 158, 159, 160, 161, 162, 163, 164, 165, 166, 167, 168, 169, 170, 171, 172, 173, 174, 175, 176, 177, 178, 179, 180, 181, 182, 183, 184, 185, 186, 187, 188, 189, 190, 191, 192, 193, 194, 195, 196, 197, 198, 199, 200, 201, 202, 203, 204, 205, 206, 207, 208, 209, 210, 211, 212, 213, 214, 215, 216, 217, 218, 219, 220, 221, 222, 223, 224, 225, 226, 227, 228, 229, 230, 231, 232, 233, 234, 235, 236, 237, 238, 239, 240, 241, 242, 243, 244, 245, 246, 247, 248, 249, 250, 251, 252, 253, 254, 255] (by decide +kernel) (by decide +kernel)) (goodIn_sub (fun _ h => List.mem_cons_of_mem _ (List.mem_append_left _ (List.mem_append_left _ (List.mem_append_right _ h)))) (by decide +kernel))) (goodIn_sub (fun _ h => List.mem_cons_of_mem _ (List.mem_append_left _ (List.mem_append_right _ h))) (by decide +kernel))) (goodIn_sub (fun _ h => List.mem_cons_of_mem _ (List.mem_append_right _ h)) (by decide +kernel))
set_option maxRecDepth 20000 in
theorem gL_ifCracked_X9_ifCracked : GoodIn wsL_ifCracked (wsV RL 96 RX9 yX9_ifCracked wsX9_ifCracked) := goodIn_app (goodIn_of _ (by decide +kernel)) ggL_ifCracked_X9_ifCracked
theorem dL_ifCracked_0 : decode cL_ifCracked 0 = .ok (.aload_n 3, 1) := by decide +kernel
theorem dL_ifCracked_1 : decode cL_ifCracked 1 = .ok (.iconst 0, 1) := by decide +kernel
theorem dL_ifCracked_2 : decode cL_ifCracked 2 = .ok (.aload_n 0, 1) := by decide +kernel
theorem dL_ifCracked_3 : decode cL_ifCracked 3 = .ok (.iload_n 1, 1) := by decide +kernel
theorem dL_ifCracked_4 : decode cL_ifCracked 4 = .ok (.iload_n 2, 1) := by decide +kernel
theorem dL_ifCracked_5 : decode cL_ifCracked 5 = .ok (.invokevirtual 96, 3) := by decide +kernel
theorem dL_ifCracked_8 : decode cL_ifCracked 8 = .ok (.i2l, 1) := by decide +kernel
theorem dL_ifCracked_9 : decode cL_ifCracked 9 = .ok (.lastore, 1) := by decide +kernel
theorem dL_ifCracked_10 : decode cL_ifCracked 10 = .ok (.goto 15, 3) := by decide +kernel
theorem dL_ifCracked_13 : decode cL_ifCracked 13 = .ok (.astore 4, 2) := by decide +kernel
theorem dL_ifCracked_15 : decode cL_ifCracked 15 = .ok (.iconst 1, 1) := by decide +kernel
theorem dL_ifCracked_16 : decode cL_ifCracked 16 = .ok (.ireturn, 1) := by decide +kernel
theorem dL_ifCracked_17 : decode cL_ifCracked 17 = .ok (.astore 4, 2) := by decide +kernel
theorem dL_ifCracked_19 : decode cL_ifCracked 19 = .ok (.iconst 2, 1) := by decide +kernel
theorem dL_ifCracked_20 : decode cL_ifCracked 20 = .ok (.ireturn, 1) := by decide +kernel
theorem dL_ifCracked_21 : decode cL_ifCracked 21 = .ok (.astore 4, 2) := by decide +kernel
theorem dL_ifCracked_23 : decode cL_ifCracked 23 = .ok (.iconst 3, 1) := by decide +kernel
theorem dL_ifCracked_24 : decode cL_ifCracked 24 = .ok (.ireturn, 1) := by decide +kernel
theorem dL_ifCracked_25 : decode cL_ifCracked 25 = .ok (.iconst 0, 1) := by decide +kernel
theorem dL_ifCracked_26 : decode cL_ifCracked 26 = .ok (.ireturn, 1) := by decide +kernel
set_option maxRecDepth 20000 in
theorem ggL_ifHung_X9_ifHung : GoodIn wsL_ifHung wsX9_ifHung := goodIn_ca (goodIn_ca (goodIn_ca (goodIn_r _ [6, 7, 8, 9, 10, 11, 12, 13, 5, 14, 15, 16, 17, 18, 19, 20, 21, 22, 23, 24, 25, 26, 27, 28, 29, 30, 31, 32, 33, 34, 35, 36, 37, 38, 39, 40, 41, 42, 43, 44, 45, 46, 47, 48, 49, 50, 51, 52, 53, 54, 55, 56, 57, 58, 59, 60, 61, 62, 63, 64, 65, 66, 67, 68, 69, 70, 71, 72, 73, 74, 75, 76, 77, 78, 79, 80, 81, 82, 83, 84, 85, 86, 87, 88, 89, 90, 91, 92, 93, 94, 95, 96, 97, 98, 99, 100, 101, 102, 103, 104, 105, 106, 107, 108, 109, 110, 111, 112, 113, 114, 115, 116, 117, 118, 119, 120, 121, 122, 123, 124, 125, 126, 127, 128, 129, 130, 131, 132, 133, 134, 135, 136, 137, 138, 139, 140, 141, 142, 143, 144, 145, 146, 147, 148, 149, 150, 151, 152, 153, 154, 155, 156, 157, 158, 159, 160, 161, 162, 163, 164, 165, 166, 167, 168, 169, 170, 171, 172, 173, 174, 175, 176, 177, 178, 179, 180, 181, 182, 183, 184, 185, 186, 187, 188, 189, 190, 191, 192, 193, 194, 195, 196, 197, 198, 199, 200, 201, 202, 203, 204, 205, 206, 207, 208, 209, 210, 211, 212, 213, 214, 215, 216, 217, 218, 219, 220, 221, 222, 223, 224, 225, 226, 227, 228, 229, 230, 231, 232, 233, 234, 235, 236, 237, 238, 239, 240, 241, 242, 243, 244, 245, 246, 247, 248, 249, 250] (by decide +kernel) (by decide +kernel)) (goodIn_sub (fun _ h => List.mem_cons_of_mem _ (List.mem_append_left _ (List.mem_append_left _ (List.mem_append_right _ h)))) (by decide +kernel))) (goodIn_sub (fun _ h => List.mem_cons_of_mem _ (List.mem_append_left _ (List.mem_append_right _ h))) (by decide +kernel))) (goodIn_sub (fun _ h => List.mem_cons_of_mem _ (List.mem_append_right _ h)) (by decide +kernel))
set_option maxRecDepth 20000 in
theorem gL_ifHung_X9_ifHung : GoodIn wsL_ifHung (wsV RL 99 RX9 yX9_ifHung wsX9_ifHung) := goodIn_app (goodIn_of _ (by decide +kernel)) ggL_ifHung_X9_ifHung
theorem dL_ifHung_0 : decode cL_ifHung 0 = .ok (.aload_n 3, 1) := by decide +kernel
theorem dL_ifHung_1 : decode cL_ifHung 1 = .ok (.iconst 0, 1) := by decide +kernel
theorem dL_ifHung_2 : decode cL_ifHung 2 = .ok (.aload_n 0, 1) := by decide +kernel
theorem dL_ifHung_3 : decode cL_ifHung 3 = .ok (.iload_n 1, 1) := by decide +kernel
theorem dL_ifHung_4 : decode cL_ifHung 4 = .ok (.iload_n 2, 1) := by decide +kernel
theorem dL_ifHung_5 : decode cL_ifHung 5 = .ok (.invokevirtual 99, 3) := by decide +kernel
theorem dL_ifHung_8 : decode cL_ifHung 8 = .ok (.i2l, 1) := by decide +kernel
theorem dL_ifHung_9 : decode cL_ifHung 9 = .ok (.lastore, 1) := by decide +kernel
theorem dL_ifHung_10 : decode cL_ifHung 10 = .ok (.goto 7, 3) := by decide +kernel
theorem dL_ifHung_13 : decode cL_ifHung 13 = .ok (.astore 4, 2) := by decide +kernel
theorem dL_ifHung_15 : decode cL_ifHung 15 = .ok (.iconst 1, 1) := by decide +kernel
theorem dL_ifHung_16 : decode cL_ifHung 16 = .ok (.ireturn, 1) := by decide +kernel
theorem dL_ifHung_17 : decode cL_ifHung 17 = .ok (.iconst 0, 1) := by decide +kernel
theorem dL_ifHung_18 : decode cL_ifHung 18 = .ok (.ireturn, 1) := by decide +kernel
set_option maxRecDepth 20000 in
theorem ggL_inYear_X9_inYear : GoodIn wsL_inYear wsX9_inYear := goodIn_ca (goodIn_r _ [6, 7, 8, 9, 10, 5, 11, 12, 13, 14, 15, 16, 17, 18, 19, 20, 21, 22, 23, 24, 25, 26, 27, 28, 29, 30, 31, 32, 33, 34, 35, 36, 37, 38, 39, 40, 41, 42, 43, 44, 45, 46, 47, 48, 49, 50, 51, 52, 53, 54, 55, 56, 57, 58, 59, 60, 61, 62, 63, 64, 65, 66, 67, 68, 69, 70, 71, 72, 73, 74, 75, 76, 77, 78, 79, 80, 81, 82, 83, 84, 85, 86, 87, 88, 89, 90, 91, 92, 93, 94, 95, 96, 97, 98, 99, 100, 101, 102, 103, 104, 105, 106, 107, 108, 109, 110, 111, 112, 113, 114, 115, 116, 117, 118, 119, 120, 121, 122, 123, 124, 125, 126, 127, 128, 129, 130, 131, 132, 133, 134, 135, 136, 137, 138, 139, 140, 141, 142, 143, 144, 145, 146, 147, 148, 149, 150, 151, 152, 153, 154, 155, 156, 157, 158, 159, 160, 161, 162, 163, 164, 165, 166, 167, 168, 169, 170, 171, 172, 173, 174, 175, 176, 177] (by decide +kernel) (by decide +kernel)) (goodIn_sub (fun _ h => List.mem_cons_of_mem _ (List.mem_append_right _ h)) (by decide +kernel))
set_option maxRecDepth 20000 in
theorem gL_inYear_X9_inYear : GoodIn wsL_inYear (wsV RL 102 RX9 yX9_inYear wsX9_inYear) := goodIn_app (goodIn_of _ (by decide +kernel)) ggL_inYear_X9_inYear
theorem dL_inYear_0 : decode cL_inYear 0 = .ok (.aload_n 2, 1) := by decide +kernel
theorem dL_inYear_1 : decode cL_inYear 1 = .ok (.iconst 0, 1) := by decide +kernel
theorem dL_inYear_2 : decode cL_inYear 2 = .ok (.aload_n 0, 1) := by decide +kernel
theorem dL_inYear_3 : decode cL_inYear 3 = .ok (.iload_n 1, 1) := by decide +kernel
theorem dL_inYear_4 : decode cL_inYear 4 = .ok (.invokevirtual 102, 3) := by decide +kernel
theorem dL_inYear_7 : decode cL_inYear 7 = .ok (.i2l, 1) := by decide +kernel
theorem dL_inYear_8 : decode cL_inYear 8 = .ok (.lastore, 1) := by decide +kernel
theorem dL_inYear_9 : decode cL_inYear 9 = .ok (.goto 6, 3) := by decide +kernel
theorem dL_inYear_12 : decode cL_inYear 12 = .ok (.astore_n 3, 1) := by decide +kernel
theorem dL_inYear_13 : decode cL_inYear 13 = .ok (.iconst 1, 1) := by decide +kernel
theorem dL_inYear_14 : decode cL_inYear 14 = .ok (.ireturn, 1) := by decide +kernel
theorem dL_inYear_15 : decode cL_inYear 15 = .ok (.iconst 0, 1) := by decide +kernel
theorem dL_inYear_16 : decode cL_inYear 16 = .ok (.ireturn, 1) := by decide +kernel
set_option maxRecDepth 20000 in
theorem ggL_leastBubbles_X9_leastBubbles : GoodIn wsL_leastBubbles wsX9_leastBubbles := goodIn_ca (goodIn_r _ [6, 7, 8, 9, 10, 5, 11, 12, 13, 14, 15, 16, 17, 18, 19, 20, 21, 22, 23, 24, 25, 26, 27, 28, 29, 30, 31, 32, 33, 34, 35, 36, 37, 38, 39, 40, 41, 42, 43, 44, 45, 46, 47, 48, 49, 50, 51, 52, 53, 54, 55, 56, 57, 58, 59, 60, 61, 62, 63, 64, 65, 66, 67, 68, 69, 70, 71, 72, 73, 74, 75, 76, 77, 78, 79, 80, 81, 82, 83, 84, 85, 86, 87, 88, 89, 90, 91, 92, 93, 94, 95, 96, 97, 98, 99, 100, 101, 102, 103, 104, 105, 106, 107, 108, 109, 110, 111, 112, 113, 114, 115, 116, 117, 118, 119, 120, 121, 122, 123, 124, 125, 126, 127, 128, 129, 130, 131, 132, 133, 134, 135, 136, 137, 138, 139, 140, 141, 142, 143, 144, 145, 146, 147, 148, 149, 150, 151, 152, 153, 154, 155, 156, 157, 158, 159, 160, 161, 162, 163, 164, 165, 166, 167, 168, 169, 170, 171, 172, 173, 174, 175, 176, 177, 178, 179, 180, 181, 182, 183, 184, 185, 186, 187, 188, 189, 190, 191, 192, 193, 194, 195, 196, 197, 198, 199, 200, 201, 202, 203, 204, 205, 206, 207, 208, 209, 210, 211, 212, 213, 214, 215, 216, 217, 218, 219, 220, 221, 222, 223, 224, 225, 226, 227, 228, 229, 230, 231, 232, 233] (by decide +kernel) (by decide +kernel)) (goodIn_sub (fun _ h => List.mem_cons_of_mem _ (List.mem_append_right _ h)) (by decide +kernel))
set_option maxRecDepth 20000 in
theorem gL_leastBubbles_X9_leastBubbles : GoodIn wsL_leastBubbles (wsV RL 105 RX9 yX9_leastBubbles wsX9_leastBubbles) := goodIn_app (goodIn_of _ (by decide +kernel)) ggL_leastBubbles_X9_leastBubbles
theorem dL_leastBubbles_0 : decode cL_leastBubbles 0 = .ok (.aload_n 3, 1) := by decide +kernel
theorem dL_leastBubbles_1 : decode cL_leastBubbles 1 = .ok (.iconst 0, 1) := by decide +kernel
theorem dL_leastBubbles_2 : decode cL_leastBubbles 2 = .ok (.aload_n 0, 1) := by decide +kernel
theorem dL_leastBubbles_3 : decode cL_leastBubbles 3 = .ok (.iload_n 1, 1) := by decide +kernel
theorem dL_leastBubbles_4 : decode cL_leastBubbles 4 = .ok (.iload_n 2, 1) := by decide +kernel
theorem dL_leastBubbles_5 : decode cL_leastBubbles 5 = .ok (.invokevirtual 105, 3) := by decide +kernel
theorem dL_leastBubbles_8 : decode cL_leastBubbles 8 = .ok (.i2l, 1) := by decide +kernel
theorem dL_leastBubbles_9 : decode cL_leastBubbles 9 = .ok (.lastore, 1) := by decide +kernel
theorem dL_leastBubbles_10 : decode cL_leastBubbles 10 = .ok (.goto 7, 3) := by decide +kernel
theorem dL_leastBubbles_13 : decode cL_leastBubbles 13 = .ok (.astore 4, 2) := by decide +kernel
theorem dL_leastBubbles_15 : decode cL_leastBubbles 15 = .ok (.iconst 1, 1) := by decide +kernel
theorem dL_leastBubbles_16 : decode cL_leastBubbles 16 = .ok (.ireturn, 1) := by decide +kernel
theorem dL_leastBubbles_17 : decode cL_leastBubbles 17 = .ok (.iconst 0, 1) := by decide +kernel
theorem dL_leastBubbles_18 : decode cL_leastBubbles 18 = .ok (.ireturn, 1) := by decide +kernel
set_option maxRecDepth 20000 in
theorem ggL_runScript_X9_runScript : GoodIn wsL_runScript wsX9_runScript := goodIn_ca (goodIn_r _ [6, 7, 8, 9, 5, 10, 11, 12, 13, 14, 15, 16, 17, 18, 19, 20, 21, 22, 23, 24, 25, 26, 27, 28, 29, 30, 31, 32, 33, 34, 35, 36, 37, 38, 39, 40, 41, 42, 43, 44, 45, 46, 47, 48, 49, 50, 51, 52, 53, 54, 55, 56, 57, 58, 59, 60, 61, 62, 63, 64, 65, 66, 67, 68, 69, 70, 71, 72, 73, 74, 75, 76, 77, 78, 79, 80, 81, 82, 83, 84, 85, 86, 87, 88, 89, 90, 91, 92, 93, 94, 95, 96, 97, 98, 99, 100, 101, 102, 103, 104, 105, 106, 107, 108, 109, 110, 111, 112, 113, 114, 115, 116, 117, 118, 119, 120, 121, 122, 123, 124, 125, 126, 127, 128, 129, 130, 131, 132, 133, 134, 135, 136, 137, 138, 139, 140, 141, 142, 143, 144, 145, 146, 147, 148, 149, 150, 151, 152, 153, 154, 155, 156, 157, 158, 159, 160, 161, 162, 163, 164, 165, 166, 167, 168, 169, 170, 171, 172, 173, 174, 175, 176, 177, 178, 179, 180, 181, 182, 183, 184, 185, 186, 187, 188, 189, 190, 191, 192, 193, 194, 195, 196, 197, 198, 199, 200, 201, 202, 203, 204, 205, 206, 207, 208, 209, 210, 211, 212, 213, 214, 215, 216, 217, 218, 219, 220, 221, 222, 223, 224, 225, 226, 227, 228, 229, 230, 231, 232, 233, 234, 235, 236, 237, 238, 239, 240, 241, 242, 243, 244, 245, 246, 247, 248, 249, 250, 251, 252, 253, 254, 255, 256, 257, 258, 259, 260, 261, 262, 263, 264, 265, 266, 267, 268, 269, 270, 271, 272, 273, 274, 275, 276, 277, 278, 279, 280, 281, 282, 283, 284, 285, 286, 287, 288, 289, 290, 291, 292, 293, 294, 295, 296, 297, 298, 299, 300, 301, 302, 303, 304, 305, 306, 307, 308, 309, 310, 311, 312, 313, 314, 315, 316, 317, 318, 319, 320, 321, 322, 323, 324, 325, 326, 327, 328, 329, 330, 331, 332, 333, 334, 335, 336, 337, 338, 339, 340, 341, 342, 343, 344, 345, 346, 347, 348, 349, 350, 351, 352, 353, 354, 355] (by decide +kernel) (by decide +kernel)) (goodIn_sub (fun _ h => List.mem_cons_of_mem _ (List.mem_append_right _ h)) (by decide +kernel))
set_option maxRecDepth 20000 in
theorem gL_runScript_X9_runScript : GoodIn wsL_runScript (wsV RL 108 RX9 yX9_runScript wsX9_runScript) := goodIn_app (goodIn_of _ (by decide +kernel)) ggL_runScript_X9_runScript
theorem dL_runScript_0 : decode cL_runScript 0 = .ok (.aload 4, 2) := by decide +kernel
theorem dL_runScript_2 : decode cL_runScript 2 = .ok (.iconst 0, 1) := by decide +kernel
theorem dL_runScript_3 : decode cL_runScript 3 = .ok (.aload_n 0, 1) := by decide +kernel
theorem dL_runScript_4 : decode cL_runScript 4 = .ok (.iload_n 1, 1) := by decide +kernel
theorem dL_runScript_5 : decode cL_runScript 5 = .ok (.lload_n 2, 1) := by decide +kernel
theorem dL_runScript_6 : decode cL_runScript 6 = .ok (.invokevirtual 108, 3) := by decide +kernel
theorem dL_runScript_9 : decode cL_runScript 9 = .ok (.i2l, 1) := by decide +kernel
theorem dL_runScript_10 : decode cL_runScript 10 = .ok (.lastore, 1) := by decide +kernel
theorem dL_runScript_11 : decode cL_runScript 11 = .ok (.goto 7, 3) := by decide +kernel
theorem dL_runScript_14 : decode cL_runScript 14 = .ok (.astore 5, 2) := by decide +kernel
theorem dL_runScript_16 : decode cL_runScript 16 = .ok (.iconst 1, 1) := by decide +kernel
theorem dL_runScript_17 : decode cL_runScript 17 = .ok (.ireturn, 1) := by decide +kernel
theorem dL_runScript_18 : decode cL_runScript 18 = .ok (.iconst 0, 1) := by decide +kernel
theorem dL_runScript_19 : decode cL_runScript 19 = .ok (.ireturn, 1) := by decide +kernel
set_option maxRecDepth 20000 in
theorem ggL_simulate_X9_simulate : GoodIn wsL_simulate wsX9_simulate := goodIn_ca (goodIn_r _ [6, 7, 8, 9, 10, 11, 12, 13, 14, 5, 15, 16, 17, 18, 19, 20, 21, 22, 23, 24, 25, 26, 27, 28, 29, 30, 31, 32, 33, 34, 35, 36, 37, 38, 39, 40, 41, 42, 43, 44, 45, 46, 47, 48, 49, 50, 51, 52, 53, 54, 55, 56, 57, 58, 59, 60, 61, 62, 63, 64, 65, 66, 67, 68, 69, 70, 71, 72, 73, 74, 75, 76, 77, 78, 79, 80, 81, 82, 83, 84, 85, 86, 87, 88, 89, 90, 91, 92, 93, 94, 95, 96, 97, 98, 99, 100, 101, 102, 103, 104, 105, 106, 107, 108, 109, 110, 111, 112, 113, 114, 115, 116, 117, 118, 119, 120, 121, 122, 123, 124, 125, 126, 127, 128, 129, 130, 131, 132, 133, 134, 135, 136, 137, 138, 139, 140, 141, 142, 143, 144, 145, 146, 147, 148, 149, 150, 151, 152, 153, 154, 155, 156, 157, 158, 159, 160, 161, 162, 163, 164, 165, 166, 167, 168, 169, 170, 171, 172, 173, 174, 175, 176, 177, 178, 179, 180, 181, 182, 183, 184, 185, 186, 187, 188, 189, 190, 191, 192, 193, 194, 195, 196, 197, 198, 199, 200, 201, 202, 203, 204, 205, 206, 207, 208, 209, 210, 211, 212, 213, 214, 215, 216, 217, 218, 219, 220, 221, 222, 223, 224, 225, 226, 227, 228, 229, 230, 231, 232, 233, 234, 235, 236, 237, 238, 239, 240, 241, 242, 243, 244, 245, 246, 247, 248, 249, 250, 251, 252, 253, 254, 255, 256, 257, 258, 259, 260, 261, 262, 263, 264, 265, 266, 267, 268, 269, 270, 271, 272, 273, 274, 275, 276, 277, 278, 279, 280, 281, 282, 283, 284, 285, 286, 287, 288, 289, 290, 291, 292, 293, 294, 295, 296, 297, 298, 299, 300, 301, 302, 303, 304, 305, 306, 307, 308, 309, 310, 311, 312, 313, 314, 315, 316, 317, 318, 319, 320, 321, 322, 323, 324, 325, 326, 327, 328, 329, 330, 331, 332, 333, 334, 335, 336, 337, 338, 339, 340, 341, 342, 343, 344, 345, 346, 347, 348, 349, 350, 351, 352, 353, 354, 355, 356, 357, 358] (by decide +kernel) (by decide +kernel)) (goodIn_sub (fun _ h => List.mem_cons_of_mem _ (List.mem_append_right _ h)) (by decide +kernel))
set_option maxRecDepth 20000 in
theorem gL_simulate_X9_simulate : GoodIn wsL_simulate (wsV RL 112 RX9 yX9_simulate wsX9_simulate) := goodIn_app (goodIn_of _ (by decide +kernel)) ggL_simulate_X9_simulate
theorem dL_simulate_0 : decode cL_simulate 0 = .ok (.aload 4, 2) := by decide +kernel
theorem dL_simulate_2 : decode cL_simulate 2 = .ok (.iconst 0, 1) := by decide +kernel
theorem dL_simulate_3 : decode cL_simulate 3 = .ok (.aload_n 0, 1) := by decide +kernel
theorem dL_simulate_4 : decode cL_simulate 4 = .ok (.lload_n 1, 1) := by decide +kernel
theorem dL_simulate_5 : decode cL_simulate 5 = .ok (.iload_n 3, 1) := by decide +kernel
theorem dL_simulate_6 : decode cL_simulate 6 = .ok (.invokevirtual 112, 3) := by decide +kernel
theorem dL_simulate_9 : decode cL_simulate 9 = .ok (.i2l, 1) := by decide +kernel
theorem dL_simulate_10 : decode cL_simulate 10 = .ok (.lastore, 1) := by decide +kernel
theorem dL_simulate_11 : decode cL_simulate 11 = .ok (.goto 7, 3) := by decide +kernel
theorem dL_simulate_14 : decode cL_simulate 14 = .ok (.astore 5, 2) := by decide +kernel
theorem dL_simulate_16 : decode cL_simulate 16 = .ok (.iconst 1, 1) := by decide +kernel
theorem dL_simulate_17 : decode cL_simulate 17 = .ok (.ireturn, 1) := by decide +kernel
theorem dL_simulate_18 : decode cL_simulate 18 = .ok (.iconst 0, 1) := by decide +kernel
theorem dL_simulate_19 : decode cL_simulate 19 = .ok (.ireturn, 1) := by decide +kernel
set_option maxRecDepth 20000 in
theorem ggL_save_X9_save : GoodIn wsL_save wsX9_save := goodIn_ca (goodIn_r _ [6, 7, 8, 9, 10, 11, 12, 13, 5, 14, 15, 16, 17, 18, 19, 20, 21, 22, 23, 24, 25, 26, 27, 28, 29, 30, 31, 32, 33, 34, 35, 36, 37, 38, 39, 40, 41, 42, 43, 44, 45, 46, 47, 48, 49, 50, 51, 52, 53, 54, 55, 56, 57, 58, 59, 60, 61, 62, 63, 64, 65, 66, 67, 68, 69, 70, 71, 72, 73, 74, 75, 76, 77, 78, 79, 80, 81, 82, 83, 84, 85, 86, 87, 88, 89, 90, 91, 92, 93, 94, 95, 96, 97, 98, 99, 100, 101, 102, 103, 104, 105] (by decide +kernel) (by decide +kernel)) (goodIn_sub (fun _ h => List.mem_cons_of_mem _ (List.mem_append_right _ h)) (by decide +kernel))
set_option maxRecDepth 20000 in
theorem gL_save_X9_save : GoodIn wsL_save (wsV RL 116 RX9 yX9_save wsX9_save) := goodIn_app (goodIn_of _ (by decide +kernel)) ggL_save_X9_save
theorem dL_save_0 : decode cL_save 0 = .ok (.aload_n 2, 1) := by decide +kernel
theorem dL_save_1 : decode cL_save 1 = .ok (.iconst 0, 1) := by decide +kernel
theorem dL_save_2 : decode cL_save 2 = .ok (.aload_n 0, 1) := by decide +kernel
theorem dL_save_3 : decode cL_save 3 = .ok (.iload_n 1, 1) := by decide +kernel
theorem dL_save_4 : decode cL_save 4 = .ok (.invokevirtual 116, 3) := by decide +kernel
theorem dL_save_7 : decode cL_save 7 = .ok (.i2l, 1) := by decide +kernel
theorem dL_save_8 : decode cL_save 8 = .ok (.lastore, 1) := by decide +kernel
theorem dL_save_9 : decode cL_save 9 = .ok (.goto 6, 3) := by decide +kernel
theorem dL_save_12 : decode cL_save 12 = .ok (.astore_n 3, 1) := by decide +kernel
theorem dL_save_13 : decode cL_save 13 = .ok (.iconst 1, 1) := by decide +kernel
theorem dL_save_14 : decode cL_save 14 = .ok (.ireturn, 1) := by decide +kernel
theorem dL_save_15 : decode cL_save 15 = .ok (.iconst 0, 1) := by decide +kernel
theorem dL_save_16 : decode cL_save 16 = .ok (.ireturn, 1) := by decide +kernel
set_option maxRecDepth 20000 in
theorem ggL_restore_X9_restore : GoodIn wsL_restore wsX9_restore := goodIn_ca (goodIn_ca (goodIn_r _ [7, 8, 9, 10, 11, 12, 13, 14, 15, 6, 16, 17, 18, 19, 20, 21, 22, 23, 24, 25, 26, 27, 28, 29, 30, 31, 32, 33, 34, 35, 36, 37, 38, 39, 40, 41, 42, 43, 44, 45, 46, 47, 48, 49, 50, 51, 52, 53, 54, 55, 56, 57, 58, 59, 60, 61, 62, 63, 64, 65, 66, 67, 68, 69, 70, 71, 72, 73, 74, 75, 76, 77, 78, 79, 80, 81, 82, 83, 84, 85, 86, 87, 88, 89, 90, 91, 92, 93, 94, 95, 96, 97, 98, 99, 100, 101, 102, 103, 104, 105, 106, 107, 108, 109, 110, 111, 112, 113, 114, 115, 116, 117, 118, 119, 120, 121] (by decide +kernel) (by decide +kernel)) (goodIn_sub (fun _ h => List.mem_cons_of_mem _ (List.mem_append_left _ (List.mem_append_right _ h))) (by decide +kernel))) (goodIn_sub (fun _ h => List.mem_cons_of_mem _ (List.mem_append_right _ h)) (by decide +kernel))
set_option maxRecDepth 20000 in
theorem gL_restore_X9_restore : GoodIn wsL_restore (wsV RL 119 RX9 yX9_restore wsX9_restore) := goodIn_app (goodIn_of _ (by decide +kernel)) ggL_restore_X9_restore
theorem dL_restore_0 : decode cL_restore 0 = .ok (.aload_n 2, 1) := by decide +kernel
theorem dL_restore_1 : decode cL_restore 1 = .ok (.iconst 0, 1) := by decide +kernel
theorem dL_restore_2 : decode cL_restore 2 = .ok (.aload_n 0, 1) := by decide +kernel
theorem dL_restore_3 : decode cL_restore 3 = .ok (.iload_n 1, 1) := by decide +kernel
theorem dL_restore_4 : decode cL_restore 4 = .ok (.invokevirtual 119, 3) := by decide +kernel
theorem dL_restore_7 : decode cL_restore 7 = .ok (.i2l, 1) := by decide +kernel
theorem dL_restore_8 : decode cL_restore 8 = .ok (.lastore, 1) := by decide +kernel
theorem dL_restore_9 : decode cL_restore 9 = .ok (.goto 9, 3) := by decide +kernel
theorem dL_restore_12 : decode cL_restore 12 = .ok (.astore_n 3, 1) := by decide +kernel
theorem dL_restore_13 : decode cL_restore 13 = .ok (.iconst 1, 1) := by decide +kernel
theorem dL_restore_14 : decode cL_restore 14 = .ok (.ireturn, 1) := by decide +kernel
theorem dL_restore_15 : decode cL_restore 15 = .ok (.astore_n 3, 1) := by decide +kernel
theorem dL_restore_16 : decode cL_restore 16 = .ok (.iconst 2, 1) := by decide +kernel
theorem dL_restore_17 : decode cL_restore 17 = .ok (.ireturn, 1) := by decide +kernel
theorem dL_restore_18 : decode cL_restore 18 = .ok (.iconst 0, 1) := by decide +kernel
theorem dL_restore_19 : decode cL_restore 19 = .ok (.ireturn, 1) := by decide +kernel
