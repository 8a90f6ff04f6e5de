theorem dJx00060_init_a7421_0 : decode cJx00060_init_a7421 0 = .ok (.aload_n 0, 1) := by decide +kernel
theorem dJx00060_init_a7421_1 : decode cJx00060_init_a7421 1 = .ok (.aload_n 1, 1) := by decide +kernel
theorem dJx00060_init_a7421_2 : decode cJx00060_init_a7421 2 = .ok (.invokespecial 7, 3) := by decide +kernel
theorem dJx00060_init_a7421_5 : decode cJx00060_init_a7421 5 = .ok (.return_, 1) := by decide +kernel
theorem dJ9_max_7cf53_0 : decode cJ9_max_7cf53 0 = .ok (.iload_n 0, 1) := by decide +kernel
theorem dJ9_max_7cf53_1 : decode cJ9_max_7cf53 1 = .ok (.iload_n 1, 1) := by decide +kernel
theorem dJ9_max_7cf53_2 : decode cJ9_max_7cf53 2 = .ok (.if_icmp .lt 7, 3) := by decide +kernel
theorem dJ9_max_7cf53_5 : decode cJ9_max_7cf53 5 = .ok (.iload_n 0, 1) := by decide +kernel
theorem dJ9_max_7cf53_6 : decode cJ9_max_7cf53 6 = .ok (.goto 4, 3) := by decide +kernel
theorem dJ9_max_7cf53_9 : decode cJ9_max_7cf53 9 = .ok (.iload_n 1, 1) := by decide +kernel
theorem dJ9_max_7cf53_10 : decode cJ9_max_7cf53 10 = .ok (.ireturn, 1) := by decide +kernel
theorem dJ9_min_7cf53_0 : decode cJ9_min_7cf53 0 = .ok (.iload_n 0, 1) := by decide +kernel
theorem dJ9_min_7cf53_1 : decode cJ9_min_7cf53 1 = .ok (.iload_n 1, 1) := by decide +kernel
theorem dJ9_min_7cf53_2 : decode cJ9_min_7cf53 2 = .ok (.if_icmp .gt 7, 3) := by decide +kernel
theorem dJ9_min_7cf53_5 : decode cJ9_min_7cf53 5 = .ok (.iload_n 0, 1) := by decide +kernel
theorem dJ9_min_7cf53_6 : decode cJ9_min_7cf53 6 = .ok (.goto 4, 3) := by decide +kernel
theorem dJ9_min_7cf53_9 : decode cJ9_min_7cf53 9 = .ok (.iload_n 1, 1) := by decide +kernel
theorem dJ9_min_7cf53_10 : decode cJ9_min_7cf53 10 = .ok (.ireturn, 1) := by decide +kernel
set_option maxRecDepth 20000 in
theorem ggL_type_X5_type : GoodIn wsL_type wsX5_type := goodIn_ca (goodIn_ca (goodIn_ca (goodIn_ca (goodIn_r _ [8, 9, 10, 11, 7, 12, 13, 14, 15, 16, 17, 18, 19, 20, 21, 22, 23, 24, 25, 26, 27, 28, 29, 30, 31, 32, 33, 34, 35, 36, 37, 38, 39, 40, 41, 42, 43] (by decide +kernel) (by decide +kernel)) (goodIn_sub (fun _ h => List.mem_cons_of_mem _ (List.mem_append_left _ (List.mem_append_left _ (List.mem_append_right _ h)))) (by decide +kernel))) (goodIn_sub (fun _ h => List.mem_cons_of_mem _ (List.mem_append_left _ (List.mem_append_right _ h))) (by decide +kernel))) (goodIn_sub (fun _ h => List.mem_cons_of_mem _ (List.mem_append_right _ h)) (by decide +kernel))) (goodIn_sub (fun _ h => List.mem_cons_of_mem _ (List.mem_append_left _ (List.mem_append_left _ (List.mem_append_left _ (List.mem_append_right _ h))))) (by decide +kernel))
set_option maxRecDepth 20000 in
theorem gL_type_X5_type : GoodIn wsL_type (wsV RL 7 RX5 yX5_type wsX5_type) := goodIn_app (goodIn_of _ (by decide +kernel)) ggL_type_X5_type
theorem dL_type_0 : decode cL_type 0 = .ok (.aload_n 3, 1) := by decide +kernel
theorem dL_type_1 : decode cL_type 1 = .ok (.iconst 0, 1) := by decide +kernel
theorem dL_type_2 : decode cL_type 2 = .ok (.aload_n 0, 1) := by decide +kernel
theorem dL_type_3 : decode cL_type 3 = .ok (.iload_n 1, 1) := by decide +kernel
theorem dL_type_4 : decode cL_type 4 = .ok (.iload_n 2, 1) := by decide +kernel
theorem dL_type_5 : decode cL_type 5 = .ok (.invokevirtual 7, 3) := by decide +kernel
theorem dL_type_8 : decode cL_type 8 = .ok (.i2l, 1) := by decide +kernel
theorem dL_type_9 : decode cL_type 9 = .ok (.lastore, 1) := by decide +kernel
theorem dL_type_10 : decode cL_type 10 = .ok (.goto 15, 3) := by decide +kernel
theorem dL_type_13 : decode cL_type 13 = .ok (.astore 4, 2) := by decide +kernel
theorem dL_type_15 : decode cL_type 15 = .ok (.iconst 1, 1) := by decide +kernel
theorem dL_type_16 : decode cL_type 16 = .ok (.ireturn, 1) := by decide +kernel
theorem dL_type_17 : decode cL_type 17 = .ok (.astore 4, 2) := by decide +kernel
theorem dL_type_19 : decode cL_type 19 = .ok (.iconst 2, 1) := by decide +kernel
theorem dL_type_20 : decode cL_type 20 = .ok (.ireturn, 1) := by decide +kernel
theorem dL_type_21 : decode cL_type 21 = .ok (.astore 4, 2) := by decide +kernel
theorem dL_type_23 : decode cL_type 23 = .ok (.iconst 3, 1) := by decide +kernel
theorem dL_type_24 : decode cL_type 24 = .ok (.ireturn, 1) := by decide +kernel
theorem dL_type_25 : decode cL_type 25 = .ok (.iconst 0, 1) := by decide +kernel
theorem dL_type_26 : decode cL_type 26 = .ok (.ireturn, 1) := by decide +kernel
set_option maxRecDepth 20000 in
theorem ggL_typeMore_X5_typeMore : GoodIn wsL_typeMore wsX5_typeMore := goodIn_ca (goodIn_ca (goodIn_ca (goodIn_ca (goodIn_r _ [8, 9, 10, 11, 12, 13, 14, 7, 15, 16, 17, 18, 19, 20, 21, 22, 23, 24, 25, 26, 27, 28, 29, 30, 31, 32, 33, 34, 35, 36, 37, 38, 39, 40, 41, 42, 43, 44, 45, 46, 47, 48, 49, 50, 51, 52, 53, 54, 55, 56, 57, 58] (by decide +kernel) (by decide +kernel)) (goodIn_sub (fun _ h => List.mem_cons_of_mem _ (List.mem_append_left _ (List.mem_append_left _ (List.mem_append_right _ h)))) (by decide +kernel))) (goodIn_sub (fun _ h => List.mem_cons_of_mem _ (List.mem_append_left _ (List.mem_append_right _ h))) (by decide +kernel))) (goodIn_sub (fun _ h => List.mem_cons_of_mem _ (List.mem_append_left _ (List.mem_append_left _ (List.mem_append_left _ (List.mem_append_right _ h))))) (by decide +kernel))) (goodIn_sub (fun _ h => List.mem_cons_of_mem _ (List.mem_append_right _ h)) (by decide +kernel))
set_option maxRecDepth 20000 in
theorem gL_typeMore_X5_typeMore : GoodIn wsL_typeMore (wsV RL 19 RX5 yX5_typeMore wsX5_typeMore) := goodIn_app (goodIn_of _ (by decide +kernel)) ggL_typeMore_X5_typeMore
theorem dL_typeMore_0 : decode cL_typeMore 0 = .ok (.aload 9, 2) := by decide +kernel
theorem dL_typeMore_2 : decode cL_typeMore 2 = .ok (.iconst 0, 1) := by decide +kernel
theorem dL_typeMore_3 : decode cL_typeMore 3 = .ok (.aload_n 0, 1) := by decide +kernel
theorem dL_typeMore_4 : decode cL_typeMore 4 = .ok (.iload_n 1, 1) := by decide +kernel
theorem dL_typeMore_5 : decode cL_typeMore 5 = .ok (.iload_n 2, 1) := by decide +kernel
theorem dL_typeMore_6 : decode cL_typeMore 6 = .ok (.iload_n 3, 1) := by decide +kernel
theorem dL_typeMore_7 : decode cL_typeMore 7 = .ok (.iload 4, 2) := by decide +kernel
theorem dL_typeMore_9 : decode cL_typeMore 9 = .ok (.iload 5, 2) := by decide +kernel
theorem dL_typeMore_11 : decode cL_typeMore 11 = .ok (.iload 6, 2) := by decide +kernel
theorem dL_typeMore_13 : decode cL_typeMore 13 = .ok (.iload 7, 2) := by decide +kernel
theorem dL_typeMore_15 : decode cL_typeMore 15 = .ok (.iload 8, 2) := by decide +kernel
theorem dL_typeMore_17 : decode cL_typeMore 17 = .ok (.invokevirtual 19, 3) := by decide +kernel
theorem dL_typeMore_20 : decode cL_typeMore 20 = .ok (.i2l, 1) := by decide +kernel
theorem dL_typeMore_21 : decode cL_typeMore 21 = .ok (.lastore, 1) := by decide +kernel
theorem dL_typeMore_22 : decode cL_typeMore 22 = .ok (.goto 15, 3) := by decide +kernel
theorem dL_typeMore_25 : decode cL_typeMore 25 = .ok (.astore 10, 2) := by decide +kernel
theorem dL_typeMore_27 : decode cL_typeMore 27 = .ok (.iconst 1, 1) := by decide +kernel
theorem dL_typeMore_28 : decode cL_typeMore 28 = .ok (.ireturn, 1) := by decide +kernel
theorem dL_typeMore_29 : decode cL_typeMore 29 = .ok (.astore 10, 2) := by decide +kernel
theorem dL_typeMore_31 : decode cL_typeMore 31 = .ok (.iconst 2, 1) := by decide +kernel
theorem dL_typeMore_32 : decode cL_typeMore 32 = .ok (.ireturn, 1) := by decide +kernel
theorem dL_typeMore_33 : decode cL_typeMore 33 = .ok (.astore 10, 2) := by decide +kernel
theorem dL_typeMore_35 : decode cL_typeMore 35 = .ok (.iconst 3, 1) := by decide +kernel
theorem dL_typeMore_36 : decode cL_typeMore 36 = .ok (.ireturn, 1) := by decide +kernel
theorem dL_typeMore_37 : decode cL_typeMore 37 = .ok (.iconst 0, 1) := by decide +kernel
theorem dL_typeMore_38 : decode cL_typeMore 38 = .ok (.ireturn, 1) := by decide +kernel
set_option maxRecDepth 20000 in
theorem ggL_erase_X5_erase : GoodIn wsL_erase wsX5_erase := goodIn_ca (goodIn_r _ [6, 7, 8, 9, 5, 10, 11, 12, 13, 14, 15, 16, 17, 18, 19, 20, 21, 22, 23, 24, 25, 26, 27, 28, 29] (by decide +kernel) (by decide +kernel)) (goodIn_sub (fun _ h => List.mem_cons_of_mem _ (List.mem_append_right _ h)) (by decide +kernel))
set_option maxRecDepth 20000 in
theorem gL_erase_X5_erase : GoodIn wsL_erase (wsV RL 23 RX5 yX5_erase wsX5_erase) := goodIn_app (goodIn_of _ (by decide +kernel)) ggL_erase_X5_erase
theorem dL_erase_0 : decode cL_erase 0 = .ok (.aload_n 2, 1) := by decide +kernel
theorem dL_erase_1 : decode cL_erase 1 = .ok (.iconst 0, 1) := by decide +kernel
theorem dL_erase_2 : decode cL_erase 2 = .ok (.aload_n 0, 1) := by decide +kernel
theorem dL_erase_3 : decode cL_erase 3 = .ok (.iload_n 1, 1) := by decide +kernel
theorem dL_erase_4 : decode cL_erase 4 = .ok (.invokevirtual 23, 3) := by decide +kernel
theorem dL_erase_7 : decode cL_erase 7 = .ok (.i2l, 1) := by decide +kernel
theorem dL_erase_8 : decode cL_erase 8 = .ok (.lastore, 1) := by decide +kernel
theorem dL_erase_9 : decode cL_erase 9 = .ok (.goto 6, 3) := by decide +kernel
theorem dL_erase_12 : decode cL_erase 12 = .ok (.astore_n 3, 1) := by decide +kernel
theorem dL_erase_13 : decode cL_erase 13 = .ok (.iconst 1, 1) := by decide +kernel
theorem dL_erase_14 : decode cL_erase 14 = .ok (.ireturn, 1) := by decide +kernel
theorem dL_erase_15 : decode cL_erase 15 = .ok (.iconst 0, 1) := by decide +kernel
theorem dL_erase_16 : decode cL_erase 16 = .ok (.ireturn, 1) := by decide +kernel
set_option maxRecDepth 20000 in
theorem ggL_length_X5_length : GoodIn wsL_length wsX5_length := goodIn_ca (goodIn_r _ [6, 7, 8, 9, 5, 10, 11, 12, 13, 14, 15, 16, 17, 18, 19, 20, 21, 22, 23, 24, 25] (by decide +kernel) (by decide +kernel)) (goodIn_sub (fun _ h => List.mem_cons_of_mem _ (List.mem_append_right _ h)) (by decide +kernel))
set_option maxRecDepth 20000 in
theorem gL_length_X5_length : GoodIn wsL_length (wsV RL 27 RX5 yX5_length wsX5_length) := goodIn_app (goodIn_of _ (by decide +kernel)) ggL_length_X5_length
theorem dL_length_0 : decode cL_length 0 = .ok (.aload_n 2, 1) := by decide +kernel
theorem dL_length_1 : decode cL_length 1 = .ok (.iconst 0, 1) := by decide +kernel
theorem dL_length_2 : decode cL_length 2 = .ok (.aload_n 0, 1) := by decide +kernel
theorem dL_length_3 : decode cL_length 3 = .ok (.iload_n 1, 1) := by decide +kernel
theorem dL_length_4 : decode cL_length 4 = .ok (.invokevirtual 27, 3) := by decide +kernel
theorem dL_length_7 : decode cL_length 7 = .ok (.i2l, 1) := by decide +kernel
theorem dL_length_8 : decode cL_length 8 = .ok (.lastore, 1) := by decide +kernel
theorem dL_length_9 : decode cL_length 9 = .ok (.goto 6, 3) := by decide +kernel
theorem dL_length_12 : decode cL_length 12 = .ok (.astore_n 3, 1) := by decide +kernel
theorem dL_length_13 : decode cL_length 13 = .ok (.iconst 1, 1) := by decide +kernel
theorem dL_length_14 : decode cL_length 14 = .ok (.ireturn, 1) := by decide +kernel
theorem dL_length_15 : decode cL_length 15 = .ok (.iconst 0, 1) := by decide +kernel
theorem dL_length_16 : decode cL_length 16 = .ok (.ireturn, 1) := by decide +kernel
set_option maxRecDepth 20000 in
theorem ggL_signAt_X5_signAt : GoodIn wsL_signAt wsX5_signAt := goodIn_ca (goodIn_ca (goodIn_r _ [6, 7, 8, 9, 5, 10, 11, 12, 13, 14, 15, 16, 17, 18, 19, 20, 21, 22, 23, 24, 25, 26, 27, 28, 29, 30, 31, 32, 33] (by decide +kernel) (by decide +kernel)) (goodIn_sub (fun _ h => List.mem_cons_of_mem _ (List.mem_append_right _ h)) (by decide +kernel))) (goodIn_sub (fun _ h => List.mem_cons_of_mem _ (List.mem_append_left _ (List.mem_append_right _ h))) (by decide +kernel))
set_option maxRecDepth 20000 in
theorem gL_signAt_X5_signAt : GoodIn wsL_signAt (wsV RL 30 RX5 yX5_signAt wsX5_signAt) := goodIn_app (goodIn_of _ (by decide +kernel)) ggL_signAt_X5_signAt
theorem dL_signAt_0 : decode cL_signAt 0 = .ok (.aload_n 3, 1) := by decide +kernel
theorem dL_signAt_1 : decode cL_signAt 1 = .ok (.iconst 0, 1) := by decide +kernel
theorem dL_signAt_2 : decode cL_signAt 2 = .ok (.aload_n 0, 1) := by decide +kernel
theorem dL_signAt_3 : decode cL_signAt 3 = .ok (.iload_n 1, 1) := by decide +kernel
theorem dL_signAt_4 : decode cL_signAt 4 = .ok (.iload_n 2, 1) := by decide +kernel
theorem dL_signAt_5 : decode cL_signAt 5 = .ok (.invokevirtual 30, 3) := by decide +kernel
theorem dL_signAt_8 : decode cL_signAt 8 = .ok (.i2l, 1) := by decide +kernel
theorem dL_signAt_9 : decode cL_signAt 9 = .ok (.lastore, 1) := by decide +kernel
theorem dL_signAt_10 : decode cL_signAt 10 = .ok (.goto 7, 3) := by decide +kernel
theorem dL_signAt_13 : decode cL_signAt 13 = .ok (.astore 4, 2) := by decide +kernel
theorem dL_signAt_15 : decode cL_signAt 15 = .ok (.iconst 1, 1) := by decide +kernel
theorem dL_signAt_16 : decode cL_signAt 16 = .ok (.ireturn, 1) := by decide +kernel
theorem dL_signAt_17 : decode cL_signAt 17 = .ok (.iconst 0, 1) := by decide +kernel
theorem dL_signAt_18 : decode cL_signAt 18 = .ok (.ireturn, 1) := by decide +kernel
set_option maxRecDepth 20000 in
theorem ggL_join_X5_join : GoodIn wsL_join wsX5_join := goodIn_ca (goodIn_ca (goodIn_ca (goodIn_r _ [7, 8, 9, 10, 11, 6, 12, 13, 14, 15, 16, 17, 18, 19, 20, 21, 22, 23, 24, 25, 26, 27, 28, 29, 30, 31, 32, 33, 34, 35, 36, 37, 38, 39, 40, 41, 42, 43, 44, 45, 46, 47, 48, 49, 50, 51, 52, 53, 54, 55, 56, 57, 58, 59, 60, 61, 62, 63, 64] (by decide +kernel) (by decide +kernel)) (goodIn_sub (fun _ h => List.mem_cons_of_mem _ (List.mem_append_left _ (List.mem_append_right _ h))) (by decide +kernel))) (goodIn_sub (fun _ h => List.mem_cons_of_mem _ (List.mem_append_right _ h)) (by decide +kernel))) (goodIn_sub (fun _ h => List.mem_cons_of_mem _ (List.mem_append_left _ (List.mem_append_left _ (List.mem_append_right _ h)))) (by decide +kernel))
set_option maxRecDepth 20000 in
theorem gL_join_X5_join : GoodIn wsL_join (wsV RL 34 RX5 yX5_join wsX5_join) := goodIn_app (goodIn_of _ (by decide +kernel)) ggL_join_X5_join
theorem dL_join_0 : decode cL_join 0 = .ok (.aload 4, 2) := by decide +kernel
theorem dL_join_2 : decode cL_join 2 = .ok (.iconst 0, 1) := by decide +kernel
theorem dL_join_3 : decode cL_join 3 = .ok (.aload_n 0, 1) := by decide +kernel
theorem dL_join_4 : decode cL_join 4 = .ok (.iload_n 1, 1) := by decide +kernel
theorem dL_join_5 : decode cL_join 5 = .ok (.iload_n 2, 1) := by decide +kernel
theorem dL_join_6 : decode cL_join 6 = .ok (.iload_n 3, 1) := by decide +kernel
theorem dL_join_7 : decode cL_join 7 = .ok (.invokevirtual 34, 3) := by decide +kernel
theorem dL_join_10 : decode cL_join 10 = .ok (.i2l, 1) := by decide +kernel
theorem dL_join_11 : decode cL_join 11 = .ok (.lastore, 1) := by decide +kernel
theorem dL_join_12 : decode cL_join 12 = .ok (.goto 11, 3) := by decide +kernel
theorem dL_join_15 : decode cL_join 15 = .ok (.astore 5, 2) := by decide +kernel
theorem dL_join_17 : decode cL_join 17 = .ok (.iconst 1, 1) := by decide +kernel
theorem dL_join_18 : decode cL_join 18 = .ok (.ireturn, 1) := by decide +kernel
theorem dL_join_19 : decode cL_join 19 = .ok (.astore 5, 2) := by decide +kernel
theorem dL_join_21 : decode cL_join 21 = .ok (.iconst 2, 1) := by decide +kernel
theorem dL_join_22 : decode cL_join 22 = .ok (.ireturn, 1) := by decide +kernel
theorem dL_join_23 : decode cL_join 23 = .ok (.iconst 0, 1) := by decide +kernel
theorem dL_join_24 : decode cL_join 24 = .ok (.ireturn, 1) := by decide +kernel
set_option maxRecDepth 20000 in
theorem ggL_repeat_X5_repeat : GoodIn wsL_repeat wsX5_repeat := goodIn_ca (goodIn_ca (goodIn_ca (goodIn_ca (goodIn_r _ [8, 9, 10, 11, 12, 13, 14, 7, 15, 16, 17, 18, 19, 20, 21, 22, 23, 24, 25, 26, 27, 28, 29, 30, 31, 32, 33, 34, 35, 36, 37, 38, 39, 40, 41, 42, 43, 44, 45, 46, 47, 48, 49, 50, 51, 52, 53, 54, 55, 56, 57, 58, 59, 60, 61, 62, 63, 64, 65, 66, 67, 68, 69, 70, 71] (by decide +kernel) (by decide +kernel)) (goodIn_sub (fun _ h => List.mem_cons_of_mem _ (List.mem_append_left _ (List.mem_append_left _ (List.mem_append_right _ h)))) (by decide +kernel))) (goodIn_sub (fun _ h => List.mem_cons_of_mem _ (List.mem_append_left _ (List.mem_append_right _ h))) (by decide +kernel))) (goodIn_sub (fun _ h => List.mem_cons_of_mem _ (List.mem_append_right _ h)) (by decide +kernel))) (goodIn_sub (fun _ h => List.mem_cons_of_mem _ (List.mem_append_left _ (List.mem_append_left _ (List.mem_append_left _ (List.mem_append_right _ h))))) (by decide +kernel))
set_option maxRecDepth 20000 in
theorem gL_repeat_X5_repeat : GoodIn wsL_repeat (wsV RL 38 RX5 yX5_repeat wsX5_repeat) := goodIn_app (goodIn_of _ (by decide +kernel)) ggL_repeat_X5_repeat
theorem dL_repeat_0 : decode cL_repeat 0 = .ok (.aload 4, 2) := by decide +kernel
theorem dL_repeat_2 : decode cL_repeat 2 = .ok (.iconst 0, 1) := by decide +kernel
theorem dL_repeat_3 : decode cL_repeat 3 = .ok (.aload_n 0, 1) := by decide +kernel
theorem dL_repeat_4 : decode cL_repeat 4 = .ok (.iload_n 1, 1) := by decide +kernel
theorem dL_repeat_5 : decode cL_repeat 5 = .ok (.iload_n 2, 1) := by decide +kernel
theorem dL_repeat_6 : decode cL_repeat 6 = .ok (.iload_n 3, 1) := by decide +kernel
theorem dL_repeat_7 : decode cL_repeat 7 = .ok (.invokevirtual 38, 3) := by decide +kernel
theorem dL_repeat_10 : decode cL_repeat 10 = .ok (.i2l, 1) := by decide +kernel
theorem dL_repeat_11 : decode cL_repeat 11 = .ok (.lastore, 1) := by decide +kernel
theorem dL_repeat_12 : decode cL_repeat 12 = .ok (.goto 15, 3) := by decide +kernel
theorem dL_repeat_15 : decode cL_repeat 15 = .ok (.astore 5, 2) := by decide +kernel
theorem dL_repeat_17 : decode cL_repeat 17 = .ok (.iconst 1, 1) := by decide +kernel
theorem dL_repeat_18 : decode cL_repeat 18 = .ok (.ireturn, 1) := by decide +kernel
theorem dL_repeat_19 : decode cL_repeat 19 = .ok (.astore 5, 2) := by decide +kernel
theorem dL_repeat_21 : decode cL_repeat 21 = .ok (.iconst 2, 1) := by decide +kernel
theorem dL_repeat_22 : decode cL_repeat 22 = .ok (.ireturn, 1) := by decide +kernel
theorem dL_repeat_23 : decode cL_repeat 23 = .ok (.astore 5, 2) := by decide +kernel
theorem dL_repeat_25 : decode cL_repeat 25 = .ok (.iconst 3, 1) := by decide +kernel
theorem dL_repeat_26 : decode cL_repeat 26 = .ok (.ireturn, 1) := by decide +kernel
theorem dL_repeat_27 : decode cL_repeat 27 = .ok (.iconst 0, 1) := by decide +kernel
theorem dL_repeat_28 : decode cL_repeat 28 = .ok (.ireturn, 1) := by decide +kernel
set_option maxRecDepth 20000 in
theorem ggL_part_X5_part : GoodIn wsL_part wsX5_part := goodIn_ca (goodIn_ca (goodIn_r _ [6, 7, 8, 9, 10, 11, 5, 12, 13, 14, 15, 16, 17, 18, 19, 20, 21, 22, 23, 24, 25, 26, 27, 28, 29, 30, 31, 32, 33, 34, 35, 36, 37, 38, 39, 40, 41, 42, 43, 44, 45, 46, 47, 48, 49, 50, 51, 52, 53, 54, 55, 56, 57, 58, 59, 60, 61] (by decide +kernel) (by decide +kernel)) (goodIn_sub (fun _ h => List.mem_cons_of_mem _ (List.mem_append_right _ h)) (by decide +kernel))) (goodIn_sub (fun _ h => List.mem_cons_of_mem _ (List.mem_append_left _ (List.mem_append_right _ h))) (by decide +kernel))
set_option maxRecDepth 20000 in
theorem gL_part_X5_part : GoodIn wsL_part (wsV RL 41 RX5 yX5_part wsX5_part) := goodIn_app (goodIn_of _ (by decide +kernel)) ggL_part_X5_part
theorem dL_part_0 : decode cL_part 0 = .ok (.aload 5, 2) := by decide +kernel
theorem dL_part_2 : decode cL_part 2 = .ok (.iconst 0, 1) := by decide +kernel
theorem dL_part_3 : decode cL_part 3 = .ok (.aload_n 0, 1) := by decide +kernel
theorem dL_part_4 : decode cL_part 4 = .ok (.iload_n 1, 1) := by decide +kernel
theorem dL_part_5 : decode cL_part 5 = .ok (.iload_n 2, 1) := by decide +kernel
theorem dL_part_6 : decode cL_part 6 = .ok (.iload_n 3, 1) := by decide +kernel
theorem dL_part_7 : decode cL_part 7 = .ok (.iload 4, 2) := by decide +kernel
theorem dL_part_9 : decode cL_part 9 = .ok (.invokevirtual 41, 3) := by decide +kernel
theorem dL_part_12 : decode cL_part 12 = .ok (.i2l, 1) := by decide +kernel
theorem dL_part_13 : decode cL_part 13 = .ok (.lastore, 1) := by decide +kernel
theorem dL_part_14 : decode cL_part 14 = .ok (.goto 7, 3) := by decide +kernel
theorem dL_part_17 : decode cL_part 17 = .ok (.astore 6, 2) := by decide +kernel
theorem dL_part_19 : decode cL_part 19 = .ok (.iconst 1, 1) := by decide +kernel
theorem dL_part_20 : decode cL_part 20 = .ok (.ireturn, 1) := by decide +kernel
theorem dL_part_21 : decode cL_part 21 = .ok (.iconst 0, 1) := by decide +kernel
theorem dL_part_22 : decode cL_part 22 = .ok (.ireturn, 1) := by decide +kernel
set_option maxRecDepth 20000 in
theorem ggL_turn_X5_turn : GoodIn wsL_turn wsX5_turn := goodIn_ca (goodIn_ca (goodIn_r _ [6, 7, 8, 9, 10, 11, 12, 5, 13, 14, 15, 16, 17, 18, 19, 20, 21, 22, 23, 24, 25, 26, 27, 28, 29, 30, 31, 32, 33, 34, 35, 36, 37, 38, 39, 40, 41, 42, 43, 44, 45, 46, 47, 48, 49, 50, 51, 52, 53, 54, 55, 56, 57] (by decide +kernel) (by decide +kernel)) (goodIn_sub (fun _ h => List.mem_cons_of_mem _ (List.mem_append_right _ h)) (by decide +kernel))) (goodIn_sub (fun _ h => List.mem_cons_of_mem _ (List.mem_append_left _ (List.mem_append_right _ h))) (by decide +kernel))
set_option maxRecDepth 20000 in
theorem gL_turn_X5_turn : GoodIn wsL_turn (wsV RL 45 RX5 yX5_turn wsX5_turn) := goodIn_app (goodIn_of _ (by decide +kernel)) ggL_turn_X5_turn
theorem dL_turn_0 : decode cL_turn 0 = .ok (.aload 4, 2) := by decide +kernel
theorem dL_turn_2 : decode cL_turn 2 = .ok (.iconst 0, 1) := by decide +kernel
theorem dL_turn_3 : decode cL_turn 3 = .ok (.aload_n 0, 1) := by decide +kernel
theorem dL_turn_4 : decode cL_turn 4 = .ok (.iload_n 1, 1) := by decide +kernel
theorem dL_turn_5 : decode cL_turn 5 = .ok (.iload_n 2, 1) := by decide +kernel
theorem dL_turn_6 : decode cL_turn 6 = .ok (.iload_n 3, 1) := by decide +kernel
theorem dL_turn_7 : decode cL_turn 7 = .ok (.invokevirtual 45, 3) := by decide +kernel
theorem dL_turn_10 : decode cL_turn 10 = .ok (.i2l, 1) := by decide +kernel
theorem dL_turn_11 : decode cL_turn 11 = .ok (.lastore, 1) := by decide +kernel
theorem dL_turn_12 : decode cL_turn 12 = .ok (.goto 7, 3) := by decide +kernel
theorem dL_turn_15 : decode cL_turn 15 = .ok (.astore 5, 2) := by decide +kernel
theorem dL_turn_17 : decode cL_turn 17 = .ok (.iconst 1, 1) := by decide +kernel
theorem dL_turn_18 : decode cL_turn 18 = .ok (.ireturn, 1) := by decide +kernel
theorem dL_turn_19 : decode cL_turn 19 = .ok (.iconst 0, 1) := by decide +kernel
theorem dL_turn_20 : decode cL_turn 20 = .ok (.ireturn, 1) := by decide +kernel
set_option maxRecDepth 20000 in
theorem ggL_back_X5_back : GoodIn wsL_back wsX5_back := goodIn_ca (goodIn_ca (goodIn_r _ [6, 7, 8, 9, 10, 5, 11, 12, 13, 14, 15, 16, 17, 18, 19, 20, 21, 22, 23, 24, 25, 26, 27, 28, 29, 30, 31, 32, 33, 34, 35, 36, 37, 38, 39, 40, 41, 42, 43, 44, 45, 46, 47, 48, 49, 50, 51, 52, 53, 54, 55, 56, 57, 58] (by decide +kernel) (by decide +kernel)) (goodIn_sub (fun _ h => List.mem_cons_of_mem _ (List.mem_append_right _ h)) (by decide +kernel))) (goodIn_sub (fun _ h => List.mem_cons_of_mem _ (List.mem_append_left _ (List.mem_append_right _ h))) (by decide +kernel))
set_option maxRecDepth 20000 in
theorem gL_back_X5_back : GoodIn wsL_back (wsV RL 48 RX5 yX5_back wsX5_back) := goodIn_app (goodIn_of _ (by decide +kernel)) ggL_back_X5_back
theorem dL_back_0 : decode cL_back 0 = .ok (.aload_n 3, 1) := by decide +kernel
theorem dL_back_1 : decode cL_back 1 = .ok (.iconst 0, 1) := by decide +kernel
theorem dL_back_2 : decode cL_back 2 = .ok (.aload_n 0, 1) := by decide +kernel
theorem dL_back_3 : decode cL_back 3 = .ok (.iload_n 1, 1) := by decide +kernel
theorem dL_back_4 : decode cL_back 4 = .ok (.iload_n 2, 1) := by decide +kernel
theorem dL_back_5 : decode cL_back 5 = .ok (.invokevirtual 48, 3) := by decide +kernel
theorem dL_back_8 : decode cL_back 8 = .ok (.i2l, 1) := by decide +kernel
theorem dL_back_9 : decode cL_back 9 = .ok (.lastore, 1) := by decide +kernel
theorem dL_back_10 : decode cL_back 10 = .ok (.goto 7, 3) := by decide +kernel
theorem dL_back_13 : decode cL_back 13 = .ok (.astore 4, 2) := by decide +kernel
theorem dL_back_15 : decode cL_back 15 = .ok (.iconst 1, 1) := by decide +kernel
theorem dL_back_16 : decode cL_back 16 = .ok (.ireturn, 1) := by decide +kernel
theorem dL_back_17 : decode cL_back 17 = .ok (.iconst 0, 1) := by decide +kernel
theorem dL_back_18 : decode cL_back 18 = .ok (.ireturn, 1) := by decide +kernel
set_option maxRecDepth 20000 in
theorem ggL_put_X5_put : GoodIn wsL_put wsX5_put := goodIn_ca (goodIn_ca (goodIn_ca (goodIn_ca (goodIn_r _ [8, 9, 10, 11, 7, 12, 13, 14, 15, 16, 17, 18, 19, 20, 21, 22, 23, 24, 25, 26, 27, 28, 29, 30, 31, 32, 33, 34, 35, 36, 37, 38, 39, 40, 41, 42, 43, 44, 45, 46, 47, 48, 49, 50, 51, 52, 53, 54, 55, 56, 57, 58, 59, 60, 61, 62, 63, 64, 65, 66, 67, 68, 69, 70, 71, 72, 73, 74, 75, 76, 77, 78, 79, 80, 81, 82, 83, 84, 85, 86, 87, 88, 89, 90, 91, 92, 93, 94, 95, 96, 97] (by decide +kernel) (by decide +kernel)) (goodIn_sub (fun _ h => List.mem_cons_of_mem _ (List.mem_append_left _ (List.mem_append_left _ (List.mem_append_right _ h)))) (by decide +kernel))) (goodIn_sub (fun _ h => List.mem_cons_of_mem _ (List.mem_append_left _ (List.mem_append_right _ h))) (by decide +kernel))) (goodIn_sub (fun _ h => List.mem_cons_of_mem _ (List.mem_append_left _ (List.mem_append_left _ (List.mem_append_left _ (List.mem_append_right _ h))))) (by decide +kernel))) (goodIn_sub (fun _ h => List.mem_cons_of_mem _ (List.mem_append_right _ h)) (by decide +kernel))
set_option maxRecDepth 20000 in
theorem gL_put_X5_put : GoodIn wsL_put (wsV RL 52 RX5 yX5_put wsX5_put) := goodIn_app (goodIn_of _ (by decide +kernel)) ggL_put_X5_put
theorem dL_put_0 : decode cL_put 0 = .ok (.aload 5, 2) := by decide +kernel
theorem dL_put_2 : decode cL_put 2 = .ok (.iconst 0, 1) := by decide +kernel
theorem dL_put_3 : decode cL_put 3 = .ok (.aload_n 0, 1) := by decide +kernel
theorem dL_put_4 : decode cL_put 4 = .ok (.iload_n 1, 1) := by decide +kernel
theorem dL_put_5 : decode cL_put 5 = .ok (.iload_n 2, 1) := by decide +kernel
theorem dL_put_6 : decode cL_put 6 = .ok (.iload_n 3, 1) := by decide +kernel
theorem dL_put_7 : decode cL_put 7 = .ok (.iload 4, 2) := by decide +kernel
theorem dL_put_9 : decode cL_put 9 = .ok (.invokevirtual 52, 3) := by decide +kernel
theorem dL_put_12 : decode cL_put 12 = .ok (.i2l, 1) := by decide +kernel
theorem dL_put_13 : decode cL_put 13 = .ok (.lastore, 1) := by decide +kernel
theorem dL_put_14 : decode cL_put 14 = .ok (.goto 15, 3) := by decide +kernel
theorem dL_put_17 : decode cL_put 17 = .ok (.astore 6, 2) := by decide +kernel
theorem dL_put_19 : decode cL_put 19 = .ok (.iconst 1, 1) := by decide +kernel
theorem dL_put_20 : decode cL_put 20 = .ok (.ireturn, 1) := by decide +kernel
theorem dL_put_21 : decode cL_put 21 = .ok (.astore 6, 2) := by decide +kernel
theorem dL_put_23 : decode cL_put 23 = .ok (.iconst 2, 1) := by decide +kernel
theorem dL_put_24 : decode cL_put 24 = .ok (.ireturn, 1) := by decide +kernel
theorem dL_put_25 : decode cL_put 25 = .ok (.astore 6, 2) := by decide +kernel
theorem dL_put_27 : decode cL_put 27 = .ok (.iconst 3, 1) := by decide +kernel
theorem dL_put_28 : decode cL_put 28 = .ok (.ireturn, 1) := by decide +kernel
theorem dL_put_29 : decode cL_put 29 = .ok (.iconst 0, 1) := by decide +kernel
theorem dL_put_30 : decode cL_put 30 = .ok (.ireturn, 1) := by decide +kernel
set_option maxRecDepth 20000 in
theorem ggL_first_X5_first : GoodIn wsL_first wsX5_first := goodIn_ca (goodIn_ca (goodIn_r _ [6, 7, 8, 9, 10, 11, 12, 13, 14, 15, 16, 5, 17, 18, 19, 20, 21, 22, 23, 24, 25, 26, 27, 28, 29, 30, 31, 32, 33, 34, 35, 36, 37, 38, 39, 40, 41, 42, 43, 44, 45, 46] (by decide +kernel) (by decide +kernel)) (goodIn_sub (fun _ h => List.mem_cons_of_mem _ (List.mem_append_right _ h)) (by decide +kernel))) (goodIn_sub (fun _ h => List.mem_cons_of_mem _ (List.mem_append_left _ (List.mem_append_right _ h))) (by decide +kernel))
set_option maxRecDepth 20000 in
theorem gL_first_X5_first : GoodIn wsL_first (wsV RL 57 RX5 yX5_first wsX5_first) := goodIn_app (goodIn_of _ (by decide +kernel)) ggL_first_X5_first
theorem dL_first_0 : decode cL_first 0 = .ok (.aload 4, 2) := by decide +kernel
theorem dL_first_2 : decode cL_first 2 = .ok (.iconst 0, 1) := by decide +kernel
theorem dL_first_3 : decode cL_first 3 = .ok (.aload_n 0, 1) := by decide +kernel
theorem dL_first_4 : decode cL_first 4 = .ok (.iload_n 1, 1) := by decide +kernel
theorem dL_first_5 : decode cL_first 5 = .ok (.iload_n 2, 1) := by decide +kernel
theorem dL_first_6 : decode cL_first 6 = .ok (.iload_n 3, 1) := by decide +kernel
theorem dL_first_7 : decode cL_first 7 = .ok (.invokevirtual 57, 3) := by decide +kernel
theorem dL_first_10 : decode cL_first 10 = .ok (.i2l, 1) := by decide +kernel
theorem dL_first_11 : decode cL_first 11 = .ok (.lastore, 1) := by decide +kernel
theorem dL_first_12 : decode cL_first 12 = .ok (.goto 7, 3) := by decide +kernel
theorem dL_first_15 : decode cL_first 15 = .ok (.astore 5, 2) := by decide +kernel
theorem dL_first_17 : decode cL_first 17 = .ok (.iconst 1, 1) := by decide +kernel
theorem dL_first_18 : decode cL_first 18 = .ok (.ireturn, 1) := by decide +kernel
theorem dL_first_19 : decode cL_first 19 = .ok (.iconst 0, 1) := by decide +kernel
theorem dL_first_20 : decode cL_first 20 = .ok (.ireturn, 1) := by decide +kernel
set_option maxRecDepth 20000 in
theorem ggL_last_X5_last : GoodIn wsL_last wsX5_last := goodIn_ca (goodIn_ca (goodIn_r _ [6, 7, 8, 9, 10, 11, 12, 13, 5, 14, 15, 16, 17, 18, 19, 20, 21, 22, 23, 24, 25, 26, 27, 28, 29, 30, 31, 32, 33, 34, 35, 36, 37, 38, 39, 40, 41, 42, 43] (by decide +kernel) (by decide +kernel)) (goodIn_sub (fun _ h => List.mem_cons_of_mem _ (List.mem_append_right _ h)) (by decide +kernel))) (goodIn_sub (fun _ h => List.mem_cons_of_mem _ (List.mem_append_left _ (List.mem_append_right _ h))) (by decide +kernel))
set_option maxRecDepth 20000 in
theorem gL_last_X5_last : GoodIn wsL_last (wsV RL 60 RX5 yX5_last wsX5_last) := goodIn_app (goodIn_of _ (by decide +kernel)) ggL_last_X5_last
theorem dL_last_0 : decode cL_last 0 = .ok (.aload 4, 2) := by decide +kernel
theorem dL_last_2 : decode cL_last 2 = .ok (.iconst 0, 1) := by decide +kernel
theorem dL_last_3 : decode cL_last 3 = .ok (.aload_n 0, 1) := by decide +kernel
theorem dL_last_4 : decode cL_last 4 = .ok (.iload_n 1, 1) := by decide +kernel
theorem dL_last_5 : decode cL_last 5 = .ok (.iload_n 2, 1) := by decide +kernel
theorem dL_last_6 : decode cL_last 6 = .ok (.iload_n 3, 1) := by decide +kernel
theorem dL_last_7 : decode cL_last 7 = .ok (.invokevirtual 60, 3) := by decide +kernel
theorem dL_last_10 : decode cL_last 10 = .ok (.i2l, 1) := by decide +kernel
theorem dL_last_11 : decode cL_last 11 = .ok (.lastore, 1) := by decide +kernel
theorem dL_last_12 : decode cL_last 12 = .ok (.goto 7, 3) := by decide +kernel
theorem dL_last_15 : decode cL_last 15 = .ok (.astore 5, 2) := by decide +kernel
theorem dL_last_17 : decode cL_last 17 = .ok (.iconst 1, 1) := by decide +kernel
theorem dL_last_18 : decode cL_last 18 = .ok (.ireturn, 1) := by decide +kernel
theorem dL_last_19 : decode cL_last 19 = .ok (.iconst 0, 1) := by decide +kernel
theorem dL_last_20 : decode cL_last 20 = .ok (.ireturn, 1) := by decide +kernel
set_option maxRecDepth 20000 in
theorem ggL_many_X5_many : GoodIn wsL_many wsX5_many := goodIn_ca (goodIn_ca (goodIn_ca (goodIn_r _ [7, 8, 9, 10, 6, 11, 12, 13, 14, 15, 16, 17, 18, 19, 20, 21, 22, 23, 24, 25, 26, 27, 28, 29, 30, 31, 32, 33, 34, 35, 36, 37, 38, 39, 40, 41, 42, 43, 44, 45, 46, 47, 48, 49, 50, 51, 52] (by decide +kernel) (by decide +kernel)) (goodIn_sub (fun _ h => List.mem_cons_of_mem _ (List.mem_append_left _ (List.mem_append_right _ h))) (by decide +kernel))) (goodIn_sub (fun _ h => List.mem_cons_of_mem _ (List.mem_append_right _ h)) (by decide +kernel))) (goodIn_sub (fun _ h => List.mem_cons_of_mem _ (List.mem_append_left _ (List.mem_append_left _ (List.mem_append_right _ h)))) (by decide +kernel))
set_option maxRecDepth 20000 in
theorem gL_many_X5_many : GoodIn wsL_many (wsV RL 63 RX5 yX5_many wsX5_many) := goodIn_app (goodIn_of _ (by decide +kernel)) ggL_many_X5_many
theorem dL_many_0 : decode cL_many 0 = .ok (.aload 4, 2) := by decide +kernel
theorem dL_many_2 : decode cL_many 2 = .ok (.iconst 0, 1) := by decide +kernel
theorem dL_many_3 : decode cL_many 3 = .ok (.aload_n 0, 1) := by decide +kernel
theorem dL_many_4 : decode cL_many 4 = .ok (.iload_n 1, 1) := by decide +kernel
theorem dL_many_5 : decode cL_many 5 = .ok (.iload_n 2, 1) := by decide +kernel
theorem dL_many_6 : decode cL_many 6 = .ok (.iload_n 3, 1) := by decide +kernel
theorem dL_many_7 : decode cL_many 7 = .ok (.invokevirtual 63, 3) := by decide +kernel
theorem dL_many_10 : decode cL_many 10 = .ok (.i2l, 1) := by decide +kernel
theorem dL_many_11 : decode cL_many 11 = .ok (.lastore, 1) := by decide +kernel
theorem dL_many_12 : decode cL_many 12 = .ok (.goto 11, 3) := by decide +kernel
theorem dL_many_15 : decode cL_many 15 = .ok (.astore 5, 2) := by decide +kernel
theorem dL_many_17 : decode cL_many 17 = .ok (.iconst 1, 1) := by decide +kernel
theorem dL_many_18 : decode cL_many 18 = .ok (.ireturn, 1) := by decide +kernel
theorem dL_many_19 : decode cL_many 19 = .ok (.astore 5, 2) := by decide +kernel
theorem dL_many_21 : decode cL_many 21 = .ok (.iconst 2, 1) := by decide +kernel
theorem dL_many_22 : decode cL_many 22 = .ok (.ireturn, 1) := by decide +kernel
theorem dL_many_23 : decode cL_many 23 = .ok (.iconst 0, 1) := by decide +kernel
theorem dL_many_24 : decode cL_many 24 = .ok (.ireturn, 1) := by decide +kernel
set_option maxRecDepth 20000 in
theorem ggL_isSame_X5_isSame : GoodIn wsL_isSame wsX5_isSame := goodIn_ca (goodIn_ca (goodIn_r _ [6, 7, 8, 9, 5, 10, 11, 12, 13, 14, 15, 16, 17, 18, 19, 20, 21, 22, 23, 24, 25, 26, 27, 28, 29, 30, 31, 32, 33, 34, 35, 36, 37, 38] (by decide +kernel) (by decide +kernel)) (goodIn_sub (fun _ h => List.mem_cons_of_mem _ (List.mem_append_right _ h)) (by decide +kernel))) (goodIn_sub (fun _ h => List.mem_cons_of_mem _ (List.mem_append_left _ (List.mem_append_right _ h))) (by decide +kernel))
set_option maxRecDepth 20000 in
theorem gL_isSame_X5_isSame : GoodIn wsL_isSame (wsV RL 67 RX5 yX5_isSame wsX5_isSame) := goodIn_app (goodIn_of _ (by decide +kernel)) ggL_isSame_X5_isSame
theorem dL_isSame_0 : decode cL_isSame 0 = .ok (.aload_n 3, 1) := by decide +kernel
theorem dL_isSame_1 : decode cL_isSame 1 = .ok (.iconst 0, 1) := by decide +kernel
theorem dL_isSame_2 : decode cL_isSame 2 = .ok (.aload_n 0, 1) := by decide +kernel
theorem dL_isSame_3 : decode cL_isSame 3 = .ok (.iload_n 1, 1) := by decide +kernel
theorem dL_isSame_4 : decode cL_isSame 4 = .ok (.iload_n 2, 1) := by decide +kernel
theorem dL_isSame_5 : decode cL_isSame 5 = .ok (.invokevirtual 67, 3) := by decide +kernel
theorem dL_isSame_8 : decode cL_isSame 8 = .ok (.ifCond .eq 7, 3) := by decide +kernel
theorem dL_isSame_11 : decode cL_isSame 11 = .ok (.lconst 1, 1) := by decide +kernel
theorem dL_isSame_12 : decode cL_isSame 12 = .ok (.goto 4, 3) := by decide +kernel
theorem dL_isSame_15 : decode cL_isSame 15 = .ok (.lconst 0, 1) := by decide +kernel
theorem dL_isSame_16 : decode cL_isSame 16 = .ok (.lastore, 1) := by decide +kernel
theorem dL_isSame_17 : decode cL_isSame 17 = .ok (.goto 7, 3) := by decide +kernel
theorem dL_isSame_20 : decode cL_isSame 20 = .ok (.astore 4, 2) := by decide +kernel
theorem dL_isSame_22 : decode cL_isSame 22 = .ok (.iconst 1, 1) := by decide +kernel
theorem dL_isSame_23 : decode cL_isSame 23 = .ok (.ireturn, 1) := by decide +kernel
theorem dL_isSame_24 : decode cL_isSame 24 = .ok (.iconst 0, 1) := by decide +kernel
theorem dL_isSame_25 : decode cL_isSame 25 = .ok (.ireturn, 1) := by decide +kernel
set_option maxRecDepth 20000 in
theorem ggL_compare_X5_compare : GoodIn wsL_compare wsX5_compare := goodIn_ca (goodIn_ca (goodIn_r _ [6, 7, 8, 9, 5, 10, 11, 12, 13, 14, 15, 16, 17, 18, 19, 20, 21, 22, 23, 24, 25, 26, 27, 28, 29, 30, 31, 32, 33, 34, 35, 36, 37, 38] (by decide +kernel) (by decide +kernel)) (goodIn_sub (fun _ h => List.mem_cons_of_mem _ (List.mem_append_right _ h)) (by decide +kernel))) (goodIn_sub (fun _ h => List.mem_cons_of_mem _ (List.mem_append_left _ (List.mem_append_right _ h))) (by decide +kernel))
set_option maxRecDepth 20000 in
theorem gL_compare_X5_compare : GoodIn wsL_compare (wsV RL 71 RX5 yX5_compare wsX5_compare) := goodIn_app (goodIn_of _ (by decide +kernel)) ggL_compare_X5_compare
theorem dL_compare_0 : decode cL_compare 0 = .ok (.aload_n 3, 1) := by decide +kernel
theorem dL_compare_1 : decode cL_compare 1 = .ok (.iconst 0, 1) := by decide +kernel
theorem dL_compare_2 : decode cL_compare 2 = .ok (.aload_n 0, 1) := by decide +kernel
theorem dL_compare_3 : decode cL_compare 3 = .ok (.iload_n 1, 1) := by decide +kernel
theorem dL_compare_4 : decode cL_compare 4 = .ok (.iload_n 2, 1) := by decide +kernel
theorem dL_compare_5 : decode cL_compare 5 = .ok (.invokevirtual 71, 3) := by decide +kernel
theorem dL_compare_8 : decode cL_compare 8 = .ok (.i2l, 1) := by decide +kernel
theorem dL_compare_9 : decode cL_compare 9 = .ok (.lastore, 1) := by decide +kernel
theorem dL_compare_10 : decode cL_compare 10 = .ok (.goto 7, 3) := by decide +kernel
theorem dL_compare_13 : decode cL_compare 13 = .ok (.astore 4, 2) := by decide +kernel
theorem dL_compare_15 : decode cL_compare 15 = .ok (.iconst 1, 1) := by decide +kernel
theorem dL_compare_16 : decode cL_compare 16 = .ok (.ireturn, 1) := by decide +kernel
theorem dL_compare_17 : decode cL_compare 17 = .ok (.iconst 0, 1) := by decide +kernel
theorem dL_compare_18 : decode cL_compare 18 = .ok (.ireturn, 1) := by decide +kernel
set_option maxRecDepth 20000 in
theorem ggL_common_X5_common : GoodIn wsL_common wsX5_common := goodIn_ca (goodIn_ca (goodIn_r _ [6, 7, 8, 9, 5, 10, 11, 12, 13, 14, 15, 16, 17, 18, 19, 20, 21, 22, 23, 24, 25, 26, 27, 28, 29, 30, 31, 32, 33, 34] (by decide +kernel) (by decide +kernel)) (goodIn_sub (fun _ h => List.mem_cons_of_mem _ (List.mem_append_right _ h)) (by decide +kernel))) (goodIn_sub (fun _ h => List.mem_cons_of_mem _ (List.mem_append_left _ (List.mem_append_right _ h))) (by decide +kernel))
set_option maxRecDepth 20000 in
theorem gL_common_X5_common : GoodIn wsL_common (wsV RL 74 RX5 yX5_common wsX5_common) := goodIn_app (goodIn_of _ (by decide +kernel)) ggL_common_X5_common
theorem dL_common_0 : decode cL_common 0 = .ok (.aload_n 3, 1) := by decide +kernel
theorem dL_common_1 : decode cL_common 1 = .ok (.iconst 0, 1) := by decide +kernel
theorem dL_common_2 : decode cL_common 2 = .ok (.aload_n 0, 1) := by decide +kernel
theorem dL_common_3 : decode cL_common 3 = .ok (.iload_n 1, 1) := by decide +kernel
theorem dL_common_4 : decode cL_common 4 = .ok (.iload_n 2, 1) := by decide +kernel
theorem dL_common_5 : decode cL_common 5 = .ok (.invokevirtual 74, 3) := by decide +kernel
theorem dL_common_8 : decode cL_common 8 = .ok (.i2l, 1) := by decide +kernel
theorem dL_common_9 : decode cL_common 9 = .ok (.lastore, 1) := by decide +kernel
theorem dL_common_10 : decode cL_common 10 = .ok (.goto 7, 3) := by decide +kernel
theorem dL_common_13 : decode cL_common 13 = .ok (.astore 4, 2) := by decide +kernel
theorem dL_common_15 : decode cL_common 15 = .ok (.iconst 1, 1) := by decide +kernel
theorem dL_common_16 : decode cL_common 16 = .ok (.ireturn, 1) := by decide +kernel
theorem dL_common_17 : decode cL_common 17 = .ok (.iconst 0, 1) := by decide +kernel
theorem dL_common_18 : decode cL_common 18 = .ok (.ireturn, 1) := by decide +kernel
set_option maxRecDepth 20000 in
theorem ggL_commonEnd_X5_commonEnd : GoodIn wsL_commonEnd wsX5_commonEnd := goodIn_ca (goodIn_ca (goodIn_r _ [6, 7, 8, 9, 5, 10, 11, 12, 13, 14, 15, 16, 17, 18, 19, 20, 21, 22, 23, 24, 25, 26, 27, 28, 29, 30, 31, 32, 33, 34] (by decide +kernel) (by decide +kernel)) (goodIn_sub (fun _ h => List.mem_cons_of_mem _ (List.mem_append_right _ h)) (by decide +kernel))) (goodIn_sub (fun _ h => List.mem_cons_of_mem _ (List.mem_append_left _ (List.mem_append_right _ h))) (by decide +kernel))
set_option maxRecDepth 20000 in
theorem gL_commonEnd_X5_commonEnd : GoodIn wsL_commonEnd (wsV RL 77 RX5 yX5_commonEnd wsX5_commonEnd) := goodIn_app (goodIn_of _ (by decide +kernel)) ggL_commonEnd_X5_commonEnd
theorem dL_commonEnd_0 : decode cL_commonEnd 0 = .ok (.aload_n 3, 1) := by decide +kernel
theorem dL_commonEnd_1 : decode cL_commonEnd 1 = .ok (.iconst 0, 1) := by decide +kernel
theorem dL_commonEnd_2 : decode cL_commonEnd 2 = .ok (.aload_n 0, 1) := by decide +kernel
theorem dL_commonEnd_3 : decode cL_commonEnd 3 = .ok (.iload_n 1, 1) := by decide +kernel
theorem dL_commonEnd_4 : decode cL_commonEnd 4 = .ok (.iload_n 2, 1) := by decide +kernel
theorem dL_commonEnd_5 : decode cL_commonEnd 5 = .ok (.invokevirtual 77, 3) := by decide +kernel
theorem dL_commonEnd_8 : decode cL_commonEnd 8 = .ok (.i2l, 1) := by decide +kernel
theorem dL_commonEnd_9 : decode cL_commonEnd 9 = .ok (.lastore, 1) := by decide +kernel
theorem dL_commonEnd_10 : decode cL_commonEnd 10 = .ok (.goto 7, 3) := by decide +kernel
theorem dL_commonEnd_13 : decode cL_commonEnd 13 = .ok (.astore 4, 2) := by decide +kernel
theorem dL_commonEnd_15 : decode cL_commonEnd 15 = .ok (.iconst 1, 1) := by decide +kernel
theorem dL_commonEnd_16 : decode cL_commonEnd 16 = .ok (.ireturn, 1) := by decide +kernel
theorem dL_commonEnd_17 : decode cL_commonEnd 17 = .ok (.iconst 0, 1) := by decide +kernel
theorem dL_commonEnd_18 : decode cL_commonEnd 18 = .ok (.ireturn, 1) := by decide +kernel
set_option maxRecDepth 20000 in
theorem ggL_hash_X5_hash : GoodIn wsL_hash wsX5_hash := goodIn_ca (goodIn_ca (goodIn_r _ [6, 7, 8, 9, 5, 10, 11, 12, 13, 14, 15, 16, 17, 18, 19, 20, 21, 22, 23, 24, 25, 26, 27, 28, 29, 30] (by decide +kernel) (by decide +kernel)) (goodIn_sub (fun _ h => List.mem_cons_of_mem _ (List.mem_append_right _ h)) (by decide +kernel))) (goodIn_sub (fun _ h => List.mem_cons_of_mem _ (List.mem_append_left _ (List.mem_append_right _ h))) (by decide +kernel))
set_option maxRecDepth 20000 in
theorem gL_hash_X5_hash : GoodIn wsL_hash (wsV RL 80 RX5 yX5_hash wsX5_hash) := goodIn_app (goodIn_of _ (by decide +kernel)) ggL_hash_X5_hash
theorem dL_hash_0 : decode cL_hash 0 = .ok (.aload_n 2, 1) := by decide +kernel
theorem dL_hash_1 : decode cL_hash 1 = .ok (.iconst 0, 1) := by decide +kernel
theorem dL_hash_2 : decode cL_hash 2 = .ok (.aload_n 0, 1) := by decide +kernel
theorem dL_hash_3 : decode cL_hash 3 = .ok (.iload_n 1, 1) := by decide +kernel
theorem dL_hash_4 : decode cL_hash 4 = .ok (.invokevirtual 80, 3) := by decide +kernel
theorem dL_hash_7 : decode cL_hash 7 = .ok (.i2l, 1) := by decide +kernel
theorem dL_hash_8 : decode cL_hash 8 = .ok (.lastore, 1) := by decide +kernel
theorem dL_hash_9 : decode cL_hash 9 = .ok (.goto 6, 3) := by decide +kernel
theorem dL_hash_12 : decode cL_hash 12 = .ok (.astore_n 3, 1) := by decide +kernel
theorem dL_hash_13 : decode cL_hash 13 = .ok (.iconst 1, 1) := by decide +kernel
theorem dL_hash_14 : decode cL_hash 14 = .ok (.ireturn, 1) := by decide +kernel
theorem dL_hash_15 : decode cL_hash 15 = .ok (.iconst 0, 1) := by decide +kernel
theorem dL_hash_16 : decode cL_hash 16 = .ok (.ireturn, 1) := by decide +kernel
set_option maxRecDepth 20000 in
theorem ggL_hashJoined_X5_hashJoined : GoodIn wsL_hashJoined wsX5_hashJoined := goodIn_ca (goodIn_ca (goodIn_r _ [6, 7, 8, 9, 5, 10, 11, 12, 13, 14, 15, 16, 17, 18, 19, 20, 21, 22, 23, 24, 25, 26, 27, 28, 29, 30] (by decide +kernel) (by decide +kernel)) (goodIn_sub (fun _ h => List.mem_cons_of_mem _ (List.mem_append_right _ h)) (by decide +kernel))) (goodIn_sub (fun _ h => List.mem_cons_of_mem _ (List.mem_append_left _ (List.mem_append_right _ h))) (by decide +kernel))
set_option maxRecDepth 20000 in
theorem gL_hashJoined_X5_hashJoined : GoodIn wsL_hashJoined (wsV RL 83 RX5 yX5_hashJoined wsX5_hashJoined) := goodIn_app (goodIn_of _ (by decide +kernel)) ggL_hashJoined_X5_hashJoined
theorem dL_hashJoined_0 : decode cL_hashJoined 0 = .ok (.aload_n 3, 1) := by decide +kernel
theorem dL_hashJoined_1 : decode cL_hashJoined 1 = .ok (.iconst 0, 1) := by decide +kernel
theorem dL_hashJoined_2 : decode cL_hashJoined 2 = .ok (.aload_n 0, 1) := by decide +kernel
theorem dL_hashJoined_3 : decode cL_hashJoined 3 = .ok (.iload_n 1, 1) := by decide +kernel
theorem dL_hashJoined_4 : decode cL_hashJoined 4 = .ok (.iload_n 2, 1) := by decide +kernel
theorem dL_hashJoined_5 : decode cL_hashJoined 5 = .ok (.invokevirtual 83, 3) := by decide +kernel
theorem dL_hashJoined_8 : decode cL_hashJoined 8 = .ok (.i2l, 1) := by decide +kernel
theorem dL_hashJoined_9 : decode cL_hashJoined 9 = .ok (.lastore, 1) := by decide +kernel
theorem dL_hashJoined_10 : decode cL_hashJoined 10 = .ok (.goto 7, 3) := by decide +kernel
theorem dL_hashJoined_13 : decode cL_hashJoined 13 = .ok (.astore 4, 2) := by decide +kernel
theorem dL_hashJoined_15 : decode cL_hashJoined 15 = .ok (.iconst 1, 1) := by decide +kernel
theorem dL_hashJoined_16 : decode cL_hashJoined 16 = .ok (.ireturn, 1) := by decide +kernel
theorem dL_hashJoined_17 : decode cL_hashJoined 17 = .ok (.iconst 0, 1) := by decide +kernel
theorem dL_hashJoined_18 : decode cL_hashJoined 18 = .ok (.ireturn, 1) := by decide +kernel
set_option maxRecDepth 20000 in
theorem ggL_hashRepeated_X5_hashRepeated : GoodIn wsL_hashRepeated wsX5_hashRepeated := goodIn_ca (goodIn_ca (goodIn_ca (goodIn_r _ [7, 8, 9, 10, 11, 12, 6, 13, 14, 15, 16, 17, 18, 19, 20, 21, 22, 23, 24, 25, 26, 27, 28, 29, 30, 31, 32, 33, 34, 35, 36, 37] (by decide +kernel) (by decide +kernel)) (goodIn_sub (fun _ h => List.mem_cons_of_mem _ (List.mem_append_left _ (List.mem_append_right _ h))) (by decide +kernel))) (goodIn_sub (fun _ h => List.mem_cons_of_mem _ (List.mem_append_right _ h)) (by decide +kernel))) (goodIn_sub (fun _ h => List.mem_cons_of_mem _ (List.mem_append_left _ (List.mem_append_left _ (List.mem_append_right _ h)))) (by decide +kernel))
set_option maxRecDepth 20000 in
theorem gL_hashRepeated_X5_hashRepeated : GoodIn wsL_hashRepeated (wsV RL 86 RX5 yX5_hashRepeated wsX5_hashRepeated) := goodIn_app (goodIn_of _ (by decide +kernel)) ggL_hashRepeated_X5_hashRepeated
theorem dL_hashRepeated_0 : decode cL_hashRepeated 0 = .ok (.aload_n 3, 1) := by decide +kernel
theorem dL_hashRepeated_1 : decode cL_hashRepeated 1 = .ok (.iconst 0, 1) := by decide +kernel
theorem dL_hashRepeated_2 : decode cL_hashRepeated 2 = .ok (.aload_n 0, 1) := by decide +kernel
theorem dL_hashRepeated_3 : decode cL_hashRepeated 3 = .ok (.iload_n 1, 1) := by decide +kernel
theorem dL_hashRepeated_4 : decode cL_hashRepeated 4 = .ok (.iload_n 2, 1) := by decide +kernel
theorem dL_hashRepeated_5 : decode cL_hashRepeated 5 = .ok (.invokevirtual 86, 3) := by decide +kernel
theorem dL_hashRepeated_8 : decode cL_hashRepeated 8 = .ok (.i2l, 1) := by decide +kernel
theorem dL_hashRepeated_9 : decode cL_hashRepeated 9 = .ok (.lastore, 1) := by decide +kernel
theorem dL_hashRepeated_10 : decode cL_hashRepeated 10 = .ok (.goto 11, 3) := by decide +kernel
theorem dL_hashRepeated_13 : decode cL_hashRepeated 13 = .ok (.astore 4, 2) := by decide +kernel
theorem dL_hashRepeated_15 : decode cL_hashRepeated 15 = .ok (.iconst 1, 1) := by decide +kernel
theorem dL_hashRepeated_16 : decode cL_hashRepeated 16 = .ok (.ireturn, 1) := by decide +kernel
theorem dL_hashRepeated_17 : decode cL_hashRepeated 17 = .ok (.astore 4, 2) := by decide +kernel
theorem dL_hashRepeated_19 : decode cL_hashRepeated 19 = .ok (.iconst 2, 1) := by decide +kernel
theorem dL_hashRepeated_20 : decode cL_hashRepeated 20 = .ok (.ireturn, 1) := by decide +kernel
theorem dL_hashRepeated_21 : decode cL_hashRepeated 21 = .ok (.iconst 0, 1) := by decide +kernel
theorem dL_hashRepeated_22 : decode cL_hashRepeated 22 = .ok (.ireturn, 1) := by decide +kernel
set_option maxRecDepth 20000 in
theorem ggL_periods_X5_periods : GoodIn wsL_periods wsX5_periods := goodIn_ca (goodIn_ca (goodIn_r _ [6, 7, 8, 9, 5, 10, 11, 12, 13, 14, 15, 16, 17, 18, 19, 20, 21, 22, 23, 24, 25, 26, 27, 28, 29, 30, 31, 32, 33, 34, 35, 36, 37, 38, 39, 40, 41, 42] (by decide +kernel) (by decide +kernel)) (goodIn_sub (fun _ h => List.mem_cons_of_mem _ (List.mem_append_right _ h)) (by decide +kernel))) (goodIn_sub (fun _ h => List.mem_cons_of_mem _ (List.mem_append_left _ (List.mem_append_right _ h))) (by decide +kernel))
set_option maxRecDepth 20000 in
theorem gL_periods_X5_periods : GoodIn wsL_periods (wsV RL 89 RX5 yX5_periods wsX5_periods) := goodIn_app (goodIn_of _ (by decide +kernel)) ggL_periods_X5_periods
theorem dL_periods_0 : decode cL_periods 0 = .ok (.aload_n 2, 1) := by decide +kernel
theorem dL_periods_1 : decode cL_periods 1 = .ok (.iconst 0, 1) := by decide +kernel
theorem dL_periods_2 : decode cL_periods 2 = .ok (.aload_n 0, 1) := by decide +kernel
theorem dL_periods_3 : decode cL_periods 3 = .ok (.iload_n 1, 1) := by decide +kernel
theorem dL_periods_4 : decode cL_periods 4 = .ok (.invokevirtual 89, 3) := by decide +kernel
theorem dL_periods_7 : decode cL_periods 7 = .ok (.i2l, 1) := by decide +kernel
theorem dL_periods_8 : decode cL_periods 8 = .ok (.lastore, 1) := by decide +kernel
theorem dL_periods_9 : decode cL_periods 9 = .ok (.goto 6, 3) := by decide +kernel
theorem dL_periods_12 : decode cL_periods 12 = .ok (.astore_n 3, 1) := by decide +kernel
theorem dL_periods_13 : decode cL_periods 13 = .ok (.iconst 1, 1) := by decide +kernel
theorem dL_periods_14 : decode cL_periods 14 = .ok (.ireturn, 1) := by decide +kernel
theorem dL_periods_15 : decode cL_periods 15 = .ok (.iconst 0, 1) := by decide +kernel
theorem dL_periods_16 : decode cL_periods 16 = .ok (.ireturn, 1) := by decide +kernel
set_option maxRecDepth 20000 in
theorem ggL_periodAt_X5_periodAt : GoodIn wsL_periodAt wsX5_periodAt := goodIn_ca (goodIn_ca (goodIn_ca (goodIn_r _ [7, 8, 9, 10, 11, 12, 6, 13, 14, 15, 16, 17, 18, 19, 20, 21, 22, 23, 24, 25, 26, 27, 28, 29, 30, 31, 32, 33, 34, 35, 36, 37, 38, 39, 40, 41, 42, 43, 44, 45] (by decide +kernel) (by decide +kernel)) (goodIn_sub (fun _ h => List.mem_cons_of_mem _ (List.mem_append_left _ (List.mem_append_right _ h))) (by decide +kernel))) (goodIn_sub (fun _ h => List.mem_cons_of_mem _ (List.mem_append_right _ h)) (by decide +kernel))) (goodIn_sub (fun _ h => List.mem_cons_of_mem _ (List.mem_append_left _ (List.mem_append_left _ (List.mem_append_right _ h)))) (by decide +kernel))
set_option maxRecDepth 20000 in
theorem gL_periodAt_X5_periodAt : GoodIn wsL_periodAt (wsV RL 92 RX5 yX5_periodAt wsX5_periodAt) := goodIn_app (goodIn_of _ (by decide +kernel)) ggL_periodAt_X5_periodAt
theorem dL_periodAt_0 : decode cL_periodAt 0 = .ok (.aload_n 3, 1) := by decide +kernel
theorem dL_periodAt_1 : decode cL_periodAt 1 = .ok (.iconst 0, 1) := by decide +kernel
theorem dL_periodAt_2 : decode cL_periodAt 2 = .ok (.aload_n 0, 1) := by decide +kernel
theorem dL_periodAt_3 : decode cL_periodAt 3 = .ok (.iload_n 1, 1) := by decide +kernel
theorem dL_periodAt_4 : decode cL_periodAt 4 = .ok (.iload_n 2, 1) := by decide +kernel
theorem dL_periodAt_5 : decode cL_periodAt 5 = .ok (.invokevirtual 92, 3) := by decide +kernel
theorem dL_periodAt_8 : decode cL_periodAt 8 = .ok (.i2l, 1) := by decide +kernel
theorem dL_periodAt_9 : decode cL_periodAt 9 = .ok (.lastore, 1) := by decide +kernel
theorem dL_periodAt_10 : decode cL_periodAt 10 = .ok (.goto 11, 3) := by decide +kernel
theorem dL_periodAt_13 : decode cL_periodAt 13 = .ok (.astore 4, 2) := by decide +kernel
theorem dL_periodAt_15 : decode cL_periodAt 15 = .ok (.iconst 1, 1) := by decide +kernel
theorem dL_periodAt_16 : decode cL_periodAt 16 = .ok (.ireturn, 1) := by decide +kernel
theorem dL_periodAt_17 : decode cL_periodAt 17 = .ok (.astore 4, 2) := by decide +kernel
theorem dL_periodAt_19 : decode cL_periodAt 19 = .ok (.iconst 2, 1) := by decide +kernel
theorem dL_periodAt_20 : decode cL_periodAt 20 = .ok (.ireturn, 1) := by decide +kernel
theorem dL_periodAt_21 : decode cL_periodAt 21 = .ok (.iconst 0, 1) := by decide +kernel
theorem dL_periodAt_22 : decode cL_periodAt 22 = .ok (.ireturn, 1) := by decide +kernel
set_option maxRecDepth 20000 in
theorem ggL_border_X5_border : GoodIn wsL_border wsX5_border := goodIn_ca (goodIn_ca (goodIn_ca (goodIn_r _ [7, 8, 9, 10, 6, 11, 12, 13, 14, 15, 16, 17, 18, 19, 20, 21, 22, 23, 24, 25, 26, 27, 28, 29, 30, 31, 32, 33, 34, 35, 36, 37, 38, 39, 40, 41, 42, 43, 44, 45, 46, 47, 48, 49, 50, 51, 52, 53, 54, 55, 56, 57, 58, 59, 60, 61, 62, 63, 64, 65, 66, 67, 68, 69, 70, 71, 72, 73, 74, 75, 76, 77, 78, 79, 80, 81, 82, 83, 84, 85, 86, 87] (by decide +kernel) (by decide +kernel)) (goodIn_sub (fun _ h => List.mem_cons_of_mem _ (List.mem_append_left _ (List.mem_append_right _ h))) (by decide +kernel))) (goodIn_sub (fun _ h => List.mem_cons_of_mem _ (List.mem_append_right _ h)) (by decide +kernel))) (goodIn_sub (fun _ h => List.mem_cons_of_mem _ (List.mem_append_left _ (List.mem_append_left _ (List.mem_append_right _ h)))) (by decide +kernel))
set_option maxRecDepth 20000 in
theorem gL_border_X5_border : GoodIn wsL_border (wsV RL 97 RX5 yX5_border wsX5_border) := goodIn_app (goodIn_of _ (by decide +kernel)) ggL_border_X5_border
theorem dL_border_0 : decode cL_border 0 = .ok (.aload_n 3, 1) := by decide +kernel
theorem dL_border_1 : decode cL_border 1 = .ok (.iconst 0, 1) := by decide +kernel
theorem dL_border_2 : decode cL_border 2 = .ok (.aload_n 0, 1) := by decide +kernel
theorem dL_border_3 : decode cL_border 3 = .ok (.iload_n 1, 1) := by decide +kernel
theorem dL_border_4 : decode cL_border 4 = .ok (.iload_n 2, 1) := by decide +kernel
theorem dL_border_5 : decode cL_border 5 = .ok (.invokevirtual 97, 3) := by decide +kernel
theorem dL_border_8 : decode cL_border 8 = .ok (.i2l, 1) := by decide +kernel
theorem dL_border_9 : decode cL_border 9 = .ok (.lastore, 1) := by decide +kernel
theorem dL_border_10 : decode cL_border 10 = .ok (.goto 11, 3) := by decide +kernel
theorem dL_border_13 : decode cL_border 13 = .ok (.astore 4, 2) := by decide +kernel
theorem dL_border_15 : decode cL_border 15 = .ok (.iconst 1, 1) := by decide +kernel
theorem dL_border_16 : decode cL_border 16 = .ok (.ireturn, 1) := by decide +kernel
theorem dL_border_17 : decode cL_border 17 = .ok (.astore 4, 2) := by decide +kernel
theorem dL_border_19 : decode cL_border 19 = .ok (.iconst 2, 1) := by decide +kernel
theorem dL_border_20 : decode cL_border 20 = .ok (.ireturn, 1) := by decide +kernel
theorem dL_border_21 : decode cL_border 21 = .ok (.iconst 0, 1) := by decide +kernel
theorem dL_border_22 : decode cL_border 22 = .ok (.ireturn, 1) := by decide +kernel
set_option maxRecDepth 20000 in
theorem ggL_root_X5_root : GoodIn wsL_root wsX5_root := goodIn_ca (goodIn_ca (goodIn_ca (goodIn_ca (goodIn_r _ [7, 8, 9, 10, 6, 11, 12, 13, 14, 15, 16, 17, 18, 19, 20, 21, 22, 23, 24, 25, 26, 27, 28, 29, 30, 31, 32, 33, 34, 35, 36, 37, 38, 39, 40, 41, 42, 43, 44, 45, 46, 47, 48, 49, 50, 51, 52, 53, 54, 55, 56, 57, 58, 59, 60, 61, 62, 63, 64, 65, 66, 67, 68, 69, 70, 71, 72, 73, 74, 75, 76, 77, 78, 79, 80, 81, 82, 83, 84, 85, 86, 87] (by decide +kernel) (by decide +kernel)) (goodIn_sub (fun _ h => List.mem_cons_of_mem _ (List.mem_append_left _ (List.mem_append_left _ (List.mem_append_right _ h)))) (by decide +kernel))) (goodIn_sub (fun _ h => List.mem_cons_of_mem _ (List.mem_append_left _ (List.mem_append_right _ h))) (by decide +kernel))) (goodIn_sub (fun _ h => List.mem_cons_of_mem _ (List.mem_append_right _ h)) (by decide +kernel))) (goodIn_sub (fun _ h => List.mem_cons_of_mem _ (List.mem_append_left _ (List.mem_append_left _ (List.mem_append_left _ (List.mem_append_right _ h))))) (by decide +kernel))
set_option maxRecDepth 20000 in
theorem gL_root_X5_root : GoodIn wsL_root (wsV RL 100 RX5 yX5_root wsX5_root) := goodIn_app (goodIn_of _ (by decide +kernel)) ggL_root_X5_root
theorem dL_root_0 : decode cL_root 0 = .ok (.aload_n 3, 1) := by decide +kernel
theorem dL_root_1 : decode cL_root 1 = .ok (.iconst 0, 1) := by decide +kernel
theorem dL_root_2 : decode cL_root 2 = .ok (.aload_n 0, 1) := by decide +kernel
theorem dL_root_3 : decode cL_root 3 = .ok (.iload_n 1, 1) := by decide +kernel
theorem dL_root_4 : decode cL_root 4 = .ok (.iload_n 2, 1) := by decide +kernel
theorem dL_root_5 : decode cL_root 5 = .ok (.invokevirtual 100, 3) := by decide +kernel
theorem dL_root_8 : decode cL_root 8 = .ok (.i2l, 1) := by decide +kernel
theorem dL_root_9 : decode cL_root 9 = .ok (.lastore, 1) := by decide +kernel
theorem dL_root_10 : decode cL_root 10 = .ok (.goto 11, 3) := by decide +kernel
theorem dL_root_13 : decode cL_root 13 = .ok (.astore 4, 2) := by decide +kernel
theorem dL_root_15 : decode cL_root 15 = .ok (.iconst 1, 1) := by decide +kernel
theorem dL_root_16 : decode cL_root 16 = .ok (.ireturn, 1) := by decide +kernel
theorem dL_root_17 : decode cL_root 17 = .ok (.astore 4, 2) := by decide +kernel
theorem dL_root_19 : decode cL_root 19 = .ok (.iconst 2, 1) := by decide +kernel
theorem dL_root_20 : decode cL_root 20 = .ok (.ireturn, 1) := by decide +kernel
theorem dL_root_21 : decode cL_root 21 = .ok (.iconst 0, 1) := by decide +kernel
theorem dL_root_22 : decode cL_root 22 = .ok (.ireturn, 1) := by decide +kernel
set_option maxRecDepth 20000 in
theorem ggL_turnTo_X5_turnTo : GoodIn wsL_turnTo wsX5_turnTo := goodIn_ca (goodIn_ca (goodIn_r _ [6, 7, 8, 9, 5, 10, 11, 12, 13, 14, 15, 16, 17, 18, 19, 20, 21, 22, 23, 24, 25, 26, 27, 28, 29, 30, 31, 32, 33, 34, 35, 36, 37, 38, 39, 40, 41, 42] (by decide +kernel) (by decide +kernel)) (goodIn_sub (fun _ h => List.mem_cons_of_mem _ (List.mem_append_right _ h)) (by decide +kernel))) (goodIn_sub (fun _ h => List.mem_cons_of_mem _ (List.mem_append_left _ (List.mem_append_right _ h))) (by decide +kernel))
set_option maxRecDepth 20000 in
theorem gL_turnTo_X5_turnTo : GoodIn wsL_turnTo (wsV RL 103 RX5 yX5_turnTo wsX5_turnTo) := goodIn_app (goodIn_of _ (by decide +kernel)) ggL_turnTo_X5_turnTo
theorem dL_turnTo_0 : decode cL_turnTo 0 = .ok (.aload_n 3, 1) := by decide +kernel
theorem dL_turnTo_1 : decode cL_turnTo 1 = .ok (.iconst 0, 1) := by decide +kernel
theorem dL_turnTo_2 : decode cL_turnTo 2 = .ok (.aload_n 0, 1) := by decide +kernel
theorem dL_turnTo_3 : decode cL_turnTo 3 = .ok (.iload_n 1, 1) := by decide +kernel
theorem dL_turnTo_4 : decode cL_turnTo 4 = .ok (.iload_n 2, 1) := by decide +kernel
theorem dL_turnTo_5 : decode cL_turnTo 5 = .ok (.invokevirtual 103, 3) := by decide +kernel
theorem dL_turnTo_8 : decode cL_turnTo 8 = .ok (.i2l, 1) := by decide +kernel
theorem dL_turnTo_9 : decode cL_turnTo 9 = .ok (.lastore, 1) := by decide +kernel
theorem dL_turnTo_10 : decode cL_turnTo 10 = .ok (.goto 7, 3) := by decide +kernel
theorem dL_turnTo_13 : decode cL_turnTo 13 = .ok (.astore 4, 2) := by decide +kernel
theorem dL_turnTo_15 : decode cL_turnTo 15 = .ok (.iconst 1, 1) := by decide +kernel
theorem dL_turnTo_16 : decode cL_turnTo 16 = .ok (.ireturn, 1) := by decide +kernel
theorem dL_turnTo_17 : decode cL_turnTo 17 = .ok (.iconst 0, 1) := by decide +kernel
theorem dL_turnTo_18 : decode cL_turnTo 18 = .ok (.ireturn, 1) := by decide +kernel
set_option maxRecDepth 20000 in
theorem ggL_turnings_X5_turnings : GoodIn wsL_turnings wsX5_turnings := goodIn_ca (goodIn_ca (goodIn_ca (goodIn_r _ [6, 7, 8, 9, 5, 10, 11, 12, 13, 14, 15, 16, 17, 18, 19, 20, 21, 22, 23, 24, 25, 26, 27, 28, 29, 30, 31, 32, 33, 34, 35, 36, 37, 38, 39, 40, 41, 42, 43, 44, 45, 46] (by decide +kernel) (by decide +kernel)) (goodIn_sub (fun _ h => List.mem_cons_of_mem _ (List.mem_append_left _ (List.mem_append_right _ h))) (by decide +kernel))) (goodIn_sub (fun _ h => List.mem_cons_of_mem _ (List.mem_append_right _ h)) (by decide +kernel))) (goodIn_sub (fun _ h => List.mem_cons_of_mem _ (List.mem_append_left _ (List.mem_append_left _ (List.mem_append_right _ h)))) (by decide +kernel))
set_option maxRecDepth 20000 in
theorem gL_turnings_X5_turnings : GoodIn wsL_turnings (wsV RL 106 RX5 yX5_turnings wsX5_turnings) := goodIn_app (goodIn_of _ (by decide +kernel)) ggL_turnings_X5_turnings
theorem dL_turnings_0 : decode cL_turnings 0 = .ok (.aload_n 2, 1) := by decide +kernel
theorem dL_turnings_1 : decode cL_turnings 1 = .ok (.iconst 0, 1) := by decide +kernel
theorem dL_turnings_2 : decode cL_turnings 2 = .ok (.aload_n 0, 1) := by decide +kernel
theorem dL_turnings_3 : decode cL_turnings 3 = .ok (.iload_n 1, 1) := by decide +kernel
theorem dL_turnings_4 : decode cL_turnings 4 = .ok (.invokevirtual 106, 3) := by decide +kernel
theorem dL_turnings_7 : decode cL_turnings 7 = .ok (.i2l, 1) := by decide +kernel
theorem dL_turnings_8 : decode cL_turnings 8 = .ok (.lastore, 1) := by decide +kernel
theorem dL_turnings_9 : decode cL_turnings 9 = .ok (.goto 6, 3) := by decide +kernel
theorem dL_turnings_12 : decode cL_turnings 12 = .ok (.astore_n 3, 1) := by decide +kernel
theorem dL_turnings_13 : decode cL_turnings 13 = .ok (.iconst 1, 1) := by decide +kernel
theorem dL_turnings_14 : decode cL_turnings 14 = .ok (.ireturn, 1) := by decide +kernel
theorem dL_turnings_15 : decode cL_turnings 15 = .ok (.iconst 0, 1) := by decide +kernel
theorem dL_turnings_16 : decode cL_turnings 16 = .ok (.ireturn, 1) := by decide +kernel
set_option maxRecDepth 20000 in
theorem ggL_leastTurn_X5_leastTurn : GoodIn wsL_leastTurn wsX5_leastTurn := goodIn_ca (goodIn_ca (goodIn_r _ [6, 7, 8, 9, 5, 10, 11, 12, 13, 14, 15, 16, 17, 18, 19, 20, 21, 22, 23, 24, 25, 26, 27, 28, 29, 30, 31, 32, 33, 34, 35, 36, 37, 38] (by decide +kernel) (by decide +kernel)) (goodIn_sub (fun _ h => List.mem_cons_of_mem _ (List.mem_append_right _ h)) (by decide +kernel))) (goodIn_sub (fun _ h => List.mem_cons_of_mem _ (List.mem_append_left _ (List.mem_append_right _ h))) (by decide +kernel))
set_option maxRecDepth 20000 in
theorem gL_leastTurn_X5_leastTurn : GoodIn wsL_leastTurn (wsV RL 109 RX5 yX5_leastTurn wsX5_leastTurn) := goodIn_app (goodIn_of _ (by decide +kernel)) ggL_leastTurn_X5_leastTurn
theorem dL_leastTurn_0 : decode cL_leastTurn 0 = .ok (.aload_n 2, 1) := by decide +kernel
theorem dL_leastTurn_1 : decode cL_leastTurn 1 = .ok (.iconst 0, 1) := by decide +kernel
theorem dL_leastTurn_2 : decode cL_leastTurn 2 = .ok (.aload_n 0, 1) := by decide +kernel
theorem dL_leastTurn_3 : decode cL_leastTurn 3 = .ok (.iload_n 1, 1) := by decide +kernel
theorem dL_leastTurn_4 : decode cL_leastTurn 4 = .ok (.invokevirtual 109, 3) := by decide +kernel
theorem dL_leastTurn_7 : decode cL_leastTurn 7 = .ok (.i2l, 1) := by decide +kernel
theorem dL_leastTurn_8 : decode cL_leastTurn 8 = .ok (.lastore, 1) := by decide +kernel
theorem dL_leastTurn_9 : decode cL_leastTurn 9 = .ok (.goto 6, 3) := by decide +kernel
theorem dL_leastTurn_12 : decode cL_leastTurn 12 = .ok (.astore_n 3, 1) := by decide +kernel
theorem dL_leastTurn_13 : decode cL_leastTurn 13 = .ok (.iconst 1, 1) := by decide +kernel
theorem dL_leastTurn_14 : decode cL_leastTurn 14 = .ok (.ireturn, 1) := by decide +kernel
theorem dL_leastTurn_15 : decode cL_leastTurn 15 = .ok (.iconst 0, 1) := by decide +kernel
theorem dL_leastTurn_16 : decode cL_leastTurn 16 = .ok (.ireturn, 1) := by decide +kernel
set_option maxRecDepth 20000 in
theorem ggL_factors_X5_factors : GoodIn wsL_factors wsX5_factors := goodIn_ca (goodIn_ca (goodIn_r _ [6, 7, 8, 9, 5, 10, 11, 12, 13, 14, 15, 16, 17, 18, 19, 20, 21, 22, 23, 24, 25, 26, 27, 28, 29, 30, 31, 32, 33, 34, 35, 36, 37] (by decide +kernel) (by decide +kernel)) (goodIn_sub (fun _ h => List.mem_cons_of_mem _ (List.mem_append_right _ h)) (by decide +kernel))) (goodIn_sub (fun _ h => List.mem_cons_of_mem _ (List.mem_append_left _ (List.mem_append_right _ h))) (by decide +kernel))
set_option maxRecDepth 20000 in
theorem gL_factors_X5_factors : GoodIn wsL_factors (wsV RL 112 RX5 yX5_factors wsX5_factors) := goodIn_app (goodIn_of _ (by decide +kernel)) ggL_factors_X5_factors
theorem dL_factors_0 : decode cL_factors 0 = .ok (.aload_n 2, 1) := by decide +kernel
theorem dL_factors_1 : decode cL_factors 1 = .ok (.iconst 0, 1) := by decide +kernel
theorem dL_factors_2 : decode cL_factors 2 = .ok (.aload_n 0, 1) := by decide +kernel
theorem dL_factors_3 : decode cL_factors 3 = .ok (.iload_n 1, 1) := by decide +kernel
theorem dL_factors_4 : decode cL_factors 4 = .ok (.invokevirtual 112, 3) := by decide +kernel
theorem dL_factors_7 : decode cL_factors 7 = .ok (.i2l, 1) := by decide +kernel
theorem dL_factors_8 : decode cL_factors 8 = .ok (.lastore, 1) := by decide +kernel
theorem dL_factors_9 : decode cL_factors 9 = .ok (.goto 6, 3) := by decide +kernel
theorem dL_factors_12 : decode cL_factors 12 = .ok (.astore_n 3, 1) := by decide +kernel
theorem dL_factors_13 : decode cL_factors 13 = .ok (.iconst 1, 1) := by decide +kernel
theorem dL_factors_14 : decode cL_factors 14 = .ok (.ireturn, 1) := by decide +kernel
theorem dL_factors_15 : decode cL_factors 15 = .ok (.iconst 0, 1) := by decide +kernel
theorem dL_factors_16 : decode cL_factors 16 = .ok (.ireturn, 1) := by decide +kernel
set_option maxRecDepth 20000 in
theorem ggL_factorAt_X5_factorAt : GoodIn wsL_factorAt wsX5_factorAt := goodIn_ca (goodIn_ca (goodIn_ca (goodIn_r _ [7, 8, 9, 10, 11, 12, 6, 13, 14, 15, 16, 17, 18, 19, 20, 21, 22, 23, 24, 25, 26, 27, 28, 29, 30, 31, 32, 33, 34, 35, 36, 37, 38, 39, 40, 41] (by decide +kernel) (by decide +kernel)) (goodIn_sub (fun _ h => List.mem_cons_of_mem _ (List.mem_append_left _ (List.mem_append_right _ h))) (by decide +kernel))) (goodIn_sub (fun _ h => List.mem_cons_of_mem _ (List.mem_append_right _ h)) (by decide +kernel))) (goodIn_sub (fun _ h => List.mem_cons_of_mem _ (List.mem_append_left _ (List.mem_append_left _ (List.mem_append_right _ h)))) (by decide +kernel))
set_option maxRecDepth 20000 in
theorem gL_factorAt_X5_factorAt : GoodIn wsL_factorAt (wsV RL 115 RX5 yX5_factorAt wsX5_factorAt) := goodIn_app (goodIn_of _ (by decide +kernel)) ggL_factorAt_X5_factorAt
theorem dL_factorAt_0 : decode cL_factorAt 0 = .ok (.aload_n 3, 1) := by decide +kernel
theorem dL_factorAt_1 : decode cL_factorAt 1 = .ok (.iconst 0, 1) := by decide +kernel
theorem dL_factorAt_2 : decode cL_factorAt 2 = .ok (.aload_n 0, 1) := by decide +kernel
theorem dL_factorAt_3 : decode cL_factorAt 3 = .ok (.iload_n 1, 1) := by decide +kernel
theorem dL_factorAt_4 : decode cL_factorAt 4 = .ok (.iload_n 2, 1) := by decide +kernel
theorem dL_factorAt_5 : decode cL_factorAt 5 = .ok (.invokevirtual 115, 3) := by decide +kernel
theorem dL_factorAt_8 : decode cL_factorAt 8 = .ok (.i2l, 1) := by decide +kernel
theorem dL_factorAt_9 : decode cL_factorAt 9 = .ok (.lastore, 1) := by decide +kernel
theorem dL_factorAt_10 : decode cL_factorAt 10 = .ok (.goto 11, 3) := by decide +kernel
theorem dL_factorAt_13 : decode cL_factorAt 13 = .ok (.astore 4, 2) := by decide +kernel
theorem dL_factorAt_15 : decode cL_factorAt 15 = .ok (.iconst 1, 1) := by decide +kernel
theorem dL_factorAt_16 : decode cL_factorAt 16 = .ok (.ireturn, 1) := by decide +kernel
theorem dL_factorAt_17 : decode cL_factorAt 17 = .ok (.astore 4, 2) := by decide +kernel
theorem dL_factorAt_19 : decode cL_factorAt 19 = .ok (.iconst 2, 1) := by decide +kernel
theorem dL_factorAt_20 : decode cL_factorAt 20 = .ok (.ireturn, 1) := by decide +kernel
theorem dL_factorAt_21 : decode cL_factorAt 21 = .ok (.iconst 0, 1) := by decide +kernel
theorem dL_factorAt_22 : decode cL_factorAt 22 = .ok (.ireturn, 1) := by decide +kernel
set_option maxRecDepth 20000 in
theorem ggL_endAt_X5_endAt : GoodIn wsL_endAt wsX5_endAt := goodIn_ca (goodIn_ca (goodIn_ca (goodIn_r _ [7, 8, 9, 10, 11, 12, 13, 6, 14, 15, 16, 17, 18, 19, 20, 21, 22, 23, 24, 25, 26, 27, 28, 29, 30, 31, 32, 33, 34, 35, 36, 37, 38, 39, 40, 41, 42, 43, 44, 45, 46, 47, 48, 49, 50, 51, 52, 53, 54, 55, 56, 57, 58, 59, 60, 61, 62, 63, 64] (by decide +kernel) (by decide +kernel)) (goodIn_sub (fun _ h => List.mem_cons_of_mem _ (List.mem_append_left _ (List.mem_append_right _ h))) (by decide +kernel))) (goodIn_sub (fun _ h => List.mem_cons_of_mem _ (List.mem_append_right _ h)) (by decide +kernel))) (goodIn_sub (fun _ h => List.mem_cons_of_mem _ (List.mem_append_left _ (List.mem_append_left _ (List.mem_append_right _ h)))) (by decide +kernel))
set_option maxRecDepth 20000 in
theorem gL_endAt_X5_endAt : GoodIn wsL_endAt (wsV RL 118 RX5 yX5_endAt wsX5_endAt) := goodIn_app (goodIn_of _ (by decide +kernel)) ggL_endAt_X5_endAt
theorem dL_endAt_0 : decode cL_endAt 0 = .ok (.aload_n 3, 1) := by decide +kernel
theorem dL_endAt_1 : decode cL_endAt 1 = .ok (.iconst 0, 1) := by decide +kernel
theorem dL_endAt_2 : decode cL_endAt 2 = .ok (.aload_n 0, 1) := by decide +kernel
theorem dL_endAt_3 : decode cL_endAt 3 = .ok (.iload_n 1, 1) := by decide +kernel
theorem dL_endAt_4 : decode cL_endAt 4 = .ok (.iload_n 2, 1) := by decide +kernel
theorem dL_endAt_5 : decode cL_endAt 5 = .ok (.invokevirtual 118, 3) := by decide +kernel
theorem dL_endAt_8 : decode cL_endAt 8 = .ok (.i2l, 1) := by decide +kernel
theorem dL_endAt_9 : decode cL_endAt 9 = .ok (.lastore, 1) := by decide +kernel
theorem dL_endAt_10 : decode cL_endAt 10 = .ok (.goto 11, 3) := by decide +kernel
theorem dL_endAt_13 : decode cL_endAt 13 = .ok (.astore 4, 2) := by decide +kernel
theorem dL_endAt_15 : decode cL_endAt 15 = .ok (.iconst 1, 1) := by decide +kernel
theorem dL_endAt_16 : decode cL_endAt 16 = .ok (.ireturn, 1) := by decide +kernel
theorem dL_endAt_17 : decode cL_endAt 17 = .ok (.astore 4, 2) := by decide +kernel
theorem dL_endAt_19 : decode cL_endAt 19 = .ok (.iconst 2, 1) := by decide +kernel
theorem dL_endAt_20 : decode cL_endAt 20 = .ok (.ireturn, 1) := by decide +kernel
theorem dL_endAt_21 : decode cL_endAt 21 = .ok (.iconst 0, 1) := by decide +kernel
theorem dL_endAt_22 : decode cL_endAt 22 = .ok (.ireturn, 1) := by decide +kernel
set_option maxRecDepth 20000 in
theorem ggL_rankOf_X5_rankOf : GoodIn wsL_rankOf wsX5_rankOf := goodIn_ca (goodIn_ca (goodIn_r _ [6, 7, 8, 9, 10, 5, 11, 12, 13, 14, 15, 16, 17, 18, 19, 20, 21, 22, 23, 24, 25, 26, 27, 28, 29, 30, 31, 32, 33, 34, 35, 36, 37, 38, 39, 40, 41, 42, 43, 44, 45, 46, 47, 48, 49, 50, 51, 52, 53, 54, 55, 56, 57, 58, 59, 60, 61] (by decide +kernel) (by decide +kernel)) (goodIn_sub (fun _ h => List.mem_cons_of_mem _ (List.mem_append_right _ h)) (by decide +kernel))) (goodIn_sub (fun _ h => List.mem_cons_of_mem _ (List.mem_append_left _ (List.mem_append_right _ h))) (by decide +kernel))
set_option maxRecDepth 20000 in
theorem gL_rankOf_X5_rankOf : GoodIn wsL_rankOf (wsV RL 121 RX5 yX5_rankOf wsX5_rankOf) := goodIn_app (goodIn_of _ (by decide +kernel)) ggL_rankOf_X5_rankOf
theorem dL_rankOf_0 : decode cL_rankOf 0 = .ok (.aload_n 3, 1) := by decide +kernel
theorem dL_rankOf_1 : decode cL_rankOf 1 = .ok (.iconst 0, 1) := by decide +kernel
theorem dL_rankOf_2 : decode cL_rankOf 2 = .ok (.aload_n 0, 1) := by decide +kernel
theorem dL_rankOf_3 : decode cL_rankOf 3 = .ok (.iload_n 1, 1) := by decide +kernel
theorem dL_rankOf_4 : decode cL_rankOf 4 = .ok (.iload_n 2, 1) := by decide +kernel
theorem dL_rankOf_5 : decode cL_rankOf 5 = .ok (.invokevirtual 121, 3) := by decide +kernel
theorem dL_rankOf_8 : decode cL_rankOf 8 = .ok (.i2l, 1) := by decide +kernel
theorem dL_rankOf_9 : decode cL_rankOf 9 = .ok (.lastore, 1) := by decide +kernel
theorem dL_rankOf_10 : decode cL_rankOf 10 = .ok (.goto 7, 3) := by decide +kernel
theorem dL_rankOf_13 : decode cL_rankOf 13 = .ok (.astore 4, 2) := by decide +kernel
theorem dL_rankOf_15 : decode cL_rankOf 15 = .ok (.iconst 1, 1) := by decide +kernel
theorem dL_rankOf_16 : decode cL_rankOf 16 = .ok (.ireturn, 1) := by decide +kernel
theorem dL_rankOf_17 : decode cL_rankOf 17 = .ok (.iconst 0, 1) := by decide +kernel
theorem dL_rankOf_18 : decode cL_rankOf 18 = .ok (.ireturn, 1) := by decide +kernel
set_option maxRecDepth 20000 in
theorem ggL_unlikeParts_X5_unlikeParts : GoodIn wsL_unlikeParts wsX5_unlikeParts := goodIn_ca (goodIn_ca (goodIn_r _ [6, 7, 8, 9, 10, 5, 11, 12, 13, 14, 15, 16, 17, 18, 19, 20, 21, 22, 23, 24, 25, 26, 27, 28, 29, 30, 31, 32, 33, 34, 35, 36, 37, 38, 39, 40, 41, 42, 43, 44, 45, 46, 47, 48, 49, 50, 51, 52, 53, 54, 55, 56, 57, 58, 59, 60, 61, 62, 63, 64, 65, 66, 67, 68, 69, 70, 71, 72, 73, 74, 75] (by decide +kernel) (by decide +kernel)) (goodIn_sub (fun _ h => List.mem_cons_of_mem _ (List.mem_append_right _ h)) (by decide +kernel))) (goodIn_sub (fun _ h => List.mem_cons_of_mem _ (List.mem_append_left _ (List.mem_append_right _ h))) (by decide +kernel))
set_option maxRecDepth 20000 in
theorem gL_unlikeParts_X5_unlikeParts : GoodIn wsL_unlikeParts (wsV RL 124 RX5 yX5_unlikeParts wsX5_unlikeParts) := goodIn_app (goodIn_of _ (by decide +kernel)) ggL_unlikeParts_X5_unlikeParts
theorem dL_unlikeParts_0 : decode cL_unlikeParts 0 = .ok (.aload_n 2, 1) := by decide +kernel
theorem dL_unlikeParts_1 : decode cL_unlikeParts 1 = .ok (.iconst 0, 1) := by decide +kernel
theorem dL_unlikeParts_2 : decode cL_unlikeParts 2 = .ok (.aload_n 0, 1) := by decide +kernel
theorem dL_unlikeParts_3 : decode cL_unlikeParts 3 = .ok (.iload_n 1, 1) := by decide +kernel
theorem dL_unlikeParts_4 : decode cL_unlikeParts 4 = .ok (.invokevirtual 124, 3) := by decide +kernel
theorem dL_unlikeParts_7 : decode cL_unlikeParts 7 = .ok (.i2l, 1) := by decide +kernel
theorem dL_unlikeParts_8 : decode cL_unlikeParts 8 = .ok (.lastore, 1) := by decide +kernel
theorem dL_unlikeParts_9 : decode cL_unlikeParts 9 = .ok (.goto 6, 3) := by decide +kernel
theorem dL_unlikeParts_12 : decode cL_unlikeParts 12 = .ok (.astore_n 3, 1) := by decide +kernel
theorem dL_unlikeParts_13 : decode cL_unlikeParts 13 = .ok (.iconst 1, 1) := by decide +kernel
theorem dL_unlikeParts_14 : decode cL_unlikeParts 14 = .ok (.ireturn, 1) := by decide +kernel
theorem dL_unlikeParts_15 : decode cL_unlikeParts 15 = .ok (.iconst 0, 1) := by decide +kernel
theorem dL_unlikeParts_16 : decode cL_unlikeParts 16 = .ok (.ireturn, 1) := by decide +kernel
set_option maxRecDepth 20000 in
theorem ggL_twice_X5_twice : GoodIn wsL_twice wsX5_twice := goodIn_ca (goodIn_ca (goodIn_r _ [6, 7, 8, 9, 10, 5, 11, 12, 13, 14, 15, 16, 17, 18, 19, 20, 21, 22, 23, 24, 25, 26, 27, 28, 29, 30, 31, 32, 33, 34, 35, 36, 37, 38, 39, 40, 41, 42, 43, 44, 45, 46, 47, 48, 49, 50, 51, 52, 53, 54, 55, 56, 57, 58, 59, 60, 61, 62, 63, 64, 65, 66, 67, 68, 69, 70, 71, 72, 73, 74, 75, 76, 77, 78, 79, 80, 81, 82, 83, 84, 85, 86, 87, 88, 89, 90, 91, 92, 93, 94, 95, 96, 97, 98, 99, 100, 101, 102, 103, 104, 105, 106] (by decide +kernel) (by decide +kernel)) (goodIn_sub (fun _ h => List.mem_cons_of_mem _ (List.mem_append_right _ h)) (by decide +kernel))) (goodIn_sub (fun _ h => List.mem_cons_of_mem _ (List.mem_append_left _ (List.mem_append_right _ h))) (by decide +kernel))
set_option maxRecDepth 20000 in
theorem gL_twice_X5_twice : GoodIn wsL_twice (wsV RL 127 RX5 yX5_twice wsX5_twice) := goodIn_app (goodIn_of _ (by decide +kernel)) ggL_twice_X5_twice
theorem dL_twice_0 : decode cL_twice 0 = .ok (.aload_n 3, 1) := by decide +kernel
theorem dL_twice_1 : decode cL_twice 1 = .ok (.iconst 0, 1) := by decide +kernel
theorem dL_twice_2 : decode cL_twice 2 = .ok (.aload_n 0, 1) := by decide +kernel
theorem dL_twice_3 : decode cL_twice 3 = .ok (.iload_n 1, 1) := by decide +kernel
theorem dL_twice_4 : decode cL_twice 4 = .ok (.iload_n 2, 1) := by decide +kernel
theorem dL_twice_5 : decode cL_twice 5 = .ok (.invokevirtual 127, 3) := by decide +kernel
theorem dL_twice_8 : decode cL_twice 8 = .ok (.i2l, 1) := by decide +kernel
theorem dL_twice_9 : decode cL_twice 9 = .ok (.lastore, 1) := by decide +kernel
theorem dL_twice_10 : decode cL_twice 10 = .ok (.goto 7, 3) := by decide +kernel
theorem dL_twice_13 : decode cL_twice 13 = .ok (.astore 4, 2) := by decide +kernel
theorem dL_twice_15 : decode cL_twice 15 = .ok (.iconst 1, 1) := by decide +kernel
theorem dL_twice_16 : decode cL_twice 16 = .ok (.ireturn, 1) := by decide +kernel
theorem dL_twice_17 : decode cL_twice 17 = .ok (.iconst 0, 1) := by decide +kernel
theorem dL_twice_18 : decode cL_twice 18 = .ok (.ireturn, 1) := by decide +kernel
set_option maxRecDepth 20000 in
theorem ggL_mirrors_X5_mirrors : GoodIn wsL_mirrors wsX5_mirrors := goodIn_ca (goodIn_ca (goodIn_r _ [6, 7, 8, 9, 10, 5, 11, 12, 13, 14, 15, 16, 17, 18, 19, 20, 21, 22, 23, 24, 25, 26, 27, 28, 29, 30, 31, 32, 33, 34, 35, 36, 37, 38, 39, 40, 41, 42, 43, 44, 45, 46, 47, 48, 49, 50, 51, 52, 53, 54, 55, 56, 57, 58, 59, 60, 61, 62, 63, 64, 65, 66, 67, 68, 69, 70, 71, 72, 73, 74, 75, 76, 77, 78, 79] (by decide +kernel) (by decide +kernel)) (goodIn_sub (fun _ h => List.mem_cons_of_mem _ (List.mem_append_right _ h)) (by decide +kernel))) (goodIn_sub (fun _ h => List.mem_cons_of_mem _ (List.mem_append_left _ (List.mem_append_right _ h))) (by decide +kernel))
set_option maxRecDepth 20000 in
theorem gL_mirrors_X5_mirrors : GoodIn wsL_mirrors (wsV RL 130 RX5 yX5_mirrors wsX5_mirrors) := goodIn_app (goodIn_of _ (by decide +kernel)) ggL_mirrors_X5_mirrors
theorem dL_mirrors_0 : decode cL_mirrors 0 = .ok (.aload_n 2, 1) := by decide +kernel
theorem dL_mirrors_1 : decode cL_mirrors 1 = .ok (.iconst 0, 1) := by decide +kernel
theorem dL_mirrors_2 : decode cL_mirrors 2 = .ok (.aload_n 0, 1) := by decide +kernel
theorem dL_mirrors_3 : decode cL_mirrors 3 = .ok (.iload_n 1, 1) := by decide +kernel
theorem dL_mirrors_4 : decode cL_mirrors 4 = .ok (.invokevirtual 130, 3) := by decide +kernel
theorem dL_mirrors_7 : decode cL_mirrors 7 = .ok (.i2l, 1) := by decide +kernel
theorem dL_mirrors_8 : decode cL_mirrors 8 = .ok (.lastore, 1) := by decide +kernel
theorem dL_mirrors_9 : decode cL_mirrors 9 = .ok (.goto 6, 3) := by decide +kernel
theorem dL_mirrors_12 : decode cL_mirrors 12 = .ok (.astore_n 3, 1) := by decide +kernel
theorem dL_mirrors_13 : decode cL_mirrors 13 = .ok (.iconst 1, 1) := by decide +kernel
theorem dL_mirrors_14 : decode cL_mirrors 14 = .ok (.ireturn, 1) := by decide +kernel
theorem dL_mirrors_15 : decode cL_mirrors 15 = .ok (.iconst 0, 1) := by decide +kernel
theorem dL_mirrors_16 : decode cL_mirrors 16 = .ok (.ireturn, 1) := by decide +kernel
set_option maxRecDepth 20000 in
theorem ggL_commute_X5_commute : GoodIn wsL_commute wsX5_commute := goodIn_ca (goodIn_ca (goodIn_r _ [6, 7, 8, 9, 5, 10, 11, 12, 13, 14, 15, 16, 17, 18, 19, 20, 21, 22, 23, 24, 25, 26, 27, 28, 29, 30, 31, 32, 33, 34, 35, 36, 37] (by decide +kernel) (by decide +kernel)) (goodIn_sub (fun _ h => List.mem_cons_of_mem _ (List.mem_append_right _ h)) (by decide +kernel))) (goodIn_sub (fun _ h => List.mem_cons_of_mem _ (List.mem_append_left _ (List.mem_append_right _ h))) (by decide +kernel))
set_option maxRecDepth 20000 in
theorem gL_commute_X5_commute : GoodIn wsL_commute (wsV RL 133 RX5 yX5_commute wsX5_commute) := goodIn_app (goodIn_of _ (by decide +kernel)) ggL_commute_X5_commute
theorem dL_commute_0 : decode cL_commute 0 = .ok (.aload_n 3, 1) := by decide +kernel
theorem dL_commute_1 : decode cL_commute 1 = .ok (.iconst 0, 1) := by decide +kernel
theorem dL_commute_2 : decode cL_commute 2 = .ok (.aload_n 0, 1) := by decide +kernel
theorem dL_commute_3 : decode cL_commute 3 = .ok (.iload_n 1, 1) := by decide +kernel
theorem dL_commute_4 : decode cL_commute 4 = .ok (.iload_n 2, 1) := by decide +kernel
theorem dL_commute_5 : decode cL_commute 5 = .ok (.invokevirtual 133, 3) := by decide +kernel
theorem dL_commute_8 : decode cL_commute 8 = .ok (.ifCond .eq 7, 3) := by decide +kernel
theorem dL_commute_11 : decode cL_commute 11 = .ok (.lconst 1, 1) := by decide +kernel
theorem dL_commute_12 : decode cL_commute 12 = .ok (.goto 4, 3) := by decide +kernel
theorem dL_commute_15 : decode cL_commute 15 = .ok (.lconst 0, 1) := by decide +kernel
theorem dL_commute_16 : decode cL_commute 16 = .ok (.lastore, 1) := by decide +kernel
theorem dL_commute_17 : decode cL_commute 17 = .ok (.goto 7, 3) := by decide +kernel
theorem dL_commute_20 : decode cL_commute 20 = .ok (.astore 4, 2) := by decide +kernel
theorem dL_commute_22 : decode cL_commute 22 = .ok (.iconst 1, 1) := by decide +kernel
theorem dL_commute_23 : decode cL_commute 23 = .ok (.ireturn, 1) := by decide +kernel
theorem dL_commute_24 : decode cL_commute 24 = .ok (.iconst 0, 1) := by decide +kernel
theorem dL_commute_25 : decode cL_commute 25 = .ok (.ireturn, 1) := by decide +kernel
set_option maxRecDepth 20000 in
theorem ggL_commonRoot_X5_commonRoot : GoodIn wsL_commonRoot wsX5_commonRoot := goodIn_ca (goodIn_ca (goodIn_ca (goodIn_ca (goodIn_r _ [7, 8, 9, 10, 11, 12, 6, 13, 14, 15, 16, 17, 18, 19, 20, 21, 22, 23, 24, 25, 26, 27, 28, 29, 30, 31, 32, 33, 34, 35, 36, 37, 38, 39, 40, 41, 42, 43, 44, 45, 46, 47, 48, 49, 50, 51, 52, 53, 54, 55, 56, 57, 58, 59, 60, 61, 62, 63, 64, 65, 66, 67, 68, 69, 70, 71, 72, 73, 74, 75, 76, 77, 78, 79, 80, 81, 82, 83, 84, 85, 86, 87, 88, 89, 90] (by decide +kernel) (by decide +kernel)) (goodIn_sub (fun _ h => List.mem_cons_of_mem _ (List.mem_append_left _ (List.mem_append_left _ (List.mem_append_right _ h)))) (by decide +kernel))) (goodIn_sub (fun _ h => List.mem_cons_of_mem _ (List.mem_append_left _ (List.mem_append_right _ h))) (by decide +kernel))) (goodIn_sub (fun _ h => List.mem_cons_of_mem _ (List.mem_append_right _ h)) (by decide +kernel))) (goodIn_sub (fun _ h => List.mem_cons_of_mem _ (List.mem_append_left _ (List.mem_append_left _ (List.mem_append_left _ (List.mem_append_right _ h))))) (by decide +kernel))
set_option maxRecDepth 20000 in
theorem gL_commonRoot_X5_commonRoot : GoodIn wsL_commonRoot (wsV RL 136 RX5 yX5_commonRoot wsX5_commonRoot) := goodIn_app (goodIn_of _ (by decide +kernel)) ggL_commonRoot_X5_commonRoot
theorem dL_commonRoot_0 : decode cL_commonRoot 0 = .ok (.aload 4, 2) := by decide +kernel
theorem dL_commonRoot_2 : decode cL_commonRoot 2 = .ok (.iconst 0, 1) := by decide +kernel
theorem dL_commonRoot_3 : decode cL_commonRoot 3 = .ok (.aload_n 0, 1) := by decide +kernel
theorem dL_commonRoot_4 : decode cL_commonRoot 4 = .ok (.iload_n 1, 1) := by decide +kernel
theorem dL_commonRoot_5 : decode cL_commonRoot 5 = .ok (.iload_n 2, 1) := by decide +kernel
theorem dL_commonRoot_6 : decode cL_commonRoot 6 = .ok (.iload_n 3, 1) := by decide +kernel
theorem dL_commonRoot_7 : decode cL_commonRoot 7 = .ok (.invokevirtual 136, 3) := by decide +kernel
theorem dL_commonRoot_10 : decode cL_commonRoot 10 = .ok (.i2l, 1) := by decide +kernel
theorem dL_commonRoot_11 : decode cL_commonRoot 11 = .ok (.lastore, 1) := by decide +kernel
theorem dL_commonRoot_12 : decode cL_commonRoot 12 = .ok (.goto 11, 3) := by decide +kernel
theorem dL_commonRoot_15 : decode cL_commonRoot 15 = .ok (.astore 5, 2) := by decide +kernel
theorem dL_commonRoot_17 : decode cL_commonRoot 17 = .ok (.iconst 1, 1) := by decide +kernel
theorem dL_commonRoot_18 : decode cL_commonRoot 18 = .ok (.ireturn, 1) := by decide +kernel
theorem dL_commonRoot_19 : decode cL_commonRoot 19 = .ok (.astore 5, 2) := by decide +kernel
theorem dL_commonRoot_21 : decode cL_commonRoot 21 = .ok (.iconst 2, 1) := by decide +kernel
theorem dL_commonRoot_22 : decode cL_commonRoot 22 = .ok (.ireturn, 1) := by decide +kernel
theorem dL_commonRoot_23 : decode cL_commonRoot 23 = .ok (.iconst 0, 1) := by decide +kernel
theorem dL_commonRoot_24 : decode cL_commonRoot 24 = .ok (.ireturn, 1) := by decide +kernel
set_option maxRecDepth 20000 in
theorem ggL_ways_X5_ways : GoodIn wsL_ways wsX5_ways := goodIn_ca (goodIn_ca (goodIn_ca (goodIn_r _ [7, 8, 9, 10, 11, 12, 6, 13, 14, 15, 16, 17, 18, 19, 20, 21, 22, 23, 24, 25, 26, 27, 28, 29, 30, 31, 32, 33, 34, 35, 36, 37, 38, 39, 40, 41, 42, 43, 44, 45, 46, 47, 48, 49, 50, 51, 52, 53, 54, 55, 56, 57, 58, 59, 60, 61, 62, 63, 64, 65, 66, 67, 68, 69, 70, 71] (by decide +kernel) (by decide +kernel)) (goodIn_sub (fun _ h => List.mem_cons_of_mem _ (List.mem_append_left _ (List.mem_append_right _ h))) (by decide +kernel))) (goodIn_sub (fun _ h => List.mem_cons_of_mem _ (List.mem_append_right _ h)) (by decide +kernel))) (goodIn_sub (fun _ h => List.mem_cons_of_mem _ (List.mem_append_left _ (List.mem_append_left _ (List.mem_append_right _ h)))) (by decide +kernel))
set_option maxRecDepth 20000 in
theorem gL_ways_X5_ways : GoodIn wsL_ways (wsV RL 139 RX5 yX5_ways wsX5_ways) := goodIn_app (goodIn_of _ (by decide +kernel)) ggL_ways_X5_ways
theorem dL_ways_0 : decode cL_ways 0 = .ok (.aload_n 3, 1) := by decide +kernel
theorem dL_ways_1 : decode cL_ways 1 = .ok (.iconst 0, 1) := by decide +kernel
theorem dL_ways_2 : decode cL_ways 2 = .ok (.aload_n 0, 1) := by decide +kernel
theorem dL_ways_3 : decode cL_ways 3 = .ok (.iload_n 1, 1) := by decide +kernel
theorem dL_ways_4 : decode cL_ways 4 = .ok (.iload_n 2, 1) := by decide +kernel
theorem dL_ways_5 : decode cL_ways 5 = .ok (.invokevirtual 139, 3) := by decide +kernel
theorem dL_ways_8 : decode cL_ways 8 = .ok (.lastore, 1) := by decide +kernel
theorem dL_ways_9 : decode cL_ways 9 = .ok (.goto 11, 3) := by decide +kernel
theorem dL_ways_12 : decode cL_ways 12 = .ok (.astore 4, 2) := by decide +kernel
theorem dL_ways_14 : decode cL_ways 14 = .ok (.iconst 1, 1) := by decide +kernel
theorem dL_ways_15 : decode cL_ways 15 = .ok (.ireturn, 1) := by decide +kernel
theorem dL_ways_16 : decode cL_ways 16 = .ok (.astore 4, 2) := by decide +kernel
theorem dL_ways_18 : decode cL_ways 18 = .ok (.iconst 2, 1) := by decide +kernel
theorem dL_ways_19 : decode cL_ways 19 = .ok (.ireturn, 1) := by decide +kernel
theorem dL_ways_20 : decode cL_ways 20 = .ok (.iconst 0, 1) := by decide +kernel
theorem dL_ways_21 : decode cL_ways 21 = .ok (.ireturn, 1) := by decide +kernel
set_option maxRecDepth 20000 in
theorem ggL_isFree_X5_isFree : GoodIn wsL_isFree wsX5_isFree := goodIn_ca (goodIn_ca (goodIn_r _ [6, 7, 8, 9, 10, 5, 11, 12, 13, 14, 15, 16, 17, 18, 19, 20, 21, 22, 23, 24, 25, 26, 27, 28, 29, 30, 31, 32, 33, 34, 35, 36, 37, 38, 39, 40, 41, 42, 43, 44, 45, 46, 47, 48, 49, 50, 51, 52, 53, 54, 55, 56, 57, 58, 59, 60, 61, 62, 63, 64, 65, 66, 67, 68, 69, 70, 71] (by decide +kernel) (by decide +kernel)) (goodIn_sub (fun _ h => List.mem_cons_of_mem _ (List.mem_append_right _ h)) (by decide +kernel))) (goodIn_sub (fun _ h => List.mem_cons_of_mem _ (List.mem_append_left _ (List.mem_append_right _ h))) (by decide +kernel))
set_option maxRecDepth 20000 in
theorem gL_isFree_X5_isFree : GoodIn wsL_isFree (wsV RL 143 RX5 yX5_isFree wsX5_isFree) := goodIn_app (goodIn_of _ (by decide +kernel)) ggL_isFree_X5_isFree
theorem dL_isFree_0 : decode cL_isFree 0 = .ok (.aload_n 2, 1) := by decide +kernel
theorem dL_isFree_1 : decode cL_isFree 1 = .ok (.iconst 0, 1) := by decide +kernel
theorem dL_isFree_2 : decode cL_isFree 2 = .ok (.aload_n 0, 1) := by decide +kernel
theorem dL_isFree_3 : decode cL_isFree 3 = .ok (.iload_n 1, 1) := by decide +kernel
theorem dL_isFree_4 : decode cL_isFree 4 = .ok (.invokevirtual 143, 3) := by decide +kernel
theorem dL_isFree_7 : decode cL_isFree 7 = .ok (.ifCond .eq 7, 3) := by decide +kernel
theorem dL_isFree_10 : decode cL_isFree 10 = .ok (.lconst 1, 1) := by decide +kernel
theorem dL_isFree_11 : decode cL_isFree 11 = .ok (.goto 4, 3) := by decide +kernel
theorem dL_isFree_14 : decode cL_isFree 14 = .ok (.lconst 0, 1) := by decide +kernel
theorem dL_isFree_15 : decode cL_isFree 15 = .ok (.lastore, 1) := by decide +kernel
theorem dL_isFree_16 : decode cL_isFree 16 = .ok (.goto 6, 3) := by decide +kernel
theorem dL_isFree_19 : decode cL_isFree 19 = .ok (.astore_n 3, 1) := by decide +kernel
theorem dL_isFree_20 : decode cL_isFree 20 = .ok (.iconst 1, 1) := by decide +kernel
theorem dL_isFree_21 : decode cL_isFree 21 = .ok (.ireturn, 1) := by decide +kernel
theorem dL_isFree_22 : decode cL_isFree 22 = .ok (.iconst 0, 1) := by decide +kernel
theorem dL_isFree_23 : decode cL_isFree 23 = .ok (.ireturn, 1) := by decide +kernel
set_option maxRecDepth 20000 in
theorem ggL_rootShare_X5_rootShare : GoodIn wsL_rootShare wsX5_rootShare := goodIn_ca (goodIn_ca (goodIn_ca (goodIn_ca (goodIn_r _ [7, 8, 9, 10, 11, 12, 6, 13, 14, 15, 16, 17, 18, 19, 20, 21, 22, 23, 24, 25, 26, 27, 28, 29, 30, 31, 32, 33, 34, 35, 36, 37, 38, 39, 40, 41, 42, 43, 44, 45, 46, 47, 48, 49, 50, 51, 52, 53] (by decide +kernel) (by decide +kernel)) (goodIn_sub (fun _ h => List.mem_cons_of_mem _ (List.mem_append_left _ (List.mem_append_left _ (List.mem_append_right _ h)))) (by decide +kernel))) (goodIn_sub (fun _ h => List.mem_cons_of_mem _ (List.mem_append_left _ (List.mem_append_right _ h))) (by decide +kernel))) (goodIn_sub (fun _ h => List.mem_cons_of_mem _ (List.mem_append_right _ h)) (by decide +kernel))) (goodIn_sub (fun _ h => List.mem_cons_of_mem _ (List.mem_append_left _ (List.mem_append_left _ (List.mem_append_left _ (List.mem_append_right _ h))))) (by decide +kernel))
set_option maxRecDepth 20000 in
theorem gL_rootShare_X5_rootShare : GoodIn wsL_rootShare (wsV RL 147 RX5 yX5_rootShare wsX5_rootShare) := goodIn_app (goodIn_of _ (by decide +kernel)) ggL_rootShare_X5_rootShare
theorem dL_rootShare_0 : decode cL_rootShare 0 = .ok (.aload_n 2, 1) := by decide +kernel
theorem dL_rootShare_1 : decode cL_rootShare 1 = .ok (.iconst 0, 1) := by decide +kernel
theorem dL_rootShare_2 : decode cL_rootShare 2 = .ok (.aload_n 0, 1) := by decide +kernel
theorem dL_rootShare_3 : decode cL_rootShare 3 = .ok (.iload_n 1, 1) := by decide +kernel
theorem dL_rootShare_4 : decode cL_rootShare 4 = .ok (.invokevirtual 147, 3) := by decide +kernel
theorem dL_rootShare_7 : decode cL_rootShare 7 = .ok (.f2d, 1) := by decide +kernel
theorem dL_rootShare_8 : decode cL_rootShare 8 = .ok (.dastore, 1) := by decide +kernel
theorem dL_rootShare_9 : decode cL_rootShare 9 = .ok (.goto 9, 3) := by decide +kernel
theorem dL_rootShare_12 : decode cL_rootShare 12 = .ok (.astore_n 3, 1) := by decide +kernel
theorem dL_rootShare_13 : decode cL_rootShare 13 = .ok (.iconst 1, 1) := by decide +kernel
theorem dL_rootShare_14 : decode cL_rootShare 14 = .ok (.ireturn, 1) := by decide +kernel
theorem dL_rootShare_15 : decode cL_rootShare 15 = .ok (.astore_n 3, 1) := by decide +kernel
theorem dL_rootShare_16 : decode cL_rootShare 16 = .ok (.iconst 2, 1) := by decide +kernel
theorem dL_rootShare_17 : decode cL_rootShare 17 = .ok (.ireturn, 1) := by decide +kernel
theorem dL_rootShare_18 : decode cL_rootShare 18 = .ok (.iconst 0, 1) := by decide +kernel
theorem dL_rootShare_19 : decode cL_rootShare 19 = .ok (.ireturn, 1) := by decide +kernel
set_option maxRecDepth 20000 in
theorem ggL_meanPeriod_X5_meanPeriod : GoodIn wsL_meanPeriod wsX5_meanPeriod := goodIn_ca (goodIn_ca (goodIn_ca (goodIn_r _ [7, 8, 9, 10, 11, 12, 6, 13, 14, 15, 16, 17, 18, 19, 20, 21, 22, 23, 24, 25, 26, 27, 28, 29, 30, 31, 32, 33, 34, 35, 36, 37, 38, 39, 40, 41, 42, 43, 44, 45, 46, 47, 48, 49] (by decide +kernel) (by decide +kernel)) (goodIn_sub (fun _ h => List.mem_cons_of_mem _ (List.mem_append_left _ (List.mem_append_right _ h))) (by decide +kernel))) (goodIn_sub (fun _ h => List.mem_cons_of_mem _ (List.mem_append_right _ h)) (by decide +kernel))) (goodIn_sub (fun _ h => List.mem_cons_of_mem _ (List.mem_append_left _ (List.mem_append_left _ (List.mem_append_right _ h)))) (by decide +kernel))
set_option maxRecDepth 20000 in
theorem gL_meanPeriod_X5_meanPeriod : GoodIn wsL_meanPeriod (wsV RL 153 RX5 yX5_meanPeriod wsX5_meanPeriod) := goodIn_app (goodIn_of _ (by decide +kernel)) ggL_meanPeriod_X5_meanPeriod
theorem dL_meanPeriod_0 : decode cL_meanPeriod 0 = .ok (.aload_n 2, 1) := by decide +kernel
theorem dL_meanPeriod_1 : decode cL_meanPeriod 1 = .ok (.iconst 0, 1) := by decide +kernel
theorem dL_meanPeriod_2 : decode cL_meanPeriod 2 = .ok (.aload_n 0, 1) := by decide +kernel
theorem dL_meanPeriod_3 : decode cL_meanPeriod 3 = .ok (.iload_n 1, 1) := by decide +kernel
theorem dL_meanPeriod_4 : decode cL_meanPeriod 4 = .ok (.invokevirtual 153, 3) := by decide +kernel
theorem dL_meanPeriod_7 : decode cL_meanPeriod 7 = .ok (.dastore, 1) := by decide +kernel
theorem dL_meanPeriod_8 : decode cL_meanPeriod 8 = .ok (.goto 9, 3) := by decide +kernel
theorem dL_meanPeriod_11 : decode cL_meanPeriod 11 = .ok (.astore_n 3, 1) := by decide +kernel
theorem dL_meanPeriod_12 : decode cL_meanPeriod 12 = .ok (.iconst 1, 1) := by decide +kernel
theorem dL_meanPeriod_13 : decode cL_meanPeriod 13 = .ok (.ireturn, 1) := by decide +kernel
theorem dL_meanPeriod_14 : decode cL_meanPeriod 14 = .ok (.astore_n 3, 1) := by decide +kernel
theorem dL_meanPeriod_15 : decode cL_meanPeriod 15 = .ok (.iconst 2, 1) := by decide +kernel
theorem dL_meanPeriod_16 : decode cL_meanPeriod 16 = .ok (.ireturn, 1) := by decide +kernel
theorem dL_meanPeriod_17 : decode cL_meanPeriod 17 = .ok (.iconst 0, 1) := by decide +kernel
theorem dL_meanPeriod_18 : decode cL_meanPeriod 18 = .ok (.ireturn, 1) := by decide +kernel
