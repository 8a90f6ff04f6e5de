theorem dX0_init_0 : decode cX0_init 0 = .ok (.aload_n 0, 1) := by decide +kernel
theorem dX0_init_1 : decode cX0_init 1 = .ok (.invokespecial 3, 3) := by decide +kernel
theorem dX0_init_4 : decode cX0_init 4 = .ok (.aload_n 0, 1) := by decide +kernel
theorem dX0_init_5 : decode cX0_init 5 = .ok (.bipush 61, 2) := by decide +kernel
theorem dX0_init_7 : decode cX0_init 7 = .ok (.newarray .int, 2) := by decide +kernel
theorem dX0_init_9 : decode cX0_init 9 = .ok (.putfield 9, 3) := by decide +kernel
theorem dX0_init_12 : decode cX0_init 12 = .ok (.aload_n 0, 1) := by decide +kernel
theorem dX0_init_13 : decode cX0_init 13 = .ok (.bipush 60, 2) := by decide +kernel
theorem dX0_init_15 : decode cX0_init 15 = .ok (.newarray .int, 2) := by decide +kernel
theorem dX0_init_17 : decode cX0_init 17 = .ok (.putfield 15, 3) := by decide +kernel
theorem dX0_init_20 : decode cX0_init 20 = .ok (.return_, 1) := by decide +kernel
set_option maxRecDepth 20000 in
theorem ggX0_arrange_X4_size : GoodIn wsX0_arrange wsX4_size := goodIn_r _ [6, 7, 33, 34] (by decide +kernel) (by decide +kernel)
set_option maxRecDepth 20000 in
theorem gX0_arrange_X4_size : GoodIn wsX0_arrange (wsV RX0 18 RX4 yX4_size wsX4_size) := goodIn_app (goodIn_of _ (by decide +kernel)) ggX0_arrange_X4_size
set_option maxRecDepth 20000 in
theorem ggX0_arrange_X0_keepRank : GoodIn wsX0_arrange wsX0_keepRank := goodIn_ca (goodIn_r _ [12, 13, 31, 32] (by decide +kernel) (by decide +kernel)) (goodIn_sub (fun _ h => List.mem_cons_of_mem _ (List.mem_append_right _ h)) (by decide +kernel))
set_option maxRecDepth 20000 in
theorem gX0_arrange_X0_keepRank : GoodIn wsX0_arrange (wsV RX0 24 RX0 yX0_keepRank wsX0_keepRank) := goodIn_app (goodIn_of _ (by decide +kernel)) ggX0_arrange_X0_keepRank
set_option maxRecDepth 20000 in
theorem ggX0_arrange_X0_insert : GoodIn wsX0_arrange wsX0_insert := goodIn_ca (goodIn_r _ [17, 2, 3, 4, 5, 6, 7, 18, 19, 20, 11, 21, 22, 23, 24, 25, 26, 27, 28, 29, 30, 13, 8, 9, 10, 12, 33, 34, 31, 32] (by decide +kernel) (by decide +kernel)) (goodIn_sub (fun _ h => List.mem_cons_of_mem _ (List.mem_append_right _ h)) (by decide +kernel))
set_option maxRecDepth 20000 in
theorem gX0_arrange_X0_insert : GoodIn wsX0_arrange (wsV RX0 28 RX0 yX0_insert wsX0_insert) := goodIn_app (goodIn_of _ (by decide +kernel)) ggX0_arrange_X0_insert
set_option maxRecDepth 20000 in
theorem ggX0_arrange_X0_rankBy : GoodIn wsX0_arrange wsX0_rankBy := goodIn_ca (goodIn_r _ [30, 13, 31, 32] (by decide +kernel) (by decide +kernel)) (goodIn_sub (fun _ h => List.mem_cons_of_mem _ (List.mem_append_right _ h)) (by decide +kernel))
set_option maxRecDepth 20000 in
theorem gX0_arrange_X0_rankBy : GoodIn wsX0_arrange (wsV RX0 32 RX0 yX0_rankBy wsX0_rankBy) := goodIn_app (goodIn_of _ (by decide +kernel)) ggX0_arrange_X0_rankBy
theorem dX0_arrange_0 : decode cX0_arrange 0 = .ok (.aload_n 1, 1) := by decide +kernel
theorem dX0_arrange_1 : decode cX0_arrange 1 = .ok (.invokevirtual 18, 3) := by decide +kernel
theorem dX0_arrange_4 : decode cX0_arrange 4 = .ok (.istore_n 2, 1) := by decide +kernel
theorem dX0_arrange_5 : decode cX0_arrange 5 = .ok (.aload_n 0, 1) := by decide +kernel
theorem dX0_arrange_6 : decode cX0_arrange 6 = .ok (.iload_n 2, 1) := by decide +kernel
theorem dX0_arrange_7 : decode cX0_arrange 7 = .ok (.iconst (-1), 1) := by decide +kernel
theorem dX0_arrange_8 : decode cX0_arrange 8 = .ok (.invokevirtual 24, 3) := by decide +kernel
theorem dX0_arrange_11 : decode cX0_arrange 11 = .ok (.iload_n 2, 1) := by decide +kernel
theorem dX0_arrange_12 : decode cX0_arrange 12 = .ok (.iconst 1, 1) := by decide +kernel
theorem dX0_arrange_13 : decode cX0_arrange 13 = .ok (.isub, 1) := by decide +kernel
theorem dX0_arrange_14 : decode cX0_arrange 14 = .ok (.istore_n 3, 1) := by decide +kernel
theorem dX0_arrange_15 : decode cX0_arrange 15 = .ok (.iload_n 3, 1) := by decide +kernel
theorem dX0_arrange_16 : decode cX0_arrange 16 = .ok (.ifCond .lt 15, 3) := by decide +kernel
theorem dX0_arrange_19 : decode cX0_arrange 19 = .ok (.aload_n 0, 1) := by decide +kernel
theorem dX0_arrange_20 : decode cX0_arrange 20 = .ok (.aload_n 1, 1) := by decide +kernel
theorem dX0_arrange_21 : decode cX0_arrange 21 = .ok (.iload_n 3, 1) := by decide +kernel
theorem dX0_arrange_22 : decode cX0_arrange 22 = .ok (.invokevirtual 28, 3) := by decide +kernel
theorem dX0_arrange_25 : decode cX0_arrange 25 = .ok (.iinc 3 (-1), 3) := by decide +kernel
theorem dX0_arrange_28 : decode cX0_arrange 28 = .ok (.goto (-13), 3) := by decide +kernel
theorem dX0_arrange_31 : decode cX0_arrange 31 = .ok (.iconst 0, 1) := by decide +kernel
theorem dX0_arrange_32 : decode cX0_arrange 32 = .ok (.istore_n 3, 1) := by decide +kernel
theorem dX0_arrange_33 : decode cX0_arrange 33 = .ok (.iload_n 3, 1) := by decide +kernel
theorem dX0_arrange_34 : decode cX0_arrange 34 = .ok (.iload_n 2, 1) := by decide +kernel
theorem dX0_arrange_35 : decode cX0_arrange 35 = .ok (.if_icmp .ge 39, 3) := by decide +kernel
theorem dX0_arrange_38 : decode cX0_arrange 38 = .ok (.aload_n 0, 1) := by decide +kernel
theorem dX0_arrange_39 : decode cX0_arrange 39 = .ok (.iload_n 3, 1) := by decide +kernel
theorem dX0_arrange_40 : decode cX0_arrange 40 = .ok (.invokevirtual 32, 3) := by decide +kernel
theorem dX0_arrange_43 : decode cX0_arrange 43 = .ok (.istore 4, 2) := by decide +kernel
theorem dX0_arrange_45 : decode cX0_arrange 45 = .ok (.iload 4, 2) := by decide +kernel
theorem dX0_arrange_47 : decode cX0_arrange 47 = .ok (.ifCond .lt 21, 3) := by decide +kernel
theorem dX0_arrange_50 : decode cX0_arrange 50 = .ok (.iload 4, 2) := by decide +kernel
theorem dX0_arrange_52 : decode cX0_arrange 52 = .ok (.aload_n 0, 1) := by decide +kernel
theorem dX0_arrange_53 : decode cX0_arrange 53 = .ok (.getfield 15, 3) := by decide +kernel
theorem dX0_arrange_56 : decode cX0_arrange 56 = .ok (.arraylength, 1) := by decide +kernel
theorem dX0_arrange_57 : decode cX0_arrange 57 = .ok (.if_icmp .ge 11, 3) := by decide +kernel
theorem dX0_arrange_60 : decode cX0_arrange 60 = .ok (.aload_n 0, 1) := by decide +kernel
theorem dX0_arrange_61 : decode cX0_arrange 61 = .ok (.getfield 15, 3) := by decide +kernel
theorem dX0_arrange_64 : decode cX0_arrange 64 = .ok (.iload 4, 2) := by decide +kernel
theorem dX0_arrange_66 : decode cX0_arrange 66 = .ok (.iload_n 3, 1) := by decide +kernel
theorem dX0_arrange_67 : decode cX0_arrange 67 = .ok (.iastore, 1) := by decide +kernel
theorem dX0_arrange_68 : decode cX0_arrange 68 = .ok (.iinc 3 1, 3) := by decide +kernel
theorem dX0_arrange_71 : decode cX0_arrange 71 = .ok (.goto (-38), 3) := by decide +kernel
theorem dX0_arrange_74 : decode cX0_arrange 74 = .ok (.return_, 1) := by decide +kernel
set_option maxRecDepth 20000 in
theorem ggX0_insert_X4_size : GoodIn wsX0_insert wsX4_size := goodIn_r _ [5, 6, 26, 27] (by decide +kernel) (by decide +kernel)
set_option maxRecDepth 20000 in
theorem gX0_insert_X4_size : GoodIn wsX0_insert (wsV RX0 18 RX4 yX4_size wsX4_size) := goodIn_app (goodIn_of _ (by decide +kernel)) ggX0_insert_X4_size
set_option maxRecDepth 20000 in
theorem ggX0_insert_X0_isLess : GoodIn wsX0_insert wsX0_isLess := goodIn_ca (goodIn_r _ [11, 12, 13, 14, 4, 15, 6, 16, 17, 18, 19, 10, 20, 21, 26, 27, 28, 29] (by decide +kernel) (by decide +kernel)) (goodIn_sub (fun _ h => List.mem_cons_of_mem _ (List.mem_append_right _ h)) (by decide +kernel))
set_option maxRecDepth 20000 in
theorem gX0_insert_X0_isLess : GoodIn wsX0_insert (wsV RX0 36 RX0 yX0_isLess wsX0_isLess) := goodIn_app (goodIn_of _ (by decide +kernel)) ggX0_insert_X0_isLess
set_option maxRecDepth 20000 in
theorem ggX0_insert_X0_rankBy : GoodIn wsX0_insert wsX0_rankBy := goodIn_ca (goodIn_r _ [20, 21, 28, 29] (by decide +kernel) (by decide +kernel)) (goodIn_sub (fun _ h => List.mem_cons_of_mem _ (List.mem_append_right _ h)) (by decide +kernel))
set_option maxRecDepth 20000 in
theorem gX0_insert_X0_rankBy : GoodIn wsX0_insert (wsV RX0 32 RX0 yX0_rankBy wsX0_rankBy) := goodIn_app (goodIn_of _ (by decide +kernel)) ggX0_insert_X0_rankBy
set_option maxRecDepth 20000 in
theorem ggX0_insert_X0_keepRank : GoodIn wsX0_insert wsX0_keepRank := goodIn_ca (goodIn_r _ [25, 21, 28, 29] (by decide +kernel) (by decide +kernel)) (goodIn_sub (fun _ h => List.mem_cons_of_mem _ (List.mem_append_right _ h)) (by decide +kernel))
set_option maxRecDepth 20000 in
theorem gX0_insert_X0_keepRank : GoodIn wsX0_insert (wsV RX0 24 RX0 yX0_keepRank wsX0_keepRank) := goodIn_app (goodIn_of _ (by decide +kernel)) ggX0_insert_X0_keepRank
theorem dX0_insert_0 : decode cX0_insert 0 = .ok (.iconst 0, 1) := by decide +kernel
theorem dX0_insert_1 : decode cX0_insert 1 = .ok (.istore_n 3, 1) := by decide +kernel
theorem dX0_insert_2 : decode cX0_insert 2 = .ok (.iload_n 2, 1) := by decide +kernel
theorem dX0_insert_3 : decode cX0_insert 3 = .ok (.iconst 1, 1) := by decide +kernel
theorem dX0_insert_4 : decode cX0_insert 4 = .ok (.iadd, 1) := by decide +kernel
theorem dX0_insert_5 : decode cX0_insert 5 = .ok (.istore 4, 2) := by decide +kernel
theorem dX0_insert_7 : decode cX0_insert 7 = .ok (.iload 4, 2) := by decide +kernel
theorem dX0_insert_9 : decode cX0_insert 9 = .ok (.aload_n 1, 1) := by decide +kernel
theorem dX0_insert_10 : decode cX0_insert 10 = .ok (.invokevirtual 18, 3) := by decide +kernel
theorem dX0_insert_13 : decode cX0_insert 13 = .ok (.if_icmp .ge 23, 3) := by decide +kernel
theorem dX0_insert_16 : decode cX0_insert 16 = .ok (.aload_n 0, 1) := by decide +kernel
theorem dX0_insert_17 : decode cX0_insert 17 = .ok (.aload_n 1, 1) := by decide +kernel
theorem dX0_insert_18 : decode cX0_insert 18 = .ok (.iload 4, 2) := by decide +kernel
theorem dX0_insert_20 : decode cX0_insert 20 = .ok (.iload_n 2, 1) := by decide +kernel
theorem dX0_insert_21 : decode cX0_insert 21 = .ok (.invokevirtual 36, 3) := by decide +kernel
theorem dX0_insert_24 : decode cX0_insert 24 = .ok (.ifCond .eq 6, 3) := by decide +kernel
theorem dX0_insert_27 : decode cX0_insert 27 = .ok (.iinc 3 1, 3) := by decide +kernel
theorem dX0_insert_30 : decode cX0_insert 30 = .ok (.iinc 4 1, 3) := by decide +kernel
theorem dX0_insert_33 : decode cX0_insert 33 = .ok (.goto (-26), 3) := by decide +kernel
theorem dX0_insert_36 : decode cX0_insert 36 = .ok (.iload_n 2, 1) := by decide +kernel
theorem dX0_insert_37 : decode cX0_insert 37 = .ok (.iconst 1, 1) := by decide +kernel
theorem dX0_insert_38 : decode cX0_insert 38 = .ok (.iadd, 1) := by decide +kernel
theorem dX0_insert_39 : decode cX0_insert 39 = .ok (.istore 4, 2) := by decide +kernel
theorem dX0_insert_41 : decode cX0_insert 41 = .ok (.iload 4, 2) := by decide +kernel
theorem dX0_insert_43 : decode cX0_insert 43 = .ok (.aload_n 1, 1) := by decide +kernel
theorem dX0_insert_44 : decode cX0_insert 44 = .ok (.invokevirtual 18, 3) := by decide +kernel
theorem dX0_insert_47 : decode cX0_insert 47 = .ok (.if_icmp .ge 33, 3) := by decide +kernel
theorem dX0_insert_50 : decode cX0_insert 50 = .ok (.aload_n 0, 1) := by decide +kernel
theorem dX0_insert_51 : decode cX0_insert 51 = .ok (.iload 4, 2) := by decide +kernel
theorem dX0_insert_53 : decode cX0_insert 53 = .ok (.invokevirtual 32, 3) := by decide +kernel
theorem dX0_insert_56 : decode cX0_insert 56 = .ok (.istore 5, 2) := by decide +kernel
theorem dX0_insert_58 : decode cX0_insert 58 = .ok (.iload 5, 2) := by decide +kernel
theorem dX0_insert_60 : decode cX0_insert 60 = .ok (.iload_n 3, 1) := by decide +kernel
theorem dX0_insert_61 : decode cX0_insert 61 = .ok (.if_icmp .lt 13, 3) := by decide +kernel
theorem dX0_insert_64 : decode cX0_insert 64 = .ok (.aload_n 0, 1) := by decide +kernel
theorem dX0_insert_65 : decode cX0_insert 65 = .ok (.iload 4, 2) := by decide +kernel
theorem dX0_insert_67 : decode cX0_insert 67 = .ok (.iload 5, 2) := by decide +kernel
theorem dX0_insert_69 : decode cX0_insert 69 = .ok (.iconst 1, 1) := by decide +kernel
theorem dX0_insert_70 : decode cX0_insert 70 = .ok (.iadd, 1) := by decide +kernel
theorem dX0_insert_71 : decode cX0_insert 71 = .ok (.invokevirtual 24, 3) := by decide +kernel
theorem dX0_insert_74 : decode cX0_insert 74 = .ok (.iinc 4 1, 3) := by decide +kernel
theorem dX0_insert_77 : decode cX0_insert 77 = .ok (.goto (-36), 3) := by decide +kernel
theorem dX0_insert_80 : decode cX0_insert 80 = .ok (.aload_n 0, 1) := by decide +kernel
theorem dX0_insert_81 : decode cX0_insert 81 = .ok (.iload_n 2, 1) := by decide +kernel
theorem dX0_insert_82 : decode cX0_insert 82 = .ok (.iload_n 3, 1) := by decide +kernel
theorem dX0_insert_83 : decode cX0_insert 83 = .ok (.invokevirtual 24, 3) := by decide +kernel
theorem dX0_insert_86 : decode cX0_insert 86 = .ok (.return_, 1) := by decide +kernel
set_option maxRecDepth 20000 in
theorem ggX0_isLess_X4_signOn : GoodIn wsX0_isLess wsX4_signOn := goodIn_ca (goodIn_r _ [5, 6, 7, 14, 15] (by decide +kernel) (by decide +kernel)) (goodIn_sub (fun _ h => List.mem_cons_of_mem _ (List.mem_append_right _ h)) (by decide +kernel))
set_option maxRecDepth 20000 in
theorem gX0_isLess_X4_signOn : GoodIn wsX0_isLess (wsV RX0 40 RX4 yX4_signOn wsX4_signOn) := goodIn_app (goodIn_of _ (by decide +kernel)) ggX0_isLess_X4_signOn
set_option maxRecDepth 20000 in
theorem ggX0_isLess_X0_rankBy : GoodIn wsX0_isLess wsX0_rankBy := goodIn_ca (goodIn_r _ [12, 13, 16, 17] (by decide +kernel) (by decide +kernel)) (goodIn_sub (fun _ h => List.mem_cons_of_mem _ (List.mem_append_right _ h)) (by decide +kernel))
set_option maxRecDepth 20000 in
theorem gX0_isLess_X0_rankBy : GoodIn wsX0_isLess (wsV RX0 32 RX0 yX0_rankBy wsX0_rankBy) := goodIn_app (goodIn_of _ (by decide +kernel)) ggX0_isLess_X0_rankBy
theorem dX0_isLess_0 : decode cX0_isLess 0 = .ok (.aload_n 1, 1) := by decide +kernel
theorem dX0_isLess_1 : decode cX0_isLess 1 = .ok (.iload_n 2, 1) := by decide +kernel
theorem dX0_isLess_2 : decode cX0_isLess 2 = .ok (.invokevirtual 40, 3) := by decide +kernel
theorem dX0_isLess_5 : decode cX0_isLess 5 = .ok (.istore 4, 2) := by decide +kernel
theorem dX0_isLess_7 : decode cX0_isLess 7 = .ok (.aload_n 1, 1) := by decide +kernel
theorem dX0_isLess_8 : decode cX0_isLess 8 = .ok (.iload_n 3, 1) := by decide +kernel
theorem dX0_isLess_9 : decode cX0_isLess 9 = .ok (.invokevirtual 40, 3) := by decide +kernel
theorem dX0_isLess_12 : decode cX0_isLess 12 = .ok (.istore 5, 2) := by decide +kernel
theorem dX0_isLess_14 : decode cX0_isLess 14 = .ok (.iload 4, 2) := by decide +kernel
theorem dX0_isLess_16 : decode cX0_isLess 16 = .ok (.iload 5, 2) := by decide +kernel
theorem dX0_isLess_18 : decode cX0_isLess 18 = .ok (.if_icmp .ne 28, 3) := by decide +kernel
theorem dX0_isLess_21 : decode cX0_isLess 21 = .ok (.aload_n 0, 1) := by decide +kernel
theorem dX0_isLess_22 : decode cX0_isLess 22 = .ok (.iload_n 2, 1) := by decide +kernel
theorem dX0_isLess_23 : decode cX0_isLess 23 = .ok (.iconst 1, 1) := by decide +kernel
theorem dX0_isLess_24 : decode cX0_isLess 24 = .ok (.iadd, 1) := by decide +kernel
theorem dX0_isLess_25 : decode cX0_isLess 25 = .ok (.invokevirtual 32, 3) := by decide +kernel
theorem dX0_isLess_28 : decode cX0_isLess 28 = .ok (.aload_n 0, 1) := by decide +kernel
theorem dX0_isLess_29 : decode cX0_isLess 29 = .ok (.iload_n 3, 1) := by decide +kernel
theorem dX0_isLess_30 : decode cX0_isLess 30 = .ok (.iconst 1, 1) := by decide +kernel
theorem dX0_isLess_31 : decode cX0_isLess 31 = .ok (.iadd, 1) := by decide +kernel
theorem dX0_isLess_32 : decode cX0_isLess 32 = .ok (.invokevirtual 32, 3) := by decide +kernel
theorem dX0_isLess_35 : decode cX0_isLess 35 = .ok (.if_icmp .ge 7, 3) := by decide +kernel
theorem dX0_isLess_38 : decode cX0_isLess 38 = .ok (.iconst 1, 1) := by decide +kernel
theorem dX0_isLess_39 : decode cX0_isLess 39 = .ok (.goto 19, 3) := by decide +kernel
theorem dX0_isLess_42 : decode cX0_isLess 42 = .ok (.iconst 0, 1) := by decide +kernel
theorem dX0_isLess_43 : decode cX0_isLess 43 = .ok (.goto 15, 3) := by decide +kernel
theorem dX0_isLess_46 : decode cX0_isLess 46 = .ok (.iload 4, 2) := by decide +kernel
theorem dX0_isLess_48 : decode cX0_isLess 48 = .ok (.iload 5, 2) := by decide +kernel
theorem dX0_isLess_50 : decode cX0_isLess 50 = .ok (.if_icmp .ge 7, 3) := by decide +kernel
theorem dX0_isLess_53 : decode cX0_isLess 53 = .ok (.iconst 1, 1) := by decide +kernel
theorem dX0_isLess_54 : decode cX0_isLess 54 = .ok (.goto 4, 3) := by decide +kernel
theorem dX0_isLess_57 : decode cX0_isLess 57 = .ok (.iconst 0, 1) := by decide +kernel
theorem dX0_isLess_58 : decode cX0_isLess 58 = .ok (.ireturn, 1) := by decide +kernel
theorem dX0_keepRank_0 : decode cX0_keepRank 0 = .ok (.iload_n 1, 1) := by decide +kernel
theorem dX0_keepRank_1 : decode cX0_keepRank 1 = .ok (.ifCond .lt 19, 3) := by decide +kernel
theorem dX0_keepRank_4 : decode cX0_keepRank 4 = .ok (.iload_n 1, 1) := by decide +kernel
theorem dX0_keepRank_5 : decode cX0_keepRank 5 = .ok (.aload_n 0, 1) := by decide +kernel
theorem dX0_keepRank_6 : decode cX0_keepRank 6 = .ok (.getfield 9, 3) := by decide +kernel
theorem dX0_keepRank_9 : decode cX0_keepRank 9 = .ok (.arraylength, 1) := by decide +kernel
theorem dX0_keepRank_10 : decode cX0_keepRank 10 = .ok (.if_icmp .ge 10, 3) := by decide +kernel
theorem dX0_keepRank_13 : decode cX0_keepRank 13 = .ok (.aload_n 0, 1) := by decide +kernel
theorem dX0_keepRank_14 : decode cX0_keepRank 14 = .ok (.getfield 9, 3) := by decide +kernel
theorem dX0_keepRank_17 : decode cX0_keepRank 17 = .ok (.iload_n 1, 1) := by decide +kernel
theorem dX0_keepRank_18 : decode cX0_keepRank 18 = .ok (.iload_n 2, 1) := by decide +kernel
theorem dX0_keepRank_19 : decode cX0_keepRank 19 = .ok (.iastore, 1) := by decide +kernel
theorem dX0_keepRank_20 : decode cX0_keepRank 20 = .ok (.return_, 1) := by decide +kernel
theorem dX0_rankBy_0 : decode cX0_rankBy 0 = .ok (.iload_n 1, 1) := by decide +kernel
theorem dX0_rankBy_1 : decode cX0_rankBy 1 = .ok (.ifCond .lt 12, 3) := by decide +kernel
theorem dX0_rankBy_4 : decode cX0_rankBy 4 = .ok (.iload_n 1, 1) := by decide +kernel
theorem dX0_rankBy_5 : decode cX0_rankBy 5 = .ok (.aload_n 0, 1) := by decide +kernel
theorem dX0_rankBy_6 : decode cX0_rankBy 6 = .ok (.getfield 9, 3) := by decide +kernel
theorem dX0_rankBy_9 : decode cX0_rankBy 9 = .ok (.arraylength, 1) := by decide +kernel
theorem dX0_rankBy_10 : decode cX0_rankBy 10 = .ok (.if_icmp .lt 7, 3) := by decide +kernel
theorem dX0_rankBy_13 : decode cX0_rankBy 13 = .ok (.iconst (-1), 1) := by decide +kernel
theorem dX0_rankBy_14 : decode cX0_rankBy 14 = .ok (.goto 9, 3) := by decide +kernel
theorem dX0_rankBy_17 : decode cX0_rankBy 17 = .ok (.aload_n 0, 1) := by decide +kernel
theorem dX0_rankBy_18 : decode cX0_rankBy 18 = .ok (.getfield 9, 3) := by decide +kernel
theorem dX0_rankBy_21 : decode cX0_rankBy 21 = .ok (.iload_n 1, 1) := by decide +kernel
theorem dX0_rankBy_22 : decode cX0_rankBy 22 = .ok (.iaload, 1) := by decide +kernel
theorem dX0_rankBy_23 : decode cX0_rankBy 23 = .ok (.ireturn, 1) := by decide +kernel
theorem dX0_placeBy_0 : decode cX0_placeBy 0 = .ok (.iload_n 1, 1) := by decide +kernel
theorem dX0_placeBy_1 : decode cX0_placeBy 1 = .ok (.ifCond .lt 12, 3) := by decide +kernel
theorem dX0_placeBy_4 : decode cX0_placeBy 4 = .ok (.iload_n 1, 1) := by decide +kernel
theorem dX0_placeBy_5 : decode cX0_placeBy 5 = .ok (.aload_n 0, 1) := by decide +kernel
theorem dX0_placeBy_6 : decode cX0_placeBy 6 = .ok (.getfield 15, 3) := by decide +kernel
theorem dX0_placeBy_9 : decode cX0_placeBy 9 = .ok (.arraylength, 1) := by decide +kernel
theorem dX0_placeBy_10 : decode cX0_placeBy 10 = .ok (.if_icmp .lt 7, 3) := by decide +kernel
theorem dX0_placeBy_13 : decode cX0_placeBy 13 = .ok (.iconst (-1), 1) := by decide +kernel
theorem dX0_placeBy_14 : decode cX0_placeBy 14 = .ok (.goto 9, 3) := by decide +kernel
theorem dX0_placeBy_17 : decode cX0_placeBy 17 = .ok (.aload_n 0, 1) := by decide +kernel
theorem dX0_placeBy_18 : decode cX0_placeBy 18 = .ok (.getfield 15, 3) := by decide +kernel
theorem dX0_placeBy_21 : decode cX0_placeBy 21 = .ok (.iload_n 1, 1) := by decide +kernel
theorem dX0_placeBy_22 : decode cX0_placeBy 22 = .ok (.iaload, 1) := by decide +kernel
theorem dX0_placeBy_23 : decode cX0_placeBy 23 = .ok (.ireturn, 1) := by decide +kernel
set_option maxRecDepth 20000 in
theorem ggX0_sharedBefore_X0_placeBy : GoodIn wsX0_sharedBefore wsX0_placeBy := goodIn_ca (goodIn_r _ [5, 6, 22, 23] (by decide +kernel) (by decide +kernel)) (goodIn_sub (fun _ h => List.mem_cons_of_mem _ (List.mem_append_right _ h)) (by decide +kernel))
set_option maxRecDepth 20000 in
theorem gX0_sharedBefore_X0_placeBy : GoodIn wsX0_sharedBefore (wsV RX0 44 RX0 yX0_placeBy wsX0_placeBy) := goodIn_app (goodIn_of _ (by decide +kernel)) ggX0_sharedBefore_X0_placeBy
set_option maxRecDepth 20000 in
theorem ggX0_sharedBefore_X4_alike : GoodIn wsX0_sharedBefore wsX4_alike := goodIn_ca (goodIn_r _ [11, 12, 13, 14, 15, 16, 17, 18, 19, 10, 20, 21, 24, 25] (by decide +kernel) (by decide +kernel)) (goodIn_sub (fun _ h => List.mem_cons_of_mem _ (List.mem_append_right _ h)) (by decide +kernel))
set_option maxRecDepth 20000 in
theorem gX0_sharedBefore_X4_alike : GoodIn wsX0_sharedBefore (wsV RX0 47 RX4 yX4_alike wsX4_alike) := goodIn_app (goodIn_of _ (by decide +kernel)) ggX0_sharedBefore_X4_alike
theorem dX0_sharedBefore_0 : decode cX0_sharedBefore 0 = .ok (.iload_n 2, 1) := by decide +kernel
theorem dX0_sharedBefore_1 : decode cX0_sharedBefore 1 = .ok (.iconst 1, 1) := by decide +kernel
theorem dX0_sharedBefore_2 : decode cX0_sharedBefore 2 = .ok (.if_icmp .ge 7, 3) := by decide +kernel
theorem dX0_sharedBefore_5 : decode cX0_sharedBefore 5 = .ok (.iconst 0, 1) := by decide +kernel
theorem dX0_sharedBefore_6 : decode cX0_sharedBefore 6 = .ok (.goto 20, 3) := by decide +kernel
theorem dX0_sharedBefore_9 : decode cX0_sharedBefore 9 = .ok (.aload_n 1, 1) := by decide +kernel
theorem dX0_sharedBefore_10 : decode cX0_sharedBefore 10 = .ok (.aload_n 0, 1) := by decide +kernel
theorem dX0_sharedBefore_11 : decode cX0_sharedBefore 11 = .ok (.iload_n 2, 1) := by decide +kernel
theorem dX0_sharedBefore_12 : decode cX0_sharedBefore 12 = .ok (.invokevirtual 44, 3) := by decide +kernel
theorem dX0_sharedBefore_15 : decode cX0_sharedBefore 15 = .ok (.aload_n 1, 1) := by decide +kernel
theorem dX0_sharedBefore_16 : decode cX0_sharedBefore 16 = .ok (.aload_n 0, 1) := by decide +kernel
theorem dX0_sharedBefore_17 : decode cX0_sharedBefore 17 = .ok (.iload_n 2, 1) := by decide +kernel
theorem dX0_sharedBefore_18 : decode cX0_sharedBefore 18 = .ok (.iconst 1, 1) := by decide +kernel
theorem dX0_sharedBefore_19 : decode cX0_sharedBefore 19 = .ok (.isub, 1) := by decide +kernel
theorem dX0_sharedBefore_20 : decode cX0_sharedBefore 20 = .ok (.invokevirtual 44, 3) := by decide +kernel
theorem dX0_sharedBefore_23 : decode cX0_sharedBefore 23 = .ok (.invokevirtual 47, 3) := by decide +kernel
theorem dX0_sharedBefore_26 : decode cX0_sharedBefore 26 = .ok (.ireturn, 1) := by decide +kernel
set_option maxRecDepth 20000 in
theorem ggX1_countIn_X4_size : GoodIn wsX1_countIn wsX4_size := goodIn_r _ [5, 6, 16, 17] (by decide +kernel) (by decide +kernel)
set_option maxRecDepth 20000 in
theorem gX1_countIn_X4_size : GoodIn wsX1_countIn (wsV RX1 9 RX4 yX4_size wsX4_size) := goodIn_app (goodIn_of _ (by decide +kernel)) ggX1_countIn_X4_size
set_option maxRecDepth 20000 in
theorem ggX1_countIn_X1_sizeAt : GoodIn wsX1_countIn wsX1_sizeAt := goodIn_ca (goodIn_r _ [10, 1, 2, 3, 4, 5, 6, 11, 12, 13, 14, 15, 16, 17] (by decide +kernel) (by decide +kernel)) (goodIn_sub (fun _ h => List.mem_cons_of_mem _ (List.mem_append_right _ h)) (by decide +kernel))
set_option maxRecDepth 20000 in
theorem gX1_countIn_X1_sizeAt : GoodIn wsX1_countIn (va_wsS RX1 15 yX1_sizeAt wsX1_sizeAt) := goodIn_app (goodIn_of _ (by decide +kernel)) ggX1_countIn_X1_sizeAt
theorem dX1_countIn_0 : decode cX1_countIn 0 = .ok (.iconst 0, 1) := by decide +kernel
theorem dX1_countIn_1 : decode cX1_countIn 1 = .ok (.istore_n 1, 1) := by decide +kernel
theorem dX1_countIn_2 : decode cX1_countIn 2 = .ok (.iconst 0, 1) := by decide +kernel
theorem dX1_countIn_3 : decode cX1_countIn 3 = .ok (.istore_n 2, 1) := by decide +kernel
theorem dX1_countIn_4 : decode cX1_countIn 4 = .ok (.iload_n 1, 1) := by decide +kernel
theorem dX1_countIn_5 : decode cX1_countIn 5 = .ok (.bipush 60, 2) := by decide +kernel
theorem dX1_countIn_7 : decode cX1_countIn 7 = .ok (.if_icmp .ge 25, 3) := by decide +kernel
theorem dX1_countIn_10 : decode cX1_countIn 10 = .ok (.iload_n 2, 1) := by decide +kernel
theorem dX1_countIn_11 : decode cX1_countIn 11 = .ok (.aload_n 0, 1) := by decide +kernel
theorem dX1_countIn_12 : decode cX1_countIn 12 = .ok (.invokevirtual 9, 3) := by decide +kernel
theorem dX1_countIn_15 : decode cX1_countIn 15 = .ok (.if_icmp .ge 17, 3) := by decide +kernel
theorem dX1_countIn_18 : decode cX1_countIn 18 = .ok (.iload_n 2, 1) := by decide +kernel
theorem dX1_countIn_19 : decode cX1_countIn 19 = .ok (.aload_n 0, 1) := by decide +kernel
theorem dX1_countIn_20 : decode cX1_countIn 20 = .ok (.iload_n 2, 1) := by decide +kernel
theorem dX1_countIn_21 : decode cX1_countIn 21 = .ok (.invokestatic 15, 3) := by decide +kernel
theorem dX1_countIn_24 : decode cX1_countIn 24 = .ok (.iadd, 1) := by decide +kernel
theorem dX1_countIn_25 : decode cX1_countIn 25 = .ok (.istore_n 2, 1) := by decide +kernel
theorem dX1_countIn_26 : decode cX1_countIn 26 = .ok (.iinc 1 1, 3) := by decide +kernel
theorem dX1_countIn_29 : decode cX1_countIn 29 = .ok (.goto (-25), 3) := by decide +kernel
theorem dX1_countIn_32 : decode cX1_countIn 32 = .ok (.iload_n 1, 1) := by decide +kernel
theorem dX1_countIn_33 : decode cX1_countIn 33 = .ok (.ireturn, 1) := by decide +kernel
set_option maxRecDepth 20000 in
theorem ggX1_beginOf_X4_size : GoodIn wsX1_beginOf wsX4_size := goodIn_r _ [5, 6, 16, 17] (by decide +kernel) (by decide +kernel)
set_option maxRecDepth 20000 in
theorem gX1_beginOf_X4_size : GoodIn wsX1_beginOf (wsV RX1 9 RX4 yX4_size wsX4_size) := goodIn_app (goodIn_of _ (by decide +kernel)) ggX1_beginOf_X4_size
set_option maxRecDepth 20000 in
theorem ggX1_beginOf_X1_sizeAt : GoodIn wsX1_beginOf wsX1_sizeAt := goodIn_ca (goodIn_r _ [10, 1, 2, 3, 4, 5, 6, 11, 12, 13, 14, 15, 16, 17] (by decide +kernel) (by decide +kernel)) (goodIn_sub (fun _ h => List.mem_cons_of_mem _ (List.mem_append_right _ h)) (by decide +kernel))
set_option maxRecDepth 20000 in
theorem gX1_beginOf_X1_sizeAt : GoodIn wsX1_beginOf (va_wsS RX1 15 yX1_sizeAt wsX1_sizeAt) := goodIn_app (goodIn_of _ (by decide +kernel)) ggX1_beginOf_X1_sizeAt
theorem dX1_beginOf_0 : decode cX1_beginOf 0 = .ok (.iconst 0, 1) := by decide +kernel
theorem dX1_beginOf_1 : decode cX1_beginOf 1 = .ok (.istore_n 2, 1) := by decide +kernel
theorem dX1_beginOf_2 : decode cX1_beginOf 2 = .ok (.iconst 0, 1) := by decide +kernel
theorem dX1_beginOf_3 : decode cX1_beginOf 3 = .ok (.istore_n 3, 1) := by decide +kernel
theorem dX1_beginOf_4 : decode cX1_beginOf 4 = .ok (.iload_n 3, 1) := by decide +kernel
theorem dX1_beginOf_5 : decode cX1_beginOf 5 = .ok (.iload_n 1, 1) := by decide +kernel
theorem dX1_beginOf_6 : decode cX1_beginOf 6 = .ok (.if_icmp .ge 25, 3) := by decide +kernel
theorem dX1_beginOf_9 : decode cX1_beginOf 9 = .ok (.iload_n 2, 1) := by decide +kernel
theorem dX1_beginOf_10 : decode cX1_beginOf 10 = .ok (.aload_n 0, 1) := by decide +kernel
theorem dX1_beginOf_11 : decode cX1_beginOf 11 = .ok (.invokevirtual 9, 3) := by decide +kernel
theorem dX1_beginOf_14 : decode cX1_beginOf 14 = .ok (.if_icmp .ge 17, 3) := by decide +kernel
theorem dX1_beginOf_17 : decode cX1_beginOf 17 = .ok (.iload_n 2, 1) := by decide +kernel
theorem dX1_beginOf_18 : decode cX1_beginOf 18 = .ok (.aload_n 0, 1) := by decide +kernel
theorem dX1_beginOf_19 : decode cX1_beginOf 19 = .ok (.iload_n 2, 1) := by decide +kernel
theorem dX1_beginOf_20 : decode cX1_beginOf 20 = .ok (.invokestatic 15, 3) := by decide +kernel
theorem dX1_beginOf_23 : decode cX1_beginOf 23 = .ok (.iadd, 1) := by decide +kernel
theorem dX1_beginOf_24 : decode cX1_beginOf 24 = .ok (.istore_n 2, 1) := by decide +kernel
theorem dX1_beginOf_25 : decode cX1_beginOf 25 = .ok (.iinc 3 1, 3) := by decide +kernel
theorem dX1_beginOf_28 : decode cX1_beginOf 28 = .ok (.goto (-24), 3) := by decide +kernel
theorem dX1_beginOf_31 : decode cX1_beginOf 31 = .ok (.iload_n 2, 1) := by decide +kernel
theorem dX1_beginOf_32 : decode cX1_beginOf 32 = .ok (.ireturn, 1) := by decide +kernel
set_option maxRecDepth 20000 in
theorem ggX1_sizeAt_X4_size : GoodIn wsX1_sizeAt wsX4_size := goodIn_r _ [5, 6, 12, 13] (by decide +kernel) (by decide +kernel)
set_option maxRecDepth 20000 in
theorem gX1_sizeAt_X4_size : GoodIn wsX1_sizeAt (wsV RX1 9 RX4 yX4_size wsX4_size) := goodIn_app (goodIn_of _ (by decide +kernel)) ggX1_sizeAt_X4_size
set_option maxRecDepth 20000 in
theorem ggX1_sizeAt_X4_signOn : GoodIn wsX1_sizeAt wsX4_signOn := goodIn_ca (goodIn_r _ [10, 6, 11, 12, 13] (by decide +kernel) (by decide +kernel)) (goodIn_sub (fun _ h => List.mem_cons_of_mem _ (List.mem_append_right _ h)) (by decide +kernel))
set_option maxRecDepth 20000 in
theorem gX1_sizeAt_X4_signOn : GoodIn wsX1_sizeAt (wsV RX1 21 RX4 yX4_signOn wsX4_signOn) := goodIn_app (goodIn_of _ (by decide +kernel)) ggX1_sizeAt_X4_signOn
theorem dX1_sizeAt_0 : decode cX1_sizeAt 0 = .ok (.iload_n 1, 1) := by decide +kernel
theorem dX1_sizeAt_1 : decode cX1_sizeAt 1 = .ok (.istore_n 2, 1) := by decide +kernel
theorem dX1_sizeAt_2 : decode cX1_sizeAt 2 = .ok (.iload_n 1, 1) := by decide +kernel
theorem dX1_sizeAt_3 : decode cX1_sizeAt 3 = .ok (.iconst 1, 1) := by decide +kernel
theorem dX1_sizeAt_4 : decode cX1_sizeAt 4 = .ok (.iadd, 1) := by decide +kernel
theorem dX1_sizeAt_5 : decode cX1_sizeAt 5 = .ok (.istore_n 3, 1) := by decide +kernel
theorem dX1_sizeAt_6 : decode cX1_sizeAt 6 = .ok (.iload_n 3, 1) := by decide +kernel
theorem dX1_sizeAt_7 : decode cX1_sizeAt 7 = .ok (.aload_n 0, 1) := by decide +kernel
theorem dX1_sizeAt_8 : decode cX1_sizeAt 8 = .ok (.invokevirtual 9, 3) := by decide +kernel
theorem dX1_sizeAt_11 : decode cX1_sizeAt 11 = .ok (.if_icmp .ge 43, 3) := by decide +kernel
theorem dX1_sizeAt_14 : decode cX1_sizeAt 14 = .ok (.aload_n 0, 1) := by decide +kernel
theorem dX1_sizeAt_15 : decode cX1_sizeAt 15 = .ok (.iload_n 2, 1) := by decide +kernel
theorem dX1_sizeAt_16 : decode cX1_sizeAt 16 = .ok (.invokevirtual 21, 3) := by decide +kernel
theorem dX1_sizeAt_19 : decode cX1_sizeAt 19 = .ok (.aload_n 0, 1) := by decide +kernel
theorem dX1_sizeAt_20 : decode cX1_sizeAt 20 = .ok (.iload_n 3, 1) := by decide +kernel
theorem dX1_sizeAt_21 : decode cX1_sizeAt 21 = .ok (.invokevirtual 21, 3) := by decide +kernel
theorem dX1_sizeAt_24 : decode cX1_sizeAt 24 = .ok (.if_icmp .gt 30, 3) := by decide +kernel
theorem dX1_sizeAt_27 : decode cX1_sizeAt 27 = .ok (.aload_n 0, 1) := by decide +kernel
theorem dX1_sizeAt_28 : decode cX1_sizeAt 28 = .ok (.iload_n 2, 1) := by decide +kernel
theorem dX1_sizeAt_29 : decode cX1_sizeAt 29 = .ok (.invokevirtual 21, 3) := by decide +kernel
theorem dX1_sizeAt_32 : decode cX1_sizeAt 32 = .ok (.aload_n 0, 1) := by decide +kernel
theorem dX1_sizeAt_33 : decode cX1_sizeAt 33 = .ok (.iload_n 3, 1) := by decide +kernel
theorem dX1_sizeAt_34 : decode cX1_sizeAt 34 = .ok (.invokevirtual 21, 3) := by decide +kernel
theorem dX1_sizeAt_37 : decode cX1_sizeAt 37 = .ok (.if_icmp .ge 7, 3) := by decide +kernel
theorem dX1_sizeAt_40 : decode cX1_sizeAt 40 = .ok (.iload_n 1, 1) := by decide +kernel
theorem dX1_sizeAt_41 : decode cX1_sizeAt 41 = .ok (.goto 6, 3) := by decide +kernel
theorem dX1_sizeAt_44 : decode cX1_sizeAt 44 = .ok (.iload_n 2, 1) := by decide +kernel
theorem dX1_sizeAt_45 : decode cX1_sizeAt 45 = .ok (.iconst 1, 1) := by decide +kernel
theorem dX1_sizeAt_46 : decode cX1_sizeAt 46 = .ok (.iadd, 1) := by decide +kernel
theorem dX1_sizeAt_47 : decode cX1_sizeAt 47 = .ok (.istore_n 2, 1) := by decide +kernel
theorem dX1_sizeAt_48 : decode cX1_sizeAt 48 = .ok (.iinc 3 1, 3) := by decide +kernel
theorem dX1_sizeAt_51 : decode cX1_sizeAt 51 = .ok (.goto (-45), 3) := by decide +kernel
theorem dX1_sizeAt_54 : decode cX1_sizeAt 54 = .ok (.iload_n 3, 1) := by decide +kernel
theorem dX1_sizeAt_55 : decode cX1_sizeAt 55 = .ok (.iload_n 2, 1) := by decide +kernel
theorem dX1_sizeAt_56 : decode cX1_sizeAt 56 = .ok (.isub, 1) := by decide +kernel
theorem dX1_sizeAt_57 : decode cX1_sizeAt 57 = .ok (.ireturn, 1) := by decide +kernel
set_option maxRecDepth 20000 in
theorem ggX1_areTrue_X4_size : GoodIn wsX1_areTrue wsX4_size := goodIn_r _ [5, 6, 33, 34] (by decide +kernel) (by decide +kernel)
set_option maxRecDepth 20000 in
theorem gX1_areTrue_X4_size : GoodIn wsX1_areTrue (wsV RX1 9 RX4 yX4_size wsX4_size) := goodIn_app (goodIn_of _ (by decide +kernel)) ggX1_areTrue_X4_size
set_option maxRecDepth 20000 in
theorem ggX1_areTrue_X1_sizeAt : GoodIn wsX1_areTrue wsX1_sizeAt := goodIn_ca (goodIn_r _ [10, 1, 2, 3, 4, 5, 6, 11, 12, 13, 14, 15, 33, 34] (by decide +kernel) (by decide +kernel)) (goodIn_sub (fun _ h => List.mem_cons_of_mem _ (List.mem_append_right _ h)) (by decide +kernel))
set_option maxRecDepth 20000 in
theorem gX1_areTrue_X1_sizeAt : GoodIn wsX1_areTrue (va_wsS RX1 15 yX1_sizeAt wsX1_sizeAt) := goodIn_app (goodIn_of _ (by decide +kernel)) ggX1_areTrue_X1_sizeAt
set_option maxRecDepth 20000 in
theorem ggX1_areTrue_X1_isLessThanItsEnds : GoodIn wsX1_areTrue wsX1_isLessThanItsEnds := goodIn_ca (goodIn_r _ [18, 19, 20, 21, 4, 22, 6, 23, 24, 25, 26, 27, 12, 13, 14, 15, 11, 33, 34] (by decide +kernel) (by decide +kernel)) (goodIn_sub (fun _ h => List.mem_cons_of_mem _ (List.mem_append_right _ h)) (by decide +kernel))
set_option maxRecDepth 20000 in
theorem gX1_areTrue_X1_isLessThanItsEnds : GoodIn wsX1_areTrue (va_wsS RX1 25 yX1_isLessThanItsEnds wsX1_isLessThanItsEnds) := goodIn_app (goodIn_of _ (by decide +kernel)) ggX1_areTrue_X1_isLessThanItsEnds
set_option maxRecDepth 20000 in
theorem ggX1_areTrue_X4_compareNeighbours : GoodIn wsX1_areTrue wsX4_compareNeighbours := goodIn_ca (goodIn_r _ [31, 23, 24, 25, 26, 32, 20, 21, 4, 22, 6, 27, 12, 13, 14, 15, 33, 34] (by decide +kernel) (by decide +kernel)) (goodIn_sub (fun _ h => List.mem_cons_of_mem _ (List.mem_append_right _ h)) (by decide +kernel))
set_option maxRecDepth 20000 in
theorem gX1_areTrue_X4_compareNeighbours : GoodIn wsX1_areTrue (wsV RX1 29 RX4 yX4_compareNeighbours wsX4_compareNeighbours) := goodIn_app (goodIn_of _ (by decide +kernel)) ggX1_areTrue_X4_compareNeighbours
theorem dX1_areTrue_0 : decode cX1_areTrue 0 = .ok (.iconst 0, 1) := by decide +kernel
theorem dX1_areTrue_1 : decode cX1_areTrue 1 = .ok (.istore_n 1, 1) := by decide +kernel
theorem dX1_areTrue_2 : decode cX1_areTrue 2 = .ok (.iconst 0, 1) := by decide +kernel
theorem dX1_areTrue_3 : decode cX1_areTrue 3 = .ok (.istore_n 2, 1) := by decide +kernel
theorem dX1_areTrue_4 : decode cX1_areTrue 4 = .ok (.iconst 0, 1) := by decide +kernel
theorem dX1_areTrue_5 : decode cX1_areTrue 5 = .ok (.istore_n 3, 1) := by decide +kernel
theorem dX1_areTrue_6 : decode cX1_areTrue 6 = .ok (.iload_n 3, 1) := by decide +kernel
theorem dX1_areTrue_7 : decode cX1_areTrue 7 = .ok (.bipush 60, 2) := by decide +kernel
theorem dX1_areTrue_9 : decode cX1_areTrue 9 = .ok (.if_icmp .ge 60, 3) := by decide +kernel
theorem dX1_areTrue_12 : decode cX1_areTrue 12 = .ok (.iload_n 2, 1) := by decide +kernel
theorem dX1_areTrue_13 : decode cX1_areTrue 13 = .ok (.aload_n 0, 1) := by decide +kernel
theorem dX1_areTrue_14 : decode cX1_areTrue 14 = .ok (.invokevirtual 9, 3) := by decide +kernel
theorem dX1_areTrue_17 : decode cX1_areTrue 17 = .ok (.if_icmp .ge 52, 3) := by decide +kernel
theorem dX1_areTrue_20 : decode cX1_areTrue 20 = .ok (.iload_n 2, 1) := by decide +kernel
theorem dX1_areTrue_21 : decode cX1_areTrue 21 = .ok (.aload_n 0, 1) := by decide +kernel
theorem dX1_areTrue_22 : decode cX1_areTrue 22 = .ok (.iload_n 2, 1) := by decide +kernel
theorem dX1_areTrue_23 : decode cX1_areTrue 23 = .ok (.invokestatic 15, 3) := by decide +kernel
theorem dX1_areTrue_26 : decode cX1_areTrue 26 = .ok (.iadd, 1) := by decide +kernel
theorem dX1_areTrue_27 : decode cX1_areTrue 27 = .ok (.istore 4, 2) := by decide +kernel
theorem dX1_areTrue_29 : decode cX1_areTrue 29 = .ok (.aload_n 0, 1) := by decide +kernel
theorem dX1_areTrue_30 : decode cX1_areTrue 30 = .ok (.iload_n 2, 1) := by decide +kernel
theorem dX1_areTrue_31 : decode cX1_areTrue 31 = .ok (.iload 4, 2) := by decide +kernel
theorem dX1_areTrue_33 : decode cX1_areTrue 33 = .ok (.invokestatic 25, 3) := by decide +kernel
theorem dX1_areTrue_36 : decode cX1_areTrue 36 = .ok (.ifCond .ne 5, 3) := by decide +kernel
theorem dX1_areTrue_39 : decode cX1_areTrue 39 = .ok (.iconst 0, 1) := by decide +kernel
theorem dX1_areTrue_40 : decode cX1_areTrue 40 = .ok (.ireturn, 1) := by decide +kernel
theorem dX1_areTrue_41 : decode cX1_areTrue 41 = .ok (.iload_n 2, 1) := by decide +kernel
theorem dX1_areTrue_42 : decode cX1_areTrue 42 = .ok (.ifCond .le 16, 3) := by decide +kernel
theorem dX1_areTrue_45 : decode cX1_areTrue 45 = .ok (.aload_n 0, 1) := by decide +kernel
theorem dX1_areTrue_46 : decode cX1_areTrue 46 = .ok (.iload_n 1, 1) := by decide +kernel
theorem dX1_areTrue_47 : decode cX1_areTrue 47 = .ok (.iload_n 2, 1) := by decide +kernel
theorem dX1_areTrue_48 : decode cX1_areTrue 48 = .ok (.iload 4, 2) := by decide +kernel
theorem dX1_areTrue_50 : decode cX1_areTrue 50 = .ok (.invokevirtual 29, 3) := by decide +kernel
theorem dX1_areTrue_53 : decode cX1_areTrue 53 = .ok (.ifCond .ge 5, 3) := by decide +kernel
theorem dX1_areTrue_56 : decode cX1_areTrue 56 = .ok (.iconst 0, 1) := by decide +kernel
theorem dX1_areTrue_57 : decode cX1_areTrue 57 = .ok (.ireturn, 1) := by decide +kernel
theorem dX1_areTrue_58 : decode cX1_areTrue 58 = .ok (.iload_n 2, 1) := by decide +kernel
theorem dX1_areTrue_59 : decode cX1_areTrue 59 = .ok (.istore_n 1, 1) := by decide +kernel
theorem dX1_areTrue_60 : decode cX1_areTrue 60 = .ok (.iload 4, 2) := by decide +kernel
theorem dX1_areTrue_62 : decode cX1_areTrue 62 = .ok (.istore_n 2, 1) := by decide +kernel
theorem dX1_areTrue_63 : decode cX1_areTrue 63 = .ok (.iinc 3 1, 3) := by decide +kernel
theorem dX1_areTrue_66 : decode cX1_areTrue 66 = .ok (.goto (-60), 3) := by decide +kernel
theorem dX1_areTrue_69 : decode cX1_areTrue 69 = .ok (.iload_n 2, 1) := by decide +kernel
theorem dX1_areTrue_70 : decode cX1_areTrue 70 = .ok (.aload_n 0, 1) := by decide +kernel
theorem dX1_areTrue_71 : decode cX1_areTrue 71 = .ok (.invokevirtual 9, 3) := by decide +kernel
theorem dX1_areTrue_74 : decode cX1_areTrue 74 = .ok (.if_icmp .ne 7, 3) := by decide +kernel
theorem dX1_areTrue_77 : decode cX1_areTrue 77 = .ok (.iconst 1, 1) := by decide +kernel
theorem dX1_areTrue_78 : decode cX1_areTrue 78 = .ok (.goto 4, 3) := by decide +kernel
theorem dX1_areTrue_81 : decode cX1_areTrue 81 = .ok (.iconst 0, 1) := by decide +kernel
theorem dX1_areTrue_82 : decode cX1_areTrue 82 = .ok (.ireturn, 1) := by decide +kernel
set_option maxRecDepth 20000 in
theorem ggX1_isLessThanItsEnds_X4_alike : GoodIn wsX1_isLessThanItsEnds wsX4_alike := goodIn_ca (goodIn_r _ [5, 6, 7, 8, 9, 10, 11, 12, 13, 4, 14, 15, 17, 18] (by decide +kernel) (by decide +kernel)) (goodIn_sub (fun _ h => List.mem_cons_of_mem _ (List.mem_append_right _ h)) (by decide +kernel))
set_option maxRecDepth 20000 in
theorem gX1_isLessThanItsEnds_X4_alike : GoodIn wsX1_isLessThanItsEnds (wsV RX1 33 RX4 yX4_alike wsX4_alike) := goodIn_app (goodIn_of _ (by decide +kernel)) ggX1_isLessThanItsEnds_X4_alike
set_option maxRecDepth 20000 in
theorem ggX1_isLessThanItsEnds_X4_signOn : GoodIn wsX1_isLessThanItsEnds wsX4_signOn := goodIn_ca (goodIn_r _ [14, 6, 15, 17, 18] (by decide +kernel) (by decide +kernel)) (goodIn_sub (fun _ h => List.mem_cons_of_mem _ (List.mem_append_right _ h)) (by decide +kernel))
set_option maxRecDepth 20000 in
theorem gX1_isLessThanItsEnds_X4_signOn : GoodIn wsX1_isLessThanItsEnds (wsV RX1 21 RX4 yX4_signOn wsX4_signOn) := goodIn_app (goodIn_of _ (by decide +kernel)) ggX1_isLessThanItsEnds_X4_signOn
theorem dX1_isLessThanItsEnds_0 : decode cX1_isLessThanItsEnds 0 = .ok (.iload_n 1, 1) := by decide +kernel
theorem dX1_isLessThanItsEnds_1 : decode cX1_isLessThanItsEnds 1 = .ok (.iconst 1, 1) := by decide +kernel
theorem dX1_isLessThanItsEnds_2 : decode cX1_isLessThanItsEnds 2 = .ok (.iadd, 1) := by decide +kernel
theorem dX1_isLessThanItsEnds_3 : decode cX1_isLessThanItsEnds 3 = .ok (.istore_n 3, 1) := by decide +kernel
theorem dX1_isLessThanItsEnds_4 : decode cX1_isLessThanItsEnds 4 = .ok (.iload_n 3, 1) := by decide +kernel
theorem dX1_isLessThanItsEnds_5 : decode cX1_isLessThanItsEnds 5 = .ok (.iload_n 2, 1) := by decide +kernel
theorem dX1_isLessThanItsEnds_6 : decode cX1_isLessThanItsEnds 6 = .ok (.if_icmp .ge 47, 3) := by decide +kernel
theorem dX1_isLessThanItsEnds_9 : decode cX1_isLessThanItsEnds 9 = .ok (.aload_n 0, 1) := by decide +kernel
theorem dX1_isLessThanItsEnds_10 : decode cX1_isLessThanItsEnds 10 = .ok (.iload_n 1, 1) := by decide +kernel
theorem dX1_isLessThanItsEnds_11 : decode cX1_isLessThanItsEnds 11 = .ok (.aload_n 0, 1) := by decide +kernel
theorem dX1_isLessThanItsEnds_12 : decode cX1_isLessThanItsEnds 12 = .ok (.iload_n 3, 1) := by decide +kernel
theorem dX1_isLessThanItsEnds_13 : decode cX1_isLessThanItsEnds 13 = .ok (.invokevirtual 33, 3) := by decide +kernel
theorem dX1_isLessThanItsEnds_16 : decode cX1_isLessThanItsEnds 16 = .ok (.istore 4, 2) := by decide +kernel
theorem dX1_isLessThanItsEnds_18 : decode cX1_isLessThanItsEnds 18 = .ok (.iload 4, 2) := by decide +kernel
theorem dX1_isLessThanItsEnds_20 : decode cX1_isLessThanItsEnds 20 = .ok (.iload_n 2, 1) := by decide +kernel
theorem dX1_isLessThanItsEnds_21 : decode cX1_isLessThanItsEnds 21 = .ok (.iload_n 3, 1) := by decide +kernel
theorem dX1_isLessThanItsEnds_22 : decode cX1_isLessThanItsEnds 22 = .ok (.isub, 1) := by decide +kernel
theorem dX1_isLessThanItsEnds_23 : decode cX1_isLessThanItsEnds 23 = .ok (.if_icmp .ge 22, 3) := by decide +kernel
theorem dX1_isLessThanItsEnds_26 : decode cX1_isLessThanItsEnds 26 = .ok (.aload_n 0, 1) := by decide +kernel
theorem dX1_isLessThanItsEnds_27 : decode cX1_isLessThanItsEnds 27 = .ok (.iload_n 1, 1) := by decide +kernel
theorem dX1_isLessThanItsEnds_28 : decode cX1_isLessThanItsEnds 28 = .ok (.iload 4, 2) := by decide +kernel
theorem dX1_isLessThanItsEnds_30 : decode cX1_isLessThanItsEnds 30 = .ok (.iadd, 1) := by decide +kernel
theorem dX1_isLessThanItsEnds_31 : decode cX1_isLessThanItsEnds 31 = .ok (.invokevirtual 21, 3) := by decide +kernel
theorem dX1_isLessThanItsEnds_34 : decode cX1_isLessThanItsEnds 34 = .ok (.aload_n 0, 1) := by decide +kernel
theorem dX1_isLessThanItsEnds_35 : decode cX1_isLessThanItsEnds 35 = .ok (.iload_n 3, 1) := by decide +kernel
theorem dX1_isLessThanItsEnds_36 : decode cX1_isLessThanItsEnds 36 = .ok (.iload 4, 2) := by decide +kernel
theorem dX1_isLessThanItsEnds_38 : decode cX1_isLessThanItsEnds 38 = .ok (.iadd, 1) := by decide +kernel
theorem dX1_isLessThanItsEnds_39 : decode cX1_isLessThanItsEnds 39 = .ok (.invokevirtual 21, 3) := by decide +kernel
theorem dX1_isLessThanItsEnds_42 : decode cX1_isLessThanItsEnds 42 = .ok (.if_icmp .le 5, 3) := by decide +kernel
theorem dX1_isLessThanItsEnds_45 : decode cX1_isLessThanItsEnds 45 = .ok (.iconst 0, 1) := by decide +kernel
theorem dX1_isLessThanItsEnds_46 : decode cX1_isLessThanItsEnds 46 = .ok (.ireturn, 1) := by decide +kernel
theorem dX1_isLessThanItsEnds_47 : decode cX1_isLessThanItsEnds 47 = .ok (.iinc 3 1, 3) := by decide +kernel
theorem dX1_isLessThanItsEnds_50 : decode cX1_isLessThanItsEnds 50 = .ok (.goto (-46), 3) := by decide +kernel
theorem dX1_isLessThanItsEnds_53 : decode cX1_isLessThanItsEnds 53 = .ok (.iconst 1, 1) := by decide +kernel
theorem dX1_isLessThanItsEnds_54 : decode cX1_isLessThanItsEnds 54 = .ok (.ireturn, 1) := by decide +kernel
theorem dX2_init_0 : decode cX2_init 0 = .ok (.aload_n 0, 1) := by decide +kernel
theorem dX2_init_1 : decode cX2_init 1 = .ok (.invokespecial 3, 3) := by decide +kernel
theorem dX2_init_4 : decode cX2_init 4 = .ok (.aload_n 0, 1) := by decide +kernel
theorem dX2_init_5 : decode cX2_init 5 = .ok (.bipush 61, 2) := by decide +kernel
theorem dX2_init_7 : decode cX2_init 7 = .ok (.newarray .long, 2) := by decide +kernel
theorem dX2_init_9 : decode cX2_init 9 = .ok (.putfield 9, 3) := by decide +kernel
theorem dX2_init_12 : decode cX2_init 12 = .ok (.aload_n 0, 1) := by decide +kernel
theorem dX2_init_13 : decode cX2_init 13 = .ok (.sipush 360, 3) := by decide +kernel
theorem dX2_init_16 : decode cX2_init 16 = .ok (.newarray .int, 2) := by decide +kernel
theorem dX2_init_18 : decode cX2_init 18 = .ok (.putfield 15, 3) := by decide +kernel
theorem dX2_init_21 : decode cX2_init 21 = .ok (.aload_n 0, 1) := by decide +kernel
theorem dX2_init_22 : decode cX2_init 22 = .ok (.sipush 360, 3) := by decide +kernel
theorem dX2_init_25 : decode cX2_init 25 = .ok (.newarray .int, 2) := by decide +kernel
theorem dX2_init_27 : decode cX2_init 27 = .ok (.putfield 19, 3) := by decide +kernel
theorem dX2_init_30 : decode cX2_init 30 = .ok (.aload_n 0, 1) := by decide +kernel
theorem dX2_init_31 : decode cX2_init 31 = .ok (.bipush 6, 2) := by decide +kernel
theorem dX2_init_33 : decode cX2_init 33 = .ok (.newarray .long, 2) := by decide +kernel
theorem dX2_init_35 : decode cX2_init 35 = .ok (.putfield 22, 3) := by decide +kernel
theorem dX2_init_38 : decode cX2_init 38 = .ok (.aload_n 0, 1) := by decide +kernel
theorem dX2_init_39 : decode cX2_init 39 = .ok (.iconst 0, 1) := by decide +kernel
theorem dX2_init_40 : decode cX2_init 40 = .ok (.putfield 25, 3) := by decide +kernel
theorem dX2_init_43 : decode cX2_init 43 = .ok (.return_, 1) := by decide +kernel
set_option maxRecDepth 20000 in
theorem ggX2_countRows_X4_size : GoodIn wsX2_countRows wsX4_size := goodIn_r _ [6, 7, 42, 43] (by decide +kernel) (by decide +kernel)
set_option maxRecDepth 20000 in
theorem gX2_countRows_X4_size : GoodIn wsX2_countRows (wsV RX2 29 RX4 yX4_size wsX4_size) := goodIn_app (goodIn_of _ (by decide +kernel)) ggX2_countRows_X4_size
set_option maxRecDepth 20000 in
theorem ggX2_countRows_X2_isUsed : GoodIn wsX2_countRows wsX2_isUsed := goodIn_r _ [11, 12, 13, 14, 5, 15, 7, 42, 43] (by decide +kernel) (by decide +kernel)
set_option maxRecDepth 20000 in
theorem gX2_countRows_X2_isUsed : GoodIn wsX2_countRows (va_wsS RX2 35 yX2_isUsed wsX2_isUsed) := goodIn_app (goodIn_of _ (by decide +kernel)) ggX2_countRows_X2_isUsed
set_option maxRecDepth 20000 in
theorem ggX2_countRows_X4_hasAt : GoodIn wsX2_countRows wsX4_hasAt := goodIn_ca (goodIn_r _ [19, 7, 20, 21, 22, 5, 23, 24, 25, 26, 27, 28, 29, 30, 31, 32, 42, 43] (by decide +kernel) (by decide +kernel)) (goodIn_sub (fun _ h => List.mem_cons_of_mem _ (List.mem_append_right _ h)) (by decide +kernel))
set_option maxRecDepth 20000 in
theorem gX2_countRows_X4_hasAt : GoodIn wsX2_countRows (wsV RX2 39 RX4 yX4_hasAt wsX4_hasAt) := goodIn_app (goodIn_of _ (by decide +kernel)) ggX2_countRows_X4_hasAt
set_option maxRecDepth 20000 in
theorem ggX2_countRows_X2_rowsTo : GoodIn wsX2_countRows wsX2_rowsTo := goodIn_ca (goodIn_r _ [36, 1, 37, 38, 39, 40, 41] (by decide +kernel) (by decide +kernel)) (goodIn_sub (fun _ h => List.mem_cons_of_mem _ (List.mem_append_right _ h)) (by decide +kernel))
set_option maxRecDepth 20000 in
theorem gX2_countRows_X2_rowsTo : GoodIn wsX2_countRows (wsV RX2 43 RX2 yX2_rowsTo wsX2_rowsTo) := goodIn_app (goodIn_of _ (by decide +kernel)) ggX2_countRows_X2_rowsTo
theorem dX2_countRows_0 : decode cX2_countRows 0 = .ok (.aload_n 0, 1) := by decide +kernel
theorem dX2_countRows_1 : decode cX2_countRows 1 = .ok (.getfield 9, 3) := by decide +kernel
theorem dX2_countRows_4 : decode cX2_countRows 4 = .ok (.iconst 0, 1) := by decide +kernel
theorem dX2_countRows_5 : decode cX2_countRows 5 = .ok (.lconst 1, 1) := by decide +kernel
theorem dX2_countRows_6 : decode cX2_countRows 6 = .ok (.lastore, 1) := by decide +kernel
theorem dX2_countRows_7 : decode cX2_countRows 7 = .ok (.iconst 1, 1) := by decide +kernel
theorem dX2_countRows_8 : decode cX2_countRows 8 = .ok (.istore 4, 2) := by decide +kernel
theorem dX2_countRows_10 : decode cX2_countRows 10 = .ok (.iload 4, 2) := by decide +kernel
theorem dX2_countRows_12 : decode cX2_countRows 12 = .ok (.aload_n 1, 1) := by decide +kernel
theorem dX2_countRows_13 : decode cX2_countRows 13 = .ok (.invokevirtual 29, 3) := by decide +kernel
theorem dX2_countRows_16 : decode cX2_countRows 16 = .ok (.if_icmp .gt 93, 3) := by decide +kernel
theorem dX2_countRows_19 : decode cX2_countRows 19 = .ok (.iload 4, 2) := by decide +kernel
theorem dX2_countRows_21 : decode cX2_countRows 21 = .ok (.aload_n 0, 1) := by decide +kernel
theorem dX2_countRows_22 : decode cX2_countRows 22 = .ok (.getfield 9, 3) := by decide +kernel
theorem dX2_countRows_25 : decode cX2_countRows 25 = .ok (.arraylength, 1) := by decide +kernel
theorem dX2_countRows_26 : decode cX2_countRows 26 = .ok (.if_icmp .ge 83, 3) := by decide +kernel
theorem dX2_countRows_29 : decode cX2_countRows 29 = .ok (.lconst 0, 1) := by decide +kernel
theorem dX2_countRows_30 : decode cX2_countRows 30 = .ok (.lstore 5, 2) := by decide +kernel
theorem dX2_countRows_32 : decode cX2_countRows 32 = .ok (.iconst 0, 1) := by decide +kernel
theorem dX2_countRows_33 : decode cX2_countRows 33 = .ok (.istore 7, 2) := by decide +kernel
theorem dX2_countRows_35 : decode cX2_countRows 35 = .ok (.iload 7, 2) := by decide +kernel
theorem dX2_countRows_37 : decode cX2_countRows 37 = .ok (.bipush 6, 2) := by decide +kernel
theorem dX2_countRows_39 : decode cX2_countRows 39 = .ok (.if_icmp .ge 55, 3) := by decide +kernel
theorem dX2_countRows_42 : decode cX2_countRows 42 = .ok (.iload 4, 2) := by decide +kernel
theorem dX2_countRows_44 : decode cX2_countRows 44 = .ok (.aload_n 2, 1) := by decide +kernel
theorem dX2_countRows_45 : decode cX2_countRows 45 = .ok (.iload 7, 2) := by decide +kernel
theorem dX2_countRows_47 : decode cX2_countRows 47 = .ok (.aaload, 1) := by decide +kernel
theorem dX2_countRows_48 : decode cX2_countRows 48 = .ok (.invokevirtual 29, 3) := by decide +kernel
theorem dX2_countRows_51 : decode cX2_countRows 51 = .ok (.isub, 1) := by decide +kernel
theorem dX2_countRows_52 : decode cX2_countRows 52 = .ok (.istore 8, 2) := by decide +kernel
theorem dX2_countRows_54 : decode cX2_countRows 54 = .ok (.aload_n 2, 1) := by decide +kernel
theorem dX2_countRows_55 : decode cX2_countRows 55 = .ok (.iload_n 3, 1) := by decide +kernel
theorem dX2_countRows_56 : decode cX2_countRows 56 = .ok (.iload 7, 2) := by decide +kernel
theorem dX2_countRows_58 : decode cX2_countRows 58 = .ok (.invokestatic 35, 3) := by decide +kernel
theorem dX2_countRows_61 : decode cX2_countRows 61 = .ok (.ifCond .eq 27, 3) := by decide +kernel
theorem dX2_countRows_64 : decode cX2_countRows 64 = .ok (.aload_n 1, 1) := by decide +kernel
theorem dX2_countRows_65 : decode cX2_countRows 65 = .ok (.iload 8, 2) := by decide +kernel
theorem dX2_countRows_67 : decode cX2_countRows 67 = .ok (.aload_n 2, 1) := by decide +kernel
theorem dX2_countRows_68 : decode cX2_countRows 68 = .ok (.iload 7, 2) := by decide +kernel
theorem dX2_countRows_70 : decode cX2_countRows 70 = .ok (.aaload, 1) := by decide +kernel
theorem dX2_countRows_71 : decode cX2_countRows 71 = .ok (.invokevirtual 39, 3) := by decide +kernel
theorem dX2_countRows_74 : decode cX2_countRows 74 = .ok (.ifCond .eq 14, 3) := by decide +kernel
theorem dX2_countRows_77 : decode cX2_countRows 77 = .ok (.lload 5, 2) := by decide +kernel
theorem dX2_countRows_79 : decode cX2_countRows 79 = .ok (.aload_n 0, 1) := by decide +kernel
theorem dX2_countRows_80 : decode cX2_countRows 80 = .ok (.iload 8, 2) := by decide +kernel
theorem dX2_countRows_82 : decode cX2_countRows 82 = .ok (.invokevirtual 43, 3) := by decide +kernel
theorem dX2_countRows_85 : decode cX2_countRows 85 = .ok (.ladd, 1) := by decide +kernel
theorem dX2_countRows_86 : decode cX2_countRows 86 = .ok (.lstore 5, 2) := by decide +kernel
theorem dX2_countRows_88 : decode cX2_countRows 88 = .ok (.iinc 7 1, 3) := by decide +kernel
theorem dX2_countRows_91 : decode cX2_countRows 91 = .ok (.goto (-56), 3) := by decide +kernel
theorem dX2_countRows_94 : decode cX2_countRows 94 = .ok (.aload_n 0, 1) := by decide +kernel
theorem dX2_countRows_95 : decode cX2_countRows 95 = .ok (.getfield 9, 3) := by decide +kernel
theorem dX2_countRows_98 : decode cX2_countRows 98 = .ok (.iload 4, 2) := by decide +kernel
theorem dX2_countRows_100 : decode cX2_countRows 100 = .ok (.lload 5, 2) := by decide +kernel
theorem dX2_countRows_102 : decode cX2_countRows 102 = .ok (.lastore, 1) := by decide +kernel
theorem dX2_countRows_103 : decode cX2_countRows 103 = .ok (.iinc 4 1, 3) := by decide +kernel
theorem dX2_countRows_106 : decode cX2_countRows 106 = .ok (.goto (-96), 3) := by decide +kernel
theorem dX2_countRows_109 : decode cX2_countRows 109 = .ok (.aload_n 0, 1) := by decide +kernel
theorem dX2_countRows_110 : decode cX2_countRows 110 = .ok (.aload_n 1, 1) := by decide +kernel
theorem dX2_countRows_111 : decode cX2_countRows 111 = .ok (.invokevirtual 29, 3) := by decide +kernel
theorem dX2_countRows_114 : decode cX2_countRows 114 = .ok (.invokevirtual 43, 3) := by decide +kernel
theorem dX2_countRows_117 : decode cX2_countRows 117 = .ok (.lreturn, 1) := by decide +kernel
theorem dX2_rowsTo_0 : decode cX2_rowsTo 0 = .ok (.iload_n 1, 1) := by decide +kernel
theorem dX2_rowsTo_1 : decode cX2_rowsTo 1 = .ok (.ifCond .lt 12, 3) := by decide +kernel
theorem dX2_rowsTo_4 : decode cX2_rowsTo 4 = .ok (.iload_n 1, 1) := by decide +kernel
theorem dX2_rowsTo_5 : decode cX2_rowsTo 5 = .ok (.aload_n 0, 1) := by decide +kernel
theorem dX2_rowsTo_6 : decode cX2_rowsTo 6 = .ok (.getfield 9, 3) := by decide +kernel
theorem dX2_rowsTo_9 : decode cX2_rowsTo 9 = .ok (.arraylength, 1) := by decide +kernel
theorem dX2_rowsTo_10 : decode cX2_rowsTo 10 = .ok (.if_icmp .lt 7, 3) := by decide +kernel
theorem dX2_rowsTo_13 : decode cX2_rowsTo 13 = .ok (.lconst 0, 1) := by decide +kernel
theorem dX2_rowsTo_14 : decode cX2_rowsTo 14 = .ok (.goto 9, 3) := by decide +kernel
theorem dX2_rowsTo_17 : decode cX2_rowsTo 17 = .ok (.aload_n 0, 1) := by decide +kernel
theorem dX2_rowsTo_18 : decode cX2_rowsTo 18 = .ok (.getfield 9, 3) := by decide +kernel
theorem dX2_rowsTo_21 : decode cX2_rowsTo 21 = .ok (.iload_n 1, 1) := by decide +kernel
theorem dX2_rowsTo_22 : decode cX2_rowsTo 22 = .ok (.laload, 1) := by decide +kernel
theorem dX2_rowsTo_23 : decode cX2_rowsTo 23 = .ok (.lreturn, 1) := by decide +kernel
set_option maxRecDepth 20000 in
theorem ggX2_areFree_X2_forgetRemainders : GoodIn wsX2_areFree wsX2_forgetRemainders := goodIn_ca (goodIn_r _ [8, 1, 9, 44, 45, 46, 47, 48] (by decide +kernel) (by decide +kernel)) (goodIn_sub (fun _ h => List.mem_cons_of_mem _ (List.mem_append_right _ h)) (by decide +kernel))
set_option maxRecDepth 20000 in
theorem gX2_areFree_X2_forgetRemainders : GoodIn wsX2_areFree (wsV RX2 47 RX2 yX2_forgetRemainders wsX2_forgetRemainders) := goodIn_app (goodIn_of _ (by decide +kernel)) ggX2_areFree_X2_forgetRemainders
set_option maxRecDepth 20000 in
theorem ggX2_areFree_X2_isUsed : GoodIn wsX2_areFree wsX2_isUsed := goodIn_r _ [12, 13, 14, 15, 16, 17, 18, 49, 50] (by decide +kernel) (by decide +kernel)
set_option maxRecDepth 20000 in
theorem gX2_areFree_X2_isUsed : GoodIn wsX2_areFree (va_wsS RX2 35 yX2_isUsed wsX2_isUsed) := goodIn_app (goodIn_of _ (by decide +kernel)) ggX2_areFree_X2_isUsed
set_option maxRecDepth 20000 in
theorem ggX2_areFree_X2_isMatchedBy : GoodIn wsX2_areFree wsX2_isMatchedBy := goodIn_ca (goodIn_r _ [22, 10, 11, 7, 12, 13, 14, 15, 16, 17, 18, 23, 24, 25, 26, 27, 28, 29, 30, 31, 32, 33, 34, 35, 36, 37, 38, 39, 40, 41, 42, 43, 9, 1, 2, 3, 49, 50, 44, 45, 46, 47, 48] (by decide +kernel) (by decide +kernel)) (goodIn_sub (fun _ h => List.mem_cons_of_mem _ (List.mem_append_right _ h)) (by decide +kernel))
set_option maxRecDepth 20000 in
theorem gX2_areFree_X2_isMatchedBy : GoodIn wsX2_areFree (wsV RX2 50 RX2 yX2_isMatchedBy wsX2_isMatchedBy) := goodIn_app (goodIn_of _ (by decide +kernel)) ggX2_areFree_X2_isMatchedBy
theorem dX2_areFree_0 : decode cX2_areFree 0 = .ok (.aload_n 0, 1) := by decide +kernel
theorem dX2_areFree_1 : decode cX2_areFree 1 = .ok (.invokevirtual 47, 3) := by decide +kernel
theorem dX2_areFree_4 : decode cX2_areFree 4 = .ok (.iconst 0, 1) := by decide +kernel
theorem dX2_areFree_5 : decode cX2_areFree 5 = .ok (.istore_n 3, 1) := by decide +kernel
theorem dX2_areFree_6 : decode cX2_areFree 6 = .ok (.iload_n 3, 1) := by decide +kernel
theorem dX2_areFree_7 : decode cX2_areFree 7 = .ok (.bipush 6, 2) := by decide +kernel
theorem dX2_areFree_9 : decode cX2_areFree 9 = .ok (.if_icmp .ge 48, 3) := by decide +kernel
theorem dX2_areFree_12 : decode cX2_areFree 12 = .ok (.iconst 0, 1) := by decide +kernel
theorem dX2_areFree_13 : decode cX2_areFree 13 = .ok (.istore 4, 2) := by decide +kernel
theorem dX2_areFree_15 : decode cX2_areFree 15 = .ok (.iload 4, 2) := by decide +kernel
theorem dX2_areFree_17 : decode cX2_areFree 17 = .ok (.iload_n 3, 1) := by decide +kernel
theorem dX2_areFree_18 : decode cX2_areFree 18 = .ok (.if_icmp .ge 33, 3) := by decide +kernel
theorem dX2_areFree_21 : decode cX2_areFree 21 = .ok (.aload_n 1, 1) := by decide +kernel
theorem dX2_areFree_22 : decode cX2_areFree 22 = .ok (.iload_n 2, 1) := by decide +kernel
theorem dX2_areFree_23 : decode cX2_areFree 23 = .ok (.iload_n 3, 1) := by decide +kernel
theorem dX2_areFree_24 : decode cX2_areFree 24 = .ok (.invokestatic 35, 3) := by decide +kernel
theorem dX2_areFree_27 : decode cX2_areFree 27 = .ok (.ifCond .eq 18, 3) := by decide +kernel
theorem dX2_areFree_30 : decode cX2_areFree 30 = .ok (.aload_n 0, 1) := by decide +kernel
theorem dX2_areFree_31 : decode cX2_areFree 31 = .ok (.aload_n 1, 1) := by decide +kernel
theorem dX2_areFree_32 : decode cX2_areFree 32 = .ok (.iload_n 2, 1) := by decide +kernel
theorem dX2_areFree_33 : decode cX2_areFree 33 = .ok (.iload_n 3, 1) := by decide +kernel
theorem dX2_areFree_34 : decode cX2_areFree 34 = .ok (.iconst 0, 1) := by decide +kernel
theorem dX2_areFree_35 : decode cX2_areFree 35 = .ok (.iload 4, 2) := by decide +kernel
theorem dX2_areFree_37 : decode cX2_areFree 37 = .ok (.invokevirtual 50, 3) := by decide +kernel
theorem dX2_areFree_40 : decode cX2_areFree 40 = .ok (.ifCond .eq 5, 3) := by decide +kernel
theorem dX2_areFree_43 : decode cX2_areFree 43 = .ok (.iconst 0, 1) := by decide +kernel
theorem dX2_areFree_44 : decode cX2_areFree 44 = .ok (.ireturn, 1) := by decide +kernel
theorem dX2_areFree_45 : decode cX2_areFree 45 = .ok (.iinc 4 1, 3) := by decide +kernel
theorem dX2_areFree_48 : decode cX2_areFree 48 = .ok (.goto (-33), 3) := by decide +kernel
theorem dX2_areFree_51 : decode cX2_areFree 51 = .ok (.iinc 3 1, 3) := by decide +kernel
theorem dX2_areFree_54 : decode cX2_areFree 54 = .ok (.goto (-48), 3) := by decide +kernel
theorem dX2_areFree_57 : decode cX2_areFree 57 = .ok (.iconst 0, 1) := by decide +kernel
theorem dX2_areFree_58 : decode cX2_areFree 58 = .ok (.istore_n 3, 1) := by decide +kernel
theorem dX2_areFree_59 : decode cX2_areFree 59 = .ok (.iload_n 3, 1) := by decide +kernel
theorem dX2_areFree_60 : decode cX2_areFree 60 = .ok (.aload_n 0, 1) := by decide +kernel
theorem dX2_areFree_61 : decode cX2_areFree 61 = .ok (.getfield 25, 3) := by decide +kernel
theorem dX2_areFree_64 : decode cX2_areFree 64 = .ok (.if_icmp .ge 57, 3) := by decide +kernel
theorem dX2_areFree_67 : decode cX2_areFree 67 = .ok (.iload_n 3, 1) := by decide +kernel
theorem dX2_areFree_68 : decode cX2_areFree 68 = .ok (.sipush 360, 3) := by decide +kernel
theorem dX2_areFree_71 : decode cX2_areFree 71 = .ok (.if_icmp .ge 50, 3) := by decide +kernel
theorem dX2_areFree_74 : decode cX2_areFree 74 = .ok (.iconst 0, 1) := by decide +kernel
theorem dX2_areFree_75 : decode cX2_areFree 75 = .ok (.istore 4, 2) := by decide +kernel
theorem dX2_areFree_77 : decode cX2_areFree 77 = .ok (.iload 4, 2) := by decide +kernel
theorem dX2_areFree_79 : decode cX2_areFree 79 = .ok (.bipush 6, 2) := by decide +kernel
theorem dX2_areFree_81 : decode cX2_areFree 81 = .ok (.if_icmp .ge 34, 3) := by decide +kernel
theorem dX2_areFree_84 : decode cX2_areFree 84 = .ok (.aload_n 0, 1) := by decide +kernel
theorem dX2_areFree_85 : decode cX2_areFree 85 = .ok (.aload_n 1, 1) := by decide +kernel
theorem dX2_areFree_86 : decode cX2_areFree 86 = .ok (.iload_n 2, 1) := by decide +kernel
theorem dX2_areFree_87 : decode cX2_areFree 87 = .ok (.aload_n 0, 1) := by decide +kernel
theorem dX2_areFree_88 : decode cX2_areFree 88 = .ok (.getfield 15, 3) := by decide +kernel
theorem dX2_areFree_91 : decode cX2_areFree 91 = .ok (.iload_n 3, 1) := by decide +kernel
theorem dX2_areFree_92 : decode cX2_areFree 92 = .ok (.iaload, 1) := by decide +kernel
theorem dX2_areFree_93 : decode cX2_areFree 93 = .ok (.aload_n 0, 1) := by decide +kernel
theorem dX2_areFree_94 : decode cX2_areFree 94 = .ok (.getfield 19, 3) := by decide +kernel
theorem dX2_areFree_97 : decode cX2_areFree 97 = .ok (.iload_n 3, 1) := by decide +kernel
theorem dX2_areFree_98 : decode cX2_areFree 98 = .ok (.iaload, 1) := by decide +kernel
theorem dX2_areFree_99 : decode cX2_areFree 99 = .ok (.iload 4, 2) := by decide +kernel
theorem dX2_areFree_101 : decode cX2_areFree 101 = .ok (.invokevirtual 50, 3) := by decide +kernel
theorem dX2_areFree_104 : decode cX2_areFree 104 = .ok (.ifCond .eq 5, 3) := by decide +kernel
theorem dX2_areFree_107 : decode cX2_areFree 107 = .ok (.iconst 0, 1) := by decide +kernel
theorem dX2_areFree_108 : decode cX2_areFree 108 = .ok (.ireturn, 1) := by decide +kernel
theorem dX2_areFree_109 : decode cX2_areFree 109 = .ok (.iinc 4 1, 3) := by decide +kernel
theorem dX2_areFree_112 : decode cX2_areFree 112 = .ok (.goto (-35), 3) := by decide +kernel
theorem dX2_areFree_115 : decode cX2_areFree 115 = .ok (.iinc 3 1, 3) := by decide +kernel
theorem dX2_areFree_118 : decode cX2_areFree 118 = .ok (.goto (-59), 3) := by decide +kernel
theorem dX2_areFree_121 : decode cX2_areFree 121 = .ok (.iconst 1, 1) := by decide +kernel
theorem dX2_areFree_122 : decode cX2_areFree 122 = .ok (.ireturn, 1) := by decide +kernel
set_option maxRecDepth 20000 in
theorem ggX2_isMatchedBy_X2_isUsed : GoodIn wsX2_isMatchedBy wsX2_isUsed := goodIn_r _ [4, 5, 6, 7, 8, 9, 10, 36, 37] (by decide +kernel) (by decide +kernel)
set_option maxRecDepth 20000 in
theorem gX2_isMatchedBy_X2_isUsed : GoodIn wsX2_isMatchedBy (va_wsS RX2 35 yX2_isUsed wsX2_isUsed) := goodIn_app (goodIn_of _ (by decide +kernel)) ggX2_isMatchedBy_X2_isUsed
set_option maxRecDepth 20000 in
theorem ggX2_isMatchedBy_X4_size : GoodIn wsX2_isMatchedBy wsX4_size := goodIn_r _ [14, 10, 36, 37] (by decide +kernel) (by decide +kernel)
set_option maxRecDepth 20000 in
theorem gX2_isMatchedBy_X4_size : GoodIn wsX2_isMatchedBy (wsV RX2 29 RX4 yX4_size wsX4_size) := goodIn_app (goodIn_of _ (by decide +kernel)) ggX2_isMatchedBy_X4_size
set_option maxRecDepth 20000 in
theorem ggX2_isMatchedBy_X4_alike : GoodIn wsX2_isMatchedBy wsX4_alike := goodIn_ca (goodIn_r _ [18, 10, 19, 20, 21, 22, 23, 24, 25, 8, 26, 27, 36, 37] (by decide +kernel) (by decide +kernel)) (goodIn_sub (fun _ h => List.mem_cons_of_mem _ (List.mem_append_right _ h)) (by decide +kernel))
set_option maxRecDepth 20000 in
theorem gX2_isMatchedBy_X4_alike : GoodIn wsX2_isMatchedBy (wsV RX2 54 RX4 yX4_alike wsX4_alike) := goodIn_app (goodIn_of _ (by decide +kernel)) ggX2_isMatchedBy_X4_alike
set_option maxRecDepth 20000 in
theorem ggX2_isMatchedBy_X2_keepRemainder : GoodIn wsX2_isMatchedBy wsX2_keepRemainder := goodIn_ca (goodIn_r _ [31, 32, 33, 34, 35, 38, 39, 40, 41, 42] (by decide +kernel) (by decide +kernel)) (goodIn_sub (fun _ h => List.mem_cons_of_mem _ (List.mem_append_right _ h)) (by decide +kernel))
set_option maxRecDepth 20000 in
theorem gX2_isMatchedBy_X2_keepRemainder : GoodIn wsX2_isMatchedBy (wsV RX2 58 RX2 yX2_keepRemainder wsX2_keepRemainder) := goodIn_app (goodIn_of _ (by decide +kernel)) ggX2_isMatchedBy_X2_keepRemainder
theorem dX2_isMatchedBy_0 : decode cX2_isMatchedBy 0 = .ok (.iload_n 3, 1) := by decide +kernel
theorem dX2_isMatchedBy_1 : decode cX2_isMatchedBy 1 = .ok (.ifCond .lt 19, 3) := by decide +kernel
theorem dX2_isMatchedBy_4 : decode cX2_isMatchedBy 4 = .ok (.iload_n 3, 1) := by decide +kernel
theorem dX2_isMatchedBy_5 : decode cX2_isMatchedBy 5 = .ok (.bipush 6, 2) := by decide +kernel
theorem dX2_isMatchedBy_7 : decode cX2_isMatchedBy 7 = .ok (.if_icmp .ge 13, 3) := by decide +kernel
theorem dX2_isMatchedBy_10 : decode cX2_isMatchedBy 10 = .ok (.aload_n 1, 1) := by decide +kernel
theorem dX2_isMatchedBy_11 : decode cX2_isMatchedBy 11 = .ok (.iload_n 2, 1) := by decide +kernel
theorem dX2_isMatchedBy_12 : decode cX2_isMatchedBy 12 = .ok (.iload 5, 2) := by decide +kernel
theorem dX2_isMatchedBy_14 : decode cX2_isMatchedBy 14 = .ok (.invokestatic 35, 3) := by decide +kernel
theorem dX2_isMatchedBy_17 : decode cX2_isMatchedBy 17 = .ok (.ifCond .ne 5, 3) := by decide +kernel
theorem dX2_isMatchedBy_20 : decode cX2_isMatchedBy 20 = .ok (.iconst 0, 1) := by decide +kernel
theorem dX2_isMatchedBy_21 : decode cX2_isMatchedBy 21 = .ok (.ireturn, 1) := by decide +kernel
theorem dX2_isMatchedBy_22 : decode cX2_isMatchedBy 22 = .ok (.aload_n 1, 1) := by decide +kernel
theorem dX2_isMatchedBy_23 : decode cX2_isMatchedBy 23 = .ok (.iload_n 3, 1) := by decide +kernel
theorem dX2_isMatchedBy_24 : decode cX2_isMatchedBy 24 = .ok (.aaload, 1) := by decide +kernel
theorem dX2_isMatchedBy_25 : decode cX2_isMatchedBy 25 = .ok (.invokevirtual 29, 3) := by decide +kernel
theorem dX2_isMatchedBy_28 : decode cX2_isMatchedBy 28 = .ok (.iload 4, 2) := by decide +kernel
theorem dX2_isMatchedBy_30 : decode cX2_isMatchedBy 30 = .ok (.isub, 1) := by decide +kernel
theorem dX2_isMatchedBy_31 : decode cX2_isMatchedBy 31 = .ok (.istore 6, 2) := by decide +kernel
theorem dX2_isMatchedBy_33 : decode cX2_isMatchedBy 33 = .ok (.aload_n 1, 1) := by decide +kernel
theorem dX2_isMatchedBy_34 : decode cX2_isMatchedBy 34 = .ok (.iload 5, 2) := by decide +kernel
theorem dX2_isMatchedBy_36 : decode cX2_isMatchedBy 36 = .ok (.aaload, 1) := by decide +kernel
theorem dX2_isMatchedBy_37 : decode cX2_isMatchedBy 37 = .ok (.invokevirtual 29, 3) := by decide +kernel
theorem dX2_isMatchedBy_40 : decode cX2_isMatchedBy 40 = .ok (.istore 7, 2) := by decide +kernel
theorem dX2_isMatchedBy_42 : decode cX2_isMatchedBy 42 = .ok (.aload_n 1, 1) := by decide +kernel
theorem dX2_isMatchedBy_43 : decode cX2_isMatchedBy 43 = .ok (.iload_n 3, 1) := by decide +kernel
theorem dX2_isMatchedBy_44 : decode cX2_isMatchedBy 44 = .ok (.aaload, 1) := by decide +kernel
theorem dX2_isMatchedBy_45 : decode cX2_isMatchedBy 45 = .ok (.iload 4, 2) := by decide +kernel
theorem dX2_isMatchedBy_47 : decode cX2_isMatchedBy 47 = .ok (.aload_n 1, 1) := by decide +kernel
theorem dX2_isMatchedBy_48 : decode cX2_isMatchedBy 48 = .ok (.iload 5, 2) := by decide +kernel
theorem dX2_isMatchedBy_50 : decode cX2_isMatchedBy 50 = .ok (.aaload, 1) := by decide +kernel
theorem dX2_isMatchedBy_51 : decode cX2_isMatchedBy 51 = .ok (.iconst 0, 1) := by decide +kernel
theorem dX2_isMatchedBy_52 : decode cX2_isMatchedBy 52 = .ok (.invokevirtual 54, 3) := by decide +kernel
theorem dX2_isMatchedBy_55 : decode cX2_isMatchedBy 55 = .ok (.istore 8, 2) := by decide +kernel
theorem dX2_isMatchedBy_57 : decode cX2_isMatchedBy 57 = .ok (.iload 8, 2) := by decide +kernel
theorem dX2_isMatchedBy_59 : decode cX2_isMatchedBy 59 = .ok (.iload 6, 2) := by decide +kernel
theorem dX2_isMatchedBy_61 : decode cX2_isMatchedBy 61 = .ok (.if_icmp .ne 12, 3) := by decide +kernel
theorem dX2_isMatchedBy_64 : decode cX2_isMatchedBy 64 = .ok (.iload 8, 2) := by decide +kernel
theorem dX2_isMatchedBy_66 : decode cX2_isMatchedBy 66 = .ok (.iload 7, 2) := by decide +kernel
theorem dX2_isMatchedBy_68 : decode cX2_isMatchedBy 68 = .ok (.if_icmp .ne 5, 3) := by decide +kernel
theorem dX2_isMatchedBy_71 : decode cX2_isMatchedBy 71 = .ok (.iconst 1, 1) := by decide +kernel
theorem dX2_isMatchedBy_72 : decode cX2_isMatchedBy 72 = .ok (.ireturn, 1) := by decide +kernel
theorem dX2_isMatchedBy_73 : decode cX2_isMatchedBy 73 = .ok (.iload 8, 2) := by decide +kernel
theorem dX2_isMatchedBy_75 : decode cX2_isMatchedBy 75 = .ok (.iload 7, 2) := by decide +kernel
theorem dX2_isMatchedBy_77 : decode cX2_isMatchedBy 77 = .ok (.if_icmp .ne 16, 3) := by decide +kernel
theorem dX2_isMatchedBy_80 : decode cX2_isMatchedBy 80 = .ok (.aload_n 0, 1) := by decide +kernel
theorem dX2_isMatchedBy_81 : decode cX2_isMatchedBy 81 = .ok (.iload_n 3, 1) := by decide +kernel
theorem dX2_isMatchedBy_82 : decode cX2_isMatchedBy 82 = .ok (.iload 4, 2) := by decide +kernel
theorem dX2_isMatchedBy_84 : decode cX2_isMatchedBy 84 = .ok (.iload 7, 2) := by decide +kernel
theorem dX2_isMatchedBy_86 : decode cX2_isMatchedBy 86 = .ok (.iadd, 1) := by decide +kernel
theorem dX2_isMatchedBy_87 : decode cX2_isMatchedBy 87 = .ok (.invokevirtual 58, 3) := by decide +kernel
theorem dX2_isMatchedBy_90 : decode cX2_isMatchedBy 90 = .ok (.goto 18, 3) := by decide +kernel
theorem dX2_isMatchedBy_93 : decode cX2_isMatchedBy 93 = .ok (.iload 8, 2) := by decide +kernel
theorem dX2_isMatchedBy_95 : decode cX2_isMatchedBy 95 = .ok (.iload 6, 2) := by decide +kernel
theorem dX2_isMatchedBy_97 : decode cX2_isMatchedBy 97 = .ok (.if_icmp .ne 11, 3) := by decide +kernel
theorem dX2_isMatchedBy_100 : decode cX2_isMatchedBy 100 = .ok (.aload_n 0, 1) := by decide +kernel
theorem dX2_isMatchedBy_101 : decode cX2_isMatchedBy 101 = .ok (.iload 5, 2) := by decide +kernel
theorem dX2_isMatchedBy_103 : decode cX2_isMatchedBy 103 = .ok (.iload 6, 2) := by decide +kernel
theorem dX2_isMatchedBy_105 : decode cX2_isMatchedBy 105 = .ok (.invokevirtual 58, 3) := by decide +kernel
theorem dX2_isMatchedBy_108 : decode cX2_isMatchedBy 108 = .ok (.iconst 0, 1) := by decide +kernel
theorem dX2_isMatchedBy_109 : decode cX2_isMatchedBy 109 = .ok (.ireturn, 1) := by decide +kernel
theorem dX2_forgetRemainders_0 : decode cX2_forgetRemainders 0 = .ok (.aload_n 0, 1) := by decide +kernel
theorem dX2_forgetRemainders_1 : decode cX2_forgetRemainders 1 = .ok (.iconst 0, 1) := by decide +kernel
theorem dX2_forgetRemainders_2 : decode cX2_forgetRemainders 2 = .ok (.putfield 25, 3) := by decide +kernel
theorem dX2_forgetRemainders_5 : decode cX2_forgetRemainders 5 = .ok (.iconst 0, 1) := by decide +kernel
theorem dX2_forgetRemainders_6 : decode cX2_forgetRemainders 6 = .ok (.istore_n 1, 1) := by decide +kernel
theorem dX2_forgetRemainders_7 : decode cX2_forgetRemainders 7 = .ok (.iload_n 1, 1) := by decide +kernel
theorem dX2_forgetRemainders_8 : decode cX2_forgetRemainders 8 = .ok (.bipush 6, 2) := by decide +kernel
theorem dX2_forgetRemainders_10 : decode cX2_forgetRemainders 10 = .ok (.if_icmp .ge 16, 3) := by decide +kernel
theorem dX2_forgetRemainders_13 : decode cX2_forgetRemainders 13 = .ok (.aload_n 0, 1) := by decide +kernel
theorem dX2_forgetRemainders_14 : decode cX2_forgetRemainders 14 = .ok (.getfield 22, 3) := by decide +kernel
theorem dX2_forgetRemainders_17 : decode cX2_forgetRemainders 17 = .ok (.iload_n 1, 1) := by decide +kernel
theorem dX2_forgetRemainders_18 : decode cX2_forgetRemainders 18 = .ok (.lconst 0, 1) := by decide +kernel
theorem dX2_forgetRemainders_19 : decode cX2_forgetRemainders 19 = .ok (.lastore, 1) := by decide +kernel
theorem dX2_forgetRemainders_20 : decode cX2_forgetRemainders 20 = .ok (.iinc 1 1, 3) := by decide +kernel
theorem dX2_forgetRemainders_23 : decode cX2_forgetRemainders 23 = .ok (.goto (-16), 3) := by decide +kernel
theorem dX2_forgetRemainders_26 : decode cX2_forgetRemainders 26 = .ok (.return_, 1) := by decide +kernel
theorem dX2_keepRemainder_0 : decode cX2_keepRemainder 0 = .ok (.lconst 1, 1) := by decide +kernel
theorem dX2_keepRemainder_1 : decode cX2_keepRemainder 1 = .ok (.iload_n 2, 1) := by decide +kernel
theorem dX2_keepRemainder_2 : decode cX2_keepRemainder 2 = .ok (.lshl, 1) := by decide +kernel
theorem dX2_keepRemainder_3 : decode cX2_keepRemainder 3 = .ok (.lstore_n 3, 1) := by decide +kernel
theorem dX2_keepRemainder_4 : decode cX2_keepRemainder 4 = .ok (.iload_n 1, 1) := by decide +kernel
theorem dX2_keepRemainder_5 : decode cX2_keepRemainder 5 = .ok (.ifCond .lt 26, 3) := by decide +kernel
theorem dX2_keepRemainder_8 : decode cX2_keepRemainder 8 = .ok (.iload_n 1, 1) := by decide +kernel
theorem dX2_keepRemainder_9 : decode cX2_keepRemainder 9 = .ok (.bipush 6, 2) := by decide +kernel
theorem dX2_keepRemainder_11 : decode cX2_keepRemainder 11 = .ok (.if_icmp .ge 20, 3) := by decide +kernel
theorem dX2_keepRemainder_14 : decode cX2_keepRemainder 14 = .ok (.aload_n 0, 1) := by decide +kernel
theorem dX2_keepRemainder_15 : decode cX2_keepRemainder 15 = .ok (.getfield 22, 3) := by decide +kernel
theorem dX2_keepRemainder_18 : decode cX2_keepRemainder 18 = .ok (.iload_n 1, 1) := by decide +kernel
theorem dX2_keepRemainder_19 : decode cX2_keepRemainder 19 = .ok (.laload, 1) := by decide +kernel
theorem dX2_keepRemainder_20 : decode cX2_keepRemainder 20 = .ok (.lload_n 3, 1) := by decide +kernel
theorem dX2_keepRemainder_21 : decode cX2_keepRemainder 21 = .ok (.land, 1) := by decide +kernel
theorem dX2_keepRemainder_22 : decode cX2_keepRemainder 22 = .ok (.lconst 0, 1) := by decide +kernel
theorem dX2_keepRemainder_23 : decode cX2_keepRemainder 23 = .ok (.lcmp, 1) := by decide +kernel
theorem dX2_keepRemainder_24 : decode cX2_keepRemainder 24 = .ok (.ifCond .ne 7, 3) := by decide +kernel
theorem dX2_keepRemainder_27 : decode cX2_keepRemainder 27 = .ok (.iconst 1, 1) := by decide +kernel
theorem dX2_keepRemainder_28 : decode cX2_keepRemainder 28 = .ok (.goto 4, 3) := by decide +kernel
theorem dX2_keepRemainder_31 : decode cX2_keepRemainder 31 = .ok (.iconst 0, 1) := by decide +kernel
theorem dX2_keepRemainder_32 : decode cX2_keepRemainder 32 = .ok (.istore 5, 2) := by decide +kernel
theorem dX2_keepRemainder_34 : decode cX2_keepRemainder 34 = .ok (.iload 5, 2) := by decide +kernel
theorem dX2_keepRemainder_36 : decode cX2_keepRemainder 36 = .ok (.ifCond .eq 53, 3) := by decide +kernel
theorem dX2_keepRemainder_39 : decode cX2_keepRemainder 39 = .ok (.aload_n 0, 1) := by decide +kernel
theorem dX2_keepRemainder_40 : decode cX2_keepRemainder 40 = .ok (.getfield 25, 3) := by decide +kernel
theorem dX2_keepRemainder_43 : decode cX2_keepRemainder 43 = .ok (.sipush 360, 3) := by decide +kernel
theorem dX2_keepRemainder_46 : decode cX2_keepRemainder 46 = .ok (.if_icmp .ge 43, 3) := by decide +kernel
theorem dX2_keepRemainder_49 : decode cX2_keepRemainder 49 = .ok (.aload_n 0, 1) := by decide +kernel
theorem dX2_keepRemainder_50 : decode cX2_keepRemainder 50 = .ok (.getfield 22, 3) := by decide +kernel
theorem dX2_keepRemainder_53 : decode cX2_keepRemainder 53 = .ok (.iload_n 1, 1) := by decide +kernel
theorem dX2_keepRemainder_54 : decode cX2_keepRemainder 54 = .ok (.dup2, 1) := by decide +kernel
theorem dX2_keepRemainder_55 : decode cX2_keepRemainder 55 = .ok (.laload, 1) := by decide +kernel
theorem dX2_keepRemainder_56 : decode cX2_keepRemainder 56 = .ok (.lload_n 3, 1) := by decide +kernel
theorem dX2_keepRemainder_57 : decode cX2_keepRemainder 57 = .ok (.lor, 1) := by decide +kernel
theorem dX2_keepRemainder_58 : decode cX2_keepRemainder 58 = .ok (.lastore, 1) := by decide +kernel
theorem dX2_keepRemainder_59 : decode cX2_keepRemainder 59 = .ok (.aload_n 0, 1) := by decide +kernel
theorem dX2_keepRemainder_60 : decode cX2_keepRemainder 60 = .ok (.getfield 15, 3) := by decide +kernel
theorem dX2_keepRemainder_63 : decode cX2_keepRemainder 63 = .ok (.aload_n 0, 1) := by decide +kernel
theorem dX2_keepRemainder_64 : decode cX2_keepRemainder 64 = .ok (.getfield 25, 3) := by decide +kernel
theorem dX2_keepRemainder_67 : decode cX2_keepRemainder 67 = .ok (.iload_n 1, 1) := by decide +kernel
theorem dX2_keepRemainder_68 : decode cX2_keepRemainder 68 = .ok (.iastore, 1) := by decide +kernel
theorem dX2_keepRemainder_69 : decode cX2_keepRemainder 69 = .ok (.aload_n 0, 1) := by decide +kernel
theorem dX2_keepRemainder_70 : decode cX2_keepRemainder 70 = .ok (.getfield 19, 3) := by decide +kernel
theorem dX2_keepRemainder_73 : decode cX2_keepRemainder 73 = .ok (.aload_n 0, 1) := by decide +kernel
theorem dX2_keepRemainder_74 : decode cX2_keepRemainder 74 = .ok (.getfield 25, 3) := by decide +kernel
theorem dX2_keepRemainder_77 : decode cX2_keepRemainder 77 = .ok (.iload_n 2, 1) := by decide +kernel
theorem dX2_keepRemainder_78 : decode cX2_keepRemainder 78 = .ok (.iastore, 1) := by decide +kernel
theorem dX2_keepRemainder_79 : decode cX2_keepRemainder 79 = .ok (.aload_n 0, 1) := by decide +kernel
theorem dX2_keepRemainder_80 : decode cX2_keepRemainder 80 = .ok (.dup, 1) := by decide +kernel
theorem dX2_keepRemainder_81 : decode cX2_keepRemainder 81 = .ok (.getfield 25, 3) := by decide +kernel
theorem dX2_keepRemainder_84 : decode cX2_keepRemainder 84 = .ok (.iconst 1, 1) := by decide +kernel
theorem dX2_keepRemainder_85 : decode cX2_keepRemainder 85 = .ok (.iadd, 1) := by decide +kernel
theorem dX2_keepRemainder_86 : decode cX2_keepRemainder 86 = .ok (.putfield 25, 3) := by decide +kernel
theorem dX2_keepRemainder_89 : decode cX2_keepRemainder 89 = .ok (.return_, 1) := by decide +kernel
set_option maxRecDepth 20000 in
theorem ggX2_isUsed_X4_isEmpty : GoodIn wsX2_isUsed wsX4_isEmpty := goodIn_r _ [5, 6, 7, 8] (by decide +kernel) (by decide +kernel)
set_option maxRecDepth 20000 in
theorem gX2_isUsed_X4_isEmpty : GoodIn wsX2_isUsed (wsV RX2 62 RX4 yX4_isEmpty wsX4_isEmpty) := goodIn_app (goodIn_of _ (by decide +kernel)) ggX2_isUsed_X4_isEmpty
theorem dX2_isUsed_0 : decode cX2_isUsed 0 = .ok (.iload_n 1, 1) := by decide +kernel
theorem dX2_isUsed_1 : decode cX2_isUsed 1 = .ok (.iload_n 2, 1) := by decide +kernel
theorem dX2_isUsed_2 : decode cX2_isUsed 2 = .ok (.ishr, 1) := by decide +kernel
theorem dX2_isUsed_3 : decode cX2_isUsed 3 = .ok (.iconst 1, 1) := by decide +kernel
theorem dX2_isUsed_4 : decode cX2_isUsed 4 = .ok (.iand, 1) := by decide +kernel
theorem dX2_isUsed_5 : decode cX2_isUsed 5 = .ok (.iconst 1, 1) := by decide +kernel
theorem dX2_isUsed_6 : decode cX2_isUsed 6 = .ok (.if_icmp .ne 16, 3) := by decide +kernel
theorem dX2_isUsed_9 : decode cX2_isUsed 9 = .ok (.aload_n 0, 1) := by decide +kernel
theorem dX2_isUsed_10 : decode cX2_isUsed 10 = .ok (.iload_n 2, 1) := by decide +kernel
theorem dX2_isUsed_11 : decode cX2_isUsed 11 = .ok (.aaload, 1) := by decide +kernel
theorem dX2_isUsed_12 : decode cX2_isUsed 12 = .ok (.invokevirtual 62, 3) := by decide +kernel
theorem dX2_isUsed_15 : decode cX2_isUsed 15 = .ok (.ifCond .ne 7, 3) := by decide +kernel
theorem dX2_isUsed_18 : decode cX2_isUsed 18 = .ok (.iconst 1, 1) := by decide +kernel
theorem dX2_isUsed_19 : decode cX2_isUsed 19 = .ok (.goto 4, 3) := by decide +kernel
theorem dX2_isUsed_22 : decode cX2_isUsed 22 = .ok (.iconst 0, 1) := by decide +kernel
theorem dX2_isUsed_23 : decode cX2_isUsed 23 = .ok (.ireturn, 1) := by decide +kernel
set_option maxRecDepth 20000 in
theorem ggX3_doCommute_X4_size : GoodIn wsX3_doCommute wsX4_size := goodIn_r _ [5, 6, 16, 17] (by decide +kernel) (by decide +kernel)
set_option maxRecDepth 20000 in
theorem gX3_doCommute_X4_size : GoodIn wsX3_doCommute (wsV RX3 7 RX4 yX4_size wsX4_size) := goodIn_app (goodIn_of _ (by decide +kernel)) ggX3_doCommute_X4_size
set_option maxRecDepth 20000 in
theorem ggX3_doCommute_X3_signJoined : GoodIn wsX3_doCommute wsX3_signJoined := goodIn_ca (goodIn_r _ [10, 1, 2, 3, 4, 5, 6, 11, 12, 13, 14, 15, 16, 17] (by decide +kernel) (by decide +kernel)) (goodIn_sub (fun _ h => List.mem_cons_of_mem _ (List.mem_append_right _ h)) (by decide +kernel))
set_option maxRecDepth 20000 in
theorem gX3_doCommute_X3_signJoined : GoodIn wsX3_doCommute (va_wsS RX3 13 yX3_signJoined wsX3_signJoined) := goodIn_app (goodIn_of _ (by decide +kernel)) ggX3_doCommute_X3_signJoined
theorem dX3_doCommute_0 : decode cX3_doCommute 0 = .ok (.aload_n 0, 1) := by decide +kernel
theorem dX3_doCommute_1 : decode cX3_doCommute 1 = .ok (.invokevirtual 7, 3) := by decide +kernel
theorem dX3_doCommute_4 : decode cX3_doCommute 4 = .ok (.aload_n 1, 1) := by decide +kernel
theorem dX3_doCommute_5 : decode cX3_doCommute 5 = .ok (.invokevirtual 7, 3) := by decide +kernel
theorem dX3_doCommute_8 : decode cX3_doCommute 8 = .ok (.iadd, 1) := by decide +kernel
theorem dX3_doCommute_9 : decode cX3_doCommute 9 = .ok (.istore_n 2, 1) := by decide +kernel
theorem dX3_doCommute_10 : decode cX3_doCommute 10 = .ok (.iconst 0, 1) := by decide +kernel
theorem dX3_doCommute_11 : decode cX3_doCommute 11 = .ok (.istore_n 3, 1) := by decide +kernel
theorem dX3_doCommute_12 : decode cX3_doCommute 12 = .ok (.iload_n 3, 1) := by decide +kernel
theorem dX3_doCommute_13 : decode cX3_doCommute 13 = .ok (.iload_n 2, 1) := by decide +kernel
theorem dX3_doCommute_14 : decode cX3_doCommute 14 = .ok (.if_icmp .ge 26, 3) := by decide +kernel
theorem dX3_doCommute_17 : decode cX3_doCommute 17 = .ok (.aload_n 0, 1) := by decide +kernel
theorem dX3_doCommute_18 : decode cX3_doCommute 18 = .ok (.aload_n 1, 1) := by decide +kernel
theorem dX3_doCommute_19 : decode cX3_doCommute 19 = .ok (.iload_n 3, 1) := by decide +kernel
theorem dX3_doCommute_20 : decode cX3_doCommute 20 = .ok (.invokestatic 13, 3) := by decide +kernel
theorem dX3_doCommute_23 : decode cX3_doCommute 23 = .ok (.aload_n 1, 1) := by decide +kernel
theorem dX3_doCommute_24 : decode cX3_doCommute 24 = .ok (.aload_n 0, 1) := by decide +kernel
theorem dX3_doCommute_25 : decode cX3_doCommute 25 = .ok (.iload_n 3, 1) := by decide +kernel
theorem dX3_doCommute_26 : decode cX3_doCommute 26 = .ok (.invokestatic 13, 3) := by decide +kernel
theorem dX3_doCommute_29 : decode cX3_doCommute 29 = .ok (.if_icmp .eq 5, 3) := by decide +kernel
theorem dX3_doCommute_32 : decode cX3_doCommute 32 = .ok (.iconst 0, 1) := by decide +kernel
theorem dX3_doCommute_33 : decode cX3_doCommute 33 = .ok (.ireturn, 1) := by decide +kernel
theorem dX3_doCommute_34 : decode cX3_doCommute 34 = .ok (.iinc 3 1, 3) := by decide +kernel
theorem dX3_doCommute_37 : decode cX3_doCommute 37 = .ok (.goto (-25), 3) := by decide +kernel
theorem dX3_doCommute_40 : decode cX3_doCommute 40 = .ok (.iconst 1, 1) := by decide +kernel
theorem dX3_doCommute_41 : decode cX3_doCommute 41 = .ok (.ireturn, 1) := by decide +kernel
set_option maxRecDepth 20000 in
theorem ggX3_signJoined_X4_size : GoodIn wsX3_signJoined wsX4_size := goodIn_r _ [5, 6, 12, 13] (by decide +kernel) (by decide +kernel)
set_option maxRecDepth 20000 in
theorem gX3_signJoined_X4_size : GoodIn wsX3_signJoined (wsV RX3 7 RX4 yX4_size wsX4_size) := goodIn_app (goodIn_of _ (by decide +kernel)) ggX3_signJoined_X4_size
set_option maxRecDepth 20000 in
theorem ggX3_signJoined_X4_signOn : GoodIn wsX3_signJoined wsX4_signOn := goodIn_ca (goodIn_r _ [10, 6, 11, 12, 13] (by decide +kernel) (by decide +kernel)) (goodIn_sub (fun _ h => List.mem_cons_of_mem _ (List.mem_append_right _ h)) (by decide +kernel))
set_option maxRecDepth 20000 in
theorem gX3_signJoined_X4_signOn : GoodIn wsX3_signJoined (wsV RX3 19 RX4 yX4_signOn wsX4_signOn) := goodIn_app (goodIn_of _ (by decide +kernel)) ggX3_signJoined_X4_signOn
theorem dX3_signJoined_0 : decode cX3_signJoined 0 = .ok (.iload_n 2, 1) := by decide +kernel
theorem dX3_signJoined_1 : decode cX3_signJoined 1 = .ok (.aload_n 0, 1) := by decide +kernel
theorem dX3_signJoined_2 : decode cX3_signJoined 2 = .ok (.invokevirtual 7, 3) := by decide +kernel
theorem dX3_signJoined_5 : decode cX3_signJoined 5 = .ok (.if_icmp .ge 11, 3) := by decide +kernel
theorem dX3_signJoined_8 : decode cX3_signJoined 8 = .ok (.aload_n 0, 1) := by decide +kernel
theorem dX3_signJoined_9 : decode cX3_signJoined 9 = .ok (.iload_n 2, 1) := by decide +kernel
theorem dX3_signJoined_10 : decode cX3_signJoined 10 = .ok (.invokevirtual 19, 3) := by decide +kernel
theorem dX3_signJoined_13 : decode cX3_signJoined 13 = .ok (.goto 13, 3) := by decide +kernel
theorem dX3_signJoined_16 : decode cX3_signJoined 16 = .ok (.aload_n 1, 1) := by decide +kernel
theorem dX3_signJoined_17 : decode cX3_signJoined 17 = .ok (.iload_n 2, 1) := by decide +kernel
theorem dX3_signJoined_18 : decode cX3_signJoined 18 = .ok (.aload_n 0, 1) := by decide +kernel
theorem dX3_signJoined_19 : decode cX3_signJoined 19 = .ok (.invokevirtual 7, 3) := by decide +kernel
theorem dX3_signJoined_22 : decode cX3_signJoined 22 = .ok (.isub, 1) := by decide +kernel
theorem dX3_signJoined_23 : decode cX3_signJoined 23 = .ok (.invokevirtual 19, 3) := by decide +kernel
theorem dX3_signJoined_26 : decode cX3_signJoined 26 = .ok (.ireturn, 1) := by decide +kernel
set_option maxRecDepth 20000 in
theorem ggX3_sharedSize_X4_isEmpty : GoodIn wsX3_sharedSize wsX4_isEmpty := goodIn_r _ [5, 6, 29, 30] (by decide +kernel) (by decide +kernel)
set_option maxRecDepth 20000 in
theorem gX3_sharedSize_X4_isEmpty : GoodIn wsX3_sharedSize (wsV RX3 23 RX4 yX4_isEmpty wsX4_isEmpty) := goodIn_app (goodIn_of _ (by decide +kernel)) ggX3_sharedSize_X4_isEmpty
set_option maxRecDepth 20000 in
theorem ggX3_sharedSize_X4_rootSize : GoodIn wsX3_sharedSize wsX4_rootSize := goodIn_ca (goodIn_ca (goodIn_r _ [10, 6, 11, 12, 13, 4, 14, 15, 16, 17, 18, 19, 20, 21, 22, 23, 24, 25, 26, 27, 29, 30] (by decide +kernel) (by decide +kernel)) (goodIn_sub (fun _ h => List.mem_cons_of_mem _ (List.mem_append_left _ (List.mem_append_right _ h))) (by decide +kernel))) (goodIn_sub (fun _ h => List.mem_cons_of_mem _ (List.mem_append_right _ h)) (by decide +kernel))
set_option maxRecDepth 20000 in
theorem gX3_sharedSize_X4_rootSize : GoodIn wsX3_sharedSize (wsV RX3 27 RX4 yX4_rootSize wsX4_rootSize) := goodIn_app (goodIn_of _ (by decide +kernel)) ggX3_sharedSize_X4_rootSize
set_option maxRecDepth 20000 in
theorem ggX3_sharedSize_X4_alike : GoodIn wsX3_sharedSize wsX4_alike := goodIn_ca (goodIn_r _ [18, 6, 19, 20, 21, 22, 23, 24, 25, 4, 26, 27, 29, 30] (by decide +kernel) (by decide +kernel)) (goodIn_sub (fun _ h => List.mem_cons_of_mem _ (List.mem_append_right _ h)) (by decide +kernel))
set_option maxRecDepth 20000 in
theorem gX3_sharedSize_X4_alike : GoodIn wsX3_sharedSize (wsV RX3 30 RX4 yX4_alike wsX4_alike) := goodIn_app (goodIn_of _ (by decide +kernel)) ggX3_sharedSize_X4_alike
theorem dX3_sharedSize_0 : decode cX3_sharedSize 0 = .ok (.aload_n 0, 1) := by decide +kernel
theorem dX3_sharedSize_1 : decode cX3_sharedSize 1 = .ok (.invokevirtual 23, 3) := by decide +kernel
theorem dX3_sharedSize_4 : decode cX3_sharedSize 4 = .ok (.ifCond .eq 8, 3) := by decide +kernel
theorem dX3_sharedSize_7 : decode cX3_sharedSize 7 = .ok (.aload_n 1, 1) := by decide +kernel
theorem dX3_sharedSize_8 : decode cX3_sharedSize 8 = .ok (.invokevirtual 27, 3) := by decide +kernel
theorem dX3_sharedSize_11 : decode cX3_sharedSize 11 = .ok (.ireturn, 1) := by decide +kernel
theorem dX3_sharedSize_12 : decode cX3_sharedSize 12 = .ok (.aload_n 0, 1) := by decide +kernel
theorem dX3_sharedSize_13 : decode cX3_sharedSize 13 = .ok (.invokevirtual 27, 3) := by decide +kernel
theorem dX3_sharedSize_16 : decode cX3_sharedSize 16 = .ok (.istore_n 2, 1) := by decide +kernel
theorem dX3_sharedSize_17 : decode cX3_sharedSize 17 = .ok (.aload_n 1, 1) := by decide +kernel
theorem dX3_sharedSize_18 : decode cX3_sharedSize 18 = .ok (.invokevirtual 23, 3) := by decide +kernel
theorem dX3_sharedSize_21 : decode cX3_sharedSize 21 = .ok (.ifCond .eq 5, 3) := by decide +kernel
theorem dX3_sharedSize_24 : decode cX3_sharedSize 24 = .ok (.iload_n 2, 1) := by decide +kernel
theorem dX3_sharedSize_25 : decode cX3_sharedSize 25 = .ok (.ireturn, 1) := by decide +kernel
theorem dX3_sharedSize_26 : decode cX3_sharedSize 26 = .ok (.aload_n 1, 1) := by decide +kernel
theorem dX3_sharedSize_27 : decode cX3_sharedSize 27 = .ok (.invokevirtual 27, 3) := by decide +kernel
theorem dX3_sharedSize_30 : decode cX3_sharedSize 30 = .ok (.iload_n 2, 1) := by decide +kernel
theorem dX3_sharedSize_31 : decode cX3_sharedSize 31 = .ok (.if_icmp .ne 18, 3) := by decide +kernel
theorem dX3_sharedSize_34 : decode cX3_sharedSize 34 = .ok (.aload_n 0, 1) := by decide +kernel
theorem dX3_sharedSize_35 : decode cX3_sharedSize 35 = .ok (.iconst 0, 1) := by decide +kernel
theorem dX3_sharedSize_36 : decode cX3_sharedSize 36 = .ok (.aload_n 1, 1) := by decide +kernel
theorem dX3_sharedSize_37 : decode cX3_sharedSize 37 = .ok (.iconst 0, 1) := by decide +kernel
theorem dX3_sharedSize_38 : decode cX3_sharedSize 38 = .ok (.invokevirtual 30, 3) := by decide +kernel
theorem dX3_sharedSize_41 : decode cX3_sharedSize 41 = .ok (.iload_n 2, 1) := by decide +kernel
theorem dX3_sharedSize_42 : decode cX3_sharedSize 42 = .ok (.if_icmp .lt 7, 3) := by decide +kernel
theorem dX3_sharedSize_45 : decode cX3_sharedSize 45 = .ok (.iload_n 2, 1) := by decide +kernel
theorem dX3_sharedSize_46 : decode cX3_sharedSize 46 = .ok (.goto 4, 3) := by decide +kernel
theorem dX3_sharedSize_49 : decode cX3_sharedSize 49 = .ok (.iconst 0, 1) := by decide +kernel
theorem dX3_sharedSize_50 : decode cX3_sharedSize 50 = .ok (.ireturn, 1) := by decide +kernel
set_option maxRecDepth 20000 in
theorem ggX3_areTrue_X4_isEmpty : GoodIn wsX3_areTrue wsX4_isEmpty := goodIn_r _ [5, 6, 44, 45] (by decide +kernel) (by decide +kernel)
set_option maxRecDepth 20000 in
theorem gX3_areTrue_X4_isEmpty : GoodIn wsX3_areTrue (wsV RX3 23 RX4 yX4_isEmpty wsX4_isEmpty) := goodIn_app (goodIn_of _ (by decide +kernel)) ggX3_areTrue_X4_isEmpty
set_option maxRecDepth 20000 in
theorem ggX3_areTrue_X3_doCommute : GoodIn wsX3_areTrue wsX3_doCommute := goodIn_ca (goodIn_r _ [10, 11, 12, 13, 4, 14, 6, 15, 16, 9, 17, 18, 19, 20, 21, 22, 44, 45] (by decide +kernel) (by decide +kernel)) (goodIn_sub (fun _ h => List.mem_cons_of_mem _ (List.mem_append_left _ (List.mem_append_right _ h))) (by decide +kernel))
set_option maxRecDepth 20000 in
theorem gX3_areTrue_X3_doCommute : GoodIn wsX3_areTrue (va_wsS RX3 34 yX3_doCommute wsX3_doCommute) := goodIn_app (goodIn_of _ (by decide +kernel)) ggX3_areTrue_X3_doCommute
set_option maxRecDepth 20000 in
theorem ggX3_areTrue_X3_sharedSize : GoodIn wsX3_areTrue wsX3_sharedSize := goodIn_ca (goodIn_ca (goodIn_r _ [25, 1, 2, 3, 4, 5, 6, 26, 27, 28, 29, 30, 31, 32, 33, 34, 35, 36, 37, 38, 39, 40, 41, 42, 19, 20, 21, 22, 43, 44, 45] (by decide +kernel) (by decide +kernel)) (goodIn_sub (fun _ h => List.mem_cons_of_mem _ (List.mem_append_right _ h)) (by decide +kernel))) (goodIn_sub (fun _ h => List.mem_cons_of_mem _ (List.mem_append_left _ (List.mem_append_right _ h))) (by decide +kernel))
set_option maxRecDepth 20000 in
theorem gX3_areTrue_X3_sharedSize : GoodIn wsX3_areTrue (va_wsS RX3 38 yX3_sharedSize wsX3_sharedSize) := goodIn_app (goodIn_of _ (by decide +kernel)) ggX3_areTrue_X3_sharedSize
theorem dX3_areTrue_0 : decode cX3_areTrue 0 = .ok (.aload_n 0, 1) := by decide +kernel
theorem dX3_areTrue_1 : decode cX3_areTrue 1 = .ok (.invokevirtual 23, 3) := by decide +kernel
theorem dX3_areTrue_4 : decode cX3_areTrue 4 = .ok (.ifCond .eq 14, 3) := by decide +kernel
theorem dX3_areTrue_7 : decode cX3_areTrue 7 = .ok (.aload_n 1, 1) := by decide +kernel
theorem dX3_areTrue_8 : decode cX3_areTrue 8 = .ok (.invokevirtual 23, 3) := by decide +kernel
theorem dX3_areTrue_11 : decode cX3_areTrue 11 = .ok (.ifCond .eq 7, 3) := by decide +kernel
theorem dX3_areTrue_14 : decode cX3_areTrue 14 = .ok (.iconst 1, 1) := by decide +kernel
theorem dX3_areTrue_15 : decode cX3_areTrue 15 = .ok (.goto 4, 3) := by decide +kernel
theorem dX3_areTrue_18 : decode cX3_areTrue 18 = .ok (.iconst 0, 1) := by decide +kernel
theorem dX3_areTrue_19 : decode cX3_areTrue 19 = .ok (.istore_n 2, 1) := by decide +kernel
theorem dX3_areTrue_20 : decode cX3_areTrue 20 = .ok (.aload_n 0, 1) := by decide +kernel
theorem dX3_areTrue_21 : decode cX3_areTrue 21 = .ok (.aload_n 1, 1) := by decide +kernel
theorem dX3_areTrue_22 : decode cX3_areTrue 22 = .ok (.invokestatic 34, 3) := by decide +kernel
theorem dX3_areTrue_25 : decode cX3_areTrue 25 = .ok (.iload_n 2, 1) := by decide +kernel
theorem dX3_areTrue_26 : decode cX3_areTrue 26 = .ok (.ifCond .ne 11, 3) := by decide +kernel
theorem dX3_areTrue_29 : decode cX3_areTrue 29 = .ok (.aload_n 0, 1) := by decide +kernel
theorem dX3_areTrue_30 : decode cX3_areTrue 30 = .ok (.aload_n 1, 1) := by decide +kernel
theorem dX3_areTrue_31 : decode cX3_areTrue 31 = .ok (.invokestatic 38, 3) := by decide +kernel
theorem dX3_areTrue_34 : decode cX3_areTrue 34 = .ok (.ifCond .le 7, 3) := by decide +kernel
theorem dX3_areTrue_37 : decode cX3_areTrue 37 = .ok (.iconst 1, 1) := by decide +kernel
theorem dX3_areTrue_38 : decode cX3_areTrue 38 = .ok (.goto 4, 3) := by decide +kernel
theorem dX3_areTrue_41 : decode cX3_areTrue 41 = .ok (.iconst 0, 1) := by decide +kernel
theorem dX3_areTrue_42 : decode cX3_areTrue 42 = .ok (.if_icmp .ne 7, 3) := by decide +kernel
theorem dX3_areTrue_45 : decode cX3_areTrue 45 = .ok (.iconst 1, 1) := by decide +kernel
theorem dX3_areTrue_46 : decode cX3_areTrue 46 = .ok (.goto 4, 3) := by decide +kernel
theorem dX3_areTrue_49 : decode cX3_areTrue 49 = .ok (.iconst 0, 1) := by decide +kernel
theorem dX3_areTrue_50 : decode cX3_areTrue 50 = .ok (.ireturn, 1) := by decide +kernel
theorem dX4_init_0 : decode cX4_init 0 = .ok (.aload_n 0, 1) := by decide +kernel
theorem dX4_init_1 : decode cX4_init 1 = .ok (.invokespecial 3, 3) := by decide +kernel
theorem dX4_init_4 : decode cX4_init 4 = .ok (.aload_n 0, 1) := by decide +kernel
theorem dX4_init_5 : decode cX4_init 5 = .ok (.bipush 60, 2) := by decide +kernel
theorem dX4_init_7 : decode cX4_init 7 = .ok (.newarray .char, 2) := by decide +kernel
theorem dX4_init_9 : decode cX4_init 9 = .ok (.putfield 9, 3) := by decide +kernel
theorem dX4_init_12 : decode cX4_init 12 = .ok (.aload_n 0, 1) := by decide +kernel
theorem dX4_init_13 : decode cX4_init 13 = .ok (.iconst 0, 1) := by decide +kernel
theorem dX4_init_14 : decode cX4_init 14 = .ok (.putfield 15, 3) := by decide +kernel
theorem dX4_init_17 : decode cX4_init 17 = .ok (.return_, 1) := by decide +kernel
theorem dX4_size_0 : decode cX4_size 0 = .ok (.aload_n 0, 1) := by decide +kernel
theorem dX4_size_1 : decode cX4_size 1 = .ok (.getfield 15, 3) := by decide +kernel
theorem dX4_size_4 : decode cX4_size 4 = .ok (.ireturn, 1) := by decide +kernel
theorem dX4_isEmpty_0 : decode cX4_isEmpty 0 = .ok (.aload_n 0, 1) := by decide +kernel
theorem dX4_isEmpty_1 : decode cX4_isEmpty 1 = .ok (.getfield 15, 3) := by decide +kernel
theorem dX4_isEmpty_4 : decode cX4_isEmpty 4 = .ok (.ifCond .ne 7, 3) := by decide +kernel
theorem dX4_isEmpty_7 : decode cX4_isEmpty 7 = .ok (.iconst 1, 1) := by decide +kernel
theorem dX4_isEmpty_8 : decode cX4_isEmpty 8 = .ok (.goto 4, 3) := by decide +kernel
theorem dX4_isEmpty_11 : decode cX4_isEmpty 11 = .ok (.iconst 0, 1) := by decide +kernel
theorem dX4_isEmpty_12 : decode cX4_isEmpty 12 = .ok (.ireturn, 1) := by decide +kernel
theorem dX4_signOn_0 : decode cX4_signOn 0 = .ok (.iload_n 1, 1) := by decide +kernel
theorem dX4_signOn_1 : decode cX4_signOn 1 = .ok (.ifCond .lt 11, 3) := by decide +kernel
theorem dX4_signOn_4 : decode cX4_signOn 4 = .ok (.iload_n 1, 1) := by decide +kernel
theorem dX4_signOn_5 : decode cX4_signOn 5 = .ok (.aload_n 0, 1) := by decide +kernel
theorem dX4_signOn_6 : decode cX4_signOn 6 = .ok (.getfield 15, 3) := by decide +kernel
theorem dX4_signOn_9 : decode cX4_signOn 9 = .ok (.if_icmp .lt 7, 3) := by decide +kernel
theorem dX4_signOn_12 : decode cX4_signOn 12 = .ok (.iconst 0, 1) := by decide +kernel
theorem dX4_signOn_13 : decode cX4_signOn 13 = .ok (.goto 9, 3) := by decide +kernel
theorem dX4_signOn_16 : decode cX4_signOn 16 = .ok (.aload_n 0, 1) := by decide +kernel
theorem dX4_signOn_17 : decode cX4_signOn 17 = .ok (.getfield 9, 3) := by decide +kernel
theorem dX4_signOn_20 : decode cX4_signOn 20 = .ok (.iload_n 1, 1) := by decide +kernel
theorem dX4_signOn_21 : decode cX4_signOn 21 = .ok (.caload, 1) := by decide +kernel
theorem dX4_signOn_22 : decode cX4_signOn 22 = .ok (.ireturn, 1) := by decide +kernel
theorem dX4_clear_0 : decode cX4_clear 0 = .ok (.aload_n 0, 1) := by decide +kernel
theorem dX4_clear_1 : decode cX4_clear 1 = .ok (.iconst 0, 1) := by decide +kernel
theorem dX4_clear_2 : decode cX4_clear 2 = .ok (.putfield 15, 3) := by decide +kernel
theorem dX4_clear_5 : decode cX4_clear 5 = .ok (.return_, 1) := by decide +kernel
theorem dX4_add_0 : decode cX4_add 0 = .ok (.aload_n 0, 1) := by decide +kernel
theorem dX4_add_1 : decode cX4_add 1 = .ok (.getfield 15, 3) := by decide +kernel
theorem dX4_add_4 : decode cX4_add 4 = .ok (.bipush 60, 2) := by decide +kernel
theorem dX4_add_6 : decode cX4_add 6 = .ok (.if_icmp .ge 23, 3) := by decide +kernel
theorem dX4_add_9 : decode cX4_add 9 = .ok (.aload_n 0, 1) := by decide +kernel
theorem dX4_add_10 : decode cX4_add 10 = .ok (.getfield 9, 3) := by decide +kernel
theorem dX4_add_13 : decode cX4_add 13 = .ok (.aload_n 0, 1) := by decide +kernel
theorem dX4_add_14 : decode cX4_add 14 = .ok (.getfield 15, 3) := by decide +kernel
theorem dX4_add_17 : decode cX4_add 17 = .ok (.iload_n 1, 1) := by decide +kernel
theorem dX4_add_18 : decode cX4_add 18 = .ok (.castore, 1) := by decide +kernel
theorem dX4_add_19 : decode cX4_add 19 = .ok (.aload_n 0, 1) := by decide +kernel
theorem dX4_add_20 : decode cX4_add 20 = .ok (.dup, 1) := by decide +kernel
theorem dX4_add_21 : decode cX4_add 21 = .ok (.getfield 15, 3) := by decide +kernel
theorem dX4_add_24 : decode cX4_add 24 = .ok (.iconst 1, 1) := by decide +kernel
theorem dX4_add_25 : decode cX4_add 25 = .ok (.iadd, 1) := by decide +kernel
theorem dX4_add_26 : decode cX4_add 26 = .ok (.putfield 15, 3) := by decide +kernel
theorem dX4_add_29 : decode cX4_add 29 = .ok (.return_, 1) := by decide +kernel
set_option maxRecDepth 20000 in
theorem ggX4_addPart_X4_signOn : GoodIn wsX4_addPart wsX4_signOn := goodIn_ca (goodIn_r _ [5, 6, 7, 12, 13] (by decide +kernel) (by decide +kernel)) (goodIn_sub (fun _ h => List.mem_cons_of_mem _ (List.mem_append_right _ h)) (by decide +kernel))
set_option maxRecDepth 20000 in
theorem gX4_addPart_X4_signOn : GoodIn wsX4_addPart (wsV RX4 19 RX4 yX4_signOn wsX4_signOn) := goodIn_app (goodIn_of _ (by decide +kernel)) ggX4_addPart_X4_signOn
set_option maxRecDepth 20000 in
theorem ggX4_addPart_X4_add : GoodIn wsX4_addPart wsX4_add := goodIn_ca (goodIn_r _ [11, 6, 7, 12, 13] (by decide +kernel) (by decide +kernel)) (goodIn_sub (fun _ h => List.mem_cons_of_mem _ (List.mem_append_right _ h)) (by decide +kernel))
set_option maxRecDepth 20000 in
theorem gX4_addPart_X4_add : GoodIn wsX4_addPart (wsV RX4 23 RX4 yX4_add wsX4_add) := goodIn_app (goodIn_of _ (by decide +kernel)) ggX4_addPart_X4_add
theorem dX4_addPart_0 : decode cX4_addPart 0 = .ok (.iload_n 2, 1) := by decide +kernel
theorem dX4_addPart_1 : decode cX4_addPart 1 = .ok (.istore 4, 2) := by decide +kernel
theorem dX4_addPart_3 : decode cX4_addPart 3 = .ok (.iload 4, 2) := by decide +kernel
theorem dX4_addPart_5 : decode cX4_addPart 5 = .ok (.iload_n 3, 1) := by decide +kernel
theorem dX4_addPart_6 : decode cX4_addPart 6 = .ok (.if_icmp .ge 19, 3) := by decide +kernel
theorem dX4_addPart_9 : decode cX4_addPart 9 = .ok (.aload_n 0, 1) := by decide +kernel
theorem dX4_addPart_10 : decode cX4_addPart 10 = .ok (.aload_n 1, 1) := by decide +kernel
theorem dX4_addPart_11 : decode cX4_addPart 11 = .ok (.iload 4, 2) := by decide +kernel
theorem dX4_addPart_13 : decode cX4_addPart 13 = .ok (.invokevirtual 19, 3) := by decide +kernel
theorem dX4_addPart_16 : decode cX4_addPart 16 = .ok (.invokevirtual 23, 3) := by decide +kernel
theorem dX4_addPart_19 : decode cX4_addPart 19 = .ok (.iinc 4 1, 3) := by decide +kernel
theorem dX4_addPart_22 : decode cX4_addPart 22 = .ok (.goto (-19), 3) := by decide +kernel
theorem dX4_addPart_25 : decode cX4_addPart 25 = .ok (.return_, 1) := by decide +kernel
set_option maxRecDepth 20000 in
theorem ggX4_addAll_X4_addPart : GoodIn wsX4_addAll wsX4_addPart := goodIn_ca (goodIn_r _ [6, 7, 8, 9, 5, 10, 1, 11, 12, 13, 14, 15, 16, 17] (by decide +kernel) (by decide +kernel)) (goodIn_sub (fun _ h => List.mem_cons_of_mem _ (List.mem_append_right _ h)) (by decide +kernel))
set_option maxRecDepth 20000 in
theorem gX4_addAll_X4_addPart : GoodIn wsX4_addAll (wsV RX4 27 RX4 yX4_addPart wsX4_addPart) := goodIn_app (goodIn_of _ (by decide +kernel)) ggX4_addAll_X4_addPart
theorem dX4_addAll_0 : decode cX4_addAll 0 = .ok (.aload_n 0, 1) := by decide +kernel
theorem dX4_addAll_1 : decode cX4_addAll 1 = .ok (.aload_n 1, 1) := by decide +kernel
theorem dX4_addAll_2 : decode cX4_addAll 2 = .ok (.iconst 0, 1) := by decide +kernel
theorem dX4_addAll_3 : decode cX4_addAll 3 = .ok (.aload_n 1, 1) := by decide +kernel
theorem dX4_addAll_4 : decode cX4_addAll 4 = .ok (.getfield 15, 3) := by decide +kernel
theorem dX4_addAll_7 : decode cX4_addAll 7 = .ok (.invokevirtual 27, 3) := by decide +kernel
theorem dX4_addAll_10 : decode cX4_addAll 10 = .ok (.return_, 1) := by decide +kernel
set_option maxRecDepth 20000 in
theorem ggX4_become_X4_clear : GoodIn wsX4_become wsX4_clear := goodIn_r _ [5, 6, 24, 25] (by decide +kernel) (by decide +kernel)
set_option maxRecDepth 20000 in
theorem gX4_become_X4_clear : GoodIn wsX4_become (wsV RX4 31 RX4 yX4_clear wsX4_clear) := goodIn_app (goodIn_of _ (by decide +kernel)) ggX4_become_X4_clear
set_option maxRecDepth 20000 in
theorem ggX4_become_X4_addAll : GoodIn wsX4_become wsX4_addAll := goodIn_ca (goodIn_r _ [10, 6, 11, 12, 13, 4, 14, 15, 16, 17, 18, 19, 20, 21, 22, 23, 24, 25] (by decide +kernel) (by decide +kernel)) (goodIn_sub (fun _ h => List.mem_cons_of_mem _ (List.mem_append_right _ h)) (by decide +kernel))
set_option maxRecDepth 20000 in
theorem gX4_become_X4_addAll : GoodIn wsX4_become (wsV RX4 34 RX4 yX4_addAll wsX4_addAll) := goodIn_app (goodIn_of _ (by decide +kernel)) ggX4_become_X4_addAll
theorem dX4_become_0 : decode cX4_become 0 = .ok (.aload_n 0, 1) := by decide +kernel
theorem dX4_become_1 : decode cX4_become 1 = .ok (.invokevirtual 31, 3) := by decide +kernel
theorem dX4_become_4 : decode cX4_become 4 = .ok (.aload_n 0, 1) := by decide +kernel
theorem dX4_become_5 : decode cX4_become 5 = .ok (.aload_n 1, 1) := by decide +kernel
theorem dX4_become_6 : decode cX4_become 6 = .ok (.invokevirtual 34, 3) := by decide +kernel
theorem dX4_become_9 : decode cX4_become 9 = .ok (.return_, 1) := by decide +kernel
set_option maxRecDepth 20000 in
theorem ggX4_alike_X4_signOn : GoodIn wsX4_alike wsX4_signOn := goodIn_ca (goodIn_r _ [10, 1, 11, 12, 13] (by decide +kernel) (by decide +kernel)) (goodIn_sub (fun _ h => List.mem_cons_of_mem _ (List.mem_append_right _ h)) (by decide +kernel))
set_option maxRecDepth 20000 in
theorem gX4_alike_X4_signOn : GoodIn wsX4_alike (wsV RX4 19 RX4 yX4_signOn wsX4_signOn) := goodIn_app (goodIn_of _ (by decide +kernel)) ggX4_alike_X4_signOn
theorem dX4_alike_0 : decode cX4_alike 0 = .ok (.aload_n 0, 1) := by decide +kernel
theorem dX4_alike_1 : decode cX4_alike 1 = .ok (.getfield 15, 3) := by decide +kernel
theorem dX4_alike_4 : decode cX4_alike 4 = .ok (.iload_n 1, 1) := by decide +kernel
theorem dX4_alike_5 : decode cX4_alike 5 = .ok (.isub, 1) := by decide +kernel
theorem dX4_alike_6 : decode cX4_alike 6 = .ok (.aload_n 2, 1) := by decide +kernel
theorem dX4_alike_7 : decode cX4_alike 7 = .ok (.getfield 15, 3) := by decide +kernel
theorem dX4_alike_10 : decode cX4_alike 10 = .ok (.iload_n 3, 1) := by decide +kernel
theorem dX4_alike_11 : decode cX4_alike 11 = .ok (.isub, 1) := by decide +kernel
theorem dX4_alike_12 : decode cX4_alike 12 = .ok (.invokestatic 38, 3) := by decide +kernel
theorem dX4_alike_15 : decode cX4_alike 15 = .ok (.istore 4, 2) := by decide +kernel
theorem dX4_alike_17 : decode cX4_alike 17 = .ok (.iconst 0, 1) := by decide +kernel
theorem dX4_alike_18 : decode cX4_alike 18 = .ok (.istore 5, 2) := by decide +kernel
theorem dX4_alike_20 : decode cX4_alike 20 = .ok (.iload 5, 2) := by decide +kernel
theorem dX4_alike_22 : decode cX4_alike 22 = .ok (.iload 4, 2) := by decide +kernel
theorem dX4_alike_24 : decode cX4_alike 24 = .ok (.if_icmp .ge 28, 3) := by decide +kernel
theorem dX4_alike_27 : decode cX4_alike 27 = .ok (.aload_n 0, 1) := by decide +kernel
theorem dX4_alike_28 : decode cX4_alike 28 = .ok (.iload_n 1, 1) := by decide +kernel
theorem dX4_alike_29 : decode cX4_alike 29 = .ok (.iload 5, 2) := by decide +kernel
theorem dX4_alike_31 : decode cX4_alike 31 = .ok (.iadd, 1) := by decide +kernel
theorem dX4_alike_32 : decode cX4_alike 32 = .ok (.invokevirtual 19, 3) := by decide +kernel
theorem dX4_alike_35 : decode cX4_alike 35 = .ok (.aload_n 2, 1) := by decide +kernel
theorem dX4_alike_36 : decode cX4_alike 36 = .ok (.iload_n 3, 1) := by decide +kernel
theorem dX4_alike_37 : decode cX4_alike 37 = .ok (.iload 5, 2) := by decide +kernel
theorem dX4_alike_39 : decode cX4_alike 39 = .ok (.iadd, 1) := by decide +kernel
theorem dX4_alike_40 : decode cX4_alike 40 = .ok (.invokevirtual 19, 3) := by decide +kernel
theorem dX4_alike_43 : decode cX4_alike 43 = .ok (.if_icmp .ne 9, 3) := by decide +kernel
theorem dX4_alike_46 : decode cX4_alike 46 = .ok (.iinc 5 1, 3) := by decide +kernel
theorem dX4_alike_49 : decode cX4_alike 49 = .ok (.goto (-29), 3) := by decide +kernel
theorem dX4_alike_52 : decode cX4_alike 52 = .ok (.iload 5, 2) := by decide +kernel
theorem dX4_alike_54 : decode cX4_alike 54 = .ok (.ireturn, 1) := by decide +kernel
set_option maxRecDepth 20000 in
theorem ggX4_alikeAtEnd_X4_signOn : GoodIn wsX4_alikeAtEnd wsX4_signOn := goodIn_ca (goodIn_r _ [10, 1, 11, 12, 13] (by decide +kernel) (by decide +kernel)) (goodIn_sub (fun _ h => List.mem_cons_of_mem _ (List.mem_append_right _ h)) (by decide +kernel))
set_option maxRecDepth 20000 in
theorem gX4_alikeAtEnd_X4_signOn : GoodIn wsX4_alikeAtEnd (wsV RX4 19 RX4 yX4_signOn wsX4_signOn) := goodIn_app (goodIn_of _ (by decide +kernel)) ggX4_alikeAtEnd_X4_signOn
theorem dX4_alikeAtEnd_0 : decode cX4_alikeAtEnd 0 = .ok (.aload_n 0, 1) := by decide +kernel
theorem dX4_alikeAtEnd_1 : decode cX4_alikeAtEnd 1 = .ok (.getfield 15, 3) := by decide +kernel
theorem dX4_alikeAtEnd_4 : decode cX4_alikeAtEnd 4 = .ok (.aload_n 1, 1) := by decide +kernel
theorem dX4_alikeAtEnd_5 : decode cX4_alikeAtEnd 5 = .ok (.getfield 15, 3) := by decide +kernel
theorem dX4_alikeAtEnd_8 : decode cX4_alikeAtEnd 8 = .ok (.invokestatic 38, 3) := by decide +kernel
theorem dX4_alikeAtEnd_11 : decode cX4_alikeAtEnd 11 = .ok (.istore_n 2, 1) := by decide +kernel
theorem dX4_alikeAtEnd_12 : decode cX4_alikeAtEnd 12 = .ok (.iconst 0, 1) := by decide +kernel
theorem dX4_alikeAtEnd_13 : decode cX4_alikeAtEnd 13 = .ok (.istore_n 3, 1) := by decide +kernel
theorem dX4_alikeAtEnd_14 : decode cX4_alikeAtEnd 14 = .ok (.iload_n 3, 1) := by decide +kernel
theorem dX4_alikeAtEnd_15 : decode cX4_alikeAtEnd 15 = .ok (.iload_n 2, 1) := by decide +kernel
theorem dX4_alikeAtEnd_16 : decode cX4_alikeAtEnd 16 = .ok (.if_icmp .ge 36, 3) := by decide +kernel
theorem dX4_alikeAtEnd_19 : decode cX4_alikeAtEnd 19 = .ok (.aload_n 0, 1) := by decide +kernel
theorem dX4_alikeAtEnd_20 : decode cX4_alikeAtEnd 20 = .ok (.aload_n 0, 1) := by decide +kernel
theorem dX4_alikeAtEnd_21 : decode cX4_alikeAtEnd 21 = .ok (.getfield 15, 3) := by decide +kernel
theorem dX4_alikeAtEnd_24 : decode cX4_alikeAtEnd 24 = .ok (.iconst 1, 1) := by decide +kernel
theorem dX4_alikeAtEnd_25 : decode cX4_alikeAtEnd 25 = .ok (.isub, 1) := by decide +kernel
theorem dX4_alikeAtEnd_26 : decode cX4_alikeAtEnd 26 = .ok (.iload_n 3, 1) := by decide +kernel
theorem dX4_alikeAtEnd_27 : decode cX4_alikeAtEnd 27 = .ok (.isub, 1) := by decide +kernel
theorem dX4_alikeAtEnd_28 : decode cX4_alikeAtEnd 28 = .ok (.invokevirtual 19, 3) := by decide +kernel
theorem dX4_alikeAtEnd_31 : decode cX4_alikeAtEnd 31 = .ok (.aload_n 1, 1) := by decide +kernel
theorem dX4_alikeAtEnd_32 : decode cX4_alikeAtEnd 32 = .ok (.aload_n 1, 1) := by decide +kernel
theorem dX4_alikeAtEnd_33 : decode cX4_alikeAtEnd 33 = .ok (.getfield 15, 3) := by decide +kernel
theorem dX4_alikeAtEnd_36 : decode cX4_alikeAtEnd 36 = .ok (.iconst 1, 1) := by decide +kernel
theorem dX4_alikeAtEnd_37 : decode cX4_alikeAtEnd 37 = .ok (.isub, 1) := by decide +kernel
theorem dX4_alikeAtEnd_38 : decode cX4_alikeAtEnd 38 = .ok (.iload_n 3, 1) := by decide +kernel
theorem dX4_alikeAtEnd_39 : decode cX4_alikeAtEnd 39 = .ok (.isub, 1) := by decide +kernel
theorem dX4_alikeAtEnd_40 : decode cX4_alikeAtEnd 40 = .ok (.invokevirtual 19, 3) := by decide +kernel
theorem dX4_alikeAtEnd_43 : decode cX4_alikeAtEnd 43 = .ok (.if_icmp .ne 9, 3) := by decide +kernel
theorem dX4_alikeAtEnd_46 : decode cX4_alikeAtEnd 46 = .ok (.iinc 3 1, 3) := by decide +kernel
theorem dX4_alikeAtEnd_49 : decode cX4_alikeAtEnd 49 = .ok (.goto (-35), 3) := by decide +kernel
theorem dX4_alikeAtEnd_52 : decode cX4_alikeAtEnd 52 = .ok (.iload_n 3, 1) := by decide +kernel
theorem dX4_alikeAtEnd_53 : decode cX4_alikeAtEnd 53 = .ok (.ireturn, 1) := by decide +kernel
set_option maxRecDepth 20000 in
theorem ggX4_hasAt_X4_alike : GoodIn wsX4_hasAt wsX4_alike := goodIn_ca (goodIn_r _ [6, 1, 7, 8, 9, 10, 11, 12, 13, 5, 14, 15, 16, 17] (by decide +kernel) (by decide +kernel)) (goodIn_sub (fun _ h => List.mem_cons_of_mem _ (List.mem_append_right _ h)) (by decide +kernel))
set_option maxRecDepth 20000 in
theorem gX4_hasAt_X4_alike : GoodIn wsX4_hasAt (wsV RX4 44 RX4 yX4_alike wsX4_alike) := goodIn_app (goodIn_of _ (by decide +kernel)) ggX4_hasAt_X4_alike
theorem dX4_hasAt_0 : decode cX4_hasAt 0 = .ok (.aload_n 0, 1) := by decide +kernel
theorem dX4_hasAt_1 : decode cX4_hasAt 1 = .ok (.iload_n 1, 1) := by decide +kernel
theorem dX4_hasAt_2 : decode cX4_hasAt 2 = .ok (.aload_n 2, 1) := by decide +kernel
theorem dX4_hasAt_3 : decode cX4_hasAt 3 = .ok (.iconst 0, 1) := by decide +kernel
theorem dX4_hasAt_4 : decode cX4_hasAt 4 = .ok (.invokevirtual 44, 3) := by decide +kernel
theorem dX4_hasAt_7 : decode cX4_hasAt 7 = .ok (.aload_n 2, 1) := by decide +kernel
theorem dX4_hasAt_8 : decode cX4_hasAt 8 = .ok (.getfield 15, 3) := by decide +kernel
theorem dX4_hasAt_11 : decode cX4_hasAt 11 = .ok (.if_icmp .ne 7, 3) := by decide +kernel
theorem dX4_hasAt_14 : decode cX4_hasAt 14 = .ok (.iconst 1, 1) := by decide +kernel
theorem dX4_hasAt_15 : decode cX4_hasAt 15 = .ok (.goto 4, 3) := by decide +kernel
theorem dX4_hasAt_18 : decode cX4_hasAt 18 = .ok (.iconst 0, 1) := by decide +kernel
theorem dX4_hasAt_19 : decode cX4_hasAt 19 = .ok (.ireturn, 1) := by decide +kernel
set_option maxRecDepth 20000 in
theorem ggX4_countOf_X4_hasAt : GoodIn wsX4_countOf wsX4_hasAt := goodIn_ca (goodIn_r _ [6, 1, 7, 8, 9, 5, 10, 11, 12, 13, 14, 15, 16, 17, 18, 19, 20, 21] (by decide +kernel) (by decide +kernel)) (goodIn_sub (fun _ h => List.mem_cons_of_mem _ (List.mem_append_right _ h)) (by decide +kernel))
set_option maxRecDepth 20000 in
theorem gX4_countOf_X4_hasAt : GoodIn wsX4_countOf (wsV RX4 48 RX4 yX4_hasAt wsX4_hasAt) := goodIn_app (goodIn_of _ (by decide +kernel)) ggX4_countOf_X4_hasAt
theorem dX4_countOf_0 : decode cX4_countOf 0 = .ok (.iconst 0, 1) := by decide +kernel
theorem dX4_countOf_1 : decode cX4_countOf 1 = .ok (.istore_n 3, 1) := by decide +kernel
theorem dX4_countOf_2 : decode cX4_countOf 2 = .ok (.iconst 0, 1) := by decide +kernel
theorem dX4_countOf_3 : decode cX4_countOf 3 = .ok (.istore 4, 2) := by decide +kernel
theorem dX4_countOf_5 : decode cX4_countOf 5 = .ok (.iconst 0, 1) := by decide +kernel
theorem dX4_countOf_6 : decode cX4_countOf 6 = .ok (.istore 5, 2) := by decide +kernel
theorem dX4_countOf_8 : decode cX4_countOf 8 = .ok (.iload 5, 2) := by decide +kernel
theorem dX4_countOf_10 : decode cX4_countOf 10 = .ok (.aload_n 0, 1) := by decide +kernel
theorem dX4_countOf_11 : decode cX4_countOf 11 = .ok (.getfield 15, 3) := by decide +kernel
theorem dX4_countOf_14 : decode cX4_countOf 14 = .ok (.aload_n 1, 1) := by decide +kernel
theorem dX4_countOf_15 : decode cX4_countOf 15 = .ok (.getfield 15, 3) := by decide +kernel
theorem dX4_countOf_18 : decode cX4_countOf 18 = .ok (.isub, 1) := by decide +kernel
theorem dX4_countOf_19 : decode cX4_countOf 19 = .ok (.if_icmp .gt 47, 3) := by decide +kernel
theorem dX4_countOf_22 : decode cX4_countOf 22 = .ok (.iload 5, 2) := by decide +kernel
theorem dX4_countOf_24 : decode cX4_countOf 24 = .ok (.iload 4, 2) := by decide +kernel
theorem dX4_countOf_26 : decode cX4_countOf 26 = .ok (.if_icmp .lt 34, 3) := by decide +kernel
theorem dX4_countOf_29 : decode cX4_countOf 29 = .ok (.aload_n 0, 1) := by decide +kernel
theorem dX4_countOf_30 : decode cX4_countOf 30 = .ok (.iload 5, 2) := by decide +kernel
theorem dX4_countOf_32 : decode cX4_countOf 32 = .ok (.aload_n 1, 1) := by decide +kernel
theorem dX4_countOf_33 : decode cX4_countOf 33 = .ok (.invokevirtual 48, 3) := by decide +kernel
theorem dX4_countOf_36 : decode cX4_countOf 36 = .ok (.ifCond .eq 24, 3) := by decide +kernel
theorem dX4_countOf_39 : decode cX4_countOf 39 = .ok (.iinc 3 1, 3) := by decide +kernel
theorem dX4_countOf_42 : decode cX4_countOf 42 = .ok (.iload_n 2, 1) := by decide +kernel
theorem dX4_countOf_43 : decode cX4_countOf 43 = .ok (.ifCond .eq 13, 3) := by decide +kernel
theorem dX4_countOf_46 : decode cX4_countOf 46 = .ok (.iload 5, 2) := by decide +kernel
theorem dX4_countOf_48 : decode cX4_countOf 48 = .ok (.aload_n 1, 1) := by decide +kernel
theorem dX4_countOf_49 : decode cX4_countOf 49 = .ok (.getfield 15, 3) := by decide +kernel
theorem dX4_countOf_52 : decode cX4_countOf 52 = .ok (.iadd, 1) := by decide +kernel
theorem dX4_countOf_53 : decode cX4_countOf 53 = .ok (.goto 5, 3) := by decide +kernel
theorem dX4_countOf_56 : decode cX4_countOf 56 = .ok (.iload 5, 2) := by decide +kernel
theorem dX4_countOf_58 : decode cX4_countOf 58 = .ok (.istore 4, 2) := by decide +kernel
theorem dX4_countOf_60 : decode cX4_countOf 60 = .ok (.iinc 5 1, 3) := by decide +kernel
theorem dX4_countOf_63 : decode cX4_countOf 63 = .ok (.goto (-55), 3) := by decide +kernel
theorem dX4_countOf_66 : decode cX4_countOf 66 = .ok (.iload_n 3, 1) := by decide +kernel
theorem dX4_countOf_67 : decode cX4_countOf 67 = .ok (.ireturn, 1) := by decide +kernel
set_option maxRecDepth 20000 in
theorem ggX4_compareWith_X4_alike : GoodIn wsX4_compareWith wsX4_alike := goodIn_ca (goodIn_r _ [6, 1, 7, 8, 9, 10, 11, 12, 13, 5, 14, 15, 16, 17] (by decide +kernel) (by decide +kernel)) (goodIn_sub (fun _ h => List.mem_cons_of_mem _ (List.mem_append_right _ h)) (by decide +kernel))
set_option maxRecDepth 20000 in
theorem gX4_compareWith_X4_alike : GoodIn wsX4_compareWith (wsV RX4 44 RX4 yX4_alike wsX4_alike) := goodIn_app (goodIn_of _ (by decide +kernel)) ggX4_compareWith_X4_alike
set_option maxRecDepth 20000 in
theorem ggX4_compareWith_X4_signOn : GoodIn wsX4_compareWith wsX4_signOn := goodIn_ca (goodIn_r _ [14, 1, 15, 16, 17] (by decide +kernel) (by decide +kernel)) (goodIn_sub (fun _ h => List.mem_cons_of_mem _ (List.mem_append_right _ h)) (by decide +kernel))
set_option maxRecDepth 20000 in
theorem gX4_compareWith_X4_signOn : GoodIn wsX4_compareWith (wsV RX4 19 RX4 yX4_signOn wsX4_signOn) := goodIn_app (goodIn_of _ (by decide +kernel)) ggX4_compareWith_X4_signOn
theorem dX4_compareWith_0 : decode cX4_compareWith 0 = .ok (.aload_n 0, 1) := by decide +kernel
theorem dX4_compareWith_1 : decode cX4_compareWith 1 = .ok (.iconst 0, 1) := by decide +kernel
theorem dX4_compareWith_2 : decode cX4_compareWith 2 = .ok (.aload_n 1, 1) := by decide +kernel
theorem dX4_compareWith_3 : decode cX4_compareWith 3 = .ok (.iconst 0, 1) := by decide +kernel
theorem dX4_compareWith_4 : decode cX4_compareWith 4 = .ok (.invokevirtual 44, 3) := by decide +kernel
theorem dX4_compareWith_7 : decode cX4_compareWith 7 = .ok (.istore_n 2, 1) := by decide +kernel
theorem dX4_compareWith_8 : decode cX4_compareWith 8 = .ok (.iload_n 2, 1) := by decide +kernel
theorem dX4_compareWith_9 : decode cX4_compareWith 9 = .ok (.aload_n 0, 1) := by decide +kernel
theorem dX4_compareWith_10 : decode cX4_compareWith 10 = .ok (.getfield 15, 3) := by decide +kernel
theorem dX4_compareWith_13 : decode cX4_compareWith 13 = .ok (.if_icmp .ge 23, 3) := by decide +kernel
theorem dX4_compareWith_16 : decode cX4_compareWith 16 = .ok (.iload_n 2, 1) := by decide +kernel
theorem dX4_compareWith_17 : decode cX4_compareWith 17 = .ok (.aload_n 1, 1) := by decide +kernel
theorem dX4_compareWith_18 : decode cX4_compareWith 18 = .ok (.getfield 15, 3) := by decide +kernel
theorem dX4_compareWith_21 : decode cX4_compareWith 21 = .ok (.if_icmp .ge 15, 3) := by decide +kernel
theorem dX4_compareWith_24 : decode cX4_compareWith 24 = .ok (.aload_n 0, 1) := by decide +kernel
theorem dX4_compareWith_25 : decode cX4_compareWith 25 = .ok (.iload_n 2, 1) := by decide +kernel
theorem dX4_compareWith_26 : decode cX4_compareWith 26 = .ok (.invokevirtual 19, 3) := by decide +kernel
theorem dX4_compareWith_29 : decode cX4_compareWith 29 = .ok (.aload_n 1, 1) := by decide +kernel
theorem dX4_compareWith_30 : decode cX4_compareWith 30 = .ok (.iload_n 2, 1) := by decide +kernel
theorem dX4_compareWith_31 : decode cX4_compareWith 31 = .ok (.invokevirtual 19, 3) := by decide +kernel
theorem dX4_compareWith_34 : decode cX4_compareWith 34 = .ok (.isub, 1) := by decide +kernel
theorem dX4_compareWith_35 : decode cX4_compareWith 35 = .ok (.ireturn, 1) := by decide +kernel
theorem dX4_compareWith_36 : decode cX4_compareWith 36 = .ok (.aload_n 0, 1) := by decide +kernel
theorem dX4_compareWith_37 : decode cX4_compareWith 37 = .ok (.getfield 15, 3) := by decide +kernel
theorem dX4_compareWith_40 : decode cX4_compareWith 40 = .ok (.aload_n 1, 1) := by decide +kernel
theorem dX4_compareWith_41 : decode cX4_compareWith 41 = .ok (.getfield 15, 3) := by decide +kernel
theorem dX4_compareWith_44 : decode cX4_compareWith 44 = .ok (.isub, 1) := by decide +kernel
theorem dX4_compareWith_45 : decode cX4_compareWith 45 = .ok (.ireturn, 1) := by decide +kernel
set_option maxRecDepth 20000 in
theorem ggX4_compareNeighbours_X4_alike : GoodIn wsX4_compareNeighbours wsX4_alike := goodIn_ca (goodIn_r _ [9, 10, 1, 2, 3, 4, 11, 12, 13, 8, 14, 15, 16, 17] (by decide +kernel) (by decide +kernel)) (goodIn_sub (fun _ h => List.mem_cons_of_mem _ (List.mem_append_right _ h)) (by decide +kernel))
set_option maxRecDepth 20000 in
theorem gX4_compareNeighbours_X4_alike : GoodIn wsX4_compareNeighbours (wsV RX4 44 RX4 yX4_alike wsX4_alike) := goodIn_app (goodIn_of _ (by decide +kernel)) ggX4_compareNeighbours_X4_alike
set_option maxRecDepth 20000 in
theorem ggX4_compareNeighbours_X4_signOn : GoodIn wsX4_compareNeighbours wsX4_signOn := goodIn_ca (goodIn_r _ [14, 10, 15, 16, 17] (by decide +kernel) (by decide +kernel)) (goodIn_sub (fun _ h => List.mem_cons_of_mem _ (List.mem_append_right _ h)) (by decide +kernel))
set_option maxRecDepth 20000 in
theorem gX4_compareNeighbours_X4_signOn : GoodIn wsX4_compareNeighbours (wsV RX4 19 RX4 yX4_signOn wsX4_signOn) := goodIn_app (goodIn_of _ (by decide +kernel)) ggX4_compareNeighbours_X4_signOn
theorem dX4_compareNeighbours_0 : decode cX4_compareNeighbours 0 = .ok (.iload_n 2, 1) := by decide +kernel
theorem dX4_compareNeighbours_1 : decode cX4_compareNeighbours 1 = .ok (.iload_n 1, 1) := by decide +kernel
theorem dX4_compareNeighbours_2 : decode cX4_compareNeighbours 2 = .ok (.isub, 1) := by decide +kernel
theorem dX4_compareNeighbours_3 : decode cX4_compareNeighbours 3 = .ok (.iload_n 3, 1) := by decide +kernel
theorem dX4_compareNeighbours_4 : decode cX4_compareNeighbours 4 = .ok (.iload_n 2, 1) := by decide +kernel
theorem dX4_compareNeighbours_5 : decode cX4_compareNeighbours 5 = .ok (.isub, 1) := by decide +kernel
theorem dX4_compareNeighbours_6 : decode cX4_compareNeighbours 6 = .ok (.invokestatic 38, 3) := by decide +kernel
theorem dX4_compareNeighbours_9 : decode cX4_compareNeighbours 9 = .ok (.istore 4, 2) := by decide +kernel
theorem dX4_compareNeighbours_11 : decode cX4_compareNeighbours 11 = .ok (.aload_n 0, 1) := by decide +kernel
theorem dX4_compareNeighbours_12 : decode cX4_compareNeighbours 12 = .ok (.iload_n 1, 1) := by decide +kernel
theorem dX4_compareNeighbours_13 : decode cX4_compareNeighbours 13 = .ok (.aload_n 0, 1) := by decide +kernel
theorem dX4_compareNeighbours_14 : decode cX4_compareNeighbours 14 = .ok (.iload_n 2, 1) := by decide +kernel
theorem dX4_compareNeighbours_15 : decode cX4_compareNeighbours 15 = .ok (.invokevirtual 44, 3) := by decide +kernel
theorem dX4_compareNeighbours_18 : decode cX4_compareNeighbours 18 = .ok (.iload 4, 2) := by decide +kernel
theorem dX4_compareNeighbours_20 : decode cX4_compareNeighbours 20 = .ok (.invokestatic 38, 3) := by decide +kernel
theorem dX4_compareNeighbours_23 : decode cX4_compareNeighbours 23 = .ok (.istore 5, 2) := by decide +kernel
theorem dX4_compareNeighbours_25 : decode cX4_compareNeighbours 25 = .ok (.iload 5, 2) := by decide +kernel
theorem dX4_compareNeighbours_27 : decode cX4_compareNeighbours 27 = .ok (.iload 4, 2) := by decide +kernel
theorem dX4_compareNeighbours_29 : decode cX4_compareNeighbours 29 = .ok (.if_icmp .ge 21, 3) := by decide +kernel
theorem dX4_compareNeighbours_32 : decode cX4_compareNeighbours 32 = .ok (.aload_n 0, 1) := by decide +kernel
theorem dX4_compareNeighbours_33 : decode cX4_compareNeighbours 33 = .ok (.iload_n 1, 1) := by decide +kernel
theorem dX4_compareNeighbours_34 : decode cX4_compareNeighbours 34 = .ok (.iload 5, 2) := by decide +kernel
theorem dX4_compareNeighbours_36 : decode cX4_compareNeighbours 36 = .ok (.iadd, 1) := by decide +kernel
theorem dX4_compareNeighbours_37 : decode cX4_compareNeighbours 37 = .ok (.invokevirtual 19, 3) := by decide +kernel
theorem dX4_compareNeighbours_40 : decode cX4_compareNeighbours 40 = .ok (.aload_n 0, 1) := by decide +kernel
theorem dX4_compareNeighbours_41 : decode cX4_compareNeighbours 41 = .ok (.iload_n 2, 1) := by decide +kernel
theorem dX4_compareNeighbours_42 : decode cX4_compareNeighbours 42 = .ok (.iload 5, 2) := by decide +kernel
theorem dX4_compareNeighbours_44 : decode cX4_compareNeighbours 44 = .ok (.iadd, 1) := by decide +kernel
theorem dX4_compareNeighbours_45 : decode cX4_compareNeighbours 45 = .ok (.invokevirtual 19, 3) := by decide +kernel
theorem dX4_compareNeighbours_48 : decode cX4_compareNeighbours 48 = .ok (.isub, 1) := by decide +kernel
theorem dX4_compareNeighbours_49 : decode cX4_compareNeighbours 49 = .ok (.ireturn, 1) := by decide +kernel
theorem dX4_compareNeighbours_50 : decode cX4_compareNeighbours 50 = .ok (.iload_n 2, 1) := by decide +kernel
theorem dX4_compareNeighbours_51 : decode cX4_compareNeighbours 51 = .ok (.iload_n 1, 1) := by decide +kernel
theorem dX4_compareNeighbours_52 : decode cX4_compareNeighbours 52 = .ok (.isub, 1) := by decide +kernel
theorem dX4_compareNeighbours_53 : decode cX4_compareNeighbours 53 = .ok (.iload_n 3, 1) := by decide +kernel
theorem dX4_compareNeighbours_54 : decode cX4_compareNeighbours 54 = .ok (.iload_n 2, 1) := by decide +kernel
theorem dX4_compareNeighbours_55 : decode cX4_compareNeighbours 55 = .ok (.isub, 1) := by decide +kernel
theorem dX4_compareNeighbours_56 : decode cX4_compareNeighbours 56 = .ok (.isub, 1) := by decide +kernel
theorem dX4_compareNeighbours_57 : decode cX4_compareNeighbours 57 = .ok (.ireturn, 1) := by decide +kernel
set_option maxRecDepth 20000 in
theorem ggX4_hashFrom_X4_signOn : GoodIn wsX4_hashFrom wsX4_signOn := goodIn_ca (goodIn_r _ [6, 1, 7, 8, 9] (by decide +kernel) (by decide +kernel)) (goodIn_sub (fun _ h => List.mem_cons_of_mem _ (List.mem_append_right _ h)) (by decide +kernel))
set_option maxRecDepth 20000 in
theorem gX4_hashFrom_X4_signOn : GoodIn wsX4_hashFrom (wsV RX4 19 RX4 yX4_signOn wsX4_signOn) := goodIn_app (goodIn_of _ (by decide +kernel)) ggX4_hashFrom_X4_signOn
theorem dX4_hashFrom_0 : decode cX4_hashFrom 0 = .ok (.iload_n 1, 1) := by decide +kernel
theorem dX4_hashFrom_1 : decode cX4_hashFrom 1 = .ok (.istore_n 2, 1) := by decide +kernel
theorem dX4_hashFrom_2 : decode cX4_hashFrom 2 = .ok (.iconst 0, 1) := by decide +kernel
theorem dX4_hashFrom_3 : decode cX4_hashFrom 3 = .ok (.istore_n 3, 1) := by decide +kernel
theorem dX4_hashFrom_4 : decode cX4_hashFrom 4 = .ok (.iload_n 3, 1) := by decide +kernel
theorem dX4_hashFrom_5 : decode cX4_hashFrom 5 = .ok (.aload_n 0, 1) := by decide +kernel
theorem dX4_hashFrom_6 : decode cX4_hashFrom 6 = .ok (.getfield 15, 3) := by decide +kernel
theorem dX4_hashFrom_9 : decode cX4_hashFrom 9 = .ok (.if_icmp .ge 20, 3) := by decide +kernel
theorem dX4_hashFrom_12 : decode cX4_hashFrom 12 = .ok (.iload_n 2, 1) := by decide +kernel
theorem dX4_hashFrom_13 : decode cX4_hashFrom 13 = .ok (.bipush 31, 2) := by decide +kernel
theorem dX4_hashFrom_15 : decode cX4_hashFrom 15 = .ok (.imul, 1) := by decide +kernel
theorem dX4_hashFrom_16 : decode cX4_hashFrom 16 = .ok (.aload_n 0, 1) := by decide +kernel
theorem dX4_hashFrom_17 : decode cX4_hashFrom 17 = .ok (.iload_n 3, 1) := by decide +kernel
theorem dX4_hashFrom_18 : decode cX4_hashFrom 18 = .ok (.invokevirtual 19, 3) := by decide +kernel
theorem dX4_hashFrom_21 : decode cX4_hashFrom 21 = .ok (.iadd, 1) := by decide +kernel
theorem dX4_hashFrom_22 : decode cX4_hashFrom 22 = .ok (.istore_n 2, 1) := by decide +kernel
theorem dX4_hashFrom_23 : decode cX4_hashFrom 23 = .ok (.iinc 3 1, 3) := by decide +kernel
theorem dX4_hashFrom_26 : decode cX4_hashFrom 26 = .ok (.goto (-22), 3) := by decide +kernel
theorem dX4_hashFrom_29 : decode cX4_hashFrom 29 = .ok (.iload_n 2, 1) := by decide +kernel
theorem dX4_hashFrom_30 : decode cX4_hashFrom 30 = .ok (.ireturn, 1) := by decide +kernel
theorem dX4_hashFactor_0 : decode cX4_hashFactor 0 = .ok (.iconst 1, 1) := by decide +kernel
theorem dX4_hashFactor_1 : decode cX4_hashFactor 1 = .ok (.istore_n 1, 1) := by decide +kernel
theorem dX4_hashFactor_2 : decode cX4_hashFactor 2 = .ok (.iconst 0, 1) := by decide +kernel
theorem dX4_hashFactor_3 : decode cX4_hashFactor 3 = .ok (.istore_n 2, 1) := by decide +kernel
theorem dX4_hashFactor_4 : decode cX4_hashFactor 4 = .ok (.iload_n 2, 1) := by decide +kernel
theorem dX4_hashFactor_5 : decode cX4_hashFactor 5 = .ok (.aload_n 0, 1) := by decide +kernel
theorem dX4_hashFactor_6 : decode cX4_hashFactor 6 = .ok (.getfield 15, 3) := by decide +kernel
theorem dX4_hashFactor_9 : decode cX4_hashFactor 9 = .ok (.if_icmp .ge 14, 3) := by decide +kernel
theorem dX4_hashFactor_12 : decode cX4_hashFactor 12 = .ok (.iload_n 1, 1) := by decide +kernel
theorem dX4_hashFactor_13 : decode cX4_hashFactor 13 = .ok (.bipush 31, 2) := by decide +kernel
theorem dX4_hashFactor_15 : decode cX4_hashFactor 15 = .ok (.imul, 1) := by decide +kernel
theorem dX4_hashFactor_16 : decode cX4_hashFactor 16 = .ok (.istore_n 1, 1) := by decide +kernel
theorem dX4_hashFactor_17 : decode cX4_hashFactor 17 = .ok (.iinc 2 1, 3) := by decide +kernel
theorem dX4_hashFactor_20 : decode cX4_hashFactor 20 = .ok (.goto (-16), 3) := by decide +kernel
theorem dX4_hashFactor_23 : decode cX4_hashFactor 23 = .ok (.iload_n 1, 1) := by decide +kernel
theorem dX4_hashFactor_24 : decode cX4_hashFactor 24 = .ok (.ireturn, 1) := by decide +kernel
set_option maxRecDepth 20000 in
theorem ggX4_hasPeriod_X4_alike : GoodIn wsX4_hasPeriod wsX4_alike := goodIn_ca (goodIn_r _ [6, 1, 7, 8, 9, 10, 11, 12, 13, 5, 14, 15, 16, 17] (by decide +kernel) (by decide +kernel)) (goodIn_sub (fun _ h => List.mem_cons_of_mem _ (List.mem_append_right _ h)) (by decide +kernel))
set_option maxRecDepth 20000 in
theorem gX4_hasPeriod_X4_alike : GoodIn wsX4_hasPeriod (wsV RX4 44 RX4 yX4_alike wsX4_alike) := goodIn_app (goodIn_of _ (by decide +kernel)) ggX4_hasPeriod_X4_alike
theorem dX4_hasPeriod_0 : decode cX4_hasPeriod 0 = .ok (.aload_n 0, 1) := by decide +kernel
theorem dX4_hasPeriod_1 : decode cX4_hasPeriod 1 = .ok (.iload_n 1, 1) := by decide +kernel
theorem dX4_hasPeriod_2 : decode cX4_hasPeriod 2 = .ok (.aload_n 0, 1) := by decide +kernel
theorem dX4_hasPeriod_3 : decode cX4_hasPeriod 3 = .ok (.iconst 0, 1) := by decide +kernel
theorem dX4_hasPeriod_4 : decode cX4_hasPeriod 4 = .ok (.invokevirtual 44, 3) := by decide +kernel
theorem dX4_hasPeriod_7 : decode cX4_hasPeriod 7 = .ok (.aload_n 0, 1) := by decide +kernel
theorem dX4_hasPeriod_8 : decode cX4_hasPeriod 8 = .ok (.getfield 15, 3) := by decide +kernel
theorem dX4_hasPeriod_11 : decode cX4_hasPeriod 11 = .ok (.iload_n 1, 1) := by decide +kernel
theorem dX4_hasPeriod_12 : decode cX4_hasPeriod 12 = .ok (.isub, 1) := by decide +kernel
theorem dX4_hasPeriod_13 : decode cX4_hasPeriod 13 = .ok (.if_icmp .ne 7, 3) := by decide +kernel
theorem dX4_hasPeriod_16 : decode cX4_hasPeriod 16 = .ok (.iconst 1, 1) := by decide +kernel
theorem dX4_hasPeriod_17 : decode cX4_hasPeriod 17 = .ok (.goto 4, 3) := by decide +kernel
theorem dX4_hasPeriod_20 : decode cX4_hasPeriod 20 = .ok (.iconst 0, 1) := by decide +kernel
theorem dX4_hasPeriod_21 : decode cX4_hasPeriod 21 = .ok (.ireturn, 1) := by decide +kernel
set_option maxRecDepth 20000 in
theorem ggX4_countPeriods_X4_hasPeriod : GoodIn wsX4_countPeriods wsX4_hasPeriod := goodIn_ca (goodIn_r _ [6, 1, 7, 8, 9, 5, 10, 11, 12, 13, 14, 15, 16, 17, 18, 19, 20, 21] (by decide +kernel) (by decide +kernel)) (goodIn_sub (fun _ h => List.mem_cons_of_mem _ (List.mem_append_right _ h)) (by decide +kernel))
set_option maxRecDepth 20000 in
theorem gX4_countPeriods_X4_hasPeriod : GoodIn wsX4_countPeriods (wsV RX4 52 RX4 yX4_hasPeriod wsX4_hasPeriod) := goodIn_app (goodIn_of _ (by decide +kernel)) ggX4_countPeriods_X4_hasPeriod
theorem dX4_countPeriods_0 : decode cX4_countPeriods 0 = .ok (.iconst 0, 1) := by decide +kernel
theorem dX4_countPeriods_1 : decode cX4_countPeriods 1 = .ok (.istore_n 1, 1) := by decide +kernel
theorem dX4_countPeriods_2 : decode cX4_countPeriods 2 = .ok (.iconst 1, 1) := by decide +kernel
theorem dX4_countPeriods_3 : decode cX4_countPeriods 3 = .ok (.istore_n 2, 1) := by decide +kernel
theorem dX4_countPeriods_4 : decode cX4_countPeriods 4 = .ok (.iload_n 2, 1) := by decide +kernel
theorem dX4_countPeriods_5 : decode cX4_countPeriods 5 = .ok (.aload_n 0, 1) := by decide +kernel
theorem dX4_countPeriods_6 : decode cX4_countPeriods 6 = .ok (.getfield 15, 3) := by decide +kernel
theorem dX4_countPeriods_9 : decode cX4_countPeriods 9 = .ok (.if_icmp .gt 20, 3) := by decide +kernel
theorem dX4_countPeriods_12 : decode cX4_countPeriods 12 = .ok (.aload_n 0, 1) := by decide +kernel
theorem dX4_countPeriods_13 : decode cX4_countPeriods 13 = .ok (.iload_n 2, 1) := by decide +kernel
theorem dX4_countPeriods_14 : decode cX4_countPeriods 14 = .ok (.invokevirtual 52, 3) := by decide +kernel
theorem dX4_countPeriods_17 : decode cX4_countPeriods 17 = .ok (.ifCond .eq 6, 3) := by decide +kernel
theorem dX4_countPeriods_20 : decode cX4_countPeriods 20 = .ok (.iinc 1 1, 3) := by decide +kernel
theorem dX4_countPeriods_23 : decode cX4_countPeriods 23 = .ok (.iinc 2 1, 3) := by decide +kernel
theorem dX4_countPeriods_26 : decode cX4_countPeriods 26 = .ok (.goto (-22), 3) := by decide +kernel
theorem dX4_countPeriods_29 : decode cX4_countPeriods 29 = .ok (.iload_n 1, 1) := by decide +kernel
theorem dX4_countPeriods_30 : decode cX4_countPeriods 30 = .ok (.ireturn, 1) := by decide +kernel
set_option maxRecDepth 20000 in
theorem ggX4_sumPeriods_X4_hasPeriod : GoodIn wsX4_sumPeriods wsX4_hasPeriod := goodIn_ca (goodIn_r _ [6, 1, 7, 8, 9, 5, 10, 11, 12, 13, 14, 15, 16, 17, 18, 19, 20, 21] (by decide +kernel) (by decide +kernel)) (goodIn_sub (fun _ h => List.mem_cons_of_mem _ (List.mem_append_right _ h)) (by decide +kernel))
set_option maxRecDepth 20000 in
theorem gX4_sumPeriods_X4_hasPeriod : GoodIn wsX4_sumPeriods (wsV RX4 52 RX4 yX4_hasPeriod wsX4_hasPeriod) := goodIn_app (goodIn_of _ (by decide +kernel)) ggX4_sumPeriods_X4_hasPeriod
theorem dX4_sumPeriods_0 : decode cX4_sumPeriods 0 = .ok (.iconst 0, 1) := by decide +kernel
theorem dX4_sumPeriods_1 : decode cX4_sumPeriods 1 = .ok (.istore_n 1, 1) := by decide +kernel
theorem dX4_sumPeriods_2 : decode cX4_sumPeriods 2 = .ok (.iconst 1, 1) := by decide +kernel
theorem dX4_sumPeriods_3 : decode cX4_sumPeriods 3 = .ok (.istore_n 2, 1) := by decide +kernel
theorem dX4_sumPeriods_4 : decode cX4_sumPeriods 4 = .ok (.iload_n 2, 1) := by decide +kernel
theorem dX4_sumPeriods_5 : decode cX4_sumPeriods 5 = .ok (.aload_n 0, 1) := by decide +kernel
theorem dX4_sumPeriods_6 : decode cX4_sumPeriods 6 = .ok (.getfield 15, 3) := by decide +kernel
theorem dX4_sumPeriods_9 : decode cX4_sumPeriods 9 = .ok (.if_icmp .gt 21, 3) := by decide +kernel
theorem dX4_sumPeriods_12 : decode cX4_sumPeriods 12 = .ok (.aload_n 0, 1) := by decide +kernel
theorem dX4_sumPeriods_13 : decode cX4_sumPeriods 13 = .ok (.iload_n 2, 1) := by decide +kernel
theorem dX4_sumPeriods_14 : decode cX4_sumPeriods 14 = .ok (.invokevirtual 52, 3) := by decide +kernel
theorem dX4_sumPeriods_17 : decode cX4_sumPeriods 17 = .ok (.ifCond .eq 7, 3) := by decide +kernel
theorem dX4_sumPeriods_20 : decode cX4_sumPeriods 20 = .ok (.iload_n 1, 1) := by decide +kernel
theorem dX4_sumPeriods_21 : decode cX4_sumPeriods 21 = .ok (.iload_n 2, 1) := by decide +kernel
theorem dX4_sumPeriods_22 : decode cX4_sumPeriods 22 = .ok (.iadd, 1) := by decide +kernel
theorem dX4_sumPeriods_23 : decode cX4_sumPeriods 23 = .ok (.istore_n 1, 1) := by decide +kernel
theorem dX4_sumPeriods_24 : decode cX4_sumPeriods 24 = .ok (.iinc 2 1, 3) := by decide +kernel
theorem dX4_sumPeriods_27 : decode cX4_sumPeriods 27 = .ok (.goto (-23), 3) := by decide +kernel
theorem dX4_sumPeriods_30 : decode cX4_sumPeriods 30 = .ok (.iload_n 1, 1) := by decide +kernel
theorem dX4_sumPeriods_31 : decode cX4_sumPeriods 31 = .ok (.ireturn, 1) := by decide +kernel
set_option maxRecDepth 20000 in
theorem ggX4_leastPeriod_X4_hasPeriod : GoodIn wsX4_leastPeriod wsX4_hasPeriod := goodIn_ca (goodIn_r _ [6, 1, 7, 8, 9, 5, 10, 11, 12, 13, 14, 15, 16, 17, 18, 19, 20, 21] (by decide +kernel) (by decide +kernel)) (goodIn_sub (fun _ h => List.mem_cons_of_mem _ (List.mem_append_right _ h)) (by decide +kernel))
set_option maxRecDepth 20000 in
theorem gX4_leastPeriod_X4_hasPeriod : GoodIn wsX4_leastPeriod (wsV RX4 52 RX4 yX4_hasPeriod wsX4_hasPeriod) := goodIn_app (goodIn_of _ (by decide +kernel)) ggX4_leastPeriod_X4_hasPeriod
theorem dX4_leastPeriod_0 : decode cX4_leastPeriod 0 = .ok (.iconst 1, 1) := by decide +kernel
theorem dX4_leastPeriod_1 : decode cX4_leastPeriod 1 = .ok (.istore_n 1, 1) := by decide +kernel
theorem dX4_leastPeriod_2 : decode cX4_leastPeriod 2 = .ok (.iload_n 1, 1) := by decide +kernel
theorem dX4_leastPeriod_3 : decode cX4_leastPeriod 3 = .ok (.aload_n 0, 1) := by decide +kernel
theorem dX4_leastPeriod_4 : decode cX4_leastPeriod 4 = .ok (.getfield 15, 3) := by decide +kernel
theorem dX4_leastPeriod_7 : decode cX4_leastPeriod 7 = .ok (.if_icmp .ge 19, 3) := by decide +kernel
theorem dX4_leastPeriod_10 : decode cX4_leastPeriod 10 = .ok (.aload_n 0, 1) := by decide +kernel
theorem dX4_leastPeriod_11 : decode cX4_leastPeriod 11 = .ok (.iload_n 1, 1) := by decide +kernel
theorem dX4_leastPeriod_12 : decode cX4_leastPeriod 12 = .ok (.invokevirtual 52, 3) := by decide +kernel
theorem dX4_leastPeriod_15 : decode cX4_leastPeriod 15 = .ok (.ifCond .eq 5, 3) := by decide +kernel
theorem dX4_leastPeriod_18 : decode cX4_leastPeriod 18 = .ok (.iload_n 1, 1) := by decide +kernel
theorem dX4_leastPeriod_19 : decode cX4_leastPeriod 19 = .ok (.ireturn, 1) := by decide +kernel
theorem dX4_leastPeriod_20 : decode cX4_leastPeriod 20 = .ok (.iinc 1 1, 3) := by decide +kernel
theorem dX4_leastPeriod_23 : decode cX4_leastPeriod 23 = .ok (.goto (-21), 3) := by decide +kernel
theorem dX4_leastPeriod_26 : decode cX4_leastPeriod 26 = .ok (.aload_n 0, 1) := by decide +kernel
theorem dX4_leastPeriod_27 : decode cX4_leastPeriod 27 = .ok (.getfield 15, 3) := by decide +kernel
theorem dX4_leastPeriod_30 : decode cX4_leastPeriod 30 = .ok (.ireturn, 1) := by decide +kernel
set_option maxRecDepth 20000 in
theorem ggX4_rootSize_X4_hasPeriod : GoodIn wsX4_rootSize wsX4_hasPeriod := goodIn_ca (goodIn_r _ [6, 1, 7, 8, 9, 5, 10, 11, 12, 13, 14, 15, 16, 17, 18, 19, 20, 21] (by decide +kernel) (by decide +kernel)) (goodIn_sub (fun _ h => List.mem_cons_of_mem _ (List.mem_append_right _ h)) (by decide +kernel))
set_option maxRecDepth 20000 in
theorem gX4_rootSize_X4_hasPeriod : GoodIn wsX4_rootSize (wsV RX4 52 RX4 yX4_hasPeriod wsX4_hasPeriod) := goodIn_app (goodIn_of _ (by decide +kernel)) ggX4_rootSize_X4_hasPeriod
theorem dX4_rootSize_0 : decode cX4_rootSize 0 = .ok (.iconst 1, 1) := by decide +kernel
theorem dX4_rootSize_1 : decode cX4_rootSize 1 = .ok (.istore_n 1, 1) := by decide +kernel
theorem dX4_rootSize_2 : decode cX4_rootSize 2 = .ok (.iload_n 1, 1) := by decide +kernel
theorem dX4_rootSize_3 : decode cX4_rootSize 3 = .ok (.aload_n 0, 1) := by decide +kernel
theorem dX4_rootSize_4 : decode cX4_rootSize 4 = .ok (.getfield 15, 3) := by decide +kernel
theorem dX4_rootSize_7 : decode cX4_rootSize 7 = .ok (.if_icmp .ge 28, 3) := by decide +kernel
theorem dX4_rootSize_10 : decode cX4_rootSize 10 = .ok (.aload_n 0, 1) := by decide +kernel
theorem dX4_rootSize_11 : decode cX4_rootSize 11 = .ok (.getfield 15, 3) := by decide +kernel
theorem dX4_rootSize_14 : decode cX4_rootSize 14 = .ok (.iload_n 1, 1) := by decide +kernel
theorem dX4_rootSize_15 : decode cX4_rootSize 15 = .ok (.irem, 1) := by decide +kernel
theorem dX4_rootSize_16 : decode cX4_rootSize 16 = .ok (.ifCond .ne 13, 3) := by decide +kernel
theorem dX4_rootSize_19 : decode cX4_rootSize 19 = .ok (.aload_n 0, 1) := by decide +kernel
theorem dX4_rootSize_20 : decode cX4_rootSize 20 = .ok (.iload_n 1, 1) := by decide +kernel
theorem dX4_rootSize_21 : decode cX4_rootSize 21 = .ok (.invokevirtual 52, 3) := by decide +kernel
theorem dX4_rootSize_24 : decode cX4_rootSize 24 = .ok (.ifCond .eq 5, 3) := by decide +kernel
theorem dX4_rootSize_27 : decode cX4_rootSize 27 = .ok (.iload_n 1, 1) := by decide +kernel
theorem dX4_rootSize_28 : decode cX4_rootSize 28 = .ok (.ireturn, 1) := by decide +kernel
theorem dX4_rootSize_29 : decode cX4_rootSize 29 = .ok (.iinc 1 1, 3) := by decide +kernel
theorem dX4_rootSize_32 : decode cX4_rootSize 32 = .ok (.goto (-30), 3) := by decide +kernel
theorem dX4_rootSize_35 : decode cX4_rootSize 35 = .ok (.aload_n 0, 1) := by decide +kernel
theorem dX4_rootSize_36 : decode cX4_rootSize 36 = .ok (.getfield 15, 3) := by decide +kernel
theorem dX4_rootSize_39 : decode cX4_rootSize 39 = .ok (.ireturn, 1) := by decide +kernel
set_option maxRecDepth 20000 in
theorem ggX4_isTurnedTo_X4_alike : GoodIn wsX4_isTurnedTo wsX4_alike := goodIn_ca (goodIn_r _ [6, 1, 7, 8, 9, 10, 11, 12, 13, 5, 14, 15, 16, 17] (by decide +kernel) (by decide +kernel)) (goodIn_sub (fun _ h => List.mem_cons_of_mem _ (List.mem_append_right _ h)) (by decide +kernel))
set_option maxRecDepth 20000 in
theorem gX4_isTurnedTo_X4_alike : GoodIn wsX4_isTurnedTo (wsV RX4 44 RX4 yX4_alike wsX4_alike) := goodIn_app (goodIn_of _ (by decide +kernel)) ggX4_isTurnedTo_X4_alike
theorem dX4_isTurnedTo_0 : decode cX4_isTurnedTo 0 = .ok (.aload_n 0, 1) := by decide +kernel
theorem dX4_isTurnedTo_1 : decode cX4_isTurnedTo 1 = .ok (.getfield 15, 3) := by decide +kernel
theorem dX4_isTurnedTo_4 : decode cX4_isTurnedTo 4 = .ok (.aload_n 2, 1) := by decide +kernel
theorem dX4_isTurnedTo_5 : decode cX4_isTurnedTo 5 = .ok (.getfield 15, 3) := by decide +kernel
theorem dX4_isTurnedTo_8 : decode cX4_isTurnedTo 8 = .ok (.if_icmp .ne 39, 3) := by decide +kernel
theorem dX4_isTurnedTo_11 : decode cX4_isTurnedTo 11 = .ok (.aload_n 0, 1) := by decide +kernel
theorem dX4_isTurnedTo_12 : decode cX4_isTurnedTo 12 = .ok (.iload_n 1, 1) := by decide +kernel
theorem dX4_isTurnedTo_13 : decode cX4_isTurnedTo 13 = .ok (.aload_n 2, 1) := by decide +kernel
theorem dX4_isTurnedTo_14 : decode cX4_isTurnedTo 14 = .ok (.iconst 0, 1) := by decide +kernel
theorem dX4_isTurnedTo_15 : decode cX4_isTurnedTo 15 = .ok (.invokevirtual 44, 3) := by decide +kernel
theorem dX4_isTurnedTo_18 : decode cX4_isTurnedTo 18 = .ok (.aload_n 0, 1) := by decide +kernel
theorem dX4_isTurnedTo_19 : decode cX4_isTurnedTo 19 = .ok (.getfield 15, 3) := by decide +kernel
theorem dX4_isTurnedTo_22 : decode cX4_isTurnedTo 22 = .ok (.iload_n 1, 1) := by decide +kernel
theorem dX4_isTurnedTo_23 : decode cX4_isTurnedTo 23 = .ok (.isub, 1) := by decide +kernel
theorem dX4_isTurnedTo_24 : decode cX4_isTurnedTo 24 = .ok (.if_icmp .ne 23, 3) := by decide +kernel
theorem dX4_isTurnedTo_27 : decode cX4_isTurnedTo 27 = .ok (.aload_n 2, 1) := by decide +kernel
theorem dX4_isTurnedTo_28 : decode cX4_isTurnedTo 28 = .ok (.aload_n 0, 1) := by decide +kernel
theorem dX4_isTurnedTo_29 : decode cX4_isTurnedTo 29 = .ok (.getfield 15, 3) := by decide +kernel
theorem dX4_isTurnedTo_32 : decode cX4_isTurnedTo 32 = .ok (.iload_n 1, 1) := by decide +kernel
theorem dX4_isTurnedTo_33 : decode cX4_isTurnedTo 33 = .ok (.isub, 1) := by decide +kernel
theorem dX4_isTurnedTo_34 : decode cX4_isTurnedTo 34 = .ok (.aload_n 0, 1) := by decide +kernel
theorem dX4_isTurnedTo_35 : decode cX4_isTurnedTo 35 = .ok (.iconst 0, 1) := by decide +kernel
theorem dX4_isTurnedTo_36 : decode cX4_isTurnedTo 36 = .ok (.invokevirtual 44, 3) := by decide +kernel
theorem dX4_isTurnedTo_39 : decode cX4_isTurnedTo 39 = .ok (.iload_n 1, 1) := by decide +kernel
theorem dX4_isTurnedTo_40 : decode cX4_isTurnedTo 40 = .ok (.if_icmp .ne 7, 3) := by decide +kernel
theorem dX4_isTurnedTo_43 : decode cX4_isTurnedTo 43 = .ok (.iconst 1, 1) := by decide +kernel
theorem dX4_isTurnedTo_44 : decode cX4_isTurnedTo 44 = .ok (.goto 4, 3) := by decide +kernel
theorem dX4_isTurnedTo_47 : decode cX4_isTurnedTo 47 = .ok (.iconst 0, 1) := by decide +kernel
theorem dX4_isTurnedTo_48 : decode cX4_isTurnedTo 48 = .ok (.ireturn, 1) := by decide +kernel
set_option maxRecDepth 20000 in
theorem ggX4_compareTurns_X4_signTurned : GoodIn wsX4_compareTurns wsX4_signTurned := goodIn_ca (goodIn_r _ [6, 1, 7, 8, 9, 5, 10, 11, 12, 13] (by decide +kernel) (by decide +kernel)) (goodIn_sub (fun _ h => List.mem_cons_of_mem _ (List.mem_append_right _ h)) (by decide +kernel))
set_option maxRecDepth 20000 in
theorem gX4_compareTurns_X4_signTurned : GoodIn wsX4_compareTurns (wsV RX4 56 RX4 yX4_signTurned wsX4_signTurned) := goodIn_app (goodIn_of _ (by decide +kernel)) ggX4_compareTurns_X4_signTurned
theorem dX4_compareTurns_0 : decode cX4_compareTurns 0 = .ok (.iconst 0, 1) := by decide +kernel
theorem dX4_compareTurns_1 : decode cX4_compareTurns 1 = .ok (.istore_n 3, 1) := by decide +kernel
theorem dX4_compareTurns_2 : decode cX4_compareTurns 2 = .ok (.iload_n 3, 1) := by decide +kernel
theorem dX4_compareTurns_3 : decode cX4_compareTurns 3 = .ok (.aload_n 0, 1) := by decide +kernel
theorem dX4_compareTurns_4 : decode cX4_compareTurns 4 = .ok (.getfield 15, 3) := by decide +kernel
theorem dX4_compareTurns_7 : decode cX4_compareTurns 7 = .ok (.if_icmp .ge 32, 3) := by decide +kernel
theorem dX4_compareTurns_10 : decode cX4_compareTurns 10 = .ok (.aload_n 0, 1) := by decide +kernel
theorem dX4_compareTurns_11 : decode cX4_compareTurns 11 = .ok (.iload_n 1, 1) := by decide +kernel
theorem dX4_compareTurns_12 : decode cX4_compareTurns 12 = .ok (.iload_n 3, 1) := by decide +kernel
theorem dX4_compareTurns_13 : decode cX4_compareTurns 13 = .ok (.invokevirtual 56, 3) := by decide +kernel
theorem dX4_compareTurns_16 : decode cX4_compareTurns 16 = .ok (.aload_n 0, 1) := by decide +kernel
theorem dX4_compareTurns_17 : decode cX4_compareTurns 17 = .ok (.iload_n 2, 1) := by decide +kernel
theorem dX4_compareTurns_18 : decode cX4_compareTurns 18 = .ok (.iload_n 3, 1) := by decide +kernel
theorem dX4_compareTurns_19 : decode cX4_compareTurns 19 = .ok (.invokevirtual 56, 3) := by decide +kernel
theorem dX4_compareTurns_22 : decode cX4_compareTurns 22 = .ok (.isub, 1) := by decide +kernel
theorem dX4_compareTurns_23 : decode cX4_compareTurns 23 = .ok (.istore 4, 2) := by decide +kernel
theorem dX4_compareTurns_25 : decode cX4_compareTurns 25 = .ok (.iload 4, 2) := by decide +kernel
theorem dX4_compareTurns_27 : decode cX4_compareTurns 27 = .ok (.ifCond .eq 6, 3) := by decide +kernel
theorem dX4_compareTurns_30 : decode cX4_compareTurns 30 = .ok (.iload 4, 2) := by decide +kernel
theorem dX4_compareTurns_32 : decode cX4_compareTurns 32 = .ok (.ireturn, 1) := by decide +kernel
theorem dX4_compareTurns_33 : decode cX4_compareTurns 33 = .ok (.iinc 3 1, 3) := by decide +kernel
theorem dX4_compareTurns_36 : decode cX4_compareTurns 36 = .ok (.goto (-34), 3) := by decide +kernel
theorem dX4_compareTurns_39 : decode cX4_compareTurns 39 = .ok (.iconst 0, 1) := by decide +kernel
theorem dX4_compareTurns_40 : decode cX4_compareTurns 40 = .ok (.ireturn, 1) := by decide +kernel
set_option maxRecDepth 20000 in
theorem ggX4_signTurned_X4_signOn : GoodIn wsX4_signTurned wsX4_signOn := goodIn_ca (goodIn_r _ [6, 1, 7, 8, 9] (by decide +kernel) (by decide +kernel)) (goodIn_sub (fun _ h => List.mem_cons_of_mem _ (List.mem_append_right _ h)) (by decide +kernel))
set_option maxRecDepth 20000 in
theorem gX4_signTurned_X4_signOn : GoodIn wsX4_signTurned (wsV RX4 19 RX4 yX4_signOn wsX4_signOn) := goodIn_app (goodIn_of _ (by decide +kernel)) ggX4_signTurned_X4_signOn
theorem dX4_signTurned_0 : decode cX4_signTurned 0 = .ok (.iload_n 1, 1) := by decide +kernel
theorem dX4_signTurned_1 : decode cX4_signTurned 1 = .ok (.iload_n 2, 1) := by decide +kernel
theorem dX4_signTurned_2 : decode cX4_signTurned 2 = .ok (.iadd, 1) := by decide +kernel
theorem dX4_signTurned_3 : decode cX4_signTurned 3 = .ok (.istore_n 3, 1) := by decide +kernel
theorem dX4_signTurned_4 : decode cX4_signTurned 4 = .ok (.aload_n 0, 1) := by decide +kernel
theorem dX4_signTurned_5 : decode cX4_signTurned 5 = .ok (.iload_n 3, 1) := by decide +kernel
theorem dX4_signTurned_6 : decode cX4_signTurned 6 = .ok (.aload_n 0, 1) := by decide +kernel
theorem dX4_signTurned_7 : decode cX4_signTurned 7 = .ok (.getfield 15, 3) := by decide +kernel
theorem dX4_signTurned_10 : decode cX4_signTurned 10 = .ok (.if_icmp .ge 7, 3) := by decide +kernel
theorem dX4_signTurned_13 : decode cX4_signTurned 13 = .ok (.iload_n 3, 1) := by decide +kernel
theorem dX4_signTurned_14 : decode cX4_signTurned 14 = .ok (.goto 9, 3) := by decide +kernel
theorem dX4_signTurned_17 : decode cX4_signTurned 17 = .ok (.iload_n 3, 1) := by decide +kernel
theorem dX4_signTurned_18 : decode cX4_signTurned 18 = .ok (.aload_n 0, 1) := by decide +kernel
theorem dX4_signTurned_19 : decode cX4_signTurned 19 = .ok (.getfield 15, 3) := by decide +kernel
theorem dX4_signTurned_22 : decode cX4_signTurned 22 = .ok (.isub, 1) := by decide +kernel
theorem dX4_signTurned_23 : decode cX4_signTurned 23 = .ok (.invokevirtual 19, 3) := by decide +kernel
theorem dX4_signTurned_26 : decode cX4_signTurned 26 = .ok (.ireturn, 1) := by decide +kernel
set_option maxRecDepth 20000 in
theorem ggX4_isMirror_X4_signOn : GoodIn wsX4_isMirror wsX4_signOn := goodIn_ca (goodIn_r _ [5, 6, 7, 8, 9] (by decide +kernel) (by decide +kernel)) (goodIn_sub (fun _ h => List.mem_cons_of_mem _ (List.mem_append_right _ h)) (by decide +kernel))
set_option maxRecDepth 20000 in
theorem gX4_isMirror_X4_signOn : GoodIn wsX4_isMirror (wsV RX4 19 RX4 yX4_signOn wsX4_signOn) := goodIn_app (goodIn_of _ (by decide +kernel)) ggX4_isMirror_X4_signOn
theorem dX4_isMirror_0 : decode cX4_isMirror 0 = .ok (.iload_n 1, 1) := by decide +kernel
theorem dX4_isMirror_1 : decode cX4_isMirror 1 = .ok (.istore_n 3, 1) := by decide +kernel
theorem dX4_isMirror_2 : decode cX4_isMirror 2 = .ok (.iload_n 2, 1) := by decide +kernel
theorem dX4_isMirror_3 : decode cX4_isMirror 3 = .ok (.iconst 1, 1) := by decide +kernel
theorem dX4_isMirror_4 : decode cX4_isMirror 4 = .ok (.isub, 1) := by decide +kernel
theorem dX4_isMirror_5 : decode cX4_isMirror 5 = .ok (.istore 4, 2) := by decide +kernel
theorem dX4_isMirror_7 : decode cX4_isMirror 7 = .ok (.iload_n 3, 1) := by decide +kernel
theorem dX4_isMirror_8 : decode cX4_isMirror 8 = .ok (.iload 4, 2) := by decide +kernel
theorem dX4_isMirror_10 : decode cX4_isMirror 10 = .ok (.if_icmp .ge 28, 3) := by decide +kernel
theorem dX4_isMirror_13 : decode cX4_isMirror 13 = .ok (.aload_n 0, 1) := by decide +kernel
theorem dX4_isMirror_14 : decode cX4_isMirror 14 = .ok (.iload_n 3, 1) := by decide +kernel
theorem dX4_isMirror_15 : decode cX4_isMirror 15 = .ok (.invokevirtual 19, 3) := by decide +kernel
theorem dX4_isMirror_18 : decode cX4_isMirror 18 = .ok (.aload_n 0, 1) := by decide +kernel
theorem dX4_isMirror_19 : decode cX4_isMirror 19 = .ok (.iload 4, 2) := by decide +kernel
theorem dX4_isMirror_21 : decode cX4_isMirror 21 = .ok (.invokevirtual 19, 3) := by decide +kernel
theorem dX4_isMirror_24 : decode cX4_isMirror 24 = .ok (.if_icmp .eq 5, 3) := by decide +kernel
theorem dX4_isMirror_27 : decode cX4_isMirror 27 = .ok (.iconst 0, 1) := by decide +kernel
theorem dX4_isMirror_28 : decode cX4_isMirror 28 = .ok (.ireturn, 1) := by decide +kernel
theorem dX4_isMirror_29 : decode cX4_isMirror 29 = .ok (.iinc 3 1, 3) := by decide +kernel
theorem dX4_isMirror_32 : decode cX4_isMirror 32 = .ok (.iinc 4 (-1), 3) := by decide +kernel
theorem dX4_isMirror_35 : decode cX4_isMirror 35 = .ok (.goto (-28), 3) := by decide +kernel
theorem dX4_isMirror_38 : decode cX4_isMirror 38 = .ok (.iconst 1, 1) := by decide +kernel
theorem dX4_isMirror_39 : decode cX4_isMirror 39 = .ok (.ireturn, 1) := by decide +kernel
set_option maxRecDepth 20000 in
theorem ggX5_init_X4_init : GoodIn wsX5_init wsX4_init := goodIn_r _ [18, 19, 2, 3, 20, 21, 22, 42, 43] (by decide +kernel) (by decide +kernel)
set_option maxRecDepth 20000 in
theorem gX5_init_X4_init_n15 : GoodIn wsX5_init (wsX4_init) := ggX5_init_X4_init
set_option maxRecDepth 20000 in
theorem ggX5_init_X0_init : GoodIn wsX5_init wsX0_init := goodIn_r _ [24, 25, 2, 3, 26, 27, 28, 44, 45] (by decide +kernel) (by decide +kernel)
set_option maxRecDepth 20000 in
theorem gX5_init_X0_init_n22 : GoodIn wsX5_init (wsX0_init) := ggX5_init_X0_init
set_option maxRecDepth 20000 in
theorem ggX5_init_X2_init : GoodIn wsX5_init wsX2_init := goodIn_r _ [30, 31, 2, 3, 32, 33, 26, 34, 35, 36, 37, 46, 47, 48, 49, 50] (by decide +kernel) (by decide +kernel)
set_option maxRecDepth 20000 in
theorem gX5_init_X2_init_n29 : GoodIn wsX5_init (wsX2_init) := ggX5_init_X2_init
theorem dX5_init_0 : decode cX5_init 0 = .ok (.aload_n 0, 1) := by decide +kernel
theorem dX5_init_1 : decode cX5_init 1 = .ok (.invokespecial 1, 3) := by decide +kernel
theorem dX5_init_4 : decode cX5_init 4 = .ok (.aload_n 0, 1) := by decide +kernel
theorem dX5_init_5 : decode cX5_init 5 = .ok (.bipush 6, 2) := by decide +kernel
theorem dX5_init_7 : decode cX5_init 7 = .ok (.anewarray 9, 3) := by decide +kernel
theorem dX5_init_10 : decode cX5_init 10 = .ok (.putfield 11, 3) := by decide +kernel
theorem dX5_init_13 : decode cX5_init 13 = .ok (.aload_n 0, 1) := by decide +kernel
theorem dX5_init_14 : decode cX5_init 14 = .ok (.new 9, 3) := by decide +kernel
theorem dX5_init_17 : decode cX5_init 17 = .ok (.dup, 1) := by decide +kernel
theorem dX5_init_18 : decode cX5_init 18 = .ok (.invokespecial 15, 3) := by decide +kernel
theorem dX5_init_21 : decode cX5_init 21 = .ok (.putfield 16, 3) := by decide +kernel
theorem dX5_init_24 : decode cX5_init 24 = .ok (.aload_n 0, 1) := by decide +kernel
theorem dX5_init_25 : decode cX5_init 25 = .ok (.new 20, 3) := by decide +kernel
theorem dX5_init_28 : decode cX5_init 28 = .ok (.dup, 1) := by decide +kernel
theorem dX5_init_29 : decode cX5_init 29 = .ok (.invokespecial 22, 3) := by decide +kernel
theorem dX5_init_32 : decode cX5_init 32 = .ok (.putfield 23, 3) := by decide +kernel
theorem dX5_init_35 : decode cX5_init 35 = .ok (.aload_n 0, 1) := by decide +kernel
theorem dX5_init_36 : decode cX5_init 36 = .ok (.new 27, 3) := by decide +kernel
theorem dX5_init_39 : decode cX5_init 39 = .ok (.dup, 1) := by decide +kernel
theorem dX5_init_40 : decode cX5_init 40 = .ok (.invokespecial 29, 3) := by decide +kernel
theorem dX5_init_43 : decode cX5_init 43 = .ok (.putfield 30, 3) := by decide +kernel
theorem dX5_init_46 : decode cX5_init 46 = .ok (.iconst 0, 1) := by decide +kernel
theorem dX5_init_47 : decode cX5_init 47 = .ok (.istore_n 1, 1) := by decide +kernel
theorem dX5_init_48 : decode cX5_init 48 = .ok (.iload_n 1, 1) := by decide +kernel
theorem dX5_init_49 : decode cX5_init 49 = .ok (.bipush 6, 2) := by decide +kernel
theorem dX5_init_51 : decode cX5_init 51 = .ok (.if_icmp .ge 22, 3) := by decide +kernel
theorem dX5_init_54 : decode cX5_init 54 = .ok (.aload_n 0, 1) := by decide +kernel
theorem dX5_init_55 : decode cX5_init 55 = .ok (.getfield 11, 3) := by decide +kernel
theorem dX5_init_58 : decode cX5_init 58 = .ok (.iload_n 1, 1) := by decide +kernel
theorem dX5_init_59 : decode cX5_init 59 = .ok (.new 9, 3) := by decide +kernel
theorem dX5_init_62 : decode cX5_init 62 = .ok (.dup, 1) := by decide +kernel
theorem dX5_init_63 : decode cX5_init 63 = .ok (.invokespecial 15, 3) := by decide +kernel
theorem dX5_init_66 : decode cX5_init 66 = .ok (.aastore, 1) := by decide +kernel
theorem dX5_init_67 : decode cX5_init 67 = .ok (.iinc 1 1, 3) := by decide +kernel
theorem dX5_init_70 : decode cX5_init 70 = .ok (.goto (-22), 3) := by decide +kernel
theorem dX5_init_73 : decode cX5_init 73 = .ok (.return_, 1) := by decide +kernel
set_option maxRecDepth 20000 in
theorem ggX5_type_X5_textOf : GoodIn wsX5_type wsX5_textOf := goodIn_ca (goodIn_r _ [5, 6, 7, 8, 31, 32, 33, 34] (by decide +kernel) (by decide +kernel)) (goodIn_sub (fun _ h => List.mem_cons_of_mem _ (List.mem_append_left _ (List.mem_append_left _ (List.mem_append_left _ (List.mem_append_right _ h))))) (by decide +kernel))
set_option maxRecDepth 20000 in
theorem gX5_type_X5_textOf : GoodIn wsX5_type (wsV RX5 34 RX5 yX5_textOf wsX5_textOf) := goodIn_app (goodIn_of _ (by decide +kernel)) ggX5_type_X5_textOf
set_option maxRecDepth 20000 in
theorem ggX5_type_X5_requireSign : GoodIn wsX5_type wsX5_requireSign := goodIn_ca (goodIn_r _ [11, 12, 13] (by decide +kernel) (by decide +kernel)) (goodIn_sub (fun _ h => List.mem_cons_of_mem _ (List.mem_append_left _ (List.mem_append_left _ (List.mem_append_right _ h)))) (by decide +kernel))
set_option maxRecDepth 20000 in
theorem gX5_type_X5_requireSign : GoodIn wsX5_type (va_wsS RX5 38 yX5_requireSign wsX5_requireSign) := goodIn_app (goodIn_of _ (by decide +kernel)) ggX5_type_X5_requireSign
set_option maxRecDepth 20000 in
theorem ggX5_type_X4_size : GoodIn wsX5_type wsX4_size := goodIn_r _ [18, 19, 35, 36] (by decide +kernel) (by decide +kernel)
set_option maxRecDepth 20000 in
theorem gX5_type_X4_size : GoodIn wsX5_type (wsV RX5 42 RX4 yX4_size wsX4_size) := goodIn_app (goodIn_of _ (by decide +kernel)) ggX5_type_X4_size
set_option maxRecDepth 20000 in
theorem ggX5_type_X5_requireRoom : GoodIn wsX5_type wsX5_requireRoom := goodIn_ca (goodIn_r _ [22, 23, 24, 25] (by decide +kernel) (by decide +kernel)) (goodIn_sub (fun _ h => List.mem_cons_of_mem _ (List.mem_append_left _ (List.mem_append_right _ h))) (by decide +kernel))
set_option maxRecDepth 20000 in
theorem gX5_type_X5_requireRoom : GoodIn wsX5_type (va_wsS RX5 46 yX5_requireRoom wsX5_requireRoom) := goodIn_app (goodIn_of _ (by decide +kernel)) ggX5_type_X5_requireRoom
set_option maxRecDepth 20000 in
theorem ggX5_type_X4_add : GoodIn wsX5_type wsX4_add := goodIn_ca (goodIn_r _ [29, 19, 30, 35, 36] (by decide +kernel) (by decide +kernel)) (goodIn_sub (fun _ h => List.mem_cons_of_mem _ (List.mem_append_right _ h)) (by decide +kernel))
set_option maxRecDepth 20000 in
theorem gX5_type_X4_add : GoodIn wsX5_type (wsV RX5 50 RX4 yX4_add wsX4_add) := goodIn_app (goodIn_of _ (by decide +kernel)) ggX5_type_X4_add
theorem dX5_type_0 : decode cX5_type 0 = .ok (.aload_n 0, 1) := by decide +kernel
theorem dX5_type_1 : decode cX5_type 1 = .ok (.iload_n 1, 1) := by decide +kernel
theorem dX5_type_2 : decode cX5_type 2 = .ok (.invokevirtual 34, 3) := by decide +kernel
theorem dX5_type_5 : decode cX5_type 5 = .ok (.astore_n 3, 1) := by decide +kernel
theorem dX5_type_6 : decode cX5_type 6 = .ok (.iload_n 2, 1) := by decide +kernel
theorem dX5_type_7 : decode cX5_type 7 = .ok (.invokestatic 38, 3) := by decide +kernel
theorem dX5_type_10 : decode cX5_type 10 = .ok (.aload_n 3, 1) := by decide +kernel
theorem dX5_type_11 : decode cX5_type 11 = .ok (.invokevirtual 42, 3) := by decide +kernel
theorem dX5_type_14 : decode cX5_type 14 = .ok (.iconst 1, 1) := by decide +kernel
theorem dX5_type_15 : decode cX5_type 15 = .ok (.iadd, 1) := by decide +kernel
theorem dX5_type_16 : decode cX5_type 16 = .ok (.i2l, 1) := by decide +kernel
theorem dX5_type_17 : decode cX5_type 17 = .ok (.invokestatic 46, 3) := by decide +kernel
theorem dX5_type_20 : decode cX5_type 20 = .ok (.aload_n 3, 1) := by decide +kernel
theorem dX5_type_21 : decode cX5_type 21 = .ok (.iload_n 2, 1) := by decide +kernel
theorem dX5_type_22 : decode cX5_type 22 = .ok (.invokevirtual 50, 3) := by decide +kernel
theorem dX5_type_25 : decode cX5_type 25 = .ok (.aload_n 3, 1) := by decide +kernel
theorem dX5_type_26 : decode cX5_type 26 = .ok (.invokevirtual 42, 3) := by decide +kernel
theorem dX5_type_29 : decode cX5_type 29 = .ok (.ireturn, 1) := by decide +kernel
set_option maxRecDepth 20000 in
theorem ggX5_typeMore_X5_textOf : GoodIn wsX5_typeMore wsX5_textOf := goodIn_ca (goodIn_r _ [8, 9, 10, 11, 46, 47, 48, 49] (by decide +kernel) (by decide +kernel)) (goodIn_sub (fun _ h => List.mem_cons_of_mem _ (List.mem_append_left _ (List.mem_append_left _ (List.mem_append_right _ h)))) (by decide +kernel))
set_option maxRecDepth 20000 in
theorem gX5_typeMore_X5_textOf : GoodIn wsX5_typeMore (wsV RX5 34 RX5 yX5_textOf wsX5_textOf) := goodIn_app (goodIn_of _ (by decide +kernel)) ggX5_typeMore_X5_textOf
set_option maxRecDepth 20000 in
theorem ggX5_typeMore_X4_clear : GoodIn wsX5_typeMore wsX4_clear := goodIn_r _ [16, 17, 50, 51] (by decide +kernel) (by decide +kernel)
set_option maxRecDepth 20000 in
theorem gX5_typeMore_X4_clear : GoodIn wsX5_typeMore (wsV RX5 60 RX4 yX4_clear wsX4_clear) := goodIn_app (goodIn_of _ (by decide +kernel)) ggX5_typeMore_X4_clear
set_option maxRecDepth 20000 in
theorem ggX5_typeMore_X4_add : GoodIn wsX5_typeMore wsX4_add := goodIn_ca (goodIn_r _ [21, 17, 22, 50, 51] (by decide +kernel) (by decide +kernel)) (goodIn_sub (fun _ h => List.mem_cons_of_mem _ (List.mem_append_left _ (List.mem_append_right _ h))) (by decide +kernel))
set_option maxRecDepth 20000 in
theorem gX5_typeMore_X4_add : GoodIn wsX5_typeMore (wsV RX5 50 RX4 yX4_add wsX4_add) := goodIn_app (goodIn_of _ (by decide +kernel)) ggX5_typeMore_X4_add
set_option maxRecDepth 20000 in
theorem ggX5_typeMore_X4_signOn : GoodIn wsX5_typeMore wsX4_signOn := goodIn_ca (goodIn_r _ [26, 17, 22, 50, 51] (by decide +kernel) (by decide +kernel)) (goodIn_sub (fun _ h => List.mem_cons_of_mem _ (List.mem_append_left _ (List.mem_append_right _ h))) (by decide +kernel))
set_option maxRecDepth 20000 in
theorem gX5_typeMore_X4_signOn : GoodIn wsX5_typeMore (wsV RX5 63 RX4 yX4_signOn wsX4_signOn) := goodIn_app (goodIn_of _ (by decide +kernel)) ggX5_typeMore_X4_signOn
set_option maxRecDepth 20000 in
theorem ggX5_typeMore_X5_requireSign : GoodIn wsX5_typeMore wsX5_requireSign := goodIn_ca (goodIn_r _ [29, 1, 2] (by decide +kernel) (by decide +kernel)) (goodIn_sub (fun _ h => List.mem_cons_of_mem _ (List.mem_append_left _ (List.mem_append_left _ (List.mem_append_left _ (List.mem_append_right _ h))))) (by decide +kernel))
set_option maxRecDepth 20000 in
theorem gX5_typeMore_X5_requireSign : GoodIn wsX5_typeMore (va_wsS RX5 38 yX5_requireSign wsX5_requireSign) := goodIn_app (goodIn_of _ (by decide +kernel)) ggX5_typeMore_X5_requireSign
set_option maxRecDepth 20000 in
theorem ggX5_typeMore_X4_size : GoodIn wsX5_typeMore wsX4_size := goodIn_r _ [33, 17, 50, 51] (by decide +kernel) (by decide +kernel)
set_option maxRecDepth 20000 in
theorem gX5_typeMore_X4_size : GoodIn wsX5_typeMore (wsV RX5 42 RX4 yX4_size wsX4_size) := goodIn_app (goodIn_of _ (by decide +kernel)) ggX5_typeMore_X4_size
set_option maxRecDepth 20000 in
theorem ggX5_typeMore_X5_requireRoom : GoodIn wsX5_typeMore wsX5_requireRoom := goodIn_ca (goodIn_r _ [36, 37, 38, 39] (by decide +kernel) (by decide +kernel)) (goodIn_sub (fun _ h => List.mem_cons_of_mem _ (List.mem_append_right _ h)) (by decide +kernel))
set_option maxRecDepth 20000 in
theorem gX5_typeMore_X5_requireRoom : GoodIn wsX5_typeMore (va_wsS RX5 46 yX5_requireRoom wsX5_requireRoom) := goodIn_app (goodIn_of _ (by decide +kernel)) ggX5_typeMore_X5_requireRoom
set_option maxRecDepth 20000 in
theorem ggX5_typeMore_X4_addPart : GoodIn wsX5_typeMore wsX4_addPart := goodIn_ca (goodIn_r _ [43, 44, 24, 25, 15, 26, 17, 22, 45, 19, 20, 21, 50, 51] (by decide +kernel) (by decide +kernel)) (goodIn_sub (fun _ h => List.mem_cons_of_mem _ (List.mem_append_left _ (List.mem_append_right _ h))) (by decide +kernel))
set_option maxRecDepth 20000 in
theorem gX5_typeMore_X4_addPart : GoodIn wsX5_typeMore (wsV RX5 67 RX4 yX4_addPart wsX4_addPart) := goodIn_app (goodIn_of _ (by decide +kernel)) ggX5_typeMore_X4_addPart
theorem dX5_typeMore_0 : decode cX5_typeMore 0 = .ok (.aload_n 0, 1) := by decide +kernel
theorem dX5_typeMore_1 : decode cX5_typeMore 1 = .ok (.iload_n 1, 1) := by decide +kernel
theorem dX5_typeMore_2 : decode cX5_typeMore 2 = .ok (.invokevirtual 34, 3) := by decide +kernel
theorem dX5_typeMore_5 : decode cX5_typeMore 5 = .ok (.astore 9, 2) := by decide +kernel
theorem dX5_typeMore_7 : decode cX5_typeMore 7 = .ok (.iload_n 2, 1) := by decide +kernel
theorem dX5_typeMore_8 : decode cX5_typeMore 8 = .ok (.iconst 1, 1) := by decide +kernel
theorem dX5_typeMore_9 : decode cX5_typeMore 9 = .ok (.if_icmp .lt 9, 3) := by decide +kernel
theorem dX5_typeMore_12 : decode cX5_typeMore 12 = .ok (.iload_n 2, 1) := by decide +kernel
theorem dX5_typeMore_13 : decode cX5_typeMore 13 = .ok (.bipush 6, 2) := by decide +kernel
theorem dX5_typeMore_15 : decode cX5_typeMore 15 = .ok (.if_icmp .le 13, 3) := by decide +kernel
theorem dX5_typeMore_18 : decode cX5_typeMore 18 = .ok (.new 53, 3) := by decide +kernel
theorem dX5_typeMore_21 : decode cX5_typeMore 21 = .ok (.dup, 1) := by decide +kernel
theorem dX5_typeMore_22 : decode cX5_typeMore 22 = .ok (.ldc 55, 2) := by decide +kernel
theorem dX5_typeMore_24 : decode cX5_typeMore 24 = .ok (.invokespecial 57, 3) := by decide +kernel
theorem dX5_typeMore_27 : decode cX5_typeMore 27 = .ok (.athrow, 1) := by decide +kernel
theorem dX5_typeMore_28 : decode cX5_typeMore 28 = .ok (.aload_n 0, 1) := by decide +kernel
theorem dX5_typeMore_29 : decode cX5_typeMore 29 = .ok (.getfield 16, 3) := by decide +kernel
theorem dX5_typeMore_32 : decode cX5_typeMore 32 = .ok (.invokevirtual 60, 3) := by decide +kernel
theorem dX5_typeMore_35 : decode cX5_typeMore 35 = .ok (.aload_n 0, 1) := by decide +kernel
theorem dX5_typeMore_36 : decode cX5_typeMore 36 = .ok (.getfield 16, 3) := by decide +kernel
theorem dX5_typeMore_39 : decode cX5_typeMore 39 = .ok (.iload_n 3, 1) := by decide +kernel
theorem dX5_typeMore_40 : decode cX5_typeMore 40 = .ok (.invokevirtual 50, 3) := by decide +kernel
theorem dX5_typeMore_43 : decode cX5_typeMore 43 = .ok (.aload_n 0, 1) := by decide +kernel
theorem dX5_typeMore_44 : decode cX5_typeMore 44 = .ok (.getfield 16, 3) := by decide +kernel
theorem dX5_typeMore_47 : decode cX5_typeMore 47 = .ok (.iload 4, 2) := by decide +kernel
theorem dX5_typeMore_49 : decode cX5_typeMore 49 = .ok (.invokevirtual 50, 3) := by decide +kernel
theorem dX5_typeMore_52 : decode cX5_typeMore 52 = .ok (.aload_n 0, 1) := by decide +kernel
theorem dX5_typeMore_53 : decode cX5_typeMore 53 = .ok (.getfield 16, 3) := by decide +kernel
theorem dX5_typeMore_56 : decode cX5_typeMore 56 = .ok (.iload 5, 2) := by decide +kernel
theorem dX5_typeMore_58 : decode cX5_typeMore 58 = .ok (.invokevirtual 50, 3) := by decide +kernel
theorem dX5_typeMore_61 : decode cX5_typeMore 61 = .ok (.aload_n 0, 1) := by decide +kernel
theorem dX5_typeMore_62 : decode cX5_typeMore 62 = .ok (.getfield 16, 3) := by decide +kernel
theorem dX5_typeMore_65 : decode cX5_typeMore 65 = .ok (.iload 6, 2) := by decide +kernel
theorem dX5_typeMore_67 : decode cX5_typeMore 67 = .ok (.invokevirtual 50, 3) := by decide +kernel
theorem dX5_typeMore_70 : decode cX5_typeMore 70 = .ok (.aload_n 0, 1) := by decide +kernel
theorem dX5_typeMore_71 : decode cX5_typeMore 71 = .ok (.getfield 16, 3) := by decide +kernel
theorem dX5_typeMore_74 : decode cX5_typeMore 74 = .ok (.iload 7, 2) := by decide +kernel
theorem dX5_typeMore_76 : decode cX5_typeMore 76 = .ok (.invokevirtual 50, 3) := by decide +kernel
theorem dX5_typeMore_79 : decode cX5_typeMore 79 = .ok (.aload_n 0, 1) := by decide +kernel
theorem dX5_typeMore_80 : decode cX5_typeMore 80 = .ok (.getfield 16, 3) := by decide +kernel
theorem dX5_typeMore_83 : decode cX5_typeMore 83 = .ok (.iload 8, 2) := by decide +kernel
theorem dX5_typeMore_85 : decode cX5_typeMore 85 = .ok (.invokevirtual 50, 3) := by decide +kernel
theorem dX5_typeMore_88 : decode cX5_typeMore 88 = .ok (.iconst 0, 1) := by decide +kernel
theorem dX5_typeMore_89 : decode cX5_typeMore 89 = .ok (.istore 10, 2) := by decide +kernel
theorem dX5_typeMore_91 : decode cX5_typeMore 91 = .ok (.iload 10, 2) := by decide +kernel
theorem dX5_typeMore_93 : decode cX5_typeMore 93 = .ok (.iload_n 2, 1) := by decide +kernel
theorem dX5_typeMore_94 : decode cX5_typeMore 94 = .ok (.if_icmp .ge 21, 3) := by decide +kernel
theorem dX5_typeMore_97 : decode cX5_typeMore 97 = .ok (.aload_n 0, 1) := by decide +kernel
theorem dX5_typeMore_98 : decode cX5_typeMore 98 = .ok (.getfield 16, 3) := by decide +kernel
theorem dX5_typeMore_101 : decode cX5_typeMore 101 = .ok (.iload 10, 2) := by decide +kernel
theorem dX5_typeMore_103 : decode cX5_typeMore 103 = .ok (.invokevirtual 63, 3) := by decide +kernel
theorem dX5_typeMore_106 : decode cX5_typeMore 106 = .ok (.invokestatic 38, 3) := by decide +kernel
theorem dX5_typeMore_109 : decode cX5_typeMore 109 = .ok (.iinc 10 1, 3) := by decide +kernel
theorem dX5_typeMore_112 : decode cX5_typeMore 112 = .ok (.goto (-21), 3) := by decide +kernel
theorem dX5_typeMore_115 : decode cX5_typeMore 115 = .ok (.aload 9, 2) := by decide +kernel
theorem dX5_typeMore_117 : decode cX5_typeMore 117 = .ok (.invokevirtual 42, 3) := by decide +kernel
theorem dX5_typeMore_120 : decode cX5_typeMore 120 = .ok (.iload_n 2, 1) := by decide +kernel
theorem dX5_typeMore_121 : decode cX5_typeMore 121 = .ok (.iadd, 1) := by decide +kernel
theorem dX5_typeMore_122 : decode cX5_typeMore 122 = .ok (.i2l, 1) := by decide +kernel
theorem dX5_typeMore_123 : decode cX5_typeMore 123 = .ok (.invokestatic 46, 3) := by decide +kernel
theorem dX5_typeMore_126 : decode cX5_typeMore 126 = .ok (.aload 9, 2) := by decide +kernel
theorem dX5_typeMore_128 : decode cX5_typeMore 128 = .ok (.aload_n 0, 1) := by decide +kernel
theorem dX5_typeMore_129 : decode cX5_typeMore 129 = .ok (.getfield 16, 3) := by decide +kernel
theorem dX5_typeMore_132 : decode cX5_typeMore 132 = .ok (.iconst 0, 1) := by decide +kernel
theorem dX5_typeMore_133 : decode cX5_typeMore 133 = .ok (.iload_n 2, 1) := by decide +kernel
theorem dX5_typeMore_134 : decode cX5_typeMore 134 = .ok (.invokevirtual 67, 3) := by decide +kernel
theorem dX5_typeMore_137 : decode cX5_typeMore 137 = .ok (.aload 9, 2) := by decide +kernel
theorem dX5_typeMore_139 : decode cX5_typeMore 139 = .ok (.invokevirtual 42, 3) := by decide +kernel
theorem dX5_typeMore_142 : decode cX5_typeMore 142 = .ok (.ireturn, 1) := by decide +kernel
set_option maxRecDepth 20000 in
theorem ggX5_erase_X5_textOf : GoodIn wsX5_erase wsX5_textOf := goodIn_ca (goodIn_r _ [5, 6, 7, 8, 19, 20, 21, 22] (by decide +kernel) (by decide +kernel)) (goodIn_sub (fun _ h => List.mem_cons_of_mem _ (List.mem_append_right _ h)) (by decide +kernel))
set_option maxRecDepth 20000 in
theorem gX5_erase_X5_textOf : GoodIn wsX5_erase (wsV RX5 34 RX5 yX5_textOf wsX5_textOf) := goodIn_app (goodIn_of _ (by decide +kernel)) ggX5_erase_X5_textOf
set_option maxRecDepth 20000 in
theorem ggX5_erase_X4_size : GoodIn wsX5_erase wsX4_size := goodIn_r _ [13, 14, 23, 24] (by decide +kernel) (by decide +kernel)
set_option maxRecDepth 20000 in
theorem gX5_erase_X4_size : GoodIn wsX5_erase (wsV RX5 42 RX4 yX4_size wsX4_size) := goodIn_app (goodIn_of _ (by decide +kernel)) ggX5_erase_X4_size
set_option maxRecDepth 20000 in
theorem ggX5_erase_X4_clear : GoodIn wsX5_erase wsX4_clear := goodIn_r _ [18, 14, 23, 24] (by decide +kernel) (by decide +kernel)
set_option maxRecDepth 20000 in
theorem gX5_erase_X4_clear : GoodIn wsX5_erase (wsV RX5 60 RX4 yX4_clear wsX4_clear) := goodIn_app (goodIn_of _ (by decide +kernel)) ggX5_erase_X4_clear
theorem dX5_erase_0 : decode cX5_erase 0 = .ok (.aload_n 0, 1) := by decide +kernel
theorem dX5_erase_1 : decode cX5_erase 1 = .ok (.iload_n 1, 1) := by decide +kernel
theorem dX5_erase_2 : decode cX5_erase 2 = .ok (.invokevirtual 34, 3) := by decide +kernel
theorem dX5_erase_5 : decode cX5_erase 5 = .ok (.astore_n 2, 1) := by decide +kernel
theorem dX5_erase_6 : decode cX5_erase 6 = .ok (.aload_n 2, 1) := by decide +kernel
theorem dX5_erase_7 : decode cX5_erase 7 = .ok (.invokevirtual 42, 3) := by decide +kernel
theorem dX5_erase_10 : decode cX5_erase 10 = .ok (.istore_n 3, 1) := by decide +kernel
theorem dX5_erase_11 : decode cX5_erase 11 = .ok (.aload_n 2, 1) := by decide +kernel
theorem dX5_erase_12 : decode cX5_erase 12 = .ok (.invokevirtual 60, 3) := by decide +kernel
theorem dX5_erase_15 : decode cX5_erase 15 = .ok (.iload_n 3, 1) := by decide +kernel
theorem dX5_erase_16 : decode cX5_erase 16 = .ok (.ireturn, 1) := by decide +kernel
set_option maxRecDepth 20000 in
theorem ggX5_length_X5_textOf : GoodIn wsX5_length wsX5_textOf := goodIn_ca (goodIn_r _ [5, 6, 7, 8, 15, 16, 17, 18] (by decide +kernel) (by decide +kernel)) (goodIn_sub (fun _ h => List.mem_cons_of_mem _ (List.mem_append_right _ h)) (by decide +kernel))
set_option maxRecDepth 20000 in
theorem gX5_length_X5_textOf : GoodIn wsX5_length (wsV RX5 34 RX5 yX5_textOf wsX5_textOf) := goodIn_app (goodIn_of _ (by decide +kernel)) ggX5_length_X5_textOf
set_option maxRecDepth 20000 in
theorem ggX5_length_X4_size : GoodIn wsX5_length wsX4_size := goodIn_r _ [13, 14, 19, 20] (by decide +kernel) (by decide +kernel)
set_option maxRecDepth 20000 in
theorem gX5_length_X4_size : GoodIn wsX5_length (wsV RX5 42 RX4 yX4_size wsX4_size) := goodIn_app (goodIn_of _ (by decide +kernel)) ggX5_length_X4_size
theorem dX5_length_0 : decode cX5_length 0 = .ok (.aload_n 0, 1) := by decide +kernel
theorem dX5_length_1 : decode cX5_length 1 = .ok (.iload_n 1, 1) := by decide +kernel
theorem dX5_length_2 : decode cX5_length 2 = .ok (.invokevirtual 34, 3) := by decide +kernel
theorem dX5_length_5 : decode cX5_length 5 = .ok (.invokevirtual 42, 3) := by decide +kernel
theorem dX5_length_8 : decode cX5_length 8 = .ok (.ireturn, 1) := by decide +kernel
set_option maxRecDepth 20000 in
theorem ggX5_signAt_X5_textOf : GoodIn wsX5_signAt wsX5_textOf := goodIn_ca (goodIn_r _ [5, 6, 7, 8, 23, 24, 25, 26] (by decide +kernel) (by decide +kernel)) (goodIn_sub (fun _ h => List.mem_cons_of_mem _ (List.mem_append_left _ (List.mem_append_right _ h))) (by decide +kernel))
set_option maxRecDepth 20000 in
theorem gX5_signAt_X5_textOf : GoodIn wsX5_signAt (wsV RX5 34 RX5 yX5_textOf wsX5_textOf) := goodIn_app (goodIn_of _ (by decide +kernel)) ggX5_signAt_X5_textOf
set_option maxRecDepth 20000 in
theorem ggX5_signAt_X5_requirePlace : GoodIn wsX5_signAt wsX5_requirePlace := goodIn_ca (goodIn_r _ [11, 6, 7, 12, 13, 14, 15, 16, 17, 27, 28] (by decide +kernel) (by decide +kernel)) (goodIn_sub (fun _ h => List.mem_cons_of_mem _ (List.mem_append_left _ (List.mem_append_right _ h))) (by decide +kernel))
set_option maxRecDepth 20000 in
theorem gX5_signAt_X5_requirePlace : GoodIn wsX5_signAt (va_wsS RX5 71 yX5_requirePlace wsX5_requirePlace) := goodIn_app (goodIn_of _ (by decide +kernel)) ggX5_signAt_X5_requirePlace
set_option maxRecDepth 20000 in
theorem ggX5_signAt_X4_signOn : GoodIn wsX5_signAt wsX4_signOn := goodIn_ca (goodIn_r _ [21, 17, 22, 27, 28] (by decide +kernel) (by decide +kernel)) (goodIn_sub (fun _ h => List.mem_cons_of_mem _ (List.mem_append_right _ h)) (by decide +kernel))
set_option maxRecDepth 20000 in
theorem gX5_signAt_X4_signOn : GoodIn wsX5_signAt (wsV RX5 63 RX4 yX4_signOn wsX4_signOn) := goodIn_app (goodIn_of _ (by decide +kernel)) ggX5_signAt_X4_signOn
theorem dX5_signAt_0 : decode cX5_signAt 0 = .ok (.aload_n 0, 1) := by decide +kernel
theorem dX5_signAt_1 : decode cX5_signAt 1 = .ok (.iload_n 1, 1) := by decide +kernel
theorem dX5_signAt_2 : decode cX5_signAt 2 = .ok (.invokevirtual 34, 3) := by decide +kernel
theorem dX5_signAt_5 : decode cX5_signAt 5 = .ok (.astore_n 3, 1) := by decide +kernel
theorem dX5_signAt_6 : decode cX5_signAt 6 = .ok (.aload_n 3, 1) := by decide +kernel
theorem dX5_signAt_7 : decode cX5_signAt 7 = .ok (.iload_n 2, 1) := by decide +kernel
theorem dX5_signAt_8 : decode cX5_signAt 8 = .ok (.invokestatic 71, 3) := by decide +kernel
theorem dX5_signAt_11 : decode cX5_signAt 11 = .ok (.aload_n 3, 1) := by decide +kernel
theorem dX5_signAt_12 : decode cX5_signAt 12 = .ok (.iload_n 2, 1) := by decide +kernel
theorem dX5_signAt_13 : decode cX5_signAt 13 = .ok (.invokevirtual 63, 3) := by decide +kernel
theorem dX5_signAt_16 : decode cX5_signAt 16 = .ok (.ireturn, 1) := by decide +kernel
set_option maxRecDepth 20000 in
theorem ggX5_join_X5_textOf : GoodIn wsX5_join wsX5_textOf := goodIn_ca (goodIn_r _ [6, 7, 8, 9, 53, 54, 55, 56] (by decide +kernel) (by decide +kernel)) (goodIn_sub (fun _ h => List.mem_cons_of_mem _ (List.mem_append_left _ (List.mem_append_left _ (List.mem_append_right _ h)))) (by decide +kernel))
set_option maxRecDepth 20000 in
theorem gX5_join_X5_textOf : GoodIn wsX5_join (wsV RX5 34 RX5 yX5_textOf wsX5_textOf) := goodIn_app (goodIn_of _ (by decide +kernel)) ggX5_join_X5_textOf
set_option maxRecDepth 20000 in
theorem ggX5_join_X4_size : GoodIn wsX5_join wsX4_size := goodIn_r _ [14, 15, 57, 58] (by decide +kernel) (by decide +kernel)
set_option maxRecDepth 20000 in
theorem gX5_join_X4_size : GoodIn wsX5_join (wsV RX5 42 RX4 yX4_size wsX4_size) := goodIn_app (goodIn_of _ (by decide +kernel)) ggX5_join_X4_size
set_option maxRecDepth 20000 in
theorem ggX5_join_X5_requireRoom : GoodIn wsX5_join wsX5_requireRoom := goodIn_ca (goodIn_r _ [18, 19, 20, 21] (by decide +kernel) (by decide +kernel)) (goodIn_sub (fun _ h => List.mem_cons_of_mem _ (List.mem_append_left _ (List.mem_append_right _ h))) (by decide +kernel))
set_option maxRecDepth 20000 in
theorem gX5_join_X5_requireRoom : GoodIn wsX5_join (va_wsS RX5 46 yX5_requireRoom wsX5_requireRoom) := goodIn_app (goodIn_of _ (by decide +kernel)) ggX5_join_X5_requireRoom
set_option maxRecDepth 20000 in
theorem ggX5_join_X4_clear : GoodIn wsX5_join wsX4_clear := goodIn_r _ [25, 15, 57, 58] (by decide +kernel) (by decide +kernel)
set_option maxRecDepth 20000 in
theorem gX5_join_X4_clear : GoodIn wsX5_join (wsV RX5 60 RX4 yX4_clear wsX4_clear) := goodIn_app (goodIn_of _ (by decide +kernel)) ggX5_join_X4_clear
set_option maxRecDepth 20000 in
theorem ggX5_join_X4_addAll : GoodIn wsX5_join wsX4_addAll := goodIn_ca (goodIn_r _ [29, 15, 30, 31, 32, 13, 33, 34, 35, 36, 37, 38, 39, 40, 41, 42, 57, 58] (by decide +kernel) (by decide +kernel)) (goodIn_sub (fun _ h => List.mem_cons_of_mem _ (List.mem_append_right _ h)) (by decide +kernel))
set_option maxRecDepth 20000 in
theorem gX5_join_X4_addAll : GoodIn wsX5_join (wsV RX5 75 RX4 yX4_addAll wsX4_addAll) := goodIn_app (goodIn_of _ (by decide +kernel)) ggX5_join_X4_addAll
set_option maxRecDepth 20000 in
theorem ggX5_join_X5_becomeBuilt : GoodIn wsX5_join wsX5_becomeBuilt := goodIn_ca (goodIn_r _ [46, 1, 47, 48, 49, 13, 50, 51, 23, 24, 25, 15, 52, 27, 28, 29, 30, 31, 32, 33, 34, 35, 36, 37, 38, 39, 40, 41, 42, 10, 11, 12, 14, 53, 54, 55, 56, 57, 58] (by decide +kernel) (by decide +kernel)) (goodIn_sub (fun _ h => List.mem_cons_of_mem _ (List.mem_append_right _ h)) (by decide +kernel))
set_option maxRecDepth 20000 in
theorem gX5_join_X5_becomeBuilt : GoodIn wsX5_join (wsV RX5 79 RX5 yX5_becomeBuilt wsX5_becomeBuilt) := goodIn_app (goodIn_of _ (by decide +kernel)) ggX5_join_X5_becomeBuilt
theorem dX5_join_0 : decode cX5_join 0 = .ok (.aload_n 0, 1) := by decide +kernel
theorem dX5_join_1 : decode cX5_join 1 = .ok (.iload_n 1, 1) := by decide +kernel
theorem dX5_join_2 : decode cX5_join 2 = .ok (.invokevirtual 34, 3) := by decide +kernel
theorem dX5_join_5 : decode cX5_join 5 = .ok (.astore 4, 2) := by decide +kernel
theorem dX5_join_7 : decode cX5_join 7 = .ok (.aload_n 0, 1) := by decide +kernel
theorem dX5_join_8 : decode cX5_join 8 = .ok (.iload_n 2, 1) := by decide +kernel
theorem dX5_join_9 : decode cX5_join 9 = .ok (.invokevirtual 34, 3) := by decide +kernel
theorem dX5_join_12 : decode cX5_join 12 = .ok (.astore 5, 2) := by decide +kernel
theorem dX5_join_14 : decode cX5_join 14 = .ok (.aload_n 0, 1) := by decide +kernel
theorem dX5_join_15 : decode cX5_join 15 = .ok (.iload_n 3, 1) := by decide +kernel
theorem dX5_join_16 : decode cX5_join 16 = .ok (.invokevirtual 34, 3) := by decide +kernel
theorem dX5_join_19 : decode cX5_join 19 = .ok (.astore 6, 2) := by decide +kernel
theorem dX5_join_21 : decode cX5_join 21 = .ok (.aload 5, 2) := by decide +kernel
theorem dX5_join_23 : decode cX5_join 23 = .ok (.invokevirtual 42, 3) := by decide +kernel
theorem dX5_join_26 : decode cX5_join 26 = .ok (.aload 6, 2) := by decide +kernel
theorem dX5_join_28 : decode cX5_join 28 = .ok (.invokevirtual 42, 3) := by decide +kernel
theorem dX5_join_31 : decode cX5_join 31 = .ok (.iadd, 1) := by decide +kernel
theorem dX5_join_32 : decode cX5_join 32 = .ok (.i2l, 1) := by decide +kernel
theorem dX5_join_33 : decode cX5_join 33 = .ok (.invokestatic 46, 3) := by decide +kernel
theorem dX5_join_36 : decode cX5_join 36 = .ok (.aload_n 0, 1) := by decide +kernel
theorem dX5_join_37 : decode cX5_join 37 = .ok (.getfield 16, 3) := by decide +kernel
theorem dX5_join_40 : decode cX5_join 40 = .ok (.invokevirtual 60, 3) := by decide +kernel
theorem dX5_join_43 : decode cX5_join 43 = .ok (.aload_n 0, 1) := by decide +kernel
theorem dX5_join_44 : decode cX5_join 44 = .ok (.getfield 16, 3) := by decide +kernel
theorem dX5_join_47 : decode cX5_join 47 = .ok (.aload 5, 2) := by decide +kernel
theorem dX5_join_49 : decode cX5_join 49 = .ok (.invokevirtual 75, 3) := by decide +kernel
theorem dX5_join_52 : decode cX5_join 52 = .ok (.aload_n 0, 1) := by decide +kernel
theorem dX5_join_53 : decode cX5_join 53 = .ok (.getfield 16, 3) := by decide +kernel
theorem dX5_join_56 : decode cX5_join 56 = .ok (.aload 6, 2) := by decide +kernel
theorem dX5_join_58 : decode cX5_join 58 = .ok (.invokevirtual 75, 3) := by decide +kernel
theorem dX5_join_61 : decode cX5_join 61 = .ok (.aload_n 0, 1) := by decide +kernel
theorem dX5_join_62 : decode cX5_join 62 = .ok (.aload 4, 2) := by decide +kernel
theorem dX5_join_64 : decode cX5_join 64 = .ok (.invokevirtual 79, 3) := by decide +kernel
theorem dX5_join_67 : decode cX5_join 67 = .ok (.ireturn, 1) := by decide +kernel
set_option maxRecDepth 20000 in
theorem ggX5_repeat_X5_textOf : GoodIn wsX5_repeat wsX5_textOf := goodIn_ca (goodIn_r _ [8, 9, 10, 11, 59, 60, 61, 62] (by decide +kernel) (by decide +kernel)) (goodIn_sub (fun _ h => List.mem_cons_of_mem _ (List.mem_append_left _ (List.mem_append_left _ (List.mem_append_right _ h)))) (by decide +kernel))
set_option maxRecDepth 20000 in
theorem gX5_repeat_X5_textOf : GoodIn wsX5_repeat (wsV RX5 34 RX5 yX5_textOf wsX5_textOf) := goodIn_app (goodIn_of _ (by decide +kernel)) ggX5_repeat_X5_textOf
set_option maxRecDepth 20000 in
theorem ggX5_repeat_X4_isEmpty : GoodIn wsX5_repeat wsX4_isEmpty := goodIn_r _ [16, 17, 63, 64] (by decide +kernel) (by decide +kernel)
set_option maxRecDepth 20000 in
theorem gX5_repeat_X4_isEmpty : GoodIn wsX5_repeat (wsV RX5 85 RX4 yX4_isEmpty wsX4_isEmpty) := goodIn_app (goodIn_of _ (by decide +kernel)) ggX5_repeat_X4_isEmpty
set_option maxRecDepth 20000 in
theorem ggX5_repeat_X4_size : GoodIn wsX5_repeat wsX4_size := goodIn_r _ [21, 17, 63, 64] (by decide +kernel) (by decide +kernel)
set_option maxRecDepth 20000 in
theorem gX5_repeat_X4_size : GoodIn wsX5_repeat (wsV RX5 42 RX4 yX4_size wsX4_size) := goodIn_app (goodIn_of _ (by decide +kernel)) ggX5_repeat_X4_size
set_option maxRecDepth 20000 in
theorem ggX5_repeat_X5_requireRoom : GoodIn wsX5_repeat wsX5_requireRoom := goodIn_ca (goodIn_r _ [24, 25, 26, 27] (by decide +kernel) (by decide +kernel)) (goodIn_sub (fun _ h => List.mem_cons_of_mem _ (List.mem_append_left _ (List.mem_append_right _ h))) (by decide +kernel))
set_option maxRecDepth 20000 in
theorem gX5_repeat_X5_requireRoom : GoodIn wsX5_repeat (va_wsS RX5 46 yX5_requireRoom wsX5_requireRoom) := goodIn_app (goodIn_of _ (by decide +kernel)) ggX5_repeat_X5_requireRoom
set_option maxRecDepth 20000 in
theorem ggX5_repeat_X4_clear : GoodIn wsX5_repeat wsX4_clear := goodIn_r _ [31, 17, 63, 64] (by decide +kernel) (by decide +kernel)
set_option maxRecDepth 20000 in
theorem gX5_repeat_X4_clear : GoodIn wsX5_repeat (wsV RX5 60 RX4 yX4_clear wsX4_clear) := goodIn_app (goodIn_of _ (by decide +kernel)) ggX5_repeat_X4_clear
set_option maxRecDepth 20000 in
theorem ggX5_repeat_X4_addAll : GoodIn wsX5_repeat wsX4_addAll := goodIn_ca (goodIn_r _ [35, 17, 36, 37, 38, 15, 39, 40, 41, 42, 43, 44, 45, 46, 47, 48, 63, 64] (by decide +kernel) (by decide +kernel)) (goodIn_sub (fun _ h => List.mem_cons_of_mem _ (List.mem_append_right _ h)) (by decide +kernel))
set_option maxRecDepth 20000 in
theorem gX5_repeat_X4_addAll : GoodIn wsX5_repeat (wsV RX5 75 RX4 yX4_addAll wsX4_addAll) := goodIn_app (goodIn_of _ (by decide +kernel)) ggX5_repeat_X4_addAll
set_option maxRecDepth 20000 in
theorem ggX5_repeat_X5_becomeBuilt : GoodIn wsX5_repeat wsX5_becomeBuilt := goodIn_ca (goodIn_r _ [52, 3, 53, 54, 55, 15, 56, 57, 29, 30, 31, 17, 58, 33, 34, 35, 36, 37, 38, 39, 40, 41, 42, 43, 44, 45, 46, 47, 48, 18, 19, 20, 21, 59, 60, 61, 62, 63, 64] (by decide +kernel) (by decide +kernel)) (goodIn_sub (fun _ h => List.mem_cons_of_mem _ (List.mem_append_right _ h)) (by decide +kernel))
set_option maxRecDepth 20000 in
theorem gX5_repeat_X5_becomeBuilt : GoodIn wsX5_repeat (wsV RX5 79 RX5 yX5_becomeBuilt wsX5_becomeBuilt) := goodIn_app (goodIn_of _ (by decide +kernel)) ggX5_repeat_X5_becomeBuilt
theorem dX5_repeat_0 : decode cX5_repeat 0 = .ok (.aload_n 0, 1) := by decide +kernel
theorem dX5_repeat_1 : decode cX5_repeat 1 = .ok (.iload_n 1, 1) := by decide +kernel
theorem dX5_repeat_2 : decode cX5_repeat 2 = .ok (.invokevirtual 34, 3) := by decide +kernel
theorem dX5_repeat_5 : decode cX5_repeat 5 = .ok (.astore 4, 2) := by decide +kernel
theorem dX5_repeat_7 : decode cX5_repeat 7 = .ok (.aload_n 0, 1) := by decide +kernel
theorem dX5_repeat_8 : decode cX5_repeat 8 = .ok (.iload_n 2, 1) := by decide +kernel
theorem dX5_repeat_9 : decode cX5_repeat 9 = .ok (.invokevirtual 34, 3) := by decide +kernel
theorem dX5_repeat_12 : decode cX5_repeat 12 = .ok (.astore 5, 2) := by decide +kernel
theorem dX5_repeat_14 : decode cX5_repeat 14 = .ok (.iload_n 3, 1) := by decide +kernel
theorem dX5_repeat_15 : decode cX5_repeat 15 = .ok (.ifCond .ge 13, 3) := by decide +kernel
theorem dX5_repeat_18 : decode cX5_repeat 18 = .ok (.new 53, 3) := by decide +kernel
theorem dX5_repeat_21 : decode cX5_repeat 21 = .ok (.dup, 1) := by decide +kernel
theorem dX5_repeat_22 : decode cX5_repeat 22 = .ok (.ldc 83, 2) := by decide +kernel
theorem dX5_repeat_24 : decode cX5_repeat 24 = .ok (.invokespecial 57, 3) := by decide +kernel
theorem dX5_repeat_27 : decode cX5_repeat 27 = .ok (.athrow, 1) := by decide +kernel
theorem dX5_repeat_28 : decode cX5_repeat 28 = .ok (.aload 5, 2) := by decide +kernel
theorem dX5_repeat_30 : decode cX5_repeat 30 = .ok (.invokevirtual 85, 3) := by decide +kernel
theorem dX5_repeat_33 : decode cX5_repeat 33 = .ok (.ifCond .eq 7, 3) := by decide +kernel
theorem dX5_repeat_36 : decode cX5_repeat 36 = .ok (.iconst 0, 1) := by decide +kernel
theorem dX5_repeat_37 : decode cX5_repeat 37 = .ok (.goto 4, 3) := by decide +kernel
theorem dX5_repeat_40 : decode cX5_repeat 40 = .ok (.iload_n 3, 1) := by decide +kernel
theorem dX5_repeat_41 : decode cX5_repeat 41 = .ok (.istore 6, 2) := by decide +kernel
theorem dX5_repeat_43 : decode cX5_repeat 43 = .ok (.aload 5, 2) := by decide +kernel
theorem dX5_repeat_45 : decode cX5_repeat 45 = .ok (.invokevirtual 42, 3) := by decide +kernel
theorem dX5_repeat_48 : decode cX5_repeat 48 = .ok (.i2l, 1) := by decide +kernel
theorem dX5_repeat_49 : decode cX5_repeat 49 = .ok (.iload 6, 2) := by decide +kernel
theorem dX5_repeat_51 : decode cX5_repeat 51 = .ok (.i2l, 1) := by decide +kernel
theorem dX5_repeat_52 : decode cX5_repeat 52 = .ok (.lmul, 1) := by decide +kernel
theorem dX5_repeat_53 : decode cX5_repeat 53 = .ok (.invokestatic 46, 3) := by decide +kernel
theorem dX5_repeat_56 : decode cX5_repeat 56 = .ok (.aload_n 0, 1) := by decide +kernel
theorem dX5_repeat_57 : decode cX5_repeat 57 = .ok (.getfield 16, 3) := by decide +kernel
theorem dX5_repeat_60 : decode cX5_repeat 60 = .ok (.invokevirtual 60, 3) := by decide +kernel
theorem dX5_repeat_63 : decode cX5_repeat 63 = .ok (.iconst 0, 1) := by decide +kernel
theorem dX5_repeat_64 : decode cX5_repeat 64 = .ok (.istore 7, 2) := by decide +kernel
theorem dX5_repeat_66 : decode cX5_repeat 66 = .ok (.iload 7, 2) := by decide +kernel
theorem dX5_repeat_68 : decode cX5_repeat 68 = .ok (.iload 6, 2) := by decide +kernel
theorem dX5_repeat_70 : decode cX5_repeat 70 = .ok (.if_icmp .ge 18, 3) := by decide +kernel
theorem dX5_repeat_73 : decode cX5_repeat 73 = .ok (.aload_n 0, 1) := by decide +kernel
theorem dX5_repeat_74 : decode cX5_repeat 74 = .ok (.getfield 16, 3) := by decide +kernel
theorem dX5_repeat_77 : decode cX5_repeat 77 = .ok (.aload 5, 2) := by decide +kernel
theorem dX5_repeat_79 : decode cX5_repeat 79 = .ok (.invokevirtual 75, 3) := by decide +kernel
theorem dX5_repeat_82 : decode cX5_repeat 82 = .ok (.iinc 7 1, 3) := by decide +kernel
theorem dX5_repeat_85 : decode cX5_repeat 85 = .ok (.goto (-19), 3) := by decide +kernel
theorem dX5_repeat_88 : decode cX5_repeat 88 = .ok (.aload_n 0, 1) := by decide +kernel
theorem dX5_repeat_89 : decode cX5_repeat 89 = .ok (.aload 4, 2) := by decide +kernel
theorem dX5_repeat_91 : decode cX5_repeat 91 = .ok (.invokevirtual 79, 3) := by decide +kernel
theorem dX5_repeat_94 : decode cX5_repeat 94 = .ok (.ireturn, 1) := by decide +kernel
set_option maxRecDepth 20000 in
theorem ggX5_part_X5_textOf : GoodIn wsX5_part wsX5_textOf := goodIn_ca (goodIn_r _ [7, 1, 2, 8, 51, 52, 53, 54] (by decide +kernel) (by decide +kernel)) (goodIn_sub (fun _ h => List.mem_cons_of_mem _ (List.mem_append_left _ (List.mem_append_right _ h))) (by decide +kernel))
set_option maxRecDepth 20000 in
theorem gX5_part_X5_textOf : GoodIn wsX5_part (wsV RX5 34 RX5 yX5_textOf wsX5_textOf) := goodIn_app (goodIn_of _ (by decide +kernel)) ggX5_part_X5_textOf
set_option maxRecDepth 20000 in
theorem ggX5_part_X4_size : GoodIn wsX5_part wsX4_size := goodIn_r _ [13, 14, 55, 56] (by decide +kernel) (by decide +kernel)
set_option maxRecDepth 20000 in
theorem gX5_part_X4_size : GoodIn wsX5_part (wsV RX5 42 RX4 yX4_size wsX4_size) := goodIn_app (goodIn_of _ (by decide +kernel)) ggX5_part_X4_size
set_option maxRecDepth 20000 in
theorem ggX5_part_X5_becomePart : GoodIn wsX5_part wsX5_becomePart := goodIn_ca (goodIn_r _ [18, 19, 20, 21, 22, 12, 23, 14, 24, 25, 26, 27, 28, 29, 30, 31, 32, 33, 34, 35, 36, 37, 38, 39, 6, 40, 41, 42, 43, 44, 45, 46, 47, 48, 49, 50, 9, 10, 11, 13, 51, 52, 53, 54, 55, 56] (by decide +kernel) (by decide +kernel)) (goodIn_sub (fun _ h => List.mem_cons_of_mem _ (List.mem_append_right _ h)) (by decide +kernel))
set_option maxRecDepth 20000 in
theorem gX5_part_X5_becomePart : GoodIn wsX5_part (wsV RX5 94 RX5 yX5_becomePart wsX5_becomePart) := goodIn_app (goodIn_of _ (by decide +kernel)) ggX5_part_X5_becomePart
theorem dX5_part_0 : decode cX5_part 0 = .ok (.aload_n 0, 1) := by decide +kernel
theorem dX5_part_1 : decode cX5_part 1 = .ok (.iload_n 1, 1) := by decide +kernel
theorem dX5_part_2 : decode cX5_part 2 = .ok (.invokevirtual 34, 3) := by decide +kernel
theorem dX5_part_5 : decode cX5_part 5 = .ok (.astore 5, 2) := by decide +kernel
theorem dX5_part_7 : decode cX5_part 7 = .ok (.aload_n 0, 1) := by decide +kernel
theorem dX5_part_8 : decode cX5_part 8 = .ok (.iload_n 2, 1) := by decide +kernel
theorem dX5_part_9 : decode cX5_part 9 = .ok (.invokevirtual 34, 3) := by decide +kernel
theorem dX5_part_12 : decode cX5_part 12 = .ok (.astore 6, 2) := by decide +kernel
theorem dX5_part_14 : decode cX5_part 14 = .ok (.iload_n 3, 1) := by decide +kernel
theorem dX5_part_15 : decode cX5_part 15 = .ok (.ifCond .lt 19, 3) := by decide +kernel
theorem dX5_part_18 : decode cX5_part 18 = .ok (.iload_n 3, 1) := by decide +kernel
theorem dX5_part_19 : decode cX5_part 19 = .ok (.iload 4, 2) := by decide +kernel
theorem dX5_part_21 : decode cX5_part 21 = .ok (.if_icmp .gt 13, 3) := by decide +kernel
theorem dX5_part_24 : decode cX5_part 24 = .ok (.iload 4, 2) := by decide +kernel
theorem dX5_part_26 : decode cX5_part 26 = .ok (.aload 6, 2) := by decide +kernel
theorem dX5_part_28 : decode cX5_part 28 = .ok (.invokevirtual 42, 3) := by decide +kernel
theorem dX5_part_31 : decode cX5_part 31 = .ok (.if_icmp .le 13, 3) := by decide +kernel
theorem dX5_part_34 : decode cX5_part 34 = .ok (.new 89, 3) := by decide +kernel
theorem dX5_part_37 : decode cX5_part 37 = .ok (.dup, 1) := by decide +kernel
theorem dX5_part_38 : decode cX5_part 38 = .ok (.ldc 91, 2) := by decide +kernel
theorem dX5_part_40 : decode cX5_part 40 = .ok (.invokespecial 93, 3) := by decide +kernel
theorem dX5_part_43 : decode cX5_part 43 = .ok (.athrow, 1) := by decide +kernel
theorem dX5_part_44 : decode cX5_part 44 = .ok (.aload_n 0, 1) := by decide +kernel
theorem dX5_part_45 : decode cX5_part 45 = .ok (.aload 5, 2) := by decide +kernel
theorem dX5_part_47 : decode cX5_part 47 = .ok (.aload 6, 2) := by decide +kernel
theorem dX5_part_49 : decode cX5_part 49 = .ok (.iload_n 3, 1) := by decide +kernel
theorem dX5_part_50 : decode cX5_part 50 = .ok (.iload 4, 2) := by decide +kernel
theorem dX5_part_52 : decode cX5_part 52 = .ok (.invokevirtual 94, 3) := by decide +kernel
theorem dX5_part_55 : decode cX5_part 55 = .ok (.ireturn, 1) := by decide +kernel
set_option maxRecDepth 20000 in
theorem ggX5_turn_X5_textOf : GoodIn wsX5_turn wsX5_textOf := goodIn_ca (goodIn_r _ [8, 1, 2, 9, 47, 48, 49, 50] (by decide +kernel) (by decide +kernel)) (goodIn_sub (fun _ h => List.mem_cons_of_mem _ (List.mem_append_left _ (List.mem_append_right _ h))) (by decide +kernel))
set_option maxRecDepth 20000 in
theorem gX5_turn_X5_textOf : GoodIn wsX5_turn (wsV RX5 34 RX5 yX5_textOf wsX5_textOf) := goodIn_app (goodIn_of _ (by decide +kernel)) ggX5_turn_X5_textOf
set_option maxRecDepth 20000 in
theorem ggX5_turn_X4_size : GoodIn wsX5_turn wsX4_size := goodIn_r _ [14, 15, 51, 52] (by decide +kernel) (by decide +kernel)
set_option maxRecDepth 20000 in
theorem gX5_turn_X4_size : GoodIn wsX5_turn (wsV RX5 42 RX4 yX4_size wsX4_size) := goodIn_app (goodIn_of _ (by decide +kernel)) ggX5_turn_X4_size
set_option maxRecDepth 20000 in
theorem ggX5_turn_X4_clear : GoodIn wsX5_turn wsX4_clear := goodIn_r _ [19, 15, 51, 52] (by decide +kernel) (by decide +kernel)
set_option maxRecDepth 20000 in
theorem gX5_turn_X4_clear : GoodIn wsX5_turn (wsV RX5 60 RX4 yX4_clear wsX4_clear) := goodIn_app (goodIn_of _ (by decide +kernel)) ggX5_turn_X4_clear
set_option maxRecDepth 20000 in
theorem ggX5_turn_X4_addPart : GoodIn wsX5_turn wsX4_addPart := goodIn_ca (goodIn_r _ [23, 24, 25, 26, 13, 27, 15, 28, 29, 30, 31, 32, 51, 52] (by decide +kernel) (by decide +kernel)) (goodIn_sub (fun _ h => List.mem_cons_of_mem _ (List.mem_append_right _ h)) (by decide +kernel))
set_option maxRecDepth 20000 in
theorem gX5_turn_X4_addPart : GoodIn wsX5_turn (wsV RX5 67 RX4 yX4_addPart wsX4_addPart) := goodIn_app (goodIn_of _ (by decide +kernel)) ggX5_turn_X4_addPart
set_option maxRecDepth 20000 in
theorem ggX5_turn_X5_becomeBuilt : GoodIn wsX5_turn wsX5_becomeBuilt := goodIn_ca (goodIn_r _ [36, 3, 37, 38, 39, 13, 40, 41, 17, 18, 19, 15, 42, 43, 44, 45, 46, 21, 22, 23, 24, 25, 26, 27, 28, 29, 30, 31, 32, 10, 11, 12, 14, 47, 48, 49, 50, 51, 52] (by decide +kernel) (by decide +kernel)) (goodIn_sub (fun _ h => List.mem_cons_of_mem _ (List.mem_append_right _ h)) (by decide +kernel))
set_option maxRecDepth 20000 in
theorem gX5_turn_X5_becomeBuilt : GoodIn wsX5_turn (wsV RX5 79 RX5 yX5_becomeBuilt wsX5_becomeBuilt) := goodIn_app (goodIn_of _ (by decide +kernel)) ggX5_turn_X5_becomeBuilt
theorem dX5_turn_0 : decode cX5_turn 0 = .ok (.aload_n 0, 1) := by decide +kernel
theorem dX5_turn_1 : decode cX5_turn 1 = .ok (.iload_n 1, 1) := by decide +kernel
theorem dX5_turn_2 : decode cX5_turn 2 = .ok (.invokevirtual 34, 3) := by decide +kernel
theorem dX5_turn_5 : decode cX5_turn 5 = .ok (.astore 4, 2) := by decide +kernel
theorem dX5_turn_7 : decode cX5_turn 7 = .ok (.aload_n 0, 1) := by decide +kernel
theorem dX5_turn_8 : decode cX5_turn 8 = .ok (.iload_n 2, 1) := by decide +kernel
theorem dX5_turn_9 : decode cX5_turn 9 = .ok (.invokevirtual 34, 3) := by decide +kernel
theorem dX5_turn_12 : decode cX5_turn 12 = .ok (.astore 5, 2) := by decide +kernel
theorem dX5_turn_14 : decode cX5_turn 14 = .ok (.iload_n 3, 1) := by decide +kernel
theorem dX5_turn_15 : decode cX5_turn 15 = .ok (.ifCond .lt 12, 3) := by decide +kernel
theorem dX5_turn_18 : decode cX5_turn 18 = .ok (.iload_n 3, 1) := by decide +kernel
theorem dX5_turn_19 : decode cX5_turn 19 = .ok (.aload 5, 2) := by decide +kernel
theorem dX5_turn_21 : decode cX5_turn 21 = .ok (.invokevirtual 42, 3) := by decide +kernel
theorem dX5_turn_24 : decode cX5_turn 24 = .ok (.if_icmp .le 13, 3) := by decide +kernel
theorem dX5_turn_27 : decode cX5_turn 27 = .ok (.new 89, 3) := by decide +kernel
theorem dX5_turn_30 : decode cX5_turn 30 = .ok (.dup, 1) := by decide +kernel
theorem dX5_turn_31 : decode cX5_turn 31 = .ok (.ldc 98, 2) := by decide +kernel
theorem dX5_turn_33 : decode cX5_turn 33 = .ok (.invokespecial 93, 3) := by decide +kernel
theorem dX5_turn_36 : decode cX5_turn 36 = .ok (.athrow, 1) := by decide +kernel
theorem dX5_turn_37 : decode cX5_turn 37 = .ok (.aload_n 0, 1) := by decide +kernel
theorem dX5_turn_38 : decode cX5_turn 38 = .ok (.getfield 16, 3) := by decide +kernel
theorem dX5_turn_41 : decode cX5_turn 41 = .ok (.invokevirtual 60, 3) := by decide +kernel
theorem dX5_turn_44 : decode cX5_turn 44 = .ok (.aload_n 0, 1) := by decide +kernel
theorem dX5_turn_45 : decode cX5_turn 45 = .ok (.getfield 16, 3) := by decide +kernel
theorem dX5_turn_48 : decode cX5_turn 48 = .ok (.aload 5, 2) := by decide +kernel
theorem dX5_turn_50 : decode cX5_turn 50 = .ok (.iload_n 3, 1) := by decide +kernel
theorem dX5_turn_51 : decode cX5_turn 51 = .ok (.aload 5, 2) := by decide +kernel
theorem dX5_turn_53 : decode cX5_turn 53 = .ok (.invokevirtual 42, 3) := by decide +kernel
theorem dX5_turn_56 : decode cX5_turn 56 = .ok (.invokevirtual 67, 3) := by decide +kernel
theorem dX5_turn_59 : decode cX5_turn 59 = .ok (.aload_n 0, 1) := by decide +kernel
theorem dX5_turn_60 : decode cX5_turn 60 = .ok (.getfield 16, 3) := by decide +kernel
theorem dX5_turn_63 : decode cX5_turn 63 = .ok (.aload 5, 2) := by decide +kernel
theorem dX5_turn_65 : decode cX5_turn 65 = .ok (.iconst 0, 1) := by decide +kernel
theorem dX5_turn_66 : decode cX5_turn 66 = .ok (.iload_n 3, 1) := by decide +kernel
theorem dX5_turn_67 : decode cX5_turn 67 = .ok (.invokevirtual 67, 3) := by decide +kernel
theorem dX5_turn_70 : decode cX5_turn 70 = .ok (.aload_n 0, 1) := by decide +kernel
theorem dX5_turn_71 : decode cX5_turn 71 = .ok (.aload 4, 2) := by decide +kernel
theorem dX5_turn_73 : decode cX5_turn 73 = .ok (.invokevirtual 79, 3) := by decide +kernel
theorem dX5_turn_76 : decode cX5_turn 76 = .ok (.ireturn, 1) := by decide +kernel
set_option maxRecDepth 20000 in
theorem ggX5_back_X5_textOf : GoodIn wsX5_back wsX5_textOf := goodIn_ca (goodIn_r _ [6, 7, 8, 9, 48, 49, 50, 51] (by decide +kernel) (by decide +kernel)) (goodIn_sub (fun _ h => List.mem_cons_of_mem _ (List.mem_append_left _ (List.mem_append_right _ h))) (by decide +kernel))
set_option maxRecDepth 20000 in
theorem gX5_back_X5_textOf : GoodIn wsX5_back (wsV RX5 34 RX5 yX5_textOf wsX5_textOf) := goodIn_app (goodIn_of _ (by decide +kernel)) ggX5_back_X5_textOf
set_option maxRecDepth 20000 in
theorem ggX5_back_X4_clear : GoodIn wsX5_back wsX4_clear := goodIn_r _ [14, 15, 52, 53] (by decide +kernel) (by decide +kernel)
set_option maxRecDepth 20000 in
theorem gX5_back_X4_clear : GoodIn wsX5_back (wsV RX5 60 RX4 yX4_clear wsX4_clear) := goodIn_app (goodIn_of _ (by decide +kernel)) ggX5_back_X4_clear
set_option maxRecDepth 20000 in
theorem ggX5_back_X4_size : GoodIn wsX5_back wsX4_size := goodIn_r _ [19, 15, 52, 53] (by decide +kernel) (by decide +kernel)
set_option maxRecDepth 20000 in
theorem gX5_back_X4_size : GoodIn wsX5_back (wsV RX5 42 RX4 yX4_size wsX4_size) := goodIn_app (goodIn_of _ (by decide +kernel)) ggX5_back_X4_size
set_option maxRecDepth 20000 in
theorem ggX5_back_X4_signOn : GoodIn wsX5_back wsX4_signOn := goodIn_ca (goodIn_r _ [23, 15, 24, 52, 53] (by decide +kernel) (by decide +kernel)) (goodIn_sub (fun _ h => List.mem_cons_of_mem _ (List.mem_append_right _ h)) (by decide +kernel))
set_option maxRecDepth 20000 in
theorem gX5_back_X4_signOn : GoodIn wsX5_back (wsV RX5 63 RX4 yX4_signOn wsX4_signOn) := goodIn_app (goodIn_of _ (by decide +kernel)) ggX5_back_X4_signOn
set_option maxRecDepth 20000 in
theorem ggX5_back_X4_add : GoodIn wsX5_back wsX4_add := goodIn_ca (goodIn_r _ [28, 15, 24, 52, 53] (by decide +kernel) (by decide +kernel)) (goodIn_sub (fun _ h => List.mem_cons_of_mem _ (List.mem_append_right _ h)) (by decide +kernel))
set_option maxRecDepth 20000 in
theorem gX5_back_X4_add : GoodIn wsX5_back (wsV RX5 50 RX4 yX4_add wsX4_add) := goodIn_app (goodIn_of _ (by decide +kernel)) ggX5_back_X4_add
set_option maxRecDepth 20000 in
theorem ggX5_back_X5_becomeBuilt : GoodIn wsX5_back wsX5_becomeBuilt := goodIn_ca (goodIn_r _ [32, 1, 33, 34, 35, 13, 36, 37, 11, 12, 14, 15, 38, 39, 40, 41, 42, 43, 44, 45, 46, 21, 22, 23, 24, 47, 26, 27, 28, 16, 17, 18, 19, 48, 49, 50, 51, 52, 53] (by decide +kernel) (by decide +kernel)) (goodIn_sub (fun _ h => List.mem_cons_of_mem _ (List.mem_append_right _ h)) (by decide +kernel))
set_option maxRecDepth 20000 in
theorem gX5_back_X5_becomeBuilt : GoodIn wsX5_back (wsV RX5 79 RX5 yX5_becomeBuilt wsX5_becomeBuilt) := goodIn_app (goodIn_of _ (by decide +kernel)) ggX5_back_X5_becomeBuilt
theorem dX5_back_0 : decode cX5_back 0 = .ok (.aload_n 0, 1) := by decide +kernel
theorem dX5_back_1 : decode cX5_back 1 = .ok (.iload_n 1, 1) := by decide +kernel
theorem dX5_back_2 : decode cX5_back 2 = .ok (.invokevirtual 34, 3) := by decide +kernel
theorem dX5_back_5 : decode cX5_back 5 = .ok (.astore_n 3, 1) := by decide +kernel
theorem dX5_back_6 : decode cX5_back 6 = .ok (.aload_n 0, 1) := by decide +kernel
theorem dX5_back_7 : decode cX5_back 7 = .ok (.iload_n 2, 1) := by decide +kernel
theorem dX5_back_8 : decode cX5_back 8 = .ok (.invokevirtual 34, 3) := by decide +kernel
theorem dX5_back_11 : decode cX5_back 11 = .ok (.astore 4, 2) := by decide +kernel
theorem dX5_back_13 : decode cX5_back 13 = .ok (.aload_n 0, 1) := by decide +kernel
theorem dX5_back_14 : decode cX5_back 14 = .ok (.getfield 16, 3) := by decide +kernel
theorem dX5_back_17 : decode cX5_back 17 = .ok (.invokevirtual 60, 3) := by decide +kernel
theorem dX5_back_20 : decode cX5_back 20 = .ok (.aload 4, 2) := by decide +kernel
theorem dX5_back_22 : decode cX5_back 22 = .ok (.invokevirtual 42, 3) := by decide +kernel
theorem dX5_back_25 : decode cX5_back 25 = .ok (.iconst 1, 1) := by decide +kernel
theorem dX5_back_26 : decode cX5_back 26 = .ok (.isub, 1) := by decide +kernel
theorem dX5_back_27 : decode cX5_back 27 = .ok (.istore 5, 2) := by decide +kernel
theorem dX5_back_29 : decode cX5_back 29 = .ok (.iload 5, 2) := by decide +kernel
theorem dX5_back_31 : decode cX5_back 31 = .ok (.ifCond .lt 23, 3) := by decide +kernel
theorem dX5_back_34 : decode cX5_back 34 = .ok (.aload_n 0, 1) := by decide +kernel
theorem dX5_back_35 : decode cX5_back 35 = .ok (.getfield 16, 3) := by decide +kernel
theorem dX5_back_38 : decode cX5_back 38 = .ok (.aload 4, 2) := by decide +kernel
theorem dX5_back_40 : decode cX5_back 40 = .ok (.iload 5, 2) := by decide +kernel
theorem dX5_back_42 : decode cX5_back 42 = .ok (.invokevirtual 63, 3) := by decide +kernel
theorem dX5_back_45 : decode cX5_back 45 = .ok (.invokevirtual 50, 3) := by decide +kernel
theorem dX5_back_48 : decode cX5_back 48 = .ok (.iinc 5 (-1), 3) := by decide +kernel
theorem dX5_back_51 : decode cX5_back 51 = .ok (.goto (-22), 3) := by decide +kernel
theorem dX5_back_54 : decode cX5_back 54 = .ok (.aload_n 0, 1) := by decide +kernel
theorem dX5_back_55 : decode cX5_back 55 = .ok (.aload_n 3, 1) := by decide +kernel
theorem dX5_back_56 : decode cX5_back 56 = .ok (.invokevirtual 79, 3) := by decide +kernel
theorem dX5_back_59 : decode cX5_back 59 = .ok (.ireturn, 1) := by decide +kernel
set_option maxRecDepth 20000 in
theorem ggX5_put_X5_textOf : GoodIn wsX5_put wsX5_textOf := goodIn_ca (goodIn_r _ [5, 6, 7, 8, 85, 86, 87, 88] (by decide +kernel) (by decide +kernel)) (goodIn_sub (fun _ h => List.mem_cons_of_mem _ (List.mem_append_left _ (List.mem_append_left _ (List.mem_append_left _ (List.mem_append_right _ h))))) (by decide +kernel))
set_option maxRecDepth 20000 in
theorem gX5_put_X5_textOf : GoodIn wsX5_put (wsV RX5 34 RX5 yX5_textOf wsX5_textOf) := goodIn_app (goodIn_of _ (by decide +kernel)) ggX5_put_X5_textOf
set_option maxRecDepth 20000 in
theorem ggX5_put_X5_requireNotEmpty : GoodIn wsX5_put wsX5_requireNotEmpty := goodIn_ca (goodIn_r _ [11, 12, 13, 14, 15, 16, 17, 18, 19, 89, 90] (by decide +kernel) (by decide +kernel)) (goodIn_sub (fun _ h => List.mem_cons_of_mem _ (List.mem_append_left _ (List.mem_append_left _ (List.mem_append_right _ h)))) (by decide +kernel))
set_option maxRecDepth 20000 in
theorem gX5_put_X5_requireNotEmpty : GoodIn wsX5_put (va_wsS RX5 100 yX5_requireNotEmpty wsX5_requireNotEmpty) := goodIn_app (goodIn_of _ (by decide +kernel)) ggX5_put_X5_requireNotEmpty
set_option maxRecDepth 20000 in
theorem ggX5_put_X4_countOf : GoodIn wsX5_put wsX4_countOf := goodIn_ca (goodIn_r _ [23, 19, 24, 25, 26, 17, 27, 28, 29, 30, 31, 32, 33, 34, 35, 36, 37, 38, 39, 40, 89, 90] (by decide +kernel) (by decide +kernel)) (goodIn_sub (fun _ h => List.mem_cons_of_mem _ (List.mem_append_left _ (List.mem_append_right _ h))) (by decide +kernel))
set_option maxRecDepth 20000 in
theorem gX5_put_X4_countOf : GoodIn wsX5_put (wsV RX5 103 RX4 yX4_countOf wsX4_countOf) := goodIn_app (goodIn_of _ (by decide +kernel)) ggX5_put_X4_countOf
set_option maxRecDepth 20000 in
theorem ggX5_put_X4_size : GoodIn wsX5_put wsX4_size := goodIn_r _ [44, 19, 89, 90] (by decide +kernel) (by decide +kernel)
set_option maxRecDepth 20000 in
theorem gX5_put_X4_size : GoodIn wsX5_put (wsV RX5 42 RX4 yX4_size wsX4_size) := goodIn_app (goodIn_of _ (by decide +kernel)) ggX5_put_X4_size
set_option maxRecDepth 20000 in
theorem ggX5_put_X5_requireRoom : GoodIn wsX5_put wsX5_requireRoom := goodIn_ca (goodIn_r _ [47, 48, 49, 50] (by decide +kernel) (by decide +kernel)) (goodIn_sub (fun _ h => List.mem_cons_of_mem _ (List.mem_append_right _ h)) (by decide +kernel))
set_option maxRecDepth 20000 in
theorem gX5_put_X5_requireRoom : GoodIn wsX5_put (va_wsS RX5 46 yX5_requireRoom wsX5_requireRoom) := goodIn_app (goodIn_of _ (by decide +kernel)) ggX5_put_X5_requireRoom
set_option maxRecDepth 20000 in
theorem ggX5_put_X5_buildInstead : GoodIn wsX5_put wsX5_buildInstead := goodIn_ca (goodIn_r _ [54, 55, 56, 57, 58, 17, 59, 19, 41, 42, 43, 44, 60, 25, 26, 27, 28, 29, 30, 31, 32, 33, 34, 35, 36, 37, 38, 39, 40, 61, 62, 63, 64, 65, 66, 67, 68, 69, 70, 71, 72, 73, 74, 85, 86, 87, 88, 89, 90] (by decide +kernel) (by decide +kernel)) (goodIn_sub (fun _ h => List.mem_cons_of_mem _ (List.mem_append_left _ (List.mem_append_right _ h))) (by decide +kernel))
set_option maxRecDepth 20000 in
theorem gX5_put_X5_buildInstead : GoodIn wsX5_put (wsV RX5 107 RX5 yX5_buildInstead wsX5_buildInstead) := goodIn_app (goodIn_of _ (by decide +kernel)) ggX5_put_X5_buildInstead
set_option maxRecDepth 20000 in
theorem ggX5_put_X5_becomeBuilt : GoodIn wsX5_put wsX5_becomeBuilt := goodIn_ca (goodIn_r _ [78, 55, 79, 80, 81, 17, 82, 83, 57, 58, 59, 19, 84, 62, 63, 64, 65, 66, 67, 68, 36, 37, 38, 39, 40, 69, 70, 71, 72, 41, 42, 43, 44, 85, 86, 87, 88, 89, 90] (by decide +kernel) (by decide +kernel)) (goodIn_sub (fun _ h => List.mem_cons_of_mem _ (List.mem_append_left _ (List.mem_append_right _ h))) (by decide +kernel))
set_option maxRecDepth 20000 in
theorem gX5_put_X5_becomeBuilt : GoodIn wsX5_put (wsV RX5 79 RX5 yX5_becomeBuilt wsX5_becomeBuilt) := goodIn_app (goodIn_of _ (by decide +kernel)) ggX5_put_X5_becomeBuilt
theorem dX5_put_0 : decode cX5_put 0 = .ok (.aload_n 0, 1) := by decide +kernel
theorem dX5_put_1 : decode cX5_put 1 = .ok (.iload_n 1, 1) := by decide +kernel
theorem dX5_put_2 : decode cX5_put 2 = .ok (.invokevirtual 34, 3) := by decide +kernel
theorem dX5_put_5 : decode cX5_put 5 = .ok (.astore 5, 2) := by decide +kernel
theorem dX5_put_7 : decode cX5_put 7 = .ok (.aload_n 0, 1) := by decide +kernel
theorem dX5_put_8 : decode cX5_put 8 = .ok (.iload_n 2, 1) := by decide +kernel
theorem dX5_put_9 : decode cX5_put 9 = .ok (.invokevirtual 34, 3) := by decide +kernel
theorem dX5_put_12 : decode cX5_put 12 = .ok (.astore 6, 2) := by decide +kernel
theorem dX5_put_14 : decode cX5_put 14 = .ok (.aload_n 0, 1) := by decide +kernel
theorem dX5_put_15 : decode cX5_put 15 = .ok (.iload_n 3, 1) := by decide +kernel
theorem dX5_put_16 : decode cX5_put 16 = .ok (.invokevirtual 34, 3) := by decide +kernel
theorem dX5_put_19 : decode cX5_put 19 = .ok (.astore 7, 2) := by decide +kernel
theorem dX5_put_21 : decode cX5_put 21 = .ok (.aload_n 0, 1) := by decide +kernel
theorem dX5_put_22 : decode cX5_put 22 = .ok (.iload 4, 2) := by decide +kernel
theorem dX5_put_24 : decode cX5_put 24 = .ok (.invokevirtual 34, 3) := by decide +kernel
theorem dX5_put_27 : decode cX5_put 27 = .ok (.astore 8, 2) := by decide +kernel
theorem dX5_put_29 : decode cX5_put 29 = .ok (.aload 7, 2) := by decide +kernel
theorem dX5_put_31 : decode cX5_put 31 = .ok (.invokestatic 100, 3) := by decide +kernel
theorem dX5_put_34 : decode cX5_put 34 = .ok (.aload 6, 2) := by decide +kernel
theorem dX5_put_36 : decode cX5_put 36 = .ok (.aload 7, 2) := by decide +kernel
theorem dX5_put_38 : decode cX5_put 38 = .ok (.iconst 1, 1) := by decide +kernel
theorem dX5_put_39 : decode cX5_put 39 = .ok (.invokevirtual 103, 3) := by decide +kernel
theorem dX5_put_42 : decode cX5_put 42 = .ok (.istore 9, 2) := by decide +kernel
theorem dX5_put_44 : decode cX5_put 44 = .ok (.aload 6, 2) := by decide +kernel
theorem dX5_put_46 : decode cX5_put 46 = .ok (.invokevirtual 42, 3) := by decide +kernel
theorem dX5_put_49 : decode cX5_put 49 = .ok (.iload 9, 2) := by decide +kernel
theorem dX5_put_51 : decode cX5_put 51 = .ok (.aload 8, 2) := by decide +kernel
theorem dX5_put_53 : decode cX5_put 53 = .ok (.invokevirtual 42, 3) := by decide +kernel
theorem dX5_put_56 : decode cX5_put 56 = .ok (.aload 7, 2) := by decide +kernel
theorem dX5_put_58 : decode cX5_put 58 = .ok (.invokevirtual 42, 3) := by decide +kernel
theorem dX5_put_61 : decode cX5_put 61 = .ok (.isub, 1) := by decide +kernel
theorem dX5_put_62 : decode cX5_put 62 = .ok (.imul, 1) := by decide +kernel
theorem dX5_put_63 : decode cX5_put 63 = .ok (.iadd, 1) := by decide +kernel
theorem dX5_put_64 : decode cX5_put 64 = .ok (.i2l, 1) := by decide +kernel
theorem dX5_put_65 : decode cX5_put 65 = .ok (.invokestatic 46, 3) := by decide +kernel
theorem dX5_put_68 : decode cX5_put 68 = .ok (.aload_n 0, 1) := by decide +kernel
theorem dX5_put_69 : decode cX5_put 69 = .ok (.aload 6, 2) := by decide +kernel
theorem dX5_put_71 : decode cX5_put 71 = .ok (.aload 7, 2) := by decide +kernel
theorem dX5_put_73 : decode cX5_put 73 = .ok (.aload 8, 2) := by decide +kernel
theorem dX5_put_75 : decode cX5_put 75 = .ok (.invokevirtual 107, 3) := by decide +kernel
theorem dX5_put_78 : decode cX5_put 78 = .ok (.aload_n 0, 1) := by decide +kernel
theorem dX5_put_79 : decode cX5_put 79 = .ok (.aload 5, 2) := by decide +kernel
theorem dX5_put_81 : decode cX5_put 81 = .ok (.invokevirtual 79, 3) := by decide +kernel
theorem dX5_put_84 : decode cX5_put 84 = .ok (.ireturn, 1) := by decide +kernel
set_option maxRecDepth 20000 in
theorem ggX5_first_X5_textOf : GoodIn wsX5_first wsX5_textOf := goodIn_ca (goodIn_r _ [12, 13, 14, 15, 36, 37, 38, 39] (by decide +kernel) (by decide +kernel)) (goodIn_sub (fun _ h => List.mem_cons_of_mem _ (List.mem_append_left _ (List.mem_append_right _ h))) (by decide +kernel))
set_option maxRecDepth 20000 in
theorem gX5_first_X5_textOf : GoodIn wsX5_first (wsV RX5 34 RX5 yX5_textOf wsX5_textOf) := goodIn_app (goodIn_of _ (by decide +kernel)) ggX5_first_X5_textOf
set_option maxRecDepth 20000 in
theorem ggX5_first_X4_size : GoodIn wsX5_first wsX4_size := goodIn_r _ [20, 21, 40, 41] (by decide +kernel) (by decide +kernel)
set_option maxRecDepth 20000 in
theorem gX5_first_X4_size : GoodIn wsX5_first (wsV RX5 42 RX4 yX4_size wsX4_size) := goodIn_app (goodIn_of _ (by decide +kernel)) ggX5_first_X4_size
set_option maxRecDepth 20000 in
theorem ggX5_first_X4_hasAt : GoodIn wsX5_first wsX4_hasAt := goodIn_ca (goodIn_r _ [25, 21, 26, 27, 28, 19, 29, 30, 2, 3, 4, 31, 32, 33, 34, 35, 40, 41] (by decide +kernel) (by decide +kernel)) (goodIn_sub (fun _ h => List.mem_cons_of_mem _ (List.mem_append_right _ h)) (by decide +kernel))
set_option maxRecDepth 20000 in
theorem gX5_first_X4_hasAt : GoodIn wsX5_first (wsV RX5 120 RX4 yX4_hasAt wsX4_hasAt) := goodIn_app (goodIn_of _ (by decide +kernel)) ggX5_first_X4_hasAt
theorem dX5_first_0 : decode cX5_first 0 = .ok (.aload_n 0, 1) := by decide +kernel
theorem dX5_first_1 : decode cX5_first 1 = .ok (.iload_n 1, 1) := by decide +kernel
theorem dX5_first_2 : decode cX5_first 2 = .ok (.invokevirtual 34, 3) := by decide +kernel
theorem dX5_first_5 : decode cX5_first 5 = .ok (.astore 4, 2) := by decide +kernel
theorem dX5_first_7 : decode cX5_first 7 = .ok (.aload_n 0, 1) := by decide +kernel
theorem dX5_first_8 : decode cX5_first 8 = .ok (.iload_n 2, 1) := by decide +kernel
theorem dX5_first_9 : decode cX5_first 9 = .ok (.invokevirtual 34, 3) := by decide +kernel
theorem dX5_first_12 : decode cX5_first 12 = .ok (.astore 5, 2) := by decide +kernel
theorem dX5_first_14 : decode cX5_first 14 = .ok (.aload 4, 2) := by decide +kernel
theorem dX5_first_16 : decode cX5_first 16 = .ok (.invokevirtual 42, 3) := by decide +kernel
theorem dX5_first_19 : decode cX5_first 19 = .ok (.aload 5, 2) := by decide +kernel
theorem dX5_first_21 : decode cX5_first 21 = .ok (.invokevirtual 42, 3) := by decide +kernel
theorem dX5_first_24 : decode cX5_first 24 = .ok (.isub, 1) := by decide +kernel
theorem dX5_first_25 : decode cX5_first 25 = .ok (.istore 6, 2) := by decide +kernel
theorem dX5_first_27 : decode cX5_first 27 = .ok (.iconst 0, 1) := by decide +kernel
theorem dX5_first_28 : decode cX5_first 28 = .ok (.iload_n 3, 1) := by decide +kernel
theorem dX5_first_29 : decode cX5_first 29 = .ok (.aload 4, 2) := by decide +kernel
theorem dX5_first_31 : decode cX5_first 31 = .ok (.invokevirtual 42, 3) := by decide +kernel
theorem dX5_first_34 : decode cX5_first 34 = .ok (.invokestatic 111, 3) := by decide +kernel
theorem dX5_first_37 : decode cX5_first 37 = .ok (.invokestatic 117, 3) := by decide +kernel
theorem dX5_first_40 : decode cX5_first 40 = .ok (.istore 7, 2) := by decide +kernel
theorem dX5_first_42 : decode cX5_first 42 = .ok (.iload 7, 2) := by decide +kernel
theorem dX5_first_44 : decode cX5_first 44 = .ok (.iload 6, 2) := by decide +kernel
theorem dX5_first_46 : decode cX5_first 46 = .ok (.if_icmp .gt 24, 3) := by decide +kernel
theorem dX5_first_49 : decode cX5_first 49 = .ok (.aload 4, 2) := by decide +kernel
theorem dX5_first_51 : decode cX5_first 51 = .ok (.iload 7, 2) := by decide +kernel
theorem dX5_first_53 : decode cX5_first 53 = .ok (.aload 5, 2) := by decide +kernel
theorem dX5_first_55 : decode cX5_first 55 = .ok (.invokevirtual 120, 3) := by decide +kernel
theorem dX5_first_58 : decode cX5_first 58 = .ok (.ifCond .eq 6, 3) := by decide +kernel
theorem dX5_first_61 : decode cX5_first 61 = .ok (.iload 7, 2) := by decide +kernel
theorem dX5_first_63 : decode cX5_first 63 = .ok (.ireturn, 1) := by decide +kernel
theorem dX5_first_64 : decode cX5_first 64 = .ok (.iinc 7 1, 3) := by decide +kernel
theorem dX5_first_67 : decode cX5_first 67 = .ok (.goto (-25), 3) := by decide +kernel
theorem dX5_first_70 : decode cX5_first 70 = .ok (.iconst (-1), 1) := by decide +kernel
theorem dX5_first_71 : decode cX5_first 71 = .ok (.ireturn, 1) := by decide +kernel
set_option maxRecDepth 20000 in
theorem ggX5_last_X5_textOf : GoodIn wsX5_last wsX5_textOf := goodIn_ca (goodIn_r _ [9, 10, 11, 12, 33, 34, 35, 36] (by decide +kernel) (by decide +kernel)) (goodIn_sub (fun _ h => List.mem_cons_of_mem _ (List.mem_append_left _ (List.mem_append_right _ h))) (by decide +kernel))
set_option maxRecDepth 20000 in
theorem gX5_last_X5_textOf : GoodIn wsX5_last (wsV RX5 34 RX5 yX5_textOf wsX5_textOf) := goodIn_app (goodIn_of _ (by decide +kernel)) ggX5_last_X5_textOf
set_option maxRecDepth 20000 in
theorem ggX5_last_X4_size : GoodIn wsX5_last wsX4_size := goodIn_r _ [17, 18, 37, 38] (by decide +kernel) (by decide +kernel)
set_option maxRecDepth 20000 in
theorem gX5_last_X4_size : GoodIn wsX5_last (wsV RX5 42 RX4 yX4_size wsX4_size) := goodIn_app (goodIn_of _ (by decide +kernel)) ggX5_last_X4_size
set_option maxRecDepth 20000 in
theorem ggX5_last_X4_hasAt : GoodIn wsX5_last wsX4_hasAt := goodIn_ca (goodIn_r _ [22, 18, 23, 24, 25, 16, 26, 27, 2, 3, 4, 28, 29, 30, 31, 32, 37, 38] (by decide +kernel) (by decide +kernel)) (goodIn_sub (fun _ h => List.mem_cons_of_mem _ (List.mem_append_right _ h)) (by decide +kernel))
set_option maxRecDepth 20000 in
theorem gX5_last_X4_hasAt : GoodIn wsX5_last (wsV RX5 120 RX4 yX4_hasAt wsX4_hasAt) := goodIn_app (goodIn_of _ (by decide +kernel)) ggX5_last_X4_hasAt
theorem dX5_last_0 : decode cX5_last 0 = .ok (.aload_n 0, 1) := by decide +kernel
theorem dX5_last_1 : decode cX5_last 1 = .ok (.iload_n 1, 1) := by decide +kernel
theorem dX5_last_2 : decode cX5_last 2 = .ok (.invokevirtual 34, 3) := by decide +kernel
theorem dX5_last_5 : decode cX5_last 5 = .ok (.astore 4, 2) := by decide +kernel
theorem dX5_last_7 : decode cX5_last 7 = .ok (.aload_n 0, 1) := by decide +kernel
theorem dX5_last_8 : decode cX5_last 8 = .ok (.iload_n 2, 1) := by decide +kernel
theorem dX5_last_9 : decode cX5_last 9 = .ok (.invokevirtual 34, 3) := by decide +kernel
theorem dX5_last_12 : decode cX5_last 12 = .ok (.astore 5, 2) := by decide +kernel
theorem dX5_last_14 : decode cX5_last 14 = .ok (.iload_n 3, 1) := by decide +kernel
theorem dX5_last_15 : decode cX5_last 15 = .ok (.aload 4, 2) := by decide +kernel
theorem dX5_last_17 : decode cX5_last 17 = .ok (.invokevirtual 42, 3) := by decide +kernel
theorem dX5_last_20 : decode cX5_last 20 = .ok (.aload 5, 2) := by decide +kernel
theorem dX5_last_22 : decode cX5_last 22 = .ok (.invokevirtual 42, 3) := by decide +kernel
theorem dX5_last_25 : decode cX5_last 25 = .ok (.isub, 1) := by decide +kernel
theorem dX5_last_26 : decode cX5_last 26 = .ok (.invokestatic 111, 3) := by decide +kernel
theorem dX5_last_29 : decode cX5_last 29 = .ok (.istore 6, 2) := by decide +kernel
theorem dX5_last_31 : decode cX5_last 31 = .ok (.iload 6, 2) := by decide +kernel
theorem dX5_last_33 : decode cX5_last 33 = .ok (.ifCond .lt 24, 3) := by decide +kernel
theorem dX5_last_36 : decode cX5_last 36 = .ok (.aload 4, 2) := by decide +kernel
theorem dX5_last_38 : decode cX5_last 38 = .ok (.iload 6, 2) := by decide +kernel
theorem dX5_last_40 : decode cX5_last 40 = .ok (.aload 5, 2) := by decide +kernel
theorem dX5_last_42 : decode cX5_last 42 = .ok (.invokevirtual 120, 3) := by decide +kernel
theorem dX5_last_45 : decode cX5_last 45 = .ok (.ifCond .eq 6, 3) := by decide +kernel
theorem dX5_last_48 : decode cX5_last 48 = .ok (.iload 6, 2) := by decide +kernel
theorem dX5_last_50 : decode cX5_last 50 = .ok (.ireturn, 1) := by decide +kernel
theorem dX5_last_51 : decode cX5_last 51 = .ok (.iinc 6 (-1), 3) := by decide +kernel
theorem dX5_last_54 : decode cX5_last 54 = .ok (.goto (-23), 3) := by decide +kernel
theorem dX5_last_57 : decode cX5_last 57 = .ok (.iconst (-1), 1) := by decide +kernel
theorem dX5_last_58 : decode cX5_last 58 = .ok (.ireturn, 1) := by decide +kernel
set_option maxRecDepth 20000 in
theorem ggX5_many_X5_textOf : GoodIn wsX5_many wsX5_textOf := goodIn_ca (goodIn_r _ [5, 6, 7, 8, 41, 42, 43, 44] (by decide +kernel) (by decide +kernel)) (goodIn_sub (fun _ h => List.mem_cons_of_mem _ (List.mem_append_left _ (List.mem_append_left _ (List.mem_append_right _ h)))) (by decide +kernel))
set_option maxRecDepth 20000 in
theorem gX5_many_X5_textOf : GoodIn wsX5_many (wsV RX5 34 RX5 yX5_textOf wsX5_textOf) := goodIn_app (goodIn_of _ (by decide +kernel)) ggX5_many_X5_textOf
set_option maxRecDepth 20000 in
theorem ggX5_many_X5_requireNotEmpty : GoodIn wsX5_many wsX5_requireNotEmpty := goodIn_ca (goodIn_r _ [11, 12, 13, 14, 15, 16, 17, 18, 19, 45, 46] (by decide +kernel) (by decide +kernel)) (goodIn_sub (fun _ h => List.mem_cons_of_mem _ (List.mem_append_left _ (List.mem_append_right _ h))) (by decide +kernel))
set_option maxRecDepth 20000 in
theorem gX5_many_X5_requireNotEmpty : GoodIn wsX5_many (va_wsS RX5 100 yX5_requireNotEmpty wsX5_requireNotEmpty) := goodIn_app (goodIn_of _ (by decide +kernel)) ggX5_many_X5_requireNotEmpty
set_option maxRecDepth 20000 in
theorem ggX5_many_X4_countOf : GoodIn wsX5_many wsX4_countOf := goodIn_ca (goodIn_r _ [23, 19, 24, 25, 26, 17, 27, 28, 29, 30, 31, 32, 33, 34, 35, 36, 37, 38, 39, 40, 45, 46] (by decide +kernel) (by decide +kernel)) (goodIn_sub (fun _ h => List.mem_cons_of_mem _ (List.mem_append_right _ h)) (by decide +kernel))
set_option maxRecDepth 20000 in
theorem gX5_many_X4_countOf : GoodIn wsX5_many (wsV RX5 103 RX4 yX4_countOf wsX4_countOf) := goodIn_app (goodIn_of _ (by decide +kernel)) ggX5_many_X4_countOf
theorem dX5_many_0 : decode cX5_many 0 = .ok (.aload_n 0, 1) := by decide +kernel
theorem dX5_many_1 : decode cX5_many 1 = .ok (.iload_n 1, 1) := by decide +kernel
theorem dX5_many_2 : decode cX5_many 2 = .ok (.invokevirtual 34, 3) := by decide +kernel
theorem dX5_many_5 : decode cX5_many 5 = .ok (.astore 4, 2) := by decide +kernel
theorem dX5_many_7 : decode cX5_many 7 = .ok (.aload_n 0, 1) := by decide +kernel
theorem dX5_many_8 : decode cX5_many 8 = .ok (.iload_n 2, 1) := by decide +kernel
theorem dX5_many_9 : decode cX5_many 9 = .ok (.invokevirtual 34, 3) := by decide +kernel
theorem dX5_many_12 : decode cX5_many 12 = .ok (.astore 5, 2) := by decide +kernel
theorem dX5_many_14 : decode cX5_many 14 = .ok (.aload 5, 2) := by decide +kernel
theorem dX5_many_16 : decode cX5_many 16 = .ok (.invokestatic 100, 3) := by decide +kernel
theorem dX5_many_19 : decode cX5_many 19 = .ok (.aload 4, 2) := by decide +kernel
theorem dX5_many_21 : decode cX5_many 21 = .ok (.aload 5, 2) := by decide +kernel
theorem dX5_many_23 : decode cX5_many 23 = .ok (.iload_n 3, 1) := by decide +kernel
theorem dX5_many_24 : decode cX5_many 24 = .ok (.invokevirtual 103, 3) := by decide +kernel
theorem dX5_many_27 : decode cX5_many 27 = .ok (.ireturn, 1) := by decide +kernel
set_option maxRecDepth 20000 in
theorem ggX5_isSame_X5_textOf : GoodIn wsX5_isSame wsX5_textOf := goodIn_ca (goodIn_r _ [5, 6, 7, 8, 28, 29, 30, 31] (by decide +kernel) (by decide +kernel)) (goodIn_sub (fun _ h => List.mem_cons_of_mem _ (List.mem_append_left _ (List.mem_append_right _ h))) (by decide +kernel))
set_option maxRecDepth 20000 in
theorem gX5_isSame_X5_textOf : GoodIn wsX5_isSame (wsV RX5 34 RX5 yX5_textOf wsX5_textOf) := goodIn_app (goodIn_of _ (by decide +kernel)) ggX5_isSame_X5_textOf
set_option maxRecDepth 20000 in
theorem ggX5_isSame_X4_compareWith : GoodIn wsX5_isSame wsX4_compareWith := goodIn_ca (goodIn_r _ [13, 14, 15, 16, 17, 12, 18, 19, 20, 21, 22, 23, 24, 25, 26, 27, 32, 33] (by decide +kernel) (by decide +kernel)) (goodIn_sub (fun _ h => List.mem_cons_of_mem _ (List.mem_append_right _ h)) (by decide +kernel))
set_option maxRecDepth 20000 in
theorem gX5_isSame_X4_compareWith : GoodIn wsX5_isSame (wsV RX5 124 RX4 yX4_compareWith wsX4_compareWith) := goodIn_app (goodIn_of _ (by decide +kernel)) ggX5_isSame_X4_compareWith
theorem dX5_isSame_0 : decode cX5_isSame 0 = .ok (.aload_n 0, 1) := by decide +kernel
theorem dX5_isSame_1 : decode cX5_isSame 1 = .ok (.iload_n 1, 1) := by decide +kernel
theorem dX5_isSame_2 : decode cX5_isSame 2 = .ok (.invokevirtual 34, 3) := by decide +kernel
theorem dX5_isSame_5 : decode cX5_isSame 5 = .ok (.aload_n 0, 1) := by decide +kernel
theorem dX5_isSame_6 : decode cX5_isSame 6 = .ok (.iload_n 2, 1) := by decide +kernel
theorem dX5_isSame_7 : decode cX5_isSame 7 = .ok (.invokevirtual 34, 3) := by decide +kernel
theorem dX5_isSame_10 : decode cX5_isSame 10 = .ok (.invokevirtual 124, 3) := by decide +kernel
theorem dX5_isSame_13 : decode cX5_isSame 13 = .ok (.ifCond .ne 7, 3) := by decide +kernel
theorem dX5_isSame_16 : decode cX5_isSame 16 = .ok (.iconst 1, 1) := by decide +kernel
theorem dX5_isSame_17 : decode cX5_isSame 17 = .ok (.goto 4, 3) := by decide +kernel
theorem dX5_isSame_20 : decode cX5_isSame 20 = .ok (.iconst 0, 1) := by decide +kernel
theorem dX5_isSame_21 : decode cX5_isSame 21 = .ok (.ireturn, 1) := by decide +kernel
set_option maxRecDepth 20000 in
theorem ggX5_compare_X5_textOf : GoodIn wsX5_compare wsX5_textOf := goodIn_ca (goodIn_r _ [5, 6, 7, 8, 28, 29, 30, 31] (by decide +kernel) (by decide +kernel)) (goodIn_sub (fun _ h => List.mem_cons_of_mem _ (List.mem_append_left _ (List.mem_append_right _ h))) (by decide +kernel))
set_option maxRecDepth 20000 in
theorem gX5_compare_X5_textOf : GoodIn wsX5_compare (wsV RX5 34 RX5 yX5_textOf wsX5_textOf) := goodIn_app (goodIn_of _ (by decide +kernel)) ggX5_compare_X5_textOf
set_option maxRecDepth 20000 in
theorem ggX5_compare_X4_compareWith : GoodIn wsX5_compare wsX4_compareWith := goodIn_ca (goodIn_r _ [13, 14, 15, 16, 17, 12, 18, 19, 20, 21, 22, 23, 24, 25, 26, 27, 32, 33] (by decide +kernel) (by decide +kernel)) (goodIn_sub (fun _ h => List.mem_cons_of_mem _ (List.mem_append_right _ h)) (by decide +kernel))
set_option maxRecDepth 20000 in
theorem gX5_compare_X4_compareWith : GoodIn wsX5_compare (wsV RX5 124 RX4 yX4_compareWith wsX4_compareWith) := goodIn_app (goodIn_of _ (by decide +kernel)) ggX5_compare_X4_compareWith
theorem dX5_compare_0 : decode cX5_compare 0 = .ok (.aload_n 0, 1) := by decide +kernel
theorem dX5_compare_1 : decode cX5_compare 1 = .ok (.iload_n 1, 1) := by decide +kernel
theorem dX5_compare_2 : decode cX5_compare 2 = .ok (.invokevirtual 34, 3) := by decide +kernel
theorem dX5_compare_5 : decode cX5_compare 5 = .ok (.aload_n 0, 1) := by decide +kernel
theorem dX5_compare_6 : decode cX5_compare 6 = .ok (.iload_n 2, 1) := by decide +kernel
theorem dX5_compare_7 : decode cX5_compare 7 = .ok (.invokevirtual 34, 3) := by decide +kernel
theorem dX5_compare_10 : decode cX5_compare 10 = .ok (.invokevirtual 124, 3) := by decide +kernel
theorem dX5_compare_13 : decode cX5_compare 13 = .ok (.ireturn, 1) := by decide +kernel
set_option maxRecDepth 20000 in
theorem ggX5_common_X5_textOf : GoodIn wsX5_common wsX5_textOf := goodIn_ca (goodIn_r _ [5, 6, 7, 8, 24, 25, 26, 27] (by decide +kernel) (by decide +kernel)) (goodIn_sub (fun _ h => List.mem_cons_of_mem _ (List.mem_append_left _ (List.mem_append_right _ h))) (by decide +kernel))
set_option maxRecDepth 20000 in
theorem gX5_common_X5_textOf : GoodIn wsX5_common (wsV RX5 34 RX5 yX5_textOf wsX5_textOf) := goodIn_app (goodIn_of _ (by decide +kernel)) ggX5_common_X5_textOf
set_option maxRecDepth 20000 in
theorem ggX5_common_X4_alike : GoodIn wsX5_common wsX4_alike := goodIn_ca (goodIn_r _ [13, 14, 15, 16, 17, 18, 19, 20, 21, 12, 22, 23, 28, 29] (by decide +kernel) (by decide +kernel)) (goodIn_sub (fun _ h => List.mem_cons_of_mem _ (List.mem_append_right _ h)) (by decide +kernel))
set_option maxRecDepth 20000 in
theorem gX5_common_X4_alike : GoodIn wsX5_common (wsV RX5 127 RX4 yX4_alike wsX4_alike) := goodIn_app (goodIn_of _ (by decide +kernel)) ggX5_common_X4_alike
theorem dX5_common_0 : decode cX5_common 0 = .ok (.aload_n 0, 1) := by decide +kernel
theorem dX5_common_1 : decode cX5_common 1 = .ok (.iload_n 1, 1) := by decide +kernel
theorem dX5_common_2 : decode cX5_common 2 = .ok (.invokevirtual 34, 3) := by decide +kernel
theorem dX5_common_5 : decode cX5_common 5 = .ok (.iconst 0, 1) := by decide +kernel
theorem dX5_common_6 : decode cX5_common 6 = .ok (.aload_n 0, 1) := by decide +kernel
theorem dX5_common_7 : decode cX5_common 7 = .ok (.iload_n 2, 1) := by decide +kernel
theorem dX5_common_8 : decode cX5_common 8 = .ok (.invokevirtual 34, 3) := by decide +kernel
theorem dX5_common_11 : decode cX5_common 11 = .ok (.iconst 0, 1) := by decide +kernel
theorem dX5_common_12 : decode cX5_common 12 = .ok (.invokevirtual 127, 3) := by decide +kernel
theorem dX5_common_15 : decode cX5_common 15 = .ok (.ireturn, 1) := by decide +kernel
set_option maxRecDepth 20000 in
theorem ggX5_commonEnd_X5_textOf : GoodIn wsX5_commonEnd wsX5_textOf := goodIn_ca (goodIn_r _ [5, 6, 7, 8, 24, 25, 26, 27] (by decide +kernel) (by decide +kernel)) (goodIn_sub (fun _ h => List.mem_cons_of_mem _ (List.mem_append_left _ (List.mem_append_right _ h))) (by decide +kernel))
set_option maxRecDepth 20000 in
theorem gX5_commonEnd_X5_textOf : GoodIn wsX5_commonEnd (wsV RX5 34 RX5 yX5_textOf wsX5_textOf) := goodIn_app (goodIn_of _ (by decide +kernel)) ggX5_commonEnd_X5_textOf
set_option maxRecDepth 20000 in
theorem ggX5_commonEnd_X4_alikeAtEnd : GoodIn wsX5_commonEnd wsX4_alikeAtEnd := goodIn_ca (goodIn_r _ [13, 14, 15, 16, 17, 18, 19, 20, 21, 12, 22, 23, 28, 29] (by decide +kernel) (by decide +kernel)) (goodIn_sub (fun _ h => List.mem_cons_of_mem _ (List.mem_append_right _ h)) (by decide +kernel))
set_option maxRecDepth 20000 in
theorem gX5_commonEnd_X4_alikeAtEnd : GoodIn wsX5_commonEnd (wsV RX5 131 RX4 yX4_alikeAtEnd wsX4_alikeAtEnd) := goodIn_app (goodIn_of _ (by decide +kernel)) ggX5_commonEnd_X4_alikeAtEnd
theorem dX5_commonEnd_0 : decode cX5_commonEnd 0 = .ok (.aload_n 0, 1) := by decide +kernel
theorem dX5_commonEnd_1 : decode cX5_commonEnd 1 = .ok (.iload_n 1, 1) := by decide +kernel
theorem dX5_commonEnd_2 : decode cX5_commonEnd 2 = .ok (.invokevirtual 34, 3) := by decide +kernel
theorem dX5_commonEnd_5 : decode cX5_commonEnd 5 = .ok (.aload_n 0, 1) := by decide +kernel
theorem dX5_commonEnd_6 : decode cX5_commonEnd 6 = .ok (.iload_n 2, 1) := by decide +kernel
theorem dX5_commonEnd_7 : decode cX5_commonEnd 7 = .ok (.invokevirtual 34, 3) := by decide +kernel
theorem dX5_commonEnd_10 : decode cX5_commonEnd 10 = .ok (.invokevirtual 131, 3) := by decide +kernel
theorem dX5_commonEnd_13 : decode cX5_commonEnd 13 = .ok (.ireturn, 1) := by decide +kernel
set_option maxRecDepth 20000 in
theorem ggX5_hash_X5_textOf : GoodIn wsX5_hash wsX5_textOf := goodIn_ca (goodIn_r _ [5, 6, 7, 8, 20, 21, 22, 23] (by decide +kernel) (by decide +kernel)) (goodIn_sub (fun _ h => List.mem_cons_of_mem _ (List.mem_append_left _ (List.mem_append_right _ h))) (by decide +kernel))
set_option maxRecDepth 20000 in
theorem gX5_hash_X5_textOf : GoodIn wsX5_hash (wsV RX5 34 RX5 yX5_textOf wsX5_textOf) := goodIn_app (goodIn_of _ (by decide +kernel)) ggX5_hash_X5_textOf
set_option maxRecDepth 20000 in
theorem ggX5_hash_X4_hashFrom : GoodIn wsX5_hash wsX4_hashFrom := goodIn_ca (goodIn_r _ [13, 14, 15, 16, 17, 12, 18, 19, 24, 25] (by decide +kernel) (by decide +kernel)) (goodIn_sub (fun _ h => List.mem_cons_of_mem _ (List.mem_append_right _ h)) (by decide +kernel))
set_option maxRecDepth 20000 in
theorem gX5_hash_X4_hashFrom : GoodIn wsX5_hash (wsV RX5 134 RX4 yX4_hashFrom wsX4_hashFrom) := goodIn_app (goodIn_of _ (by decide +kernel)) ggX5_hash_X4_hashFrom
theorem dX5_hash_0 : decode cX5_hash 0 = .ok (.aload_n 0, 1) := by decide +kernel
theorem dX5_hash_1 : decode cX5_hash 1 = .ok (.iload_n 1, 1) := by decide +kernel
theorem dX5_hash_2 : decode cX5_hash 2 = .ok (.invokevirtual 34, 3) := by decide +kernel
theorem dX5_hash_5 : decode cX5_hash 5 = .ok (.iconst 0, 1) := by decide +kernel
theorem dX5_hash_6 : decode cX5_hash 6 = .ok (.invokevirtual 134, 3) := by decide +kernel
theorem dX5_hash_9 : decode cX5_hash 9 = .ok (.ireturn, 1) := by decide +kernel
set_option maxRecDepth 20000 in
theorem ggX5_hashJoined_X5_textOf : GoodIn wsX5_hashJoined wsX5_textOf := goodIn_ca (goodIn_r _ [5, 6, 7, 8, 20, 21, 22, 23] (by decide +kernel) (by decide +kernel)) (goodIn_sub (fun _ h => List.mem_cons_of_mem _ (List.mem_append_left _ (List.mem_append_right _ h))) (by decide +kernel))
set_option maxRecDepth 20000 in
theorem gX5_hashJoined_X5_textOf : GoodIn wsX5_hashJoined (wsV RX5 34 RX5 yX5_textOf wsX5_textOf) := goodIn_app (goodIn_of _ (by decide +kernel)) ggX5_hashJoined_X5_textOf
set_option maxRecDepth 20000 in
theorem ggX5_hashJoined_X4_hashFrom : GoodIn wsX5_hashJoined wsX4_hashFrom := goodIn_ca (goodIn_r _ [13, 14, 15, 16, 17, 12, 18, 19, 24, 25] (by decide +kernel) (by decide +kernel)) (goodIn_sub (fun _ h => List.mem_cons_of_mem _ (List.mem_append_right _ h)) (by decide +kernel))
set_option maxRecDepth 20000 in
theorem gX5_hashJoined_X4_hashFrom : GoodIn wsX5_hashJoined (wsV RX5 134 RX4 yX4_hashFrom wsX4_hashFrom) := goodIn_app (goodIn_of _ (by decide +kernel)) ggX5_hashJoined_X4_hashFrom
theorem dX5_hashJoined_0 : decode cX5_hashJoined 0 = .ok (.aload_n 0, 1) := by decide +kernel
theorem dX5_hashJoined_1 : decode cX5_hashJoined 1 = .ok (.iload_n 1, 1) := by decide +kernel
theorem dX5_hashJoined_2 : decode cX5_hashJoined 2 = .ok (.invokevirtual 34, 3) := by decide +kernel
theorem dX5_hashJoined_5 : decode cX5_hashJoined 5 = .ok (.astore_n 3, 1) := by decide +kernel
theorem dX5_hashJoined_6 : decode cX5_hashJoined 6 = .ok (.aload_n 0, 1) := by decide +kernel
theorem dX5_hashJoined_7 : decode cX5_hashJoined 7 = .ok (.iload_n 2, 1) := by decide +kernel
theorem dX5_hashJoined_8 : decode cX5_hashJoined 8 = .ok (.invokevirtual 34, 3) := by decide +kernel
theorem dX5_hashJoined_11 : decode cX5_hashJoined 11 = .ok (.astore 4, 2) := by decide +kernel
theorem dX5_hashJoined_13 : decode cX5_hashJoined 13 = .ok (.aload 4, 2) := by decide +kernel
theorem dX5_hashJoined_15 : decode cX5_hashJoined 15 = .ok (.aload_n 3, 1) := by decide +kernel
theorem dX5_hashJoined_16 : decode cX5_hashJoined 16 = .ok (.iconst 0, 1) := by decide +kernel
theorem dX5_hashJoined_17 : decode cX5_hashJoined 17 = .ok (.invokevirtual 134, 3) := by decide +kernel
theorem dX5_hashJoined_20 : decode cX5_hashJoined 20 = .ok (.invokevirtual 134, 3) := by decide +kernel
theorem dX5_hashJoined_23 : decode cX5_hashJoined 23 = .ok (.ireturn, 1) := by decide +kernel
set_option maxRecDepth 20000 in
theorem ggX5_hashRepeated_X5_textOf : GoodIn wsX5_hashRepeated wsX5_textOf := goodIn_ca (goodIn_r _ [7, 8, 9, 10, 26, 27, 28, 29] (by decide +kernel) (by decide +kernel)) (goodIn_sub (fun _ h => List.mem_cons_of_mem _ (List.mem_append_left _ (List.mem_append_right _ h))) (by decide +kernel))
set_option maxRecDepth 20000 in
theorem gX5_hashRepeated_X5_textOf : GoodIn wsX5_hashRepeated (wsV RX5 34 RX5 yX5_textOf wsX5_textOf) := goodIn_app (goodIn_of _ (by decide +kernel)) ggX5_hashRepeated_X5_textOf
set_option maxRecDepth 20000 in
theorem ggX5_hashRepeated_X4_hashFrom : GoodIn wsX5_hashRepeated wsX4_hashFrom := goodIn_ca (goodIn_r _ [15, 16, 17, 18, 19, 14, 20, 21, 30, 31] (by decide +kernel) (by decide +kernel)) (goodIn_sub (fun _ h => List.mem_cons_of_mem _ (List.mem_append_right _ h)) (by decide +kernel))
set_option maxRecDepth 20000 in
theorem gX5_hashRepeated_X4_hashFrom : GoodIn wsX5_hashRepeated (wsV RX5 134 RX4 yX4_hashFrom wsX4_hashFrom) := goodIn_app (goodIn_of _ (by decide +kernel)) ggX5_hashRepeated_X4_hashFrom
set_option maxRecDepth 20000 in
theorem ggX5_hashRepeated_X4_hashFactor : GoodIn wsX5_hashRepeated wsX4_hashFactor := goodIn_r _ [25, 16, 30, 31] (by decide +kernel) (by decide +kernel)
set_option maxRecDepth 20000 in
theorem gX5_hashRepeated_X4_hashFactor : GoodIn wsX5_hashRepeated (wsV RX5 140 RX4 yX4_hashFactor wsX4_hashFactor) := goodIn_app (goodIn_of _ (by decide +kernel)) ggX5_hashRepeated_X4_hashFactor
theorem dX5_hashRepeated_0 : decode cX5_hashRepeated 0 = .ok (.aload_n 0, 1) := by decide +kernel
theorem dX5_hashRepeated_1 : decode cX5_hashRepeated 1 = .ok (.iload_n 1, 1) := by decide +kernel
theorem dX5_hashRepeated_2 : decode cX5_hashRepeated 2 = .ok (.invokevirtual 34, 3) := by decide +kernel
theorem dX5_hashRepeated_5 : decode cX5_hashRepeated 5 = .ok (.astore_n 3, 1) := by decide +kernel
theorem dX5_hashRepeated_6 : decode cX5_hashRepeated 6 = .ok (.iload_n 2, 1) := by decide +kernel
theorem dX5_hashRepeated_7 : decode cX5_hashRepeated 7 = .ok (.ifCond .lt 10, 3) := by decide +kernel
theorem dX5_hashRepeated_10 : decode cX5_hashRepeated 10 = .ok (.iload_n 2, 1) := by decide +kernel
theorem dX5_hashRepeated_11 : decode cX5_hashRepeated 11 = .ok (.sipush 1000, 3) := by decide +kernel
theorem dX5_hashRepeated_14 : decode cX5_hashRepeated 14 = .ok (.if_icmp .le 13, 3) := by decide +kernel
theorem dX5_hashRepeated_17 : decode cX5_hashRepeated 17 = .ok (.new 53, 3) := by decide +kernel
theorem dX5_hashRepeated_20 : decode cX5_hashRepeated 20 = .ok (.dup, 1) := by decide +kernel
theorem dX5_hashRepeated_21 : decode cX5_hashRepeated 21 = .ok (.ldc 138, 2) := by decide +kernel
theorem dX5_hashRepeated_23 : decode cX5_hashRepeated 23 = .ok (.invokespecial 57, 3) := by decide +kernel
theorem dX5_hashRepeated_26 : decode cX5_hashRepeated 26 = .ok (.athrow, 1) := by decide +kernel
theorem dX5_hashRepeated_27 : decode cX5_hashRepeated 27 = .ok (.aload_n 3, 1) := by decide +kernel
theorem dX5_hashRepeated_28 : decode cX5_hashRepeated 28 = .ok (.iconst 0, 1) := by decide +kernel
theorem dX5_hashRepeated_29 : decode cX5_hashRepeated 29 = .ok (.invokevirtual 134, 3) := by decide +kernel
theorem dX5_hashRepeated_32 : decode cX5_hashRepeated 32 = .ok (.istore 4, 2) := by decide +kernel
theorem dX5_hashRepeated_34 : decode cX5_hashRepeated 34 = .ok (.aload_n 3, 1) := by decide +kernel
theorem dX5_hashRepeated_35 : decode cX5_hashRepeated 35 = .ok (.invokevirtual 140, 3) := by decide +kernel
theorem dX5_hashRepeated_38 : decode cX5_hashRepeated 38 = .ok (.istore 5, 2) := by decide +kernel
theorem dX5_hashRepeated_40 : decode cX5_hashRepeated 40 = .ok (.iconst 0, 1) := by decide +kernel
theorem dX5_hashRepeated_41 : decode cX5_hashRepeated 41 = .ok (.istore 6, 2) := by decide +kernel
theorem dX5_hashRepeated_43 : decode cX5_hashRepeated 43 = .ok (.iconst 0, 1) := by decide +kernel
theorem dX5_hashRepeated_44 : decode cX5_hashRepeated 44 = .ok (.istore 7, 2) := by decide +kernel
theorem dX5_hashRepeated_46 : decode cX5_hashRepeated 46 = .ok (.iload 7, 2) := by decide +kernel
theorem dX5_hashRepeated_48 : decode cX5_hashRepeated 48 = .ok (.iload_n 2, 1) := by decide +kernel
theorem dX5_hashRepeated_49 : decode cX5_hashRepeated 49 = .ok (.if_icmp .ge 19, 3) := by decide +kernel
theorem dX5_hashRepeated_52 : decode cX5_hashRepeated 52 = .ok (.iload 6, 2) := by decide +kernel
theorem dX5_hashRepeated_54 : decode cX5_hashRepeated 54 = .ok (.iload 5, 2) := by decide +kernel
theorem dX5_hashRepeated_56 : decode cX5_hashRepeated 56 = .ok (.imul, 1) := by decide +kernel
theorem dX5_hashRepeated_57 : decode cX5_hashRepeated 57 = .ok (.iload 4, 2) := by decide +kernel
theorem dX5_hashRepeated_59 : decode cX5_hashRepeated 59 = .ok (.iadd, 1) := by decide +kernel
theorem dX5_hashRepeated_60 : decode cX5_hashRepeated 60 = .ok (.istore 6, 2) := by decide +kernel
theorem dX5_hashRepeated_62 : decode cX5_hashRepeated 62 = .ok (.iinc 7 1, 3) := by decide +kernel
theorem dX5_hashRepeated_65 : decode cX5_hashRepeated 65 = .ok (.goto (-19), 3) := by decide +kernel
theorem dX5_hashRepeated_68 : decode cX5_hashRepeated 68 = .ok (.iload 6, 2) := by decide +kernel
theorem dX5_hashRepeated_70 : decode cX5_hashRepeated 70 = .ok (.ireturn, 1) := by decide +kernel
set_option maxRecDepth 20000 in
theorem ggX5_periods_X5_textOf : GoodIn wsX5_periods wsX5_textOf := goodIn_ca (goodIn_r _ [5, 6, 7, 8, 32, 33, 34, 35] (by decide +kernel) (by decide +kernel)) (goodIn_sub (fun _ h => List.mem_cons_of_mem _ (List.mem_append_left _ (List.mem_append_right _ h))) (by decide +kernel))
set_option maxRecDepth 20000 in
theorem gX5_periods_X5_textOf : GoodIn wsX5_periods (wsV RX5 34 RX5 yX5_textOf wsX5_textOf) := goodIn_app (goodIn_of _ (by decide +kernel)) ggX5_periods_X5_textOf
set_option maxRecDepth 20000 in
theorem ggX5_periods_X4_countPeriods : GoodIn wsX5_periods wsX4_countPeriods := goodIn_ca (goodIn_r _ [13, 14, 15, 16, 17, 12, 18, 19, 20, 21, 22, 23, 24, 25, 26, 27, 28, 29, 30, 31, 36, 37] (by decide +kernel) (by decide +kernel)) (goodIn_sub (fun _ h => List.mem_cons_of_mem _ (List.mem_append_right _ h)) (by decide +kernel))
set_option maxRecDepth 20000 in
theorem gX5_periods_X4_countPeriods : GoodIn wsX5_periods (wsV RX5 143 RX4 yX4_countPeriods wsX4_countPeriods) := goodIn_app (goodIn_of _ (by decide +kernel)) ggX5_periods_X4_countPeriods
theorem dX5_periods_0 : decode cX5_periods 0 = .ok (.aload_n 0, 1) := by decide +kernel
theorem dX5_periods_1 : decode cX5_periods 1 = .ok (.iload_n 1, 1) := by decide +kernel
theorem dX5_periods_2 : decode cX5_periods 2 = .ok (.invokevirtual 34, 3) := by decide +kernel
theorem dX5_periods_5 : decode cX5_periods 5 = .ok (.invokevirtual 143, 3) := by decide +kernel
theorem dX5_periods_8 : decode cX5_periods 8 = .ok (.ireturn, 1) := by decide +kernel
set_option maxRecDepth 20000 in
theorem ggX5_periodAt_X5_textOf : GoodIn wsX5_periodAt wsX5_textOf := goodIn_ca (goodIn_r _ [7, 8, 9, 10, 34, 35, 36, 37] (by decide +kernel) (by decide +kernel)) (goodIn_sub (fun _ h => List.mem_cons_of_mem _ (List.mem_append_left _ (List.mem_append_right _ h))) (by decide +kernel))
set_option maxRecDepth 20000 in
theorem gX5_periodAt_X5_textOf : GoodIn wsX5_periodAt (wsV RX5 34 RX5 yX5_textOf wsX5_textOf) := goodIn_app (goodIn_of _ (by decide +kernel)) ggX5_periodAt_X5_textOf
set_option maxRecDepth 20000 in
theorem ggX5_periodAt_X4_size : GoodIn wsX5_periodAt wsX4_size := goodIn_r _ [15, 16, 38, 39] (by decide +kernel) (by decide +kernel)
set_option maxRecDepth 20000 in
theorem gX5_periodAt_X4_size : GoodIn wsX5_periodAt (wsV RX5 42 RX4 yX4_size wsX4_size) := goodIn_app (goodIn_of _ (by decide +kernel)) ggX5_periodAt_X4_size
set_option maxRecDepth 20000 in
theorem ggX5_periodAt_X4_hasPeriod : GoodIn wsX5_periodAt wsX4_hasPeriod := goodIn_ca (goodIn_r _ [20, 16, 21, 22, 23, 14, 24, 25, 26, 27, 28, 29, 30, 31, 32, 33, 38, 39] (by decide +kernel) (by decide +kernel)) (goodIn_sub (fun _ h => List.mem_cons_of_mem _ (List.mem_append_right _ h)) (by decide +kernel))
set_option maxRecDepth 20000 in
theorem gX5_periodAt_X4_hasPeriod : GoodIn wsX5_periodAt (wsV RX5 146 RX4 yX4_hasPeriod wsX4_hasPeriod) := goodIn_app (goodIn_of _ (by decide +kernel)) ggX5_periodAt_X4_hasPeriod
theorem dX5_periodAt_0 : decode cX5_periodAt 0 = .ok (.aload_n 0, 1) := by decide +kernel
theorem dX5_periodAt_1 : decode cX5_periodAt 1 = .ok (.iload_n 1, 1) := by decide +kernel
theorem dX5_periodAt_2 : decode cX5_periodAt 2 = .ok (.invokevirtual 34, 3) := by decide +kernel
theorem dX5_periodAt_5 : decode cX5_periodAt 5 = .ok (.astore_n 3, 1) := by decide +kernel
theorem dX5_periodAt_6 : decode cX5_periodAt 6 = .ok (.iconst 0, 1) := by decide +kernel
theorem dX5_periodAt_7 : decode cX5_periodAt 7 = .ok (.istore 4, 2) := by decide +kernel
theorem dX5_periodAt_9 : decode cX5_periodAt 9 = .ok (.iconst 1, 1) := by decide +kernel
theorem dX5_periodAt_10 : decode cX5_periodAt 10 = .ok (.istore 5, 2) := by decide +kernel
theorem dX5_periodAt_12 : decode cX5_periodAt 12 = .ok (.iload 5, 2) := by decide +kernel
theorem dX5_periodAt_14 : decode cX5_periodAt 14 = .ok (.aload_n 3, 1) := by decide +kernel
theorem dX5_periodAt_15 : decode cX5_periodAt 15 = .ok (.invokevirtual 42, 3) := by decide +kernel
theorem dX5_periodAt_18 : decode cX5_periodAt 18 = .ok (.if_icmp .gt 30, 3) := by decide +kernel
theorem dX5_periodAt_21 : decode cX5_periodAt 21 = .ok (.aload_n 3, 1) := by decide +kernel
theorem dX5_periodAt_22 : decode cX5_periodAt 22 = .ok (.iload 5, 2) := by decide +kernel
theorem dX5_periodAt_24 : decode cX5_periodAt 24 = .ok (.invokevirtual 146, 3) := by decide +kernel
theorem dX5_periodAt_27 : decode cX5_periodAt 27 = .ok (.ifCond .eq 15, 3) := by decide +kernel
theorem dX5_periodAt_30 : decode cX5_periodAt 30 = .ok (.iload 4, 2) := by decide +kernel
theorem dX5_periodAt_32 : decode cX5_periodAt 32 = .ok (.iload_n 2, 1) := by decide +kernel
theorem dX5_periodAt_33 : decode cX5_periodAt 33 = .ok (.if_icmp .ne 6, 3) := by decide +kernel
theorem dX5_periodAt_36 : decode cX5_periodAt 36 = .ok (.iload 5, 2) := by decide +kernel
theorem dX5_periodAt_38 : decode cX5_periodAt 38 = .ok (.ireturn, 1) := by decide +kernel
theorem dX5_periodAt_39 : decode cX5_periodAt 39 = .ok (.iinc 4 1, 3) := by decide +kernel
theorem dX5_periodAt_42 : decode cX5_periodAt 42 = .ok (.iinc 5 1, 3) := by decide +kernel
theorem dX5_periodAt_45 : decode cX5_periodAt 45 = .ok (.goto (-33), 3) := by decide +kernel
theorem dX5_periodAt_48 : decode cX5_periodAt 48 = .ok (.new 150, 3) := by decide +kernel
theorem dX5_periodAt_51 : decode cX5_periodAt 51 = .ok (.dup, 1) := by decide +kernel
theorem dX5_periodAt_52 : decode cX5_periodAt 52 = .ok (.ldc 152, 2) := by decide +kernel
theorem dX5_periodAt_54 : decode cX5_periodAt 54 = .ok (.invokespecial 154, 3) := by decide +kernel
theorem dX5_periodAt_57 : decode cX5_periodAt 57 = .ok (.athrow, 1) := by decide +kernel
set_option maxRecDepth 20000 in
theorem ggX5_border_X5_textOf : GoodIn wsX5_border wsX5_textOf := goodIn_ca (goodIn_r _ [5, 6, 7, 8, 76, 77, 78, 79] (by decide +kernel) (by decide +kernel)) (goodIn_sub (fun _ h => List.mem_cons_of_mem _ (List.mem_append_left _ (List.mem_append_left _ (List.mem_append_right _ h)))) (by decide +kernel))
set_option maxRecDepth 20000 in
theorem gX5_border_X5_textOf : GoodIn wsX5_border (wsV RX5 34 RX5 yX5_textOf wsX5_textOf) := goodIn_app (goodIn_of _ (by decide +kernel)) ggX5_border_X5_textOf
set_option maxRecDepth 20000 in
theorem ggX5_border_X5_requireNotEmpty : GoodIn wsX5_border wsX5_requireNotEmpty := goodIn_ca (goodIn_r _ [11, 12, 13, 14, 15, 16, 17, 18, 19, 80, 81] (by decide +kernel) (by decide +kernel)) (goodIn_sub (fun _ h => List.mem_cons_of_mem _ (List.mem_append_left _ (List.mem_append_right _ h))) (by decide +kernel))
set_option maxRecDepth 20000 in
theorem gX5_border_X5_requireNotEmpty : GoodIn wsX5_border (va_wsS RX5 100 yX5_requireNotEmpty wsX5_requireNotEmpty) := goodIn_app (goodIn_of _ (by decide +kernel)) ggX5_border_X5_requireNotEmpty
set_option maxRecDepth 20000 in
theorem ggX5_border_X4_leastPeriod : GoodIn wsX5_border wsX4_leastPeriod := goodIn_ca (goodIn_r _ [23, 19, 24, 25, 26, 17, 27, 28, 29, 30, 31, 32, 33, 34, 35, 36, 37, 38, 39, 40, 80, 81] (by decide +kernel) (by decide +kernel)) (goodIn_sub (fun _ h => List.mem_cons_of_mem _ (List.mem_append_right _ h)) (by decide +kernel))
set_option maxRecDepth 20000 in
theorem gX5_border_X4_leastPeriod : GoodIn wsX5_border (wsV RX5 155 RX4 yX4_leastPeriod wsX4_leastPeriod) := goodIn_app (goodIn_of _ (by decide +kernel)) ggX5_border_X4_leastPeriod
set_option maxRecDepth 20000 in
theorem ggX5_border_X4_size : GoodIn wsX5_border wsX4_size := goodIn_r _ [44, 19, 80, 81] (by decide +kernel) (by decide +kernel)
set_option maxRecDepth 20000 in
theorem gX5_border_X4_size : GoodIn wsX5_border (wsV RX5 42 RX4 yX4_size wsX4_size) := goodIn_app (goodIn_of _ (by decide +kernel)) ggX5_border_X4_size
set_option maxRecDepth 20000 in
theorem ggX5_border_X5_becomePart : GoodIn wsX5_border wsX5_becomePart := goodIn_ca (goodIn_r _ [48, 49, 50, 51, 52, 17, 53, 19, 54, 55, 56, 57, 36, 37, 38, 39, 40, 58, 59, 60, 61, 62, 63, 64, 4, 65, 66, 67, 68, 69, 70, 71, 72, 73, 74, 75, 41, 42, 43, 44, 76, 77, 78, 79, 80, 81] (by decide +kernel) (by decide +kernel)) (goodIn_sub (fun _ h => List.mem_cons_of_mem _ (List.mem_append_right _ h)) (by decide +kernel))
set_option maxRecDepth 20000 in
theorem gX5_border_X5_becomePart : GoodIn wsX5_border (wsV RX5 94 RX5 yX5_becomePart wsX5_becomePart) := goodIn_app (goodIn_of _ (by decide +kernel)) ggX5_border_X5_becomePart
theorem dX5_border_0 : decode cX5_border 0 = .ok (.aload_n 0, 1) := by decide +kernel
theorem dX5_border_1 : decode cX5_border 1 = .ok (.iload_n 1, 1) := by decide +kernel
theorem dX5_border_2 : decode cX5_border 2 = .ok (.invokevirtual 34, 3) := by decide +kernel
theorem dX5_border_5 : decode cX5_border 5 = .ok (.astore_n 3, 1) := by decide +kernel
theorem dX5_border_6 : decode cX5_border 6 = .ok (.aload_n 0, 1) := by decide +kernel
theorem dX5_border_7 : decode cX5_border 7 = .ok (.iload_n 2, 1) := by decide +kernel
theorem dX5_border_8 : decode cX5_border 8 = .ok (.invokevirtual 34, 3) := by decide +kernel
theorem dX5_border_11 : decode cX5_border 11 = .ok (.astore 4, 2) := by decide +kernel
theorem dX5_border_13 : decode cX5_border 13 = .ok (.aload 4, 2) := by decide +kernel
theorem dX5_border_15 : decode cX5_border 15 = .ok (.invokestatic 100, 3) := by decide +kernel
theorem dX5_border_18 : decode cX5_border 18 = .ok (.aload_n 0, 1) := by decide +kernel
theorem dX5_border_19 : decode cX5_border 19 = .ok (.aload_n 3, 1) := by decide +kernel
theorem dX5_border_20 : decode cX5_border 20 = .ok (.aload 4, 2) := by decide +kernel
theorem dX5_border_22 : decode cX5_border 22 = .ok (.aload 4, 2) := by decide +kernel
theorem dX5_border_24 : decode cX5_border 24 = .ok (.invokevirtual 155, 3) := by decide +kernel
theorem dX5_border_27 : decode cX5_border 27 = .ok (.aload 4, 2) := by decide +kernel
theorem dX5_border_29 : decode cX5_border 29 = .ok (.invokevirtual 42, 3) := by decide +kernel
theorem dX5_border_32 : decode cX5_border 32 = .ok (.invokevirtual 94, 3) := by decide +kernel
theorem dX5_border_35 : decode cX5_border 35 = .ok (.ireturn, 1) := by decide +kernel
set_option maxRecDepth 20000 in
theorem ggX5_root_X5_textOf : GoodIn wsX5_root wsX5_textOf := goodIn_ca (goodIn_r _ [5, 6, 7, 8, 76, 77, 78, 79] (by decide +kernel) (by decide +kernel)) (goodIn_sub (fun _ h => List.mem_cons_of_mem _ (List.mem_append_left _ (List.mem_append_left _ (List.mem_append_right _ h)))) (by decide +kernel))
set_option maxRecDepth 20000 in
theorem gX5_root_X5_textOf : GoodIn wsX5_root (wsV RX5 34 RX5 yX5_textOf wsX5_textOf) := goodIn_app (goodIn_of _ (by decide +kernel)) ggX5_root_X5_textOf
set_option maxRecDepth 20000 in
theorem ggX5_root_X5_requireNotEmpty : GoodIn wsX5_root wsX5_requireNotEmpty := goodIn_ca (goodIn_r _ [11, 12, 13, 14, 15, 16, 17, 18, 19, 80, 81] (by decide +kernel) (by decide +kernel)) (goodIn_sub (fun _ h => List.mem_cons_of_mem _ (List.mem_append_left _ (List.mem_append_right _ h))) (by decide +kernel))
set_option maxRecDepth 20000 in
theorem gX5_root_X5_requireNotEmpty : GoodIn wsX5_root (va_wsS RX5 100 yX5_requireNotEmpty wsX5_requireNotEmpty) := goodIn_app (goodIn_of _ (by decide +kernel)) ggX5_root_X5_requireNotEmpty
set_option maxRecDepth 20000 in
theorem ggX5_root_X4_rootSize : GoodIn wsX5_root wsX4_rootSize := goodIn_ca (goodIn_ca (goodIn_r _ [23, 19, 24, 25, 26, 17, 27, 28, 29, 30, 31, 32, 33, 34, 35, 36, 37, 38, 39, 40, 80, 81] (by decide +kernel) (by decide +kernel)) (goodIn_sub (fun _ h => List.mem_cons_of_mem _ (List.mem_append_left _ (List.mem_append_left _ (List.mem_append_left _ (List.mem_append_right _ h))))) (by decide +kernel))) (goodIn_sub (fun _ h => List.mem_cons_of_mem _ (List.mem_append_right _ h)) (by decide +kernel))
set_option maxRecDepth 20000 in
theorem gX5_root_X4_rootSize : GoodIn wsX5_root (wsV RX5 158 RX4 yX4_rootSize wsX4_rootSize) := goodIn_app (goodIn_of _ (by decide +kernel)) ggX5_root_X4_rootSize
set_option maxRecDepth 20000 in
theorem ggX5_root_X4_size : GoodIn wsX5_root wsX4_size := goodIn_r _ [44, 19, 80, 81] (by decide +kernel) (by decide +kernel)
set_option maxRecDepth 20000 in
theorem gX5_root_X4_size : GoodIn wsX5_root (wsV RX5 42 RX4 yX4_size wsX4_size) := goodIn_app (goodIn_of _ (by decide +kernel)) ggX5_root_X4_size
set_option maxRecDepth 20000 in
theorem ggX5_root_X5_becomePart : GoodIn wsX5_root wsX5_becomePart := goodIn_ca (goodIn_r _ [48, 49, 50, 51, 52, 17, 53, 19, 54, 55, 56, 57, 36, 37, 38, 39, 40, 58, 59, 60, 61, 62, 63, 64, 4, 65, 66, 67, 68, 69, 70, 71, 72, 73, 74, 75, 41, 42, 43, 44, 76, 77, 78, 79, 80, 81] (by decide +kernel) (by decide +kernel)) (goodIn_sub (fun _ h => List.mem_cons_of_mem _ (List.mem_append_right _ h)) (by decide +kernel))
set_option maxRecDepth 20000 in
theorem gX5_root_X5_becomePart : GoodIn wsX5_root (wsV RX5 94 RX5 yX5_becomePart wsX5_becomePart) := goodIn_app (goodIn_of _ (by decide +kernel)) ggX5_root_X5_becomePart
theorem dX5_root_0 : decode cX5_root 0 = .ok (.aload_n 0, 1) := by decide +kernel
theorem dX5_root_1 : decode cX5_root 1 = .ok (.iload_n 1, 1) := by decide +kernel
theorem dX5_root_2 : decode cX5_root 2 = .ok (.invokevirtual 34, 3) := by decide +kernel
theorem dX5_root_5 : decode cX5_root 5 = .ok (.astore_n 3, 1) := by decide +kernel
theorem dX5_root_6 : decode cX5_root 6 = .ok (.aload_n 0, 1) := by decide +kernel
theorem dX5_root_7 : decode cX5_root 7 = .ok (.iload_n 2, 1) := by decide +kernel
theorem dX5_root_8 : decode cX5_root 8 = .ok (.invokevirtual 34, 3) := by decide +kernel
theorem dX5_root_11 : decode cX5_root 11 = .ok (.astore 4, 2) := by decide +kernel
theorem dX5_root_13 : decode cX5_root 13 = .ok (.aload 4, 2) := by decide +kernel
theorem dX5_root_15 : decode cX5_root 15 = .ok (.invokestatic 100, 3) := by decide +kernel
theorem dX5_root_18 : decode cX5_root 18 = .ok (.aload 4, 2) := by decide +kernel
theorem dX5_root_20 : decode cX5_root 20 = .ok (.invokevirtual 158, 3) := by decide +kernel
theorem dX5_root_23 : decode cX5_root 23 = .ok (.istore 5, 2) := by decide +kernel
theorem dX5_root_25 : decode cX5_root 25 = .ok (.iload 5, 2) := by decide +kernel
theorem dX5_root_27 : decode cX5_root 27 = .ok (.ifCond .le 14, 3) := by decide +kernel
theorem dX5_root_30 : decode cX5_root 30 = .ok (.aload 4, 2) := by decide +kernel
theorem dX5_root_32 : decode cX5_root 32 = .ok (.invokevirtual 42, 3) := by decide +kernel
theorem dX5_root_35 : decode cX5_root 35 = .ok (.iload 5, 2) := by decide +kernel
theorem dX5_root_37 : decode cX5_root 37 = .ok (.idiv, 1) := by decide +kernel
theorem dX5_root_38 : decode cX5_root 38 = .ok (.goto 4, 3) := by decide +kernel
theorem dX5_root_41 : decode cX5_root 41 = .ok (.iconst 0, 1) := by decide +kernel
theorem dX5_root_42 : decode cX5_root 42 = .ok (.istore 6, 2) := by decide +kernel
theorem dX5_root_44 : decode cX5_root 44 = .ok (.aload_n 0, 1) := by decide +kernel
theorem dX5_root_45 : decode cX5_root 45 = .ok (.aload_n 3, 1) := by decide +kernel
theorem dX5_root_46 : decode cX5_root 46 = .ok (.aload 4, 2) := by decide +kernel
theorem dX5_root_48 : decode cX5_root 48 = .ok (.iconst 0, 1) := by decide +kernel
theorem dX5_root_49 : decode cX5_root 49 = .ok (.iload 5, 2) := by decide +kernel
theorem dX5_root_51 : decode cX5_root 51 = .ok (.invokevirtual 94, 3) := by decide +kernel
theorem dX5_root_54 : decode cX5_root 54 = .ok (.pop, 1) := by decide +kernel
theorem dX5_root_55 : decode cX5_root 55 = .ok (.iload 6, 2) := by decide +kernel
theorem dX5_root_57 : decode cX5_root 57 = .ok (.ireturn, 1) := by decide +kernel
set_option maxRecDepth 20000 in
theorem ggX5_turnTo_X5_textOf : GoodIn wsX5_turnTo wsX5_textOf := goodIn_ca (goodIn_r _ [5, 6, 7, 8, 32, 33, 34, 35] (by decide +kernel) (by decide +kernel)) (goodIn_sub (fun _ h => List.mem_cons_of_mem _ (List.mem_append_left _ (List.mem_append_right _ h))) (by decide +kernel))
set_option maxRecDepth 20000 in
theorem gX5_turnTo_X5_textOf : GoodIn wsX5_turnTo (wsV RX5 34 RX5 yX5_textOf wsX5_textOf) := goodIn_app (goodIn_of _ (by decide +kernel)) ggX5_turnTo_X5_textOf
set_option maxRecDepth 20000 in
theorem ggX5_turnTo_X4_size : GoodIn wsX5_turnTo wsX4_size := goodIn_r _ [13, 14, 36, 37] (by decide +kernel) (by decide +kernel)
set_option maxRecDepth 20000 in
theorem gX5_turnTo_X4_size : GoodIn wsX5_turnTo (wsV RX5 42 RX4 yX4_size wsX4_size) := goodIn_app (goodIn_of _ (by decide +kernel)) ggX5_turnTo_X4_size
set_option maxRecDepth 20000 in
theorem ggX5_turnTo_X4_isTurnedTo : GoodIn wsX5_turnTo wsX4_isTurnedTo := goodIn_ca (goodIn_r _ [18, 14, 19, 20, 21, 12, 22, 23, 24, 25, 26, 27, 28, 29, 30, 31, 36, 37] (by decide +kernel) (by decide +kernel)) (goodIn_sub (fun _ h => List.mem_cons_of_mem _ (List.mem_append_right _ h)) (by decide +kernel))
set_option maxRecDepth 20000 in
theorem gX5_turnTo_X4_isTurnedTo : GoodIn wsX5_turnTo (wsV RX5 161 RX4 yX4_isTurnedTo wsX4_isTurnedTo) := goodIn_app (goodIn_of _ (by decide +kernel)) ggX5_turnTo_X4_isTurnedTo
theorem dX5_turnTo_0 : decode cX5_turnTo 0 = .ok (.aload_n 0, 1) := by decide +kernel
theorem dX5_turnTo_1 : decode cX5_turnTo 1 = .ok (.iload_n 1, 1) := by decide +kernel
theorem dX5_turnTo_2 : decode cX5_turnTo 2 = .ok (.invokevirtual 34, 3) := by decide +kernel
theorem dX5_turnTo_5 : decode cX5_turnTo 5 = .ok (.astore_n 3, 1) := by decide +kernel
theorem dX5_turnTo_6 : decode cX5_turnTo 6 = .ok (.aload_n 0, 1) := by decide +kernel
theorem dX5_turnTo_7 : decode cX5_turnTo 7 = .ok (.iload_n 2, 1) := by decide +kernel
theorem dX5_turnTo_8 : decode cX5_turnTo 8 = .ok (.invokevirtual 34, 3) := by decide +kernel
theorem dX5_turnTo_11 : decode cX5_turnTo 11 = .ok (.astore 4, 2) := by decide +kernel
theorem dX5_turnTo_13 : decode cX5_turnTo 13 = .ok (.iconst 0, 1) := by decide +kernel
theorem dX5_turnTo_14 : decode cX5_turnTo 14 = .ok (.istore 5, 2) := by decide +kernel
theorem dX5_turnTo_16 : decode cX5_turnTo 16 = .ok (.iload 5, 2) := by decide +kernel
theorem dX5_turnTo_18 : decode cX5_turnTo 18 = .ok (.aload_n 3, 1) := by decide +kernel
theorem dX5_turnTo_19 : decode cX5_turnTo 19 = .ok (.invokevirtual 42, 3) := by decide +kernel
theorem dX5_turnTo_22 : decode cX5_turnTo 22 = .ok (.if_icmp .gt 23, 3) := by decide +kernel
theorem dX5_turnTo_25 : decode cX5_turnTo 25 = .ok (.aload_n 3, 1) := by decide +kernel
theorem dX5_turnTo_26 : decode cX5_turnTo 26 = .ok (.iload 5, 2) := by decide +kernel
theorem dX5_turnTo_28 : decode cX5_turnTo 28 = .ok (.aload 4, 2) := by decide +kernel
theorem dX5_turnTo_30 : decode cX5_turnTo 30 = .ok (.invokevirtual 161, 3) := by decide +kernel
theorem dX5_turnTo_33 : decode cX5_turnTo 33 = .ok (.ifCond .eq 6, 3) := by decide +kernel
theorem dX5_turnTo_36 : decode cX5_turnTo 36 = .ok (.iload 5, 2) := by decide +kernel
theorem dX5_turnTo_38 : decode cX5_turnTo 38 = .ok (.ireturn, 1) := by decide +kernel
theorem dX5_turnTo_39 : decode cX5_turnTo 39 = .ok (.iinc 5 1, 3) := by decide +kernel
theorem dX5_turnTo_42 : decode cX5_turnTo 42 = .ok (.goto (-26), 3) := by decide +kernel
theorem dX5_turnTo_45 : decode cX5_turnTo 45 = .ok (.iconst (-1), 1) := by decide +kernel
theorem dX5_turnTo_46 : decode cX5_turnTo 46 = .ok (.ireturn, 1) := by decide +kernel
set_option maxRecDepth 20000 in
theorem ggX5_turnings_X5_textOf : GoodIn wsX5_turnings wsX5_textOf := goodIn_ca (goodIn_r _ [5, 6, 7, 8, 36, 37, 38, 39] (by decide +kernel) (by decide +kernel)) (goodIn_sub (fun _ h => List.mem_cons_of_mem _ (List.mem_append_left _ (List.mem_append_left _ (List.mem_append_right _ h)))) (by decide +kernel))
set_option maxRecDepth 20000 in
theorem gX5_turnings_X5_textOf : GoodIn wsX5_turnings (wsV RX5 34 RX5 yX5_textOf wsX5_textOf) := goodIn_app (goodIn_of _ (by decide +kernel)) ggX5_turnings_X5_textOf
set_option maxRecDepth 20000 in
theorem ggX5_turnings_X4_isEmpty : GoodIn wsX5_turnings wsX4_isEmpty := goodIn_r _ [13, 14, 40, 41] (by decide +kernel) (by decide +kernel)
set_option maxRecDepth 20000 in
theorem gX5_turnings_X4_isEmpty : GoodIn wsX5_turnings (wsV RX5 85 RX4 yX4_isEmpty wsX4_isEmpty) := goodIn_app (goodIn_of _ (by decide +kernel)) ggX5_turnings_X4_isEmpty
set_option maxRecDepth 20000 in
theorem ggX5_turnings_X4_rootSize : GoodIn wsX5_turnings wsX4_rootSize := goodIn_ca (goodIn_ca (goodIn_r _ [18, 14, 19, 20, 21, 12, 22, 23, 24, 25, 26, 27, 28, 29, 30, 31, 32, 33, 34, 35, 40, 41] (by decide +kernel) (by decide +kernel)) (goodIn_sub (fun _ h => List.mem_cons_of_mem _ (List.mem_append_left _ (List.mem_append_right _ h))) (by decide +kernel))) (goodIn_sub (fun _ h => List.mem_cons_of_mem _ (List.mem_append_right _ h)) (by decide +kernel))
set_option maxRecDepth 20000 in
theorem gX5_turnings_X4_rootSize : GoodIn wsX5_turnings (wsV RX5 158 RX4 yX4_rootSize wsX4_rootSize) := goodIn_app (goodIn_of _ (by decide +kernel)) ggX5_turnings_X4_rootSize
theorem dX5_turnings_0 : decode cX5_turnings 0 = .ok (.aload_n 0, 1) := by decide +kernel
theorem dX5_turnings_1 : decode cX5_turnings 1 = .ok (.iload_n 1, 1) := by decide +kernel
theorem dX5_turnings_2 : decode cX5_turnings 2 = .ok (.invokevirtual 34, 3) := by decide +kernel
theorem dX5_turnings_5 : decode cX5_turnings 5 = .ok (.astore_n 2, 1) := by decide +kernel
theorem dX5_turnings_6 : decode cX5_turnings 6 = .ok (.aload_n 2, 1) := by decide +kernel
theorem dX5_turnings_7 : decode cX5_turnings 7 = .ok (.invokevirtual 85, 3) := by decide +kernel
theorem dX5_turnings_10 : decode cX5_turnings 10 = .ok (.ifCond .eq 7, 3) := by decide +kernel
theorem dX5_turnings_13 : decode cX5_turnings 13 = .ok (.iconst 1, 1) := by decide +kernel
theorem dX5_turnings_14 : decode cX5_turnings 14 = .ok (.goto 7, 3) := by decide +kernel
theorem dX5_turnings_17 : decode cX5_turnings 17 = .ok (.aload_n 2, 1) := by decide +kernel
theorem dX5_turnings_18 : decode cX5_turnings 18 = .ok (.invokevirtual 158, 3) := by decide +kernel
theorem dX5_turnings_21 : decode cX5_turnings 21 = .ok (.ireturn, 1) := by decide +kernel
set_option maxRecDepth 20000 in
theorem ggX5_leastTurn_X5_textOf : GoodIn wsX5_leastTurn wsX5_textOf := goodIn_ca (goodIn_r _ [5, 6, 7, 8, 28, 29, 30, 31] (by decide +kernel) (by decide +kernel)) (goodIn_sub (fun _ h => List.mem_cons_of_mem _ (List.mem_append_left _ (List.mem_append_right _ h))) (by decide +kernel))
set_option maxRecDepth 20000 in
theorem gX5_leastTurn_X5_textOf : GoodIn wsX5_leastTurn (wsV RX5 34 RX5 yX5_textOf wsX5_textOf) := goodIn_app (goodIn_of _ (by decide +kernel)) ggX5_leastTurn_X5_textOf
set_option maxRecDepth 20000 in
theorem ggX5_leastTurn_X4_size : GoodIn wsX5_leastTurn wsX4_size := goodIn_r _ [13, 14, 32, 33] (by decide +kernel) (by decide +kernel)
set_option maxRecDepth 20000 in
theorem gX5_leastTurn_X4_size : GoodIn wsX5_leastTurn (wsV RX5 42 RX4 yX4_size wsX4_size) := goodIn_app (goodIn_of _ (by decide +kernel)) ggX5_leastTurn_X4_size
set_option maxRecDepth 20000 in
theorem ggX5_leastTurn_X4_compareTurns : GoodIn wsX5_leastTurn wsX4_compareTurns := goodIn_ca (goodIn_r _ [18, 14, 19, 20, 21, 12, 22, 23, 24, 25, 26, 27, 32, 33] (by decide +kernel) (by decide +kernel)) (goodIn_sub (fun _ h => List.mem_cons_of_mem _ (List.mem_append_right _ h)) (by decide +kernel))
set_option maxRecDepth 20000 in
theorem gX5_leastTurn_X4_compareTurns : GoodIn wsX5_leastTurn (wsV RX5 164 RX4 yX4_compareTurns wsX4_compareTurns) := goodIn_app (goodIn_of _ (by decide +kernel)) ggX5_leastTurn_X4_compareTurns
theorem dX5_leastTurn_0 : decode cX5_leastTurn 0 = .ok (.aload_n 0, 1) := by decide +kernel
theorem dX5_leastTurn_1 : decode cX5_leastTurn 1 = .ok (.iload_n 1, 1) := by decide +kernel
theorem dX5_leastTurn_2 : decode cX5_leastTurn 2 = .ok (.invokevirtual 34, 3) := by decide +kernel
theorem dX5_leastTurn_5 : decode cX5_leastTurn 5 = .ok (.astore_n 2, 1) := by decide +kernel
theorem dX5_leastTurn_6 : decode cX5_leastTurn 6 = .ok (.iconst 0, 1) := by decide +kernel
theorem dX5_leastTurn_7 : decode cX5_leastTurn 7 = .ok (.istore_n 3, 1) := by decide +kernel
theorem dX5_leastTurn_8 : decode cX5_leastTurn 8 = .ok (.iconst 1, 1) := by decide +kernel
theorem dX5_leastTurn_9 : decode cX5_leastTurn 9 = .ok (.istore 4, 2) := by decide +kernel
theorem dX5_leastTurn_11 : decode cX5_leastTurn 11 = .ok (.iload 4, 2) := by decide +kernel
theorem dX5_leastTurn_13 : decode cX5_leastTurn 13 = .ok (.aload_n 2, 1) := by decide +kernel
theorem dX5_leastTurn_14 : decode cX5_leastTurn 14 = .ok (.invokevirtual 42, 3) := by decide +kernel
theorem dX5_leastTurn_17 : decode cX5_leastTurn 17 = .ok (.if_icmp .ge 22, 3) := by decide +kernel
theorem dX5_leastTurn_20 : decode cX5_leastTurn 20 = .ok (.aload_n 2, 1) := by decide +kernel
theorem dX5_leastTurn_21 : decode cX5_leastTurn 21 = .ok (.iload 4, 2) := by decide +kernel
theorem dX5_leastTurn_23 : decode cX5_leastTurn 23 = .ok (.iload_n 3, 1) := by decide +kernel
theorem dX5_leastTurn_24 : decode cX5_leastTurn 24 = .ok (.invokevirtual 164, 3) := by decide +kernel
theorem dX5_leastTurn_27 : decode cX5_leastTurn 27 = .ok (.ifCond .ge 6, 3) := by decide +kernel
theorem dX5_leastTurn_30 : decode cX5_leastTurn 30 = .ok (.iload 4, 2) := by decide +kernel
theorem dX5_leastTurn_32 : decode cX5_leastTurn 32 = .ok (.istore_n 3, 1) := by decide +kernel
theorem dX5_leastTurn_33 : decode cX5_leastTurn 33 = .ok (.iinc 4 1, 3) := by decide +kernel
theorem dX5_leastTurn_36 : decode cX5_leastTurn 36 = .ok (.goto (-25), 3) := by decide +kernel
theorem dX5_leastTurn_39 : decode cX5_leastTurn 39 = .ok (.iload_n 3, 1) := by decide +kernel
theorem dX5_leastTurn_40 : decode cX5_leastTurn 40 = .ok (.ireturn, 1) := by decide +kernel
set_option maxRecDepth 20000 in
theorem ggX5_factors_X5_textOf : GoodIn wsX5_factors wsX5_textOf := goodIn_ca (goodIn_r _ [5, 6, 7, 8, 27, 28, 29, 30] (by decide +kernel) (by decide +kernel)) (goodIn_sub (fun _ h => List.mem_cons_of_mem _ (List.mem_append_left _ (List.mem_append_right _ h))) (by decide +kernel))
set_option maxRecDepth 20000 in
theorem gX5_factors_X5_textOf : GoodIn wsX5_factors (wsV RX5 34 RX5 yX5_textOf wsX5_textOf) := goodIn_app (goodIn_of _ (by decide +kernel)) ggX5_factors_X5_textOf
set_option maxRecDepth 20000 in
theorem ggX5_factors_X1_countIn : GoodIn wsX5_factors wsX1_countIn := goodIn_ca (goodIn_r _ [12, 13, 14, 15, 16, 17, 18, 19, 20, 11, 21, 22, 23, 24, 25, 26, 31, 32] (by decide +kernel) (by decide +kernel)) (goodIn_sub (fun _ h => List.mem_cons_of_mem _ (List.mem_append_right _ h)) (by decide +kernel))
set_option maxRecDepth 20000 in
theorem gX5_factors_X1_countIn : GoodIn wsX5_factors (va_wsS RX5 167 yX1_countIn wsX1_countIn) := goodIn_app (goodIn_of _ (by decide +kernel)) ggX5_factors_X1_countIn
theorem dX5_factors_0 : decode cX5_factors 0 = .ok (.aload_n 0, 1) := by decide +kernel
theorem dX5_factors_1 : decode cX5_factors 1 = .ok (.iload_n 1, 1) := by decide +kernel
theorem dX5_factors_2 : decode cX5_factors 2 = .ok (.invokevirtual 34, 3) := by decide +kernel
theorem dX5_factors_5 : decode cX5_factors 5 = .ok (.invokestatic 167, 3) := by decide +kernel
theorem dX5_factors_8 : decode cX5_factors 8 = .ok (.ireturn, 1) := by decide +kernel
set_option maxRecDepth 20000 in
theorem ggX5_factorAt_X5_textOf : GoodIn wsX5_factorAt wsX5_textOf := goodIn_ca (goodIn_r _ [7, 8, 9, 10, 30, 31, 32, 33] (by decide +kernel) (by decide +kernel)) (goodIn_sub (fun _ h => List.mem_cons_of_mem _ (List.mem_append_left _ (List.mem_append_right _ h))) (by decide +kernel))
set_option maxRecDepth 20000 in
theorem gX5_factorAt_X5_textOf : GoodIn wsX5_factorAt (wsV RX5 34 RX5 yX5_textOf wsX5_textOf) := goodIn_app (goodIn_of _ (by decide +kernel)) ggX5_factorAt_X5_textOf
set_option maxRecDepth 20000 in
theorem ggX5_factorAt_X4_size : GoodIn wsX5_factorAt wsX4_size := goodIn_r _ [15, 16, 34, 35] (by decide +kernel) (by decide +kernel)
set_option maxRecDepth 20000 in
theorem gX5_factorAt_X4_size : GoodIn wsX5_factorAt (wsV RX5 42 RX4 yX4_size wsX4_size) := goodIn_app (goodIn_of _ (by decide +kernel)) ggX5_factorAt_X4_size
set_option maxRecDepth 20000 in
theorem ggX5_factorAt_X1_beginOf : GoodIn wsX5_factorAt wsX1_beginOf := goodIn_ca (goodIn_r _ [20, 21, 12, 13, 14, 15, 16, 22, 23, 19, 24, 25, 26, 27, 28, 29, 34, 35] (by decide +kernel) (by decide +kernel)) (goodIn_sub (fun _ h => List.mem_cons_of_mem _ (List.mem_append_right _ h)) (by decide +kernel))
set_option maxRecDepth 20000 in
theorem gX5_factorAt_X1_beginOf : GoodIn wsX5_factorAt (va_wsS RX5 172 yX1_beginOf wsX1_beginOf) := goodIn_app (goodIn_of _ (by decide +kernel)) ggX5_factorAt_X1_beginOf
theorem dX5_factorAt_0 : decode cX5_factorAt 0 = .ok (.aload_n 0, 1) := by decide +kernel
theorem dX5_factorAt_1 : decode cX5_factorAt 1 = .ok (.iload_n 1, 1) := by decide +kernel
theorem dX5_factorAt_2 : decode cX5_factorAt 2 = .ok (.invokevirtual 34, 3) := by decide +kernel
theorem dX5_factorAt_5 : decode cX5_factorAt 5 = .ok (.astore_n 3, 1) := by decide +kernel
theorem dX5_factorAt_6 : decode cX5_factorAt 6 = .ok (.iload_n 2, 1) := by decide +kernel
theorem dX5_factorAt_7 : decode cX5_factorAt 7 = .ok (.ifCond .ge 10, 3) := by decide +kernel
theorem dX5_factorAt_10 : decode cX5_factorAt 10 = .ok (.aload_n 3, 1) := by decide +kernel
theorem dX5_factorAt_11 : decode cX5_factorAt 11 = .ok (.invokevirtual 42, 3) := by decide +kernel
theorem dX5_factorAt_14 : decode cX5_factorAt 14 = .ok (.goto 8, 3) := by decide +kernel
theorem dX5_factorAt_17 : decode cX5_factorAt 17 = .ok (.aload_n 3, 1) := by decide +kernel
theorem dX5_factorAt_18 : decode cX5_factorAt 18 = .ok (.iload_n 2, 1) := by decide +kernel
theorem dX5_factorAt_19 : decode cX5_factorAt 19 = .ok (.invokestatic 172, 3) := by decide +kernel
theorem dX5_factorAt_22 : decode cX5_factorAt 22 = .ok (.istore 4, 2) := by decide +kernel
theorem dX5_factorAt_24 : decode cX5_factorAt 24 = .ok (.iload 4, 2) := by decide +kernel
theorem dX5_factorAt_26 : decode cX5_factorAt 26 = .ok (.aload_n 3, 1) := by decide +kernel
theorem dX5_factorAt_27 : decode cX5_factorAt 27 = .ok (.invokevirtual 42, 3) := by decide +kernel
theorem dX5_factorAt_30 : decode cX5_factorAt 30 = .ok (.if_icmp .lt 13, 3) := by decide +kernel
theorem dX5_factorAt_33 : decode cX5_factorAt 33 = .ok (.new 150, 3) := by decide +kernel
theorem dX5_factorAt_36 : decode cX5_factorAt 36 = .ok (.dup, 1) := by decide +kernel
theorem dX5_factorAt_37 : decode cX5_factorAt 37 = .ok (.ldc 176, 2) := by decide +kernel
theorem dX5_factorAt_39 : decode cX5_factorAt 39 = .ok (.invokespecial 154, 3) := by decide +kernel
theorem dX5_factorAt_42 : decode cX5_factorAt 42 = .ok (.athrow, 1) := by decide +kernel
theorem dX5_factorAt_43 : decode cX5_factorAt 43 = .ok (.iload 4, 2) := by decide +kernel
theorem dX5_factorAt_45 : decode cX5_factorAt 45 = .ok (.ireturn, 1) := by decide +kernel
set_option maxRecDepth 20000 in
theorem ggX5_endAt_X5_textOf : GoodIn wsX5_endAt wsX5_textOf := goodIn_ca (goodIn_r _ [8, 9, 10, 11, 51, 52, 53, 54] (by decide +kernel) (by decide +kernel)) (goodIn_sub (fun _ h => List.mem_cons_of_mem _ (List.mem_append_left _ (List.mem_append_right _ h))) (by decide +kernel))
set_option maxRecDepth 20000 in
theorem gX5_endAt_X5_textOf : GoodIn wsX5_endAt (wsV RX5 34 RX5 yX5_textOf wsX5_textOf) := goodIn_app (goodIn_of _ (by decide +kernel)) ggX5_endAt_X5_textOf
set_option maxRecDepth 20000 in
theorem ggX5_endAt_X4_size : GoodIn wsX5_endAt wsX4_size := goodIn_r _ [16, 17, 55, 56] (by decide +kernel) (by decide +kernel)
set_option maxRecDepth 20000 in
theorem gX5_endAt_X4_size : GoodIn wsX5_endAt (wsV RX5 42 RX4 yX4_size wsX4_size) := goodIn_app (goodIn_of _ (by decide +kernel)) ggX5_endAt_X4_size
set_option maxRecDepth 20000 in
theorem ggX5_endAt_X0_arrange : GoodIn wsX5_endAt wsX0_arrange := goodIn_ca (goodIn_r _ [22, 23, 24, 13, 14, 15, 16, 17, 25, 26, 27, 21, 28, 29, 30, 31, 32, 33, 34, 35, 36, 37, 38, 39, 40, 41, 42, 43, 44, 45, 46, 57, 58, 55, 56] (by decide +kernel) (by decide +kernel)) (goodIn_sub (fun _ h => List.mem_cons_of_mem _ (List.mem_append_right _ h)) (by decide +kernel))
set_option maxRecDepth 20000 in
theorem gX5_endAt_X0_arrange : GoodIn wsX5_endAt (wsV RX5 180 RX0 yX0_arrange wsX0_arrange) := goodIn_app (goodIn_of _ (by decide +kernel)) ggX5_endAt_X0_arrange
set_option maxRecDepth 20000 in
theorem ggX5_endAt_X0_placeBy : GoodIn wsX5_endAt wsX0_placeBy := goodIn_ca (goodIn_r _ [50, 23, 57, 58] (by decide +kernel) (by decide +kernel)) (goodIn_sub (fun _ h => List.mem_cons_of_mem _ (List.mem_append_right _ h)) (by decide +kernel))
set_option maxRecDepth 20000 in
theorem gX5_endAt_X0_placeBy : GoodIn wsX5_endAt (wsV RX5 183 RX0 yX0_placeBy wsX0_placeBy) := goodIn_app (goodIn_of _ (by decide +kernel)) ggX5_endAt_X0_placeBy
theorem dX5_endAt_0 : decode cX5_endAt 0 = .ok (.aload_n 0, 1) := by decide +kernel
theorem dX5_endAt_1 : decode cX5_endAt 1 = .ok (.iload_n 1, 1) := by decide +kernel
theorem dX5_endAt_2 : decode cX5_endAt 2 = .ok (.invokevirtual 34, 3) := by decide +kernel
theorem dX5_endAt_5 : decode cX5_endAt 5 = .ok (.astore_n 3, 1) := by decide +kernel
theorem dX5_endAt_6 : decode cX5_endAt 6 = .ok (.iload_n 2, 1) := by decide +kernel
theorem dX5_endAt_7 : decode cX5_endAt 7 = .ok (.ifCond .lt 11, 3) := by decide +kernel
theorem dX5_endAt_10 : decode cX5_endAt 10 = .ok (.iload_n 2, 1) := by decide +kernel
theorem dX5_endAt_11 : decode cX5_endAt 11 = .ok (.aload_n 3, 1) := by decide +kernel
theorem dX5_endAt_12 : decode cX5_endAt 12 = .ok (.invokevirtual 42, 3) := by decide +kernel
theorem dX5_endAt_15 : decode cX5_endAt 15 = .ok (.if_icmp .lt 13, 3) := by decide +kernel
theorem dX5_endAt_18 : decode cX5_endAt 18 = .ok (.new 150, 3) := by decide +kernel
theorem dX5_endAt_21 : decode cX5_endAt 21 = .ok (.dup, 1) := by decide +kernel
theorem dX5_endAt_22 : decode cX5_endAt 22 = .ok (.ldc 178, 2) := by decide +kernel
theorem dX5_endAt_24 : decode cX5_endAt 24 = .ok (.invokespecial 154, 3) := by decide +kernel
theorem dX5_endAt_27 : decode cX5_endAt 27 = .ok (.athrow, 1) := by decide +kernel
theorem dX5_endAt_28 : decode cX5_endAt 28 = .ok (.aload_n 0, 1) := by decide +kernel
theorem dX5_endAt_29 : decode cX5_endAt 29 = .ok (.getfield 23, 3) := by decide +kernel
theorem dX5_endAt_32 : decode cX5_endAt 32 = .ok (.aload_n 3, 1) := by decide +kernel
theorem dX5_endAt_33 : decode cX5_endAt 33 = .ok (.invokevirtual 180, 3) := by decide +kernel
theorem dX5_endAt_36 : decode cX5_endAt 36 = .ok (.aload_n 0, 1) := by decide +kernel
theorem dX5_endAt_37 : decode cX5_endAt 37 = .ok (.getfield 23, 3) := by decide +kernel
theorem dX5_endAt_40 : decode cX5_endAt 40 = .ok (.iload_n 2, 1) := by decide +kernel
theorem dX5_endAt_41 : decode cX5_endAt 41 = .ok (.invokevirtual 183, 3) := by decide +kernel
theorem dX5_endAt_44 : decode cX5_endAt 44 = .ok (.ireturn, 1) := by decide +kernel
set_option maxRecDepth 20000 in
theorem ggX5_rankOf_X5_textOf : GoodIn wsX5_rankOf wsX5_textOf := goodIn_ca (goodIn_r _ [6, 7, 8, 9, 49, 50, 51, 52] (by decide +kernel) (by decide +kernel)) (goodIn_sub (fun _ h => List.mem_cons_of_mem _ (List.mem_append_left _ (List.mem_append_right _ h))) (by decide +kernel))
set_option maxRecDepth 20000 in
theorem gX5_rankOf_X5_textOf : GoodIn wsX5_rankOf (wsV RX5 34 RX5 yX5_textOf wsX5_textOf) := goodIn_app (goodIn_of _ (by decide +kernel)) ggX5_rankOf_X5_textOf
set_option maxRecDepth 20000 in
theorem ggX5_rankOf_X5_requirePlace : GoodIn wsX5_rankOf wsX5_requirePlace := goodIn_ca (goodIn_r _ [12, 7, 8, 13, 14, 15, 16, 17, 18, 53, 54] (by decide +kernel) (by decide +kernel)) (goodIn_sub (fun _ h => List.mem_cons_of_mem _ (List.mem_append_left _ (List.mem_append_right _ h))) (by decide +kernel))
set_option maxRecDepth 20000 in
theorem gX5_rankOf_X5_requirePlace : GoodIn wsX5_rankOf (va_wsS RX5 71 yX5_requirePlace wsX5_requirePlace) := goodIn_app (goodIn_of _ (by decide +kernel)) ggX5_rankOf_X5_requirePlace
set_option maxRecDepth 20000 in
theorem ggX5_rankOf_X0_arrange : GoodIn wsX5_rankOf wsX0_arrange := goodIn_ca (goodIn_r _ [23, 24, 25, 14, 15, 16, 17, 18, 26, 27, 28, 22, 29, 30, 31, 32, 33, 34, 35, 36, 37, 38, 39, 40, 41, 42, 43, 44, 45, 46, 47, 55, 56, 53, 54] (by decide +kernel) (by decide +kernel)) (goodIn_sub (fun _ h => List.mem_cons_of_mem _ (List.mem_append_right _ h)) (by decide +kernel))
set_option maxRecDepth 20000 in
theorem gX5_rankOf_X0_arrange : GoodIn wsX5_rankOf (wsV RX5 180 RX0 yX0_arrange wsX0_arrange) := goodIn_app (goodIn_of _ (by decide +kernel)) ggX5_rankOf_X0_arrange
set_option maxRecDepth 20000 in
theorem ggX5_rankOf_X0_rankBy : GoodIn wsX5_rankOf wsX0_rankBy := goodIn_ca (goodIn_r _ [47, 30, 55, 56] (by decide +kernel) (by decide +kernel)) (goodIn_sub (fun _ h => List.mem_cons_of_mem _ (List.mem_append_right _ h)) (by decide +kernel))
set_option maxRecDepth 20000 in
theorem gX5_rankOf_X0_rankBy : GoodIn wsX5_rankOf (wsV RX5 186 RX0 yX0_rankBy wsX0_rankBy) := goodIn_app (goodIn_of _ (by decide +kernel)) ggX5_rankOf_X0_rankBy
theorem dX5_rankOf_0 : decode cX5_rankOf 0 = .ok (.aload_n 0, 1) := by decide +kernel
theorem dX5_rankOf_1 : decode cX5_rankOf 1 = .ok (.iload_n 1, 1) := by decide +kernel
theorem dX5_rankOf_2 : decode cX5_rankOf 2 = .ok (.invokevirtual 34, 3) := by decide +kernel
theorem dX5_rankOf_5 : decode cX5_rankOf 5 = .ok (.astore_n 3, 1) := by decide +kernel
theorem dX5_rankOf_6 : decode cX5_rankOf 6 = .ok (.aload_n 3, 1) := by decide +kernel
theorem dX5_rankOf_7 : decode cX5_rankOf 7 = .ok (.iload_n 2, 1) := by decide +kernel
theorem dX5_rankOf_8 : decode cX5_rankOf 8 = .ok (.invokestatic 71, 3) := by decide +kernel
theorem dX5_rankOf_11 : decode cX5_rankOf 11 = .ok (.aload_n 0, 1) := by decide +kernel
theorem dX5_rankOf_12 : decode cX5_rankOf 12 = .ok (.getfield 23, 3) := by decide +kernel
theorem dX5_rankOf_15 : decode cX5_rankOf 15 = .ok (.aload_n 3, 1) := by decide +kernel
theorem dX5_rankOf_16 : decode cX5_rankOf 16 = .ok (.invokevirtual 180, 3) := by decide +kernel
theorem dX5_rankOf_19 : decode cX5_rankOf 19 = .ok (.aload_n 0, 1) := by decide +kernel
theorem dX5_rankOf_20 : decode cX5_rankOf 20 = .ok (.getfield 23, 3) := by decide +kernel
theorem dX5_rankOf_23 : decode cX5_rankOf 23 = .ok (.iload_n 2, 1) := by decide +kernel
theorem dX5_rankOf_24 : decode cX5_rankOf 24 = .ok (.invokevirtual 186, 3) := by decide +kernel
theorem dX5_rankOf_27 : decode cX5_rankOf 27 = .ok (.ireturn, 1) := by decide +kernel
set_option maxRecDepth 20000 in
theorem ggX5_unlikeParts_X5_textOf : GoodIn wsX5_unlikeParts wsX5_textOf := goodIn_ca (goodIn_r _ [6, 7, 8, 9, 63, 64, 65, 66] (by decide +kernel) (by decide +kernel)) (goodIn_sub (fun _ h => List.mem_cons_of_mem _ (List.mem_append_left _ (List.mem_append_right _ h))) (by decide +kernel))
set_option maxRecDepth 20000 in
theorem gX5_unlikeParts_X5_textOf : GoodIn wsX5_unlikeParts (wsV RX5 34 RX5 yX5_textOf wsX5_textOf) := goodIn_app (goodIn_of _ (by decide +kernel)) ggX5_unlikeParts_X5_textOf
set_option maxRecDepth 20000 in
theorem ggX5_unlikeParts_X0_arrange : GoodIn wsX5_unlikeParts wsX0_arrange := goodIn_ca (goodIn_r _ [14, 15, 16, 17, 18, 19, 20, 21, 22, 23, 24, 13, 25, 26, 27, 28, 29, 30, 31, 32, 33, 34, 35, 36, 37, 38, 39, 40, 41, 42, 43, 67, 68, 69, 70] (by decide +kernel) (by decide +kernel)) (goodIn_sub (fun _ h => List.mem_cons_of_mem _ (List.mem_append_right _ h)) (by decide +kernel))
set_option maxRecDepth 20000 in
theorem gX5_unlikeParts_X0_arrange : GoodIn wsX5_unlikeParts (wsV RX5 180 RX0 yX0_arrange wsX0_arrange) := goodIn_app (goodIn_of _ (by decide +kernel)) ggX5_unlikeParts_X0_arrange
set_option maxRecDepth 20000 in
theorem ggX5_unlikeParts_X4_size : GoodIn wsX5_unlikeParts wsX4_size := goodIn_r _ [20, 21, 69, 70] (by decide +kernel) (by decide +kernel)
set_option maxRecDepth 20000 in
theorem gX5_unlikeParts_X4_size : GoodIn wsX5_unlikeParts (wsV RX5 42 RX4 yX4_size wsX4_size) := goodIn_app (goodIn_of _ (by decide +kernel)) ggX5_unlikeParts_X4_size
set_option maxRecDepth 20000 in
theorem ggX5_unlikeParts_X0_placeBy : GoodIn wsX5_unlikeParts wsX0_placeBy := goodIn_ca (goodIn_r _ [48, 15, 67, 68] (by decide +kernel) (by decide +kernel)) (goodIn_sub (fun _ h => List.mem_cons_of_mem _ (List.mem_append_right _ h)) (by decide +kernel))
set_option maxRecDepth 20000 in
theorem gX5_unlikeParts_X0_placeBy : GoodIn wsX5_unlikeParts (wsV RX5 183 RX0 yX0_placeBy wsX0_placeBy) := goodIn_app (goodIn_of _ (by decide +kernel)) ggX5_unlikeParts_X0_placeBy
set_option maxRecDepth 20000 in
theorem ggX5_unlikeParts_X0_sharedBefore : GoodIn wsX5_unlikeParts wsX0_sharedBefore := goodIn_ca (goodIn_r _ [52, 53, 46, 47, 13, 48, 15, 54, 55, 56, 19, 57, 21, 58, 59, 60, 61, 62, 36, 37, 38, 39, 67, 68, 69, 70] (by decide +kernel) (by decide +kernel)) (goodIn_sub (fun _ h => List.mem_cons_of_mem _ (List.mem_append_right _ h)) (by decide +kernel))
set_option maxRecDepth 20000 in
theorem gX5_unlikeParts_X0_sharedBefore : GoodIn wsX5_unlikeParts (wsV RX5 189 RX0 yX0_sharedBefore wsX0_sharedBefore) := goodIn_app (goodIn_of _ (by decide +kernel)) ggX5_unlikeParts_X0_sharedBefore
theorem dX5_unlikeParts_0 : decode cX5_unlikeParts 0 = .ok (.aload_n 0, 1) := by decide +kernel
theorem dX5_unlikeParts_1 : decode cX5_unlikeParts 1 = .ok (.iload_n 1, 1) := by decide +kernel
theorem dX5_unlikeParts_2 : decode cX5_unlikeParts 2 = .ok (.invokevirtual 34, 3) := by decide +kernel
theorem dX5_unlikeParts_5 : decode cX5_unlikeParts 5 = .ok (.astore_n 2, 1) := by decide +kernel
theorem dX5_unlikeParts_6 : decode cX5_unlikeParts 6 = .ok (.aload_n 0, 1) := by decide +kernel
theorem dX5_unlikeParts_7 : decode cX5_unlikeParts 7 = .ok (.getfield 23, 3) := by decide +kernel
theorem dX5_unlikeParts_10 : decode cX5_unlikeParts 10 = .ok (.aload_n 2, 1) := by decide +kernel
theorem dX5_unlikeParts_11 : decode cX5_unlikeParts 11 = .ok (.invokevirtual 180, 3) := by decide +kernel
theorem dX5_unlikeParts_14 : decode cX5_unlikeParts 14 = .ok (.iconst 0, 1) := by decide +kernel
theorem dX5_unlikeParts_15 : decode cX5_unlikeParts 15 = .ok (.istore_n 3, 1) := by decide +kernel
theorem dX5_unlikeParts_16 : decode cX5_unlikeParts 16 = .ok (.iconst 0, 1) := by decide +kernel
theorem dX5_unlikeParts_17 : decode cX5_unlikeParts 17 = .ok (.istore 4, 2) := by decide +kernel
theorem dX5_unlikeParts_19 : decode cX5_unlikeParts 19 = .ok (.iload 4, 2) := by decide +kernel
theorem dX5_unlikeParts_21 : decode cX5_unlikeParts 21 = .ok (.aload_n 2, 1) := by decide +kernel
theorem dX5_unlikeParts_22 : decode cX5_unlikeParts 22 = .ok (.invokevirtual 42, 3) := by decide +kernel
theorem dX5_unlikeParts_25 : decode cX5_unlikeParts 25 = .ok (.if_icmp .ge 37, 3) := by decide +kernel
theorem dX5_unlikeParts_28 : decode cX5_unlikeParts 28 = .ok (.iload_n 3, 1) := by decide +kernel
theorem dX5_unlikeParts_29 : decode cX5_unlikeParts 29 = .ok (.aload_n 2, 1) := by decide +kernel
theorem dX5_unlikeParts_30 : decode cX5_unlikeParts 30 = .ok (.invokevirtual 42, 3) := by decide +kernel
theorem dX5_unlikeParts_33 : decode cX5_unlikeParts 33 = .ok (.aload_n 0, 1) := by decide +kernel
theorem dX5_unlikeParts_34 : decode cX5_unlikeParts 34 = .ok (.getfield 23, 3) := by decide +kernel
theorem dX5_unlikeParts_37 : decode cX5_unlikeParts 37 = .ok (.iload 4, 2) := by decide +kernel
theorem dX5_unlikeParts_39 : decode cX5_unlikeParts 39 = .ok (.invokevirtual 183, 3) := by decide +kernel
theorem dX5_unlikeParts_42 : decode cX5_unlikeParts 42 = .ok (.isub, 1) := by decide +kernel
theorem dX5_unlikeParts_43 : decode cX5_unlikeParts 43 = .ok (.aload_n 0, 1) := by decide +kernel
theorem dX5_unlikeParts_44 : decode cX5_unlikeParts 44 = .ok (.getfield 23, 3) := by decide +kernel
theorem dX5_unlikeParts_47 : decode cX5_unlikeParts 47 = .ok (.aload_n 2, 1) := by decide +kernel
theorem dX5_unlikeParts_48 : decode cX5_unlikeParts 48 = .ok (.iload 4, 2) := by decide +kernel
theorem dX5_unlikeParts_50 : decode cX5_unlikeParts 50 = .ok (.invokevirtual 189, 3) := by decide +kernel
theorem dX5_unlikeParts_53 : decode cX5_unlikeParts 53 = .ok (.isub, 1) := by decide +kernel
theorem dX5_unlikeParts_54 : decode cX5_unlikeParts 54 = .ok (.iadd, 1) := by decide +kernel
theorem dX5_unlikeParts_55 : decode cX5_unlikeParts 55 = .ok (.istore_n 3, 1) := by decide +kernel
theorem dX5_unlikeParts_56 : decode cX5_unlikeParts 56 = .ok (.iinc 4 1, 3) := by decide +kernel
theorem dX5_unlikeParts_59 : decode cX5_unlikeParts 59 = .ok (.goto (-40), 3) := by decide +kernel
theorem dX5_unlikeParts_62 : decode cX5_unlikeParts 62 = .ok (.iload_n 3, 1) := by decide +kernel
theorem dX5_unlikeParts_63 : decode cX5_unlikeParts 63 = .ok (.ireturn, 1) := by decide +kernel
set_option maxRecDepth 20000 in
theorem ggX5_twice_X5_textOf : GoodIn wsX5_twice wsX5_textOf := goodIn_ca (goodIn_r _ [6, 7, 8, 9, 94, 95, 96, 97] (by decide +kernel) (by decide +kernel)) (goodIn_sub (fun _ h => List.mem_cons_of_mem _ (List.mem_append_left _ (List.mem_append_right _ h))) (by decide +kernel))
set_option maxRecDepth 20000 in
theorem gX5_twice_X5_textOf : GoodIn wsX5_twice (wsV RX5 34 RX5 yX5_textOf wsX5_textOf) := goodIn_app (goodIn_of _ (by decide +kernel)) ggX5_twice_X5_textOf
set_option maxRecDepth 20000 in
theorem ggX5_twice_X0_arrange : GoodIn wsX5_twice wsX0_arrange := goodIn_ca (goodIn_r _ [14, 15, 16, 17, 18, 19, 20, 21, 22, 23, 24, 13, 25, 26, 27, 28, 29, 30, 31, 32, 33, 34, 35, 36, 37, 38, 39, 40, 41, 42, 43, 98, 99, 100, 101] (by decide +kernel) (by decide +kernel)) (goodIn_sub (fun _ h => List.mem_cons_of_mem _ (List.mem_append_right _ h)) (by decide +kernel))
set_option maxRecDepth 20000 in
theorem gX5_twice_X0_arrange : GoodIn wsX5_twice (wsV RX5 180 RX0 yX0_arrange wsX0_arrange) := goodIn_app (goodIn_of _ (by decide +kernel)) ggX5_twice_X0_arrange
set_option maxRecDepth 20000 in
theorem ggX5_twice_X4_size : GoodIn wsX5_twice wsX4_size := goodIn_r _ [20, 21, 100, 101] (by decide +kernel) (by decide +kernel)
set_option maxRecDepth 20000 in
theorem gX5_twice_X4_size : GoodIn wsX5_twice (wsV RX5 42 RX4 yX4_size wsX4_size) := goodIn_app (goodIn_of _ (by decide +kernel)) ggX5_twice_X4_size
set_option maxRecDepth 20000 in
theorem ggX5_twice_X0_sharedBefore : GoodIn wsX5_twice wsX0_sharedBefore := goodIn_ca (goodIn_r _ [48, 49, 50, 51, 13, 52, 15, 53, 54, 55, 19, 56, 21, 57, 58, 59, 60, 61, 36, 37, 38, 39, 98, 99, 100, 101] (by decide +kernel) (by decide +kernel)) (goodIn_sub (fun _ h => List.mem_cons_of_mem _ (List.mem_append_right _ h)) (by decide +kernel))
set_option maxRecDepth 20000 in
theorem gX5_twice_X0_sharedBefore : GoodIn wsX5_twice (wsV RX5 189 RX0 yX0_sharedBefore wsX0_sharedBefore) := goodIn_app (goodIn_of _ (by decide +kernel)) ggX5_twice_X0_sharedBefore
set_option maxRecDepth 20000 in
theorem ggX5_twice_X0_placeBy : GoodIn wsX5_twice wsX0_placeBy := goodIn_ca (goodIn_r _ [52, 15, 98, 99] (by decide +kernel) (by decide +kernel)) (goodIn_sub (fun _ h => List.mem_cons_of_mem _ (List.mem_append_right _ h)) (by decide +kernel))
set_option maxRecDepth 20000 in
theorem gX5_twice_X0_placeBy : GoodIn wsX5_twice (wsV RX5 183 RX0 yX0_placeBy wsX0_placeBy) := goodIn_app (goodIn_of _ (by decide +kernel)) ggX5_twice_X0_placeBy
set_option maxRecDepth 20000 in
theorem ggX5_twice_X5_becomePart : GoodIn wsX5_twice wsX5_becomePart := goodIn_ca (goodIn_r _ [66, 67, 68, 69, 70, 19, 71, 21, 72, 73, 74, 75, 61, 36, 37, 38, 39, 76, 77, 78, 79, 80, 81, 82, 5, 83, 84, 85, 86, 87, 88, 89, 90, 91, 92, 93, 44, 17, 18, 20, 94, 95, 96, 97, 100, 101] (by decide +kernel) (by decide +kernel)) (goodIn_sub (fun _ h => List.mem_cons_of_mem _ (List.mem_append_right _ h)) (by decide +kernel))
set_option maxRecDepth 20000 in
theorem gX5_twice_X5_becomePart : GoodIn wsX5_twice (wsV RX5 94 RX5 yX5_becomePart wsX5_becomePart) := goodIn_app (goodIn_of _ (by decide +kernel)) ggX5_twice_X5_becomePart
theorem dX5_twice_0 : decode cX5_twice 0 = .ok (.aload_n 0, 1) := by decide +kernel
theorem dX5_twice_1 : decode cX5_twice 1 = .ok (.iload_n 1, 1) := by decide +kernel
theorem dX5_twice_2 : decode cX5_twice 2 = .ok (.invokevirtual 34, 3) := by decide +kernel
theorem dX5_twice_5 : decode cX5_twice 5 = .ok (.astore_n 3, 1) := by decide +kernel
theorem dX5_twice_6 : decode cX5_twice 6 = .ok (.aload_n 0, 1) := by decide +kernel
theorem dX5_twice_7 : decode cX5_twice 7 = .ok (.iload_n 2, 1) := by decide +kernel
theorem dX5_twice_8 : decode cX5_twice 8 = .ok (.invokevirtual 34, 3) := by decide +kernel
theorem dX5_twice_11 : decode cX5_twice 11 = .ok (.astore 4, 2) := by decide +kernel
theorem dX5_twice_13 : decode cX5_twice 13 = .ok (.aload_n 0, 1) := by decide +kernel
theorem dX5_twice_14 : decode cX5_twice 14 = .ok (.getfield 23, 3) := by decide +kernel
theorem dX5_twice_17 : decode cX5_twice 17 = .ok (.aload 4, 2) := by decide +kernel
theorem dX5_twice_19 : decode cX5_twice 19 = .ok (.invokevirtual 180, 3) := by decide +kernel
theorem dX5_twice_22 : decode cX5_twice 22 = .ok (.iconst 0, 1) := by decide +kernel
theorem dX5_twice_23 : decode cX5_twice 23 = .ok (.istore 5, 2) := by decide +kernel
theorem dX5_twice_25 : decode cX5_twice 25 = .ok (.iconst 0, 1) := by decide +kernel
theorem dX5_twice_26 : decode cX5_twice 26 = .ok (.istore 6, 2) := by decide +kernel
theorem dX5_twice_28 : decode cX5_twice 28 = .ok (.iconst 1, 1) := by decide +kernel
theorem dX5_twice_29 : decode cX5_twice 29 = .ok (.istore 7, 2) := by decide +kernel
theorem dX5_twice_31 : decode cX5_twice 31 = .ok (.iload 7, 2) := by decide +kernel
theorem dX5_twice_33 : decode cX5_twice 33 = .ok (.aload 4, 2) := by decide +kernel
theorem dX5_twice_35 : decode cX5_twice 35 = .ok (.invokevirtual 42, 3) := by decide +kernel
theorem dX5_twice_38 : decode cX5_twice 38 = .ok (.if_icmp .ge 44, 3) := by decide +kernel
theorem dX5_twice_41 : decode cX5_twice 41 = .ok (.aload_n 0, 1) := by decide +kernel
theorem dX5_twice_42 : decode cX5_twice 42 = .ok (.getfield 23, 3) := by decide +kernel
theorem dX5_twice_45 : decode cX5_twice 45 = .ok (.aload 4, 2) := by decide +kernel
theorem dX5_twice_47 : decode cX5_twice 47 = .ok (.iload 7, 2) := by decide +kernel
theorem dX5_twice_49 : decode cX5_twice 49 = .ok (.invokevirtual 189, 3) := by decide +kernel
theorem dX5_twice_52 : decode cX5_twice 52 = .ok (.istore 8, 2) := by decide +kernel
theorem dX5_twice_54 : decode cX5_twice 54 = .ok (.iload 8, 2) := by decide +kernel
theorem dX5_twice_56 : decode cX5_twice 56 = .ok (.iload 5, 2) := by decide +kernel
theorem dX5_twice_58 : decode cX5_twice 58 = .ok (.if_icmp .le 18, 3) := by decide +kernel
theorem dX5_twice_61 : decode cX5_twice 61 = .ok (.iload 8, 2) := by decide +kernel
theorem dX5_twice_63 : decode cX5_twice 63 = .ok (.istore 5, 2) := by decide +kernel
theorem dX5_twice_65 : decode cX5_twice 65 = .ok (.aload_n 0, 1) := by decide +kernel
theorem dX5_twice_66 : decode cX5_twice 66 = .ok (.getfield 23, 3) := by decide +kernel
theorem dX5_twice_69 : decode cX5_twice 69 = .ok (.iload 7, 2) := by decide +kernel
theorem dX5_twice_71 : decode cX5_twice 71 = .ok (.invokevirtual 183, 3) := by decide +kernel
theorem dX5_twice_74 : decode cX5_twice 74 = .ok (.istore 6, 2) := by decide +kernel
theorem dX5_twice_76 : decode cX5_twice 76 = .ok (.iinc 7 1, 3) := by decide +kernel
theorem dX5_twice_79 : decode cX5_twice 79 = .ok (.goto (-48), 3) := by decide +kernel
theorem dX5_twice_82 : decode cX5_twice 82 = .ok (.aload_n 0, 1) := by decide +kernel
theorem dX5_twice_83 : decode cX5_twice 83 = .ok (.aload_n 3, 1) := by decide +kernel
theorem dX5_twice_84 : decode cX5_twice 84 = .ok (.aload 4, 2) := by decide +kernel
theorem dX5_twice_86 : decode cX5_twice 86 = .ok (.iload 6, 2) := by decide +kernel
theorem dX5_twice_88 : decode cX5_twice 88 = .ok (.iload 6, 2) := by decide +kernel
theorem dX5_twice_90 : decode cX5_twice 90 = .ok (.iload 5, 2) := by decide +kernel
theorem dX5_twice_92 : decode cX5_twice 92 = .ok (.iadd, 1) := by decide +kernel
theorem dX5_twice_93 : decode cX5_twice 93 = .ok (.invokevirtual 94, 3) := by decide +kernel
theorem dX5_twice_96 : decode cX5_twice 96 = .ok (.ireturn, 1) := by decide +kernel
set_option maxRecDepth 20000 in
theorem ggX5_mirrors_X5_textOf : GoodIn wsX5_mirrors wsX5_textOf := goodIn_ca (goodIn_r _ [6, 7, 8, 9, 67, 68, 69, 70] (by decide +kernel) (by decide +kernel)) (goodIn_sub (fun _ h => List.mem_cons_of_mem _ (List.mem_append_left _ (List.mem_append_right _ h))) (by decide +kernel))
set_option maxRecDepth 20000 in
theorem gX5_mirrors_X5_textOf : GoodIn wsX5_mirrors (wsV RX5 34 RX5 yX5_textOf wsX5_textOf) := goodIn_app (goodIn_of _ (by decide +kernel)) ggX5_mirrors_X5_textOf
set_option maxRecDepth 20000 in
theorem ggX5_mirrors_X0_arrange : GoodIn wsX5_mirrors wsX0_arrange := goodIn_ca (goodIn_r _ [14, 15, 16, 17, 18, 19, 20, 21, 22, 23, 24, 13, 25, 26, 27, 28, 29, 30, 31, 32, 33, 34, 35, 36, 37, 38, 39, 40, 41, 42, 43, 71, 72, 73, 74] (by decide +kernel) (by decide +kernel)) (goodIn_sub (fun _ h => List.mem_cons_of_mem _ (List.mem_append_right _ h)) (by decide +kernel))
set_option maxRecDepth 20000 in
theorem gX5_mirrors_X0_arrange : GoodIn wsX5_mirrors (wsV RX5 180 RX0 yX0_arrange wsX0_arrange) := goodIn_app (goodIn_of _ (by decide +kernel)) ggX5_mirrors_X0_arrange
set_option maxRecDepth 20000 in
theorem ggX5_mirrors_X4_size : GoodIn wsX5_mirrors wsX4_size := goodIn_r _ [20, 21, 73, 74] (by decide +kernel) (by decide +kernel)
set_option maxRecDepth 20000 in
theorem gX5_mirrors_X4_size : GoodIn wsX5_mirrors (wsV RX5 42 RX4 yX4_size wsX4_size) := goodIn_app (goodIn_of _ (by decide +kernel)) ggX5_mirrors_X4_size
set_option maxRecDepth 20000 in
theorem ggX5_mirrors_X0_placeBy : GoodIn wsX5_mirrors wsX0_placeBy := goodIn_ca (goodIn_r _ [48, 15, 71, 72] (by decide +kernel) (by decide +kernel)) (goodIn_sub (fun _ h => List.mem_cons_of_mem _ (List.mem_append_right _ h)) (by decide +kernel))
set_option maxRecDepth 20000 in
theorem gX5_mirrors_X0_placeBy : GoodIn wsX5_mirrors (wsV RX5 183 RX0 yX0_placeBy wsX0_placeBy) := goodIn_app (goodIn_of _ (by decide +kernel)) ggX5_mirrors_X0_placeBy
set_option maxRecDepth 20000 in
theorem ggX5_mirrors_X0_sharedBefore : GoodIn wsX5_mirrors wsX0_sharedBefore := goodIn_ca (goodIn_r _ [52, 53, 46, 47, 13, 48, 15, 54, 55, 56, 19, 57, 21, 58, 59, 60, 61, 62, 36, 37, 38, 39, 71, 72, 73, 74] (by decide +kernel) (by decide +kernel)) (goodIn_sub (fun _ h => List.mem_cons_of_mem _ (List.mem_append_right _ h)) (by decide +kernel))
set_option maxRecDepth 20000 in
theorem gX5_mirrors_X0_sharedBefore : GoodIn wsX5_mirrors (wsV RX5 189 RX0 yX0_sharedBefore wsX0_sharedBefore) := goodIn_app (goodIn_of _ (by decide +kernel)) ggX5_mirrors_X0_sharedBefore
set_option maxRecDepth 20000 in
theorem ggX5_mirrors_X4_isMirror : GoodIn wsX5_mirrors wsX4_isMirror := goodIn_ca (goodIn_r _ [66, 62, 36, 37, 19, 38, 21, 39, 73, 74] (by decide +kernel) (by decide +kernel)) (goodIn_sub (fun _ h => List.mem_cons_of_mem _ (List.mem_append_right _ h)) (by decide +kernel))
set_option maxRecDepth 20000 in
theorem gX5_mirrors_X4_isMirror : GoodIn wsX5_mirrors (wsV RX5 192 RX4 yX4_isMirror wsX4_isMirror) := goodIn_app (goodIn_of _ (by decide +kernel)) ggX5_mirrors_X4_isMirror
theorem dX5_mirrors_0 : decode cX5_mirrors 0 = .ok (.aload_n 0, 1) := by decide +kernel
theorem dX5_mirrors_1 : decode cX5_mirrors 1 = .ok (.iload_n 1, 1) := by decide +kernel
theorem dX5_mirrors_2 : decode cX5_mirrors 2 = .ok (.invokevirtual 34, 3) := by decide +kernel
theorem dX5_mirrors_5 : decode cX5_mirrors 5 = .ok (.astore_n 2, 1) := by decide +kernel
theorem dX5_mirrors_6 : decode cX5_mirrors 6 = .ok (.aload_n 0, 1) := by decide +kernel
theorem dX5_mirrors_7 : decode cX5_mirrors 7 = .ok (.getfield 23, 3) := by decide +kernel
theorem dX5_mirrors_10 : decode cX5_mirrors 10 = .ok (.aload_n 2, 1) := by decide +kernel
theorem dX5_mirrors_11 : decode cX5_mirrors 11 = .ok (.invokevirtual 180, 3) := by decide +kernel
theorem dX5_mirrors_14 : decode cX5_mirrors 14 = .ok (.iconst 0, 1) := by decide +kernel
theorem dX5_mirrors_15 : decode cX5_mirrors 15 = .ok (.istore_n 3, 1) := by decide +kernel
theorem dX5_mirrors_16 : decode cX5_mirrors 16 = .ok (.iconst 0, 1) := by decide +kernel
theorem dX5_mirrors_17 : decode cX5_mirrors 17 = .ok (.istore 4, 2) := by decide +kernel
theorem dX5_mirrors_19 : decode cX5_mirrors 19 = .ok (.iload 4, 2) := by decide +kernel
theorem dX5_mirrors_21 : decode cX5_mirrors 21 = .ok (.aload_n 2, 1) := by decide +kernel
theorem dX5_mirrors_22 : decode cX5_mirrors 22 = .ok (.invokevirtual 42, 3) := by decide +kernel
theorem dX5_mirrors_25 : decode cX5_mirrors 25 = .ok (.if_icmp .ge 70, 3) := by decide +kernel
theorem dX5_mirrors_28 : decode cX5_mirrors 28 = .ok (.aload_n 0, 1) := by decide +kernel
theorem dX5_mirrors_29 : decode cX5_mirrors 29 = .ok (.getfield 23, 3) := by decide +kernel
theorem dX5_mirrors_32 : decode cX5_mirrors 32 = .ok (.iload 4, 2) := by decide +kernel
theorem dX5_mirrors_34 : decode cX5_mirrors 34 = .ok (.invokevirtual 183, 3) := by decide +kernel
theorem dX5_mirrors_37 : decode cX5_mirrors 37 = .ok (.istore 5, 2) := by decide +kernel
theorem dX5_mirrors_39 : decode cX5_mirrors 39 = .ok (.iload 5, 2) := by decide +kernel
theorem dX5_mirrors_41 : decode cX5_mirrors 41 = .ok (.aload_n 0, 1) := by decide +kernel
theorem dX5_mirrors_42 : decode cX5_mirrors 42 = .ok (.getfield 23, 3) := by decide +kernel
theorem dX5_mirrors_45 : decode cX5_mirrors 45 = .ok (.aload_n 2, 1) := by decide +kernel
theorem dX5_mirrors_46 : decode cX5_mirrors 46 = .ok (.iload 4, 2) := by decide +kernel
theorem dX5_mirrors_48 : decode cX5_mirrors 48 = .ok (.invokevirtual 189, 3) := by decide +kernel
theorem dX5_mirrors_51 : decode cX5_mirrors 51 = .ok (.iadd, 1) := by decide +kernel
theorem dX5_mirrors_52 : decode cX5_mirrors 52 = .ok (.iconst 1, 1) := by decide +kernel
theorem dX5_mirrors_53 : decode cX5_mirrors 53 = .ok (.iadd, 1) := by decide +kernel
theorem dX5_mirrors_54 : decode cX5_mirrors 54 = .ok (.istore 6, 2) := by decide +kernel
theorem dX5_mirrors_56 : decode cX5_mirrors 56 = .ok (.iload 6, 2) := by decide +kernel
theorem dX5_mirrors_58 : decode cX5_mirrors 58 = .ok (.istore 7, 2) := by decide +kernel
theorem dX5_mirrors_60 : decode cX5_mirrors 60 = .ok (.iload 7, 2) := by decide +kernel
theorem dX5_mirrors_62 : decode cX5_mirrors 62 = .ok (.aload_n 2, 1) := by decide +kernel
theorem dX5_mirrors_63 : decode cX5_mirrors 63 = .ok (.invokevirtual 42, 3) := by decide +kernel
theorem dX5_mirrors_66 : decode cX5_mirrors 66 = .ok (.if_icmp .gt 23, 3) := by decide +kernel
theorem dX5_mirrors_69 : decode cX5_mirrors 69 = .ok (.aload_n 2, 1) := by decide +kernel
theorem dX5_mirrors_70 : decode cX5_mirrors 70 = .ok (.iload 5, 2) := by decide +kernel
theorem dX5_mirrors_72 : decode cX5_mirrors 72 = .ok (.iload 7, 2) := by decide +kernel
theorem dX5_mirrors_74 : decode cX5_mirrors 74 = .ok (.invokevirtual 192, 3) := by decide +kernel
theorem dX5_mirrors_77 : decode cX5_mirrors 77 = .ok (.ifCond .eq 6, 3) := by decide +kernel
theorem dX5_mirrors_80 : decode cX5_mirrors 80 = .ok (.iinc 3 1, 3) := by decide +kernel
theorem dX5_mirrors_83 : decode cX5_mirrors 83 = .ok (.iinc 7 1, 3) := by decide +kernel
theorem dX5_mirrors_86 : decode cX5_mirrors 86 = .ok (.goto (-26), 3) := by decide +kernel
theorem dX5_mirrors_89 : decode cX5_mirrors 89 = .ok (.iinc 4 1, 3) := by decide +kernel
theorem dX5_mirrors_92 : decode cX5_mirrors 92 = .ok (.goto (-73), 3) := by decide +kernel
theorem dX5_mirrors_95 : decode cX5_mirrors 95 = .ok (.iload_n 3, 1) := by decide +kernel
theorem dX5_mirrors_96 : decode cX5_mirrors 96 = .ok (.ireturn, 1) := by decide +kernel
set_option maxRecDepth 20000 in
theorem ggX5_commute_X5_textOf : GoodIn wsX5_commute wsX5_textOf := goodIn_ca (goodIn_r _ [5, 6, 7, 8, 27, 28, 29, 30] (by decide +kernel) (by decide +kernel)) (goodIn_sub (fun _ h => List.mem_cons_of_mem _ (List.mem_append_left _ (List.mem_append_right _ h))) (by decide +kernel))
set_option maxRecDepth 20000 in
theorem gX5_commute_X5_textOf : GoodIn wsX5_commute (wsV RX5 34 RX5 yX5_textOf wsX5_textOf) := goodIn_app (goodIn_of _ (by decide +kernel)) ggX5_commute_X5_textOf
set_option maxRecDepth 20000 in
theorem ggX5_commute_X3_doCommute : GoodIn wsX5_commute wsX3_doCommute := goodIn_ca (goodIn_r _ [12, 13, 14, 15, 16, 17, 18, 19, 20, 11, 21, 22, 23, 24, 25, 26, 31, 32] (by decide +kernel) (by decide +kernel)) (goodIn_sub (fun _ h => List.mem_cons_of_mem _ (List.mem_append_right _ h)) (by decide +kernel))
set_option maxRecDepth 20000 in
theorem gX5_commute_X3_doCommute : GoodIn wsX5_commute (va_wsS RX5 196 yX3_doCommute wsX3_doCommute) := goodIn_app (goodIn_of _ (by decide +kernel)) ggX5_commute_X3_doCommute
theorem dX5_commute_0 : decode cX5_commute 0 = .ok (.aload_n 0, 1) := by decide +kernel
theorem dX5_commute_1 : decode cX5_commute 1 = .ok (.iload_n 1, 1) := by decide +kernel
theorem dX5_commute_2 : decode cX5_commute 2 = .ok (.invokevirtual 34, 3) := by decide +kernel
theorem dX5_commute_5 : decode cX5_commute 5 = .ok (.aload_n 0, 1) := by decide +kernel
theorem dX5_commute_6 : decode cX5_commute 6 = .ok (.iload_n 2, 1) := by decide +kernel
theorem dX5_commute_7 : decode cX5_commute 7 = .ok (.invokevirtual 34, 3) := by decide +kernel
theorem dX5_commute_10 : decode cX5_commute 10 = .ok (.invokestatic 196, 3) := by decide +kernel
theorem dX5_commute_13 : decode cX5_commute 13 = .ok (.ireturn, 1) := by decide +kernel
set_option maxRecDepth 20000 in
theorem ggX5_commonRoot_X5_textOf : GoodIn wsX5_commonRoot wsX5_textOf := goodIn_ca (goodIn_r _ [7, 8, 9, 10, 79, 80, 81, 82] (by decide +kernel) (by decide +kernel)) (goodIn_sub (fun _ h => List.mem_cons_of_mem _ (List.mem_append_left _ (List.mem_append_left _ (List.mem_append_right _ h)))) (by decide +kernel))
set_option maxRecDepth 20000 in
theorem gX5_commonRoot_X5_textOf : GoodIn wsX5_commonRoot (wsV RX5 34 RX5 yX5_textOf wsX5_textOf) := goodIn_app (goodIn_of _ (by decide +kernel)) ggX5_commonRoot_X5_textOf
set_option maxRecDepth 20000 in
theorem ggX5_commonRoot_X3_sharedSize : GoodIn wsX5_commonRoot wsX3_sharedSize := goodIn_ca (goodIn_ca (goodIn_r _ [14, 15, 16, 17, 18, 19, 20, 21, 22, 23, 24, 25, 26, 27, 28, 29, 30, 31, 32, 33, 34, 35, 36, 37, 38, 39, 40, 41, 42, 83, 84] (by decide +kernel) (by decide +kernel)) (goodIn_sub (fun _ h => List.mem_cons_of_mem _ (List.mem_append_left _ (List.mem_append_right _ h))) (by decide +kernel))) (goodIn_sub (fun _ h => List.mem_cons_of_mem _ (List.mem_append_right _ h)) (by decide +kernel))
set_option maxRecDepth 20000 in
theorem gX5_commonRoot_X3_sharedSize : GoodIn wsX5_commonRoot (va_wsS RX5 202 yX3_sharedSize wsX3_sharedSize) := goodIn_app (goodIn_of _ (by decide +kernel)) ggX5_commonRoot_X3_sharedSize
set_option maxRecDepth 20000 in
theorem ggX5_commonRoot_X4_isEmpty : GoodIn wsX5_commonRoot wsX4_isEmpty := goodIn_r _ [19, 20, 83, 84] (by decide +kernel) (by decide +kernel)
set_option maxRecDepth 20000 in
theorem gX5_commonRoot_X4_isEmpty : GoodIn wsX5_commonRoot (wsV RX5 85 RX4 yX4_isEmpty wsX4_isEmpty) := goodIn_app (goodIn_of _ (by decide +kernel)) ggX5_commonRoot_X4_isEmpty
set_option maxRecDepth 20000 in
theorem ggX5_commonRoot_X5_becomePart : GoodIn wsX5_commonRoot wsX5_becomePart := goodIn_ca (goodIn_r _ [47, 48, 49, 50, 51, 18, 52, 20, 53, 54, 55, 56, 37, 38, 39, 40, 41, 57, 58, 59, 60, 61, 62, 63, 6, 64, 65, 66, 67, 68, 69, 70, 71, 72, 73, 74, 75, 76, 77, 78, 79, 80, 81, 82, 83, 84] (by decide +kernel) (by decide +kernel)) (goodIn_sub (fun _ h => List.mem_cons_of_mem _ (List.mem_append_right _ h)) (by decide +kernel))
set_option maxRecDepth 20000 in
theorem gX5_commonRoot_X5_becomePart : GoodIn wsX5_commonRoot (wsV RX5 94 RX5 yX5_becomePart wsX5_becomePart) := goodIn_app (goodIn_of _ (by decide +kernel)) ggX5_commonRoot_X5_becomePart
theorem dX5_commonRoot_0 : decode cX5_commonRoot 0 = .ok (.aload_n 0, 1) := by decide +kernel
theorem dX5_commonRoot_1 : decode cX5_commonRoot 1 = .ok (.iload_n 1, 1) := by decide +kernel
theorem dX5_commonRoot_2 : decode cX5_commonRoot 2 = .ok (.invokevirtual 34, 3) := by decide +kernel
theorem dX5_commonRoot_5 : decode cX5_commonRoot 5 = .ok (.astore 4, 2) := by decide +kernel
theorem dX5_commonRoot_7 : decode cX5_commonRoot 7 = .ok (.aload_n 0, 1) := by decide +kernel
theorem dX5_commonRoot_8 : decode cX5_commonRoot 8 = .ok (.iload_n 2, 1) := by decide +kernel
theorem dX5_commonRoot_9 : decode cX5_commonRoot 9 = .ok (.invokevirtual 34, 3) := by decide +kernel
theorem dX5_commonRoot_12 : decode cX5_commonRoot 12 = .ok (.astore 5, 2) := by decide +kernel
theorem dX5_commonRoot_14 : decode cX5_commonRoot 14 = .ok (.aload_n 0, 1) := by decide +kernel
theorem dX5_commonRoot_15 : decode cX5_commonRoot 15 = .ok (.iload_n 3, 1) := by decide +kernel
theorem dX5_commonRoot_16 : decode cX5_commonRoot 16 = .ok (.invokevirtual 34, 3) := by decide +kernel
theorem dX5_commonRoot_19 : decode cX5_commonRoot 19 = .ok (.astore 6, 2) := by decide +kernel
theorem dX5_commonRoot_21 : decode cX5_commonRoot 21 = .ok (.aload 5, 2) := by decide +kernel
theorem dX5_commonRoot_23 : decode cX5_commonRoot 23 = .ok (.aload 6, 2) := by decide +kernel
theorem dX5_commonRoot_25 : decode cX5_commonRoot 25 = .ok (.invokestatic 202, 3) := by decide +kernel
theorem dX5_commonRoot_28 : decode cX5_commonRoot 28 = .ok (.istore 7, 2) := by decide +kernel
theorem dX5_commonRoot_30 : decode cX5_commonRoot 30 = .ok (.iload 7, 2) := by decide +kernel
theorem dX5_commonRoot_32 : decode cX5_commonRoot 32 = .ok (.ifCond .ne 13, 3) := by decide +kernel
theorem dX5_commonRoot_35 : decode cX5_commonRoot 35 = .ok (.new 206, 3) := by decide +kernel
theorem dX5_commonRoot_38 : decode cX5_commonRoot 38 = .ok (.dup, 1) := by decide +kernel
theorem dX5_commonRoot_39 : decode cX5_commonRoot 39 = .ok (.ldc 208, 2) := by decide +kernel
theorem dX5_commonRoot_41 : decode cX5_commonRoot 41 = .ok (.invokespecial 210, 3) := by decide +kernel
theorem dX5_commonRoot_44 : decode cX5_commonRoot 44 = .ok (.athrow, 1) := by decide +kernel
theorem dX5_commonRoot_45 : decode cX5_commonRoot 45 = .ok (.aload_n 0, 1) := by decide +kernel
theorem dX5_commonRoot_46 : decode cX5_commonRoot 46 = .ok (.aload 4, 2) := by decide +kernel
theorem dX5_commonRoot_48 : decode cX5_commonRoot 48 = .ok (.aload 5, 2) := by decide +kernel
theorem dX5_commonRoot_50 : decode cX5_commonRoot 50 = .ok (.invokevirtual 85, 3) := by decide +kernel
theorem dX5_commonRoot_53 : decode cX5_commonRoot 53 = .ok (.ifCond .eq 8, 3) := by decide +kernel
theorem dX5_commonRoot_56 : decode cX5_commonRoot 56 = .ok (.aload 6, 2) := by decide +kernel
theorem dX5_commonRoot_58 : decode cX5_commonRoot 58 = .ok (.goto 5, 3) := by decide +kernel
theorem dX5_commonRoot_61 : decode cX5_commonRoot 61 = .ok (.aload 5, 2) := by decide +kernel
theorem dX5_commonRoot_63 : decode cX5_commonRoot 63 = .ok (.iconst 0, 1) := by decide +kernel
theorem dX5_commonRoot_64 : decode cX5_commonRoot 64 = .ok (.iload 7, 2) := by decide +kernel
theorem dX5_commonRoot_66 : decode cX5_commonRoot 66 = .ok (.invokevirtual 94, 3) := by decide +kernel
theorem dX5_commonRoot_69 : decode cX5_commonRoot 69 = .ok (.ireturn, 1) := by decide +kernel
set_option maxRecDepth 20000 in
theorem ggX5_ways_X5_textOf : GoodIn wsX5_ways wsX5_textOf := goodIn_ca (goodIn_r _ [7, 8, 9, 2, 55, 56, 57, 58] (by decide +kernel) (by decide +kernel)) (goodIn_sub (fun _ h => List.mem_cons_of_mem _ (List.mem_append_left _ (List.mem_append_left _ (List.mem_append_right _ h)))) (by decide +kernel))
set_option maxRecDepth 20000 in
theorem gX5_ways_X5_textOf : GoodIn wsX5_ways (wsV RX5 34 RX5 yX5_textOf wsX5_textOf) := goodIn_app (goodIn_of _ (by decide +kernel)) ggX5_ways_X5_textOf
set_option maxRecDepth 20000 in
theorem ggX5_ways_X5_requireSet : GoodIn wsX5_ways wsX5_requireSet := goodIn_ca (goodIn_r _ [12, 13, 14] (by decide +kernel) (by decide +kernel)) (goodIn_sub (fun _ h => List.mem_cons_of_mem _ (List.mem_append_left _ (List.mem_append_right _ h))) (by decide +kernel))
set_option maxRecDepth 20000 in
theorem gX5_ways_X5_requireSet : GoodIn wsX5_ways (va_wsS RX5 211 yX5_requireSet wsX5_requireSet) := goodIn_app (goodIn_of _ (by decide +kernel)) ggX5_ways_X5_requireSet
set_option maxRecDepth 20000 in
theorem ggX5_ways_X2_countRows : GoodIn wsX5_ways wsX2_countRows := goodIn_ca (goodIn_r _ [19, 20, 21, 22, 23, 24, 25, 26, 27, 28, 18, 29, 30, 31, 32, 33, 34, 35, 36, 37, 38, 39, 40, 41, 42, 43, 44, 45, 46, 47, 48, 49, 50, 51, 52, 53, 54, 59, 60, 61, 62, 63, 64, 65] (by decide +kernel) (by decide +kernel)) (goodIn_sub (fun _ h => List.mem_cons_of_mem _ (List.mem_append_right _ h)) (by decide +kernel))
set_option maxRecDepth 20000 in
theorem gX5_ways_X2_countRows : GoodIn wsX5_ways (wsV RX5 215 RX2 yX2_countRows wsX2_countRows) := goodIn_app (goodIn_of _ (by decide +kernel)) ggX5_ways_X2_countRows
theorem dX5_ways_0 : decode cX5_ways 0 = .ok (.aload_n 0, 1) := by decide +kernel
theorem dX5_ways_1 : decode cX5_ways 1 = .ok (.iload_n 1, 1) := by decide +kernel
theorem dX5_ways_2 : decode cX5_ways 2 = .ok (.invokevirtual 34, 3) := by decide +kernel
theorem dX5_ways_5 : decode cX5_ways 5 = .ok (.astore_n 3, 1) := by decide +kernel
theorem dX5_ways_6 : decode cX5_ways 6 = .ok (.iload_n 2, 1) := by decide +kernel
theorem dX5_ways_7 : decode cX5_ways 7 = .ok (.invokestatic 211, 3) := by decide +kernel
theorem dX5_ways_10 : decode cX5_ways 10 = .ok (.aload_n 0, 1) := by decide +kernel
theorem dX5_ways_11 : decode cX5_ways 11 = .ok (.getfield 30, 3) := by decide +kernel
theorem dX5_ways_14 : decode cX5_ways 14 = .ok (.aload_n 3, 1) := by decide +kernel
theorem dX5_ways_15 : decode cX5_ways 15 = .ok (.aload_n 0, 1) := by decide +kernel
theorem dX5_ways_16 : decode cX5_ways 16 = .ok (.getfield 11, 3) := by decide +kernel
theorem dX5_ways_19 : decode cX5_ways 19 = .ok (.iload_n 2, 1) := by decide +kernel
theorem dX5_ways_20 : decode cX5_ways 20 = .ok (.invokevirtual 215, 3) := by decide +kernel
theorem dX5_ways_23 : decode cX5_ways 23 = .ok (.lreturn, 1) := by decide +kernel
set_option maxRecDepth 20000 in
theorem ggX5_isFree_X5_requireSet : GoodIn wsX5_isFree wsX5_requireSet := goodIn_ca (goodIn_r _ [6, 7, 8] (by decide +kernel) (by decide +kernel)) (goodIn_sub (fun _ h => List.mem_cons_of_mem _ (List.mem_append_left _ (List.mem_append_right _ h))) (by decide +kernel))
set_option maxRecDepth 20000 in
theorem gX5_isFree_X5_requireSet : GoodIn wsX5_isFree (va_wsS RX5 211 yX5_requireSet wsX5_requireSet) := goodIn_app (goodIn_of _ (by decide +kernel)) ggX5_isFree_X5_requireSet
set_option maxRecDepth 20000 in
theorem ggX5_isFree_X2_areFree : GoodIn wsX5_isFree wsX2_areFree := goodIn_ca (goodIn_r _ [13, 14, 15, 16, 17, 18, 19, 12, 20, 21, 22, 23, 24, 25, 26, 27, 28, 29, 30, 31, 32, 33, 34, 35, 36, 37, 38, 39, 40, 41, 42, 43, 44, 45, 46, 47, 48, 49, 50, 51, 52, 53, 54, 55, 60, 61, 62, 63, 64, 65, 66] (by decide +kernel) (by decide +kernel)) (goodIn_sub (fun _ h => List.mem_cons_of_mem _ (List.mem_append_right _ h)) (by decide +kernel))
set_option maxRecDepth 20000 in
theorem gX5_isFree_X2_areFree : GoodIn wsX5_isFree (wsV RX5 219 RX2 yX2_areFree wsX2_areFree) := goodIn_app (goodIn_of _ (by decide +kernel)) ggX5_isFree_X2_areFree
theorem dX5_isFree_0 : decode cX5_isFree 0 = .ok (.iload_n 1, 1) := by decide +kernel
theorem dX5_isFree_1 : decode cX5_isFree 1 = .ok (.invokestatic 211, 3) := by decide +kernel
theorem dX5_isFree_4 : decode cX5_isFree 4 = .ok (.aload_n 0, 1) := by decide +kernel
theorem dX5_isFree_5 : decode cX5_isFree 5 = .ok (.getfield 30, 3) := by decide +kernel
theorem dX5_isFree_8 : decode cX5_isFree 8 = .ok (.aload_n 0, 1) := by decide +kernel
theorem dX5_isFree_9 : decode cX5_isFree 9 = .ok (.getfield 11, 3) := by decide +kernel
theorem dX5_isFree_12 : decode cX5_isFree 12 = .ok (.iload_n 1, 1) := by decide +kernel
theorem dX5_isFree_13 : decode cX5_isFree 13 = .ok (.invokevirtual 219, 3) := by decide +kernel
theorem dX5_isFree_16 : decode cX5_isFree 16 = .ok (.ireturn, 1) := by decide +kernel
set_option maxRecDepth 20000 in
theorem ggX5_rootShare_X5_textOf : GoodIn wsX5_rootShare wsX5_textOf := goodIn_ca (goodIn_r _ [7, 8, 9, 10, 42, 43, 44, 45] (by decide +kernel) (by decide +kernel)) (goodIn_sub (fun _ h => List.mem_cons_of_mem _ (List.mem_append_left _ (List.mem_append_left _ (List.mem_append_right _ h)))) (by decide +kernel))
set_option maxRecDepth 20000 in
theorem gX5_rootShare_X5_textOf : GoodIn wsX5_rootShare (wsV RX5 34 RX5 yX5_textOf wsX5_textOf) := goodIn_app (goodIn_of _ (by decide +kernel)) ggX5_rootShare_X5_textOf
set_option maxRecDepth 20000 in
theorem ggX5_rootShare_X4_isEmpty : GoodIn wsX5_rootShare wsX4_isEmpty := goodIn_r _ [15, 16, 46, 47] (by decide +kernel) (by decide +kernel)
set_option maxRecDepth 20000 in
theorem gX5_rootShare_X4_isEmpty : GoodIn wsX5_rootShare (wsV RX5 85 RX4 yX4_isEmpty wsX4_isEmpty) := goodIn_app (goodIn_of _ (by decide +kernel)) ggX5_rootShare_X4_isEmpty
set_option maxRecDepth 20000 in
theorem ggX5_rootShare_X4_rootSize : GoodIn wsX5_rootShare wsX4_rootSize := goodIn_ca (goodIn_ca (goodIn_r _ [20, 16, 21, 22, 23, 14, 24, 25, 26, 27, 28, 29, 30, 31, 32, 33, 34, 35, 36, 37, 46, 47] (by decide +kernel) (by decide +kernel)) (goodIn_sub (fun _ h => List.mem_cons_of_mem _ (List.mem_append_left _ (List.mem_append_right _ h))) (by decide +kernel))) (goodIn_sub (fun _ h => List.mem_cons_of_mem _ (List.mem_append_right _ h)) (by decide +kernel))
set_option maxRecDepth 20000 in
theorem gX5_rootShare_X4_rootSize : GoodIn wsX5_rootShare (wsV RX5 158 RX4 yX4_rootSize wsX4_rootSize) := goodIn_app (goodIn_of _ (by decide +kernel)) ggX5_rootShare_X4_rootSize
set_option maxRecDepth 20000 in
theorem ggX5_rootShare_X4_size : GoodIn wsX5_rootShare wsX4_size := goodIn_r _ [41, 16, 46, 47] (by decide +kernel) (by decide +kernel)
set_option maxRecDepth 20000 in
theorem gX5_rootShare_X4_size : GoodIn wsX5_rootShare (wsV RX5 42 RX4 yX4_size wsX4_size) := goodIn_app (goodIn_of _ (by decide +kernel)) ggX5_rootShare_X4_size
theorem dX5_rootShare_0 : decode cX5_rootShare 0 = .ok (.aload_n 0, 1) := by decide +kernel
theorem dX5_rootShare_1 : decode cX5_rootShare 1 = .ok (.iload_n 1, 1) := by decide +kernel
theorem dX5_rootShare_2 : decode cX5_rootShare 2 = .ok (.invokevirtual 34, 3) := by decide +kernel
theorem dX5_rootShare_5 : decode cX5_rootShare 5 = .ok (.astore_n 2, 1) := by decide +kernel
theorem dX5_rootShare_6 : decode cX5_rootShare 6 = .ok (.aload_n 2, 1) := by decide +kernel
theorem dX5_rootShare_7 : decode cX5_rootShare 7 = .ok (.invokevirtual 85, 3) := by decide +kernel
theorem dX5_rootShare_10 : decode cX5_rootShare 10 = .ok (.ifCond .eq 13, 3) := by decide +kernel
theorem dX5_rootShare_13 : decode cX5_rootShare 13 = .ok (.new 223, 3) := by decide +kernel
theorem dX5_rootShare_16 : decode cX5_rootShare 16 = .ok (.dup, 1) := by decide +kernel
theorem dX5_rootShare_17 : decode cX5_rootShare 17 = .ok (.ldc 225, 2) := by decide +kernel
theorem dX5_rootShare_19 : decode cX5_rootShare 19 = .ok (.invokespecial 227, 3) := by decide +kernel
theorem dX5_rootShare_22 : decode cX5_rootShare 22 = .ok (.athrow, 1) := by decide +kernel
theorem dX5_rootShare_23 : decode cX5_rootShare 23 = .ok (.aload_n 2, 1) := by decide +kernel
theorem dX5_rootShare_24 : decode cX5_rootShare 24 = .ok (.invokevirtual 158, 3) := by decide +kernel
theorem dX5_rootShare_27 : decode cX5_rootShare 27 = .ok (.i2f, 1) := by decide +kernel
theorem dX5_rootShare_28 : decode cX5_rootShare 28 = .ok (.aload_n 2, 1) := by decide +kernel
theorem dX5_rootShare_29 : decode cX5_rootShare 29 = .ok (.invokevirtual 42, 3) := by decide +kernel
theorem dX5_rootShare_32 : decode cX5_rootShare 32 = .ok (.i2f, 1) := by decide +kernel
theorem dX5_rootShare_33 : decode cX5_rootShare 33 = .ok (.fdiv, 1) := by decide +kernel
theorem dX5_rootShare_34 : decode cX5_rootShare 34 = .ok (.freturn, 1) := by decide +kernel
set_option maxRecDepth 20000 in
theorem ggX5_meanPeriod_X5_textOf : GoodIn wsX5_meanPeriod wsX5_textOf := goodIn_ca (goodIn_r _ [7, 8, 9, 10, 38, 39, 40, 41] (by decide +kernel) (by decide +kernel)) (goodIn_sub (fun _ h => List.mem_cons_of_mem _ (List.mem_append_left _ (List.mem_append_right _ h))) (by decide +kernel))
set_option maxRecDepth 20000 in
theorem gX5_meanPeriod_X5_textOf : GoodIn wsX5_meanPeriod (wsV RX5 34 RX5 yX5_textOf wsX5_textOf) := goodIn_app (goodIn_of _ (by decide +kernel)) ggX5_meanPeriod_X5_textOf
set_option maxRecDepth 20000 in
theorem ggX5_meanPeriod_X4_countPeriods : GoodIn wsX5_meanPeriod wsX4_countPeriods := goodIn_ca (goodIn_r _ [15, 16, 17, 18, 19, 14, 20, 21, 22, 23, 24, 25, 26, 27, 28, 29, 30, 31, 32, 33, 42, 43] (by decide +kernel) (by decide +kernel)) (goodIn_sub (fun _ h => List.mem_cons_of_mem _ (List.mem_append_right _ h)) (by decide +kernel))
set_option maxRecDepth 20000 in
theorem gX5_meanPeriod_X4_countPeriods : GoodIn wsX5_meanPeriod (wsV RX5 143 RX4 yX4_countPeriods wsX4_countPeriods) := goodIn_app (goodIn_of _ (by decide +kernel)) ggX5_meanPeriod_X4_countPeriods
set_option maxRecDepth 20000 in
theorem ggX5_meanPeriod_X4_sumPeriods : GoodIn wsX5_meanPeriod wsX4_sumPeriods := goodIn_ca (goodIn_r _ [37, 16, 17, 18, 19, 14, 20, 21, 22, 23, 24, 25, 26, 27, 28, 29, 30, 31, 32, 33, 42, 43] (by decide +kernel) (by decide +kernel)) (goodIn_sub (fun _ h => List.mem_cons_of_mem _ (List.mem_append_right _ h)) (by decide +kernel))
set_option maxRecDepth 20000 in
theorem gX5_meanPeriod_X4_sumPeriods : GoodIn wsX5_meanPeriod (wsV RX5 230 RX4 yX4_sumPeriods wsX4_sumPeriods) := goodIn_app (goodIn_of _ (by decide +kernel)) ggX5_meanPeriod_X4_sumPeriods
theorem dX5_meanPeriod_0 : decode cX5_meanPeriod 0 = .ok (.aload_n 0, 1) := by decide +kernel
theorem dX5_meanPeriod_1 : decode cX5_meanPeriod 1 = .ok (.iload_n 1, 1) := by decide +kernel
theorem dX5_meanPeriod_2 : decode cX5_meanPeriod 2 = .ok (.invokevirtual 34, 3) := by decide +kernel
theorem dX5_meanPeriod_5 : decode cX5_meanPeriod 5 = .ok (.astore_n 2, 1) := by decide +kernel
theorem dX5_meanPeriod_6 : decode cX5_meanPeriod 6 = .ok (.aload_n 2, 1) := by decide +kernel
theorem dX5_meanPeriod_7 : decode cX5_meanPeriod 7 = .ok (.invokevirtual 143, 3) := by decide +kernel
theorem dX5_meanPeriod_10 : decode cX5_meanPeriod 10 = .ok (.istore_n 3, 1) := by decide +kernel
theorem dX5_meanPeriod_11 : decode cX5_meanPeriod 11 = .ok (.iload_n 3, 1) := by decide +kernel
theorem dX5_meanPeriod_12 : decode cX5_meanPeriod 12 = .ok (.ifCond .ne 13, 3) := by decide +kernel
theorem dX5_meanPeriod_15 : decode cX5_meanPeriod 15 = .ok (.new 223, 3) := by decide +kernel
theorem dX5_meanPeriod_18 : decode cX5_meanPeriod 18 = .ok (.dup, 1) := by decide +kernel
theorem dX5_meanPeriod_19 : decode cX5_meanPeriod 19 = .ok (.ldc 228, 2) := by decide +kernel
theorem dX5_meanPeriod_21 : decode cX5_meanPeriod 21 = .ok (.invokespecial 227, 3) := by decide +kernel
theorem dX5_meanPeriod_24 : decode cX5_meanPeriod 24 = .ok (.athrow, 1) := by decide +kernel
theorem dX5_meanPeriod_25 : decode cX5_meanPeriod 25 = .ok (.aload_n 2, 1) := by decide +kernel
theorem dX5_meanPeriod_26 : decode cX5_meanPeriod 26 = .ok (.invokevirtual 230, 3) := by decide +kernel
theorem dX5_meanPeriod_29 : decode cX5_meanPeriod 29 = .ok (.i2d, 1) := by decide +kernel
theorem dX5_meanPeriod_30 : decode cX5_meanPeriod 30 = .ok (.iload_n 3, 1) := by decide +kernel
theorem dX5_meanPeriod_31 : decode cX5_meanPeriod 31 = .ok (.i2d, 1) := by decide +kernel
theorem dX5_meanPeriod_32 : decode cX5_meanPeriod 32 = .ok (.ddiv, 1) := by decide +kernel
theorem dX5_meanPeriod_33 : decode cX5_meanPeriod 33 = .ok (.dreturn, 1) := by decide +kernel
set_option maxRecDepth 20000 in
theorem ggX5_checksum_X4_size : GoodIn wsX5_checksum wsX4_size := goodIn_r _ [8, 9, 39, 40] (by decide +kernel) (by decide +kernel)
set_option maxRecDepth 20000 in
theorem gX5_checksum_X4_size : GoodIn wsX5_checksum (wsV RX5 42 RX4 yX4_size wsX4_size) := goodIn_app (goodIn_of _ (by decide +kernel)) ggX5_checksum_X4_size
set_option maxRecDepth 20000 in
theorem ggX5_checksum_X4_hashFrom : GoodIn wsX5_checksum wsX4_hashFrom := goodIn_ca (goodIn_r _ [13, 9, 14, 15, 16, 7, 17, 18, 39, 40] (by decide +kernel) (by decide +kernel)) (goodIn_sub (fun _ h => List.mem_cons_of_mem _ (List.mem_append_right _ h)) (by decide +kernel))
set_option maxRecDepth 20000 in
theorem gX5_checksum_X4_hashFrom : GoodIn wsX5_checksum (wsV RX5 134 RX4 yX4_hashFrom wsX4_hashFrom) := goodIn_app (goodIn_of _ (by decide +kernel)) ggX5_checksum_X4_hashFrom
set_option maxRecDepth 20000 in
theorem ggX5_checksum_X4_countPeriods : GoodIn wsX5_checksum wsX4_countPeriods := goodIn_ca (goodIn_r _ [22, 9, 23, 24, 25, 7, 26, 27, 28, 29, 30, 31, 32, 33, 34, 14, 15, 16, 17, 18, 39, 40] (by decide +kernel) (by decide +kernel)) (goodIn_sub (fun _ h => List.mem_cons_of_mem _ (List.mem_append_right _ h)) (by decide +kernel))
set_option maxRecDepth 20000 in
theorem gX5_checksum_X4_countPeriods : GoodIn wsX5_checksum (wsV RX5 143 RX4 yX4_countPeriods wsX4_countPeriods) := goodIn_app (goodIn_of _ (by decide +kernel)) ggX5_checksum_X4_countPeriods
theorem dX5_checksum_0 : decode cX5_checksum 0 = .ok (.ldc2_w 233, 3) := by decide +kernel
theorem dX5_checksum_3 : decode cX5_checksum 3 = .ok (.lstore_n 1, 1) := by decide +kernel
theorem dX5_checksum_4 : decode cX5_checksum 4 = .ok (.iconst 0, 1) := by decide +kernel
theorem dX5_checksum_5 : decode cX5_checksum 5 = .ok (.istore_n 3, 1) := by decide +kernel
theorem dX5_checksum_6 : decode cX5_checksum 6 = .ok (.iload_n 3, 1) := by decide +kernel
theorem dX5_checksum_7 : decode cX5_checksum 7 = .ok (.bipush 6, 2) := by decide +kernel
theorem dX5_checksum_9 : decode cX5_checksum 9 = .ok (.if_icmp .ge 57, 3) := by decide +kernel
theorem dX5_checksum_12 : decode cX5_checksum 12 = .ok (.aload_n 0, 1) := by decide +kernel
theorem dX5_checksum_13 : decode cX5_checksum 13 = .ok (.getfield 11, 3) := by decide +kernel
theorem dX5_checksum_16 : decode cX5_checksum 16 = .ok (.iload_n 3, 1) := by decide +kernel
theorem dX5_checksum_17 : decode cX5_checksum 17 = .ok (.aaload, 1) := by decide +kernel
theorem dX5_checksum_18 : decode cX5_checksum 18 = .ok (.astore 4, 2) := by decide +kernel
theorem dX5_checksum_20 : decode cX5_checksum 20 = .ok (.lload_n 1, 1) := by decide +kernel
theorem dX5_checksum_21 : decode cX5_checksum 21 = .ok (.ldc2_w 235, 3) := by decide +kernel
theorem dX5_checksum_24 : decode cX5_checksum 24 = .ok (.lmul, 1) := by decide +kernel
theorem dX5_checksum_25 : decode cX5_checksum 25 = .ok (.aload 4, 2) := by decide +kernel
theorem dX5_checksum_27 : decode cX5_checksum 27 = .ok (.invokevirtual 42, 3) := by decide +kernel
theorem dX5_checksum_30 : decode cX5_checksum 30 = .ok (.i2l, 1) := by decide +kernel
theorem dX5_checksum_31 : decode cX5_checksum 31 = .ok (.ladd, 1) := by decide +kernel
theorem dX5_checksum_32 : decode cX5_checksum 32 = .ok (.lstore_n 1, 1) := by decide +kernel
theorem dX5_checksum_33 : decode cX5_checksum 33 = .ok (.lload_n 1, 1) := by decide +kernel
theorem dX5_checksum_34 : decode cX5_checksum 34 = .ok (.ldc2_w 235, 3) := by decide +kernel
theorem dX5_checksum_37 : decode cX5_checksum 37 = .ok (.lmul, 1) := by decide +kernel
theorem dX5_checksum_38 : decode cX5_checksum 38 = .ok (.aload 4, 2) := by decide +kernel
theorem dX5_checksum_40 : decode cX5_checksum 40 = .ok (.iconst 0, 1) := by decide +kernel
theorem dX5_checksum_41 : decode cX5_checksum 41 = .ok (.invokevirtual 134, 3) := by decide +kernel
theorem dX5_checksum_44 : decode cX5_checksum 44 = .ok (.i2l, 1) := by decide +kernel
theorem dX5_checksum_45 : decode cX5_checksum 45 = .ok (.ladd, 1) := by decide +kernel
theorem dX5_checksum_46 : decode cX5_checksum 46 = .ok (.lstore_n 1, 1) := by decide +kernel
theorem dX5_checksum_47 : decode cX5_checksum 47 = .ok (.lload_n 1, 1) := by decide +kernel
theorem dX5_checksum_48 : decode cX5_checksum 48 = .ok (.ldc2_w 235, 3) := by decide +kernel
theorem dX5_checksum_51 : decode cX5_checksum 51 = .ok (.lmul, 1) := by decide +kernel
theorem dX5_checksum_52 : decode cX5_checksum 52 = .ok (.aload 4, 2) := by decide +kernel
theorem dX5_checksum_54 : decode cX5_checksum 54 = .ok (.invokevirtual 143, 3) := by decide +kernel
theorem dX5_checksum_57 : decode cX5_checksum 57 = .ok (.i2l, 1) := by decide +kernel
theorem dX5_checksum_58 : decode cX5_checksum 58 = .ok (.ladd, 1) := by decide +kernel
theorem dX5_checksum_59 : decode cX5_checksum 59 = .ok (.lstore_n 1, 1) := by decide +kernel
theorem dX5_checksum_60 : decode cX5_checksum 60 = .ok (.iinc 3 1, 3) := by decide +kernel
theorem dX5_checksum_63 : decode cX5_checksum 63 = .ok (.goto (-57), 3) := by decide +kernel
theorem dX5_checksum_66 : decode cX5_checksum 66 = .ok (.lload_n 1, 1) := by decide +kernel
theorem dX5_checksum_67 : decode cX5_checksum 67 = .ok (.lreturn, 1) := by decide +kernel
set_option maxRecDepth 20000 in
theorem ggX5_isTrue_X1_areTrue : GoodIn wsX5_isTrue wsX1_areTrue := goodIn_ca (goodIn_r _ [5, 6, 7, 8, 9, 10, 11, 12, 13, 4, 14, 15, 16, 17, 18, 19, 20, 21, 22, 23, 24, 25, 26, 27, 28, 29, 30, 31, 32, 33, 34, 35, 36, 69, 70] (by decide +kernel) (by decide +kernel)) (goodIn_sub (fun _ h => List.mem_cons_of_mem _ (List.mem_append_left _ (List.mem_append_right _ h))) (by decide +kernel))
set_option maxRecDepth 20000 in
theorem gX5_isTrue_X1_areTrue : GoodIn wsX5_isTrue (va_wsS RX5 237 yX1_areTrue wsX1_areTrue) := goodIn_app (goodIn_of _ (by decide +kernel)) ggX5_isTrue_X1_areTrue
set_option maxRecDepth 20000 in
theorem ggX5_isTrue_X3_areTrue : GoodIn wsX5_isTrue wsX3_areTrue := goodIn_ca (goodIn_ca (goodIn_r _ [40, 41, 42, 43, 9, 44, 11, 45, 46, 39, 47, 48, 7, 8, 10, 49, 50, 51, 52, 16, 17, 18, 19, 53, 54, 55, 56, 57, 58, 59, 60, 61, 62, 63, 36, 24, 25, 26, 27, 28, 29, 30, 31, 64, 69, 70] (by decide +kernel) (by decide +kernel)) (goodIn_sub (fun _ h => List.mem_cons_of_mem _ (List.mem_append_left _ (List.mem_append_right _ h))) (by decide +kernel))) (goodIn_sub (fun _ h => List.mem_cons_of_mem _ (List.mem_append_right _ h)) (by decide +kernel))
set_option maxRecDepth 20000 in
theorem gX5_isTrue_X3_areTrue : GoodIn wsX5_isTrue (va_wsS RX5 241 yX3_areTrue wsX3_areTrue) := goodIn_app (goodIn_of _ (by decide +kernel)) ggX5_isTrue_X3_areTrue
theorem dX5_isTrue_0 : decode cX5_isTrue 0 = .ok (.iconst 0, 1) := by decide +kernel
theorem dX5_isTrue_1 : decode cX5_isTrue 1 = .ok (.istore_n 1, 1) := by decide +kernel
theorem dX5_isTrue_2 : decode cX5_isTrue 2 = .ok (.iload_n 1, 1) := by decide +kernel
theorem dX5_isTrue_3 : decode cX5_isTrue 3 = .ok (.bipush 6, 2) := by decide +kernel
theorem dX5_isTrue_5 : decode cX5_isTrue 5 = .ok (.if_icmp .ge 56, 3) := by decide +kernel
theorem dX5_isTrue_8 : decode cX5_isTrue 8 = .ok (.aload_n 0, 1) := by decide +kernel
theorem dX5_isTrue_9 : decode cX5_isTrue 9 = .ok (.getfield 11, 3) := by decide +kernel
theorem dX5_isTrue_12 : decode cX5_isTrue 12 = .ok (.iload_n 1, 1) := by decide +kernel
theorem dX5_isTrue_13 : decode cX5_isTrue 13 = .ok (.aaload, 1) := by decide +kernel
theorem dX5_isTrue_14 : decode cX5_isTrue 14 = .ok (.invokestatic 237, 3) := by decide +kernel
theorem dX5_isTrue_17 : decode cX5_isTrue 17 = .ok (.ifCond .ne 5, 3) := by decide +kernel
theorem dX5_isTrue_20 : decode cX5_isTrue 20 = .ok (.iconst 0, 1) := by decide +kernel
theorem dX5_isTrue_21 : decode cX5_isTrue 21 = .ok (.ireturn, 1) := by decide +kernel
theorem dX5_isTrue_22 : decode cX5_isTrue 22 = .ok (.iconst 0, 1) := by decide +kernel
theorem dX5_isTrue_23 : decode cX5_isTrue 23 = .ok (.istore_n 2, 1) := by decide +kernel
theorem dX5_isTrue_24 : decode cX5_isTrue 24 = .ok (.iload_n 2, 1) := by decide +kernel
theorem dX5_isTrue_25 : decode cX5_isTrue 25 = .ok (.iload_n 1, 1) := by decide +kernel
theorem dX5_isTrue_26 : decode cX5_isTrue 26 = .ok (.if_icmp .ge 29, 3) := by decide +kernel
theorem dX5_isTrue_29 : decode cX5_isTrue 29 = .ok (.aload_n 0, 1) := by decide +kernel
theorem dX5_isTrue_30 : decode cX5_isTrue 30 = .ok (.getfield 11, 3) := by decide +kernel
theorem dX5_isTrue_33 : decode cX5_isTrue 33 = .ok (.iload_n 1, 1) := by decide +kernel
theorem dX5_isTrue_34 : decode cX5_isTrue 34 = .ok (.aaload, 1) := by decide +kernel
theorem dX5_isTrue_35 : decode cX5_isTrue 35 = .ok (.aload_n 0, 1) := by decide +kernel
theorem dX5_isTrue_36 : decode cX5_isTrue 36 = .ok (.getfield 11, 3) := by decide +kernel
theorem dX5_isTrue_39 : decode cX5_isTrue 39 = .ok (.iload_n 2, 1) := by decide +kernel
theorem dX5_isTrue_40 : decode cX5_isTrue 40 = .ok (.aaload, 1) := by decide +kernel
theorem dX5_isTrue_41 : decode cX5_isTrue 41 = .ok (.invokestatic 241, 3) := by decide +kernel
theorem dX5_isTrue_44 : decode cX5_isTrue 44 = .ok (.ifCond .ne 5, 3) := by decide +kernel
theorem dX5_isTrue_47 : decode cX5_isTrue 47 = .ok (.iconst 0, 1) := by decide +kernel
theorem dX5_isTrue_48 : decode cX5_isTrue 48 = .ok (.ireturn, 1) := by decide +kernel
theorem dX5_isTrue_49 : decode cX5_isTrue 49 = .ok (.iinc 2 1, 3) := by decide +kernel
theorem dX5_isTrue_52 : decode cX5_isTrue 52 = .ok (.goto (-28), 3) := by decide +kernel
theorem dX5_isTrue_55 : decode cX5_isTrue 55 = .ok (.iinc 1 1, 3) := by decide +kernel
theorem dX5_isTrue_58 : decode cX5_isTrue 58 = .ok (.goto (-56), 3) := by decide +kernel
theorem dX5_isTrue_61 : decode cX5_isTrue 61 = .ok (.iconst 1, 1) := by decide +kernel
theorem dX5_isTrue_62 : decode cX5_isTrue 62 = .ok (.ireturn, 1) := by decide +kernel
theorem dX5_textOf_0 : decode cX5_textOf 0 = .ok (.iload_n 1, 1) := by decide +kernel
theorem dX5_textOf_1 : decode cX5_textOf 1 = .ok (.ifCond .lt 9, 3) := by decide +kernel
theorem dX5_textOf_4 : decode cX5_textOf 4 = .ok (.iload_n 1, 1) := by decide +kernel
theorem dX5_textOf_5 : decode cX5_textOf 5 = .ok (.bipush 6, 2) := by decide +kernel
theorem dX5_textOf_7 : decode cX5_textOf 7 = .ok (.if_icmp .lt 13, 3) := by decide +kernel
theorem dX5_textOf_10 : decode cX5_textOf 10 = .ok (.new 89, 3) := by decide +kernel
theorem dX5_textOf_13 : decode cX5_textOf 13 = .ok (.dup, 1) := by decide +kernel
theorem dX5_textOf_14 : decode cX5_textOf 14 = .ok (.ldc 243, 2) := by decide +kernel
theorem dX5_textOf_16 : decode cX5_textOf 16 = .ok (.invokespecial 93, 3) := by decide +kernel
theorem dX5_textOf_19 : decode cX5_textOf 19 = .ok (.athrow, 1) := by decide +kernel
theorem dX5_textOf_20 : decode cX5_textOf 20 = .ok (.aload_n 0, 1) := by decide +kernel
theorem dX5_textOf_21 : decode cX5_textOf 21 = .ok (.getfield 11, 3) := by decide +kernel
theorem dX5_textOf_24 : decode cX5_textOf 24 = .ok (.iload_n 1, 1) := by decide +kernel
theorem dX5_textOf_25 : decode cX5_textOf 25 = .ok (.aaload, 1) := by decide +kernel
theorem dX5_textOf_26 : decode cX5_textOf 26 = .ok (.areturn, 1) := by decide +kernel
set_option maxRecDepth 20000 in
theorem ggX5_becomeBuilt_X4_become : GoodIn wsX5_becomeBuilt wsX4_become := goodIn_ca (goodIn_r _ [6, 7, 8, 9, 5, 10, 11, 12, 13, 14, 15, 16, 17, 18, 19, 20, 21, 22, 23, 24, 25, 26, 27, 28, 37, 38] (by decide +kernel) (by decide +kernel)) (goodIn_sub (fun _ h => List.mem_cons_of_mem _ (List.mem_append_right _ h)) (by decide +kernel))
set_option maxRecDepth 20000 in
theorem gX5_becomeBuilt_X4_become : GoodIn wsX5_becomeBuilt (wsV RX5 245 RX4 yX4_become wsX4_become) := goodIn_app (goodIn_of _ (by decide +kernel)) ggX5_becomeBuilt_X4_become
set_option maxRecDepth 20000 in
theorem ggX5_becomeBuilt_X4_size : GoodIn wsX5_becomeBuilt wsX4_size := goodIn_r _ [32, 11, 37, 38] (by decide +kernel) (by decide +kernel)
set_option maxRecDepth 20000 in
theorem gX5_becomeBuilt_X4_size : GoodIn wsX5_becomeBuilt (wsV RX5 42 RX4 yX4_size wsX4_size) := goodIn_app (goodIn_of _ (by decide +kernel)) ggX5_becomeBuilt_X4_size
theorem dX5_becomeBuilt_0 : decode cX5_becomeBuilt 0 = .ok (.aload_n 1, 1) := by decide +kernel
theorem dX5_becomeBuilt_1 : decode cX5_becomeBuilt 1 = .ok (.aload_n 0, 1) := by decide +kernel
theorem dX5_becomeBuilt_2 : decode cX5_becomeBuilt 2 = .ok (.getfield 16, 3) := by decide +kernel
theorem dX5_becomeBuilt_5 : decode cX5_becomeBuilt 5 = .ok (.invokevirtual 245, 3) := by decide +kernel
theorem dX5_becomeBuilt_8 : decode cX5_becomeBuilt 8 = .ok (.aload_n 1, 1) := by decide +kernel
theorem dX5_becomeBuilt_9 : decode cX5_becomeBuilt 9 = .ok (.invokevirtual 42, 3) := by decide +kernel
theorem dX5_becomeBuilt_12 : decode cX5_becomeBuilt 12 = .ok (.ireturn, 1) := by decide +kernel
set_option maxRecDepth 20000 in
theorem ggX5_becomePart_X4_clear : GoodIn wsX5_becomePart wsX4_clear := goodIn_r _ [6, 7, 44, 45] (by decide +kernel) (by decide +kernel)
set_option maxRecDepth 20000 in
theorem gX5_becomePart_X4_clear : GoodIn wsX5_becomePart (wsV RX5 60 RX4 yX4_clear wsX4_clear) := goodIn_app (goodIn_of _ (by decide +kernel)) ggX5_becomePart_X4_clear
set_option maxRecDepth 20000 in
theorem ggX5_becomePart_X4_addPart : GoodIn wsX5_becomePart wsX4_addPart := goodIn_ca (goodIn_r _ [11, 12, 13, 14, 5, 15, 7, 16, 17, 18, 19, 20, 44, 45] (by decide +kernel) (by decide +kernel)) (goodIn_sub (fun _ h => List.mem_cons_of_mem _ (List.mem_append_right _ h)) (by decide +kernel))
set_option maxRecDepth 20000 in
theorem gX5_becomePart_X4_addPart : GoodIn wsX5_becomePart (wsV RX5 67 RX4 yX4_addPart wsX4_addPart) := goodIn_app (goodIn_of _ (by decide +kernel)) ggX5_becomePart_X4_addPart
set_option maxRecDepth 20000 in
theorem ggX5_becomePart_X5_becomeBuilt : GoodIn wsX5_becomePart wsX5_becomeBuilt := goodIn_ca (goodIn_r _ [25, 1, 26, 27, 28, 5, 29, 30, 3, 4, 6, 7, 31, 32, 33, 34, 35, 9, 10, 11, 12, 13, 14, 15, 16, 17, 18, 19, 20, 36, 37, 38, 39, 40, 41, 42, 43, 44, 45] (by decide +kernel) (by decide +kernel)) (goodIn_sub (fun _ h => List.mem_cons_of_mem _ (List.mem_append_right _ h)) (by decide +kernel))
set_option maxRecDepth 20000 in
theorem gX5_becomePart_X5_becomeBuilt : GoodIn wsX5_becomePart (wsV RX5 79 RX5 yX5_becomeBuilt wsX5_becomeBuilt) := goodIn_app (goodIn_of _ (by decide +kernel)) ggX5_becomePart_X5_becomeBuilt
theorem dX5_becomePart_0 : decode cX5_becomePart 0 = .ok (.aload_n 0, 1) := by decide +kernel
theorem dX5_becomePart_1 : decode cX5_becomePart 1 = .ok (.getfield 16, 3) := by decide +kernel
theorem dX5_becomePart_4 : decode cX5_becomePart 4 = .ok (.invokevirtual 60, 3) := by decide +kernel
theorem dX5_becomePart_7 : decode cX5_becomePart 7 = .ok (.aload_n 0, 1) := by decide +kernel
theorem dX5_becomePart_8 : decode cX5_becomePart 8 = .ok (.getfield 16, 3) := by decide +kernel
theorem dX5_becomePart_11 : decode cX5_becomePart 11 = .ok (.aload_n 2, 1) := by decide +kernel
theorem dX5_becomePart_12 : decode cX5_becomePart 12 = .ok (.iload_n 3, 1) := by decide +kernel
theorem dX5_becomePart_13 : decode cX5_becomePart 13 = .ok (.iload 4, 2) := by decide +kernel
theorem dX5_becomePart_15 : decode cX5_becomePart 15 = .ok (.invokevirtual 67, 3) := by decide +kernel
theorem dX5_becomePart_18 : decode cX5_becomePart 18 = .ok (.aload_n 0, 1) := by decide +kernel
theorem dX5_becomePart_19 : decode cX5_becomePart 19 = .ok (.aload_n 1, 1) := by decide +kernel
theorem dX5_becomePart_20 : decode cX5_becomePart 20 = .ok (.invokevirtual 79, 3) := by decide +kernel
theorem dX5_becomePart_23 : decode cX5_becomePart 23 = .ok (.ireturn, 1) := by decide +kernel
set_option maxRecDepth 20000 in
theorem ggX5_buildInstead_X4_clear : GoodIn wsX5_buildInstead wsX4_clear := goodIn_r _ [6, 7, 47, 48] (by decide +kernel) (by decide +kernel)
set_option maxRecDepth 20000 in
theorem gX5_buildInstead_X4_clear : GoodIn wsX5_buildInstead (wsV RX5 60 RX4 yX4_clear wsX4_clear) := goodIn_app (goodIn_of _ (by decide +kernel)) ggX5_buildInstead_X4_clear
set_option maxRecDepth 20000 in
theorem ggX5_buildInstead_X4_size : GoodIn wsX5_buildInstead wsX4_size := goodIn_r _ [11, 7, 47, 48] (by decide +kernel) (by decide +kernel)
set_option maxRecDepth 20000 in
theorem gX5_buildInstead_X4_size : GoodIn wsX5_buildInstead (wsV RX5 42 RX4 yX4_size wsX4_size) := goodIn_app (goodIn_of _ (by decide +kernel)) ggX5_buildInstead_X4_size
set_option maxRecDepth 20000 in
theorem ggX5_buildInstead_X4_hasAt : GoodIn wsX5_buildInstead wsX4_hasAt := goodIn_ca (goodIn_r _ [15, 7, 16, 17, 18, 5, 19, 20, 21, 22, 23, 24, 25, 26, 27, 28, 47, 48] (by decide +kernel) (by decide +kernel)) (goodIn_sub (fun _ h => List.mem_cons_of_mem _ (List.mem_append_right _ h)) (by decide +kernel))
set_option maxRecDepth 20000 in
theorem gX5_buildInstead_X4_hasAt : GoodIn wsX5_buildInstead (wsV RX5 120 RX4 yX4_hasAt wsX4_hasAt) := goodIn_app (goodIn_of _ (by decide +kernel)) ggX5_buildInstead_X4_hasAt
set_option maxRecDepth 20000 in
theorem ggX5_buildInstead_X4_addAll : GoodIn wsX5_buildInstead wsX4_addAll := goodIn_ca (goodIn_r _ [32, 7, 33, 34, 35, 5, 36, 24, 25, 26, 27, 28, 37, 38, 39, 40, 47, 48] (by decide +kernel) (by decide +kernel)) (goodIn_sub (fun _ h => List.mem_cons_of_mem _ (List.mem_append_right _ h)) (by decide +kernel))
set_option maxRecDepth 20000 in
theorem gX5_buildInstead_X4_addAll : GoodIn wsX5_buildInstead (wsV RX5 75 RX4 yX4_addAll wsX4_addAll) := goodIn_app (goodIn_of _ (by decide +kernel)) ggX5_buildInstead_X4_addAll
set_option maxRecDepth 20000 in
theorem ggX5_buildInstead_X4_signOn : GoodIn wsX5_buildInstead wsX4_signOn := goodIn_ca (goodIn_r _ [27, 7, 28, 47, 48] (by decide +kernel) (by decide +kernel)) (goodIn_sub (fun _ h => List.mem_cons_of_mem _ (List.mem_append_right _ h)) (by decide +kernel))
set_option maxRecDepth 20000 in
theorem gX5_buildInstead_X4_signOn : GoodIn wsX5_buildInstead (wsV RX5 63 RX4 yX4_signOn wsX4_signOn) := goodIn_app (goodIn_of _ (by decide +kernel)) ggX5_buildInstead_X4_signOn
set_option maxRecDepth 20000 in
theorem ggX5_buildInstead_X4_add : GoodIn wsX5_buildInstead wsX4_add := goodIn_ca (goodIn_r _ [40, 7, 28, 47, 48] (by decide +kernel) (by decide +kernel)) (goodIn_sub (fun _ h => List.mem_cons_of_mem _ (List.mem_append_right _ h)) (by decide +kernel))
set_option maxRecDepth 20000 in
theorem gX5_buildInstead_X4_add : GoodIn wsX5_buildInstead (wsV RX5 50 RX4 yX4_add wsX4_add) := goodIn_app (goodIn_of _ (by decide +kernel)) ggX5_buildInstead_X4_add
theorem dX5_buildInstead_0 : decode cX5_buildInstead 0 = .ok (.aload_n 0, 1) := by decide +kernel
theorem dX5_buildInstead_1 : decode cX5_buildInstead 1 = .ok (.getfield 16, 3) := by decide +kernel
theorem dX5_buildInstead_4 : decode cX5_buildInstead 4 = .ok (.invokevirtual 60, 3) := by decide +kernel
theorem dX5_buildInstead_7 : decode cX5_buildInstead 7 = .ok (.iconst 0, 1) := by decide +kernel
theorem dX5_buildInstead_8 : decode cX5_buildInstead 8 = .ok (.istore 4, 2) := by decide +kernel
theorem dX5_buildInstead_10 : decode cX5_buildInstead 10 = .ok (.iconst 0, 1) := by decide +kernel
theorem dX5_buildInstead_11 : decode cX5_buildInstead 11 = .ok (.istore 5, 2) := by decide +kernel
theorem dX5_buildInstead_13 : decode cX5_buildInstead 13 = .ok (.iload 5, 2) := by decide +kernel
theorem dX5_buildInstead_15 : decode cX5_buildInstead 15 = .ok (.aload_n 1, 1) := by decide +kernel
theorem dX5_buildInstead_16 : decode cX5_buildInstead 16 = .ok (.invokevirtual 42, 3) := by decide +kernel
theorem dX5_buildInstead_19 : decode cX5_buildInstead 19 = .ok (.if_icmp .ge 59, 3) := by decide +kernel
theorem dX5_buildInstead_22 : decode cX5_buildInstead 22 = .ok (.iload 5, 2) := by decide +kernel
theorem dX5_buildInstead_24 : decode cX5_buildInstead 24 = .ok (.iload 4, 2) := by decide +kernel
theorem dX5_buildInstead_26 : decode cX5_buildInstead 26 = .ok (.if_icmp .lt 46, 3) := by decide +kernel
theorem dX5_buildInstead_29 : decode cX5_buildInstead 29 = .ok (.aload_n 1, 1) := by decide +kernel
theorem dX5_buildInstead_30 : decode cX5_buildInstead 30 = .ok (.iload 5, 2) := by decide +kernel
theorem dX5_buildInstead_32 : decode cX5_buildInstead 32 = .ok (.aload_n 2, 1) := by decide +kernel
theorem dX5_buildInstead_33 : decode cX5_buildInstead 33 = .ok (.invokevirtual 120, 3) := by decide +kernel
theorem dX5_buildInstead_36 : decode cX5_buildInstead 36 = .ok (.ifCond .eq 23, 3) := by decide +kernel
theorem dX5_buildInstead_39 : decode cX5_buildInstead 39 = .ok (.aload_n 0, 1) := by decide +kernel
theorem dX5_buildInstead_40 : decode cX5_buildInstead 40 = .ok (.getfield 16, 3) := by decide +kernel
theorem dX5_buildInstead_43 : decode cX5_buildInstead 43 = .ok (.aload_n 3, 1) := by decide +kernel
theorem dX5_buildInstead_44 : decode cX5_buildInstead 44 = .ok (.invokevirtual 75, 3) := by decide +kernel
theorem dX5_buildInstead_47 : decode cX5_buildInstead 47 = .ok (.iload 5, 2) := by decide +kernel
theorem dX5_buildInstead_49 : decode cX5_buildInstead 49 = .ok (.aload_n 2, 1) := by decide +kernel
theorem dX5_buildInstead_50 : decode cX5_buildInstead 50 = .ok (.invokevirtual 42, 3) := by decide +kernel
theorem dX5_buildInstead_53 : decode cX5_buildInstead 53 = .ok (.iadd, 1) := by decide +kernel
theorem dX5_buildInstead_54 : decode cX5_buildInstead 54 = .ok (.istore 4, 2) := by decide +kernel
theorem dX5_buildInstead_56 : decode cX5_buildInstead 56 = .ok (.goto 16, 3) := by decide +kernel
theorem dX5_buildInstead_59 : decode cX5_buildInstead 59 = .ok (.aload_n 0, 1) := by decide +kernel
theorem dX5_buildInstead_60 : decode cX5_buildInstead 60 = .ok (.getfield 16, 3) := by decide +kernel
theorem dX5_buildInstead_63 : decode cX5_buildInstead 63 = .ok (.aload_n 1, 1) := by decide +kernel
theorem dX5_buildInstead_64 : decode cX5_buildInstead 64 = .ok (.iload 5, 2) := by decide +kernel
theorem dX5_buildInstead_66 : decode cX5_buildInstead 66 = .ok (.invokevirtual 63, 3) := by decide +kernel
theorem dX5_buildInstead_69 : decode cX5_buildInstead 69 = .ok (.invokevirtual 50, 3) := by decide +kernel
theorem dX5_buildInstead_72 : decode cX5_buildInstead 72 = .ok (.iinc 5 1, 3) := by decide +kernel
theorem dX5_buildInstead_75 : decode cX5_buildInstead 75 = .ok (.goto (-62), 3) := by decide +kernel
theorem dX5_buildInstead_78 : decode cX5_buildInstead 78 = .ok (.return_, 1) := by decide +kernel
theorem dX5_requireSign_0 : decode cX5_requireSign 0 = .ok (.iload_n 0, 1) := by decide +kernel
theorem dX5_requireSign_1 : decode cX5_requireSign 1 = .ok (.bipush 32, 2) := by decide +kernel
theorem dX5_requireSign_3 : decode cX5_requireSign 3 = .ok (.if_icmp .lt 9, 3) := by decide +kernel
theorem dX5_requireSign_6 : decode cX5_requireSign 6 = .ok (.iload_n 0, 1) := by decide +kernel
theorem dX5_requireSign_7 : decode cX5_requireSign 7 = .ok (.bipush 126, 2) := by decide +kernel
theorem dX5_requireSign_9 : decode cX5_requireSign 9 = .ok (.if_icmp .le 13, 3) := by decide +kernel
theorem dX5_requireSign_12 : decode cX5_requireSign 12 = .ok (.new 53, 3) := by decide +kernel
theorem dX5_requireSign_15 : decode cX5_requireSign 15 = .ok (.dup, 1) := by decide +kernel
theorem dX5_requireSign_16 : decode cX5_requireSign 16 = .ok (.ldc 248, 2) := by decide +kernel
theorem dX5_requireSign_18 : decode cX5_requireSign 18 = .ok (.invokespecial 57, 3) := by decide +kernel
theorem dX5_requireSign_21 : decode cX5_requireSign 21 = .ok (.athrow, 1) := by decide +kernel
theorem dX5_requireSign_22 : decode cX5_requireSign 22 = .ok (.return_, 1) := by decide +kernel
theorem dX5_requireRoom_0 : decode cX5_requireRoom 0 = .ok (.lload_n 0, 1) := by decide +kernel
theorem dX5_requireRoom_1 : decode cX5_requireRoom 1 = .ok (.ldc2_w 250, 3) := by decide +kernel
theorem dX5_requireRoom_4 : decode cX5_requireRoom 4 = .ok (.lcmp, 1) := by decide +kernel
theorem dX5_requireRoom_5 : decode cX5_requireRoom 5 = .ok (.ifCond .le 13, 3) := by decide +kernel
theorem dX5_requireRoom_8 : decode cX5_requireRoom 8 = .ok (.new 252, 3) := by decide +kernel
theorem dX5_requireRoom_11 : decode cX5_requireRoom 11 = .ok (.dup, 1) := by decide +kernel
theorem dX5_requireRoom_12 : decode cX5_requireRoom 12 = .ok (.ldc 254, 2) := by decide +kernel
theorem dX5_requireRoom_14 : decode cX5_requireRoom 14 = .ok (.invokespecial 256, 3) := by decide +kernel
theorem dX5_requireRoom_17 : decode cX5_requireRoom 17 = .ok (.athrow, 1) := by decide +kernel
theorem dX5_requireRoom_18 : decode cX5_requireRoom 18 = .ok (.return_, 1) := by decide +kernel
set_option maxRecDepth 20000 in
theorem ggX5_requirePlace_X4_size : GoodIn wsX5_requirePlace wsX4_size := goodIn_r _ [7, 8, 9, 10] (by decide +kernel) (by decide +kernel)
set_option maxRecDepth 20000 in
theorem gX5_requirePlace_X4_size : GoodIn wsX5_requirePlace (wsV RX5 42 RX4 yX4_size wsX4_size) := goodIn_app (goodIn_of _ (by decide +kernel)) ggX5_requirePlace_X4_size
theorem dX5_requirePlace_0 : decode cX5_requirePlace 0 = .ok (.iload_n 1, 1) := by decide +kernel
theorem dX5_requirePlace_1 : decode cX5_requirePlace 1 = .ok (.ifCond .lt 11, 3) := by decide +kernel
theorem dX5_requirePlace_4 : decode cX5_requirePlace 4 = .ok (.iload_n 1, 1) := by decide +kernel
theorem dX5_requirePlace_5 : decode cX5_requirePlace 5 = .ok (.aload_n 0, 1) := by decide +kernel
theorem dX5_requirePlace_6 : decode cX5_requirePlace 6 = .ok (.invokevirtual 42, 3) := by decide +kernel
theorem dX5_requirePlace_9 : decode cX5_requirePlace 9 = .ok (.if_icmp .lt 14, 3) := by decide +kernel
theorem dX5_requirePlace_12 : decode cX5_requirePlace 12 = .ok (.new 89, 3) := by decide +kernel
theorem dX5_requirePlace_15 : decode cX5_requirePlace 15 = .ok (.dup, 1) := by decide +kernel
theorem dX5_requirePlace_16 : decode cX5_requirePlace 16 = .ok (.ldc_w 257, 3) := by decide +kernel
theorem dX5_requirePlace_19 : decode cX5_requirePlace 19 = .ok (.invokespecial 93, 3) := by decide +kernel
theorem dX5_requirePlace_22 : decode cX5_requirePlace 22 = .ok (.athrow, 1) := by decide +kernel
theorem dX5_requirePlace_23 : decode cX5_requirePlace 23 = .ok (.return_, 1) := by decide +kernel
set_option maxRecDepth 20000 in
theorem ggX5_requireNotEmpty_X4_isEmpty : GoodIn wsX5_requireNotEmpty wsX4_isEmpty := goodIn_r _ [7, 8, 9, 10] (by decide +kernel) (by decide +kernel)
set_option maxRecDepth 20000 in
theorem gX5_requireNotEmpty_X4_isEmpty : GoodIn wsX5_requireNotEmpty (wsV RX5 85 RX4 yX4_isEmpty wsX4_isEmpty) := goodIn_app (goodIn_of _ (by decide +kernel)) ggX5_requireNotEmpty_X4_isEmpty
theorem dX5_requireNotEmpty_0 : decode cX5_requireNotEmpty 0 = .ok (.aload_n 0, 1) := by decide +kernel
theorem dX5_requireNotEmpty_1 : decode cX5_requireNotEmpty 1 = .ok (.invokevirtual 85, 3) := by decide +kernel
theorem dX5_requireNotEmpty_4 : decode cX5_requireNotEmpty 4 = .ok (.ifCond .eq 14, 3) := by decide +kernel
theorem dX5_requireNotEmpty_7 : decode cX5_requireNotEmpty 7 = .ok (.new 206, 3) := by decide +kernel
theorem dX5_requireNotEmpty_10 : decode cX5_requireNotEmpty 10 = .ok (.dup, 1) := by decide +kernel
theorem dX5_requireNotEmpty_11 : decode cX5_requireNotEmpty 11 = .ok (.ldc_w 259, 3) := by decide +kernel
theorem dX5_requireNotEmpty_14 : decode cX5_requireNotEmpty 14 = .ok (.invokespecial 210, 3) := by decide +kernel
theorem dX5_requireNotEmpty_17 : decode cX5_requireNotEmpty 17 = .ok (.athrow, 1) := by decide +kernel
theorem dX5_requireNotEmpty_18 : decode cX5_requireNotEmpty 18 = .ok (.return_, 1) := by decide +kernel
theorem dX5_requireSet_0 : decode cX5_requireSet 0 = .ok (.iload_n 0, 1) := by decide +kernel
theorem dX5_requireSet_1 : decode cX5_requireSet 1 = .ok (.ifCond .lt 9, 3) := by decide +kernel
theorem dX5_requireSet_4 : decode cX5_requireSet 4 = .ok (.iload_n 0, 1) := by decide +kernel
theorem dX5_requireSet_5 : decode cX5_requireSet 5 = .ok (.bipush 63, 2) := by decide +kernel
theorem dX5_requireSet_7 : decode cX5_requireSet 7 = .ok (.if_icmp .le 14, 3) := by decide +kernel
theorem dX5_requireSet_10 : decode cX5_requireSet 10 = .ok (.new 53, 3) := by decide +kernel
theorem dX5_requireSet_13 : decode cX5_requireSet 13 = .ok (.dup, 1) := by decide +kernel
theorem dX5_requireSet_14 : decode cX5_requireSet 14 = .ok (.ldc_w 261, 3) := by decide +kernel
theorem dX5_requireSet_17 : decode cX5_requireSet 17 = .ok (.invokespecial 57, 3) := by decide +kernel
theorem dX5_requireSet_20 : decode cX5_requireSet 20 = .ok (.athrow, 1) := by decide +kernel
theorem dX5_requireSet_21 : decode cX5_requireSet 21 = .ok (.return_, 1) := by decide +kernel
