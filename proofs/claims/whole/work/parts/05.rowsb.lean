theorem dX6_init_0 : decode cX6_init 0 = .ok (.aload_n 0, 1) := by decide +kernel
theorem dX6_init_1 : decode cX6_init 1 = .ok (.invokespecial 1, 3) := by decide +kernel
theorem dX6_init_4 : decode cX6_init 4 = .ok (.aload_n 0, 1) := by decide +kernel
theorem dX6_init_5 : decode cX6_init 5 = .ok (.sipush 900, 3) := by decide +kernel
theorem dX6_init_8 : decode cX6_init 8 = .ok (.newarray .int, 2) := by decide +kernel
theorem dX6_init_10 : decode cX6_init 10 = .ok (.putfield 7, 3) := by decide +kernel
theorem dX6_init_13 : decode cX6_init 13 = .ok (.aload_n 0, 1) := by decide +kernel
theorem dX6_init_14 : decode cX6_init 14 = .ok (.bipush 6, 2) := by decide +kernel
theorem dX6_init_16 : decode cX6_init 16 = .ok (.newarray .int, 2) := by decide +kernel
theorem dX6_init_18 : decode cX6_init 18 = .ok (.putfield 13, 3) := by decide +kernel
theorem dX6_init_21 : decode cX6_init 21 = .ok (.aload_n 0, 1) := by decide +kernel
theorem dX6_init_22 : decode cX6_init 22 = .ok (.bipush 121, 2) := by decide +kernel
theorem dX6_init_24 : decode cX6_init 24 = .ok (.newarray .long, 2) := by decide +kernel
theorem dX6_init_26 : decode cX6_init 26 = .ok (.putfield 16, 3) := by decide +kernel
theorem dX6_init_29 : decode cX6_init 29 = .ok (.aload_n 0, 1) := by decide +kernel
theorem dX6_init_30 : decode cX6_init 30 = .ok (.sipush 360, 3) := by decide +kernel
theorem dX6_init_33 : decode cX6_init 33 = .ok (.newarray .boolean, 2) := by decide +kernel
theorem dX6_init_35 : decode cX6_init 35 = .ok (.putfield 20, 3) := by decide +kernel
theorem dX6_init_38 : decode cX6_init 38 = .ok (.aload_n 0, 1) := by decide +kernel
theorem dX6_init_39 : decode cX6_init 39 = .ok (.iconst 0, 1) := by decide +kernel
theorem dX6_init_40 : decode cX6_init 40 = .ok (.putfield 24, 3) := by decide +kernel
theorem dX6_init_43 : decode cX6_init 43 = .ok (.return_, 1) := by decide +kernel
theorem dX6_thrown_0 : decode cX6_thrown 0 = .ok (.aload_n 0, 1) := by decide +kernel
theorem dX6_thrown_1 : decode cX6_thrown 1 = .ok (.getfield 24, 3) := by decide +kernel
theorem dX6_thrown_4 : decode cX6_thrown 4 = .ok (.ireturn, 1) := by decide +kernel
theorem dX6_isThrown_0 : decode cX6_isThrown 0 = .ok (.aload_n 0, 1) := by decide +kernel
theorem dX6_isThrown_1 : decode cX6_isThrown 1 = .ok (.iload_n 1, 1) := by decide +kernel
theorem dX6_isThrown_2 : decode cX6_isThrown 2 = .ok (.ifCond .eq 7, 3) := by decide +kernel
theorem dX6_isThrown_5 : decode cX6_isThrown 5 = .ok (.iload_n 2, 1) := by decide +kernel
theorem dX6_isThrown_6 : decode cX6_isThrown 6 = .ok (.goto 4, 3) := by decide +kernel
theorem dX6_isThrown_9 : decode cX6_isThrown 9 = .ok (.iconst 0, 1) := by decide +kernel
theorem dX6_isThrown_10 : decode cX6_isThrown 10 = .ok (.putfield 24, 3) := by decide +kernel
theorem dX6_isThrown_13 : decode cX6_isThrown 13 = .ok (.iload_n 1, 1) := by decide +kernel
theorem dX6_isThrown_14 : decode cX6_isThrown 14 = .ok (.ireturn, 1) := by decide +kernel
theorem dX6_isIn_0 : decode cX6_isIn 0 = .ok (.lload_n 2, 1) := by decide +kernel
theorem dX6_isIn_1 : decode cX6_isIn 1 = .ok (.lload_n 0, 1) := by decide +kernel
theorem dX6_isIn_2 : decode cX6_isIn 2 = .ok (.lcmp, 1) := by decide +kernel
theorem dX6_isIn_3 : decode cX6_isIn 3 = .ok (.ifCond .gt 14, 3) := by decide +kernel
theorem dX6_isIn_6 : decode cX6_isIn 6 = .ok (.lload_n 0, 1) := by decide +kernel
theorem dX6_isIn_7 : decode cX6_isIn 7 = .ok (.lload 4, 2) := by decide +kernel
theorem dX6_isIn_9 : decode cX6_isIn 9 = .ok (.lcmp, 1) := by decide +kernel
theorem dX6_isIn_10 : decode cX6_isIn 10 = .ok (.ifCond .gt 7, 3) := by decide +kernel
theorem dX6_isIn_13 : decode cX6_isIn 13 = .ok (.iconst 1, 1) := by decide +kernel
theorem dX6_isIn_14 : decode cX6_isIn 14 = .ok (.goto 4, 3) := by decide +kernel
theorem dX6_isIn_17 : decode cX6_isIn 17 = .ok (.iconst 0, 1) := by decide +kernel
theorem dX6_isIn_18 : decode cX6_isIn 18 = .ok (.ireturn, 1) := by decide +kernel
set_option maxRecDepth 20000 in
theorem ggX6_isNo_X6_isIn : GoodIn wsX6_isNo wsX6_isIn := goodIn_r _ [5] (by decide +kernel) (by decide +kernel)
set_option maxRecDepth 20000 in
theorem gX6_isNo_X6_isIn : GoodIn wsX6_isNo (va_wsS RX6 30 yX6_isIn wsX6_isIn) := goodIn_app (goodIn_of _ (by decide +kernel)) ggX6_isNo_X6_isIn
set_option maxRecDepth 20000 in
theorem ggX6_isNo_X6_isThrown : GoodIn wsX6_isNo wsX6_isThrown := goodIn_r _ [9, 10, 11, 12, 13, 14, 15] (by decide +kernel) (by decide +kernel)
set_option maxRecDepth 20000 in
theorem gX6_isNo_X6_isThrown : GoodIn wsX6_isNo (wsV RX6 34 RX6 yX6_isThrown wsX6_isThrown) := goodIn_app (goodIn_of _ (by decide +kernel)) ggX6_isNo_X6_isThrown
theorem dX6_isNo_0 : decode cX6_isNo 0 = .ok (.aload_n 0, 1) := by decide +kernel
theorem dX6_isNo_1 : decode cX6_isNo 1 = .ok (.iload_n 1, 1) := by decide +kernel
theorem dX6_isNo_2 : decode cX6_isNo 2 = .ok (.i2l, 1) := by decide +kernel
theorem dX6_isNo_3 : decode cX6_isNo 3 = .ok (.lconst 0, 1) := by decide +kernel
theorem dX6_isNo_4 : decode cX6_isNo 4 = .ok (.ldc2_w 28, 3) := by decide +kernel
theorem dX6_isNo_7 : decode cX6_isNo 7 = .ok (.invokestatic 30, 3) := by decide +kernel
theorem dX6_isNo_10 : decode cX6_isNo 10 = .ok (.ifCond .ne 7, 3) := by decide +kernel
theorem dX6_isNo_13 : decode cX6_isNo 13 = .ok (.iconst 1, 1) := by decide +kernel
theorem dX6_isNo_14 : decode cX6_isNo 14 = .ok (.goto 4, 3) := by decide +kernel
theorem dX6_isNo_17 : decode cX6_isNo 17 = .ok (.iconst 0, 1) := by decide +kernel
theorem dX6_isNo_18 : decode cX6_isNo 18 = .ok (.iconst 1, 1) := by decide +kernel
theorem dX6_isNo_19 : decode cX6_isNo 19 = .ok (.invokevirtual 34, 3) := by decide +kernel
theorem dX6_isNo_22 : decode cX6_isNo 22 = .ok (.ireturn, 1) := by decide +kernel
set_option maxRecDepth 20000 in
theorem ggX6_isNoOf_X6_isNo : GoodIn wsX6_isNoOf wsX6_isNo := goodIn_r _ [5, 6, 7, 8, 4, 9, 10, 11, 12, 13, 14, 15, 16, 17, 18, 19] (by decide +kernel) (by decide +kernel)
set_option maxRecDepth 20000 in
theorem gX6_isNoOf_X6_isNo : GoodIn wsX6_isNoOf (wsV RX6 38 RX6 yX6_isNo wsX6_isNo) := goodIn_app (goodIn_of _ (by decide +kernel)) ggX6_isNoOf_X6_isNo
theorem dX6_isNoOf_0 : decode cX6_isNoOf 0 = .ok (.aload_n 0, 1) := by decide +kernel
theorem dX6_isNoOf_1 : decode cX6_isNoOf 1 = .ok (.iload_n 1, 1) := by decide +kernel
theorem dX6_isNoOf_2 : decode cX6_isNoOf 2 = .ok (.invokevirtual 38, 3) := by decide +kernel
theorem dX6_isNoOf_5 : decode cX6_isNoOf 5 = .ok (.ifCond .ne 11, 3) := by decide +kernel
theorem dX6_isNoOf_8 : decode cX6_isNoOf 8 = .ok (.aload_n 0, 1) := by decide +kernel
theorem dX6_isNoOf_9 : decode cX6_isNoOf 9 = .ok (.iload_n 2, 1) := by decide +kernel
theorem dX6_isNoOf_10 : decode cX6_isNoOf 10 = .ok (.invokevirtual 38, 3) := by decide +kernel
theorem dX6_isNoOf_13 : decode cX6_isNoOf 13 = .ok (.ifCond .eq 7, 3) := by decide +kernel
theorem dX6_isNoOf_16 : decode cX6_isNoOf 16 = .ok (.iconst 1, 1) := by decide +kernel
theorem dX6_isNoOf_17 : decode cX6_isNoOf 17 = .ok (.goto 4, 3) := by decide +kernel
theorem dX6_isNoOf_20 : decode cX6_isNoOf 20 = .ok (.iconst 0, 1) := by decide +kernel
theorem dX6_isNoOf_21 : decode cX6_isNoOf 21 = .ok (.ireturn, 1) := by decide +kernel
set_option maxRecDepth 20000 in
theorem ggX6_isNoOfAll_X6_isNo : GoodIn wsX6_isNoOfAll wsX6_isNo := goodIn_r _ [5, 6, 7, 8, 4, 9, 10, 11, 12, 13, 14, 15, 16, 17, 18, 19] (by decide +kernel) (by decide +kernel)
set_option maxRecDepth 20000 in
theorem gX6_isNoOfAll_X6_isNo : GoodIn wsX6_isNoOfAll (wsV RX6 38 RX6 yX6_isNo wsX6_isNo) := goodIn_app (goodIn_of _ (by decide +kernel)) ggX6_isNoOfAll_X6_isNo
theorem dX6_isNoOfAll_0 : decode cX6_isNoOfAll 0 = .ok (.aload_n 0, 1) := by decide +kernel
theorem dX6_isNoOfAll_1 : decode cX6_isNoOfAll 1 = .ok (.iload_n 1, 1) := by decide +kernel
theorem dX6_isNoOfAll_2 : decode cX6_isNoOfAll 2 = .ok (.invokevirtual 38, 3) := by decide +kernel
theorem dX6_isNoOfAll_5 : decode cX6_isNoOfAll 5 = .ok (.ifCond .ne 19, 3) := by decide +kernel
theorem dX6_isNoOfAll_8 : decode cX6_isNoOfAll 8 = .ok (.aload_n 0, 1) := by decide +kernel
theorem dX6_isNoOfAll_9 : decode cX6_isNoOfAll 9 = .ok (.iload_n 2, 1) := by decide +kernel
theorem dX6_isNoOfAll_10 : decode cX6_isNoOfAll 10 = .ok (.invokevirtual 38, 3) := by decide +kernel
theorem dX6_isNoOfAll_13 : decode cX6_isNoOfAll 13 = .ok (.ifCond .ne 11, 3) := by decide +kernel
theorem dX6_isNoOfAll_16 : decode cX6_isNoOfAll 16 = .ok (.aload_n 0, 1) := by decide +kernel
theorem dX6_isNoOfAll_17 : decode cX6_isNoOfAll 17 = .ok (.iload_n 3, 1) := by decide +kernel
theorem dX6_isNoOfAll_18 : decode cX6_isNoOfAll 18 = .ok (.invokevirtual 38, 3) := by decide +kernel
theorem dX6_isNoOfAll_21 : decode cX6_isNoOfAll 21 = .ok (.ifCond .eq 7, 3) := by decide +kernel
theorem dX6_isNoOfAll_24 : decode cX6_isNoOfAll 24 = .ok (.iconst 1, 1) := by decide +kernel
theorem dX6_isNoOfAll_25 : decode cX6_isNoOfAll 25 = .ok (.goto 4, 3) := by decide +kernel
theorem dX6_isNoOfAll_28 : decode cX6_isNoOfAll 28 = .ok (.iconst 0, 1) := by decide +kernel
theorem dX6_isNoOfAll_29 : decode cX6_isNoOfAll 29 = .ok (.ireturn, 1) := by decide +kernel
set_option maxRecDepth 20000 in
theorem ggX6_isSign_X6_isIn : GoodIn wsX6_isSign wsX6_isIn := goodIn_r _ [6] (by decide +kernel) (by decide +kernel)
set_option maxRecDepth 20000 in
theorem gX6_isSign_X6_isIn : GoodIn wsX6_isSign (va_wsS RX6 30 yX6_isIn wsX6_isIn) := goodIn_app (goodIn_of _ (by decide +kernel)) ggX6_isSign_X6_isIn
theorem dX6_isSign_0 : decode cX6_isSign 0 = .ok (.iload_n 0, 1) := by decide +kernel
theorem dX6_isSign_1 : decode cX6_isSign 1 = .ok (.i2l, 1) := by decide +kernel
theorem dX6_isSign_2 : decode cX6_isSign 2 = .ok (.ldc2_w 42, 3) := by decide +kernel
theorem dX6_isSign_5 : decode cX6_isSign 5 = .ok (.ldc2_w 44, 3) := by decide +kernel
theorem dX6_isSign_8 : decode cX6_isSign 8 = .ok (.invokestatic 30, 3) := by decide +kernel
theorem dX6_isSign_11 : decode cX6_isSign 11 = .ok (.ireturn, 1) := by decide +kernel
theorem dX6_baseOf_0 : decode cX6_baseOf 0 = .ok (.bipush 60, 2) := by decide +kernel
theorem dX6_baseOf_2 : decode cX6_baseOf 2 = .ok (.iload_n 0, 1) := by decide +kernel
theorem dX6_baseOf_3 : decode cX6_baseOf 3 = .ok (.imul, 1) := by decide +kernel
theorem dX6_baseOf_4 : decode cX6_baseOf 4 = .ok (.ireturn, 1) := by decide +kernel
theorem dX6_copy_0 : decode cX6_copy 0 = .ok (.iconst 0, 1) := by decide +kernel
theorem dX6_copy_1 : decode cX6_copy 1 = .ok (.istore 4, 2) := by decide +kernel
theorem dX6_copy_3 : decode cX6_copy 3 = .ok (.iload 4, 2) := by decide +kernel
theorem dX6_copy_5 : decode cX6_copy 5 = .ok (.iload_n 2, 1) := by decide +kernel
theorem dX6_copy_6 : decode cX6_copy 6 = .ok (.if_icmp .ge 27, 3) := by decide +kernel
theorem dX6_copy_9 : decode cX6_copy 9 = .ok (.aload_n 0, 1) := by decide +kernel
theorem dX6_copy_10 : decode cX6_copy 10 = .ok (.getfield 7, 3) := by decide +kernel
theorem dX6_copy_13 : decode cX6_copy 13 = .ok (.iload_n 3, 1) := by decide +kernel
theorem dX6_copy_14 : decode cX6_copy 14 = .ok (.iload 4, 2) := by decide +kernel
theorem dX6_copy_16 : decode cX6_copy 16 = .ok (.iadd, 1) := by decide +kernel
theorem dX6_copy_17 : decode cX6_copy 17 = .ok (.aload_n 0, 1) := by decide +kernel
theorem dX6_copy_18 : decode cX6_copy 18 = .ok (.getfield 7, 3) := by decide +kernel
theorem dX6_copy_21 : decode cX6_copy 21 = .ok (.iload_n 1, 1) := by decide +kernel
theorem dX6_copy_22 : decode cX6_copy 22 = .ok (.iload 4, 2) := by decide +kernel
theorem dX6_copy_24 : decode cX6_copy 24 = .ok (.iadd, 1) := by decide +kernel
theorem dX6_copy_25 : decode cX6_copy 25 = .ok (.iaload, 1) := by decide +kernel
theorem dX6_copy_26 : decode cX6_copy 26 = .ok (.iastore, 1) := by decide +kernel
theorem dX6_copy_27 : decode cX6_copy 27 = .ok (.iinc 4 1, 3) := by decide +kernel
theorem dX6_copy_30 : decode cX6_copy 30 = .ok (.goto (-27), 3) := by decide +kernel
theorem dX6_copy_33 : decode cX6_copy 33 = .ok (.return_, 1) := by decide +kernel
theorem dX6_standsAt_0 : decode cX6_standsAt 0 = .ok (.iload 5, 2) := by decide +kernel
theorem dX6_standsAt_2 : decode cX6_standsAt 2 = .ok (.ifCond .lt 16, 3) := by decide +kernel
theorem dX6_standsAt_5 : decode cX6_standsAt 5 = .ok (.iload 5, 2) := by decide +kernel
theorem dX6_standsAt_7 : decode cX6_standsAt 7 = .ok (.iload 4, 2) := by decide +kernel
theorem dX6_standsAt_9 : decode cX6_standsAt 9 = .ok (.iadd, 1) := by decide +kernel
theorem dX6_standsAt_10 : decode cX6_standsAt 10 = .ok (.iload_n 2, 1) := by decide +kernel
theorem dX6_standsAt_11 : decode cX6_standsAt 11 = .ok (.if_icmp .gt 7, 3) := by decide +kernel
theorem dX6_standsAt_14 : decode cX6_standsAt 14 = .ok (.iconst 1, 1) := by decide +kernel
theorem dX6_standsAt_15 : decode cX6_standsAt 15 = .ok (.goto 4, 3) := by decide +kernel
theorem dX6_standsAt_18 : decode cX6_standsAt 18 = .ok (.iconst 0, 1) := by decide +kernel
theorem dX6_standsAt_19 : decode cX6_standsAt 19 = .ok (.istore 6, 2) := by decide +kernel
theorem dX6_standsAt_21 : decode cX6_standsAt 21 = .ok (.iconst 0, 1) := by decide +kernel
theorem dX6_standsAt_22 : decode cX6_standsAt 22 = .ok (.istore 7, 2) := by decide +kernel
theorem dX6_standsAt_24 : decode cX6_standsAt 24 = .ok (.iload 6, 2) := by decide +kernel
theorem dX6_standsAt_26 : decode cX6_standsAt 26 = .ok (.ifCond .eq 47, 3) := by decide +kernel
theorem dX6_standsAt_29 : decode cX6_standsAt 29 = .ok (.iload 7, 2) := by decide +kernel
theorem dX6_standsAt_31 : decode cX6_standsAt 31 = .ok (.iload 4, 2) := by decide +kernel
theorem dX6_standsAt_33 : decode cX6_standsAt 33 = .ok (.if_icmp .ge 40, 3) := by decide +kernel
theorem dX6_standsAt_36 : decode cX6_standsAt 36 = .ok (.aload_n 0, 1) := by decide +kernel
theorem dX6_standsAt_37 : decode cX6_standsAt 37 = .ok (.getfield 7, 3) := by decide +kernel
theorem dX6_standsAt_40 : decode cX6_standsAt 40 = .ok (.iload_n 1, 1) := by decide +kernel
theorem dX6_standsAt_41 : decode cX6_standsAt 41 = .ok (.iload 5, 2) := by decide +kernel
theorem dX6_standsAt_43 : decode cX6_standsAt 43 = .ok (.iadd, 1) := by decide +kernel
theorem dX6_standsAt_44 : decode cX6_standsAt 44 = .ok (.iload 7, 2) := by decide +kernel
theorem dX6_standsAt_46 : decode cX6_standsAt 46 = .ok (.iadd, 1) := by decide +kernel
theorem dX6_standsAt_47 : decode cX6_standsAt 47 = .ok (.iaload, 1) := by decide +kernel
theorem dX6_standsAt_48 : decode cX6_standsAt 48 = .ok (.aload_n 0, 1) := by decide +kernel
theorem dX6_standsAt_49 : decode cX6_standsAt 49 = .ok (.getfield 7, 3) := by decide +kernel
theorem dX6_standsAt_52 : decode cX6_standsAt 52 = .ok (.iload_n 3, 1) := by decide +kernel
theorem dX6_standsAt_53 : decode cX6_standsAt 53 = .ok (.iload 7, 2) := by decide +kernel
theorem dX6_standsAt_55 : decode cX6_standsAt 55 = .ok (.iadd, 1) := by decide +kernel
theorem dX6_standsAt_56 : decode cX6_standsAt 56 = .ok (.iaload, 1) := by decide +kernel
theorem dX6_standsAt_57 : decode cX6_standsAt 57 = .ok (.if_icmp .ne 7, 3) := by decide +kernel
theorem dX6_standsAt_60 : decode cX6_standsAt 60 = .ok (.iconst 1, 1) := by decide +kernel
theorem dX6_standsAt_61 : decode cX6_standsAt 61 = .ok (.goto 4, 3) := by decide +kernel
theorem dX6_standsAt_64 : decode cX6_standsAt 64 = .ok (.iconst 0, 1) := by decide +kernel
theorem dX6_standsAt_65 : decode cX6_standsAt 65 = .ok (.istore 6, 2) := by decide +kernel
theorem dX6_standsAt_67 : decode cX6_standsAt 67 = .ok (.iinc 7 1, 3) := by decide +kernel
theorem dX6_standsAt_70 : decode cX6_standsAt 70 = .ok (.goto (-46), 3) := by decide +kernel
theorem dX6_standsAt_73 : decode cX6_standsAt 73 = .ok (.iload 6, 2) := by decide +kernel
theorem dX6_standsAt_75 : decode cX6_standsAt 75 = .ok (.ireturn, 1) := by decide +kernel
set_option maxRecDepth 20000 in
theorem ggX6_areSame_X6_standsAt : GoodIn wsX6_areSame wsX6_standsAt := goodIn_ca (goodIn_r _ [5, 6, 7, 8, 9, 10, 11] (by decide +kernel) (by decide +kernel)) (goodIn_sub (fun _ h => List.mem_cons_of_mem _ (List.mem_append_right _ h)) (by decide +kernel))
set_option maxRecDepth 20000 in
theorem gX6_areSame_X6_standsAt : GoodIn wsX6_areSame (wsV RX6 46 RX6 yX6_standsAt wsX6_standsAt) := goodIn_app (goodIn_of _ (by decide +kernel)) ggX6_areSame_X6_standsAt
theorem dX6_areSame_0 : decode cX6_areSame 0 = .ok (.iload_n 2, 1) := by decide +kernel
theorem dX6_areSame_1 : decode cX6_areSame 1 = .ok (.iload 4, 2) := by decide +kernel
theorem dX6_areSame_3 : decode cX6_areSame 3 = .ok (.if_icmp .ne 20, 3) := by decide +kernel
theorem dX6_areSame_6 : decode cX6_areSame 6 = .ok (.aload_n 0, 1) := by decide +kernel
theorem dX6_areSame_7 : decode cX6_areSame 7 = .ok (.iload_n 1, 1) := by decide +kernel
theorem dX6_areSame_8 : decode cX6_areSame 8 = .ok (.iload_n 2, 1) := by decide +kernel
theorem dX6_areSame_9 : decode cX6_areSame 9 = .ok (.iload_n 3, 1) := by decide +kernel
theorem dX6_areSame_10 : decode cX6_areSame 10 = .ok (.iload 4, 2) := by decide +kernel
theorem dX6_areSame_12 : decode cX6_areSame 12 = .ok (.iconst 0, 1) := by decide +kernel
theorem dX6_areSame_13 : decode cX6_areSame 13 = .ok (.invokevirtual 46, 3) := by decide +kernel
theorem dX6_areSame_16 : decode cX6_areSame 16 = .ok (.ifCond .eq 7, 3) := by decide +kernel
theorem dX6_areSame_19 : decode cX6_areSame 19 = .ok (.iconst 1, 1) := by decide +kernel
theorem dX6_areSame_20 : decode cX6_areSame 20 = .ok (.goto 4, 3) := by decide +kernel
theorem dX6_areSame_23 : decode cX6_areSame 23 = .ok (.iconst 0, 1) := by decide +kernel
theorem dX6_areSame_24 : decode cX6_areSame 24 = .ok (.ireturn, 1) := by decide +kernel
theorem dX6_alike_0 : decode cX6_alike 0 = .ok (.iconst 0, 1) := by decide +kernel
theorem dX6_alike_1 : decode cX6_alike 1 = .ok (.istore 5, 2) := by decide +kernel
theorem dX6_alike_3 : decode cX6_alike 3 = .ok (.iload 5, 2) := by decide +kernel
theorem dX6_alike_5 : decode cX6_alike 5 = .ok (.iload_n 2, 1) := by decide +kernel
theorem dX6_alike_6 : decode cX6_alike 6 = .ok (.if_icmp .ge 37, 3) := by decide +kernel
theorem dX6_alike_9 : decode cX6_alike 9 = .ok (.iload 5, 2) := by decide +kernel
theorem dX6_alike_11 : decode cX6_alike 11 = .ok (.iload 4, 2) := by decide +kernel
theorem dX6_alike_13 : decode cX6_alike 13 = .ok (.if_icmp .ge 30, 3) := by decide +kernel
theorem dX6_alike_16 : decode cX6_alike 16 = .ok (.aload_n 0, 1) := by decide +kernel
theorem dX6_alike_17 : decode cX6_alike 17 = .ok (.getfield 7, 3) := by decide +kernel
theorem dX6_alike_20 : decode cX6_alike 20 = .ok (.iload_n 1, 1) := by decide +kernel
theorem dX6_alike_21 : decode cX6_alike 21 = .ok (.iload 5, 2) := by decide +kernel
theorem dX6_alike_23 : decode cX6_alike 23 = .ok (.iadd, 1) := by decide +kernel
theorem dX6_alike_24 : decode cX6_alike 24 = .ok (.iaload, 1) := by decide +kernel
theorem dX6_alike_25 : decode cX6_alike 25 = .ok (.aload_n 0, 1) := by decide +kernel
theorem dX6_alike_26 : decode cX6_alike 26 = .ok (.getfield 7, 3) := by decide +kernel
theorem dX6_alike_29 : decode cX6_alike 29 = .ok (.iload_n 3, 1) := by decide +kernel
theorem dX6_alike_30 : decode cX6_alike 30 = .ok (.iload 5, 2) := by decide +kernel
theorem dX6_alike_32 : decode cX6_alike 32 = .ok (.iadd, 1) := by decide +kernel
theorem dX6_alike_33 : decode cX6_alike 33 = .ok (.iaload, 1) := by decide +kernel
theorem dX6_alike_34 : decode cX6_alike 34 = .ok (.if_icmp .ne 9, 3) := by decide +kernel
theorem dX6_alike_37 : decode cX6_alike 37 = .ok (.iinc 5 1, 3) := by decide +kernel
theorem dX6_alike_40 : decode cX6_alike 40 = .ok (.goto (-37), 3) := by decide +kernel
theorem dX6_alike_43 : decode cX6_alike 43 = .ok (.iload 5, 2) := by decide +kernel
theorem dX6_alike_45 : decode cX6_alike 45 = .ok (.ireturn, 1) := by decide +kernel
set_option maxRecDepth 20000 in
theorem ggX6_order_X6_alike : GoodIn wsX6_order wsX6_alike := goodIn_ca (goodIn_r _ [6, 1, 7, 8, 9, 10, 11] (by decide +kernel) (by decide +kernel)) (goodIn_sub (fun _ h => List.mem_cons_of_mem _ (List.mem_append_right _ h)) (by decide +kernel))
set_option maxRecDepth 20000 in
theorem gX6_order_X6_alike : GoodIn wsX6_order (wsV RX6 50 RX6 yX6_alike wsX6_alike) := goodIn_app (goodIn_of _ (by decide +kernel)) ggX6_order_X6_alike
theorem dX6_order_0 : decode cX6_order 0 = .ok (.aload_n 0, 1) := by decide +kernel
theorem dX6_order_1 : decode cX6_order 1 = .ok (.iload_n 1, 1) := by decide +kernel
theorem dX6_order_2 : decode cX6_order 2 = .ok (.iload_n 2, 1) := by decide +kernel
theorem dX6_order_3 : decode cX6_order 3 = .ok (.iload_n 3, 1) := by decide +kernel
theorem dX6_order_4 : decode cX6_order 4 = .ok (.iload 4, 2) := by decide +kernel
theorem dX6_order_6 : decode cX6_order 6 = .ok (.invokevirtual 50, 3) := by decide +kernel
theorem dX6_order_9 : decode cX6_order 9 = .ok (.istore 5, 2) := by decide +kernel
theorem dX6_order_11 : decode cX6_order 11 = .ok (.iload 5, 2) := by decide +kernel
theorem dX6_order_13 : decode cX6_order 13 = .ok (.iload_n 2, 1) := by decide +kernel
theorem dX6_order_14 : decode cX6_order 14 = .ok (.if_icmp .ge 32, 3) := by decide +kernel
theorem dX6_order_17 : decode cX6_order 17 = .ok (.iload 5, 2) := by decide +kernel
theorem dX6_order_19 : decode cX6_order 19 = .ok (.iload 4, 2) := by decide +kernel
theorem dX6_order_21 : decode cX6_order 21 = .ok (.if_icmp .ge 25, 3) := by decide +kernel
theorem dX6_order_24 : decode cX6_order 24 = .ok (.aload_n 0, 1) := by decide +kernel
theorem dX6_order_25 : decode cX6_order 25 = .ok (.getfield 7, 3) := by decide +kernel
theorem dX6_order_28 : decode cX6_order 28 = .ok (.iload_n 1, 1) := by decide +kernel
theorem dX6_order_29 : decode cX6_order 29 = .ok (.iload 5, 2) := by decide +kernel
theorem dX6_order_31 : decode cX6_order 31 = .ok (.iadd, 1) := by decide +kernel
theorem dX6_order_32 : decode cX6_order 32 = .ok (.iaload, 1) := by decide +kernel
theorem dX6_order_33 : decode cX6_order 33 = .ok (.aload_n 0, 1) := by decide +kernel
theorem dX6_order_34 : decode cX6_order 34 = .ok (.getfield 7, 3) := by decide +kernel
theorem dX6_order_37 : decode cX6_order 37 = .ok (.iload_n 3, 1) := by decide +kernel
theorem dX6_order_38 : decode cX6_order 38 = .ok (.iload 5, 2) := by decide +kernel
theorem dX6_order_40 : decode cX6_order 40 = .ok (.iadd, 1) := by decide +kernel
theorem dX6_order_41 : decode cX6_order 41 = .ok (.iaload, 1) := by decide +kernel
theorem dX6_order_42 : decode cX6_order 42 = .ok (.isub, 1) := by decide +kernel
theorem dX6_order_43 : decode cX6_order 43 = .ok (.goto 7, 3) := by decide +kernel
theorem dX6_order_46 : decode cX6_order 46 = .ok (.iload_n 2, 1) := by decide +kernel
theorem dX6_order_47 : decode cX6_order 47 = .ok (.iload 4, 2) := by decide +kernel
theorem dX6_order_49 : decode cX6_order 49 = .ok (.isub, 1) := by decide +kernel
theorem dX6_order_50 : decode cX6_order 50 = .ok (.ireturn, 1) := by decide +kernel
set_option maxRecDepth 20000 in
theorem ggX6_become_X6_copy : GoodIn wsX6_become wsX6_copy := goodIn_ca (goodIn_r _ [6, 7, 11, 12, 13, 14, 15] (by decide +kernel) (by decide +kernel)) (goodIn_sub (fun _ h => List.mem_cons_of_mem _ (List.mem_append_right _ h)) (by decide +kernel))
set_option maxRecDepth 20000 in
theorem gX6_become_X6_copy : GoodIn wsX6_become (wsV RX6 54 RX6 yX6_copy wsX6_copy) := goodIn_app (goodIn_of _ (by decide +kernel)) ggX6_become_X6_copy
set_option maxRecDepth 20000 in
theorem ggX6_become_X6_baseOf : GoodIn wsX6_become wsX6_baseOf := goodIn_r _ [10] (by decide +kernel) (by decide +kernel)
set_option maxRecDepth 20000 in
theorem gX6_become_X6_baseOf : GoodIn wsX6_become (va_wsS RX6 58 yX6_baseOf wsX6_baseOf) := goodIn_app (goodIn_of _ (by decide +kernel)) ggX6_become_X6_baseOf
theorem dX6_become_0 : decode cX6_become 0 = .ok (.aload_n 0, 1) := by decide +kernel
theorem dX6_become_1 : decode cX6_become 1 = .ok (.iload_n 2, 1) := by decide +kernel
theorem dX6_become_2 : decode cX6_become 2 = .ok (.iload_n 3, 1) := by decide +kernel
theorem dX6_become_3 : decode cX6_become 3 = .ok (.sipush 750, 3) := by decide +kernel
theorem dX6_become_6 : decode cX6_become 6 = .ok (.invokevirtual 54, 3) := by decide +kernel
theorem dX6_become_9 : decode cX6_become 9 = .ok (.aload_n 0, 1) := by decide +kernel
theorem dX6_become_10 : decode cX6_become 10 = .ok (.sipush 750, 3) := by decide +kernel
theorem dX6_become_13 : decode cX6_become 13 = .ok (.iload_n 3, 1) := by decide +kernel
theorem dX6_become_14 : decode cX6_become 14 = .ok (.iload_n 1, 1) := by decide +kernel
theorem dX6_become_15 : decode cX6_become 15 = .ok (.invokestatic 58, 3) := by decide +kernel
theorem dX6_become_18 : decode cX6_become 18 = .ok (.invokevirtual 54, 3) := by decide +kernel
theorem dX6_become_21 : decode cX6_become 21 = .ok (.aload_n 0, 1) := by decide +kernel
theorem dX6_become_22 : decode cX6_become 22 = .ok (.getfield 13, 3) := by decide +kernel
theorem dX6_become_25 : decode cX6_become 25 = .ok (.iload_n 1, 1) := by decide +kernel
theorem dX6_become_26 : decode cX6_become 26 = .ok (.iload_n 3, 1) := by decide +kernel
theorem dX6_become_27 : decode cX6_become 27 = .ok (.iastore, 1) := by decide +kernel
theorem dX6_become_28 : decode cX6_become 28 = .ok (.iload_n 3, 1) := by decide +kernel
theorem dX6_become_29 : decode cX6_become 29 = .ok (.ireturn, 1) := by decide +kernel
set_option maxRecDepth 20000 in
theorem ggX6_lays_X6_baseOf : GoodIn wsX6_lays wsX6_baseOf := goodIn_r _ [5] (by decide +kernel) (by decide +kernel)
set_option maxRecDepth 20000 in
theorem gX6_lays_X6_baseOf : GoodIn wsX6_lays (va_wsS RX6 58 yX6_baseOf wsX6_baseOf) := goodIn_app (goodIn_of _ (by decide +kernel)) ggX6_lays_X6_baseOf
set_option maxRecDepth 20000 in
theorem ggX6_lays_X6_copy : GoodIn wsX6_lays wsX6_copy := goodIn_ca (goodIn_r _ [9, 10, 11, 12, 13, 14, 15] (by decide +kernel) (by decide +kernel)) (goodIn_sub (fun _ h => List.mem_cons_of_mem _ (List.mem_append_right _ h)) (by decide +kernel))
set_option maxRecDepth 20000 in
theorem gX6_lays_X6_copy : GoodIn wsX6_lays (wsV RX6 54 RX6 yX6_copy wsX6_copy) := goodIn_app (goodIn_of _ (by decide +kernel)) ggX6_lays_X6_copy
theorem dX6_lays_0 : decode cX6_lays 0 = .ok (.aload_n 0, 1) := by decide +kernel
theorem dX6_lays_1 : decode cX6_lays 1 = .ok (.iload_n 1, 1) := by decide +kernel
theorem dX6_lays_2 : decode cX6_lays 2 = .ok (.invokestatic 58, 3) := by decide +kernel
theorem dX6_lays_5 : decode cX6_lays 5 = .ok (.aload_n 0, 1) := by decide +kernel
theorem dX6_lays_6 : decode cX6_lays 6 = .ok (.getfield 13, 3) := by decide +kernel
theorem dX6_lays_9 : decode cX6_lays 9 = .ok (.iload_n 1, 1) := by decide +kernel
theorem dX6_lays_10 : decode cX6_lays 10 = .ok (.iaload, 1) := by decide +kernel
theorem dX6_lays_11 : decode cX6_lays 11 = .ok (.iload_n 3, 1) := by decide +kernel
theorem dX6_lays_12 : decode cX6_lays 12 = .ok (.invokevirtual 54, 3) := by decide +kernel
theorem dX6_lays_15 : decode cX6_lays 15 = .ok (.aload_n 0, 1) := by decide +kernel
theorem dX6_lays_16 : decode cX6_lays 16 = .ok (.iload_n 2, 1) := by decide +kernel
theorem dX6_lays_17 : decode cX6_lays 17 = .ok (.invokestatic 58, 3) := by decide +kernel
theorem dX6_lays_20 : decode cX6_lays 20 = .ok (.aload_n 0, 1) := by decide +kernel
theorem dX6_lays_21 : decode cX6_lays 21 = .ok (.getfield 13, 3) := by decide +kernel
theorem dX6_lays_24 : decode cX6_lays 24 = .ok (.iload_n 2, 1) := by decide +kernel
theorem dX6_lays_25 : decode cX6_lays 25 = .ok (.iaload, 1) := by decide +kernel
theorem dX6_lays_26 : decode cX6_lays 26 = .ok (.iload_n 3, 1) := by decide +kernel
theorem dX6_lays_27 : decode cX6_lays 27 = .ok (.aload_n 0, 1) := by decide +kernel
theorem dX6_lays_28 : decode cX6_lays 28 = .ok (.getfield 13, 3) := by decide +kernel
theorem dX6_lays_31 : decode cX6_lays 31 = .ok (.iload_n 1, 1) := by decide +kernel
theorem dX6_lays_32 : decode cX6_lays 32 = .ok (.iaload, 1) := by decide +kernel
theorem dX6_lays_33 : decode cX6_lays 33 = .ok (.iadd, 1) := by decide +kernel
theorem dX6_lays_34 : decode cX6_lays 34 = .ok (.invokevirtual 54, 3) := by decide +kernel
theorem dX6_lays_37 : decode cX6_lays 37 = .ok (.return_, 1) := by decide +kernel
set_option maxRecDepth 20000 in
theorem ggX6_turns_X6_baseOf : GoodIn wsX6_turns wsX6_baseOf := goodIn_r _ [5] (by decide +kernel) (by decide +kernel)
set_option maxRecDepth 20000 in
theorem gX6_turns_X6_baseOf : GoodIn wsX6_turns (va_wsS RX6 58 yX6_baseOf wsX6_baseOf) := goodIn_app (goodIn_of _ (by decide +kernel)) ggX6_turns_X6_baseOf
set_option maxRecDepth 20000 in
theorem ggX6_turns_X6_copy : GoodIn wsX6_turns wsX6_copy := goodIn_ca (goodIn_r _ [9, 10, 11, 12, 13, 14, 15] (by decide +kernel) (by decide +kernel)) (goodIn_sub (fun _ h => List.mem_cons_of_mem _ (List.mem_append_right _ h)) (by decide +kernel))
set_option maxRecDepth 20000 in
theorem gX6_turns_X6_copy : GoodIn wsX6_turns (wsV RX6 54 RX6 yX6_copy wsX6_copy) := goodIn_app (goodIn_of _ (by decide +kernel)) ggX6_turns_X6_copy
theorem dX6_turns_0 : decode cX6_turns 0 = .ok (.aload_n 0, 1) := by decide +kernel
theorem dX6_turns_1 : decode cX6_turns 1 = .ok (.iload_n 1, 1) := by decide +kernel
theorem dX6_turns_2 : decode cX6_turns 2 = .ok (.invokestatic 58, 3) := by decide +kernel
theorem dX6_turns_5 : decode cX6_turns 5 = .ok (.iload_n 2, 1) := by decide +kernel
theorem dX6_turns_6 : decode cX6_turns 6 = .ok (.iadd, 1) := by decide +kernel
theorem dX6_turns_7 : decode cX6_turns 7 = .ok (.aload_n 0, 1) := by decide +kernel
theorem dX6_turns_8 : decode cX6_turns 8 = .ok (.getfield 13, 3) := by decide +kernel
theorem dX6_turns_11 : decode cX6_turns 11 = .ok (.iload_n 1, 1) := by decide +kernel
theorem dX6_turns_12 : decode cX6_turns 12 = .ok (.iaload, 1) := by decide +kernel
theorem dX6_turns_13 : decode cX6_turns 13 = .ok (.iload_n 2, 1) := by decide +kernel
theorem dX6_turns_14 : decode cX6_turns 14 = .ok (.isub, 1) := by decide +kernel
theorem dX6_turns_15 : decode cX6_turns 15 = .ok (.iload_n 3, 1) := by decide +kernel
theorem dX6_turns_16 : decode cX6_turns 16 = .ok (.invokevirtual 54, 3) := by decide +kernel
theorem dX6_turns_19 : decode cX6_turns 19 = .ok (.aload_n 0, 1) := by decide +kernel
theorem dX6_turns_20 : decode cX6_turns 20 = .ok (.iload_n 1, 1) := by decide +kernel
theorem dX6_turns_21 : decode cX6_turns 21 = .ok (.invokestatic 58, 3) := by decide +kernel
theorem dX6_turns_24 : decode cX6_turns 24 = .ok (.iload_n 2, 1) := by decide +kernel
theorem dX6_turns_25 : decode cX6_turns 25 = .ok (.iload_n 3, 1) := by decide +kernel
theorem dX6_turns_26 : decode cX6_turns 26 = .ok (.aload_n 0, 1) := by decide +kernel
theorem dX6_turns_27 : decode cX6_turns 27 = .ok (.getfield 13, 3) := by decide +kernel
theorem dX6_turns_30 : decode cX6_turns 30 = .ok (.iload_n 1, 1) := by decide +kernel
theorem dX6_turns_31 : decode cX6_turns 31 = .ok (.iaload, 1) := by decide +kernel
theorem dX6_turns_32 : decode cX6_turns 32 = .ok (.iadd, 1) := by decide +kernel
theorem dX6_turns_33 : decode cX6_turns 33 = .ok (.iload_n 2, 1) := by decide +kernel
theorem dX6_turns_34 : decode cX6_turns 34 = .ok (.isub, 1) := by decide +kernel
theorem dX6_turns_35 : decode cX6_turns 35 = .ok (.invokevirtual 54, 3) := by decide +kernel
theorem dX6_turns_38 : decode cX6_turns 38 = .ok (.return_, 1) := by decide +kernel
set_option maxRecDepth 20000 in
theorem ggX6_laysBack_X6_baseOf : GoodIn wsX6_laysBack wsX6_baseOf := goodIn_r _ [6] (by decide +kernel) (by decide +kernel)
set_option maxRecDepth 20000 in
theorem gX6_laysBack_X6_baseOf : GoodIn wsX6_laysBack (va_wsS RX6 58 yX6_baseOf wsX6_baseOf) := goodIn_app (goodIn_of _ (by decide +kernel)) ggX6_laysBack_X6_baseOf
theorem dX6_laysBack_0 : decode cX6_laysBack 0 = .ok (.iconst 0, 1) := by decide +kernel
theorem dX6_laysBack_1 : decode cX6_laysBack 1 = .ok (.istore_n 3, 1) := by decide +kernel
theorem dX6_laysBack_2 : decode cX6_laysBack 2 = .ok (.iload_n 3, 1) := by decide +kernel
theorem dX6_laysBack_3 : decode cX6_laysBack 3 = .ok (.aload_n 0, 1) := by decide +kernel
theorem dX6_laysBack_4 : decode cX6_laysBack 4 = .ok (.getfield 13, 3) := by decide +kernel
theorem dX6_laysBack_7 : decode cX6_laysBack 7 = .ok (.iload_n 1, 1) := by decide +kernel
theorem dX6_laysBack_8 : decode cX6_laysBack 8 = .ok (.iaload, 1) := by decide +kernel
theorem dX6_laysBack_9 : decode cX6_laysBack 9 = .ok (.if_icmp .ge 37, 3) := by decide +kernel
theorem dX6_laysBack_12 : decode cX6_laysBack 12 = .ok (.aload_n 0, 1) := by decide +kernel
theorem dX6_laysBack_13 : decode cX6_laysBack 13 = .ok (.getfield 7, 3) := by decide +kernel
theorem dX6_laysBack_16 : decode cX6_laysBack 16 = .ok (.iload_n 2, 1) := by decide +kernel
theorem dX6_laysBack_17 : decode cX6_laysBack 17 = .ok (.iload_n 3, 1) := by decide +kernel
theorem dX6_laysBack_18 : decode cX6_laysBack 18 = .ok (.iadd, 1) := by decide +kernel
theorem dX6_laysBack_19 : decode cX6_laysBack 19 = .ok (.aload_n 0, 1) := by decide +kernel
theorem dX6_laysBack_20 : decode cX6_laysBack 20 = .ok (.getfield 7, 3) := by decide +kernel
theorem dX6_laysBack_23 : decode cX6_laysBack 23 = .ok (.iload_n 1, 1) := by decide +kernel
theorem dX6_laysBack_24 : decode cX6_laysBack 24 = .ok (.invokestatic 58, 3) := by decide +kernel
theorem dX6_laysBack_27 : decode cX6_laysBack 27 = .ok (.aload_n 0, 1) := by decide +kernel
theorem dX6_laysBack_28 : decode cX6_laysBack 28 = .ok (.getfield 13, 3) := by decide +kernel
theorem dX6_laysBack_31 : decode cX6_laysBack 31 = .ok (.iload_n 1, 1) := by decide +kernel
theorem dX6_laysBack_32 : decode cX6_laysBack 32 = .ok (.iaload, 1) := by decide +kernel
theorem dX6_laysBack_33 : decode cX6_laysBack 33 = .ok (.iadd, 1) := by decide +kernel
theorem dX6_laysBack_34 : decode cX6_laysBack 34 = .ok (.iconst 1, 1) := by decide +kernel
theorem dX6_laysBack_35 : decode cX6_laysBack 35 = .ok (.isub, 1) := by decide +kernel
theorem dX6_laysBack_36 : decode cX6_laysBack 36 = .ok (.iload_n 3, 1) := by decide +kernel
theorem dX6_laysBack_37 : decode cX6_laysBack 37 = .ok (.isub, 1) := by decide +kernel
theorem dX6_laysBack_38 : decode cX6_laysBack 38 = .ok (.iaload, 1) := by decide +kernel
theorem dX6_laysBack_39 : decode cX6_laysBack 39 = .ok (.iastore, 1) := by decide +kernel
theorem dX6_laysBack_40 : decode cX6_laysBack 40 = .ok (.iinc 3 1, 3) := by decide +kernel
theorem dX6_laysBack_43 : decode cX6_laysBack 43 = .ok (.goto (-41), 3) := by decide +kernel
theorem dX6_laysBack_46 : decode cX6_laysBack 46 = .ok (.return_, 1) := by decide +kernel
set_option maxRecDepth 20000 in
theorem ggX6_adds_X6_baseOf : GoodIn wsX6_adds wsX6_baseOf := goodIn_r _ [6] (by decide +kernel) (by decide +kernel)
set_option maxRecDepth 20000 in
theorem gX6_adds_X6_baseOf : GoodIn wsX6_adds (va_wsS RX6 58 yX6_baseOf wsX6_baseOf) := goodIn_app (goodIn_of _ (by decide +kernel)) ggX6_adds_X6_baseOf
theorem dX6_adds_0 : decode cX6_adds 0 = .ok (.aload_n 0, 1) := by decide +kernel
theorem dX6_adds_1 : decode cX6_adds 1 = .ok (.getfield 7, 3) := by decide +kernel
theorem dX6_adds_4 : decode cX6_adds 4 = .ok (.iload_n 1, 1) := by decide +kernel
theorem dX6_adds_5 : decode cX6_adds 5 = .ok (.invokestatic 58, 3) := by decide +kernel
theorem dX6_adds_8 : decode cX6_adds 8 = .ok (.aload_n 0, 1) := by decide +kernel
theorem dX6_adds_9 : decode cX6_adds 9 = .ok (.getfield 13, 3) := by decide +kernel
theorem dX6_adds_12 : decode cX6_adds 12 = .ok (.iload_n 1, 1) := by decide +kernel
theorem dX6_adds_13 : decode cX6_adds 13 = .ok (.iaload, 1) := by decide +kernel
theorem dX6_adds_14 : decode cX6_adds 14 = .ok (.iadd, 1) := by decide +kernel
theorem dX6_adds_15 : decode cX6_adds 15 = .ok (.iload_n 2, 1) := by decide +kernel
theorem dX6_adds_16 : decode cX6_adds 16 = .ok (.iastore, 1) := by decide +kernel
theorem dX6_adds_17 : decode cX6_adds 17 = .ok (.aload_n 0, 1) := by decide +kernel
theorem dX6_adds_18 : decode cX6_adds 18 = .ok (.getfield 13, 3) := by decide +kernel
theorem dX6_adds_21 : decode cX6_adds 21 = .ok (.iload_n 1, 1) := by decide +kernel
theorem dX6_adds_22 : decode cX6_adds 22 = .ok (.dup2, 1) := by decide +kernel
theorem dX6_adds_23 : decode cX6_adds 23 = .ok (.iaload, 1) := by decide +kernel
theorem dX6_adds_24 : decode cX6_adds 24 = .ok (.iconst 1, 1) := by decide +kernel
theorem dX6_adds_25 : decode cX6_adds 25 = .ok (.iadd, 1) := by decide +kernel
theorem dX6_adds_26 : decode cX6_adds 26 = .ok (.iastore, 1) := by decide +kernel
theorem dX6_adds_27 : decode cX6_adds 27 = .ok (.return_, 1) := by decide +kernel
set_option maxRecDepth 20000 in
theorem ggX6_type_X6_isNo : GoodIn wsX6_type wsX6_isNo := goodIn_r _ [6, 7, 8, 9, 5, 10, 11, 12, 13, 14, 15, 29, 30, 31, 32, 33] (by decide +kernel) (by decide +kernel)
set_option maxRecDepth 20000 in
theorem gX6_type_X6_isNo : GoodIn wsX6_type (wsV RX6 38 RX6 yX6_isNo wsX6_isNo) := goodIn_app (goodIn_of _ (by decide +kernel)) ggX6_type_X6_isNo
set_option maxRecDepth 20000 in
theorem ggX6_type_X6_isSign : GoodIn wsX6_type wsX6_isSign := goodIn_r _ [18, 19, 20, 8, 9, 5, 10] (by decide +kernel) (by decide +kernel)
set_option maxRecDepth 20000 in
theorem gX6_type_X6_isSign : GoodIn wsX6_type (va_wsS RX6 62 yX6_isSign wsX6_isSign) := goodIn_app (goodIn_of _ (by decide +kernel)) ggX6_type_X6_isSign
set_option maxRecDepth 20000 in
theorem ggX6_type_X6_isThrown : GoodIn wsX6_type wsX6_isThrown := goodIn_r _ [14, 15, 29, 30, 31, 32, 33] (by decide +kernel) (by decide +kernel)
set_option maxRecDepth 20000 in
theorem gX6_type_X6_isThrown : GoodIn wsX6_type (wsV RX6 34 RX6 yX6_isThrown wsX6_isThrown) := goodIn_app (goodIn_of _ (by decide +kernel)) ggX6_type_X6_isThrown
set_option maxRecDepth 20000 in
theorem ggX6_type_X6_adds : GoodIn wsX6_type wsX6_adds := goodIn_ca (goodIn_r _ [24, 25, 1, 26, 27, 5, 28, 29, 30, 31, 32, 33] (by decide +kernel) (by decide +kernel)) (goodIn_sub (fun _ h => List.mem_cons_of_mem _ (List.mem_append_right _ h)) (by decide +kernel))
set_option maxRecDepth 20000 in
theorem gX6_type_X6_adds : GoodIn wsX6_type (wsV RX6 65 RX6 yX6_adds wsX6_adds) := goodIn_app (goodIn_of _ (by decide +kernel)) ggX6_type_X6_adds
theorem dX6_type_0 : decode cX6_type 0 = .ok (.aload_n 0, 1) := by decide +kernel
theorem dX6_type_1 : decode cX6_type 1 = .ok (.iload_n 1, 1) := by decide +kernel
theorem dX6_type_2 : decode cX6_type 2 = .ok (.invokevirtual 38, 3) := by decide +kernel
theorem dX6_type_5 : decode cX6_type 5 = .ok (.ifCond .ne 47, 3) := by decide +kernel
theorem dX6_type_8 : decode cX6_type 8 = .ok (.aload_n 0, 1) := by decide +kernel
theorem dX6_type_9 : decode cX6_type 9 = .ok (.iload_n 2, 1) := by decide +kernel
theorem dX6_type_10 : decode cX6_type 10 = .ok (.invokestatic 62, 3) := by decide +kernel
theorem dX6_type_13 : decode cX6_type 13 = .ok (.ifCond .ne 7, 3) := by decide +kernel
theorem dX6_type_16 : decode cX6_type 16 = .ok (.iconst 1, 1) := by decide +kernel
theorem dX6_type_17 : decode cX6_type 17 = .ok (.goto 4, 3) := by decide +kernel
theorem dX6_type_20 : decode cX6_type 20 = .ok (.iconst 0, 1) := by decide +kernel
theorem dX6_type_21 : decode cX6_type 21 = .ok (.iconst 2, 1) := by decide +kernel
theorem dX6_type_22 : decode cX6_type 22 = .ok (.invokevirtual 34, 3) := by decide +kernel
theorem dX6_type_25 : decode cX6_type 25 = .ok (.ifCond .ne 27, 3) := by decide +kernel
theorem dX6_type_28 : decode cX6_type 28 = .ok (.aload_n 0, 1) := by decide +kernel
theorem dX6_type_29 : decode cX6_type 29 = .ok (.aload_n 0, 1) := by decide +kernel
theorem dX6_type_30 : decode cX6_type 30 = .ok (.getfield 13, 3) := by decide +kernel
theorem dX6_type_33 : decode cX6_type 33 = .ok (.iload_n 1, 1) := by decide +kernel
theorem dX6_type_34 : decode cX6_type 34 = .ok (.iaload, 1) := by decide +kernel
theorem dX6_type_35 : decode cX6_type 35 = .ok (.bipush 60, 2) := by decide +kernel
theorem dX6_type_37 : decode cX6_type 37 = .ok (.if_icmp .ne 7, 3) := by decide +kernel
theorem dX6_type_40 : decode cX6_type 40 = .ok (.iconst 1, 1) := by decide +kernel
theorem dX6_type_41 : decode cX6_type 41 = .ok (.goto 4, 3) := by decide +kernel
theorem dX6_type_44 : decode cX6_type 44 = .ok (.iconst 0, 1) := by decide +kernel
theorem dX6_type_45 : decode cX6_type 45 = .ok (.iconst 3, 1) := by decide +kernel
theorem dX6_type_46 : decode cX6_type 46 = .ok (.invokevirtual 34, 3) := by decide +kernel
theorem dX6_type_49 : decode cX6_type 49 = .ok (.ifCond .eq 5, 3) := by decide +kernel
theorem dX6_type_52 : decode cX6_type 52 = .ok (.iconst 0, 1) := by decide +kernel
theorem dX6_type_53 : decode cX6_type 53 = .ok (.ireturn, 1) := by decide +kernel
theorem dX6_type_54 : decode cX6_type 54 = .ok (.aload_n 0, 1) := by decide +kernel
theorem dX6_type_55 : decode cX6_type 55 = .ok (.iload_n 1, 1) := by decide +kernel
theorem dX6_type_56 : decode cX6_type 56 = .ok (.iload_n 2, 1) := by decide +kernel
theorem dX6_type_57 : decode cX6_type 57 = .ok (.invokevirtual 65, 3) := by decide +kernel
theorem dX6_type_60 : decode cX6_type 60 = .ok (.aload_n 0, 1) := by decide +kernel
theorem dX6_type_61 : decode cX6_type 61 = .ok (.getfield 13, 3) := by decide +kernel
theorem dX6_type_64 : decode cX6_type 64 = .ok (.iload_n 1, 1) := by decide +kernel
theorem dX6_type_65 : decode cX6_type 65 = .ok (.iaload, 1) := by decide +kernel
theorem dX6_type_66 : decode cX6_type 66 = .ok (.ireturn, 1) := by decide +kernel
set_option maxRecDepth 20000 in
theorem ggX6_typeMore_X6_isNo : GoodIn wsX6_typeMore wsX6_isNo := goodIn_r _ [8, 9, 10, 11, 7, 12, 13, 14, 15, 16, 17, 30, 31, 32, 33, 34] (by decide +kernel) (by decide +kernel)
set_option maxRecDepth 20000 in
theorem gX6_typeMore_X6_isNo : GoodIn wsX6_typeMore (wsV RX6 38 RX6 yX6_isNo wsX6_isNo) := goodIn_app (goodIn_of _ (by decide +kernel)) ggX6_typeMore_X6_isNo
set_option maxRecDepth 20000 in
theorem ggX6_typeMore_X6_isIn : GoodIn wsX6_typeMore wsX6_isIn := goodIn_r _ [12] (by decide +kernel) (by decide +kernel)
set_option maxRecDepth 20000 in
theorem gX6_typeMore_X6_isIn : GoodIn wsX6_typeMore (va_wsS RX6 30 yX6_isIn wsX6_isIn) := goodIn_app (goodIn_of _ (by decide +kernel)) ggX6_typeMore_X6_isIn
set_option maxRecDepth 20000 in
theorem ggX6_typeMore_X6_isThrown : GoodIn wsX6_typeMore wsX6_isThrown := goodIn_r _ [16, 17, 30, 31, 32, 33, 34] (by decide +kernel) (by decide +kernel)
set_option maxRecDepth 20000 in
theorem gX6_typeMore_X6_isThrown : GoodIn wsX6_typeMore (wsV RX6 34 RX6 yX6_isThrown wsX6_isThrown) := goodIn_app (goodIn_of _ (by decide +kernel)) ggX6_typeMore_X6_isThrown
set_option maxRecDepth 20000 in
theorem ggX6_typeMore_X6_isSign : GoodIn wsX6_typeMore wsX6_isSign := goodIn_r _ [20, 21, 22, 10, 11, 7, 12] (by decide +kernel) (by decide +kernel)
set_option maxRecDepth 20000 in
theorem gX6_typeMore_X6_isSign : GoodIn wsX6_typeMore (va_wsS RX6 62 yX6_isSign wsX6_isSign) := goodIn_app (goodIn_of _ (by decide +kernel)) ggX6_typeMore_X6_isSign
set_option maxRecDepth 20000 in
theorem ggX6_typeMore_X6_adds : GoodIn wsX6_typeMore wsX6_adds := goodIn_ca (goodIn_r _ [26, 2, 3, 27, 28, 7, 29, 30, 31, 32, 33, 34] (by decide +kernel) (by decide +kernel)) (goodIn_sub (fun _ h => List.mem_cons_of_mem _ (List.mem_append_right _ h)) (by decide +kernel))
set_option maxRecDepth 20000 in
theorem gX6_typeMore_X6_adds : GoodIn wsX6_typeMore (wsV RX6 65 RX6 yX6_adds wsX6_adds) := goodIn_app (goodIn_of _ (by decide +kernel)) ggX6_typeMore_X6_adds
theorem dX6_typeMore_0 : decode cX6_typeMore 0 = .ok (.aload_n 0, 1) := by decide +kernel
theorem dX6_typeMore_1 : decode cX6_typeMore 1 = .ok (.iload_n 1, 1) := by decide +kernel
theorem dX6_typeMore_2 : decode cX6_typeMore 2 = .ok (.invokevirtual 38, 3) := by decide +kernel
theorem dX6_typeMore_5 : decode cX6_typeMore 5 = .ok (.ifCond .ne 28, 3) := by decide +kernel
theorem dX6_typeMore_8 : decode cX6_typeMore 8 = .ok (.aload_n 0, 1) := by decide +kernel
theorem dX6_typeMore_9 : decode cX6_typeMore 9 = .ok (.iload_n 2, 1) := by decide +kernel
theorem dX6_typeMore_10 : decode cX6_typeMore 10 = .ok (.i2l, 1) := by decide +kernel
theorem dX6_typeMore_11 : decode cX6_typeMore 11 = .ok (.lconst 1, 1) := by decide +kernel
theorem dX6_typeMore_12 : decode cX6_typeMore 12 = .ok (.ldc2_w 69, 3) := by decide +kernel
theorem dX6_typeMore_15 : decode cX6_typeMore 15 = .ok (.invokestatic 30, 3) := by decide +kernel
theorem dX6_typeMore_18 : decode cX6_typeMore 18 = .ok (.ifCond .ne 7, 3) := by decide +kernel
theorem dX6_typeMore_21 : decode cX6_typeMore 21 = .ok (.iconst 1, 1) := by decide +kernel
theorem dX6_typeMore_22 : decode cX6_typeMore 22 = .ok (.goto 4, 3) := by decide +kernel
theorem dX6_typeMore_25 : decode cX6_typeMore 25 = .ok (.iconst 0, 1) := by decide +kernel
theorem dX6_typeMore_26 : decode cX6_typeMore 26 = .ok (.iconst 2, 1) := by decide +kernel
theorem dX6_typeMore_27 : decode cX6_typeMore 27 = .ok (.invokevirtual 34, 3) := by decide +kernel
theorem dX6_typeMore_30 : decode cX6_typeMore 30 = .ok (.ifCond .eq 5, 3) := by decide +kernel
theorem dX6_typeMore_33 : decode cX6_typeMore 33 = .ok (.iconst 0, 1) := by decide +kernel
theorem dX6_typeMore_34 : decode cX6_typeMore 34 = .ok (.ireturn, 1) := by decide +kernel
theorem dX6_typeMore_35 : decode cX6_typeMore 35 = .ok (.aload_n 0, 1) := by decide +kernel
theorem dX6_typeMore_36 : decode cX6_typeMore 36 = .ok (.getfield 7, 3) := by decide +kernel
theorem dX6_typeMore_39 : decode cX6_typeMore 39 = .ok (.sipush 360, 3) := by decide +kernel
theorem dX6_typeMore_42 : decode cX6_typeMore 42 = .ok (.iload_n 3, 1) := by decide +kernel
theorem dX6_typeMore_43 : decode cX6_typeMore 43 = .ok (.iastore, 1) := by decide +kernel
theorem dX6_typeMore_44 : decode cX6_typeMore 44 = .ok (.aload_n 0, 1) := by decide +kernel
theorem dX6_typeMore_45 : decode cX6_typeMore 45 = .ok (.getfield 7, 3) := by decide +kernel
theorem dX6_typeMore_48 : decode cX6_typeMore 48 = .ok (.sipush 361, 3) := by decide +kernel
theorem dX6_typeMore_51 : decode cX6_typeMore 51 = .ok (.iload 4, 2) := by decide +kernel
theorem dX6_typeMore_53 : decode cX6_typeMore 53 = .ok (.iastore, 1) := by decide +kernel
theorem dX6_typeMore_54 : decode cX6_typeMore 54 = .ok (.aload_n 0, 1) := by decide +kernel
theorem dX6_typeMore_55 : decode cX6_typeMore 55 = .ok (.getfield 7, 3) := by decide +kernel
theorem dX6_typeMore_58 : decode cX6_typeMore 58 = .ok (.sipush 362, 3) := by decide +kernel
theorem dX6_typeMore_61 : decode cX6_typeMore 61 = .ok (.iload 5, 2) := by decide +kernel
theorem dX6_typeMore_63 : decode cX6_typeMore 63 = .ok (.iastore, 1) := by decide +kernel
theorem dX6_typeMore_64 : decode cX6_typeMore 64 = .ok (.aload_n 0, 1) := by decide +kernel
theorem dX6_typeMore_65 : decode cX6_typeMore 65 = .ok (.getfield 7, 3) := by decide +kernel
theorem dX6_typeMore_68 : decode cX6_typeMore 68 = .ok (.sipush 363, 3) := by decide +kernel
theorem dX6_typeMore_71 : decode cX6_typeMore 71 = .ok (.iload 6, 2) := by decide +kernel
theorem dX6_typeMore_73 : decode cX6_typeMore 73 = .ok (.iastore, 1) := by decide +kernel
theorem dX6_typeMore_74 : decode cX6_typeMore 74 = .ok (.aload_n 0, 1) := by decide +kernel
theorem dX6_typeMore_75 : decode cX6_typeMore 75 = .ok (.getfield 7, 3) := by decide +kernel
theorem dX6_typeMore_78 : decode cX6_typeMore 78 = .ok (.sipush 364, 3) := by decide +kernel
theorem dX6_typeMore_81 : decode cX6_typeMore 81 = .ok (.iload 7, 2) := by decide +kernel
theorem dX6_typeMore_83 : decode cX6_typeMore 83 = .ok (.iastore, 1) := by decide +kernel
theorem dX6_typeMore_84 : decode cX6_typeMore 84 = .ok (.aload_n 0, 1) := by decide +kernel
theorem dX6_typeMore_85 : decode cX6_typeMore 85 = .ok (.getfield 7, 3) := by decide +kernel
theorem dX6_typeMore_88 : decode cX6_typeMore 88 = .ok (.sipush 365, 3) := by decide +kernel
theorem dX6_typeMore_91 : decode cX6_typeMore 91 = .ok (.iload 8, 2) := by decide +kernel
theorem dX6_typeMore_93 : decode cX6_typeMore 93 = .ok (.iastore, 1) := by decide +kernel
theorem dX6_typeMore_94 : decode cX6_typeMore 94 = .ok (.iconst 1, 1) := by decide +kernel
theorem dX6_typeMore_95 : decode cX6_typeMore 95 = .ok (.istore 9, 2) := by decide +kernel
theorem dX6_typeMore_97 : decode cX6_typeMore 97 = .ok (.iconst 0, 1) := by decide +kernel
theorem dX6_typeMore_98 : decode cX6_typeMore 98 = .ok (.istore 10, 2) := by decide +kernel
theorem dX6_typeMore_100 : decode cX6_typeMore 100 = .ok (.iload 10, 2) := by decide +kernel
theorem dX6_typeMore_102 : decode cX6_typeMore 102 = .ok (.iload_n 2, 1) := by decide +kernel
theorem dX6_typeMore_103 : decode cX6_typeMore 103 = .ok (.if_icmp .ge 38, 3) := by decide +kernel
theorem dX6_typeMore_106 : decode cX6_typeMore 106 = .ok (.iload 9, 2) := by decide +kernel
theorem dX6_typeMore_108 : decode cX6_typeMore 108 = .ok (.ifCond .eq 24, 3) := by decide +kernel
theorem dX6_typeMore_111 : decode cX6_typeMore 111 = .ok (.aload_n 0, 1) := by decide +kernel
theorem dX6_typeMore_112 : decode cX6_typeMore 112 = .ok (.getfield 7, 3) := by decide +kernel
theorem dX6_typeMore_115 : decode cX6_typeMore 115 = .ok (.sipush 360, 3) := by decide +kernel
theorem dX6_typeMore_118 : decode cX6_typeMore 118 = .ok (.iload 10, 2) := by decide +kernel
theorem dX6_typeMore_120 : decode cX6_typeMore 120 = .ok (.iadd, 1) := by decide +kernel
theorem dX6_typeMore_121 : decode cX6_typeMore 121 = .ok (.iaload, 1) := by decide +kernel
theorem dX6_typeMore_122 : decode cX6_typeMore 122 = .ok (.invokestatic 62, 3) := by decide +kernel
theorem dX6_typeMore_125 : decode cX6_typeMore 125 = .ok (.ifCond .eq 7, 3) := by decide +kernel
theorem dX6_typeMore_128 : decode cX6_typeMore 128 = .ok (.iconst 1, 1) := by decide +kernel
theorem dX6_typeMore_129 : decode cX6_typeMore 129 = .ok (.goto 4, 3) := by decide +kernel
theorem dX6_typeMore_132 : decode cX6_typeMore 132 = .ok (.iconst 0, 1) := by decide +kernel
theorem dX6_typeMore_133 : decode cX6_typeMore 133 = .ok (.istore 9, 2) := by decide +kernel
theorem dX6_typeMore_135 : decode cX6_typeMore 135 = .ok (.iinc 10 1, 3) := by decide +kernel
theorem dX6_typeMore_138 : decode cX6_typeMore 138 = .ok (.goto (-38), 3) := by decide +kernel
theorem dX6_typeMore_141 : decode cX6_typeMore 141 = .ok (.aload_n 0, 1) := by decide +kernel
theorem dX6_typeMore_142 : decode cX6_typeMore 142 = .ok (.iload 9, 2) := by decide +kernel
theorem dX6_typeMore_144 : decode cX6_typeMore 144 = .ok (.ifCond .ne 7, 3) := by decide +kernel
theorem dX6_typeMore_147 : decode cX6_typeMore 147 = .ok (.iconst 1, 1) := by decide +kernel
theorem dX6_typeMore_148 : decode cX6_typeMore 148 = .ok (.goto 4, 3) := by decide +kernel
theorem dX6_typeMore_151 : decode cX6_typeMore 151 = .ok (.iconst 0, 1) := by decide +kernel
theorem dX6_typeMore_152 : decode cX6_typeMore 152 = .ok (.iconst 2, 1) := by decide +kernel
theorem dX6_typeMore_153 : decode cX6_typeMore 153 = .ok (.invokevirtual 34, 3) := by decide +kernel
theorem dX6_typeMore_156 : decode cX6_typeMore 156 = .ok (.ifCond .ne 29, 3) := by decide +kernel
theorem dX6_typeMore_159 : decode cX6_typeMore 159 = .ok (.aload_n 0, 1) := by decide +kernel
theorem dX6_typeMore_160 : decode cX6_typeMore 160 = .ok (.aload_n 0, 1) := by decide +kernel
theorem dX6_typeMore_161 : decode cX6_typeMore 161 = .ok (.getfield 13, 3) := by decide +kernel
theorem dX6_typeMore_164 : decode cX6_typeMore 164 = .ok (.iload_n 1, 1) := by decide +kernel
theorem dX6_typeMore_165 : decode cX6_typeMore 165 = .ok (.iaload, 1) := by decide +kernel
theorem dX6_typeMore_166 : decode cX6_typeMore 166 = .ok (.iload_n 2, 1) := by decide +kernel
theorem dX6_typeMore_167 : decode cX6_typeMore 167 = .ok (.iadd, 1) := by decide +kernel
theorem dX6_typeMore_168 : decode cX6_typeMore 168 = .ok (.bipush 60, 2) := by decide +kernel
theorem dX6_typeMore_170 : decode cX6_typeMore 170 = .ok (.if_icmp .le 7, 3) := by decide +kernel
theorem dX6_typeMore_173 : decode cX6_typeMore 173 = .ok (.iconst 1, 1) := by decide +kernel
theorem dX6_typeMore_174 : decode cX6_typeMore 174 = .ok (.goto 4, 3) := by decide +kernel
theorem dX6_typeMore_177 : decode cX6_typeMore 177 = .ok (.iconst 0, 1) := by decide +kernel
theorem dX6_typeMore_178 : decode cX6_typeMore 178 = .ok (.iconst 3, 1) := by decide +kernel
theorem dX6_typeMore_179 : decode cX6_typeMore 179 = .ok (.invokevirtual 34, 3) := by decide +kernel
theorem dX6_typeMore_182 : decode cX6_typeMore 182 = .ok (.ifCond .eq 5, 3) := by decide +kernel
theorem dX6_typeMore_185 : decode cX6_typeMore 185 = .ok (.iconst 0, 1) := by decide +kernel
theorem dX6_typeMore_186 : decode cX6_typeMore 186 = .ok (.ireturn, 1) := by decide +kernel
theorem dX6_typeMore_187 : decode cX6_typeMore 187 = .ok (.iconst 0, 1) := by decide +kernel
theorem dX6_typeMore_188 : decode cX6_typeMore 188 = .ok (.istore 10, 2) := by decide +kernel
theorem dX6_typeMore_190 : decode cX6_typeMore 190 = .ok (.iload 10, 2) := by decide +kernel
theorem dX6_typeMore_192 : decode cX6_typeMore 192 = .ok (.iload_n 2, 1) := by decide +kernel
theorem dX6_typeMore_193 : decode cX6_typeMore 193 = .ok (.if_icmp .ge 25, 3) := by decide +kernel
theorem dX6_typeMore_196 : decode cX6_typeMore 196 = .ok (.aload_n 0, 1) := by decide +kernel
theorem dX6_typeMore_197 : decode cX6_typeMore 197 = .ok (.iload_n 1, 1) := by decide +kernel
theorem dX6_typeMore_198 : decode cX6_typeMore 198 = .ok (.aload_n 0, 1) := by decide +kernel
theorem dX6_typeMore_199 : decode cX6_typeMore 199 = .ok (.getfield 7, 3) := by decide +kernel
theorem dX6_typeMore_202 : decode cX6_typeMore 202 = .ok (.sipush 360, 3) := by decide +kernel
theorem dX6_typeMore_205 : decode cX6_typeMore 205 = .ok (.iload 10, 2) := by decide +kernel
theorem dX6_typeMore_207 : decode cX6_typeMore 207 = .ok (.iadd, 1) := by decide +kernel
theorem dX6_typeMore_208 : decode cX6_typeMore 208 = .ok (.iaload, 1) := by decide +kernel
theorem dX6_typeMore_209 : decode cX6_typeMore 209 = .ok (.invokevirtual 65, 3) := by decide +kernel
theorem dX6_typeMore_212 : decode cX6_typeMore 212 = .ok (.iinc 10 1, 3) := by decide +kernel
theorem dX6_typeMore_215 : decode cX6_typeMore 215 = .ok (.goto (-25), 3) := by decide +kernel
theorem dX6_typeMore_218 : decode cX6_typeMore 218 = .ok (.aload_n 0, 1) := by decide +kernel
theorem dX6_typeMore_219 : decode cX6_typeMore 219 = .ok (.getfield 13, 3) := by decide +kernel
theorem dX6_typeMore_222 : decode cX6_typeMore 222 = .ok (.iload_n 1, 1) := by decide +kernel
theorem dX6_typeMore_223 : decode cX6_typeMore 223 = .ok (.iaload, 1) := by decide +kernel
theorem dX6_typeMore_224 : decode cX6_typeMore 224 = .ok (.ireturn, 1) := by decide +kernel
set_option maxRecDepth 20000 in
theorem ggX6_erase_X6_isNo : GoodIn wsX6_erase wsX6_isNo := goodIn_r _ [6, 7, 8, 9, 5, 10, 11, 12, 13, 14, 15, 16, 17, 18, 19, 20] (by decide +kernel) (by decide +kernel)
set_option maxRecDepth 20000 in
theorem gX6_erase_X6_isNo : GoodIn wsX6_erase (wsV RX6 38 RX6 yX6_isNo wsX6_isNo) := goodIn_app (goodIn_of _ (by decide +kernel)) ggX6_erase_X6_isNo
theorem dX6_erase_0 : decode cX6_erase 0 = .ok (.aload_n 0, 1) := by decide +kernel
theorem dX6_erase_1 : decode cX6_erase 1 = .ok (.iload_n 1, 1) := by decide +kernel
theorem dX6_erase_2 : decode cX6_erase 2 = .ok (.invokevirtual 38, 3) := by decide +kernel
theorem dX6_erase_5 : decode cX6_erase 5 = .ok (.ifCond .eq 5, 3) := by decide +kernel
theorem dX6_erase_8 : decode cX6_erase 8 = .ok (.iconst 0, 1) := by decide +kernel
theorem dX6_erase_9 : decode cX6_erase 9 = .ok (.ireturn, 1) := by decide +kernel
theorem dX6_erase_10 : decode cX6_erase 10 = .ok (.aload_n 0, 1) := by decide +kernel
theorem dX6_erase_11 : decode cX6_erase 11 = .ok (.getfield 13, 3) := by decide +kernel
theorem dX6_erase_14 : decode cX6_erase 14 = .ok (.iload_n 1, 1) := by decide +kernel
theorem dX6_erase_15 : decode cX6_erase 15 = .ok (.iaload, 1) := by decide +kernel
theorem dX6_erase_16 : decode cX6_erase 16 = .ok (.istore_n 2, 1) := by decide +kernel
theorem dX6_erase_17 : decode cX6_erase 17 = .ok (.aload_n 0, 1) := by decide +kernel
theorem dX6_erase_18 : decode cX6_erase 18 = .ok (.getfield 13, 3) := by decide +kernel
theorem dX6_erase_21 : decode cX6_erase 21 = .ok (.iload_n 1, 1) := by decide +kernel
theorem dX6_erase_22 : decode cX6_erase 22 = .ok (.iconst 0, 1) := by decide +kernel
theorem dX6_erase_23 : decode cX6_erase 23 = .ok (.iastore, 1) := by decide +kernel
theorem dX6_erase_24 : decode cX6_erase 24 = .ok (.iload_n 2, 1) := by decide +kernel
theorem dX6_erase_25 : decode cX6_erase 25 = .ok (.ireturn, 1) := by decide +kernel
set_option maxRecDepth 20000 in
theorem ggX6_length_X6_isNo : GoodIn wsX6_length wsX6_isNo := goodIn_r _ [6, 7, 8, 9, 5, 10, 11, 12, 13, 14, 15, 16, 17, 18, 19, 20] (by decide +kernel) (by decide +kernel)
set_option maxRecDepth 20000 in
theorem gX6_length_X6_isNo : GoodIn wsX6_length (wsV RX6 38 RX6 yX6_isNo wsX6_isNo) := goodIn_app (goodIn_of _ (by decide +kernel)) ggX6_length_X6_isNo
theorem dX6_length_0 : decode cX6_length 0 = .ok (.aload_n 0, 1) := by decide +kernel
theorem dX6_length_1 : decode cX6_length 1 = .ok (.iload_n 1, 1) := by decide +kernel
theorem dX6_length_2 : decode cX6_length 2 = .ok (.invokevirtual 38, 3) := by decide +kernel
theorem dX6_length_5 : decode cX6_length 5 = .ok (.ifCond .eq 7, 3) := by decide +kernel
theorem dX6_length_8 : decode cX6_length 8 = .ok (.iconst 0, 1) := by decide +kernel
theorem dX6_length_9 : decode cX6_length 9 = .ok (.goto 9, 3) := by decide +kernel
theorem dX6_length_12 : decode cX6_length 12 = .ok (.aload_n 0, 1) := by decide +kernel
theorem dX6_length_13 : decode cX6_length 13 = .ok (.getfield 13, 3) := by decide +kernel
theorem dX6_length_16 : decode cX6_length 16 = .ok (.iload_n 1, 1) := by decide +kernel
theorem dX6_length_17 : decode cX6_length 17 = .ok (.iaload, 1) := by decide +kernel
theorem dX6_length_18 : decode cX6_length 18 = .ok (.ireturn, 1) := by decide +kernel
set_option maxRecDepth 20000 in
theorem ggX6_isNoPlace_X6_isNo : GoodIn wsX6_isNoPlace wsX6_isNo := goodIn_r _ [6, 7, 8, 9, 5, 10, 11, 12, 13, 14, 15, 16, 17, 18, 19, 20] (by decide +kernel) (by decide +kernel)
set_option maxRecDepth 20000 in
theorem gX6_isNoPlace_X6_isNo : GoodIn wsX6_isNoPlace (wsV RX6 38 RX6 yX6_isNo wsX6_isNo) := goodIn_app (goodIn_of _ (by decide +kernel)) ggX6_isNoPlace_X6_isNo
set_option maxRecDepth 20000 in
theorem ggX6_isNoPlace_X6_isIn : GoodIn wsX6_isNoPlace wsX6_isIn := goodIn_r _ [10] (by decide +kernel) (by decide +kernel)
set_option maxRecDepth 20000 in
theorem gX6_isNoPlace_X6_isIn : GoodIn wsX6_isNoPlace (va_wsS RX6 30 yX6_isIn wsX6_isIn) := goodIn_app (goodIn_of _ (by decide +kernel)) ggX6_isNoPlace_X6_isIn
set_option maxRecDepth 20000 in
theorem ggX6_isNoPlace_X6_isThrown : GoodIn wsX6_isNoPlace wsX6_isThrown := goodIn_r _ [14, 15, 16, 17, 18, 19, 20] (by decide +kernel) (by decide +kernel)
set_option maxRecDepth 20000 in
theorem gX6_isNoPlace_X6_isThrown : GoodIn wsX6_isNoPlace (wsV RX6 34 RX6 yX6_isThrown wsX6_isThrown) := goodIn_app (goodIn_of _ (by decide +kernel)) ggX6_isNoPlace_X6_isThrown
theorem dX6_isNoPlace_0 : decode cX6_isNoPlace 0 = .ok (.aload_n 0, 1) := by decide +kernel
theorem dX6_isNoPlace_1 : decode cX6_isNoPlace 1 = .ok (.iload_n 1, 1) := by decide +kernel
theorem dX6_isNoPlace_2 : decode cX6_isNoPlace 2 = .ok (.invokevirtual 38, 3) := by decide +kernel
theorem dX6_isNoPlace_5 : decode cX6_isNoPlace 5 = .ok (.ifCond .ne 34, 3) := by decide +kernel
theorem dX6_isNoPlace_8 : decode cX6_isNoPlace 8 = .ok (.aload_n 0, 1) := by decide +kernel
theorem dX6_isNoPlace_9 : decode cX6_isNoPlace 9 = .ok (.iload_n 2, 1) := by decide +kernel
theorem dX6_isNoPlace_10 : decode cX6_isNoPlace 10 = .ok (.i2l, 1) := by decide +kernel
theorem dX6_isNoPlace_11 : decode cX6_isNoPlace 11 = .ok (.lconst 0, 1) := by decide +kernel
theorem dX6_isNoPlace_12 : decode cX6_isNoPlace 12 = .ok (.aload_n 0, 1) := by decide +kernel
theorem dX6_isNoPlace_13 : decode cX6_isNoPlace 13 = .ok (.getfield 13, 3) := by decide +kernel
theorem dX6_isNoPlace_16 : decode cX6_isNoPlace 16 = .ok (.iload_n 1, 1) := by decide +kernel
theorem dX6_isNoPlace_17 : decode cX6_isNoPlace 17 = .ok (.iaload, 1) := by decide +kernel
theorem dX6_isNoPlace_18 : decode cX6_isNoPlace 18 = .ok (.iconst 1, 1) := by decide +kernel
theorem dX6_isNoPlace_19 : decode cX6_isNoPlace 19 = .ok (.isub, 1) := by decide +kernel
theorem dX6_isNoPlace_20 : decode cX6_isNoPlace 20 = .ok (.i2l, 1) := by decide +kernel
theorem dX6_isNoPlace_21 : decode cX6_isNoPlace 21 = .ok (.invokestatic 30, 3) := by decide +kernel
theorem dX6_isNoPlace_24 : decode cX6_isNoPlace 24 = .ok (.ifCond .ne 7, 3) := by decide +kernel
theorem dX6_isNoPlace_27 : decode cX6_isNoPlace 27 = .ok (.iconst 1, 1) := by decide +kernel
theorem dX6_isNoPlace_28 : decode cX6_isNoPlace 28 = .ok (.goto 4, 3) := by decide +kernel
theorem dX6_isNoPlace_31 : decode cX6_isNoPlace 31 = .ok (.iconst 0, 1) := by decide +kernel
theorem dX6_isNoPlace_32 : decode cX6_isNoPlace 32 = .ok (.iconst 1, 1) := by decide +kernel
theorem dX6_isNoPlace_33 : decode cX6_isNoPlace 33 = .ok (.invokevirtual 34, 3) := by decide +kernel
theorem dX6_isNoPlace_36 : decode cX6_isNoPlace 36 = .ok (.ifCond .eq 7, 3) := by decide +kernel
theorem dX6_isNoPlace_39 : decode cX6_isNoPlace 39 = .ok (.iconst 1, 1) := by decide +kernel
theorem dX6_isNoPlace_40 : decode cX6_isNoPlace 40 = .ok (.goto 4, 3) := by decide +kernel
theorem dX6_isNoPlace_43 : decode cX6_isNoPlace 43 = .ok (.iconst 0, 1) := by decide +kernel
theorem dX6_isNoPlace_44 : decode cX6_isNoPlace 44 = .ok (.ireturn, 1) := by decide +kernel
set_option maxRecDepth 20000 in
theorem ggX6_signAt_X6_isNoPlace : GoodIn wsX6_signAt wsX6_isNoPlace := goodIn_ca (goodIn_r _ [6, 7, 8, 9, 10, 5, 11, 12, 13, 14, 15, 16, 17, 18, 19, 20, 24, 25, 26, 27, 28] (by decide +kernel) (by decide +kernel)) (goodIn_sub (fun _ h => List.mem_cons_of_mem _ (List.mem_append_right _ h)) (by decide +kernel))
set_option maxRecDepth 20000 in
theorem gX6_signAt_X6_isNoPlace : GoodIn wsX6_signAt (wsV RX6 71 RX6 yX6_isNoPlace wsX6_isNoPlace) := goodIn_app (goodIn_of _ (by decide +kernel)) ggX6_signAt_X6_isNoPlace
set_option maxRecDepth 20000 in
theorem ggX6_signAt_X6_baseOf : GoodIn wsX6_signAt wsX6_baseOf := goodIn_r _ [23] (by decide +kernel) (by decide +kernel)
set_option maxRecDepth 20000 in
theorem gX6_signAt_X6_baseOf : GoodIn wsX6_signAt (va_wsS RX6 58 yX6_baseOf wsX6_baseOf) := goodIn_app (goodIn_of _ (by decide +kernel)) ggX6_signAt_X6_baseOf
theorem dX6_signAt_0 : decode cX6_signAt 0 = .ok (.aload_n 0, 1) := by decide +kernel
theorem dX6_signAt_1 : decode cX6_signAt 1 = .ok (.iload_n 1, 1) := by decide +kernel
theorem dX6_signAt_2 : decode cX6_signAt 2 = .ok (.iload_n 2, 1) := by decide +kernel
theorem dX6_signAt_3 : decode cX6_signAt 3 = .ok (.invokevirtual 71, 3) := by decide +kernel
theorem dX6_signAt_6 : decode cX6_signAt 6 = .ok (.ifCond .eq 8, 3) := by decide +kernel
theorem dX6_signAt_9 : decode cX6_signAt 9 = .ok (.bipush 32, 2) := by decide +kernel
theorem dX6_signAt_11 : decode cX6_signAt 11 = .ok (.goto 15, 3) := by decide +kernel
theorem dX6_signAt_14 : decode cX6_signAt 14 = .ok (.aload_n 0, 1) := by decide +kernel
theorem dX6_signAt_15 : decode cX6_signAt 15 = .ok (.getfield 7, 3) := by decide +kernel
theorem dX6_signAt_18 : decode cX6_signAt 18 = .ok (.iload_n 1, 1) := by decide +kernel
theorem dX6_signAt_19 : decode cX6_signAt 19 = .ok (.invokestatic 58, 3) := by decide +kernel
theorem dX6_signAt_22 : decode cX6_signAt 22 = .ok (.iload_n 2, 1) := by decide +kernel
theorem dX6_signAt_23 : decode cX6_signAt 23 = .ok (.iadd, 1) := by decide +kernel
theorem dX6_signAt_24 : decode cX6_signAt 24 = .ok (.iaload, 1) := by decide +kernel
theorem dX6_signAt_25 : decode cX6_signAt 25 = .ok (.i2c, 1) := by decide +kernel
theorem dX6_signAt_26 : decode cX6_signAt 26 = .ok (.ireturn, 1) := by decide +kernel
set_option maxRecDepth 20000 in
theorem ggX6_join_X6_isNoOfAll : GoodIn wsX6_join wsX6_isNoOfAll := goodIn_r _ [6, 7, 8, 9, 5, 10, 11, 12, 13, 14, 15, 16, 17, 18, 19, 36, 37, 38, 39, 40] (by decide +kernel) (by decide +kernel)
set_option maxRecDepth 20000 in
theorem gX6_join_X6_isNoOfAll : GoodIn wsX6_join (wsV RX6 75 RX6 yX6_isNoOfAll wsX6_isNoOfAll) := goodIn_app (goodIn_of _ (by decide +kernel)) ggX6_join_X6_isNoOfAll
set_option maxRecDepth 20000 in
theorem ggX6_join_X6_isThrown : GoodIn wsX6_join wsX6_isThrown := goodIn_r _ [18, 19, 36, 37, 38, 39, 40] (by decide +kernel) (by decide +kernel)
set_option maxRecDepth 20000 in
theorem gX6_join_X6_isThrown : GoodIn wsX6_join (wsV RX6 34 RX6 yX6_isThrown wsX6_isThrown) := goodIn_app (goodIn_of _ (by decide +kernel)) ggX6_join_X6_isThrown
set_option maxRecDepth 20000 in
theorem ggX6_join_X6_lays : GoodIn wsX6_join wsX6_lays := goodIn_ca (goodIn_r _ [23, 1, 24, 25, 5, 26, 27, 28, 29, 30, 31, 36, 37, 38, 39, 40] (by decide +kernel) (by decide +kernel)) (goodIn_sub (fun _ h => List.mem_cons_of_mem _ (List.mem_append_right _ h)) (by decide +kernel))
set_option maxRecDepth 20000 in
theorem gX6_join_X6_lays : GoodIn wsX6_join (wsV RX6 79 RX6 yX6_lays wsX6_lays) := goodIn_app (goodIn_of _ (by decide +kernel)) ggX6_join_X6_lays
set_option maxRecDepth 20000 in
theorem ggX6_join_X6_become : GoodIn wsX6_join wsX6_become := goodIn_ca (goodIn_r _ [35, 1, 27, 28, 29, 5, 30, 31, 24, 25, 26, 36, 37, 38, 39, 40] (by decide +kernel) (by decide +kernel)) (goodIn_sub (fun _ h => List.mem_cons_of_mem _ (List.mem_append_right _ h)) (by decide +kernel))
set_option maxRecDepth 20000 in
theorem gX6_join_X6_become : GoodIn wsX6_join (wsV RX6 82 RX6 yX6_become wsX6_become) := goodIn_app (goodIn_of _ (by decide +kernel)) ggX6_join_X6_become
theorem dX6_join_0 : decode cX6_join 0 = .ok (.aload_n 0, 1) := by decide +kernel
theorem dX6_join_1 : decode cX6_join 1 = .ok (.iload_n 1, 1) := by decide +kernel
theorem dX6_join_2 : decode cX6_join 2 = .ok (.iload_n 2, 1) := by decide +kernel
theorem dX6_join_3 : decode cX6_join 3 = .ok (.iload_n 3, 1) := by decide +kernel
theorem dX6_join_4 : decode cX6_join 4 = .ok (.invokevirtual 75, 3) := by decide +kernel
theorem dX6_join_7 : decode cX6_join 7 = .ok (.ifCond .ne 34, 3) := by decide +kernel
theorem dX6_join_10 : decode cX6_join 10 = .ok (.aload_n 0, 1) := by decide +kernel
theorem dX6_join_11 : decode cX6_join 11 = .ok (.aload_n 0, 1) := by decide +kernel
theorem dX6_join_12 : decode cX6_join 12 = .ok (.getfield 13, 3) := by decide +kernel
theorem dX6_join_15 : decode cX6_join 15 = .ok (.iload_n 2, 1) := by decide +kernel
theorem dX6_join_16 : decode cX6_join 16 = .ok (.iaload, 1) := by decide +kernel
theorem dX6_join_17 : decode cX6_join 17 = .ok (.aload_n 0, 1) := by decide +kernel
theorem dX6_join_18 : decode cX6_join 18 = .ok (.getfield 13, 3) := by decide +kernel
theorem dX6_join_21 : decode cX6_join 21 = .ok (.iload_n 3, 1) := by decide +kernel
theorem dX6_join_22 : decode cX6_join 22 = .ok (.iaload, 1) := by decide +kernel
theorem dX6_join_23 : decode cX6_join 23 = .ok (.iadd, 1) := by decide +kernel
theorem dX6_join_24 : decode cX6_join 24 = .ok (.bipush 60, 2) := by decide +kernel
theorem dX6_join_26 : decode cX6_join 26 = .ok (.if_icmp .le 7, 3) := by decide +kernel
theorem dX6_join_29 : decode cX6_join 29 = .ok (.iconst 1, 1) := by decide +kernel
theorem dX6_join_30 : decode cX6_join 30 = .ok (.goto 4, 3) := by decide +kernel
theorem dX6_join_33 : decode cX6_join 33 = .ok (.iconst 0, 1) := by decide +kernel
theorem dX6_join_34 : decode cX6_join 34 = .ok (.iconst 2, 1) := by decide +kernel
theorem dX6_join_35 : decode cX6_join 35 = .ok (.invokevirtual 34, 3) := by decide +kernel
theorem dX6_join_38 : decode cX6_join 38 = .ok (.ifCond .eq 5, 3) := by decide +kernel
theorem dX6_join_41 : decode cX6_join 41 = .ok (.iconst 0, 1) := by decide +kernel
theorem dX6_join_42 : decode cX6_join 42 = .ok (.ireturn, 1) := by decide +kernel
theorem dX6_join_43 : decode cX6_join 43 = .ok (.aload_n 0, 1) := by decide +kernel
theorem dX6_join_44 : decode cX6_join 44 = .ok (.iload_n 2, 1) := by decide +kernel
theorem dX6_join_45 : decode cX6_join 45 = .ok (.iload_n 3, 1) := by decide +kernel
theorem dX6_join_46 : decode cX6_join 46 = .ok (.sipush 360, 3) := by decide +kernel
theorem dX6_join_49 : decode cX6_join 49 = .ok (.invokevirtual 79, 3) := by decide +kernel
theorem dX6_join_52 : decode cX6_join 52 = .ok (.aload_n 0, 1) := by decide +kernel
theorem dX6_join_53 : decode cX6_join 53 = .ok (.iload_n 1, 1) := by decide +kernel
theorem dX6_join_54 : decode cX6_join 54 = .ok (.sipush 360, 3) := by decide +kernel
theorem dX6_join_57 : decode cX6_join 57 = .ok (.aload_n 0, 1) := by decide +kernel
theorem dX6_join_58 : decode cX6_join 58 = .ok (.getfield 13, 3) := by decide +kernel
theorem dX6_join_61 : decode cX6_join 61 = .ok (.iload_n 2, 1) := by decide +kernel
theorem dX6_join_62 : decode cX6_join 62 = .ok (.iaload, 1) := by decide +kernel
theorem dX6_join_63 : decode cX6_join 63 = .ok (.aload_n 0, 1) := by decide +kernel
theorem dX6_join_64 : decode cX6_join 64 = .ok (.getfield 13, 3) := by decide +kernel
theorem dX6_join_67 : decode cX6_join 67 = .ok (.iload_n 3, 1) := by decide +kernel
theorem dX6_join_68 : decode cX6_join 68 = .ok (.iaload, 1) := by decide +kernel
theorem dX6_join_69 : decode cX6_join 69 = .ok (.iadd, 1) := by decide +kernel
theorem dX6_join_70 : decode cX6_join 70 = .ok (.invokevirtual 82, 3) := by decide +kernel
theorem dX6_join_73 : decode cX6_join 73 = .ok (.ireturn, 1) := by decide +kernel
set_option maxRecDepth 20000 in
theorem ggX6_repeat_X6_isNoOf : GoodIn wsX6_repeat wsX6_isNoOf := goodIn_r _ [8, 9, 10, 11, 7, 12, 13, 14, 15, 16, 17, 18, 19, 20, 21, 33, 34, 35, 36, 37] (by decide +kernel) (by decide +kernel)
set_option maxRecDepth 20000 in
theorem gX6_repeat_X6_isNoOf : GoodIn wsX6_repeat (wsV RX6 86 RX6 yX6_isNoOf wsX6_isNoOf) := goodIn_app (goodIn_of _ (by decide +kernel)) ggX6_repeat_X6_isNoOf
set_option maxRecDepth 20000 in
theorem ggX6_repeat_X6_isThrown : GoodIn wsX6_repeat wsX6_isThrown := goodIn_r _ [20, 21, 33, 34, 35, 36, 37] (by decide +kernel) (by decide +kernel)
set_option maxRecDepth 20000 in
theorem gX6_repeat_X6_isThrown : GoodIn wsX6_repeat (wsV RX6 34 RX6 yX6_isThrown wsX6_isThrown) := goodIn_app (goodIn_of _ (by decide +kernel)) ggX6_repeat_X6_isThrown
set_option maxRecDepth 20000 in
theorem ggX6_repeat_X6_baseOf : GoodIn wsX6_repeat wsX6_baseOf := goodIn_r _ [24] (by decide +kernel) (by decide +kernel)
set_option maxRecDepth 20000 in
theorem gX6_repeat_X6_baseOf : GoodIn wsX6_repeat (va_wsS RX6 58 yX6_baseOf wsX6_baseOf) := goodIn_app (goodIn_of _ (by decide +kernel)) ggX6_repeat_X6_baseOf
set_option maxRecDepth 20000 in
theorem ggX6_repeat_X6_become : GoodIn wsX6_repeat wsX6_become := goodIn_ca (goodIn_r _ [28, 1, 29, 30, 31, 7, 32, 3, 22, 23, 24, 33, 34, 35, 36, 37] (by decide +kernel) (by decide +kernel)) (goodIn_sub (fun _ h => List.mem_cons_of_mem _ (List.mem_append_left _ (List.mem_append_right _ h))) (by decide +kernel))
set_option maxRecDepth 20000 in
theorem gX6_repeat_X6_become : GoodIn wsX6_repeat (wsV RX6 82 RX6 yX6_become wsX6_become) := goodIn_app (goodIn_of _ (by decide +kernel)) ggX6_repeat_X6_become
theorem dX6_repeat_0 : decode cX6_repeat 0 = .ok (.aload_n 0, 1) := by decide +kernel
theorem dX6_repeat_1 : decode cX6_repeat 1 = .ok (.iload_n 1, 1) := by decide +kernel
theorem dX6_repeat_2 : decode cX6_repeat 2 = .ok (.iload_n 2, 1) := by decide +kernel
theorem dX6_repeat_3 : decode cX6_repeat 3 = .ok (.invokevirtual 86, 3) := by decide +kernel
theorem dX6_repeat_6 : decode cX6_repeat 6 = .ok (.ifCond .ne 50, 3) := by decide +kernel
theorem dX6_repeat_9 : decode cX6_repeat 9 = .ok (.aload_n 0, 1) := by decide +kernel
theorem dX6_repeat_10 : decode cX6_repeat 10 = .ok (.iload_n 3, 1) := by decide +kernel
theorem dX6_repeat_11 : decode cX6_repeat 11 = .ok (.ifCond .ge 7, 3) := by decide +kernel
theorem dX6_repeat_14 : decode cX6_repeat 14 = .ok (.iconst 1, 1) := by decide +kernel
theorem dX6_repeat_15 : decode cX6_repeat 15 = .ok (.goto 4, 3) := by decide +kernel
theorem dX6_repeat_18 : decode cX6_repeat 18 = .ok (.iconst 0, 1) := by decide +kernel
theorem dX6_repeat_19 : decode cX6_repeat 19 = .ok (.iconst 2, 1) := by decide +kernel
theorem dX6_repeat_20 : decode cX6_repeat 20 = .ok (.invokevirtual 34, 3) := by decide +kernel
theorem dX6_repeat_23 : decode cX6_repeat 23 = .ok (.ifCond .ne 33, 3) := by decide +kernel
theorem dX6_repeat_26 : decode cX6_repeat 26 = .ok (.aload_n 0, 1) := by decide +kernel
theorem dX6_repeat_27 : decode cX6_repeat 27 = .ok (.iload_n 3, 1) := by decide +kernel
theorem dX6_repeat_28 : decode cX6_repeat 28 = .ok (.i2l, 1) := by decide +kernel
theorem dX6_repeat_29 : decode cX6_repeat 29 = .ok (.aload_n 0, 1) := by decide +kernel
theorem dX6_repeat_30 : decode cX6_repeat 30 = .ok (.getfield 13, 3) := by decide +kernel
theorem dX6_repeat_33 : decode cX6_repeat 33 = .ok (.iload_n 2, 1) := by decide +kernel
theorem dX6_repeat_34 : decode cX6_repeat 34 = .ok (.iaload, 1) := by decide +kernel
theorem dX6_repeat_35 : decode cX6_repeat 35 = .ok (.i2l, 1) := by decide +kernel
theorem dX6_repeat_36 : decode cX6_repeat 36 = .ok (.lmul, 1) := by decide +kernel
theorem dX6_repeat_37 : decode cX6_repeat 37 = .ok (.ldc2_w 89, 3) := by decide +kernel
theorem dX6_repeat_40 : decode cX6_repeat 40 = .ok (.lcmp, 1) := by decide +kernel
theorem dX6_repeat_41 : decode cX6_repeat 41 = .ok (.ifCond .le 7, 3) := by decide +kernel
theorem dX6_repeat_44 : decode cX6_repeat 44 = .ok (.iconst 1, 1) := by decide +kernel
theorem dX6_repeat_45 : decode cX6_repeat 45 = .ok (.goto 4, 3) := by decide +kernel
theorem dX6_repeat_48 : decode cX6_repeat 48 = .ok (.iconst 0, 1) := by decide +kernel
theorem dX6_repeat_49 : decode cX6_repeat 49 = .ok (.iconst 3, 1) := by decide +kernel
theorem dX6_repeat_50 : decode cX6_repeat 50 = .ok (.invokevirtual 34, 3) := by decide +kernel
theorem dX6_repeat_53 : decode cX6_repeat 53 = .ok (.ifCond .eq 5, 3) := by decide +kernel
theorem dX6_repeat_56 : decode cX6_repeat 56 = .ok (.iconst 0, 1) := by decide +kernel
theorem dX6_repeat_57 : decode cX6_repeat 57 = .ok (.ireturn, 1) := by decide +kernel
theorem dX6_repeat_58 : decode cX6_repeat 58 = .ok (.iload_n 3, 1) := by decide +kernel
theorem dX6_repeat_59 : decode cX6_repeat 59 = .ok (.aload_n 0, 1) := by decide +kernel
theorem dX6_repeat_60 : decode cX6_repeat 60 = .ok (.getfield 13, 3) := by decide +kernel
theorem dX6_repeat_63 : decode cX6_repeat 63 = .ok (.iload_n 2, 1) := by decide +kernel
theorem dX6_repeat_64 : decode cX6_repeat 64 = .ok (.iaload, 1) := by decide +kernel
theorem dX6_repeat_65 : decode cX6_repeat 65 = .ok (.imul, 1) := by decide +kernel
theorem dX6_repeat_66 : decode cX6_repeat 66 = .ok (.istore 4, 2) := by decide +kernel
theorem dX6_repeat_68 : decode cX6_repeat 68 = .ok (.iconst 0, 1) := by decide +kernel
theorem dX6_repeat_69 : decode cX6_repeat 69 = .ok (.istore 5, 2) := by decide +kernel
theorem dX6_repeat_71 : decode cX6_repeat 71 = .ok (.iload 5, 2) := by decide +kernel
theorem dX6_repeat_73 : decode cX6_repeat 73 = .ok (.iload 4, 2) := by decide +kernel
theorem dX6_repeat_75 : decode cX6_repeat 75 = .ok (.if_icmp .ge 39, 3) := by decide +kernel
theorem dX6_repeat_78 : decode cX6_repeat 78 = .ok (.aload_n 0, 1) := by decide +kernel
theorem dX6_repeat_79 : decode cX6_repeat 79 = .ok (.getfield 7, 3) := by decide +kernel
theorem dX6_repeat_82 : decode cX6_repeat 82 = .ok (.sipush 360, 3) := by decide +kernel
theorem dX6_repeat_85 : decode cX6_repeat 85 = .ok (.iload 5, 2) := by decide +kernel
theorem dX6_repeat_87 : decode cX6_repeat 87 = .ok (.iadd, 1) := by decide +kernel
theorem dX6_repeat_88 : decode cX6_repeat 88 = .ok (.aload_n 0, 1) := by decide +kernel
theorem dX6_repeat_89 : decode cX6_repeat 89 = .ok (.getfield 7, 3) := by decide +kernel
theorem dX6_repeat_92 : decode cX6_repeat 92 = .ok (.iload_n 2, 1) := by decide +kernel
theorem dX6_repeat_93 : decode cX6_repeat 93 = .ok (.invokestatic 58, 3) := by decide +kernel
theorem dX6_repeat_96 : decode cX6_repeat 96 = .ok (.iload 5, 2) := by decide +kernel
theorem dX6_repeat_98 : decode cX6_repeat 98 = .ok (.aload_n 0, 1) := by decide +kernel
theorem dX6_repeat_99 : decode cX6_repeat 99 = .ok (.getfield 13, 3) := by decide +kernel
theorem dX6_repeat_102 : decode cX6_repeat 102 = .ok (.iload_n 2, 1) := by decide +kernel
theorem dX6_repeat_103 : decode cX6_repeat 103 = .ok (.iaload, 1) := by decide +kernel
theorem dX6_repeat_104 : decode cX6_repeat 104 = .ok (.irem, 1) := by decide +kernel
theorem dX6_repeat_105 : decode cX6_repeat 105 = .ok (.iadd, 1) := by decide +kernel
theorem dX6_repeat_106 : decode cX6_repeat 106 = .ok (.iaload, 1) := by decide +kernel
theorem dX6_repeat_107 : decode cX6_repeat 107 = .ok (.iastore, 1) := by decide +kernel
theorem dX6_repeat_108 : decode cX6_repeat 108 = .ok (.iinc 5 1, 3) := by decide +kernel
theorem dX6_repeat_111 : decode cX6_repeat 111 = .ok (.goto (-40), 3) := by decide +kernel
theorem dX6_repeat_114 : decode cX6_repeat 114 = .ok (.aload_n 0, 1) := by decide +kernel
theorem dX6_repeat_115 : decode cX6_repeat 115 = .ok (.iload_n 1, 1) := by decide +kernel
theorem dX6_repeat_116 : decode cX6_repeat 116 = .ok (.sipush 360, 3) := by decide +kernel
theorem dX6_repeat_119 : decode cX6_repeat 119 = .ok (.iload 4, 2) := by decide +kernel
theorem dX6_repeat_121 : decode cX6_repeat 121 = .ok (.invokevirtual 82, 3) := by decide +kernel
theorem dX6_repeat_124 : decode cX6_repeat 124 = .ok (.ireturn, 1) := by decide +kernel
set_option maxRecDepth 20000 in
theorem ggX6_part_X6_isNoOf : GoodIn wsX6_part wsX6_isNoOf := goodIn_r _ [6, 7, 8, 9, 5, 10, 11, 12, 13, 14, 15, 16, 17, 18, 19, 32, 33, 34, 35, 36] (by decide +kernel) (by decide +kernel)
set_option maxRecDepth 20000 in
theorem gX6_part_X6_isNoOf : GoodIn wsX6_part (wsV RX6 86 RX6 yX6_isNoOf wsX6_isNoOf) := goodIn_app (goodIn_of _ (by decide +kernel)) ggX6_part_X6_isNoOf
set_option maxRecDepth 20000 in
theorem ggX6_part_X6_isThrown : GoodIn wsX6_part wsX6_isThrown := goodIn_r _ [18, 19, 32, 33, 34, 35, 36] (by decide +kernel) (by decide +kernel)
set_option maxRecDepth 20000 in
theorem gX6_part_X6_isThrown : GoodIn wsX6_part (wsV RX6 34 RX6 yX6_isThrown wsX6_isThrown) := goodIn_app (goodIn_of _ (by decide +kernel)) ggX6_part_X6_isThrown
set_option maxRecDepth 20000 in
theorem ggX6_part_X6_baseOf : GoodIn wsX6_part wsX6_baseOf := goodIn_r _ [22] (by decide +kernel) (by decide +kernel)
set_option maxRecDepth 20000 in
theorem gX6_part_X6_baseOf : GoodIn wsX6_part (va_wsS RX6 58 yX6_baseOf wsX6_baseOf) := goodIn_app (goodIn_of _ (by decide +kernel)) ggX6_part_X6_baseOf
set_option maxRecDepth 20000 in
theorem ggX6_part_X6_become : GoodIn wsX6_part wsX6_become := goodIn_ca (goodIn_r _ [26, 1, 27, 28, 29, 5, 30, 31, 20, 21, 22, 32, 33, 34, 35, 36] (by decide +kernel) (by decide +kernel)) (goodIn_sub (fun _ h => List.mem_cons_of_mem _ (List.mem_append_right _ h)) (by decide +kernel))
set_option maxRecDepth 20000 in
theorem gX6_part_X6_become : GoodIn wsX6_part (wsV RX6 82 RX6 yX6_become wsX6_become) := goodIn_app (goodIn_of _ (by decide +kernel)) ggX6_part_X6_become
theorem dX6_part_0 : decode cX6_part 0 = .ok (.aload_n 0, 1) := by decide +kernel
theorem dX6_part_1 : decode cX6_part 1 = .ok (.iload_n 1, 1) := by decide +kernel
theorem dX6_part_2 : decode cX6_part 2 = .ok (.iload_n 2, 1) := by decide +kernel
theorem dX6_part_3 : decode cX6_part 3 = .ok (.invokevirtual 86, 3) := by decide +kernel
theorem dX6_part_6 : decode cX6_part 6 = .ok (.ifCond .ne 37, 3) := by decide +kernel
theorem dX6_part_9 : decode cX6_part 9 = .ok (.aload_n 0, 1) := by decide +kernel
theorem dX6_part_10 : decode cX6_part 10 = .ok (.iload_n 3, 1) := by decide +kernel
theorem dX6_part_11 : decode cX6_part 11 = .ok (.ifCond .lt 20, 3) := by decide +kernel
theorem dX6_part_14 : decode cX6_part 14 = .ok (.iload_n 3, 1) := by decide +kernel
theorem dX6_part_15 : decode cX6_part 15 = .ok (.iload 4, 2) := by decide +kernel
theorem dX6_part_17 : decode cX6_part 17 = .ok (.if_icmp .gt 14, 3) := by decide +kernel
theorem dX6_part_20 : decode cX6_part 20 = .ok (.iload 4, 2) := by decide +kernel
theorem dX6_part_22 : decode cX6_part 22 = .ok (.aload_n 0, 1) := by decide +kernel
theorem dX6_part_23 : decode cX6_part 23 = .ok (.getfield 13, 3) := by decide +kernel
theorem dX6_part_26 : decode cX6_part 26 = .ok (.iload_n 2, 1) := by decide +kernel
theorem dX6_part_27 : decode cX6_part 27 = .ok (.iaload, 1) := by decide +kernel
theorem dX6_part_28 : decode cX6_part 28 = .ok (.if_icmp .le 7, 3) := by decide +kernel
theorem dX6_part_31 : decode cX6_part 31 = .ok (.iconst 1, 1) := by decide +kernel
theorem dX6_part_32 : decode cX6_part 32 = .ok (.goto 4, 3) := by decide +kernel
theorem dX6_part_35 : decode cX6_part 35 = .ok (.iconst 0, 1) := by decide +kernel
theorem dX6_part_36 : decode cX6_part 36 = .ok (.iconst 1, 1) := by decide +kernel
theorem dX6_part_37 : decode cX6_part 37 = .ok (.invokevirtual 34, 3) := by decide +kernel
theorem dX6_part_40 : decode cX6_part 40 = .ok (.ifCond .eq 5, 3) := by decide +kernel
theorem dX6_part_43 : decode cX6_part 43 = .ok (.iconst 0, 1) := by decide +kernel
theorem dX6_part_44 : decode cX6_part 44 = .ok (.ireturn, 1) := by decide +kernel
theorem dX6_part_45 : decode cX6_part 45 = .ok (.aload_n 0, 1) := by decide +kernel
theorem dX6_part_46 : decode cX6_part 46 = .ok (.iload_n 1, 1) := by decide +kernel
theorem dX6_part_47 : decode cX6_part 47 = .ok (.iload_n 2, 1) := by decide +kernel
theorem dX6_part_48 : decode cX6_part 48 = .ok (.invokestatic 58, 3) := by decide +kernel
theorem dX6_part_51 : decode cX6_part 51 = .ok (.iload_n 3, 1) := by decide +kernel
theorem dX6_part_52 : decode cX6_part 52 = .ok (.iadd, 1) := by decide +kernel
theorem dX6_part_53 : decode cX6_part 53 = .ok (.iload 4, 2) := by decide +kernel
theorem dX6_part_55 : decode cX6_part 55 = .ok (.iload_n 3, 1) := by decide +kernel
theorem dX6_part_56 : decode cX6_part 56 = .ok (.isub, 1) := by decide +kernel
theorem dX6_part_57 : decode cX6_part 57 = .ok (.invokevirtual 82, 3) := by decide +kernel
theorem dX6_part_60 : decode cX6_part 60 = .ok (.ireturn, 1) := by decide +kernel
set_option maxRecDepth 20000 in
theorem ggX6_turn_X6_isNoOf : GoodIn wsX6_turn wsX6_isNoOf := goodIn_r _ [6, 7, 8, 9, 5, 10, 11, 12, 13, 14, 15, 16, 17, 18, 19, 36, 37, 38, 39, 40] (by decide +kernel) (by decide +kernel)
set_option maxRecDepth 20000 in
theorem gX6_turn_X6_isNoOf : GoodIn wsX6_turn (wsV RX6 86 RX6 yX6_isNoOf wsX6_isNoOf) := goodIn_app (goodIn_of _ (by decide +kernel)) ggX6_turn_X6_isNoOf
set_option maxRecDepth 20000 in
theorem ggX6_turn_X6_isIn : GoodIn wsX6_turn wsX6_isIn := goodIn_r _ [14] (by decide +kernel) (by decide +kernel)
set_option maxRecDepth 20000 in
theorem gX6_turn_X6_isIn : GoodIn wsX6_turn (va_wsS RX6 30 yX6_isIn wsX6_isIn) := goodIn_app (goodIn_of _ (by decide +kernel)) ggX6_turn_X6_isIn
set_option maxRecDepth 20000 in
theorem ggX6_turn_X6_isThrown : GoodIn wsX6_turn wsX6_isThrown := goodIn_r _ [18, 19, 36, 37, 38, 39, 40] (by decide +kernel) (by decide +kernel)
set_option maxRecDepth 20000 in
theorem gX6_turn_X6_isThrown : GoodIn wsX6_turn (wsV RX6 34 RX6 yX6_isThrown wsX6_isThrown) := goodIn_app (goodIn_of _ (by decide +kernel)) ggX6_turn_X6_isThrown
set_option maxRecDepth 20000 in
theorem ggX6_turn_X6_turns : GoodIn wsX6_turn wsX6_turns := goodIn_ca (goodIn_r _ [23, 1, 24, 25, 5, 26, 27, 28, 29, 30, 31, 36, 37, 38, 39, 40] (by decide +kernel) (by decide +kernel)) (goodIn_sub (fun _ h => List.mem_cons_of_mem _ (List.mem_append_right _ h)) (by decide +kernel))
set_option maxRecDepth 20000 in
theorem gX6_turn_X6_turns : GoodIn wsX6_turn (wsV RX6 91 RX6 yX6_turns wsX6_turns) := goodIn_app (goodIn_of _ (by decide +kernel)) ggX6_turn_X6_turns
set_option maxRecDepth 20000 in
theorem ggX6_turn_X6_become : GoodIn wsX6_turn wsX6_become := goodIn_ca (goodIn_r _ [35, 1, 27, 28, 29, 5, 30, 31, 24, 25, 26, 36, 37, 38, 39, 40] (by decide +kernel) (by decide +kernel)) (goodIn_sub (fun _ h => List.mem_cons_of_mem _ (List.mem_append_right _ h)) (by decide +kernel))
set_option maxRecDepth 20000 in
theorem gX6_turn_X6_become : GoodIn wsX6_turn (wsV RX6 82 RX6 yX6_become wsX6_become) := goodIn_app (goodIn_of _ (by decide +kernel)) ggX6_turn_X6_become
theorem dX6_turn_0 : decode cX6_turn 0 = .ok (.aload_n 0, 1) := by decide +kernel
theorem dX6_turn_1 : decode cX6_turn 1 = .ok (.iload_n 1, 1) := by decide +kernel
theorem dX6_turn_2 : decode cX6_turn 2 = .ok (.iload_n 2, 1) := by decide +kernel
theorem dX6_turn_3 : decode cX6_turn 3 = .ok (.invokevirtual 86, 3) := by decide +kernel
theorem dX6_turn_6 : decode cX6_turn 6 = .ok (.ifCond .ne 32, 3) := by decide +kernel
theorem dX6_turn_9 : decode cX6_turn 9 = .ok (.aload_n 0, 1) := by decide +kernel
theorem dX6_turn_10 : decode cX6_turn 10 = .ok (.iload_n 3, 1) := by decide +kernel
theorem dX6_turn_11 : decode cX6_turn 11 = .ok (.i2l, 1) := by decide +kernel
theorem dX6_turn_12 : decode cX6_turn 12 = .ok (.lconst 0, 1) := by decide +kernel
theorem dX6_turn_13 : decode cX6_turn 13 = .ok (.aload_n 0, 1) := by decide +kernel
theorem dX6_turn_14 : decode cX6_turn 14 = .ok (.getfield 13, 3) := by decide +kernel
theorem dX6_turn_17 : decode cX6_turn 17 = .ok (.iload_n 2, 1) := by decide +kernel
theorem dX6_turn_18 : decode cX6_turn 18 = .ok (.iaload, 1) := by decide +kernel
theorem dX6_turn_19 : decode cX6_turn 19 = .ok (.i2l, 1) := by decide +kernel
theorem dX6_turn_20 : decode cX6_turn 20 = .ok (.invokestatic 30, 3) := by decide +kernel
theorem dX6_turn_23 : decode cX6_turn 23 = .ok (.ifCond .ne 7, 3) := by decide +kernel
theorem dX6_turn_26 : decode cX6_turn 26 = .ok (.iconst 1, 1) := by decide +kernel
theorem dX6_turn_27 : decode cX6_turn 27 = .ok (.goto 4, 3) := by decide +kernel
theorem dX6_turn_30 : decode cX6_turn 30 = .ok (.iconst 0, 1) := by decide +kernel
theorem dX6_turn_31 : decode cX6_turn 31 = .ok (.iconst 1, 1) := by decide +kernel
theorem dX6_turn_32 : decode cX6_turn 32 = .ok (.invokevirtual 34, 3) := by decide +kernel
theorem dX6_turn_35 : decode cX6_turn 35 = .ok (.ifCond .eq 5, 3) := by decide +kernel
theorem dX6_turn_38 : decode cX6_turn 38 = .ok (.iconst 0, 1) := by decide +kernel
theorem dX6_turn_39 : decode cX6_turn 39 = .ok (.ireturn, 1) := by decide +kernel
theorem dX6_turn_40 : decode cX6_turn 40 = .ok (.aload_n 0, 1) := by decide +kernel
theorem dX6_turn_41 : decode cX6_turn 41 = .ok (.iload_n 2, 1) := by decide +kernel
theorem dX6_turn_42 : decode cX6_turn 42 = .ok (.iload_n 3, 1) := by decide +kernel
theorem dX6_turn_43 : decode cX6_turn 43 = .ok (.sipush 360, 3) := by decide +kernel
theorem dX6_turn_46 : decode cX6_turn 46 = .ok (.invokevirtual 91, 3) := by decide +kernel
theorem dX6_turn_49 : decode cX6_turn 49 = .ok (.aload_n 0, 1) := by decide +kernel
theorem dX6_turn_50 : decode cX6_turn 50 = .ok (.iload_n 1, 1) := by decide +kernel
theorem dX6_turn_51 : decode cX6_turn 51 = .ok (.sipush 360, 3) := by decide +kernel
theorem dX6_turn_54 : decode cX6_turn 54 = .ok (.aload_n 0, 1) := by decide +kernel
theorem dX6_turn_55 : decode cX6_turn 55 = .ok (.getfield 13, 3) := by decide +kernel
theorem dX6_turn_58 : decode cX6_turn 58 = .ok (.iload_n 2, 1) := by decide +kernel
theorem dX6_turn_59 : decode cX6_turn 59 = .ok (.iaload, 1) := by decide +kernel
theorem dX6_turn_60 : decode cX6_turn 60 = .ok (.invokevirtual 82, 3) := by decide +kernel
theorem dX6_turn_63 : decode cX6_turn 63 = .ok (.ireturn, 1) := by decide +kernel
set_option maxRecDepth 20000 in
theorem ggX6_back_X6_isNoOf : GoodIn wsX6_back wsX6_isNoOf := goodIn_r _ [6, 7, 8, 9, 5, 10, 11, 12, 13, 14, 15, 16, 17, 18, 19, 36, 37, 38, 39, 40] (by decide +kernel) (by decide +kernel)
set_option maxRecDepth 20000 in
theorem gX6_back_X6_isNoOf : GoodIn wsX6_back (wsV RX6 86 RX6 yX6_isNoOf wsX6_isNoOf) := goodIn_app (goodIn_of _ (by decide +kernel)) ggX6_back_X6_isNoOf
set_option maxRecDepth 20000 in
theorem ggX6_back_X6_laysBack : GoodIn wsX6_back wsX6_laysBack := goodIn_ca (goodIn_r _ [23, 1, 24, 25, 26, 5, 27, 36, 37, 38, 39, 40] (by decide +kernel) (by decide +kernel)) (goodIn_sub (fun _ h => List.mem_cons_of_mem _ (List.mem_append_right _ h)) (by decide +kernel))
set_option maxRecDepth 20000 in
theorem gX6_back_X6_laysBack : GoodIn wsX6_back (wsV RX6 94 RX6 yX6_laysBack wsX6_laysBack) := goodIn_app (goodIn_of _ (by decide +kernel)) ggX6_back_X6_laysBack
set_option maxRecDepth 20000 in
theorem ggX6_back_X6_become : GoodIn wsX6_back wsX6_become := goodIn_ca (goodIn_r _ [31, 1, 32, 33, 34, 5, 35, 24, 25, 26, 27, 36, 37, 38, 39, 40] (by decide +kernel) (by decide +kernel)) (goodIn_sub (fun _ h => List.mem_cons_of_mem _ (List.mem_append_right _ h)) (by decide +kernel))
set_option maxRecDepth 20000 in
theorem gX6_back_X6_become : GoodIn wsX6_back (wsV RX6 82 RX6 yX6_become wsX6_become) := goodIn_app (goodIn_of _ (by decide +kernel)) ggX6_back_X6_become
theorem dX6_back_0 : decode cX6_back 0 = .ok (.aload_n 0, 1) := by decide +kernel
theorem dX6_back_1 : decode cX6_back 1 = .ok (.iload_n 1, 1) := by decide +kernel
theorem dX6_back_2 : decode cX6_back 2 = .ok (.iload_n 2, 1) := by decide +kernel
theorem dX6_back_3 : decode cX6_back 3 = .ok (.invokevirtual 86, 3) := by decide +kernel
theorem dX6_back_6 : decode cX6_back 6 = .ok (.ifCond .eq 5, 3) := by decide +kernel
theorem dX6_back_9 : decode cX6_back 9 = .ok (.iconst 0, 1) := by decide +kernel
theorem dX6_back_10 : decode cX6_back 10 = .ok (.ireturn, 1) := by decide +kernel
theorem dX6_back_11 : decode cX6_back 11 = .ok (.aload_n 0, 1) := by decide +kernel
theorem dX6_back_12 : decode cX6_back 12 = .ok (.iload_n 2, 1) := by decide +kernel
theorem dX6_back_13 : decode cX6_back 13 = .ok (.sipush 360, 3) := by decide +kernel
theorem dX6_back_16 : decode cX6_back 16 = .ok (.invokevirtual 94, 3) := by decide +kernel
theorem dX6_back_19 : decode cX6_back 19 = .ok (.aload_n 0, 1) := by decide +kernel
theorem dX6_back_20 : decode cX6_back 20 = .ok (.iload_n 1, 1) := by decide +kernel
theorem dX6_back_21 : decode cX6_back 21 = .ok (.sipush 360, 3) := by decide +kernel
theorem dX6_back_24 : decode cX6_back 24 = .ok (.aload_n 0, 1) := by decide +kernel
theorem dX6_back_25 : decode cX6_back 25 = .ok (.getfield 13, 3) := by decide +kernel
theorem dX6_back_28 : decode cX6_back 28 = .ok (.iload_n 2, 1) := by decide +kernel
theorem dX6_back_29 : decode cX6_back 29 = .ok (.iaload, 1) := by decide +kernel
theorem dX6_back_30 : decode cX6_back 30 = .ok (.invokevirtual 82, 3) := by decide +kernel
theorem dX6_back_33 : decode cX6_back 33 = .ok (.ireturn, 1) := by decide +kernel
set_option maxRecDepth 20000 in
theorem ggX6_counted_X6_baseOf : GoodIn wsX6_counted wsX6_baseOf := goodIn_r _ [5] (by decide +kernel) (by decide +kernel)
set_option maxRecDepth 20000 in
theorem gX6_counted_X6_baseOf : GoodIn wsX6_counted (va_wsS RX6 58 yX6_baseOf wsX6_baseOf) := goodIn_app (goodIn_of _ (by decide +kernel)) ggX6_counted_X6_baseOf
set_option maxRecDepth 20000 in
theorem ggX6_counted_X6_standsAt : GoodIn wsX6_counted wsX6_standsAt := goodIn_ca (goodIn_r _ [9, 10, 11, 12, 13, 14, 15] (by decide +kernel) (by decide +kernel)) (goodIn_sub (fun _ h => List.mem_cons_of_mem _ (List.mem_append_right _ h)) (by decide +kernel))
set_option maxRecDepth 20000 in
theorem gX6_counted_X6_standsAt : GoodIn wsX6_counted (wsV RX6 46 RX6 yX6_standsAt wsX6_standsAt) := goodIn_app (goodIn_of _ (by decide +kernel)) ggX6_counted_X6_standsAt
theorem dX6_counted_0 : decode cX6_counted 0 = .ok (.iconst 0, 1) := by decide +kernel
theorem dX6_counted_1 : decode cX6_counted 1 = .ok (.istore 5, 2) := by decide +kernel
theorem dX6_counted_3 : decode cX6_counted 3 = .ok (.iconst 0, 1) := by decide +kernel
theorem dX6_counted_4 : decode cX6_counted 4 = .ok (.istore 6, 2) := by decide +kernel
theorem dX6_counted_6 : decode cX6_counted 6 = .ok (.iload 6, 2) := by decide +kernel
theorem dX6_counted_8 : decode cX6_counted 8 = .ok (.aload_n 0, 1) := by decide +kernel
theorem dX6_counted_9 : decode cX6_counted 9 = .ok (.getfield 13, 3) := by decide +kernel
theorem dX6_counted_12 : decode cX6_counted 12 = .ok (.iload_n 1, 1) := by decide +kernel
theorem dX6_counted_13 : decode cX6_counted 13 = .ok (.iaload, 1) := by decide +kernel
theorem dX6_counted_14 : decode cX6_counted 14 = .ok (.if_icmp .ge 61, 3) := by decide +kernel
theorem dX6_counted_17 : decode cX6_counted 17 = .ok (.aload_n 0, 1) := by decide +kernel
theorem dX6_counted_18 : decode cX6_counted 18 = .ok (.iload_n 1, 1) := by decide +kernel
theorem dX6_counted_19 : decode cX6_counted 19 = .ok (.invokestatic 58, 3) := by decide +kernel
theorem dX6_counted_22 : decode cX6_counted 22 = .ok (.aload_n 0, 1) := by decide +kernel
theorem dX6_counted_23 : decode cX6_counted 23 = .ok (.getfield 13, 3) := by decide +kernel
theorem dX6_counted_26 : decode cX6_counted 26 = .ok (.iload_n 1, 1) := by decide +kernel
theorem dX6_counted_27 : decode cX6_counted 27 = .ok (.iaload, 1) := by decide +kernel
theorem dX6_counted_28 : decode cX6_counted 28 = .ok (.iload_n 2, 1) := by decide +kernel
theorem dX6_counted_29 : decode cX6_counted 29 = .ok (.iload_n 3, 1) := by decide +kernel
theorem dX6_counted_30 : decode cX6_counted 30 = .ok (.iload 6, 2) := by decide +kernel
theorem dX6_counted_32 : decode cX6_counted 32 = .ok (.invokevirtual 46, 3) := by decide +kernel
theorem dX6_counted_35 : decode cX6_counted 35 = .ok (.istore 7, 2) := by decide +kernel
theorem dX6_counted_37 : decode cX6_counted 37 = .ok (.iload 5, 2) := by decide +kernel
theorem dX6_counted_39 : decode cX6_counted 39 = .ok (.iload 7, 2) := by decide +kernel
theorem dX6_counted_41 : decode cX6_counted 41 = .ok (.ifCond .eq 7, 3) := by decide +kernel
theorem dX6_counted_44 : decode cX6_counted 44 = .ok (.iconst 1, 1) := by decide +kernel
theorem dX6_counted_45 : decode cX6_counted 45 = .ok (.goto 4, 3) := by decide +kernel
theorem dX6_counted_48 : decode cX6_counted 48 = .ok (.iconst 0, 1) := by decide +kernel
theorem dX6_counted_49 : decode cX6_counted 49 = .ok (.iadd, 1) := by decide +kernel
theorem dX6_counted_50 : decode cX6_counted 50 = .ok (.istore 5, 2) := by decide +kernel
theorem dX6_counted_52 : decode cX6_counted 52 = .ok (.iload 6, 2) := by decide +kernel
theorem dX6_counted_54 : decode cX6_counted 54 = .ok (.iload 7, 2) := by decide +kernel
theorem dX6_counted_56 : decode cX6_counted 56 = .ok (.ifCond .eq 12, 3) := by decide +kernel
theorem dX6_counted_59 : decode cX6_counted 59 = .ok (.iload 4, 2) := by decide +kernel
theorem dX6_counted_61 : decode cX6_counted 61 = .ok (.ifCond .eq 7, 3) := by decide +kernel
theorem dX6_counted_64 : decode cX6_counted 64 = .ok (.iload_n 3, 1) := by decide +kernel
theorem dX6_counted_65 : decode cX6_counted 65 = .ok (.goto 4, 3) := by decide +kernel
theorem dX6_counted_68 : decode cX6_counted 68 = .ok (.iconst 1, 1) := by decide +kernel
theorem dX6_counted_69 : decode cX6_counted 69 = .ok (.iadd, 1) := by decide +kernel
theorem dX6_counted_70 : decode cX6_counted 70 = .ok (.istore 6, 2) := by decide +kernel
theorem dX6_counted_72 : decode cX6_counted 72 = .ok (.goto (-66), 3) := by decide +kernel
theorem dX6_counted_75 : decode cX6_counted 75 = .ok (.iload 5, 2) := by decide +kernel
theorem dX6_counted_77 : decode cX6_counted 77 = .ok (.ireturn, 1) := by decide +kernel
set_option maxRecDepth 20000 in
theorem ggX6_put_X6_isNoOfAll : GoodIn wsX6_put wsX6_isNoOfAll := goodIn_r _ [6, 7, 8, 9, 5, 10, 11, 12, 13, 14, 15, 16, 17, 18, 19, 40, 41, 42, 43, 44] (by decide +kernel) (by decide +kernel)
set_option maxRecDepth 20000 in
theorem gX6_put_X6_isNoOfAll : GoodIn wsX6_put (wsV RX6 75 RX6 yX6_isNoOfAll wsX6_isNoOfAll) := goodIn_app (goodIn_of _ (by decide +kernel)) ggX6_put_X6_isNoOfAll
set_option maxRecDepth 20000 in
theorem ggX6_put_X6_isNo : GoodIn wsX6_put wsX6_isNo := goodIn_r _ [10, 11, 12, 13, 5, 14, 15, 16, 17, 18, 19, 40, 41, 42, 43, 44] (by decide +kernel) (by decide +kernel)
set_option maxRecDepth 20000 in
theorem gX6_put_X6_isNo : GoodIn wsX6_put (wsV RX6 38 RX6 yX6_isNo wsX6_isNo) := goodIn_app (goodIn_of _ (by decide +kernel)) ggX6_put_X6_isNo
set_option maxRecDepth 20000 in
theorem ggX6_put_X6_isThrown : GoodIn wsX6_put wsX6_isThrown := goodIn_r _ [18, 19, 40, 41, 42, 43, 44] (by decide +kernel) (by decide +kernel)
set_option maxRecDepth 20000 in
theorem gX6_put_X6_isThrown : GoodIn wsX6_put (wsV RX6 34 RX6 yX6_isThrown wsX6_isThrown) := goodIn_app (goodIn_of _ (by decide +kernel)) ggX6_put_X6_isThrown
set_option maxRecDepth 20000 in
theorem ggX6_put_X6_baseOf : GoodIn wsX6_put wsX6_baseOf := goodIn_r _ [22] (by decide +kernel) (by decide +kernel)
set_option maxRecDepth 20000 in
theorem gX6_put_X6_baseOf : GoodIn wsX6_put (va_wsS RX6 58 yX6_baseOf wsX6_baseOf) := goodIn_app (goodIn_of _ (by decide +kernel)) ggX6_put_X6_baseOf
set_option maxRecDepth 20000 in
theorem ggX6_put_X6_counted : GoodIn wsX6_put wsX6_counted := goodIn_ca (goodIn_r _ [26, 1, 20, 21, 5, 22, 27, 28, 29, 30, 31, 40, 41, 42, 43, 44] (by decide +kernel) (by decide +kernel)) (goodIn_sub (fun _ h => List.mem_cons_of_mem _ (List.mem_append_right _ h)) (by decide +kernel))
set_option maxRecDepth 20000 in
theorem gX6_put_X6_counted : GoodIn wsX6_put (wsV RX6 97 RX6 yX6_counted wsX6_counted) := goodIn_app (goodIn_of _ (by decide +kernel)) ggX6_put_X6_counted
set_option maxRecDepth 20000 in
theorem ggX6_put_X6_standsAt : GoodIn wsX6_put wsX6_standsAt := goodIn_ca (goodIn_r _ [30, 31, 40, 41, 42, 43, 44] (by decide +kernel) (by decide +kernel)) (goodIn_sub (fun _ h => List.mem_cons_of_mem _ (List.mem_append_right _ h)) (by decide +kernel))
set_option maxRecDepth 20000 in
theorem gX6_put_X6_standsAt : GoodIn wsX6_put (wsV RX6 46 RX6 yX6_standsAt wsX6_standsAt) := goodIn_app (goodIn_of _ (by decide +kernel)) ggX6_put_X6_standsAt
set_option maxRecDepth 20000 in
theorem ggX6_put_X6_copy : GoodIn wsX6_put wsX6_copy := goodIn_ca (goodIn_r _ [35, 31, 40, 41, 42, 43, 44] (by decide +kernel) (by decide +kernel)) (goodIn_sub (fun _ h => List.mem_cons_of_mem _ (List.mem_append_right _ h)) (by decide +kernel))
set_option maxRecDepth 20000 in
theorem gX6_put_X6_copy : GoodIn wsX6_put (wsV RX6 54 RX6 yX6_copy wsX6_copy) := goodIn_app (goodIn_of _ (by decide +kernel)) ggX6_put_X6_copy
set_option maxRecDepth 20000 in
theorem ggX6_put_X6_become : GoodIn wsX6_put wsX6_become := goodIn_ca (goodIn_r _ [39, 1, 32, 33, 34, 5, 35, 31, 20, 21, 22, 40, 41, 42, 43, 44] (by decide +kernel) (by decide +kernel)) (goodIn_sub (fun _ h => List.mem_cons_of_mem _ (List.mem_append_right _ h)) (by decide +kernel))
set_option maxRecDepth 20000 in
theorem gX6_put_X6_become : GoodIn wsX6_put (wsV RX6 82 RX6 yX6_become wsX6_become) := goodIn_app (goodIn_of _ (by decide +kernel)) ggX6_put_X6_become
theorem dX6_put_0 : decode cX6_put 0 = .ok (.aload_n 0, 1) := by decide +kernel
theorem dX6_put_1 : decode cX6_put 1 = .ok (.iload_n 1, 1) := by decide +kernel
theorem dX6_put_2 : decode cX6_put 2 = .ok (.iload_n 2, 1) := by decide +kernel
theorem dX6_put_3 : decode cX6_put 3 = .ok (.iload_n 3, 1) := by decide +kernel
theorem dX6_put_4 : decode cX6_put 4 = .ok (.invokevirtual 75, 3) := by decide +kernel
theorem dX6_put_7 : decode cX6_put 7 = .ok (.ifCond .ne 34, 3) := by decide +kernel
theorem dX6_put_10 : decode cX6_put 10 = .ok (.aload_n 0, 1) := by decide +kernel
theorem dX6_put_11 : decode cX6_put 11 = .ok (.iload 4, 2) := by decide +kernel
theorem dX6_put_13 : decode cX6_put 13 = .ok (.invokevirtual 38, 3) := by decide +kernel
theorem dX6_put_16 : decode cX6_put 16 = .ok (.ifCond .ne 25, 3) := by decide +kernel
theorem dX6_put_19 : decode cX6_put 19 = .ok (.aload_n 0, 1) := by decide +kernel
theorem dX6_put_20 : decode cX6_put 20 = .ok (.aload_n 0, 1) := by decide +kernel
theorem dX6_put_21 : decode cX6_put 21 = .ok (.getfield 13, 3) := by decide +kernel
theorem dX6_put_24 : decode cX6_put 24 = .ok (.iload_n 3, 1) := by decide +kernel
theorem dX6_put_25 : decode cX6_put 25 = .ok (.iaload, 1) := by decide +kernel
theorem dX6_put_26 : decode cX6_put 26 = .ok (.ifCond .ne 7, 3) := by decide +kernel
theorem dX6_put_29 : decode cX6_put 29 = .ok (.iconst 1, 1) := by decide +kernel
theorem dX6_put_30 : decode cX6_put 30 = .ok (.goto 4, 3) := by decide +kernel
theorem dX6_put_33 : decode cX6_put 33 = .ok (.iconst 0, 1) := by decide +kernel
theorem dX6_put_34 : decode cX6_put 34 = .ok (.iconst 2, 1) := by decide +kernel
theorem dX6_put_35 : decode cX6_put 35 = .ok (.invokevirtual 34, 3) := by decide +kernel
theorem dX6_put_38 : decode cX6_put 38 = .ok (.ifCond .eq 5, 3) := by decide +kernel
theorem dX6_put_41 : decode cX6_put 41 = .ok (.iconst 0, 1) := by decide +kernel
theorem dX6_put_42 : decode cX6_put 42 = .ok (.ireturn, 1) := by decide +kernel
theorem dX6_put_43 : decode cX6_put 43 = .ok (.aload_n 0, 1) := by decide +kernel
theorem dX6_put_44 : decode cX6_put 44 = .ok (.getfield 13, 3) := by decide +kernel
theorem dX6_put_47 : decode cX6_put 47 = .ok (.iload_n 2, 1) := by decide +kernel
theorem dX6_put_48 : decode cX6_put 48 = .ok (.iaload, 1) := by decide +kernel
theorem dX6_put_49 : decode cX6_put 49 = .ok (.aload_n 0, 1) := by decide +kernel
theorem dX6_put_50 : decode cX6_put 50 = .ok (.iload_n 2, 1) := by decide +kernel
theorem dX6_put_51 : decode cX6_put 51 = .ok (.iload_n 3, 1) := by decide +kernel
theorem dX6_put_52 : decode cX6_put 52 = .ok (.invokestatic 58, 3) := by decide +kernel
theorem dX6_put_55 : decode cX6_put 55 = .ok (.aload_n 0, 1) := by decide +kernel
theorem dX6_put_56 : decode cX6_put 56 = .ok (.getfield 13, 3) := by decide +kernel
theorem dX6_put_59 : decode cX6_put 59 = .ok (.iload_n 3, 1) := by decide +kernel
theorem dX6_put_60 : decode cX6_put 60 = .ok (.iaload, 1) := by decide +kernel
theorem dX6_put_61 : decode cX6_put 61 = .ok (.iconst 1, 1) := by decide +kernel
theorem dX6_put_62 : decode cX6_put 62 = .ok (.invokevirtual 97, 3) := by decide +kernel
theorem dX6_put_65 : decode cX6_put 65 = .ok (.aload_n 0, 1) := by decide +kernel
theorem dX6_put_66 : decode cX6_put 66 = .ok (.getfield 13, 3) := by decide +kernel
theorem dX6_put_69 : decode cX6_put 69 = .ok (.iload 4, 2) := by decide +kernel
theorem dX6_put_71 : decode cX6_put 71 = .ok (.iaload, 1) := by decide +kernel
theorem dX6_put_72 : decode cX6_put 72 = .ok (.aload_n 0, 1) := by decide +kernel
theorem dX6_put_73 : decode cX6_put 73 = .ok (.getfield 13, 3) := by decide +kernel
theorem dX6_put_76 : decode cX6_put 76 = .ok (.iload_n 3, 1) := by decide +kernel
theorem dX6_put_77 : decode cX6_put 77 = .ok (.iaload, 1) := by decide +kernel
theorem dX6_put_78 : decode cX6_put 78 = .ok (.isub, 1) := by decide +kernel
theorem dX6_put_79 : decode cX6_put 79 = .ok (.imul, 1) := by decide +kernel
theorem dX6_put_80 : decode cX6_put 80 = .ok (.iadd, 1) := by decide +kernel
theorem dX6_put_81 : decode cX6_put 81 = .ok (.istore 5, 2) := by decide +kernel
theorem dX6_put_83 : decode cX6_put 83 = .ok (.aload_n 0, 1) := by decide +kernel
theorem dX6_put_84 : decode cX6_put 84 = .ok (.iload 5, 2) := by decide +kernel
theorem dX6_put_86 : decode cX6_put 86 = .ok (.bipush 60, 2) := by decide +kernel
theorem dX6_put_88 : decode cX6_put 88 = .ok (.if_icmp .le 7, 3) := by decide +kernel
theorem dX6_put_91 : decode cX6_put 91 = .ok (.iconst 1, 1) := by decide +kernel
theorem dX6_put_92 : decode cX6_put 92 = .ok (.goto 4, 3) := by decide +kernel
theorem dX6_put_95 : decode cX6_put 95 = .ok (.iconst 0, 1) := by decide +kernel
theorem dX6_put_96 : decode cX6_put 96 = .ok (.iconst 3, 1) := by decide +kernel
theorem dX6_put_97 : decode cX6_put 97 = .ok (.invokevirtual 34, 3) := by decide +kernel
theorem dX6_put_100 : decode cX6_put 100 = .ok (.ifCond .eq 5, 3) := by decide +kernel
theorem dX6_put_103 : decode cX6_put 103 = .ok (.iconst 0, 1) := by decide +kernel
theorem dX6_put_104 : decode cX6_put 104 = .ok (.ireturn, 1) := by decide +kernel
theorem dX6_put_105 : decode cX6_put 105 = .ok (.sipush 360, 3) := by decide +kernel
theorem dX6_put_108 : decode cX6_put 108 = .ok (.istore 6, 2) := by decide +kernel
theorem dX6_put_110 : decode cX6_put 110 = .ok (.iconst 0, 1) := by decide +kernel
theorem dX6_put_111 : decode cX6_put 111 = .ok (.istore 7, 2) := by decide +kernel
theorem dX6_put_113 : decode cX6_put 113 = .ok (.iload 7, 2) := by decide +kernel
theorem dX6_put_115 : decode cX6_put 115 = .ok (.aload_n 0, 1) := by decide +kernel
theorem dX6_put_116 : decode cX6_put 116 = .ok (.getfield 13, 3) := by decide +kernel
theorem dX6_put_119 : decode cX6_put 119 = .ok (.iload_n 2, 1) := by decide +kernel
theorem dX6_put_120 : decode cX6_put 120 = .ok (.iaload, 1) := by decide +kernel
theorem dX6_put_121 : decode cX6_put 121 = .ok (.if_icmp .ge 107, 3) := by decide +kernel
theorem dX6_put_124 : decode cX6_put 124 = .ok (.aload_n 0, 1) := by decide +kernel
theorem dX6_put_125 : decode cX6_put 125 = .ok (.iload_n 2, 1) := by decide +kernel
theorem dX6_put_126 : decode cX6_put 126 = .ok (.invokestatic 58, 3) := by decide +kernel
theorem dX6_put_129 : decode cX6_put 129 = .ok (.aload_n 0, 1) := by decide +kernel
theorem dX6_put_130 : decode cX6_put 130 = .ok (.getfield 13, 3) := by decide +kernel
theorem dX6_put_133 : decode cX6_put 133 = .ok (.iload_n 2, 1) := by decide +kernel
theorem dX6_put_134 : decode cX6_put 134 = .ok (.iaload, 1) := by decide +kernel
theorem dX6_put_135 : decode cX6_put 135 = .ok (.iload_n 3, 1) := by decide +kernel
theorem dX6_put_136 : decode cX6_put 136 = .ok (.invokestatic 58, 3) := by decide +kernel
theorem dX6_put_139 : decode cX6_put 139 = .ok (.aload_n 0, 1) := by decide +kernel
theorem dX6_put_140 : decode cX6_put 140 = .ok (.getfield 13, 3) := by decide +kernel
theorem dX6_put_143 : decode cX6_put 143 = .ok (.iload_n 3, 1) := by decide +kernel
theorem dX6_put_144 : decode cX6_put 144 = .ok (.iaload, 1) := by decide +kernel
theorem dX6_put_145 : decode cX6_put 145 = .ok (.iload 7, 2) := by decide +kernel
theorem dX6_put_147 : decode cX6_put 147 = .ok (.invokevirtual 46, 3) := by decide +kernel
theorem dX6_put_150 : decode cX6_put 150 = .ok (.istore 8, 2) := by decide +kernel
theorem dX6_put_152 : decode cX6_put 152 = .ok (.iload 8, 2) := by decide +kernel
theorem dX6_put_154 : decode cX6_put 154 = .ok (.ifCond .eq 13, 3) := by decide +kernel
theorem dX6_put_157 : decode cX6_put 157 = .ok (.aload_n 0, 1) := by decide +kernel
theorem dX6_put_158 : decode cX6_put 158 = .ok (.getfield 13, 3) := by decide +kernel
theorem dX6_put_161 : decode cX6_put 161 = .ok (.iload 4, 2) := by decide +kernel
theorem dX6_put_163 : decode cX6_put 163 = .ok (.iaload, 1) := by decide +kernel
theorem dX6_put_164 : decode cX6_put 164 = .ok (.goto 4, 3) := by decide +kernel
theorem dX6_put_167 : decode cX6_put 167 = .ok (.iconst 1, 1) := by decide +kernel
theorem dX6_put_168 : decode cX6_put 168 = .ok (.istore 9, 2) := by decide +kernel
theorem dX6_put_170 : decode cX6_put 170 = .ok (.aload_n 0, 1) := by decide +kernel
theorem dX6_put_171 : decode cX6_put 171 = .ok (.iload 8, 2) := by decide +kernel
theorem dX6_put_173 : decode cX6_put 173 = .ok (.ifCond .eq 11, 3) := by decide +kernel
theorem dX6_put_176 : decode cX6_put 176 = .ok (.iload 4, 2) := by decide +kernel
theorem dX6_put_178 : decode cX6_put 178 = .ok (.invokestatic 58, 3) := by decide +kernel
theorem dX6_put_181 : decode cX6_put 181 = .ok (.goto 10, 3) := by decide +kernel
theorem dX6_put_184 : decode cX6_put 184 = .ok (.iload_n 2, 1) := by decide +kernel
theorem dX6_put_185 : decode cX6_put 185 = .ok (.invokestatic 58, 3) := by decide +kernel
theorem dX6_put_188 : decode cX6_put 188 = .ok (.iload 7, 2) := by decide +kernel
theorem dX6_put_190 : decode cX6_put 190 = .ok (.iadd, 1) := by decide +kernel
theorem dX6_put_191 : decode cX6_put 191 = .ok (.iload 9, 2) := by decide +kernel
theorem dX6_put_193 : decode cX6_put 193 = .ok (.iload 6, 2) := by decide +kernel
theorem dX6_put_195 : decode cX6_put 195 = .ok (.invokevirtual 54, 3) := by decide +kernel
theorem dX6_put_198 : decode cX6_put 198 = .ok (.iload 6, 2) := by decide +kernel
theorem dX6_put_200 : decode cX6_put 200 = .ok (.iload 9, 2) := by decide +kernel
theorem dX6_put_202 : decode cX6_put 202 = .ok (.iadd, 1) := by decide +kernel
theorem dX6_put_203 : decode cX6_put 203 = .ok (.istore 6, 2) := by decide +kernel
theorem dX6_put_205 : decode cX6_put 205 = .ok (.iload 7, 2) := by decide +kernel
theorem dX6_put_207 : decode cX6_put 207 = .ok (.iload 8, 2) := by decide +kernel
theorem dX6_put_209 : decode cX6_put 209 = .ok (.ifCond .eq 12, 3) := by decide +kernel
theorem dX6_put_212 : decode cX6_put 212 = .ok (.aload_n 0, 1) := by decide +kernel
theorem dX6_put_213 : decode cX6_put 213 = .ok (.getfield 13, 3) := by decide +kernel
theorem dX6_put_216 : decode cX6_put 216 = .ok (.iload_n 3, 1) := by decide +kernel
theorem dX6_put_217 : decode cX6_put 217 = .ok (.iaload, 1) := by decide +kernel
theorem dX6_put_218 : decode cX6_put 218 = .ok (.goto 4, 3) := by decide +kernel
theorem dX6_put_221 : decode cX6_put 221 = .ok (.iconst 1, 1) := by decide +kernel
theorem dX6_put_222 : decode cX6_put 222 = .ok (.iadd, 1) := by decide +kernel
theorem dX6_put_223 : decode cX6_put 223 = .ok (.istore 7, 2) := by decide +kernel
theorem dX6_put_225 : decode cX6_put 225 = .ok (.goto (-112), 3) := by decide +kernel
theorem dX6_put_228 : decode cX6_put 228 = .ok (.aload_n 0, 1) := by decide +kernel
theorem dX6_put_229 : decode cX6_put 229 = .ok (.iload_n 1, 1) := by decide +kernel
theorem dX6_put_230 : decode cX6_put 230 = .ok (.sipush 360, 3) := by decide +kernel
theorem dX6_put_233 : decode cX6_put 233 = .ok (.iload 5, 2) := by decide +kernel
theorem dX6_put_235 : decode cX6_put 235 = .ok (.invokevirtual 82, 3) := by decide +kernel
theorem dX6_put_238 : decode cX6_put 238 = .ok (.ireturn, 1) := by decide +kernel
set_option maxRecDepth 20000 in
theorem ggX6_first_X6_isNoOf : GoodIn wsX6_first wsX6_isNoOf := goodIn_r _ [6, 7, 8, 9, 5, 10, 11, 12, 13, 14, 15, 16, 17, 18, 19, 28, 29, 30, 31, 32] (by decide +kernel) (by decide +kernel)
set_option maxRecDepth 20000 in
theorem gX6_first_X6_isNoOf : GoodIn wsX6_first (wsV RX6 86 RX6 yX6_isNoOf wsX6_isNoOf) := goodIn_app (goodIn_of _ (by decide +kernel)) ggX6_first_X6_isNoOf
set_option maxRecDepth 20000 in
theorem ggX6_first_X6_baseOf : GoodIn wsX6_first wsX6_baseOf := goodIn_r _ [22] (by decide +kernel) (by decide +kernel)
set_option maxRecDepth 20000 in
theorem gX6_first_X6_baseOf : GoodIn wsX6_first (va_wsS RX6 58 yX6_baseOf wsX6_baseOf) := goodIn_app (goodIn_of _ (by decide +kernel)) ggX6_first_X6_baseOf
set_option maxRecDepth 20000 in
theorem ggX6_first_X6_standsAt : GoodIn wsX6_first wsX6_standsAt := goodIn_ca (goodIn_r _ [26, 27, 28, 29, 30, 31, 32] (by decide +kernel) (by decide +kernel)) (goodIn_sub (fun _ h => List.mem_cons_of_mem _ (List.mem_append_right _ h)) (by decide +kernel))
set_option maxRecDepth 20000 in
theorem gX6_first_X6_standsAt : GoodIn wsX6_first (wsV RX6 46 RX6 yX6_standsAt wsX6_standsAt) := goodIn_app (goodIn_of _ (by decide +kernel)) ggX6_first_X6_standsAt
theorem dX6_first_0 : decode cX6_first 0 = .ok (.aload_n 0, 1) := by decide +kernel
theorem dX6_first_1 : decode cX6_first 1 = .ok (.iload_n 1, 1) := by decide +kernel
theorem dX6_first_2 : decode cX6_first 2 = .ok (.iload_n 2, 1) := by decide +kernel
theorem dX6_first_3 : decode cX6_first 3 = .ok (.invokevirtual 86, 3) := by decide +kernel
theorem dX6_first_6 : decode cX6_first 6 = .ok (.ifCond .eq 5, 3) := by decide +kernel
theorem dX6_first_9 : decode cX6_first 9 = .ok (.iconst 0, 1) := by decide +kernel
theorem dX6_first_10 : decode cX6_first 10 = .ok (.ireturn, 1) := by decide +kernel
theorem dX6_first_11 : decode cX6_first 11 = .ok (.iload_n 3, 1) := by decide +kernel
theorem dX6_first_12 : decode cX6_first 12 = .ok (.ifCond .ge 7, 3) := by decide +kernel
theorem dX6_first_15 : decode cX6_first 15 = .ok (.iconst 0, 1) := by decide +kernel
theorem dX6_first_16 : decode cX6_first 16 = .ok (.goto 23, 3) := by decide +kernel
theorem dX6_first_19 : decode cX6_first 19 = .ok (.iload_n 3, 1) := by decide +kernel
theorem dX6_first_20 : decode cX6_first 20 = .ok (.aload_n 0, 1) := by decide +kernel
theorem dX6_first_21 : decode cX6_first 21 = .ok (.getfield 13, 3) := by decide +kernel
theorem dX6_first_24 : decode cX6_first 24 = .ok (.iload_n 1, 1) := by decide +kernel
theorem dX6_first_25 : decode cX6_first 25 = .ok (.iaload, 1) := by decide +kernel
theorem dX6_first_26 : decode cX6_first 26 = .ok (.if_icmp .le 12, 3) := by decide +kernel
theorem dX6_first_29 : decode cX6_first 29 = .ok (.aload_n 0, 1) := by decide +kernel
theorem dX6_first_30 : decode cX6_first 30 = .ok (.getfield 13, 3) := by decide +kernel
theorem dX6_first_33 : decode cX6_first 33 = .ok (.iload_n 1, 1) := by decide +kernel
theorem dX6_first_34 : decode cX6_first 34 = .ok (.iaload, 1) := by decide +kernel
theorem dX6_first_35 : decode cX6_first 35 = .ok (.goto 4, 3) := by decide +kernel
theorem dX6_first_38 : decode cX6_first 38 = .ok (.iload_n 3, 1) := by decide +kernel
theorem dX6_first_39 : decode cX6_first 39 = .ok (.istore 4, 2) := by decide +kernel
theorem dX6_first_41 : decode cX6_first 41 = .ok (.iload 4, 2) := by decide +kernel
theorem dX6_first_43 : decode cX6_first 43 = .ok (.aload_n 0, 1) := by decide +kernel
theorem dX6_first_44 : decode cX6_first 44 = .ok (.getfield 13, 3) := by decide +kernel
theorem dX6_first_47 : decode cX6_first 47 = .ok (.iload_n 1, 1) := by decide +kernel
theorem dX6_first_48 : decode cX6_first 48 = .ok (.iaload, 1) := by decide +kernel
theorem dX6_first_49 : decode cX6_first 49 = .ok (.if_icmp .gt 38, 3) := by decide +kernel
theorem dX6_first_52 : decode cX6_first 52 = .ok (.aload_n 0, 1) := by decide +kernel
theorem dX6_first_53 : decode cX6_first 53 = .ok (.iload_n 1, 1) := by decide +kernel
theorem dX6_first_54 : decode cX6_first 54 = .ok (.invokestatic 58, 3) := by decide +kernel
theorem dX6_first_57 : decode cX6_first 57 = .ok (.aload_n 0, 1) := by decide +kernel
theorem dX6_first_58 : decode cX6_first 58 = .ok (.getfield 13, 3) := by decide +kernel
theorem dX6_first_61 : decode cX6_first 61 = .ok (.iload_n 1, 1) := by decide +kernel
theorem dX6_first_62 : decode cX6_first 62 = .ok (.iaload, 1) := by decide +kernel
theorem dX6_first_63 : decode cX6_first 63 = .ok (.iload_n 2, 1) := by decide +kernel
theorem dX6_first_64 : decode cX6_first 64 = .ok (.invokestatic 58, 3) := by decide +kernel
theorem dX6_first_67 : decode cX6_first 67 = .ok (.aload_n 0, 1) := by decide +kernel
theorem dX6_first_68 : decode cX6_first 68 = .ok (.getfield 13, 3) := by decide +kernel
theorem dX6_first_71 : decode cX6_first 71 = .ok (.iload_n 2, 1) := by decide +kernel
theorem dX6_first_72 : decode cX6_first 72 = .ok (.iaload, 1) := by decide +kernel
theorem dX6_first_73 : decode cX6_first 73 = .ok (.iload 4, 2) := by decide +kernel
theorem dX6_first_75 : decode cX6_first 75 = .ok (.invokevirtual 46, 3) := by decide +kernel
theorem dX6_first_78 : decode cX6_first 78 = .ok (.ifCond .ne 9, 3) := by decide +kernel
theorem dX6_first_81 : decode cX6_first 81 = .ok (.iinc 4 1, 3) := by decide +kernel
theorem dX6_first_84 : decode cX6_first 84 = .ok (.goto (-43), 3) := by decide +kernel
theorem dX6_first_87 : decode cX6_first 87 = .ok (.iload 4, 2) := by decide +kernel
theorem dX6_first_89 : decode cX6_first 89 = .ok (.aload_n 0, 1) := by decide +kernel
theorem dX6_first_90 : decode cX6_first 90 = .ok (.getfield 13, 3) := by decide +kernel
theorem dX6_first_93 : decode cX6_first 93 = .ok (.iload_n 1, 1) := by decide +kernel
theorem dX6_first_94 : decode cX6_first 94 = .ok (.iaload, 1) := by decide +kernel
theorem dX6_first_95 : decode cX6_first 95 = .ok (.if_icmp .le 7, 3) := by decide +kernel
theorem dX6_first_98 : decode cX6_first 98 = .ok (.iconst (-1), 1) := by decide +kernel
theorem dX6_first_99 : decode cX6_first 99 = .ok (.goto 5, 3) := by decide +kernel
theorem dX6_first_102 : decode cX6_first 102 = .ok (.iload 4, 2) := by decide +kernel
theorem dX6_first_104 : decode cX6_first 104 = .ok (.ireturn, 1) := by decide +kernel
set_option maxRecDepth 20000 in
theorem ggX6_last_X6_isNoOf : GoodIn wsX6_last wsX6_isNoOf := goodIn_r _ [6, 7, 8, 9, 5, 10, 11, 12, 13, 14, 15, 16, 17, 18, 19, 28, 29, 30, 31, 32] (by decide +kernel) (by decide +kernel)
set_option maxRecDepth 20000 in
theorem gX6_last_X6_isNoOf : GoodIn wsX6_last (wsV RX6 86 RX6 yX6_isNoOf wsX6_isNoOf) := goodIn_app (goodIn_of _ (by decide +kernel)) ggX6_last_X6_isNoOf
set_option maxRecDepth 20000 in
theorem ggX6_last_X6_baseOf : GoodIn wsX6_last wsX6_baseOf := goodIn_r _ [22] (by decide +kernel) (by decide +kernel)
set_option maxRecDepth 20000 in
theorem gX6_last_X6_baseOf : GoodIn wsX6_last (va_wsS RX6 58 yX6_baseOf wsX6_baseOf) := goodIn_app (goodIn_of _ (by decide +kernel)) ggX6_last_X6_baseOf
set_option maxRecDepth 20000 in
theorem ggX6_last_X6_standsAt : GoodIn wsX6_last wsX6_standsAt := goodIn_ca (goodIn_r _ [26, 27, 28, 29, 30, 31, 32] (by decide +kernel) (by decide +kernel)) (goodIn_sub (fun _ h => List.mem_cons_of_mem _ (List.mem_append_right _ h)) (by decide +kernel))
set_option maxRecDepth 20000 in
theorem gX6_last_X6_standsAt : GoodIn wsX6_last (wsV RX6 46 RX6 yX6_standsAt wsX6_standsAt) := goodIn_app (goodIn_of _ (by decide +kernel)) ggX6_last_X6_standsAt
theorem dX6_last_0 : decode cX6_last 0 = .ok (.aload_n 0, 1) := by decide +kernel
theorem dX6_last_1 : decode cX6_last 1 = .ok (.iload_n 1, 1) := by decide +kernel
theorem dX6_last_2 : decode cX6_last 2 = .ok (.iload_n 2, 1) := by decide +kernel
theorem dX6_last_3 : decode cX6_last 3 = .ok (.invokevirtual 86, 3) := by decide +kernel
theorem dX6_last_6 : decode cX6_last 6 = .ok (.ifCond .eq 5, 3) := by decide +kernel
theorem dX6_last_9 : decode cX6_last 9 = .ok (.iconst 0, 1) := by decide +kernel
theorem dX6_last_10 : decode cX6_last 10 = .ok (.ireturn, 1) := by decide +kernel
theorem dX6_last_11 : decode cX6_last 11 = .ok (.iload_n 3, 1) := by decide +kernel
theorem dX6_last_12 : decode cX6_last 12 = .ok (.aload_n 0, 1) := by decide +kernel
theorem dX6_last_13 : decode cX6_last 13 = .ok (.getfield 13, 3) := by decide +kernel
theorem dX6_last_16 : decode cX6_last 16 = .ok (.iload_n 1, 1) := by decide +kernel
theorem dX6_last_17 : decode cX6_last 17 = .ok (.iaload, 1) := by decide +kernel
theorem dX6_last_18 : decode cX6_last 18 = .ok (.if_icmp .ge 7, 3) := by decide +kernel
theorem dX6_last_21 : decode cX6_last 21 = .ok (.iload_n 3, 1) := by decide +kernel
theorem dX6_last_22 : decode cX6_last 22 = .ok (.goto 9, 3) := by decide +kernel
theorem dX6_last_25 : decode cX6_last 25 = .ok (.aload_n 0, 1) := by decide +kernel
theorem dX6_last_26 : decode cX6_last 26 = .ok (.getfield 13, 3) := by decide +kernel
theorem dX6_last_29 : decode cX6_last 29 = .ok (.iload_n 1, 1) := by decide +kernel
theorem dX6_last_30 : decode cX6_last 30 = .ok (.iaload, 1) := by decide +kernel
theorem dX6_last_31 : decode cX6_last 31 = .ok (.istore 4, 2) := by decide +kernel
theorem dX6_last_33 : decode cX6_last 33 = .ok (.iload 4, 2) := by decide +kernel
theorem dX6_last_35 : decode cX6_last 35 = .ok (.ifCond .lt 38, 3) := by decide +kernel
theorem dX6_last_38 : decode cX6_last 38 = .ok (.aload_n 0, 1) := by decide +kernel
theorem dX6_last_39 : decode cX6_last 39 = .ok (.iload_n 1, 1) := by decide +kernel
theorem dX6_last_40 : decode cX6_last 40 = .ok (.invokestatic 58, 3) := by decide +kernel
theorem dX6_last_43 : decode cX6_last 43 = .ok (.aload_n 0, 1) := by decide +kernel
theorem dX6_last_44 : decode cX6_last 44 = .ok (.getfield 13, 3) := by decide +kernel
theorem dX6_last_47 : decode cX6_last 47 = .ok (.iload_n 1, 1) := by decide +kernel
theorem dX6_last_48 : decode cX6_last 48 = .ok (.iaload, 1) := by decide +kernel
theorem dX6_last_49 : decode cX6_last 49 = .ok (.iload_n 2, 1) := by decide +kernel
theorem dX6_last_50 : decode cX6_last 50 = .ok (.invokestatic 58, 3) := by decide +kernel
theorem dX6_last_53 : decode cX6_last 53 = .ok (.aload_n 0, 1) := by decide +kernel
theorem dX6_last_54 : decode cX6_last 54 = .ok (.getfield 13, 3) := by decide +kernel
theorem dX6_last_57 : decode cX6_last 57 = .ok (.iload_n 2, 1) := by decide +kernel
theorem dX6_last_58 : decode cX6_last 58 = .ok (.iaload, 1) := by decide +kernel
theorem dX6_last_59 : decode cX6_last 59 = .ok (.iload 4, 2) := by decide +kernel
theorem dX6_last_61 : decode cX6_last 61 = .ok (.invokevirtual 46, 3) := by decide +kernel
theorem dX6_last_64 : decode cX6_last 64 = .ok (.ifCond .ne 9, 3) := by decide +kernel
theorem dX6_last_67 : decode cX6_last 67 = .ok (.iinc 4 (-1), 3) := by decide +kernel
theorem dX6_last_70 : decode cX6_last 70 = .ok (.goto (-37), 3) := by decide +kernel
theorem dX6_last_73 : decode cX6_last 73 = .ok (.iload 4, 2) := by decide +kernel
theorem dX6_last_75 : decode cX6_last 75 = .ok (.ifCond .ge 7, 3) := by decide +kernel
theorem dX6_last_78 : decode cX6_last 78 = .ok (.iconst (-1), 1) := by decide +kernel
theorem dX6_last_79 : decode cX6_last 79 = .ok (.goto 5, 3) := by decide +kernel
theorem dX6_last_82 : decode cX6_last 82 = .ok (.iload 4, 2) := by decide +kernel
theorem dX6_last_84 : decode cX6_last 84 = .ok (.ireturn, 1) := by decide +kernel
set_option maxRecDepth 20000 in
theorem ggX6_many_X6_isNoOf : GoodIn wsX6_many wsX6_isNoOf := goodIn_r _ [6, 7, 8, 9, 5, 10, 11, 12, 13, 14, 15, 16, 17, 18, 19, 32, 33, 34, 35, 36] (by decide +kernel) (by decide +kernel)
set_option maxRecDepth 20000 in
theorem gX6_many_X6_isNoOf : GoodIn wsX6_many (wsV RX6 86 RX6 yX6_isNoOf wsX6_isNoOf) := goodIn_app (goodIn_of _ (by decide +kernel)) ggX6_many_X6_isNoOf
set_option maxRecDepth 20000 in
theorem ggX6_many_X6_isThrown : GoodIn wsX6_many wsX6_isThrown := goodIn_r _ [18, 19, 32, 33, 34, 35, 36] (by decide +kernel) (by decide +kernel)
set_option maxRecDepth 20000 in
theorem gX6_many_X6_isThrown : GoodIn wsX6_many (wsV RX6 34 RX6 yX6_isThrown wsX6_isThrown) := goodIn_app (goodIn_of _ (by decide +kernel)) ggX6_many_X6_isThrown
set_option maxRecDepth 20000 in
theorem ggX6_many_X6_baseOf : GoodIn wsX6_many wsX6_baseOf := goodIn_r _ [22] (by decide +kernel) (by decide +kernel)
set_option maxRecDepth 20000 in
theorem gX6_many_X6_baseOf : GoodIn wsX6_many (va_wsS RX6 58 yX6_baseOf wsX6_baseOf) := goodIn_app (goodIn_of _ (by decide +kernel)) ggX6_many_X6_baseOf
set_option maxRecDepth 20000 in
theorem ggX6_many_X6_counted : GoodIn wsX6_many wsX6_counted := goodIn_ca (goodIn_r _ [26, 1, 20, 21, 5, 22, 27, 28, 29, 30, 31, 32, 33, 34, 35, 36] (by decide +kernel) (by decide +kernel)) (goodIn_sub (fun _ h => List.mem_cons_of_mem _ (List.mem_append_right _ h)) (by decide +kernel))
set_option maxRecDepth 20000 in
theorem gX6_many_X6_counted : GoodIn wsX6_many (wsV RX6 97 RX6 yX6_counted wsX6_counted) := goodIn_app (goodIn_of _ (by decide +kernel)) ggX6_many_X6_counted
theorem dX6_many_0 : decode cX6_many 0 = .ok (.aload_n 0, 1) := by decide +kernel
theorem dX6_many_1 : decode cX6_many 1 = .ok (.iload_n 1, 1) := by decide +kernel
theorem dX6_many_2 : decode cX6_many 2 = .ok (.iload_n 2, 1) := by decide +kernel
theorem dX6_many_3 : decode cX6_many 3 = .ok (.invokevirtual 86, 3) := by decide +kernel
theorem dX6_many_6 : decode cX6_many 6 = .ok (.ifCond .ne 25, 3) := by decide +kernel
theorem dX6_many_9 : decode cX6_many 9 = .ok (.aload_n 0, 1) := by decide +kernel
theorem dX6_many_10 : decode cX6_many 10 = .ok (.aload_n 0, 1) := by decide +kernel
theorem dX6_many_11 : decode cX6_many 11 = .ok (.getfield 13, 3) := by decide +kernel
theorem dX6_many_14 : decode cX6_many 14 = .ok (.iload_n 2, 1) := by decide +kernel
theorem dX6_many_15 : decode cX6_many 15 = .ok (.iaload, 1) := by decide +kernel
theorem dX6_many_16 : decode cX6_many 16 = .ok (.ifCond .ne 7, 3) := by decide +kernel
theorem dX6_many_19 : decode cX6_many 19 = .ok (.iconst 1, 1) := by decide +kernel
theorem dX6_many_20 : decode cX6_many 20 = .ok (.goto 4, 3) := by decide +kernel
theorem dX6_many_23 : decode cX6_many 23 = .ok (.iconst 0, 1) := by decide +kernel
theorem dX6_many_24 : decode cX6_many 24 = .ok (.iconst 2, 1) := by decide +kernel
theorem dX6_many_25 : decode cX6_many 25 = .ok (.invokevirtual 34, 3) := by decide +kernel
theorem dX6_many_28 : decode cX6_many 28 = .ok (.ifCond .eq 5, 3) := by decide +kernel
theorem dX6_many_31 : decode cX6_many 31 = .ok (.iconst 0, 1) := by decide +kernel
theorem dX6_many_32 : decode cX6_many 32 = .ok (.ireturn, 1) := by decide +kernel
theorem dX6_many_33 : decode cX6_many 33 = .ok (.aload_n 0, 1) := by decide +kernel
theorem dX6_many_34 : decode cX6_many 34 = .ok (.iload_n 1, 1) := by decide +kernel
theorem dX6_many_35 : decode cX6_many 35 = .ok (.iload_n 2, 1) := by decide +kernel
theorem dX6_many_36 : decode cX6_many 36 = .ok (.invokestatic 58, 3) := by decide +kernel
theorem dX6_many_39 : decode cX6_many 39 = .ok (.aload_n 0, 1) := by decide +kernel
theorem dX6_many_40 : decode cX6_many 40 = .ok (.getfield 13, 3) := by decide +kernel
theorem dX6_many_43 : decode cX6_many 43 = .ok (.iload_n 2, 1) := by decide +kernel
theorem dX6_many_44 : decode cX6_many 44 = .ok (.iaload, 1) := by decide +kernel
theorem dX6_many_45 : decode cX6_many 45 = .ok (.iload_n 3, 1) := by decide +kernel
theorem dX6_many_46 : decode cX6_many 46 = .ok (.invokevirtual 97, 3) := by decide +kernel
theorem dX6_many_49 : decode cX6_many 49 = .ok (.ireturn, 1) := by decide +kernel
set_option maxRecDepth 20000 in
theorem ggX6_isSame_X6_isNoOf : GoodIn wsX6_isSame wsX6_isNoOf := goodIn_r _ [6, 7, 8, 9, 5, 10, 11, 12, 13, 14, 15, 16, 17, 18, 19, 32, 33, 34, 35, 36] (by decide +kernel) (by decide +kernel)
set_option maxRecDepth 20000 in
theorem gX6_isSame_X6_isNoOf : GoodIn wsX6_isSame (wsV RX6 86 RX6 yX6_isNoOf wsX6_isNoOf) := goodIn_app (goodIn_of _ (by decide +kernel)) ggX6_isSame_X6_isNoOf
set_option maxRecDepth 20000 in
theorem ggX6_isSame_X6_baseOf : GoodIn wsX6_isSame wsX6_baseOf := goodIn_r _ [22] (by decide +kernel) (by decide +kernel)
set_option maxRecDepth 20000 in
theorem gX6_isSame_X6_baseOf : GoodIn wsX6_isSame (va_wsS RX6 58 yX6_baseOf wsX6_baseOf) := goodIn_app (goodIn_of _ (by decide +kernel)) ggX6_isSame_X6_baseOf
set_option maxRecDepth 20000 in
theorem ggX6_isSame_X6_areSame : GoodIn wsX6_isSame wsX6_areSame := goodIn_ca (goodIn_r _ [26, 27, 28, 29, 5, 30, 31, 32, 33, 34, 35, 36] (by decide +kernel) (by decide +kernel)) (goodIn_sub (fun _ h => List.mem_cons_of_mem _ (List.mem_append_right _ h)) (by decide +kernel))
set_option maxRecDepth 20000 in
theorem gX6_isSame_X6_areSame : GoodIn wsX6_isSame (wsV RX6 101 RX6 yX6_areSame wsX6_areSame) := goodIn_app (goodIn_of _ (by decide +kernel)) ggX6_isSame_X6_areSame
theorem dX6_isSame_0 : decode cX6_isSame 0 = .ok (.aload_n 0, 1) := by decide +kernel
theorem dX6_isSame_1 : decode cX6_isSame 1 = .ok (.iload_n 1, 1) := by decide +kernel
theorem dX6_isSame_2 : decode cX6_isSame 2 = .ok (.iload_n 2, 1) := by decide +kernel
theorem dX6_isSame_3 : decode cX6_isSame 3 = .ok (.invokevirtual 86, 3) := by decide +kernel
theorem dX6_isSame_6 : decode cX6_isSame 6 = .ok (.ifCond .ne 34, 3) := by decide +kernel
theorem dX6_isSame_9 : decode cX6_isSame 9 = .ok (.aload_n 0, 1) := by decide +kernel
theorem dX6_isSame_10 : decode cX6_isSame 10 = .ok (.iload_n 1, 1) := by decide +kernel
theorem dX6_isSame_11 : decode cX6_isSame 11 = .ok (.invokestatic 58, 3) := by decide +kernel
theorem dX6_isSame_14 : decode cX6_isSame 14 = .ok (.aload_n 0, 1) := by decide +kernel
theorem dX6_isSame_15 : decode cX6_isSame 15 = .ok (.getfield 13, 3) := by decide +kernel
theorem dX6_isSame_18 : decode cX6_isSame 18 = .ok (.iload_n 1, 1) := by decide +kernel
theorem dX6_isSame_19 : decode cX6_isSame 19 = .ok (.iaload, 1) := by decide +kernel
theorem dX6_isSame_20 : decode cX6_isSame 20 = .ok (.iload_n 2, 1) := by decide +kernel
theorem dX6_isSame_21 : decode cX6_isSame 21 = .ok (.invokestatic 58, 3) := by decide +kernel
theorem dX6_isSame_24 : decode cX6_isSame 24 = .ok (.aload_n 0, 1) := by decide +kernel
theorem dX6_isSame_25 : decode cX6_isSame 25 = .ok (.getfield 13, 3) := by decide +kernel
theorem dX6_isSame_28 : decode cX6_isSame 28 = .ok (.iload_n 2, 1) := by decide +kernel
theorem dX6_isSame_29 : decode cX6_isSame 29 = .ok (.iaload, 1) := by decide +kernel
theorem dX6_isSame_30 : decode cX6_isSame 30 = .ok (.invokevirtual 101, 3) := by decide +kernel
theorem dX6_isSame_33 : decode cX6_isSame 33 = .ok (.ifCond .eq 7, 3) := by decide +kernel
theorem dX6_isSame_36 : decode cX6_isSame 36 = .ok (.iconst 1, 1) := by decide +kernel
theorem dX6_isSame_37 : decode cX6_isSame 37 = .ok (.goto 4, 3) := by decide +kernel
theorem dX6_isSame_40 : decode cX6_isSame 40 = .ok (.iconst 0, 1) := by decide +kernel
theorem dX6_isSame_41 : decode cX6_isSame 41 = .ok (.ireturn, 1) := by decide +kernel
set_option maxRecDepth 20000 in
theorem ggX6_compare_X6_isNoOf : GoodIn wsX6_compare wsX6_isNoOf := goodIn_r _ [6, 7, 8, 9, 5, 10, 11, 12, 13, 14, 15, 16, 17, 18, 19, 32, 33, 34, 35, 36] (by decide +kernel) (by decide +kernel)
set_option maxRecDepth 20000 in
theorem gX6_compare_X6_isNoOf : GoodIn wsX6_compare (wsV RX6 86 RX6 yX6_isNoOf wsX6_isNoOf) := goodIn_app (goodIn_of _ (by decide +kernel)) ggX6_compare_X6_isNoOf
set_option maxRecDepth 20000 in
theorem ggX6_compare_X6_baseOf : GoodIn wsX6_compare wsX6_baseOf := goodIn_r _ [22] (by decide +kernel) (by decide +kernel)
set_option maxRecDepth 20000 in
theorem gX6_compare_X6_baseOf : GoodIn wsX6_compare (va_wsS RX6 58 yX6_baseOf wsX6_baseOf) := goodIn_app (goodIn_of _ (by decide +kernel)) ggX6_compare_X6_baseOf
set_option maxRecDepth 20000 in
theorem ggX6_compare_X6_order : GoodIn wsX6_compare wsX6_order := goodIn_ca (goodIn_r _ [26, 27, 28, 29, 30, 5, 31, 32, 33, 34, 35, 36] (by decide +kernel) (by decide +kernel)) (goodIn_sub (fun _ h => List.mem_cons_of_mem _ (List.mem_append_right _ h)) (by decide +kernel))
set_option maxRecDepth 20000 in
theorem gX6_compare_X6_order : GoodIn wsX6_compare (wsV RX6 105 RX6 yX6_order wsX6_order) := goodIn_app (goodIn_of _ (by decide +kernel)) ggX6_compare_X6_order
theorem dX6_compare_0 : decode cX6_compare 0 = .ok (.aload_n 0, 1) := by decide +kernel
theorem dX6_compare_1 : decode cX6_compare 1 = .ok (.iload_n 1, 1) := by decide +kernel
theorem dX6_compare_2 : decode cX6_compare 2 = .ok (.iload_n 2, 1) := by decide +kernel
theorem dX6_compare_3 : decode cX6_compare 3 = .ok (.invokevirtual 86, 3) := by decide +kernel
theorem dX6_compare_6 : decode cX6_compare 6 = .ok (.ifCond .eq 7, 3) := by decide +kernel
theorem dX6_compare_9 : decode cX6_compare 9 = .ok (.iconst 0, 1) := by decide +kernel
theorem dX6_compare_10 : decode cX6_compare 10 = .ok (.goto 27, 3) := by decide +kernel
theorem dX6_compare_13 : decode cX6_compare 13 = .ok (.aload_n 0, 1) := by decide +kernel
theorem dX6_compare_14 : decode cX6_compare 14 = .ok (.iload_n 1, 1) := by decide +kernel
theorem dX6_compare_15 : decode cX6_compare 15 = .ok (.invokestatic 58, 3) := by decide +kernel
theorem dX6_compare_18 : decode cX6_compare 18 = .ok (.aload_n 0, 1) := by decide +kernel
theorem dX6_compare_19 : decode cX6_compare 19 = .ok (.getfield 13, 3) := by decide +kernel
theorem dX6_compare_22 : decode cX6_compare 22 = .ok (.iload_n 1, 1) := by decide +kernel
theorem dX6_compare_23 : decode cX6_compare 23 = .ok (.iaload, 1) := by decide +kernel
theorem dX6_compare_24 : decode cX6_compare 24 = .ok (.iload_n 2, 1) := by decide +kernel
theorem dX6_compare_25 : decode cX6_compare 25 = .ok (.invokestatic 58, 3) := by decide +kernel
theorem dX6_compare_28 : decode cX6_compare 28 = .ok (.aload_n 0, 1) := by decide +kernel
theorem dX6_compare_29 : decode cX6_compare 29 = .ok (.getfield 13, 3) := by decide +kernel
theorem dX6_compare_32 : decode cX6_compare 32 = .ok (.iload_n 2, 1) := by decide +kernel
theorem dX6_compare_33 : decode cX6_compare 33 = .ok (.iaload, 1) := by decide +kernel
theorem dX6_compare_34 : decode cX6_compare 34 = .ok (.invokevirtual 105, 3) := by decide +kernel
theorem dX6_compare_37 : decode cX6_compare 37 = .ok (.ireturn, 1) := by decide +kernel
set_option maxRecDepth 20000 in
theorem ggX6_common_X6_isNoOf : GoodIn wsX6_common wsX6_isNoOf := goodIn_r _ [6, 7, 8, 9, 5, 10, 11, 12, 13, 14, 15, 16, 17, 18, 19, 28, 29, 30, 31, 32] (by decide +kernel) (by decide +kernel)
set_option maxRecDepth 20000 in
theorem gX6_common_X6_isNoOf : GoodIn wsX6_common (wsV RX6 86 RX6 yX6_isNoOf wsX6_isNoOf) := goodIn_app (goodIn_of _ (by decide +kernel)) ggX6_common_X6_isNoOf
set_option maxRecDepth 20000 in
theorem ggX6_common_X6_baseOf : GoodIn wsX6_common wsX6_baseOf := goodIn_r _ [22] (by decide +kernel) (by decide +kernel)
set_option maxRecDepth 20000 in
theorem gX6_common_X6_baseOf : GoodIn wsX6_common (va_wsS RX6 58 yX6_baseOf wsX6_baseOf) := goodIn_app (goodIn_of _ (by decide +kernel)) ggX6_common_X6_baseOf
set_option maxRecDepth 20000 in
theorem ggX6_common_X6_alike : GoodIn wsX6_common wsX6_alike := goodIn_ca (goodIn_r _ [26, 27, 28, 29, 30, 31, 32] (by decide +kernel) (by decide +kernel)) (goodIn_sub (fun _ h => List.mem_cons_of_mem _ (List.mem_append_right _ h)) (by decide +kernel))
set_option maxRecDepth 20000 in
theorem gX6_common_X6_alike : GoodIn wsX6_common (wsV RX6 50 RX6 yX6_alike wsX6_alike) := goodIn_app (goodIn_of _ (by decide +kernel)) ggX6_common_X6_alike
theorem dX6_common_0 : decode cX6_common 0 = .ok (.aload_n 0, 1) := by decide +kernel
theorem dX6_common_1 : decode cX6_common 1 = .ok (.iload_n 1, 1) := by decide +kernel
theorem dX6_common_2 : decode cX6_common 2 = .ok (.iload_n 2, 1) := by decide +kernel
theorem dX6_common_3 : decode cX6_common 3 = .ok (.invokevirtual 86, 3) := by decide +kernel
theorem dX6_common_6 : decode cX6_common 6 = .ok (.ifCond .eq 7, 3) := by decide +kernel
theorem dX6_common_9 : decode cX6_common 9 = .ok (.iconst 0, 1) := by decide +kernel
theorem dX6_common_10 : decode cX6_common 10 = .ok (.goto 27, 3) := by decide +kernel
theorem dX6_common_13 : decode cX6_common 13 = .ok (.aload_n 0, 1) := by decide +kernel
theorem dX6_common_14 : decode cX6_common 14 = .ok (.iload_n 1, 1) := by decide +kernel
theorem dX6_common_15 : decode cX6_common 15 = .ok (.invokestatic 58, 3) := by decide +kernel
theorem dX6_common_18 : decode cX6_common 18 = .ok (.aload_n 0, 1) := by decide +kernel
theorem dX6_common_19 : decode cX6_common 19 = .ok (.getfield 13, 3) := by decide +kernel
theorem dX6_common_22 : decode cX6_common 22 = .ok (.iload_n 1, 1) := by decide +kernel
theorem dX6_common_23 : decode cX6_common 23 = .ok (.iaload, 1) := by decide +kernel
theorem dX6_common_24 : decode cX6_common 24 = .ok (.iload_n 2, 1) := by decide +kernel
theorem dX6_common_25 : decode cX6_common 25 = .ok (.invokestatic 58, 3) := by decide +kernel
theorem dX6_common_28 : decode cX6_common 28 = .ok (.aload_n 0, 1) := by decide +kernel
theorem dX6_common_29 : decode cX6_common 29 = .ok (.getfield 13, 3) := by decide +kernel
theorem dX6_common_32 : decode cX6_common 32 = .ok (.iload_n 2, 1) := by decide +kernel
theorem dX6_common_33 : decode cX6_common 33 = .ok (.iaload, 1) := by decide +kernel
theorem dX6_common_34 : decode cX6_common 34 = .ok (.invokevirtual 50, 3) := by decide +kernel
theorem dX6_common_37 : decode cX6_common 37 = .ok (.ireturn, 1) := by decide +kernel
set_option maxRecDepth 20000 in
theorem ggX6_commonEnd_X6_isNoOf : GoodIn wsX6_commonEnd wsX6_isNoOf := goodIn_r _ [6, 7, 8, 9, 5, 10, 11, 12, 13, 14, 15, 16, 17, 18, 19, 32, 33, 34, 35, 36] (by decide +kernel) (by decide +kernel)
set_option maxRecDepth 20000 in
theorem gX6_commonEnd_X6_isNoOf : GoodIn wsX6_commonEnd (wsV RX6 86 RX6 yX6_isNoOf wsX6_isNoOf) := goodIn_app (goodIn_of _ (by decide +kernel)) ggX6_commonEnd_X6_isNoOf
set_option maxRecDepth 20000 in
theorem ggX6_commonEnd_X6_laysBack : GoodIn wsX6_commonEnd wsX6_laysBack := goodIn_ca (goodIn_r _ [23, 1, 24, 25, 26, 5, 27, 32, 33, 34, 35, 36] (by decide +kernel) (by decide +kernel)) (goodIn_sub (fun _ h => List.mem_cons_of_mem _ (List.mem_append_right _ h)) (by decide +kernel))
set_option maxRecDepth 20000 in
theorem gX6_commonEnd_X6_laysBack : GoodIn wsX6_commonEnd (wsV RX6 94 RX6 yX6_laysBack wsX6_laysBack) := goodIn_app (goodIn_of _ (by decide +kernel)) ggX6_commonEnd_X6_laysBack
set_option maxRecDepth 20000 in
theorem ggX6_commonEnd_X6_alike : GoodIn wsX6_commonEnd wsX6_alike := goodIn_ca (goodIn_r _ [31, 24, 32, 33, 34, 35, 36] (by decide +kernel) (by decide +kernel)) (goodIn_sub (fun _ h => List.mem_cons_of_mem _ (List.mem_append_right _ h)) (by decide +kernel))
set_option maxRecDepth 20000 in
theorem gX6_commonEnd_X6_alike : GoodIn wsX6_commonEnd (wsV RX6 50 RX6 yX6_alike wsX6_alike) := goodIn_app (goodIn_of _ (by decide +kernel)) ggX6_commonEnd_X6_alike
theorem dX6_commonEnd_0 : decode cX6_commonEnd 0 = .ok (.aload_n 0, 1) := by decide +kernel
theorem dX6_commonEnd_1 : decode cX6_commonEnd 1 = .ok (.iload_n 1, 1) := by decide +kernel
theorem dX6_commonEnd_2 : decode cX6_commonEnd 2 = .ok (.iload_n 2, 1) := by decide +kernel
theorem dX6_commonEnd_3 : decode cX6_commonEnd 3 = .ok (.invokevirtual 86, 3) := by decide +kernel
theorem dX6_commonEnd_6 : decode cX6_commonEnd 6 = .ok (.ifCond .eq 5, 3) := by decide +kernel
theorem dX6_commonEnd_9 : decode cX6_commonEnd 9 = .ok (.iconst 0, 1) := by decide +kernel
theorem dX6_commonEnd_10 : decode cX6_commonEnd 10 = .ok (.ireturn, 1) := by decide +kernel
theorem dX6_commonEnd_11 : decode cX6_commonEnd 11 = .ok (.aload_n 0, 1) := by decide +kernel
theorem dX6_commonEnd_12 : decode cX6_commonEnd 12 = .ok (.iload_n 1, 1) := by decide +kernel
theorem dX6_commonEnd_13 : decode cX6_commonEnd 13 = .ok (.sipush 360, 3) := by decide +kernel
theorem dX6_commonEnd_16 : decode cX6_commonEnd 16 = .ok (.invokevirtual 94, 3) := by decide +kernel
theorem dX6_commonEnd_19 : decode cX6_commonEnd 19 = .ok (.aload_n 0, 1) := by decide +kernel
theorem dX6_commonEnd_20 : decode cX6_commonEnd 20 = .ok (.iload_n 2, 1) := by decide +kernel
theorem dX6_commonEnd_21 : decode cX6_commonEnd 21 = .ok (.sipush 490, 3) := by decide +kernel
theorem dX6_commonEnd_24 : decode cX6_commonEnd 24 = .ok (.invokevirtual 94, 3) := by decide +kernel
theorem dX6_commonEnd_27 : decode cX6_commonEnd 27 = .ok (.aload_n 0, 1) := by decide +kernel
theorem dX6_commonEnd_28 : decode cX6_commonEnd 28 = .ok (.sipush 360, 3) := by decide +kernel
theorem dX6_commonEnd_31 : decode cX6_commonEnd 31 = .ok (.aload_n 0, 1) := by decide +kernel
theorem dX6_commonEnd_32 : decode cX6_commonEnd 32 = .ok (.getfield 13, 3) := by decide +kernel
theorem dX6_commonEnd_35 : decode cX6_commonEnd 35 = .ok (.iload_n 1, 1) := by decide +kernel
theorem dX6_commonEnd_36 : decode cX6_commonEnd 36 = .ok (.iaload, 1) := by decide +kernel
theorem dX6_commonEnd_37 : decode cX6_commonEnd 37 = .ok (.sipush 490, 3) := by decide +kernel
theorem dX6_commonEnd_40 : decode cX6_commonEnd 40 = .ok (.aload_n 0, 1) := by decide +kernel
theorem dX6_commonEnd_41 : decode cX6_commonEnd 41 = .ok (.getfield 13, 3) := by decide +kernel
theorem dX6_commonEnd_44 : decode cX6_commonEnd 44 = .ok (.iload_n 2, 1) := by decide +kernel
theorem dX6_commonEnd_45 : decode cX6_commonEnd 45 = .ok (.iaload, 1) := by decide +kernel
theorem dX6_commonEnd_46 : decode cX6_commonEnd 46 = .ok (.invokevirtual 50, 3) := by decide +kernel
theorem dX6_commonEnd_49 : decode cX6_commonEnd 49 = .ok (.ireturn, 1) := by decide +kernel
set_option maxRecDepth 20000 in
theorem ggX6_behind_X6_baseOf : GoodIn wsX6_behind wsX6_baseOf := goodIn_r _ [6] (by decide +kernel) (by decide +kernel)
set_option maxRecDepth 20000 in
theorem gX6_behind_X6_baseOf : GoodIn wsX6_behind (va_wsS RX6 58 yX6_baseOf wsX6_baseOf) := goodIn_app (goodIn_of _ (by decide +kernel)) ggX6_behind_X6_baseOf
theorem dX6_behind_0 : decode cX6_behind 0 = .ok (.iload_n 1, 1) := by decide +kernel
theorem dX6_behind_1 : decode cX6_behind 1 = .ok (.istore_n 3, 1) := by decide +kernel
theorem dX6_behind_2 : decode cX6_behind 2 = .ok (.iconst 0, 1) := by decide +kernel
theorem dX6_behind_3 : decode cX6_behind 3 = .ok (.istore 4, 2) := by decide +kernel
theorem dX6_behind_5 : decode cX6_behind 5 = .ok (.iload 4, 2) := by decide +kernel
theorem dX6_behind_7 : decode cX6_behind 7 = .ok (.aload_n 0, 1) := by decide +kernel
theorem dX6_behind_8 : decode cX6_behind 8 = .ok (.getfield 13, 3) := by decide +kernel
theorem dX6_behind_11 : decode cX6_behind 11 = .ok (.iload_n 2, 1) := by decide +kernel
theorem dX6_behind_12 : decode cX6_behind 12 = .ok (.iaload, 1) := by decide +kernel
theorem dX6_behind_13 : decode cX6_behind 13 = .ok (.if_icmp .ge 27, 3) := by decide +kernel
theorem dX6_behind_16 : decode cX6_behind 16 = .ok (.bipush 31, 2) := by decide +kernel
theorem dX6_behind_18 : decode cX6_behind 18 = .ok (.iload_n 3, 1) := by decide +kernel
theorem dX6_behind_19 : decode cX6_behind 19 = .ok (.imul, 1) := by decide +kernel
theorem dX6_behind_20 : decode cX6_behind 20 = .ok (.aload_n 0, 1) := by decide +kernel
theorem dX6_behind_21 : decode cX6_behind 21 = .ok (.getfield 7, 3) := by decide +kernel
theorem dX6_behind_24 : decode cX6_behind 24 = .ok (.iload_n 2, 1) := by decide +kernel
theorem dX6_behind_25 : decode cX6_behind 25 = .ok (.invokestatic 58, 3) := by decide +kernel
theorem dX6_behind_28 : decode cX6_behind 28 = .ok (.iload 4, 2) := by decide +kernel
theorem dX6_behind_30 : decode cX6_behind 30 = .ok (.iadd, 1) := by decide +kernel
theorem dX6_behind_31 : decode cX6_behind 31 = .ok (.iaload, 1) := by decide +kernel
theorem dX6_behind_32 : decode cX6_behind 32 = .ok (.iadd, 1) := by decide +kernel
theorem dX6_behind_33 : decode cX6_behind 33 = .ok (.istore_n 3, 1) := by decide +kernel
theorem dX6_behind_34 : decode cX6_behind 34 = .ok (.iinc 4 1, 3) := by decide +kernel
theorem dX6_behind_37 : decode cX6_behind 37 = .ok (.goto (-32), 3) := by decide +kernel
theorem dX6_behind_40 : decode cX6_behind 40 = .ok (.iload_n 3, 1) := by decide +kernel
theorem dX6_behind_41 : decode cX6_behind 41 = .ok (.ireturn, 1) := by decide +kernel
set_option maxRecDepth 20000 in
theorem ggX6_hash_X6_isNo : GoodIn wsX6_hash wsX6_isNo := goodIn_r _ [5, 6, 7, 8, 4, 9, 10, 11, 12, 13, 14, 24, 25, 26, 27, 28] (by decide +kernel) (by decide +kernel)
set_option maxRecDepth 20000 in
theorem gX6_hash_X6_isNo : GoodIn wsX6_hash (wsV RX6 38 RX6 yX6_isNo wsX6_isNo) := goodIn_app (goodIn_of _ (by decide +kernel)) ggX6_hash_X6_isNo
set_option maxRecDepth 20000 in
theorem ggX6_hash_X6_behind : GoodIn wsX6_hash wsX6_behind := goodIn_ca (goodIn_r _ [18, 19, 20, 21, 22, 4, 23, 24, 25, 26, 27, 28] (by decide +kernel) (by decide +kernel)) (goodIn_sub (fun _ h => List.mem_cons_of_mem _ (List.mem_append_right _ h)) (by decide +kernel))
set_option maxRecDepth 20000 in
theorem gX6_hash_X6_behind : GoodIn wsX6_hash (wsV RX6 108 RX6 yX6_behind wsX6_behind) := goodIn_app (goodIn_of _ (by decide +kernel)) ggX6_hash_X6_behind
theorem dX6_hash_0 : decode cX6_hash 0 = .ok (.aload_n 0, 1) := by decide +kernel
theorem dX6_hash_1 : decode cX6_hash 1 = .ok (.iload_n 1, 1) := by decide +kernel
theorem dX6_hash_2 : decode cX6_hash 2 = .ok (.invokevirtual 38, 3) := by decide +kernel
theorem dX6_hash_5 : decode cX6_hash 5 = .ok (.ifCond .eq 7, 3) := by decide +kernel
theorem dX6_hash_8 : decode cX6_hash 8 = .ok (.iconst 0, 1) := by decide +kernel
theorem dX6_hash_9 : decode cX6_hash 9 = .ok (.goto 9, 3) := by decide +kernel
theorem dX6_hash_12 : decode cX6_hash 12 = .ok (.aload_n 0, 1) := by decide +kernel
theorem dX6_hash_13 : decode cX6_hash 13 = .ok (.iconst 0, 1) := by decide +kernel
theorem dX6_hash_14 : decode cX6_hash 14 = .ok (.iload_n 1, 1) := by decide +kernel
theorem dX6_hash_15 : decode cX6_hash 15 = .ok (.invokevirtual 108, 3) := by decide +kernel
theorem dX6_hash_18 : decode cX6_hash 18 = .ok (.ireturn, 1) := by decide +kernel
set_option maxRecDepth 20000 in
theorem ggX6_hashJoined_X6_isNoOf : GoodIn wsX6_hashJoined wsX6_isNoOf := goodIn_r _ [5, 6, 7, 8, 4, 9, 10, 11, 12, 13, 14, 15, 16, 17, 18, 28, 29, 30, 31, 32] (by decide +kernel) (by decide +kernel)
set_option maxRecDepth 20000 in
theorem gX6_hashJoined_X6_isNoOf : GoodIn wsX6_hashJoined (wsV RX6 86 RX6 yX6_isNoOf wsX6_isNoOf) := goodIn_app (goodIn_of _ (by decide +kernel)) ggX6_hashJoined_X6_isNoOf
set_option maxRecDepth 20000 in
theorem ggX6_hashJoined_X6_behind : GoodIn wsX6_hashJoined wsX6_behind := goodIn_ca (goodIn_r _ [22, 23, 24, 25, 26, 4, 27, 28, 29, 30, 31, 32] (by decide +kernel) (by decide +kernel)) (goodIn_sub (fun _ h => List.mem_cons_of_mem _ (List.mem_append_right _ h)) (by decide +kernel))
set_option maxRecDepth 20000 in
theorem gX6_hashJoined_X6_behind : GoodIn wsX6_hashJoined (wsV RX6 108 RX6 yX6_behind wsX6_behind) := goodIn_app (goodIn_of _ (by decide +kernel)) ggX6_hashJoined_X6_behind
theorem dX6_hashJoined_0 : decode cX6_hashJoined 0 = .ok (.aload_n 0, 1) := by decide +kernel
theorem dX6_hashJoined_1 : decode cX6_hashJoined 1 = .ok (.iload_n 1, 1) := by decide +kernel
theorem dX6_hashJoined_2 : decode cX6_hashJoined 2 = .ok (.iload_n 2, 1) := by decide +kernel
theorem dX6_hashJoined_3 : decode cX6_hashJoined 3 = .ok (.invokevirtual 86, 3) := by decide +kernel
theorem dX6_hashJoined_6 : decode cX6_hashJoined 6 = .ok (.ifCond .eq 7, 3) := by decide +kernel
theorem dX6_hashJoined_9 : decode cX6_hashJoined 9 = .ok (.iconst 0, 1) := by decide +kernel
theorem dX6_hashJoined_10 : decode cX6_hashJoined 10 = .ok (.goto 14, 3) := by decide +kernel
theorem dX6_hashJoined_13 : decode cX6_hashJoined 13 = .ok (.aload_n 0, 1) := by decide +kernel
theorem dX6_hashJoined_14 : decode cX6_hashJoined 14 = .ok (.aload_n 0, 1) := by decide +kernel
theorem dX6_hashJoined_15 : decode cX6_hashJoined 15 = .ok (.iconst 0, 1) := by decide +kernel
theorem dX6_hashJoined_16 : decode cX6_hashJoined 16 = .ok (.iload_n 1, 1) := by decide +kernel
theorem dX6_hashJoined_17 : decode cX6_hashJoined 17 = .ok (.invokevirtual 108, 3) := by decide +kernel
theorem dX6_hashJoined_20 : decode cX6_hashJoined 20 = .ok (.iload_n 2, 1) := by decide +kernel
theorem dX6_hashJoined_21 : decode cX6_hashJoined 21 = .ok (.invokevirtual 108, 3) := by decide +kernel
theorem dX6_hashJoined_24 : decode cX6_hashJoined 24 = .ok (.ireturn, 1) := by decide +kernel
set_option maxRecDepth 20000 in
theorem ggX6_hashRepeated_X6_isNo : GoodIn wsX6_hashRepeated wsX6_isNo := goodIn_r _ [6, 7, 8, 9, 5, 10, 11, 12, 13, 14, 15, 25, 26, 27, 28, 29] (by decide +kernel) (by decide +kernel)
set_option maxRecDepth 20000 in
theorem gX6_hashRepeated_X6_isNo : GoodIn wsX6_hashRepeated (wsV RX6 38 RX6 yX6_isNo wsX6_isNo) := goodIn_app (goodIn_of _ (by decide +kernel)) ggX6_hashRepeated_X6_isNo
set_option maxRecDepth 20000 in
theorem ggX6_hashRepeated_X6_isIn : GoodIn wsX6_hashRepeated wsX6_isIn := goodIn_r _ [10] (by decide +kernel) (by decide +kernel)
set_option maxRecDepth 20000 in
theorem gX6_hashRepeated_X6_isIn : GoodIn wsX6_hashRepeated (va_wsS RX6 30 yX6_isIn wsX6_isIn) := goodIn_app (goodIn_of _ (by decide +kernel)) ggX6_hashRepeated_X6_isIn
set_option maxRecDepth 20000 in
theorem ggX6_hashRepeated_X6_isThrown : GoodIn wsX6_hashRepeated wsX6_isThrown := goodIn_r _ [14, 15, 25, 26, 27, 28, 29] (by decide +kernel) (by decide +kernel)
set_option maxRecDepth 20000 in
theorem gX6_hashRepeated_X6_isThrown : GoodIn wsX6_hashRepeated (wsV RX6 34 RX6 yX6_isThrown wsX6_isThrown) := goodIn_app (goodIn_of _ (by decide +kernel)) ggX6_hashRepeated_X6_isThrown
set_option maxRecDepth 20000 in
theorem ggX6_hashRepeated_X6_behind : GoodIn wsX6_hashRepeated wsX6_behind := goodIn_ca (goodIn_r _ [19, 20, 21, 22, 23, 5, 24, 25, 26, 27, 28, 29] (by decide +kernel) (by decide +kernel)) (goodIn_sub (fun _ h => List.mem_cons_of_mem _ (List.mem_append_right _ h)) (by decide +kernel))
set_option maxRecDepth 20000 in
theorem gX6_hashRepeated_X6_behind : GoodIn wsX6_hashRepeated (wsV RX6 108 RX6 yX6_behind wsX6_behind) := goodIn_app (goodIn_of _ (by decide +kernel)) ggX6_hashRepeated_X6_behind
theorem dX6_hashRepeated_0 : decode cX6_hashRepeated 0 = .ok (.aload_n 0, 1) := by decide +kernel
theorem dX6_hashRepeated_1 : decode cX6_hashRepeated 1 = .ok (.iload_n 1, 1) := by decide +kernel
theorem dX6_hashRepeated_2 : decode cX6_hashRepeated 2 = .ok (.invokevirtual 38, 3) := by decide +kernel
theorem dX6_hashRepeated_5 : decode cX6_hashRepeated 5 = .ok (.ifCond .ne 28, 3) := by decide +kernel
theorem dX6_hashRepeated_8 : decode cX6_hashRepeated 8 = .ok (.aload_n 0, 1) := by decide +kernel
theorem dX6_hashRepeated_9 : decode cX6_hashRepeated 9 = .ok (.iload_n 2, 1) := by decide +kernel
theorem dX6_hashRepeated_10 : decode cX6_hashRepeated 10 = .ok (.i2l, 1) := by decide +kernel
theorem dX6_hashRepeated_11 : decode cX6_hashRepeated 11 = .ok (.lconst 0, 1) := by decide +kernel
theorem dX6_hashRepeated_12 : decode cX6_hashRepeated 12 = .ok (.ldc2_w 112, 3) := by decide +kernel
theorem dX6_hashRepeated_15 : decode cX6_hashRepeated 15 = .ok (.invokestatic 30, 3) := by decide +kernel
theorem dX6_hashRepeated_18 : decode cX6_hashRepeated 18 = .ok (.ifCond .ne 7, 3) := by decide +kernel
theorem dX6_hashRepeated_21 : decode cX6_hashRepeated 21 = .ok (.iconst 1, 1) := by decide +kernel
theorem dX6_hashRepeated_22 : decode cX6_hashRepeated 22 = .ok (.goto 4, 3) := by decide +kernel
theorem dX6_hashRepeated_25 : decode cX6_hashRepeated 25 = .ok (.iconst 0, 1) := by decide +kernel
theorem dX6_hashRepeated_26 : decode cX6_hashRepeated 26 = .ok (.iconst 2, 1) := by decide +kernel
theorem dX6_hashRepeated_27 : decode cX6_hashRepeated 27 = .ok (.invokevirtual 34, 3) := by decide +kernel
theorem dX6_hashRepeated_30 : decode cX6_hashRepeated 30 = .ok (.ifCond .eq 5, 3) := by decide +kernel
theorem dX6_hashRepeated_33 : decode cX6_hashRepeated 33 = .ok (.iconst 0, 1) := by decide +kernel
theorem dX6_hashRepeated_34 : decode cX6_hashRepeated 34 = .ok (.ireturn, 1) := by decide +kernel
theorem dX6_hashRepeated_35 : decode cX6_hashRepeated 35 = .ok (.iconst 0, 1) := by decide +kernel
theorem dX6_hashRepeated_36 : decode cX6_hashRepeated 36 = .ok (.istore_n 3, 1) := by decide +kernel
theorem dX6_hashRepeated_37 : decode cX6_hashRepeated 37 = .ok (.iconst 0, 1) := by decide +kernel
theorem dX6_hashRepeated_38 : decode cX6_hashRepeated 38 = .ok (.istore 4, 2) := by decide +kernel
theorem dX6_hashRepeated_40 : decode cX6_hashRepeated 40 = .ok (.iload 4, 2) := by decide +kernel
theorem dX6_hashRepeated_42 : decode cX6_hashRepeated 42 = .ok (.iload_n 2, 1) := by decide +kernel
theorem dX6_hashRepeated_43 : decode cX6_hashRepeated 43 = .ok (.if_icmp .ge 16, 3) := by decide +kernel
theorem dX6_hashRepeated_46 : decode cX6_hashRepeated 46 = .ok (.aload_n 0, 1) := by decide +kernel
theorem dX6_hashRepeated_47 : decode cX6_hashRepeated 47 = .ok (.iload_n 3, 1) := by decide +kernel
theorem dX6_hashRepeated_48 : decode cX6_hashRepeated 48 = .ok (.iload_n 1, 1) := by decide +kernel
theorem dX6_hashRepeated_49 : decode cX6_hashRepeated 49 = .ok (.invokevirtual 108, 3) := by decide +kernel
theorem dX6_hashRepeated_52 : decode cX6_hashRepeated 52 = .ok (.istore_n 3, 1) := by decide +kernel
theorem dX6_hashRepeated_53 : decode cX6_hashRepeated 53 = .ok (.iinc 4 1, 3) := by decide +kernel
theorem dX6_hashRepeated_56 : decode cX6_hashRepeated 56 = .ok (.goto (-16), 3) := by decide +kernel
theorem dX6_hashRepeated_59 : decode cX6_hashRepeated 59 = .ok (.iload_n 3, 1) := by decide +kernel
theorem dX6_hashRepeated_60 : decode cX6_hashRepeated 60 = .ok (.ireturn, 1) := by decide +kernel
set_option maxRecDepth 20000 in
theorem ggX6_isPeriod_X6_isIn : GoodIn wsX6_isPeriod wsX6_isIn := goodIn_r _ [6] (by decide +kernel) (by decide +kernel)
set_option maxRecDepth 20000 in
theorem gX6_isPeriod_X6_isIn : GoodIn wsX6_isPeriod (va_wsS RX6 30 yX6_isIn wsX6_isIn) := goodIn_app (goodIn_of _ (by decide +kernel)) ggX6_isPeriod_X6_isIn
set_option maxRecDepth 20000 in
theorem ggX6_isPeriod_X6_baseOf : GoodIn wsX6_isPeriod wsX6_baseOf := goodIn_r _ [9] (by decide +kernel) (by decide +kernel)
set_option maxRecDepth 20000 in
theorem gX6_isPeriod_X6_baseOf : GoodIn wsX6_isPeriod (va_wsS RX6 58 yX6_baseOf wsX6_baseOf) := goodIn_app (goodIn_of _ (by decide +kernel)) ggX6_isPeriod_X6_baseOf
theorem dX6_isPeriod_0 : decode cX6_isPeriod 0 = .ok (.iload_n 2, 1) := by decide +kernel
theorem dX6_isPeriod_1 : decode cX6_isPeriod 1 = .ok (.i2l, 1) := by decide +kernel
theorem dX6_isPeriod_2 : decode cX6_isPeriod 2 = .ok (.lconst 1, 1) := by decide +kernel
theorem dX6_isPeriod_3 : decode cX6_isPeriod 3 = .ok (.aload_n 0, 1) := by decide +kernel
theorem dX6_isPeriod_4 : decode cX6_isPeriod 4 = .ok (.getfield 13, 3) := by decide +kernel
theorem dX6_isPeriod_7 : decode cX6_isPeriod 7 = .ok (.iload_n 1, 1) := by decide +kernel
theorem dX6_isPeriod_8 : decode cX6_isPeriod 8 = .ok (.iaload, 1) := by decide +kernel
theorem dX6_isPeriod_9 : decode cX6_isPeriod 9 = .ok (.i2l, 1) := by decide +kernel
theorem dX6_isPeriod_10 : decode cX6_isPeriod 10 = .ok (.invokestatic 30, 3) := by decide +kernel
theorem dX6_isPeriod_13 : decode cX6_isPeriod 13 = .ok (.istore_n 3, 1) := by decide +kernel
theorem dX6_isPeriod_14 : decode cX6_isPeriod 14 = .ok (.iconst 0, 1) := by decide +kernel
theorem dX6_isPeriod_15 : decode cX6_isPeriod 15 = .ok (.istore 4, 2) := by decide +kernel
theorem dX6_isPeriod_17 : decode cX6_isPeriod 17 = .ok (.iload_n 3, 1) := by decide +kernel
theorem dX6_isPeriod_18 : decode cX6_isPeriod 18 = .ok (.ifCond .eq 57, 3) := by decide +kernel
theorem dX6_isPeriod_21 : decode cX6_isPeriod 21 = .ok (.iload 4, 2) := by decide +kernel
theorem dX6_isPeriod_23 : decode cX6_isPeriod 23 = .ok (.iload_n 2, 1) := by decide +kernel
theorem dX6_isPeriod_24 : decode cX6_isPeriod 24 = .ok (.iadd, 1) := by decide +kernel
theorem dX6_isPeriod_25 : decode cX6_isPeriod 25 = .ok (.aload_n 0, 1) := by decide +kernel
theorem dX6_isPeriod_26 : decode cX6_isPeriod 26 = .ok (.getfield 13, 3) := by decide +kernel
theorem dX6_isPeriod_29 : decode cX6_isPeriod 29 = .ok (.iload_n 1, 1) := by decide +kernel
theorem dX6_isPeriod_30 : decode cX6_isPeriod 30 = .ok (.iaload, 1) := by decide +kernel
theorem dX6_isPeriod_31 : decode cX6_isPeriod 31 = .ok (.if_icmp .ge 44, 3) := by decide +kernel
theorem dX6_isPeriod_34 : decode cX6_isPeriod 34 = .ok (.aload_n 0, 1) := by decide +kernel
theorem dX6_isPeriod_35 : decode cX6_isPeriod 35 = .ok (.getfield 7, 3) := by decide +kernel
theorem dX6_isPeriod_38 : decode cX6_isPeriod 38 = .ok (.iload_n 1, 1) := by decide +kernel
theorem dX6_isPeriod_39 : decode cX6_isPeriod 39 = .ok (.invokestatic 58, 3) := by decide +kernel
theorem dX6_isPeriod_42 : decode cX6_isPeriod 42 = .ok (.iload 4, 2) := by decide +kernel
theorem dX6_isPeriod_44 : decode cX6_isPeriod 44 = .ok (.iadd, 1) := by decide +kernel
theorem dX6_isPeriod_45 : decode cX6_isPeriod 45 = .ok (.iaload, 1) := by decide +kernel
theorem dX6_isPeriod_46 : decode cX6_isPeriod 46 = .ok (.aload_n 0, 1) := by decide +kernel
theorem dX6_isPeriod_47 : decode cX6_isPeriod 47 = .ok (.getfield 7, 3) := by decide +kernel
theorem dX6_isPeriod_50 : decode cX6_isPeriod 50 = .ok (.iload_n 1, 1) := by decide +kernel
theorem dX6_isPeriod_51 : decode cX6_isPeriod 51 = .ok (.invokestatic 58, 3) := by decide +kernel
theorem dX6_isPeriod_54 : decode cX6_isPeriod 54 = .ok (.iload 4, 2) := by decide +kernel
theorem dX6_isPeriod_56 : decode cX6_isPeriod 56 = .ok (.iadd, 1) := by decide +kernel
theorem dX6_isPeriod_57 : decode cX6_isPeriod 57 = .ok (.iload_n 2, 1) := by decide +kernel
theorem dX6_isPeriod_58 : decode cX6_isPeriod 58 = .ok (.iadd, 1) := by decide +kernel
theorem dX6_isPeriod_59 : decode cX6_isPeriod 59 = .ok (.iaload, 1) := by decide +kernel
theorem dX6_isPeriod_60 : decode cX6_isPeriod 60 = .ok (.if_icmp .ne 7, 3) := by decide +kernel
theorem dX6_isPeriod_63 : decode cX6_isPeriod 63 = .ok (.iconst 1, 1) := by decide +kernel
theorem dX6_isPeriod_64 : decode cX6_isPeriod 64 = .ok (.goto 4, 3) := by decide +kernel
theorem dX6_isPeriod_67 : decode cX6_isPeriod 67 = .ok (.iconst 0, 1) := by decide +kernel
theorem dX6_isPeriod_68 : decode cX6_isPeriod 68 = .ok (.istore_n 3, 1) := by decide +kernel
theorem dX6_isPeriod_69 : decode cX6_isPeriod 69 = .ok (.iinc 4 1, 3) := by decide +kernel
theorem dX6_isPeriod_72 : decode cX6_isPeriod 72 = .ok (.goto (-55), 3) := by decide +kernel
theorem dX6_isPeriod_75 : decode cX6_isPeriod 75 = .ok (.iload_n 3, 1) := by decide +kernel
theorem dX6_isPeriod_76 : decode cX6_isPeriod 76 = .ok (.ireturn, 1) := by decide +kernel
set_option maxRecDepth 20000 in
theorem ggX6_periodsOf_X6_isPeriod : GoodIn wsX6_periodsOf wsX6_isPeriod := goodIn_ca (goodIn_r _ [6, 1, 7, 8, 9, 5, 10, 11, 12, 13, 14, 15, 16, 17, 18] (by decide +kernel) (by decide +kernel)) (goodIn_sub (fun _ h => List.mem_cons_of_mem _ (List.mem_append_right _ h)) (by decide +kernel))
set_option maxRecDepth 20000 in
theorem gX6_periodsOf_X6_isPeriod : GoodIn wsX6_periodsOf (wsV RX6 114 RX6 yX6_isPeriod wsX6_isPeriod) := goodIn_app (goodIn_of _ (by decide +kernel)) ggX6_periodsOf_X6_isPeriod
theorem dX6_periodsOf_0 : decode cX6_periodsOf 0 = .ok (.iconst 0, 1) := by decide +kernel
theorem dX6_periodsOf_1 : decode cX6_periodsOf 1 = .ok (.istore_n 2, 1) := by decide +kernel
theorem dX6_periodsOf_2 : decode cX6_periodsOf 2 = .ok (.iconst 1, 1) := by decide +kernel
theorem dX6_periodsOf_3 : decode cX6_periodsOf 3 = .ok (.istore_n 3, 1) := by decide +kernel
theorem dX6_periodsOf_4 : decode cX6_periodsOf 4 = .ok (.iload_n 3, 1) := by decide +kernel
theorem dX6_periodsOf_5 : decode cX6_periodsOf 5 = .ok (.aload_n 0, 1) := by decide +kernel
theorem dX6_periodsOf_6 : decode cX6_periodsOf 6 = .ok (.getfield 13, 3) := by decide +kernel
theorem dX6_periodsOf_9 : decode cX6_periodsOf 9 = .ok (.iload_n 1, 1) := by decide +kernel
theorem dX6_periodsOf_10 : decode cX6_periodsOf 10 = .ok (.iaload, 1) := by decide +kernel
theorem dX6_periodsOf_11 : decode cX6_periodsOf 11 = .ok (.if_icmp .gt 26, 3) := by decide +kernel
theorem dX6_periodsOf_14 : decode cX6_periodsOf 14 = .ok (.iload_n 2, 1) := by decide +kernel
theorem dX6_periodsOf_15 : decode cX6_periodsOf 15 = .ok (.aload_n 0, 1) := by decide +kernel
theorem dX6_periodsOf_16 : decode cX6_periodsOf 16 = .ok (.iload_n 1, 1) := by decide +kernel
theorem dX6_periodsOf_17 : decode cX6_periodsOf 17 = .ok (.iload_n 3, 1) := by decide +kernel
theorem dX6_periodsOf_18 : decode cX6_periodsOf 18 = .ok (.invokevirtual 114, 3) := by decide +kernel
theorem dX6_periodsOf_21 : decode cX6_periodsOf 21 = .ok (.ifCond .eq 7, 3) := by decide +kernel
theorem dX6_periodsOf_24 : decode cX6_periodsOf 24 = .ok (.iconst 1, 1) := by decide +kernel
theorem dX6_periodsOf_25 : decode cX6_periodsOf 25 = .ok (.goto 4, 3) := by decide +kernel
theorem dX6_periodsOf_28 : decode cX6_periodsOf 28 = .ok (.iconst 0, 1) := by decide +kernel
theorem dX6_periodsOf_29 : decode cX6_periodsOf 29 = .ok (.iadd, 1) := by decide +kernel
theorem dX6_periodsOf_30 : decode cX6_periodsOf 30 = .ok (.istore_n 2, 1) := by decide +kernel
theorem dX6_periodsOf_31 : decode cX6_periodsOf 31 = .ok (.iinc 3 1, 3) := by decide +kernel
theorem dX6_periodsOf_34 : decode cX6_periodsOf 34 = .ok (.goto (-30), 3) := by decide +kernel
theorem dX6_periodsOf_37 : decode cX6_periodsOf 37 = .ok (.iload_n 2, 1) := by decide +kernel
theorem dX6_periodsOf_38 : decode cX6_periodsOf 38 = .ok (.ireturn, 1) := by decide +kernel
set_option maxRecDepth 20000 in
theorem ggX6_periods_X6_isNo : GoodIn wsX6_periods wsX6_isNo := goodIn_r _ [5, 6, 7, 8, 4, 9, 10, 11, 12, 13, 14, 28, 29, 30, 31, 32] (by decide +kernel) (by decide +kernel)
set_option maxRecDepth 20000 in
theorem gX6_periods_X6_isNo : GoodIn wsX6_periods (wsV RX6 38 RX6 yX6_isNo wsX6_isNo) := goodIn_app (goodIn_of _ (by decide +kernel)) ggX6_periods_X6_isNo
set_option maxRecDepth 20000 in
theorem ggX6_periods_X6_periodsOf : GoodIn wsX6_periods wsX6_periodsOf := goodIn_ca (goodIn_r _ [18, 19, 20, 21, 22, 4, 23, 24, 7, 8, 9, 25, 26, 27, 28, 29, 30, 31, 32] (by decide +kernel) (by decide +kernel)) (goodIn_sub (fun _ h => List.mem_cons_of_mem _ (List.mem_append_right _ h)) (by decide +kernel))
set_option maxRecDepth 20000 in
theorem gX6_periods_X6_periodsOf : GoodIn wsX6_periods (wsV RX6 117 RX6 yX6_periodsOf wsX6_periodsOf) := goodIn_app (goodIn_of _ (by decide +kernel)) ggX6_periods_X6_periodsOf
theorem dX6_periods_0 : decode cX6_periods 0 = .ok (.aload_n 0, 1) := by decide +kernel
theorem dX6_periods_1 : decode cX6_periods 1 = .ok (.iload_n 1, 1) := by decide +kernel
theorem dX6_periods_2 : decode cX6_periods 2 = .ok (.invokevirtual 38, 3) := by decide +kernel
theorem dX6_periods_5 : decode cX6_periods 5 = .ok (.ifCond .eq 7, 3) := by decide +kernel
theorem dX6_periods_8 : decode cX6_periods 8 = .ok (.iconst 0, 1) := by decide +kernel
theorem dX6_periods_9 : decode cX6_periods 9 = .ok (.goto 8, 3) := by decide +kernel
theorem dX6_periods_12 : decode cX6_periods 12 = .ok (.aload_n 0, 1) := by decide +kernel
theorem dX6_periods_13 : decode cX6_periods 13 = .ok (.iload_n 1, 1) := by decide +kernel
theorem dX6_periods_14 : decode cX6_periods 14 = .ok (.invokevirtual 117, 3) := by decide +kernel
theorem dX6_periods_17 : decode cX6_periods 17 = .ok (.ireturn, 1) := by decide +kernel
set_option maxRecDepth 20000 in
theorem ggX6_periodAt_X6_isNo : GoodIn wsX6_periodAt wsX6_isNo := goodIn_r _ [5, 6, 7, 8, 4, 9, 10, 11, 12, 13, 14, 28, 29, 30, 31, 32] (by decide +kernel) (by decide +kernel)
set_option maxRecDepth 20000 in
theorem gX6_periodAt_X6_isNo : GoodIn wsX6_periodAt (wsV RX6 38 RX6 yX6_isNo wsX6_isNo) := goodIn_app (goodIn_of _ (by decide +kernel)) ggX6_periodAt_X6_isNo
set_option maxRecDepth 20000 in
theorem ggX6_periodAt_X6_periodsOf : GoodIn wsX6_periodAt wsX6_periodsOf := goodIn_ca (goodIn_r _ [18, 19, 20, 21, 22, 4, 23, 24, 7, 8, 9, 25, 26, 27, 28, 29, 30, 31, 32] (by decide +kernel) (by decide +kernel)) (goodIn_sub (fun _ h => List.mem_cons_of_mem _ (List.mem_append_right _ h)) (by decide +kernel))
set_option maxRecDepth 20000 in
theorem gX6_periodAt_X6_periodsOf : GoodIn wsX6_periodAt (wsV RX6 117 RX6 yX6_periodsOf wsX6_periodsOf) := goodIn_app (goodIn_of _ (by decide +kernel)) ggX6_periodAt_X6_periodsOf
set_option maxRecDepth 20000 in
theorem ggX6_periodAt_X6_isIn : GoodIn wsX6_periodAt wsX6_isIn := goodIn_r _ [9] (by decide +kernel) (by decide +kernel)
set_option maxRecDepth 20000 in
theorem gX6_periodAt_X6_isIn : GoodIn wsX6_periodAt (va_wsS RX6 30 yX6_isIn wsX6_isIn) := goodIn_app (goodIn_of _ (by decide +kernel)) ggX6_periodAt_X6_isIn
set_option maxRecDepth 20000 in
theorem ggX6_periodAt_X6_isThrown : GoodIn wsX6_periodAt wsX6_isThrown := goodIn_r _ [13, 14, 28, 29, 30, 31, 32] (by decide +kernel) (by decide +kernel)
set_option maxRecDepth 20000 in
theorem gX6_periodAt_X6_isThrown : GoodIn wsX6_periodAt (wsV RX6 34 RX6 yX6_isThrown wsX6_isThrown) := goodIn_app (goodIn_of _ (by decide +kernel)) ggX6_periodAt_X6_isThrown
set_option maxRecDepth 20000 in
theorem ggX6_periodAt_X6_isPeriod : GoodIn wsX6_periodAt wsX6_isPeriod := goodIn_ca (goodIn_r _ [23, 19, 24, 7, 8, 4, 9, 25, 26, 27, 28, 29, 30, 31, 32] (by decide +kernel) (by decide +kernel)) (goodIn_sub (fun _ h => List.mem_cons_of_mem _ (List.mem_append_right _ h)) (by decide +kernel))
set_option maxRecDepth 20000 in
theorem gX6_periodAt_X6_isPeriod : GoodIn wsX6_periodAt (wsV RX6 114 RX6 yX6_isPeriod wsX6_isPeriod) := goodIn_app (goodIn_of _ (by decide +kernel)) ggX6_periodAt_X6_isPeriod
theorem dX6_periodAt_0 : decode cX6_periodAt 0 = .ok (.aload_n 0, 1) := by decide +kernel
theorem dX6_periodAt_1 : decode cX6_periodAt 1 = .ok (.iload_n 1, 1) := by decide +kernel
theorem dX6_periodAt_2 : decode cX6_periodAt 2 = .ok (.invokevirtual 38, 3) := by decide +kernel
theorem dX6_periodAt_5 : decode cX6_periodAt 5 = .ok (.ifCond .ne 33, 3) := by decide +kernel
theorem dX6_periodAt_8 : decode cX6_periodAt 8 = .ok (.aload_n 0, 1) := by decide +kernel
theorem dX6_periodAt_9 : decode cX6_periodAt 9 = .ok (.iload_n 2, 1) := by decide +kernel
theorem dX6_periodAt_10 : decode cX6_periodAt 10 = .ok (.i2l, 1) := by decide +kernel
theorem dX6_periodAt_11 : decode cX6_periodAt 11 = .ok (.lconst 0, 1) := by decide +kernel
theorem dX6_periodAt_12 : decode cX6_periodAt 12 = .ok (.aload_n 0, 1) := by decide +kernel
theorem dX6_periodAt_13 : decode cX6_periodAt 13 = .ok (.iload_n 1, 1) := by decide +kernel
theorem dX6_periodAt_14 : decode cX6_periodAt 14 = .ok (.invokevirtual 117, 3) := by decide +kernel
theorem dX6_periodAt_17 : decode cX6_periodAt 17 = .ok (.iconst 1, 1) := by decide +kernel
theorem dX6_periodAt_18 : decode cX6_periodAt 18 = .ok (.isub, 1) := by decide +kernel
theorem dX6_periodAt_19 : decode cX6_periodAt 19 = .ok (.i2l, 1) := by decide +kernel
theorem dX6_periodAt_20 : decode cX6_periodAt 20 = .ok (.invokestatic 30, 3) := by decide +kernel
theorem dX6_periodAt_23 : decode cX6_periodAt 23 = .ok (.ifCond .ne 7, 3) := by decide +kernel
theorem dX6_periodAt_26 : decode cX6_periodAt 26 = .ok (.iconst 1, 1) := by decide +kernel
theorem dX6_periodAt_27 : decode cX6_periodAt 27 = .ok (.goto 4, 3) := by decide +kernel
theorem dX6_periodAt_30 : decode cX6_periodAt 30 = .ok (.iconst 0, 1) := by decide +kernel
theorem dX6_periodAt_31 : decode cX6_periodAt 31 = .ok (.iconst 2, 1) := by decide +kernel
theorem dX6_periodAt_32 : decode cX6_periodAt 32 = .ok (.invokevirtual 34, 3) := by decide +kernel
theorem dX6_periodAt_35 : decode cX6_periodAt 35 = .ok (.ifCond .eq 5, 3) := by decide +kernel
theorem dX6_periodAt_38 : decode cX6_periodAt 38 = .ok (.iconst 0, 1) := by decide +kernel
theorem dX6_periodAt_39 : decode cX6_periodAt 39 = .ok (.ireturn, 1) := by decide +kernel
theorem dX6_periodAt_40 : decode cX6_periodAt 40 = .ok (.iload_n 2, 1) := by decide +kernel
theorem dX6_periodAt_41 : decode cX6_periodAt 41 = .ok (.istore_n 3, 1) := by decide +kernel
theorem dX6_periodAt_42 : decode cX6_periodAt 42 = .ok (.iconst 1, 1) := by decide +kernel
theorem dX6_periodAt_43 : decode cX6_periodAt 43 = .ok (.istore 4, 2) := by decide +kernel
theorem dX6_periodAt_45 : decode cX6_periodAt 45 = .ok (.iload_n 3, 1) := by decide +kernel
theorem dX6_periodAt_46 : decode cX6_periodAt 46 = .ok (.ifCond .gt 13, 3) := by decide +kernel
theorem dX6_periodAt_49 : decode cX6_periodAt 49 = .ok (.aload_n 0, 1) := by decide +kernel
theorem dX6_periodAt_50 : decode cX6_periodAt 50 = .ok (.iload_n 1, 1) := by decide +kernel
theorem dX6_periodAt_51 : decode cX6_periodAt 51 = .ok (.iload 4, 2) := by decide +kernel
theorem dX6_periodAt_53 : decode cX6_periodAt 53 = .ok (.invokevirtual 114, 3) := by decide +kernel
theorem dX6_periodAt_56 : decode cX6_periodAt 56 = .ok (.ifCond .ne 27, 3) := by decide +kernel
theorem dX6_periodAt_59 : decode cX6_periodAt 59 = .ok (.iload_n 3, 1) := by decide +kernel
theorem dX6_periodAt_60 : decode cX6_periodAt 60 = .ok (.aload_n 0, 1) := by decide +kernel
theorem dX6_periodAt_61 : decode cX6_periodAt 61 = .ok (.iload_n 1, 1) := by decide +kernel
theorem dX6_periodAt_62 : decode cX6_periodAt 62 = .ok (.iload 4, 2) := by decide +kernel
theorem dX6_periodAt_64 : decode cX6_periodAt 64 = .ok (.invokevirtual 114, 3) := by decide +kernel
theorem dX6_periodAt_67 : decode cX6_periodAt 67 = .ok (.ifCond .eq 7, 3) := by decide +kernel
theorem dX6_periodAt_70 : decode cX6_periodAt 70 = .ok (.iconst 1, 1) := by decide +kernel
theorem dX6_periodAt_71 : decode cX6_periodAt 71 = .ok (.goto 4, 3) := by decide +kernel
theorem dX6_periodAt_74 : decode cX6_periodAt 74 = .ok (.iconst 0, 1) := by decide +kernel
theorem dX6_periodAt_75 : decode cX6_periodAt 75 = .ok (.isub, 1) := by decide +kernel
theorem dX6_periodAt_76 : decode cX6_periodAt 76 = .ok (.istore_n 3, 1) := by decide +kernel
theorem dX6_periodAt_77 : decode cX6_periodAt 77 = .ok (.iinc 4 1, 3) := by decide +kernel
theorem dX6_periodAt_80 : decode cX6_periodAt 80 = .ok (.goto (-35), 3) := by decide +kernel
theorem dX6_periodAt_83 : decode cX6_periodAt 83 = .ok (.iload 4, 2) := by decide +kernel
theorem dX6_periodAt_85 : decode cX6_periodAt 85 = .ok (.ireturn, 1) := by decide +kernel
set_option maxRecDepth 20000 in
theorem ggX6_border_X6_isNoOf : GoodIn wsX6_border wsX6_isNoOf := goodIn_r _ [6, 7, 8, 9, 5, 10, 11, 12, 13, 14, 15, 16, 17, 18, 19, 36, 37, 38, 39, 40] (by decide +kernel) (by decide +kernel)
set_option maxRecDepth 20000 in
theorem gX6_border_X6_isNoOf : GoodIn wsX6_border (wsV RX6 86 RX6 yX6_isNoOf wsX6_isNoOf) := goodIn_app (goodIn_of _ (by decide +kernel)) ggX6_border_X6_isNoOf
set_option maxRecDepth 20000 in
theorem ggX6_border_X6_isThrown : GoodIn wsX6_border wsX6_isThrown := goodIn_r _ [18, 19, 36, 37, 38, 39, 40] (by decide +kernel) (by decide +kernel)
set_option maxRecDepth 20000 in
theorem gX6_border_X6_isThrown : GoodIn wsX6_border (wsV RX6 34 RX6 yX6_isThrown wsX6_isThrown) := goodIn_app (goodIn_of _ (by decide +kernel)) ggX6_border_X6_isThrown
set_option maxRecDepth 20000 in
theorem ggX6_border_X6_baseOf : GoodIn wsX6_border wsX6_baseOf := goodIn_r _ [22] (by decide +kernel) (by decide +kernel)
set_option maxRecDepth 20000 in
theorem gX6_border_X6_baseOf : GoodIn wsX6_border (va_wsS RX6 58 yX6_baseOf wsX6_baseOf) := goodIn_app (goodIn_of _ (by decide +kernel)) ggX6_border_X6_baseOf
set_option maxRecDepth 20000 in
theorem ggX6_border_X6_standsAt : GoodIn wsX6_border wsX6_standsAt := goodIn_ca (goodIn_r _ [26, 27, 36, 37, 38, 39, 40] (by decide +kernel) (by decide +kernel)) (goodIn_sub (fun _ h => List.mem_cons_of_mem _ (List.mem_append_right _ h)) (by decide +kernel))
set_option maxRecDepth 20000 in
theorem gX6_border_X6_standsAt : GoodIn wsX6_border (wsV RX6 46 RX6 yX6_standsAt wsX6_standsAt) := goodIn_app (goodIn_of _ (by decide +kernel)) ggX6_border_X6_standsAt
set_option maxRecDepth 20000 in
theorem ggX6_border_X6_become : GoodIn wsX6_border wsX6_become := goodIn_ca (goodIn_r _ [31, 1, 32, 33, 34, 5, 35, 27, 20, 21, 22, 36, 37, 38, 39, 40] (by decide +kernel) (by decide +kernel)) (goodIn_sub (fun _ h => List.mem_cons_of_mem _ (List.mem_append_right _ h)) (by decide +kernel))
set_option maxRecDepth 20000 in
theorem gX6_border_X6_become : GoodIn wsX6_border (wsV RX6 82 RX6 yX6_become wsX6_become) := goodIn_app (goodIn_of _ (by decide +kernel)) ggX6_border_X6_become
theorem dX6_border_0 : decode cX6_border 0 = .ok (.aload_n 0, 1) := by decide +kernel
theorem dX6_border_1 : decode cX6_border 1 = .ok (.iload_n 1, 1) := by decide +kernel
theorem dX6_border_2 : decode cX6_border 2 = .ok (.iload_n 2, 1) := by decide +kernel
theorem dX6_border_3 : decode cX6_border 3 = .ok (.invokevirtual 86, 3) := by decide +kernel
theorem dX6_border_6 : decode cX6_border 6 = .ok (.ifCond .ne 25, 3) := by decide +kernel
theorem dX6_border_9 : decode cX6_border 9 = .ok (.aload_n 0, 1) := by decide +kernel
theorem dX6_border_10 : decode cX6_border 10 = .ok (.aload_n 0, 1) := by decide +kernel
theorem dX6_border_11 : decode cX6_border 11 = .ok (.getfield 13, 3) := by decide +kernel
theorem dX6_border_14 : decode cX6_border 14 = .ok (.iload_n 2, 1) := by decide +kernel
theorem dX6_border_15 : decode cX6_border 15 = .ok (.iaload, 1) := by decide +kernel
theorem dX6_border_16 : decode cX6_border 16 = .ok (.ifCond .ne 7, 3) := by decide +kernel
theorem dX6_border_19 : decode cX6_border 19 = .ok (.iconst 1, 1) := by decide +kernel
theorem dX6_border_20 : decode cX6_border 20 = .ok (.goto 4, 3) := by decide +kernel
theorem dX6_border_23 : decode cX6_border 23 = .ok (.iconst 0, 1) := by decide +kernel
theorem dX6_border_24 : decode cX6_border 24 = .ok (.iconst 2, 1) := by decide +kernel
theorem dX6_border_25 : decode cX6_border 25 = .ok (.invokevirtual 34, 3) := by decide +kernel
theorem dX6_border_28 : decode cX6_border 28 = .ok (.ifCond .eq 5, 3) := by decide +kernel
theorem dX6_border_31 : decode cX6_border 31 = .ok (.iconst 0, 1) := by decide +kernel
theorem dX6_border_32 : decode cX6_border 32 = .ok (.ireturn, 1) := by decide +kernel
theorem dX6_border_33 : decode cX6_border 33 = .ok (.aload_n 0, 1) := by decide +kernel
theorem dX6_border_34 : decode cX6_border 34 = .ok (.getfield 13, 3) := by decide +kernel
theorem dX6_border_37 : decode cX6_border 37 = .ok (.iload_n 2, 1) := by decide +kernel
theorem dX6_border_38 : decode cX6_border 38 = .ok (.iaload, 1) := by decide +kernel
theorem dX6_border_39 : decode cX6_border 39 = .ok (.iconst 1, 1) := by decide +kernel
theorem dX6_border_40 : decode cX6_border 40 = .ok (.isub, 1) := by decide +kernel
theorem dX6_border_41 : decode cX6_border 41 = .ok (.istore_n 3, 1) := by decide +kernel
theorem dX6_border_42 : decode cX6_border 42 = .ok (.aload_n 0, 1) := by decide +kernel
theorem dX6_border_43 : decode cX6_border 43 = .ok (.iload_n 2, 1) := by decide +kernel
theorem dX6_border_44 : decode cX6_border 44 = .ok (.invokestatic 58, 3) := by decide +kernel
theorem dX6_border_47 : decode cX6_border 47 = .ok (.aload_n 0, 1) := by decide +kernel
theorem dX6_border_48 : decode cX6_border 48 = .ok (.getfield 13, 3) := by decide +kernel
theorem dX6_border_51 : decode cX6_border 51 = .ok (.iload_n 2, 1) := by decide +kernel
theorem dX6_border_52 : decode cX6_border 52 = .ok (.iaload, 1) := by decide +kernel
theorem dX6_border_53 : decode cX6_border 53 = .ok (.iload_n 2, 1) := by decide +kernel
theorem dX6_border_54 : decode cX6_border 54 = .ok (.invokestatic 58, 3) := by decide +kernel
theorem dX6_border_57 : decode cX6_border 57 = .ok (.iload_n 3, 1) := by decide +kernel
theorem dX6_border_58 : decode cX6_border 58 = .ok (.aload_n 0, 1) := by decide +kernel
theorem dX6_border_59 : decode cX6_border 59 = .ok (.getfield 13, 3) := by decide +kernel
theorem dX6_border_62 : decode cX6_border 62 = .ok (.iload_n 2, 1) := by decide +kernel
theorem dX6_border_63 : decode cX6_border 63 = .ok (.iaload, 1) := by decide +kernel
theorem dX6_border_64 : decode cX6_border 64 = .ok (.iload_n 3, 1) := by decide +kernel
theorem dX6_border_65 : decode cX6_border 65 = .ok (.isub, 1) := by decide +kernel
theorem dX6_border_66 : decode cX6_border 66 = .ok (.invokevirtual 46, 3) := by decide +kernel
theorem dX6_border_69 : decode cX6_border 69 = .ok (.ifCond .ne 9, 3) := by decide +kernel
theorem dX6_border_72 : decode cX6_border 72 = .ok (.iinc 3 (-1), 3) := by decide +kernel
theorem dX6_border_75 : decode cX6_border 75 = .ok (.goto (-33), 3) := by decide +kernel
theorem dX6_border_78 : decode cX6_border 78 = .ok (.aload_n 0, 1) := by decide +kernel
theorem dX6_border_79 : decode cX6_border 79 = .ok (.iload_n 1, 1) := by decide +kernel
theorem dX6_border_80 : decode cX6_border 80 = .ok (.iload_n 2, 1) := by decide +kernel
theorem dX6_border_81 : decode cX6_border 81 = .ok (.invokestatic 58, 3) := by decide +kernel
theorem dX6_border_84 : decode cX6_border 84 = .ok (.iload_n 3, 1) := by decide +kernel
theorem dX6_border_85 : decode cX6_border 85 = .ok (.invokevirtual 82, 3) := by decide +kernel
theorem dX6_border_88 : decode cX6_border 88 = .ok (.ireturn, 1) := by decide +kernel
set_option maxRecDepth 20000 in
theorem ggX6_rootOf_X6_isPeriod : GoodIn wsX6_rootOf wsX6_isPeriod := goodIn_ca (goodIn_r _ [6, 1, 7, 8, 9, 5, 10, 11, 12, 13, 14, 15, 16, 17, 18] (by decide +kernel) (by decide +kernel)) (goodIn_sub (fun _ h => List.mem_cons_of_mem _ (List.mem_append_left _ (List.mem_append_right _ h))) (by decide +kernel))
set_option maxRecDepth 20000 in
theorem gX6_rootOf_X6_isPeriod : GoodIn wsX6_rootOf (wsV RX6 114 RX6 yX6_isPeriod wsX6_isPeriod) := goodIn_app (goodIn_of _ (by decide +kernel)) ggX6_rootOf_X6_isPeriod
theorem dX6_rootOf_0 : decode cX6_rootOf 0 = .ok (.iconst 1, 1) := by decide +kernel
theorem dX6_rootOf_1 : decode cX6_rootOf 1 = .ok (.istore_n 2, 1) := by decide +kernel
theorem dX6_rootOf_2 : decode cX6_rootOf 2 = .ok (.aload_n 0, 1) := by decide +kernel
theorem dX6_rootOf_3 : decode cX6_rootOf 3 = .ok (.getfield 13, 3) := by decide +kernel
theorem dX6_rootOf_6 : decode cX6_rootOf 6 = .ok (.iload_n 1, 1) := by decide +kernel
theorem dX6_rootOf_7 : decode cX6_rootOf 7 = .ok (.iaload, 1) := by decide +kernel
theorem dX6_rootOf_8 : decode cX6_rootOf 8 = .ok (.iload_n 2, 1) := by decide +kernel
theorem dX6_rootOf_9 : decode cX6_rootOf 9 = .ok (.irem, 1) := by decide +kernel
theorem dX6_rootOf_10 : decode cX6_rootOf 10 = .ok (.ifCond .ne 12, 3) := by decide +kernel
theorem dX6_rootOf_13 : decode cX6_rootOf 13 = .ok (.aload_n 0, 1) := by decide +kernel
theorem dX6_rootOf_14 : decode cX6_rootOf 14 = .ok (.iload_n 1, 1) := by decide +kernel
theorem dX6_rootOf_15 : decode cX6_rootOf 15 = .ok (.iload_n 2, 1) := by decide +kernel
theorem dX6_rootOf_16 : decode cX6_rootOf 16 = .ok (.invokevirtual 114, 3) := by decide +kernel
theorem dX6_rootOf_19 : decode cX6_rootOf 19 = .ok (.ifCond .ne 9, 3) := by decide +kernel
theorem dX6_rootOf_22 : decode cX6_rootOf 22 = .ok (.iinc 2 1, 3) := by decide +kernel
theorem dX6_rootOf_25 : decode cX6_rootOf 25 = .ok (.goto (-23), 3) := by decide +kernel
theorem dX6_rootOf_28 : decode cX6_rootOf 28 = .ok (.iload_n 2, 1) := by decide +kernel
theorem dX6_rootOf_29 : decode cX6_rootOf 29 = .ok (.ireturn, 1) := by decide +kernel
set_option maxRecDepth 20000 in
theorem ggX6_root_X6_isNoOf : GoodIn wsX6_root wsX6_isNoOf := goodIn_r _ [6, 7, 8, 9, 5, 10, 11, 12, 13, 14, 15, 16, 17, 18, 19, 40, 41, 42, 43, 44] (by decide +kernel) (by decide +kernel)
set_option maxRecDepth 20000 in
theorem gX6_root_X6_isNoOf : GoodIn wsX6_root (wsV RX6 86 RX6 yX6_isNoOf wsX6_isNoOf) := goodIn_app (goodIn_of _ (by decide +kernel)) ggX6_root_X6_isNoOf
set_option maxRecDepth 20000 in
theorem ggX6_root_X6_isThrown : GoodIn wsX6_root wsX6_isThrown := goodIn_r _ [18, 19, 40, 41, 42, 43, 44] (by decide +kernel) (by decide +kernel)
set_option maxRecDepth 20000 in
theorem gX6_root_X6_isThrown : GoodIn wsX6_root (wsV RX6 34 RX6 yX6_isThrown wsX6_isThrown) := goodIn_app (goodIn_of _ (by decide +kernel)) ggX6_root_X6_isThrown
set_option maxRecDepth 20000 in
theorem ggX6_root_X6_rootOf : GoodIn wsX6_root wsX6_rootOf := goodIn_ca (goodIn_ca (goodIn_r _ [23, 1, 24, 25, 26, 5, 27, 28, 12, 13, 14, 29, 30, 31, 40, 41, 42, 43, 44] (by decide +kernel) (by decide +kernel)) (goodIn_sub (fun _ h => List.mem_cons_of_mem _ (List.mem_append_left _ (List.mem_append_right _ h))) (by decide +kernel))) (goodIn_sub (fun _ h => List.mem_cons_of_mem _ (List.mem_append_right _ h)) (by decide +kernel))
set_option maxRecDepth 20000 in
theorem gX6_root_X6_rootOf : GoodIn wsX6_root (wsV RX6 120 RX6 yX6_rootOf wsX6_rootOf) := goodIn_app (goodIn_of _ (by decide +kernel)) ggX6_root_X6_rootOf
set_option maxRecDepth 20000 in
theorem ggX6_root_X6_baseOf : GoodIn wsX6_root wsX6_baseOf := goodIn_r _ [31] (by decide +kernel) (by decide +kernel)
set_option maxRecDepth 20000 in
theorem gX6_root_X6_baseOf : GoodIn wsX6_root (va_wsS RX6 58 yX6_baseOf wsX6_baseOf) := goodIn_app (goodIn_of _ (by decide +kernel)) ggX6_root_X6_baseOf
set_option maxRecDepth 20000 in
theorem ggX6_root_X6_become : GoodIn wsX6_root wsX6_become := goodIn_ca (goodIn_r _ [35, 1, 36, 37, 38, 5, 39, 28, 29, 30, 31, 40, 41, 42, 43, 44] (by decide +kernel) (by decide +kernel)) (goodIn_sub (fun _ h => List.mem_cons_of_mem _ (List.mem_append_left _ (List.mem_append_right _ h))) (by decide +kernel))
set_option maxRecDepth 20000 in
theorem gX6_root_X6_become : GoodIn wsX6_root (wsV RX6 82 RX6 yX6_become wsX6_become) := goodIn_app (goodIn_of _ (by decide +kernel)) ggX6_root_X6_become
theorem dX6_root_0 : decode cX6_root 0 = .ok (.aload_n 0, 1) := by decide +kernel
theorem dX6_root_1 : decode cX6_root 1 = .ok (.iload_n 1, 1) := by decide +kernel
theorem dX6_root_2 : decode cX6_root 2 = .ok (.iload_n 2, 1) := by decide +kernel
theorem dX6_root_3 : decode cX6_root 3 = .ok (.invokevirtual 86, 3) := by decide +kernel
theorem dX6_root_6 : decode cX6_root 6 = .ok (.ifCond .ne 25, 3) := by decide +kernel
theorem dX6_root_9 : decode cX6_root 9 = .ok (.aload_n 0, 1) := by decide +kernel
theorem dX6_root_10 : decode cX6_root 10 = .ok (.aload_n 0, 1) := by decide +kernel
theorem dX6_root_11 : decode cX6_root 11 = .ok (.getfield 13, 3) := by decide +kernel
theorem dX6_root_14 : decode cX6_root 14 = .ok (.iload_n 2, 1) := by decide +kernel
theorem dX6_root_15 : decode cX6_root 15 = .ok (.iaload, 1) := by decide +kernel
theorem dX6_root_16 : decode cX6_root 16 = .ok (.ifCond .ne 7, 3) := by decide +kernel
theorem dX6_root_19 : decode cX6_root 19 = .ok (.iconst 1, 1) := by decide +kernel
theorem dX6_root_20 : decode cX6_root 20 = .ok (.goto 4, 3) := by decide +kernel
theorem dX6_root_23 : decode cX6_root 23 = .ok (.iconst 0, 1) := by decide +kernel
theorem dX6_root_24 : decode cX6_root 24 = .ok (.iconst 2, 1) := by decide +kernel
theorem dX6_root_25 : decode cX6_root 25 = .ok (.invokevirtual 34, 3) := by decide +kernel
theorem dX6_root_28 : decode cX6_root 28 = .ok (.ifCond .eq 5, 3) := by decide +kernel
theorem dX6_root_31 : decode cX6_root 31 = .ok (.iconst 0, 1) := by decide +kernel
theorem dX6_root_32 : decode cX6_root 32 = .ok (.ireturn, 1) := by decide +kernel
theorem dX6_root_33 : decode cX6_root 33 = .ok (.aload_n 0, 1) := by decide +kernel
theorem dX6_root_34 : decode cX6_root 34 = .ok (.iload_n 2, 1) := by decide +kernel
theorem dX6_root_35 : decode cX6_root 35 = .ok (.invokevirtual 120, 3) := by decide +kernel
theorem dX6_root_38 : decode cX6_root 38 = .ok (.istore_n 3, 1) := by decide +kernel
theorem dX6_root_39 : decode cX6_root 39 = .ok (.aload_n 0, 1) := by decide +kernel
theorem dX6_root_40 : decode cX6_root 40 = .ok (.getfield 13, 3) := by decide +kernel
theorem dX6_root_43 : decode cX6_root 43 = .ok (.iload_n 2, 1) := by decide +kernel
theorem dX6_root_44 : decode cX6_root 44 = .ok (.iaload, 1) := by decide +kernel
theorem dX6_root_45 : decode cX6_root 45 = .ok (.iload_n 3, 1) := by decide +kernel
theorem dX6_root_46 : decode cX6_root 46 = .ok (.idiv, 1) := by decide +kernel
theorem dX6_root_47 : decode cX6_root 47 = .ok (.istore 4, 2) := by decide +kernel
theorem dX6_root_49 : decode cX6_root 49 = .ok (.aload_n 0, 1) := by decide +kernel
theorem dX6_root_50 : decode cX6_root 50 = .ok (.iload_n 1, 1) := by decide +kernel
theorem dX6_root_51 : decode cX6_root 51 = .ok (.iload_n 2, 1) := by decide +kernel
theorem dX6_root_52 : decode cX6_root 52 = .ok (.invokestatic 58, 3) := by decide +kernel
theorem dX6_root_55 : decode cX6_root 55 = .ok (.iload_n 3, 1) := by decide +kernel
theorem dX6_root_56 : decode cX6_root 56 = .ok (.invokevirtual 82, 3) := by decide +kernel
theorem dX6_root_59 : decode cX6_root 59 = .ok (.istore 5, 2) := by decide +kernel
theorem dX6_root_61 : decode cX6_root 61 = .ok (.iload 4, 2) := by decide +kernel
theorem dX6_root_63 : decode cX6_root 63 = .ok (.iload 5, 2) := by decide +kernel
theorem dX6_root_65 : decode cX6_root 65 = .ok (.imul, 1) := by decide +kernel
theorem dX6_root_66 : decode cX6_root 66 = .ok (.iload_n 3, 1) := by decide +kernel
theorem dX6_root_67 : decode cX6_root 67 = .ok (.idiv, 1) := by decide +kernel
theorem dX6_root_68 : decode cX6_root 68 = .ok (.ireturn, 1) := by decide +kernel
set_option maxRecDepth 20000 in
theorem ggX6_turnTo_X6_isNoOf : GoodIn wsX6_turnTo wsX6_isNoOf := goodIn_r _ [6, 7, 8, 9, 5, 10, 11, 12, 13, 14, 15, 16, 17, 18, 19, 40, 41, 42, 43, 44] (by decide +kernel) (by decide +kernel)
set_option maxRecDepth 20000 in
theorem gX6_turnTo_X6_isNoOf : GoodIn wsX6_turnTo (wsV RX6 86 RX6 yX6_isNoOf wsX6_isNoOf) := goodIn_app (goodIn_of _ (by decide +kernel)) ggX6_turnTo_X6_isNoOf
set_option maxRecDepth 20000 in
theorem ggX6_turnTo_X6_turns : GoodIn wsX6_turnTo wsX6_turns := goodIn_ca (goodIn_r _ [23, 1, 24, 25, 5, 26, 27, 28, 29, 30, 31, 40, 41, 42, 43, 44] (by decide +kernel) (by decide +kernel)) (goodIn_sub (fun _ h => List.mem_cons_of_mem _ (List.mem_append_right _ h)) (by decide +kernel))
set_option maxRecDepth 20000 in
theorem gX6_turnTo_X6_turns : GoodIn wsX6_turnTo (wsV RX6 91 RX6 yX6_turns wsX6_turns) := goodIn_app (goodIn_of _ (by decide +kernel)) ggX6_turnTo_X6_turns
set_option maxRecDepth 20000 in
theorem ggX6_turnTo_X6_baseOf : GoodIn wsX6_turnTo wsX6_baseOf := goodIn_r _ [26] (by decide +kernel) (by decide +kernel)
set_option maxRecDepth 20000 in
theorem gX6_turnTo_X6_baseOf : GoodIn wsX6_turnTo (va_wsS RX6 58 yX6_baseOf wsX6_baseOf) := goodIn_app (goodIn_of _ (by decide +kernel)) ggX6_turnTo_X6_baseOf
set_option maxRecDepth 20000 in
theorem ggX6_turnTo_X6_areSame : GoodIn wsX6_turnTo wsX6_areSame := goodIn_ca (goodIn_r _ [35, 36, 37, 38, 5, 39, 31, 40, 41, 42, 43, 44] (by decide +kernel) (by decide +kernel)) (goodIn_sub (fun _ h => List.mem_cons_of_mem _ (List.mem_append_right _ h)) (by decide +kernel))
set_option maxRecDepth 20000 in
theorem gX6_turnTo_X6_areSame : GoodIn wsX6_turnTo (wsV RX6 101 RX6 yX6_areSame wsX6_areSame) := goodIn_app (goodIn_of _ (by decide +kernel)) ggX6_turnTo_X6_areSame
theorem dX6_turnTo_0 : decode cX6_turnTo 0 = .ok (.aload_n 0, 1) := by decide +kernel
theorem dX6_turnTo_1 : decode cX6_turnTo 1 = .ok (.iload_n 1, 1) := by decide +kernel
theorem dX6_turnTo_2 : decode cX6_turnTo 2 = .ok (.iload_n 2, 1) := by decide +kernel
theorem dX6_turnTo_3 : decode cX6_turnTo 3 = .ok (.invokevirtual 86, 3) := by decide +kernel
theorem dX6_turnTo_6 : decode cX6_turnTo 6 = .ok (.ifCond .eq 5, 3) := by decide +kernel
theorem dX6_turnTo_9 : decode cX6_turnTo 9 = .ok (.iconst 0, 1) := by decide +kernel
theorem dX6_turnTo_10 : decode cX6_turnTo 10 = .ok (.ireturn, 1) := by decide +kernel
theorem dX6_turnTo_11 : decode cX6_turnTo 11 = .ok (.iconst 0, 1) := by decide +kernel
theorem dX6_turnTo_12 : decode cX6_turnTo 12 = .ok (.istore_n 3, 1) := by decide +kernel
theorem dX6_turnTo_13 : decode cX6_turnTo 13 = .ok (.iload_n 3, 1) := by decide +kernel
theorem dX6_turnTo_14 : decode cX6_turnTo 14 = .ok (.aload_n 0, 1) := by decide +kernel
theorem dX6_turnTo_15 : decode cX6_turnTo 15 = .ok (.getfield 13, 3) := by decide +kernel
theorem dX6_turnTo_18 : decode cX6_turnTo 18 = .ok (.iload_n 1, 1) := by decide +kernel
theorem dX6_turnTo_19 : decode cX6_turnTo 19 = .ok (.iaload, 1) := by decide +kernel
theorem dX6_turnTo_20 : decode cX6_turnTo 20 = .ok (.if_icmp .gt 46, 3) := by decide +kernel
theorem dX6_turnTo_23 : decode cX6_turnTo 23 = .ok (.aload_n 0, 1) := by decide +kernel
theorem dX6_turnTo_24 : decode cX6_turnTo 24 = .ok (.iload_n 1, 1) := by decide +kernel
theorem dX6_turnTo_25 : decode cX6_turnTo 25 = .ok (.iload_n 3, 1) := by decide +kernel
theorem dX6_turnTo_26 : decode cX6_turnTo 26 = .ok (.sipush 360, 3) := by decide +kernel
theorem dX6_turnTo_29 : decode cX6_turnTo 29 = .ok (.invokevirtual 91, 3) := by decide +kernel
theorem dX6_turnTo_32 : decode cX6_turnTo 32 = .ok (.aload_n 0, 1) := by decide +kernel
theorem dX6_turnTo_33 : decode cX6_turnTo 33 = .ok (.sipush 360, 3) := by decide +kernel
theorem dX6_turnTo_36 : decode cX6_turnTo 36 = .ok (.aload_n 0, 1) := by decide +kernel
theorem dX6_turnTo_37 : decode cX6_turnTo 37 = .ok (.getfield 13, 3) := by decide +kernel
theorem dX6_turnTo_40 : decode cX6_turnTo 40 = .ok (.iload_n 1, 1) := by decide +kernel
theorem dX6_turnTo_41 : decode cX6_turnTo 41 = .ok (.iaload, 1) := by decide +kernel
theorem dX6_turnTo_42 : decode cX6_turnTo 42 = .ok (.iload_n 2, 1) := by decide +kernel
theorem dX6_turnTo_43 : decode cX6_turnTo 43 = .ok (.invokestatic 58, 3) := by decide +kernel
theorem dX6_turnTo_46 : decode cX6_turnTo 46 = .ok (.aload_n 0, 1) := by decide +kernel
theorem dX6_turnTo_47 : decode cX6_turnTo 47 = .ok (.getfield 13, 3) := by decide +kernel
theorem dX6_turnTo_50 : decode cX6_turnTo 50 = .ok (.iload_n 2, 1) := by decide +kernel
theorem dX6_turnTo_51 : decode cX6_turnTo 51 = .ok (.iaload, 1) := by decide +kernel
theorem dX6_turnTo_52 : decode cX6_turnTo 52 = .ok (.invokevirtual 101, 3) := by decide +kernel
theorem dX6_turnTo_55 : decode cX6_turnTo 55 = .ok (.ifCond .eq 5, 3) := by decide +kernel
theorem dX6_turnTo_58 : decode cX6_turnTo 58 = .ok (.iload_n 3, 1) := by decide +kernel
theorem dX6_turnTo_59 : decode cX6_turnTo 59 = .ok (.ireturn, 1) := by decide +kernel
theorem dX6_turnTo_60 : decode cX6_turnTo 60 = .ok (.iinc 3 1, 3) := by decide +kernel
theorem dX6_turnTo_63 : decode cX6_turnTo 63 = .ok (.goto (-50), 3) := by decide +kernel
theorem dX6_turnTo_66 : decode cX6_turnTo 66 = .ok (.iconst (-1), 1) := by decide +kernel
theorem dX6_turnTo_67 : decode cX6_turnTo 67 = .ok (.ireturn, 1) := by decide +kernel
set_option maxRecDepth 20000 in
theorem ggX6_turnings_X6_isNo : GoodIn wsX6_turnings wsX6_isNo := goodIn_r _ [6, 7, 8, 9, 5, 10, 11, 12, 13, 14, 15, 36, 37, 38, 39, 40] (by decide +kernel) (by decide +kernel)
set_option maxRecDepth 20000 in
theorem gX6_turnings_X6_isNo : GoodIn wsX6_turnings (wsV RX6 38 RX6 yX6_isNo wsX6_isNo) := goodIn_app (goodIn_of _ (by decide +kernel)) ggX6_turnings_X6_isNo
set_option maxRecDepth 20000 in
theorem ggX6_turnings_X6_turns : GoodIn wsX6_turnings wsX6_turns := goodIn_ca (goodIn_r _ [19, 1, 20, 21, 5, 22, 23, 24, 25, 26, 27, 36, 37, 38, 39, 40] (by decide +kernel) (by decide +kernel)) (goodIn_sub (fun _ h => List.mem_cons_of_mem _ (List.mem_append_right _ h)) (by decide +kernel))
set_option maxRecDepth 20000 in
theorem gX6_turnings_X6_turns : GoodIn wsX6_turnings (wsV RX6 91 RX6 yX6_turns wsX6_turns) := goodIn_app (goodIn_of _ (by decide +kernel)) ggX6_turnings_X6_turns
set_option maxRecDepth 20000 in
theorem ggX6_turnings_X6_areSame : GoodIn wsX6_turnings wsX6_areSame := goodIn_ca (goodIn_r _ [31, 32, 33, 34, 5, 35, 27, 36, 37, 38, 39, 40] (by decide +kernel) (by decide +kernel)) (goodIn_sub (fun _ h => List.mem_cons_of_mem _ (List.mem_append_right _ h)) (by decide +kernel))
set_option maxRecDepth 20000 in
theorem gX6_turnings_X6_areSame : GoodIn wsX6_turnings (wsV RX6 101 RX6 yX6_areSame wsX6_areSame) := goodIn_app (goodIn_of _ (by decide +kernel)) ggX6_turnings_X6_areSame
theorem dX6_turnings_0 : decode cX6_turnings 0 = .ok (.aload_n 0, 1) := by decide +kernel
theorem dX6_turnings_1 : decode cX6_turnings 1 = .ok (.iload_n 1, 1) := by decide +kernel
theorem dX6_turnings_2 : decode cX6_turnings 2 = .ok (.invokevirtual 38, 3) := by decide +kernel
theorem dX6_turnings_5 : decode cX6_turnings 5 = .ok (.ifCond .eq 5, 3) := by decide +kernel
theorem dX6_turnings_8 : decode cX6_turnings 8 = .ok (.iconst 0, 1) := by decide +kernel
theorem dX6_turnings_9 : decode cX6_turnings 9 = .ok (.ireturn, 1) := by decide +kernel
theorem dX6_turnings_10 : decode cX6_turnings 10 = .ok (.iconst 0, 1) := by decide +kernel
theorem dX6_turnings_11 : decode cX6_turnings 11 = .ok (.istore_n 2, 1) := by decide +kernel
theorem dX6_turnings_12 : decode cX6_turnings 12 = .ok (.iconst 0, 1) := by decide +kernel
theorem dX6_turnings_13 : decode cX6_turnings 13 = .ok (.istore_n 3, 1) := by decide +kernel
theorem dX6_turnings_14 : decode cX6_turnings 14 = .ok (.iload_n 3, 1) := by decide +kernel
theorem dX6_turnings_15 : decode cX6_turnings 15 = .ok (.aload_n 0, 1) := by decide +kernel
theorem dX6_turnings_16 : decode cX6_turnings 16 = .ok (.getfield 13, 3) := by decide +kernel
theorem dX6_turnings_19 : decode cX6_turnings 19 = .ok (.iload_n 1, 1) := by decide +kernel
theorem dX6_turnings_20 : decode cX6_turnings 20 = .ok (.iaload, 1) := by decide +kernel
theorem dX6_turnings_21 : decode cX6_turnings 21 = .ok (.if_icmp .gt 96, 3) := by decide +kernel
theorem dX6_turnings_24 : decode cX6_turnings 24 = .ok (.iconst 1, 1) := by decide +kernel
theorem dX6_turnings_25 : decode cX6_turnings 25 = .ok (.istore 4, 2) := by decide +kernel
theorem dX6_turnings_27 : decode cX6_turnings 27 = .ok (.aload_n 0, 1) := by decide +kernel
theorem dX6_turnings_28 : decode cX6_turnings 28 = .ok (.iload_n 1, 1) := by decide +kernel
theorem dX6_turnings_29 : decode cX6_turnings 29 = .ok (.iload_n 3, 1) := by decide +kernel
theorem dX6_turnings_30 : decode cX6_turnings 30 = .ok (.sipush 360, 3) := by decide +kernel
theorem dX6_turnings_33 : decode cX6_turnings 33 = .ok (.invokevirtual 91, 3) := by decide +kernel
theorem dX6_turnings_36 : decode cX6_turnings 36 = .ok (.iconst 0, 1) := by decide +kernel
theorem dX6_turnings_37 : decode cX6_turnings 37 = .ok (.istore 5, 2) := by decide +kernel
theorem dX6_turnings_39 : decode cX6_turnings 39 = .ok (.iload 5, 2) := by decide +kernel
theorem dX6_turnings_41 : decode cX6_turnings 41 = .ok (.iload_n 3, 1) := by decide +kernel
theorem dX6_turnings_42 : decode cX6_turnings 42 = .ok (.if_icmp .ge 56, 3) := by decide +kernel
theorem dX6_turnings_45 : decode cX6_turnings 45 = .ok (.iload 4, 2) := by decide +kernel
theorem dX6_turnings_47 : decode cX6_turnings 47 = .ok (.ifCond .eq 51, 3) := by decide +kernel
theorem dX6_turnings_50 : decode cX6_turnings 50 = .ok (.aload_n 0, 1) := by decide +kernel
theorem dX6_turnings_51 : decode cX6_turnings 51 = .ok (.iload_n 1, 1) := by decide +kernel
theorem dX6_turnings_52 : decode cX6_turnings 52 = .ok (.iload 5, 2) := by decide +kernel
theorem dX6_turnings_54 : decode cX6_turnings 54 = .ok (.sipush 490, 3) := by decide +kernel
theorem dX6_turnings_57 : decode cX6_turnings 57 = .ok (.invokevirtual 91, 3) := by decide +kernel
theorem dX6_turnings_60 : decode cX6_turnings 60 = .ok (.aload_n 0, 1) := by decide +kernel
theorem dX6_turnings_61 : decode cX6_turnings 61 = .ok (.sipush 360, 3) := by decide +kernel
theorem dX6_turnings_64 : decode cX6_turnings 64 = .ok (.aload_n 0, 1) := by decide +kernel
theorem dX6_turnings_65 : decode cX6_turnings 65 = .ok (.getfield 13, 3) := by decide +kernel
theorem dX6_turnings_68 : decode cX6_turnings 68 = .ok (.iload_n 1, 1) := by decide +kernel
theorem dX6_turnings_69 : decode cX6_turnings 69 = .ok (.iaload, 1) := by decide +kernel
theorem dX6_turnings_70 : decode cX6_turnings 70 = .ok (.sipush 490, 3) := by decide +kernel
theorem dX6_turnings_73 : decode cX6_turnings 73 = .ok (.aload_n 0, 1) := by decide +kernel
theorem dX6_turnings_74 : decode cX6_turnings 74 = .ok (.getfield 13, 3) := by decide +kernel
theorem dX6_turnings_77 : decode cX6_turnings 77 = .ok (.iload_n 1, 1) := by decide +kernel
theorem dX6_turnings_78 : decode cX6_turnings 78 = .ok (.iaload, 1) := by decide +kernel
theorem dX6_turnings_79 : decode cX6_turnings 79 = .ok (.invokevirtual 101, 3) := by decide +kernel
theorem dX6_turnings_82 : decode cX6_turnings 82 = .ok (.ifCond .ne 7, 3) := by decide +kernel
theorem dX6_turnings_85 : decode cX6_turnings 85 = .ok (.iconst 1, 1) := by decide +kernel
theorem dX6_turnings_86 : decode cX6_turnings 86 = .ok (.goto 4, 3) := by decide +kernel
theorem dX6_turnings_89 : decode cX6_turnings 89 = .ok (.iconst 0, 1) := by decide +kernel
theorem dX6_turnings_90 : decode cX6_turnings 90 = .ok (.istore 4, 2) := by decide +kernel
theorem dX6_turnings_92 : decode cX6_turnings 92 = .ok (.iinc 5 1, 3) := by decide +kernel
theorem dX6_turnings_95 : decode cX6_turnings 95 = .ok (.goto (-56), 3) := by decide +kernel
theorem dX6_turnings_98 : decode cX6_turnings 98 = .ok (.iload_n 2, 1) := by decide +kernel
theorem dX6_turnings_99 : decode cX6_turnings 99 = .ok (.iload 4, 2) := by decide +kernel
theorem dX6_turnings_101 : decode cX6_turnings 101 = .ok (.ifCond .eq 7, 3) := by decide +kernel
theorem dX6_turnings_104 : decode cX6_turnings 104 = .ok (.iconst 1, 1) := by decide +kernel
theorem dX6_turnings_105 : decode cX6_turnings 105 = .ok (.goto 4, 3) := by decide +kernel
theorem dX6_turnings_108 : decode cX6_turnings 108 = .ok (.iconst 0, 1) := by decide +kernel
theorem dX6_turnings_109 : decode cX6_turnings 109 = .ok (.iadd, 1) := by decide +kernel
theorem dX6_turnings_110 : decode cX6_turnings 110 = .ok (.istore_n 2, 1) := by decide +kernel
theorem dX6_turnings_111 : decode cX6_turnings 111 = .ok (.iinc 3 1, 3) := by decide +kernel
theorem dX6_turnings_114 : decode cX6_turnings 114 = .ok (.goto (-100), 3) := by decide +kernel
theorem dX6_turnings_117 : decode cX6_turnings 117 = .ok (.iload_n 2, 1) := by decide +kernel
theorem dX6_turnings_118 : decode cX6_turnings 118 = .ok (.ireturn, 1) := by decide +kernel
set_option maxRecDepth 20000 in
theorem ggX6_leastTurn_X6_isNo : GoodIn wsX6_leastTurn wsX6_isNo := goodIn_r _ [6, 7, 8, 9, 5, 10, 11, 12, 13, 14, 15, 36, 37, 38, 39, 40] (by decide +kernel) (by decide +kernel)
set_option maxRecDepth 20000 in
theorem gX6_leastTurn_X6_isNo : GoodIn wsX6_leastTurn (wsV RX6 38 RX6 yX6_isNo wsX6_isNo) := goodIn_app (goodIn_of _ (by decide +kernel)) ggX6_leastTurn_X6_isNo
set_option maxRecDepth 20000 in
theorem ggX6_leastTurn_X6_turns : GoodIn wsX6_leastTurn wsX6_turns := goodIn_ca (goodIn_r _ [19, 1, 20, 21, 5, 22, 23, 24, 25, 26, 27, 36, 37, 38, 39, 40] (by decide +kernel) (by decide +kernel)) (goodIn_sub (fun _ h => List.mem_cons_of_mem _ (List.mem_append_right _ h)) (by decide +kernel))
set_option maxRecDepth 20000 in
theorem gX6_leastTurn_X6_turns : GoodIn wsX6_leastTurn (wsV RX6 91 RX6 yX6_turns wsX6_turns) := goodIn_app (goodIn_of _ (by decide +kernel)) ggX6_leastTurn_X6_turns
set_option maxRecDepth 20000 in
theorem ggX6_leastTurn_X6_order : GoodIn wsX6_leastTurn wsX6_order := goodIn_ca (goodIn_r _ [31, 27, 32, 33, 34, 5, 35, 36, 37, 38, 39, 40] (by decide +kernel) (by decide +kernel)) (goodIn_sub (fun _ h => List.mem_cons_of_mem _ (List.mem_append_right _ h)) (by decide +kernel))
set_option maxRecDepth 20000 in
theorem gX6_leastTurn_X6_order : GoodIn wsX6_leastTurn (wsV RX6 105 RX6 yX6_order wsX6_order) := goodIn_app (goodIn_of _ (by decide +kernel)) ggX6_leastTurn_X6_order
theorem dX6_leastTurn_0 : decode cX6_leastTurn 0 = .ok (.aload_n 0, 1) := by decide +kernel
theorem dX6_leastTurn_1 : decode cX6_leastTurn 1 = .ok (.iload_n 1, 1) := by decide +kernel
theorem dX6_leastTurn_2 : decode cX6_leastTurn 2 = .ok (.invokevirtual 38, 3) := by decide +kernel
theorem dX6_leastTurn_5 : decode cX6_leastTurn 5 = .ok (.ifCond .eq 5, 3) := by decide +kernel
theorem dX6_leastTurn_8 : decode cX6_leastTurn 8 = .ok (.iconst 0, 1) := by decide +kernel
theorem dX6_leastTurn_9 : decode cX6_leastTurn 9 = .ok (.ireturn, 1) := by decide +kernel
theorem dX6_leastTurn_10 : decode cX6_leastTurn 10 = .ok (.iconst 0, 1) := by decide +kernel
theorem dX6_leastTurn_11 : decode cX6_leastTurn 11 = .ok (.istore_n 2, 1) := by decide +kernel
theorem dX6_leastTurn_12 : decode cX6_leastTurn 12 = .ok (.iconst 1, 1) := by decide +kernel
theorem dX6_leastTurn_13 : decode cX6_leastTurn 13 = .ok (.istore_n 3, 1) := by decide +kernel
theorem dX6_leastTurn_14 : decode cX6_leastTurn 14 = .ok (.iload_n 3, 1) := by decide +kernel
theorem dX6_leastTurn_15 : decode cX6_leastTurn 15 = .ok (.aload_n 0, 1) := by decide +kernel
theorem dX6_leastTurn_16 : decode cX6_leastTurn 16 = .ok (.getfield 13, 3) := by decide +kernel
theorem dX6_leastTurn_19 : decode cX6_leastTurn 19 = .ok (.iload_n 1, 1) := by decide +kernel
theorem dX6_leastTurn_20 : decode cX6_leastTurn 20 = .ok (.iaload, 1) := by decide +kernel
theorem dX6_leastTurn_21 : decode cX6_leastTurn 21 = .ok (.if_icmp .ge 58, 3) := by decide +kernel
theorem dX6_leastTurn_24 : decode cX6_leastTurn 24 = .ok (.aload_n 0, 1) := by decide +kernel
theorem dX6_leastTurn_25 : decode cX6_leastTurn 25 = .ok (.iload_n 1, 1) := by decide +kernel
theorem dX6_leastTurn_26 : decode cX6_leastTurn 26 = .ok (.iload_n 3, 1) := by decide +kernel
theorem dX6_leastTurn_27 : decode cX6_leastTurn 27 = .ok (.sipush 360, 3) := by decide +kernel
theorem dX6_leastTurn_30 : decode cX6_leastTurn 30 = .ok (.invokevirtual 91, 3) := by decide +kernel
theorem dX6_leastTurn_33 : decode cX6_leastTurn 33 = .ok (.aload_n 0, 1) := by decide +kernel
theorem dX6_leastTurn_34 : decode cX6_leastTurn 34 = .ok (.iload_n 1, 1) := by decide +kernel
theorem dX6_leastTurn_35 : decode cX6_leastTurn 35 = .ok (.iload_n 2, 1) := by decide +kernel
theorem dX6_leastTurn_36 : decode cX6_leastTurn 36 = .ok (.sipush 490, 3) := by decide +kernel
theorem dX6_leastTurn_39 : decode cX6_leastTurn 39 = .ok (.invokevirtual 91, 3) := by decide +kernel
theorem dX6_leastTurn_42 : decode cX6_leastTurn 42 = .ok (.aload_n 0, 1) := by decide +kernel
theorem dX6_leastTurn_43 : decode cX6_leastTurn 43 = .ok (.sipush 360, 3) := by decide +kernel
theorem dX6_leastTurn_46 : decode cX6_leastTurn 46 = .ok (.aload_n 0, 1) := by decide +kernel
theorem dX6_leastTurn_47 : decode cX6_leastTurn 47 = .ok (.getfield 13, 3) := by decide +kernel
theorem dX6_leastTurn_50 : decode cX6_leastTurn 50 = .ok (.iload_n 1, 1) := by decide +kernel
theorem dX6_leastTurn_51 : decode cX6_leastTurn 51 = .ok (.iaload, 1) := by decide +kernel
theorem dX6_leastTurn_52 : decode cX6_leastTurn 52 = .ok (.sipush 490, 3) := by decide +kernel
theorem dX6_leastTurn_55 : decode cX6_leastTurn 55 = .ok (.aload_n 0, 1) := by decide +kernel
theorem dX6_leastTurn_56 : decode cX6_leastTurn 56 = .ok (.getfield 13, 3) := by decide +kernel
theorem dX6_leastTurn_59 : decode cX6_leastTurn 59 = .ok (.iload_n 1, 1) := by decide +kernel
theorem dX6_leastTurn_60 : decode cX6_leastTurn 60 = .ok (.iaload, 1) := by decide +kernel
theorem dX6_leastTurn_61 : decode cX6_leastTurn 61 = .ok (.invokevirtual 105, 3) := by decide +kernel
theorem dX6_leastTurn_64 : decode cX6_leastTurn 64 = .ok (.ifCond .ge 7, 3) := by decide +kernel
theorem dX6_leastTurn_67 : decode cX6_leastTurn 67 = .ok (.iload_n 3, 1) := by decide +kernel
theorem dX6_leastTurn_68 : decode cX6_leastTurn 68 = .ok (.goto 4, 3) := by decide +kernel
theorem dX6_leastTurn_71 : decode cX6_leastTurn 71 = .ok (.iload_n 2, 1) := by decide +kernel
theorem dX6_leastTurn_72 : decode cX6_leastTurn 72 = .ok (.istore_n 2, 1) := by decide +kernel
theorem dX6_leastTurn_73 : decode cX6_leastTurn 73 = .ok (.iinc 3 1, 3) := by decide +kernel
theorem dX6_leastTurn_76 : decode cX6_leastTurn 76 = .ok (.goto (-62), 3) := by decide +kernel
theorem dX6_leastTurn_79 : decode cX6_leastTurn 79 = .ok (.iload_n 2, 1) := by decide +kernel
theorem dX6_leastTurn_80 : decode cX6_leastTurn 80 = .ok (.ireturn, 1) := by decide +kernel
set_option maxRecDepth 20000 in
theorem ggX6_isLeastEnd_X6_order : GoodIn wsX6_isLeastEnd wsX6_order := goodIn_ca (goodIn_r _ [5, 6, 7, 8, 9, 4, 10, 11, 12, 13, 14, 15] (by decide +kernel) (by decide +kernel)) (goodIn_sub (fun _ h => List.mem_cons_of_mem _ (List.mem_append_right _ h)) (by decide +kernel))
set_option maxRecDepth 20000 in
theorem gX6_isLeastEnd_X6_order : GoodIn wsX6_isLeastEnd (wsV RX6 105 RX6 yX6_order wsX6_order) := goodIn_app (goodIn_of _ (by decide +kernel)) ggX6_isLeastEnd_X6_order
theorem dX6_isLeastEnd_0 : decode cX6_isLeastEnd 0 = .ok (.iconst 1, 1) := by decide +kernel
theorem dX6_isLeastEnd_1 : decode cX6_isLeastEnd 1 = .ok (.istore_n 3, 1) := by decide +kernel
theorem dX6_isLeastEnd_2 : decode cX6_isLeastEnd 2 = .ok (.iconst 1, 1) := by decide +kernel
theorem dX6_isLeastEnd_3 : decode cX6_isLeastEnd 3 = .ok (.istore 4, 2) := by decide +kernel
theorem dX6_isLeastEnd_5 : decode cX6_isLeastEnd 5 = .ok (.iload 4, 2) := by decide +kernel
theorem dX6_isLeastEnd_7 : decode cX6_isLeastEnd 7 = .ok (.iload_n 2, 1) := by decide +kernel
theorem dX6_isLeastEnd_8 : decode cX6_isLeastEnd 8 = .ok (.if_icmp .ge 36, 3) := by decide +kernel
theorem dX6_isLeastEnd_11 : decode cX6_isLeastEnd 11 = .ok (.iload_n 3, 1) := by decide +kernel
theorem dX6_isLeastEnd_12 : decode cX6_isLeastEnd 12 = .ok (.ifCond .eq 32, 3) := by decide +kernel
theorem dX6_isLeastEnd_15 : decode cX6_isLeastEnd 15 = .ok (.aload_n 0, 1) := by decide +kernel
theorem dX6_isLeastEnd_16 : decode cX6_isLeastEnd 16 = .ok (.iload_n 1, 1) := by decide +kernel
theorem dX6_isLeastEnd_17 : decode cX6_isLeastEnd 17 = .ok (.iload_n 2, 1) := by decide +kernel
theorem dX6_isLeastEnd_18 : decode cX6_isLeastEnd 18 = .ok (.iload_n 1, 1) := by decide +kernel
theorem dX6_isLeastEnd_19 : decode cX6_isLeastEnd 19 = .ok (.iload 4, 2) := by decide +kernel
theorem dX6_isLeastEnd_21 : decode cX6_isLeastEnd 21 = .ok (.iadd, 1) := by decide +kernel
theorem dX6_isLeastEnd_22 : decode cX6_isLeastEnd 22 = .ok (.iload_n 2, 1) := by decide +kernel
theorem dX6_isLeastEnd_23 : decode cX6_isLeastEnd 23 = .ok (.iload 4, 2) := by decide +kernel
theorem dX6_isLeastEnd_25 : decode cX6_isLeastEnd 25 = .ok (.isub, 1) := by decide +kernel
theorem dX6_isLeastEnd_26 : decode cX6_isLeastEnd 26 = .ok (.invokevirtual 105, 3) := by decide +kernel
theorem dX6_isLeastEnd_29 : decode cX6_isLeastEnd 29 = .ok (.ifCond .ge 7, 3) := by decide +kernel
theorem dX6_isLeastEnd_32 : decode cX6_isLeastEnd 32 = .ok (.iconst 1, 1) := by decide +kernel
theorem dX6_isLeastEnd_33 : decode cX6_isLeastEnd 33 = .ok (.goto 4, 3) := by decide +kernel
theorem dX6_isLeastEnd_36 : decode cX6_isLeastEnd 36 = .ok (.iconst 0, 1) := by decide +kernel
theorem dX6_isLeastEnd_37 : decode cX6_isLeastEnd 37 = .ok (.istore_n 3, 1) := by decide +kernel
theorem dX6_isLeastEnd_38 : decode cX6_isLeastEnd 38 = .ok (.iinc 4 1, 3) := by decide +kernel
theorem dX6_isLeastEnd_41 : decode cX6_isLeastEnd 41 = .ok (.goto (-36), 3) := by decide +kernel
theorem dX6_isLeastEnd_44 : decode cX6_isLeastEnd 44 = .ok (.iload_n 3, 1) := by decide +kernel
theorem dX6_isLeastEnd_45 : decode cX6_isLeastEnd 45 = .ok (.ireturn, 1) := by decide +kernel
set_option maxRecDepth 20000 in
theorem ggX6_factorOf_X6_baseOf : GoodIn wsX6_factorOf wsX6_baseOf := goodIn_r _ [5] (by decide +kernel) (by decide +kernel)
set_option maxRecDepth 20000 in
theorem gX6_factorOf_X6_baseOf : GoodIn wsX6_factorOf (va_wsS RX6 58 yX6_baseOf wsX6_baseOf) := goodIn_app (goodIn_of _ (by decide +kernel)) ggX6_factorOf_X6_baseOf
set_option maxRecDepth 20000 in
theorem ggX6_factorOf_X6_isLeastEnd : GoodIn wsX6_factorOf wsX6_isLeastEnd := goodIn_ca (goodIn_r _ [9, 10, 11, 12, 4, 13, 14, 15, 16, 17, 18, 19, 20, 21, 22, 23] (by decide +kernel) (by decide +kernel)) (goodIn_sub (fun _ h => List.mem_cons_of_mem _ (List.mem_append_right _ h)) (by decide +kernel))
set_option maxRecDepth 20000 in
theorem gX6_factorOf_X6_isLeastEnd : GoodIn wsX6_factorOf (wsV RX6 123 RX6 yX6_isLeastEnd wsX6_isLeastEnd) := goodIn_app (goodIn_of _ (by decide +kernel)) ggX6_factorOf_X6_isLeastEnd
theorem dX6_factorOf_0 : decode cX6_factorOf 0 = .ok (.aload_n 0, 1) := by decide +kernel
theorem dX6_factorOf_1 : decode cX6_factorOf 1 = .ok (.getfield 13, 3) := by decide +kernel
theorem dX6_factorOf_4 : decode cX6_factorOf 4 = .ok (.iload_n 1, 1) := by decide +kernel
theorem dX6_factorOf_5 : decode cX6_factorOf 5 = .ok (.iaload, 1) := by decide +kernel
theorem dX6_factorOf_6 : decode cX6_factorOf 6 = .ok (.iload_n 2, 1) := by decide +kernel
theorem dX6_factorOf_7 : decode cX6_factorOf 7 = .ok (.isub, 1) := by decide +kernel
theorem dX6_factorOf_8 : decode cX6_factorOf 8 = .ok (.istore_n 3, 1) := by decide +kernel
theorem dX6_factorOf_9 : decode cX6_factorOf 9 = .ok (.aload_n 0, 1) := by decide +kernel
theorem dX6_factorOf_10 : decode cX6_factorOf 10 = .ok (.iload_n 1, 1) := by decide +kernel
theorem dX6_factorOf_11 : decode cX6_factorOf 11 = .ok (.invokestatic 58, 3) := by decide +kernel
theorem dX6_factorOf_14 : decode cX6_factorOf 14 = .ok (.iload_n 2, 1) := by decide +kernel
theorem dX6_factorOf_15 : decode cX6_factorOf 15 = .ok (.iadd, 1) := by decide +kernel
theorem dX6_factorOf_16 : decode cX6_factorOf 16 = .ok (.iload_n 3, 1) := by decide +kernel
theorem dX6_factorOf_17 : decode cX6_factorOf 17 = .ok (.invokevirtual 123, 3) := by decide +kernel
theorem dX6_factorOf_20 : decode cX6_factorOf 20 = .ok (.ifCond .ne 9, 3) := by decide +kernel
theorem dX6_factorOf_23 : decode cX6_factorOf 23 = .ok (.iinc 3 (-1), 3) := by decide +kernel
theorem dX6_factorOf_26 : decode cX6_factorOf 26 = .ok (.goto (-17), 3) := by decide +kernel
theorem dX6_factorOf_29 : decode cX6_factorOf 29 = .ok (.iload_n 3, 1) := by decide +kernel
theorem dX6_factorOf_30 : decode cX6_factorOf 30 = .ok (.ireturn, 1) := by decide +kernel
set_option maxRecDepth 20000 in
theorem ggX6_factorsOf_X6_factorOf : GoodIn wsX6_factorsOf wsX6_factorOf := goodIn_ca (goodIn_r _ [6, 1, 7, 8, 5, 9, 10, 11, 12, 13, 14, 15, 16, 17, 18, 19, 20, 21, 22, 23, 24, 25, 26, 27] (by decide +kernel) (by decide +kernel)) (goodIn_sub (fun _ h => List.mem_cons_of_mem _ (List.mem_append_right _ h)) (by decide +kernel))
set_option maxRecDepth 20000 in
theorem gX6_factorsOf_X6_factorOf : GoodIn wsX6_factorsOf (wsV RX6 126 RX6 yX6_factorOf wsX6_factorOf) := goodIn_app (goodIn_of _ (by decide +kernel)) ggX6_factorsOf_X6_factorOf
theorem dX6_factorsOf_0 : decode cX6_factorsOf 0 = .ok (.iconst 0, 1) := by decide +kernel
theorem dX6_factorsOf_1 : decode cX6_factorsOf 1 = .ok (.istore_n 2, 1) := by decide +kernel
theorem dX6_factorsOf_2 : decode cX6_factorsOf 2 = .ok (.iconst 0, 1) := by decide +kernel
theorem dX6_factorsOf_3 : decode cX6_factorsOf 3 = .ok (.istore_n 3, 1) := by decide +kernel
theorem dX6_factorsOf_4 : decode cX6_factorsOf 4 = .ok (.iload_n 3, 1) := by decide +kernel
theorem dX6_factorsOf_5 : decode cX6_factorsOf 5 = .ok (.aload_n 0, 1) := by decide +kernel
theorem dX6_factorsOf_6 : decode cX6_factorsOf 6 = .ok (.getfield 13, 3) := by decide +kernel
theorem dX6_factorsOf_9 : decode cX6_factorsOf 9 = .ok (.iload_n 1, 1) := by decide +kernel
theorem dX6_factorsOf_10 : decode cX6_factorsOf 10 = .ok (.iaload, 1) := by decide +kernel
theorem dX6_factorsOf_11 : decode cX6_factorsOf 11 = .ok (.if_icmp .ge 18, 3) := by decide +kernel
theorem dX6_factorsOf_14 : decode cX6_factorsOf 14 = .ok (.iinc 2 1, 3) := by decide +kernel
theorem dX6_factorsOf_17 : decode cX6_factorsOf 17 = .ok (.iload_n 3, 1) := by decide +kernel
theorem dX6_factorsOf_18 : decode cX6_factorsOf 18 = .ok (.aload_n 0, 1) := by decide +kernel
theorem dX6_factorsOf_19 : decode cX6_factorsOf 19 = .ok (.iload_n 1, 1) := by decide +kernel
theorem dX6_factorsOf_20 : decode cX6_factorsOf 20 = .ok (.iload_n 3, 1) := by decide +kernel
theorem dX6_factorsOf_21 : decode cX6_factorsOf 21 = .ok (.invokevirtual 126, 3) := by decide +kernel
theorem dX6_factorsOf_24 : decode cX6_factorsOf 24 = .ok (.iadd, 1) := by decide +kernel
theorem dX6_factorsOf_25 : decode cX6_factorsOf 25 = .ok (.istore_n 3, 1) := by decide +kernel
theorem dX6_factorsOf_26 : decode cX6_factorsOf 26 = .ok (.goto (-22), 3) := by decide +kernel
theorem dX6_factorsOf_29 : decode cX6_factorsOf 29 = .ok (.iload_n 2, 1) := by decide +kernel
theorem dX6_factorsOf_30 : decode cX6_factorsOf 30 = .ok (.ireturn, 1) := by decide +kernel
set_option maxRecDepth 20000 in
theorem ggX6_factors_X6_isNo : GoodIn wsX6_factors wsX6_isNo := goodIn_r _ [5, 6, 7, 8, 4, 9, 10, 11, 12, 13, 14, 40, 41, 42, 43, 44] (by decide +kernel) (by decide +kernel)
set_option maxRecDepth 20000 in
theorem gX6_factors_X6_isNo : GoodIn wsX6_factors (wsV RX6 38 RX6 yX6_isNo wsX6_isNo) := goodIn_app (goodIn_of _ (by decide +kernel)) ggX6_factors_X6_isNo
set_option maxRecDepth 20000 in
theorem ggX6_factors_X6_factorsOf : GoodIn wsX6_factors wsX6_factorsOf := goodIn_ca (goodIn_r _ [18, 19, 20, 21, 22, 4, 23, 24, 25, 26, 27, 28, 29, 30, 31, 32, 33, 34, 35, 36, 37, 38, 39, 40, 41, 42, 43, 44] (by decide +kernel) (by decide +kernel)) (goodIn_sub (fun _ h => List.mem_cons_of_mem _ (List.mem_append_right _ h)) (by decide +kernel))
set_option maxRecDepth 20000 in
theorem gX6_factors_X6_factorsOf : GoodIn wsX6_factors (wsV RX6 129 RX6 yX6_factorsOf wsX6_factorsOf) := goodIn_app (goodIn_of _ (by decide +kernel)) ggX6_factors_X6_factorsOf
theorem dX6_factors_0 : decode cX6_factors 0 = .ok (.aload_n 0, 1) := by decide +kernel
theorem dX6_factors_1 : decode cX6_factors 1 = .ok (.iload_n 1, 1) := by decide +kernel
theorem dX6_factors_2 : decode cX6_factors 2 = .ok (.invokevirtual 38, 3) := by decide +kernel
theorem dX6_factors_5 : decode cX6_factors 5 = .ok (.ifCond .eq 7, 3) := by decide +kernel
theorem dX6_factors_8 : decode cX6_factors 8 = .ok (.iconst 0, 1) := by decide +kernel
theorem dX6_factors_9 : decode cX6_factors 9 = .ok (.goto 8, 3) := by decide +kernel
theorem dX6_factors_12 : decode cX6_factors 12 = .ok (.aload_n 0, 1) := by decide +kernel
theorem dX6_factors_13 : decode cX6_factors 13 = .ok (.iload_n 1, 1) := by decide +kernel
theorem dX6_factors_14 : decode cX6_factors 14 = .ok (.invokevirtual 129, 3) := by decide +kernel
theorem dX6_factors_17 : decode cX6_factors 17 = .ok (.ireturn, 1) := by decide +kernel
set_option maxRecDepth 20000 in
theorem ggX6_factorAt_X6_isNo : GoodIn wsX6_factorAt wsX6_isNo := goodIn_r _ [5, 6, 7, 8, 4, 9, 10, 11, 12, 13, 14, 40, 41, 42, 43, 44] (by decide +kernel) (by decide +kernel)
set_option maxRecDepth 20000 in
theorem gX6_factorAt_X6_isNo : GoodIn wsX6_factorAt (wsV RX6 38 RX6 yX6_isNo wsX6_isNo) := goodIn_app (goodIn_of _ (by decide +kernel)) ggX6_factorAt_X6_isNo
set_option maxRecDepth 20000 in
theorem ggX6_factorAt_X6_factorsOf : GoodIn wsX6_factorAt wsX6_factorsOf := goodIn_ca (goodIn_r _ [18, 19, 20, 21, 22, 4, 23, 24, 25, 26, 27, 28, 29, 30, 31, 32, 33, 34, 35, 36, 37, 38, 39, 40, 41, 42, 43, 44] (by decide +kernel) (by decide +kernel)) (goodIn_sub (fun _ h => List.mem_cons_of_mem _ (List.mem_append_right _ h)) (by decide +kernel))
set_option maxRecDepth 20000 in
theorem gX6_factorAt_X6_factorsOf : GoodIn wsX6_factorAt (wsV RX6 129 RX6 yX6_factorsOf wsX6_factorsOf) := goodIn_app (goodIn_of _ (by decide +kernel)) ggX6_factorAt_X6_factorsOf
set_option maxRecDepth 20000 in
theorem ggX6_factorAt_X6_isIn : GoodIn wsX6_factorAt wsX6_isIn := goodIn_r _ [9] (by decide +kernel) (by decide +kernel)
set_option maxRecDepth 20000 in
theorem gX6_factorAt_X6_isIn : GoodIn wsX6_factorAt (va_wsS RX6 30 yX6_isIn wsX6_isIn) := goodIn_app (goodIn_of _ (by decide +kernel)) ggX6_factorAt_X6_isIn
set_option maxRecDepth 20000 in
theorem ggX6_factorAt_X6_isThrown : GoodIn wsX6_factorAt wsX6_isThrown := goodIn_r _ [13, 14, 40, 41, 42, 43, 44] (by decide +kernel) (by decide +kernel)
set_option maxRecDepth 20000 in
theorem gX6_factorAt_X6_isThrown : GoodIn wsX6_factorAt (wsV RX6 34 RX6 yX6_isThrown wsX6_isThrown) := goodIn_app (goodIn_of _ (by decide +kernel)) ggX6_factorAt_X6_isThrown
set_option maxRecDepth 20000 in
theorem ggX6_factorAt_X6_factorOf : GoodIn wsX6_factorAt wsX6_factorOf := goodIn_ca (goodIn_r _ [23, 19, 24, 25, 4, 26, 27, 28, 29, 30, 31, 32, 33, 34, 35, 36, 37, 38, 39, 40, 41, 42, 43, 44] (by decide +kernel) (by decide +kernel)) (goodIn_sub (fun _ h => List.mem_cons_of_mem _ (List.mem_append_right _ h)) (by decide +kernel))
set_option maxRecDepth 20000 in
theorem gX6_factorAt_X6_factorOf : GoodIn wsX6_factorAt (wsV RX6 126 RX6 yX6_factorOf wsX6_factorOf) := goodIn_app (goodIn_of _ (by decide +kernel)) ggX6_factorAt_X6_factorOf
theorem dX6_factorAt_0 : decode cX6_factorAt 0 = .ok (.aload_n 0, 1) := by decide +kernel
theorem dX6_factorAt_1 : decode cX6_factorAt 1 = .ok (.iload_n 1, 1) := by decide +kernel
theorem dX6_factorAt_2 : decode cX6_factorAt 2 = .ok (.invokevirtual 38, 3) := by decide +kernel
theorem dX6_factorAt_5 : decode cX6_factorAt 5 = .ok (.ifCond .ne 33, 3) := by decide +kernel
theorem dX6_factorAt_8 : decode cX6_factorAt 8 = .ok (.aload_n 0, 1) := by decide +kernel
theorem dX6_factorAt_9 : decode cX6_factorAt 9 = .ok (.iload_n 2, 1) := by decide +kernel
theorem dX6_factorAt_10 : decode cX6_factorAt 10 = .ok (.i2l, 1) := by decide +kernel
theorem dX6_factorAt_11 : decode cX6_factorAt 11 = .ok (.lconst 0, 1) := by decide +kernel
theorem dX6_factorAt_12 : decode cX6_factorAt 12 = .ok (.aload_n 0, 1) := by decide +kernel
theorem dX6_factorAt_13 : decode cX6_factorAt 13 = .ok (.iload_n 1, 1) := by decide +kernel
theorem dX6_factorAt_14 : decode cX6_factorAt 14 = .ok (.invokevirtual 129, 3) := by decide +kernel
theorem dX6_factorAt_17 : decode cX6_factorAt 17 = .ok (.iconst 1, 1) := by decide +kernel
theorem dX6_factorAt_18 : decode cX6_factorAt 18 = .ok (.isub, 1) := by decide +kernel
theorem dX6_factorAt_19 : decode cX6_factorAt 19 = .ok (.i2l, 1) := by decide +kernel
theorem dX6_factorAt_20 : decode cX6_factorAt 20 = .ok (.invokestatic 30, 3) := by decide +kernel
theorem dX6_factorAt_23 : decode cX6_factorAt 23 = .ok (.ifCond .ne 7, 3) := by decide +kernel
theorem dX6_factorAt_26 : decode cX6_factorAt 26 = .ok (.iconst 1, 1) := by decide +kernel
theorem dX6_factorAt_27 : decode cX6_factorAt 27 = .ok (.goto 4, 3) := by decide +kernel
theorem dX6_factorAt_30 : decode cX6_factorAt 30 = .ok (.iconst 0, 1) := by decide +kernel
theorem dX6_factorAt_31 : decode cX6_factorAt 31 = .ok (.iconst 2, 1) := by decide +kernel
theorem dX6_factorAt_32 : decode cX6_factorAt 32 = .ok (.invokevirtual 34, 3) := by decide +kernel
theorem dX6_factorAt_35 : decode cX6_factorAt 35 = .ok (.ifCond .eq 5, 3) := by decide +kernel
theorem dX6_factorAt_38 : decode cX6_factorAt 38 = .ok (.iconst 0, 1) := by decide +kernel
theorem dX6_factorAt_39 : decode cX6_factorAt 39 = .ok (.ireturn, 1) := by decide +kernel
theorem dX6_factorAt_40 : decode cX6_factorAt 40 = .ok (.iconst 0, 1) := by decide +kernel
theorem dX6_factorAt_41 : decode cX6_factorAt 41 = .ok (.istore_n 3, 1) := by decide +kernel
theorem dX6_factorAt_42 : decode cX6_factorAt 42 = .ok (.iconst 0, 1) := by decide +kernel
theorem dX6_factorAt_43 : decode cX6_factorAt 43 = .ok (.istore 4, 2) := by decide +kernel
theorem dX6_factorAt_45 : decode cX6_factorAt 45 = .ok (.iload 4, 2) := by decide +kernel
theorem dX6_factorAt_47 : decode cX6_factorAt 47 = .ok (.iload_n 2, 1) := by decide +kernel
theorem dX6_factorAt_48 : decode cX6_factorAt 48 = .ok (.if_icmp .ge 18, 3) := by decide +kernel
theorem dX6_factorAt_51 : decode cX6_factorAt 51 = .ok (.iload_n 3, 1) := by decide +kernel
theorem dX6_factorAt_52 : decode cX6_factorAt 52 = .ok (.aload_n 0, 1) := by decide +kernel
theorem dX6_factorAt_53 : decode cX6_factorAt 53 = .ok (.iload_n 1, 1) := by decide +kernel
theorem dX6_factorAt_54 : decode cX6_factorAt 54 = .ok (.iload_n 3, 1) := by decide +kernel
theorem dX6_factorAt_55 : decode cX6_factorAt 55 = .ok (.invokevirtual 126, 3) := by decide +kernel
theorem dX6_factorAt_58 : decode cX6_factorAt 58 = .ok (.iadd, 1) := by decide +kernel
theorem dX6_factorAt_59 : decode cX6_factorAt 59 = .ok (.istore_n 3, 1) := by decide +kernel
theorem dX6_factorAt_60 : decode cX6_factorAt 60 = .ok (.iinc 4 1, 3) := by decide +kernel
theorem dX6_factorAt_63 : decode cX6_factorAt 63 = .ok (.goto (-18), 3) := by decide +kernel
theorem dX6_factorAt_66 : decode cX6_factorAt 66 = .ok (.iload_n 3, 1) := by decide +kernel
theorem dX6_factorAt_67 : decode cX6_factorAt 67 = .ok (.ireturn, 1) := by decide +kernel
set_option maxRecDepth 20000 in
theorem ggX6_rank_X6_baseOf : GoodIn wsX6_rank wsX6_baseOf := goodIn_r _ [5] (by decide +kernel) (by decide +kernel)
set_option maxRecDepth 20000 in
theorem gX6_rank_X6_baseOf : GoodIn wsX6_rank (va_wsS RX6 58 yX6_baseOf wsX6_baseOf) := goodIn_app (goodIn_of _ (by decide +kernel)) ggX6_rank_X6_baseOf
set_option maxRecDepth 20000 in
theorem ggX6_rank_X6_order : GoodIn wsX6_rank wsX6_order := goodIn_ca (goodIn_r _ [9, 10, 11, 12, 13, 4, 14, 15, 16, 17, 18, 19] (by decide +kernel) (by decide +kernel)) (goodIn_sub (fun _ h => List.mem_cons_of_mem _ (List.mem_append_right _ h)) (by decide +kernel))
set_option maxRecDepth 20000 in
theorem gX6_rank_X6_order : GoodIn wsX6_rank (wsV RX6 105 RX6 yX6_order wsX6_order) := goodIn_app (goodIn_of _ (by decide +kernel)) ggX6_rank_X6_order
theorem dX6_rank_0 : decode cX6_rank 0 = .ok (.iconst 0, 1) := by decide +kernel
theorem dX6_rank_1 : decode cX6_rank 1 = .ok (.istore_n 3, 1) := by decide +kernel
theorem dX6_rank_2 : decode cX6_rank 2 = .ok (.iconst 0, 1) := by decide +kernel
theorem dX6_rank_3 : decode cX6_rank 3 = .ok (.istore 4, 2) := by decide +kernel
theorem dX6_rank_5 : decode cX6_rank 5 = .ok (.iload 4, 2) := by decide +kernel
theorem dX6_rank_7 : decode cX6_rank 7 = .ok (.aload_n 0, 1) := by decide +kernel
theorem dX6_rank_8 : decode cX6_rank 8 = .ok (.getfield 13, 3) := by decide +kernel
theorem dX6_rank_11 : decode cX6_rank 11 = .ok (.iload_n 1, 1) := by decide +kernel
theorem dX6_rank_12 : decode cX6_rank 12 = .ok (.iaload, 1) := by decide +kernel
theorem dX6_rank_13 : decode cX6_rank 13 = .ok (.if_icmp .ge 54, 3) := by decide +kernel
theorem dX6_rank_16 : decode cX6_rank 16 = .ok (.iload_n 3, 1) := by decide +kernel
theorem dX6_rank_17 : decode cX6_rank 17 = .ok (.aload_n 0, 1) := by decide +kernel
theorem dX6_rank_18 : decode cX6_rank 18 = .ok (.iload_n 1, 1) := by decide +kernel
theorem dX6_rank_19 : decode cX6_rank 19 = .ok (.invokestatic 58, 3) := by decide +kernel
theorem dX6_rank_22 : decode cX6_rank 22 = .ok (.iload 4, 2) := by decide +kernel
theorem dX6_rank_24 : decode cX6_rank 24 = .ok (.iadd, 1) := by decide +kernel
theorem dX6_rank_25 : decode cX6_rank 25 = .ok (.aload_n 0, 1) := by decide +kernel
theorem dX6_rank_26 : decode cX6_rank 26 = .ok (.getfield 13, 3) := by decide +kernel
theorem dX6_rank_29 : decode cX6_rank 29 = .ok (.iload_n 1, 1) := by decide +kernel
theorem dX6_rank_30 : decode cX6_rank 30 = .ok (.iaload, 1) := by decide +kernel
theorem dX6_rank_31 : decode cX6_rank 31 = .ok (.iload 4, 2) := by decide +kernel
theorem dX6_rank_33 : decode cX6_rank 33 = .ok (.isub, 1) := by decide +kernel
theorem dX6_rank_34 : decode cX6_rank 34 = .ok (.iload_n 1, 1) := by decide +kernel
theorem dX6_rank_35 : decode cX6_rank 35 = .ok (.invokestatic 58, 3) := by decide +kernel
theorem dX6_rank_38 : decode cX6_rank 38 = .ok (.iload_n 2, 1) := by decide +kernel
theorem dX6_rank_39 : decode cX6_rank 39 = .ok (.iadd, 1) := by decide +kernel
theorem dX6_rank_40 : decode cX6_rank 40 = .ok (.aload_n 0, 1) := by decide +kernel
theorem dX6_rank_41 : decode cX6_rank 41 = .ok (.getfield 13, 3) := by decide +kernel
theorem dX6_rank_44 : decode cX6_rank 44 = .ok (.iload_n 1, 1) := by decide +kernel
theorem dX6_rank_45 : decode cX6_rank 45 = .ok (.iaload, 1) := by decide +kernel
theorem dX6_rank_46 : decode cX6_rank 46 = .ok (.iload_n 2, 1) := by decide +kernel
theorem dX6_rank_47 : decode cX6_rank 47 = .ok (.isub, 1) := by decide +kernel
theorem dX6_rank_48 : decode cX6_rank 48 = .ok (.invokevirtual 105, 3) := by decide +kernel
theorem dX6_rank_51 : decode cX6_rank 51 = .ok (.ifCond .ge 7, 3) := by decide +kernel
theorem dX6_rank_54 : decode cX6_rank 54 = .ok (.iconst 1, 1) := by decide +kernel
theorem dX6_rank_55 : decode cX6_rank 55 = .ok (.goto 4, 3) := by decide +kernel
theorem dX6_rank_58 : decode cX6_rank 58 = .ok (.iconst 0, 1) := by decide +kernel
theorem dX6_rank_59 : decode cX6_rank 59 = .ok (.iadd, 1) := by decide +kernel
theorem dX6_rank_60 : decode cX6_rank 60 = .ok (.istore_n 3, 1) := by decide +kernel
theorem dX6_rank_61 : decode cX6_rank 61 = .ok (.iinc 4 1, 3) := by decide +kernel
theorem dX6_rank_64 : decode cX6_rank 64 = .ok (.goto (-59), 3) := by decide +kernel
theorem dX6_rank_67 : decode cX6_rank 67 = .ok (.iload_n 3, 1) := by decide +kernel
theorem dX6_rank_68 : decode cX6_rank 68 = .ok (.ireturn, 1) := by decide +kernel
set_option maxRecDepth 20000 in
theorem ggX6_endAt_X6_isNo : GoodIn wsX6_endAt wsX6_isNo := goodIn_r _ [6, 7, 8, 9, 5, 10, 11, 12, 13, 14, 15, 32, 33, 34, 35, 36] (by decide +kernel) (by decide +kernel)
set_option maxRecDepth 20000 in
theorem gX6_endAt_X6_isNo : GoodIn wsX6_endAt (wsV RX6 38 RX6 yX6_isNo wsX6_isNo) := goodIn_app (goodIn_of _ (by decide +kernel)) ggX6_endAt_X6_isNo
set_option maxRecDepth 20000 in
theorem ggX6_endAt_X6_isIn : GoodIn wsX6_endAt wsX6_isIn := goodIn_r _ [10] (by decide +kernel) (by decide +kernel)
set_option maxRecDepth 20000 in
theorem gX6_endAt_X6_isIn : GoodIn wsX6_endAt (va_wsS RX6 30 yX6_isIn wsX6_isIn) := goodIn_app (goodIn_of _ (by decide +kernel)) ggX6_endAt_X6_isIn
set_option maxRecDepth 20000 in
theorem ggX6_endAt_X6_isThrown : GoodIn wsX6_endAt wsX6_isThrown := goodIn_r _ [14, 15, 32, 33, 34, 35, 36] (by decide +kernel) (by decide +kernel)
set_option maxRecDepth 20000 in
theorem gX6_endAt_X6_isThrown : GoodIn wsX6_endAt (wsV RX6 34 RX6 yX6_isThrown wsX6_isThrown) := goodIn_app (goodIn_of _ (by decide +kernel)) ggX6_endAt_X6_isThrown
set_option maxRecDepth 20000 in
theorem ggX6_endAt_X6_rank : GoodIn wsX6_endAt wsX6_rank := goodIn_ca (goodIn_r _ [19, 1, 20, 21, 5, 22, 23, 24, 25, 26, 27, 28, 29, 30, 31, 32, 33, 34, 35, 36] (by decide +kernel) (by decide +kernel)) (goodIn_sub (fun _ h => List.mem_cons_of_mem _ (List.mem_append_right _ h)) (by decide +kernel))
set_option maxRecDepth 20000 in
theorem gX6_endAt_X6_rank : GoodIn wsX6_endAt (wsV RX6 132 RX6 yX6_rank wsX6_rank) := goodIn_app (goodIn_of _ (by decide +kernel)) ggX6_endAt_X6_rank
theorem dX6_endAt_0 : decode cX6_endAt 0 = .ok (.aload_n 0, 1) := by decide +kernel
theorem dX6_endAt_1 : decode cX6_endAt 1 = .ok (.iload_n 1, 1) := by decide +kernel
theorem dX6_endAt_2 : decode cX6_endAt 2 = .ok (.invokevirtual 38, 3) := by decide +kernel
theorem dX6_endAt_5 : decode cX6_endAt 5 = .ok (.ifCond .ne 34, 3) := by decide +kernel
theorem dX6_endAt_8 : decode cX6_endAt 8 = .ok (.aload_n 0, 1) := by decide +kernel
theorem dX6_endAt_9 : decode cX6_endAt 9 = .ok (.iload_n 2, 1) := by decide +kernel
theorem dX6_endAt_10 : decode cX6_endAt 10 = .ok (.i2l, 1) := by decide +kernel
theorem dX6_endAt_11 : decode cX6_endAt 11 = .ok (.lconst 0, 1) := by decide +kernel
theorem dX6_endAt_12 : decode cX6_endAt 12 = .ok (.aload_n 0, 1) := by decide +kernel
theorem dX6_endAt_13 : decode cX6_endAt 13 = .ok (.getfield 13, 3) := by decide +kernel
theorem dX6_endAt_16 : decode cX6_endAt 16 = .ok (.iload_n 1, 1) := by decide +kernel
theorem dX6_endAt_17 : decode cX6_endAt 17 = .ok (.iaload, 1) := by decide +kernel
theorem dX6_endAt_18 : decode cX6_endAt 18 = .ok (.iconst 1, 1) := by decide +kernel
theorem dX6_endAt_19 : decode cX6_endAt 19 = .ok (.isub, 1) := by decide +kernel
theorem dX6_endAt_20 : decode cX6_endAt 20 = .ok (.i2l, 1) := by decide +kernel
theorem dX6_endAt_21 : decode cX6_endAt 21 = .ok (.invokestatic 30, 3) := by decide +kernel
theorem dX6_endAt_24 : decode cX6_endAt 24 = .ok (.ifCond .ne 7, 3) := by decide +kernel
theorem dX6_endAt_27 : decode cX6_endAt 27 = .ok (.iconst 1, 1) := by decide +kernel
theorem dX6_endAt_28 : decode cX6_endAt 28 = .ok (.goto 4, 3) := by decide +kernel
theorem dX6_endAt_31 : decode cX6_endAt 31 = .ok (.iconst 0, 1) := by decide +kernel
theorem dX6_endAt_32 : decode cX6_endAt 32 = .ok (.iconst 2, 1) := by decide +kernel
theorem dX6_endAt_33 : decode cX6_endAt 33 = .ok (.invokevirtual 34, 3) := by decide +kernel
theorem dX6_endAt_36 : decode cX6_endAt 36 = .ok (.ifCond .eq 5, 3) := by decide +kernel
theorem dX6_endAt_39 : decode cX6_endAt 39 = .ok (.iconst 0, 1) := by decide +kernel
theorem dX6_endAt_40 : decode cX6_endAt 40 = .ok (.ireturn, 1) := by decide +kernel
theorem dX6_endAt_41 : decode cX6_endAt 41 = .ok (.iconst 0, 1) := by decide +kernel
theorem dX6_endAt_42 : decode cX6_endAt 42 = .ok (.istore_n 3, 1) := by decide +kernel
theorem dX6_endAt_43 : decode cX6_endAt 43 = .ok (.aload_n 0, 1) := by decide +kernel
theorem dX6_endAt_44 : decode cX6_endAt 44 = .ok (.iload_n 1, 1) := by decide +kernel
theorem dX6_endAt_45 : decode cX6_endAt 45 = .ok (.iload_n 3, 1) := by decide +kernel
theorem dX6_endAt_46 : decode cX6_endAt 46 = .ok (.invokevirtual 132, 3) := by decide +kernel
theorem dX6_endAt_49 : decode cX6_endAt 49 = .ok (.iload_n 2, 1) := by decide +kernel
theorem dX6_endAt_50 : decode cX6_endAt 50 = .ok (.if_icmp .eq 9, 3) := by decide +kernel
theorem dX6_endAt_53 : decode cX6_endAt 53 = .ok (.iinc 3 1, 3) := by decide +kernel
theorem dX6_endAt_56 : decode cX6_endAt 56 = .ok (.goto (-13), 3) := by decide +kernel
theorem dX6_endAt_59 : decode cX6_endAt 59 = .ok (.iload_n 3, 1) := by decide +kernel
theorem dX6_endAt_60 : decode cX6_endAt 60 = .ok (.ireturn, 1) := by decide +kernel
set_option maxRecDepth 20000 in
theorem ggX6_rankOf_X6_isNoPlace : GoodIn wsX6_rankOf wsX6_isNoPlace := goodIn_ca (goodIn_r _ [5, 6, 7, 8, 9, 4, 10, 11, 12, 13, 14, 15, 16, 17, 18, 19, 36, 37, 38, 39, 40] (by decide +kernel) (by decide +kernel)) (goodIn_sub (fun _ h => List.mem_cons_of_mem _ (List.mem_append_right _ h)) (by decide +kernel))
set_option maxRecDepth 20000 in
theorem gX6_rankOf_X6_isNoPlace : GoodIn wsX6_rankOf (wsV RX6 71 RX6 yX6_isNoPlace wsX6_isNoPlace) := goodIn_app (goodIn_of _ (by decide +kernel)) ggX6_rankOf_X6_isNoPlace
set_option maxRecDepth 20000 in
theorem ggX6_rankOf_X6_rank : GoodIn wsX6_rankOf wsX6_rank := goodIn_ca (goodIn_r _ [23, 6, 24, 25, 4, 26, 27, 28, 29, 30, 31, 32, 33, 34, 35, 36, 37, 38, 39, 40] (by decide +kernel) (by decide +kernel)) (goodIn_sub (fun _ h => List.mem_cons_of_mem _ (List.mem_append_right _ h)) (by decide +kernel))
set_option maxRecDepth 20000 in
theorem gX6_rankOf_X6_rank : GoodIn wsX6_rankOf (wsV RX6 132 RX6 yX6_rank wsX6_rank) := goodIn_app (goodIn_of _ (by decide +kernel)) ggX6_rankOf_X6_rank
theorem dX6_rankOf_0 : decode cX6_rankOf 0 = .ok (.aload_n 0, 1) := by decide +kernel
theorem dX6_rankOf_1 : decode cX6_rankOf 1 = .ok (.iload_n 1, 1) := by decide +kernel
theorem dX6_rankOf_2 : decode cX6_rankOf 2 = .ok (.iload_n 2, 1) := by decide +kernel
theorem dX6_rankOf_3 : decode cX6_rankOf 3 = .ok (.invokevirtual 71, 3) := by decide +kernel
theorem dX6_rankOf_6 : decode cX6_rankOf 6 = .ok (.ifCond .eq 7, 3) := by decide +kernel
theorem dX6_rankOf_9 : decode cX6_rankOf 9 = .ok (.iconst 0, 1) := by decide +kernel
theorem dX6_rankOf_10 : decode cX6_rankOf 10 = .ok (.goto 9, 3) := by decide +kernel
theorem dX6_rankOf_13 : decode cX6_rankOf 13 = .ok (.aload_n 0, 1) := by decide +kernel
theorem dX6_rankOf_14 : decode cX6_rankOf 14 = .ok (.iload_n 1, 1) := by decide +kernel
theorem dX6_rankOf_15 : decode cX6_rankOf 15 = .ok (.iload_n 2, 1) := by decide +kernel
theorem dX6_rankOf_16 : decode cX6_rankOf 16 = .ok (.invokevirtual 132, 3) := by decide +kernel
theorem dX6_rankOf_19 : decode cX6_rankOf 19 = .ok (.ireturn, 1) := by decide +kernel
set_option maxRecDepth 20000 in
theorem ggX6_isNewAt_X6_baseOf : GoodIn wsX6_isNewAt wsX6_baseOf := goodIn_r _ [5] (by decide +kernel) (by decide +kernel)
set_option maxRecDepth 20000 in
theorem gX6_isNewAt_X6_baseOf : GoodIn wsX6_isNewAt (va_wsS RX6 58 yX6_baseOf wsX6_baseOf) := goodIn_app (goodIn_of _ (by decide +kernel)) ggX6_isNewAt_X6_baseOf
set_option maxRecDepth 20000 in
theorem ggX6_isNewAt_X6_standsAt : GoodIn wsX6_isNewAt wsX6_standsAt := goodIn_ca (goodIn_r _ [9, 10, 11, 12, 13, 14, 15] (by decide +kernel) (by decide +kernel)) (goodIn_sub (fun _ h => List.mem_cons_of_mem _ (List.mem_append_right _ h)) (by decide +kernel))
set_option maxRecDepth 20000 in
theorem gX6_isNewAt_X6_standsAt : GoodIn wsX6_isNewAt (wsV RX6 46 RX6 yX6_standsAt wsX6_standsAt) := goodIn_app (goodIn_of _ (by decide +kernel)) ggX6_isNewAt_X6_standsAt
theorem dX6_isNewAt_0 : decode cX6_isNewAt 0 = .ok (.iconst 1, 1) := by decide +kernel
theorem dX6_isNewAt_1 : decode cX6_isNewAt 1 = .ok (.istore 4, 2) := by decide +kernel
theorem dX6_isNewAt_3 : decode cX6_isNewAt 3 = .ok (.iconst 0, 1) := by decide +kernel
theorem dX6_isNewAt_4 : decode cX6_isNewAt 4 = .ok (.istore 5, 2) := by decide +kernel
theorem dX6_isNewAt_6 : decode cX6_isNewAt 6 = .ok (.iload 5, 2) := by decide +kernel
theorem dX6_isNewAt_8 : decode cX6_isNewAt 8 = .ok (.iload_n 2, 1) := by decide +kernel
theorem dX6_isNewAt_9 : decode cX6_isNewAt 9 = .ok (.if_icmp .ge 47, 3) := by decide +kernel
theorem dX6_isNewAt_12 : decode cX6_isNewAt 12 = .ok (.iload 4, 2) := by decide +kernel
theorem dX6_isNewAt_14 : decode cX6_isNewAt 14 = .ok (.ifCond .eq 42, 3) := by decide +kernel
theorem dX6_isNewAt_17 : decode cX6_isNewAt 17 = .ok (.aload_n 0, 1) := by decide +kernel
theorem dX6_isNewAt_18 : decode cX6_isNewAt 18 = .ok (.iload_n 1, 1) := by decide +kernel
theorem dX6_isNewAt_19 : decode cX6_isNewAt 19 = .ok (.invokestatic 58, 3) := by decide +kernel
theorem dX6_isNewAt_22 : decode cX6_isNewAt 22 = .ok (.aload_n 0, 1) := by decide +kernel
theorem dX6_isNewAt_23 : decode cX6_isNewAt 23 = .ok (.getfield 13, 3) := by decide +kernel
theorem dX6_isNewAt_26 : decode cX6_isNewAt 26 = .ok (.iload_n 1, 1) := by decide +kernel
theorem dX6_isNewAt_27 : decode cX6_isNewAt 27 = .ok (.iaload, 1) := by decide +kernel
theorem dX6_isNewAt_28 : decode cX6_isNewAt 28 = .ok (.iload_n 1, 1) := by decide +kernel
theorem dX6_isNewAt_29 : decode cX6_isNewAt 29 = .ok (.invokestatic 58, 3) := by decide +kernel
theorem dX6_isNewAt_32 : decode cX6_isNewAt 32 = .ok (.iload_n 2, 1) := by decide +kernel
theorem dX6_isNewAt_33 : decode cX6_isNewAt 33 = .ok (.iadd, 1) := by decide +kernel
theorem dX6_isNewAt_34 : decode cX6_isNewAt 34 = .ok (.iload_n 3, 1) := by decide +kernel
theorem dX6_isNewAt_35 : decode cX6_isNewAt 35 = .ok (.iload 5, 2) := by decide +kernel
theorem dX6_isNewAt_37 : decode cX6_isNewAt 37 = .ok (.invokevirtual 46, 3) := by decide +kernel
theorem dX6_isNewAt_40 : decode cX6_isNewAt 40 = .ok (.ifCond .ne 7, 3) := by decide +kernel
theorem dX6_isNewAt_43 : decode cX6_isNewAt 43 = .ok (.iconst 1, 1) := by decide +kernel
theorem dX6_isNewAt_44 : decode cX6_isNewAt 44 = .ok (.goto 4, 3) := by decide +kernel
theorem dX6_isNewAt_47 : decode cX6_isNewAt 47 = .ok (.iconst 0, 1) := by decide +kernel
theorem dX6_isNewAt_48 : decode cX6_isNewAt 48 = .ok (.istore 4, 2) := by decide +kernel
theorem dX6_isNewAt_50 : decode cX6_isNewAt 50 = .ok (.iinc 5 1, 3) := by decide +kernel
theorem dX6_isNewAt_53 : decode cX6_isNewAt 53 = .ok (.goto (-47), 3) := by decide +kernel
theorem dX6_isNewAt_56 : decode cX6_isNewAt 56 = .ok (.iload 4, 2) := by decide +kernel
theorem dX6_isNewAt_58 : decode cX6_isNewAt 58 = .ok (.ireturn, 1) := by decide +kernel
theorem dX6_isMirror_0 : decode cX6_isMirror 0 = .ok (.iconst 1, 1) := by decide +kernel
theorem dX6_isMirror_1 : decode cX6_isMirror 1 = .ok (.istore_n 3, 1) := by decide +kernel
theorem dX6_isMirror_2 : decode cX6_isMirror 2 = .ok (.iconst 0, 1) := by decide +kernel
theorem dX6_isMirror_3 : decode cX6_isMirror 3 = .ok (.istore 4, 2) := by decide +kernel
theorem dX6_isMirror_5 : decode cX6_isMirror 5 = .ok (.iload 4, 2) := by decide +kernel
theorem dX6_isMirror_7 : decode cX6_isMirror 7 = .ok (.iload_n 2, 1) := by decide +kernel
theorem dX6_isMirror_8 : decode cX6_isMirror 8 = .ok (.if_icmp .ge 44, 3) := by decide +kernel
theorem dX6_isMirror_11 : decode cX6_isMirror 11 = .ok (.iload_n 3, 1) := by decide +kernel
theorem dX6_isMirror_12 : decode cX6_isMirror 12 = .ok (.ifCond .eq 40, 3) := by decide +kernel
theorem dX6_isMirror_15 : decode cX6_isMirror 15 = .ok (.aload_n 0, 1) := by decide +kernel
theorem dX6_isMirror_16 : decode cX6_isMirror 16 = .ok (.getfield 7, 3) := by decide +kernel
theorem dX6_isMirror_19 : decode cX6_isMirror 19 = .ok (.iload_n 1, 1) := by decide +kernel
theorem dX6_isMirror_20 : decode cX6_isMirror 20 = .ok (.iload 4, 2) := by decide +kernel
theorem dX6_isMirror_22 : decode cX6_isMirror 22 = .ok (.iadd, 1) := by decide +kernel
theorem dX6_isMirror_23 : decode cX6_isMirror 23 = .ok (.iaload, 1) := by decide +kernel
theorem dX6_isMirror_24 : decode cX6_isMirror 24 = .ok (.aload_n 0, 1) := by decide +kernel
theorem dX6_isMirror_25 : decode cX6_isMirror 25 = .ok (.getfield 7, 3) := by decide +kernel
theorem dX6_isMirror_28 : decode cX6_isMirror 28 = .ok (.iload_n 1, 1) := by decide +kernel
theorem dX6_isMirror_29 : decode cX6_isMirror 29 = .ok (.iload_n 2, 1) := by decide +kernel
theorem dX6_isMirror_30 : decode cX6_isMirror 30 = .ok (.iadd, 1) := by decide +kernel
theorem dX6_isMirror_31 : decode cX6_isMirror 31 = .ok (.iconst 1, 1) := by decide +kernel
theorem dX6_isMirror_32 : decode cX6_isMirror 32 = .ok (.isub, 1) := by decide +kernel
theorem dX6_isMirror_33 : decode cX6_isMirror 33 = .ok (.iload 4, 2) := by decide +kernel
theorem dX6_isMirror_35 : decode cX6_isMirror 35 = .ok (.isub, 1) := by decide +kernel
theorem dX6_isMirror_36 : decode cX6_isMirror 36 = .ok (.iaload, 1) := by decide +kernel
theorem dX6_isMirror_37 : decode cX6_isMirror 37 = .ok (.if_icmp .ne 7, 3) := by decide +kernel
theorem dX6_isMirror_40 : decode cX6_isMirror 40 = .ok (.iconst 1, 1) := by decide +kernel
theorem dX6_isMirror_41 : decode cX6_isMirror 41 = .ok (.goto 4, 3) := by decide +kernel
theorem dX6_isMirror_44 : decode cX6_isMirror 44 = .ok (.iconst 0, 1) := by decide +kernel
theorem dX6_isMirror_45 : decode cX6_isMirror 45 = .ok (.istore_n 3, 1) := by decide +kernel
theorem dX6_isMirror_46 : decode cX6_isMirror 46 = .ok (.iinc 4 1, 3) := by decide +kernel
theorem dX6_isMirror_49 : decode cX6_isMirror 49 = .ok (.goto (-44), 3) := by decide +kernel
theorem dX6_isMirror_52 : decode cX6_isMirror 52 = .ok (.iload_n 3, 1) := by decide +kernel
theorem dX6_isMirror_53 : decode cX6_isMirror 53 = .ok (.ireturn, 1) := by decide +kernel
set_option maxRecDepth 20000 in
theorem ggX6_unlike_X6_baseOf : GoodIn wsX6_unlike wsX6_baseOf := goodIn_r _ [5] (by decide +kernel) (by decide +kernel)
set_option maxRecDepth 20000 in
theorem gX6_unlike_X6_baseOf : GoodIn wsX6_unlike (va_wsS RX6 58 yX6_baseOf wsX6_baseOf) := goodIn_app (goodIn_of _ (by decide +kernel)) ggX6_unlike_X6_baseOf
set_option maxRecDepth 20000 in
theorem ggX6_unlike_X6_isMirror : GoodIn wsX6_unlike wsX6_isMirror := goodIn_ca (goodIn_r _ [9, 10, 19, 20, 21, 22, 23] (by decide +kernel) (by decide +kernel)) (goodIn_sub (fun _ h => List.mem_cons_of_mem _ (List.mem_append_right _ h)) (by decide +kernel))
set_option maxRecDepth 20000 in
theorem gX6_unlike_X6_isMirror : GoodIn wsX6_unlike (wsV RX6 135 RX6 yX6_isMirror wsX6_isMirror) := goodIn_app (goodIn_of _ (by decide +kernel)) ggX6_unlike_X6_isMirror
set_option maxRecDepth 20000 in
theorem ggX6_unlike_X6_isNewAt : GoodIn wsX6_unlike wsX6_isNewAt := goodIn_ca (goodIn_r _ [14, 1, 2, 3, 4, 5, 15, 16, 17, 18, 10, 19, 20, 21, 22, 23] (by decide +kernel) (by decide +kernel)) (goodIn_sub (fun _ h => List.mem_cons_of_mem _ (List.mem_append_right _ h)) (by decide +kernel))
set_option maxRecDepth 20000 in
theorem gX6_unlike_X6_isNewAt : GoodIn wsX6_unlike (wsV RX6 138 RX6 yX6_isNewAt wsX6_isNewAt) := goodIn_app (goodIn_of _ (by decide +kernel)) ggX6_unlike_X6_isNewAt
theorem dX6_unlike_0 : decode cX6_unlike 0 = .ok (.iconst 0, 1) := by decide +kernel
theorem dX6_unlike_1 : decode cX6_unlike 1 = .ok (.istore_n 3, 1) := by decide +kernel
theorem dX6_unlike_2 : decode cX6_unlike 2 = .ok (.iconst 0, 1) := by decide +kernel
theorem dX6_unlike_3 : decode cX6_unlike 3 = .ok (.istore 4, 2) := by decide +kernel
theorem dX6_unlike_5 : decode cX6_unlike 5 = .ok (.iload 4, 2) := by decide +kernel
theorem dX6_unlike_7 : decode cX6_unlike 7 = .ok (.aload_n 0, 1) := by decide +kernel
theorem dX6_unlike_8 : decode cX6_unlike 8 = .ok (.getfield 13, 3) := by decide +kernel
theorem dX6_unlike_11 : decode cX6_unlike 11 = .ok (.iload_n 1, 1) := by decide +kernel
theorem dX6_unlike_12 : decode cX6_unlike 12 = .ok (.iaload, 1) := by decide +kernel
theorem dX6_unlike_13 : decode cX6_unlike 13 = .ok (.if_icmp .ge 84, 3) := by decide +kernel
theorem dX6_unlike_16 : decode cX6_unlike 16 = .ok (.iconst 1, 1) := by decide +kernel
theorem dX6_unlike_17 : decode cX6_unlike 17 = .ok (.istore 5, 2) := by decide +kernel
theorem dX6_unlike_19 : decode cX6_unlike 19 = .ok (.iload 4, 2) := by decide +kernel
theorem dX6_unlike_21 : decode cX6_unlike 21 = .ok (.iload 5, 2) := by decide +kernel
theorem dX6_unlike_23 : decode cX6_unlike 23 = .ok (.iadd, 1) := by decide +kernel
theorem dX6_unlike_24 : decode cX6_unlike 24 = .ok (.aload_n 0, 1) := by decide +kernel
theorem dX6_unlike_25 : decode cX6_unlike 25 = .ok (.getfield 13, 3) := by decide +kernel
theorem dX6_unlike_28 : decode cX6_unlike 28 = .ok (.iload_n 1, 1) := by decide +kernel
theorem dX6_unlike_29 : decode cX6_unlike 29 = .ok (.iaload, 1) := by decide +kernel
theorem dX6_unlike_30 : decode cX6_unlike 30 = .ok (.if_icmp .gt 61, 3) := by decide +kernel
theorem dX6_unlike_33 : decode cX6_unlike 33 = .ok (.iload_n 2, 1) := by decide +kernel
theorem dX6_unlike_34 : decode cX6_unlike 34 = .ok (.ifCond .eq 19, 3) := by decide +kernel
theorem dX6_unlike_37 : decode cX6_unlike 37 = .ok (.aload_n 0, 1) := by decide +kernel
theorem dX6_unlike_38 : decode cX6_unlike 38 = .ok (.iload_n 1, 1) := by decide +kernel
theorem dX6_unlike_39 : decode cX6_unlike 39 = .ok (.invokestatic 58, 3) := by decide +kernel
theorem dX6_unlike_42 : decode cX6_unlike 42 = .ok (.iload 4, 2) := by decide +kernel
theorem dX6_unlike_44 : decode cX6_unlike 44 = .ok (.iadd, 1) := by decide +kernel
theorem dX6_unlike_45 : decode cX6_unlike 45 = .ok (.iload 5, 2) := by decide +kernel
theorem dX6_unlike_47 : decode cX6_unlike 47 = .ok (.invokevirtual 135, 3) := by decide +kernel
theorem dX6_unlike_50 : decode cX6_unlike 50 = .ok (.ifCond .eq 7, 3) := by decide +kernel
theorem dX6_unlike_53 : decode cX6_unlike 53 = .ok (.iconst 1, 1) := by decide +kernel
theorem dX6_unlike_54 : decode cX6_unlike 54 = .ok (.goto 4, 3) := by decide +kernel
theorem dX6_unlike_57 : decode cX6_unlike 57 = .ok (.iconst 0, 1) := by decide +kernel
theorem dX6_unlike_58 : decode cX6_unlike 58 = .ok (.istore 6, 2) := by decide +kernel
theorem dX6_unlike_60 : decode cX6_unlike 60 = .ok (.iload_n 3, 1) := by decide +kernel
theorem dX6_unlike_61 : decode cX6_unlike 61 = .ok (.iload 6, 2) := by decide +kernel
theorem dX6_unlike_63 : decode cX6_unlike 63 = .ok (.ifCond .eq 19, 3) := by decide +kernel
theorem dX6_unlike_66 : decode cX6_unlike 66 = .ok (.aload_n 0, 1) := by decide +kernel
theorem dX6_unlike_67 : decode cX6_unlike 67 = .ok (.iload_n 1, 1) := by decide +kernel
theorem dX6_unlike_68 : decode cX6_unlike 68 = .ok (.iload 4, 2) := by decide +kernel
theorem dX6_unlike_70 : decode cX6_unlike 70 = .ok (.iload 5, 2) := by decide +kernel
theorem dX6_unlike_72 : decode cX6_unlike 72 = .ok (.invokevirtual 138, 3) := by decide +kernel
theorem dX6_unlike_75 : decode cX6_unlike 75 = .ok (.ifCond .eq 7, 3) := by decide +kernel
theorem dX6_unlike_78 : decode cX6_unlike 78 = .ok (.iconst 1, 1) := by decide +kernel
theorem dX6_unlike_79 : decode cX6_unlike 79 = .ok (.goto 4, 3) := by decide +kernel
theorem dX6_unlike_82 : decode cX6_unlike 82 = .ok (.iconst 0, 1) := by decide +kernel
theorem dX6_unlike_83 : decode cX6_unlike 83 = .ok (.iadd, 1) := by decide +kernel
theorem dX6_unlike_84 : decode cX6_unlike 84 = .ok (.istore_n 3, 1) := by decide +kernel
theorem dX6_unlike_85 : decode cX6_unlike 85 = .ok (.iinc 5 1, 3) := by decide +kernel
theorem dX6_unlike_88 : decode cX6_unlike 88 = .ok (.goto (-69), 3) := by decide +kernel
theorem dX6_unlike_91 : decode cX6_unlike 91 = .ok (.iinc 4 1, 3) := by decide +kernel
theorem dX6_unlike_94 : decode cX6_unlike 94 = .ok (.goto (-89), 3) := by decide +kernel
theorem dX6_unlike_97 : decode cX6_unlike 97 = .ok (.iload_n 3, 1) := by decide +kernel
theorem dX6_unlike_98 : decode cX6_unlike 98 = .ok (.ireturn, 1) := by decide +kernel
set_option maxRecDepth 20000 in
theorem ggX6_unlikeParts_X6_isNo : GoodIn wsX6_unlikeParts wsX6_isNo := goodIn_r _ [5, 6, 7, 8, 4, 9, 10, 11, 12, 13, 14, 36, 37, 38, 39, 40] (by decide +kernel) (by decide +kernel)
set_option maxRecDepth 20000 in
theorem gX6_unlikeParts_X6_isNo : GoodIn wsX6_unlikeParts (wsV RX6 38 RX6 yX6_isNo wsX6_isNo) := goodIn_app (goodIn_of _ (by decide +kernel)) ggX6_unlikeParts_X6_isNo
set_option maxRecDepth 20000 in
theorem ggX6_unlikeParts_X6_unlike : GoodIn wsX6_unlikeParts wsX6_unlike := goodIn_ca (goodIn_r _ [18, 19, 20, 21, 4, 22, 23, 24, 25, 26, 27, 28, 29, 30, 31, 32, 33, 34, 35, 36, 37, 38, 39, 40] (by decide +kernel) (by decide +kernel)) (goodIn_sub (fun _ h => List.mem_cons_of_mem _ (List.mem_append_right _ h)) (by decide +kernel))
set_option maxRecDepth 20000 in
theorem gX6_unlikeParts_X6_unlike : GoodIn wsX6_unlikeParts (wsV RX6 141 RX6 yX6_unlike wsX6_unlike) := goodIn_app (goodIn_of _ (by decide +kernel)) ggX6_unlikeParts_X6_unlike
theorem dX6_unlikeParts_0 : decode cX6_unlikeParts 0 = .ok (.aload_n 0, 1) := by decide +kernel
theorem dX6_unlikeParts_1 : decode cX6_unlikeParts 1 = .ok (.iload_n 1, 1) := by decide +kernel
theorem dX6_unlikeParts_2 : decode cX6_unlikeParts 2 = .ok (.invokevirtual 38, 3) := by decide +kernel
theorem dX6_unlikeParts_5 : decode cX6_unlikeParts 5 = .ok (.ifCond .eq 7, 3) := by decide +kernel
theorem dX6_unlikeParts_8 : decode cX6_unlikeParts 8 = .ok (.iconst 0, 1) := by decide +kernel
theorem dX6_unlikeParts_9 : decode cX6_unlikeParts 9 = .ok (.goto 9, 3) := by decide +kernel
theorem dX6_unlikeParts_12 : decode cX6_unlikeParts 12 = .ok (.aload_n 0, 1) := by decide +kernel
theorem dX6_unlikeParts_13 : decode cX6_unlikeParts 13 = .ok (.iload_n 1, 1) := by decide +kernel
theorem dX6_unlikeParts_14 : decode cX6_unlikeParts 14 = .ok (.iconst 0, 1) := by decide +kernel
theorem dX6_unlikeParts_15 : decode cX6_unlikeParts 15 = .ok (.invokevirtual 141, 3) := by decide +kernel
theorem dX6_unlikeParts_18 : decode cX6_unlikeParts 18 = .ok (.ireturn, 1) := by decide +kernel
set_option maxRecDepth 20000 in
theorem ggX6_mirrors_X6_isNo : GoodIn wsX6_mirrors wsX6_isNo := goodIn_r _ [5, 6, 7, 8, 4, 9, 10, 11, 12, 13, 14, 36, 37, 38, 39, 40] (by decide +kernel) (by decide +kernel)
set_option maxRecDepth 20000 in
theorem gX6_mirrors_X6_isNo : GoodIn wsX6_mirrors (wsV RX6 38 RX6 yX6_isNo wsX6_isNo) := goodIn_app (goodIn_of _ (by decide +kernel)) ggX6_mirrors_X6_isNo
set_option maxRecDepth 20000 in
theorem ggX6_mirrors_X6_unlike : GoodIn wsX6_mirrors wsX6_unlike := goodIn_ca (goodIn_r _ [18, 19, 20, 21, 4, 22, 23, 24, 25, 26, 27, 28, 29, 30, 31, 32, 33, 34, 35, 36, 37, 38, 39, 40] (by decide +kernel) (by decide +kernel)) (goodIn_sub (fun _ h => List.mem_cons_of_mem _ (List.mem_append_right _ h)) (by decide +kernel))
set_option maxRecDepth 20000 in
theorem gX6_mirrors_X6_unlike : GoodIn wsX6_mirrors (wsV RX6 141 RX6 yX6_unlike wsX6_unlike) := goodIn_app (goodIn_of _ (by decide +kernel)) ggX6_mirrors_X6_unlike
theorem dX6_mirrors_0 : decode cX6_mirrors 0 = .ok (.aload_n 0, 1) := by decide +kernel
theorem dX6_mirrors_1 : decode cX6_mirrors 1 = .ok (.iload_n 1, 1) := by decide +kernel
theorem dX6_mirrors_2 : decode cX6_mirrors 2 = .ok (.invokevirtual 38, 3) := by decide +kernel
theorem dX6_mirrors_5 : decode cX6_mirrors 5 = .ok (.ifCond .eq 7, 3) := by decide +kernel
theorem dX6_mirrors_8 : decode cX6_mirrors 8 = .ok (.iconst 0, 1) := by decide +kernel
theorem dX6_mirrors_9 : decode cX6_mirrors 9 = .ok (.goto 9, 3) := by decide +kernel
theorem dX6_mirrors_12 : decode cX6_mirrors 12 = .ok (.aload_n 0, 1) := by decide +kernel
theorem dX6_mirrors_13 : decode cX6_mirrors 13 = .ok (.iload_n 1, 1) := by decide +kernel
theorem dX6_mirrors_14 : decode cX6_mirrors 14 = .ok (.iconst 1, 1) := by decide +kernel
theorem dX6_mirrors_15 : decode cX6_mirrors 15 = .ok (.invokevirtual 141, 3) := by decide +kernel
theorem dX6_mirrors_18 : decode cX6_mirrors 18 = .ok (.ireturn, 1) := by decide +kernel
set_option maxRecDepth 20000 in
theorem ggX6_twice_X6_isNoOf : GoodIn wsX6_twice wsX6_isNoOf := goodIn_r _ [6, 7, 8, 9, 5, 10, 11, 12, 13, 14, 15, 16, 17, 18, 19, 48, 49, 50, 51, 52] (by decide +kernel) (by decide +kernel)
set_option maxRecDepth 20000 in
theorem gX6_twice_X6_isNoOf : GoodIn wsX6_twice (wsV RX6 86 RX6 yX6_isNoOf wsX6_isNoOf) := goodIn_app (goodIn_of _ (by decide +kernel)) ggX6_twice_X6_isNoOf
set_option maxRecDepth 20000 in
theorem ggX6_twice_X6_baseOf : GoodIn wsX6_twice wsX6_baseOf := goodIn_r _ [22] (by decide +kernel) (by decide +kernel)
set_option maxRecDepth 20000 in
theorem gX6_twice_X6_baseOf : GoodIn wsX6_twice (va_wsS RX6 58 yX6_baseOf wsX6_baseOf) := goodIn_app (goodIn_of _ (by decide +kernel)) ggX6_twice_X6_baseOf
set_option maxRecDepth 20000 in
theorem ggX6_twice_X6_counted : GoodIn wsX6_twice wsX6_counted := goodIn_ca (goodIn_r _ [26, 1, 20, 21, 5, 22, 27, 28, 29, 30, 31, 48, 49, 50, 51, 52] (by decide +kernel) (by decide +kernel)) (goodIn_sub (fun _ h => List.mem_cons_of_mem _ (List.mem_append_right _ h)) (by decide +kernel))
set_option maxRecDepth 20000 in
theorem gX6_twice_X6_counted : GoodIn wsX6_twice (wsV RX6 97 RX6 yX6_counted wsX6_counted) := goodIn_app (goodIn_of _ (by decide +kernel)) ggX6_twice_X6_counted
set_option maxRecDepth 20000 in
theorem ggX6_twice_X6_order : GoodIn wsX6_twice wsX6_order := goodIn_ca (goodIn_r _ [35, 31, 36, 37, 38, 5, 39, 48, 49, 50, 51, 52] (by decide +kernel) (by decide +kernel)) (goodIn_sub (fun _ h => List.mem_cons_of_mem _ (List.mem_append_right _ h)) (by decide +kernel))
set_option maxRecDepth 20000 in
theorem gX6_twice_X6_order : GoodIn wsX6_twice (wsV RX6 105 RX6 yX6_order wsX6_order) := goodIn_app (goodIn_of _ (by decide +kernel)) ggX6_twice_X6_order
set_option maxRecDepth 20000 in
theorem ggX6_twice_X6_become : GoodIn wsX6_twice wsX6_become := goodIn_ca (goodIn_r _ [43, 1, 44, 45, 46, 5, 47, 31, 20, 21, 22, 48, 49, 50, 51, 52] (by decide +kernel) (by decide +kernel)) (goodIn_sub (fun _ h => List.mem_cons_of_mem _ (List.mem_append_right _ h)) (by decide +kernel))
set_option maxRecDepth 20000 in
theorem gX6_twice_X6_become : GoodIn wsX6_twice (wsV RX6 82 RX6 yX6_become wsX6_become) := goodIn_app (goodIn_of _ (by decide +kernel)) ggX6_twice_X6_become
theorem dX6_twice_0 : decode cX6_twice 0 = .ok (.aload_n 0, 1) := by decide +kernel
theorem dX6_twice_1 : decode cX6_twice 1 = .ok (.iload_n 1, 1) := by decide +kernel
theorem dX6_twice_2 : decode cX6_twice 2 = .ok (.iload_n 2, 1) := by decide +kernel
theorem dX6_twice_3 : decode cX6_twice 3 = .ok (.invokevirtual 86, 3) := by decide +kernel
theorem dX6_twice_6 : decode cX6_twice 6 = .ok (.ifCond .eq 5, 3) := by decide +kernel
theorem dX6_twice_9 : decode cX6_twice 9 = .ok (.iconst 0, 1) := by decide +kernel
theorem dX6_twice_10 : decode cX6_twice 10 = .ok (.ireturn, 1) := by decide +kernel
theorem dX6_twice_11 : decode cX6_twice 11 = .ok (.iconst (-1), 1) := by decide +kernel
theorem dX6_twice_12 : decode cX6_twice 12 = .ok (.istore_n 3, 1) := by decide +kernel
theorem dX6_twice_13 : decode cX6_twice 13 = .ok (.aload_n 0, 1) := by decide +kernel
theorem dX6_twice_14 : decode cX6_twice 14 = .ok (.getfield 13, 3) := by decide +kernel
theorem dX6_twice_17 : decode cX6_twice 17 = .ok (.iload_n 2, 1) := by decide +kernel
theorem dX6_twice_18 : decode cX6_twice 18 = .ok (.iaload, 1) := by decide +kernel
theorem dX6_twice_19 : decode cX6_twice 19 = .ok (.istore 4, 2) := by decide +kernel
theorem dX6_twice_21 : decode cX6_twice 21 = .ok (.iload_n 3, 1) := by decide +kernel
theorem dX6_twice_22 : decode cX6_twice 22 = .ok (.iconst (-1), 1) := by decide +kernel
theorem dX6_twice_23 : decode cX6_twice 23 = .ok (.if_icmp .ne 121, 3) := by decide +kernel
theorem dX6_twice_26 : decode cX6_twice 26 = .ok (.iload 4, 2) := by decide +kernel
theorem dX6_twice_28 : decode cX6_twice 28 = .ok (.ifCond .le 116, 3) := by decide +kernel
theorem dX6_twice_31 : decode cX6_twice 31 = .ok (.iinc 4 (-1), 3) := by decide +kernel
theorem dX6_twice_34 : decode cX6_twice 34 = .ok (.iconst 0, 1) := by decide +kernel
theorem dX6_twice_35 : decode cX6_twice 35 = .ok (.istore 5, 2) := by decide +kernel
theorem dX6_twice_37 : decode cX6_twice 37 = .ok (.iload 4, 2) := by decide +kernel
theorem dX6_twice_39 : decode cX6_twice 39 = .ok (.ifCond .le 102, 3) := by decide +kernel
theorem dX6_twice_42 : decode cX6_twice 42 = .ok (.iload 5, 2) := by decide +kernel
theorem dX6_twice_44 : decode cX6_twice 44 = .ok (.iload 4, 2) := by decide +kernel
theorem dX6_twice_46 : decode cX6_twice 46 = .ok (.iadd, 1) := by decide +kernel
theorem dX6_twice_47 : decode cX6_twice 47 = .ok (.aload_n 0, 1) := by decide +kernel
theorem dX6_twice_48 : decode cX6_twice 48 = .ok (.getfield 13, 3) := by decide +kernel
theorem dX6_twice_51 : decode cX6_twice 51 = .ok (.iload_n 2, 1) := by decide +kernel
theorem dX6_twice_52 : decode cX6_twice 52 = .ok (.iaload, 1) := by decide +kernel
theorem dX6_twice_53 : decode cX6_twice 53 = .ok (.if_icmp .gt 88, 3) := by decide +kernel
theorem dX6_twice_56 : decode cX6_twice 56 = .ok (.aload_n 0, 1) := by decide +kernel
theorem dX6_twice_57 : decode cX6_twice 57 = .ok (.iload_n 2, 1) := by decide +kernel
theorem dX6_twice_58 : decode cX6_twice 58 = .ok (.iload_n 2, 1) := by decide +kernel
theorem dX6_twice_59 : decode cX6_twice 59 = .ok (.invokestatic 58, 3) := by decide +kernel
theorem dX6_twice_62 : decode cX6_twice 62 = .ok (.iload 5, 2) := by decide +kernel
theorem dX6_twice_64 : decode cX6_twice 64 = .ok (.iadd, 1) := by decide +kernel
theorem dX6_twice_65 : decode cX6_twice 65 = .ok (.iload 4, 2) := by decide +kernel
theorem dX6_twice_67 : decode cX6_twice 67 = .ok (.iconst 0, 1) := by decide +kernel
theorem dX6_twice_68 : decode cX6_twice 68 = .ok (.invokevirtual 97, 3) := by decide +kernel
theorem dX6_twice_71 : decode cX6_twice 71 = .ok (.iconst 1, 1) := by decide +kernel
theorem dX6_twice_72 : decode cX6_twice 72 = .ok (.if_icmp .le 7, 3) := by decide +kernel
theorem dX6_twice_75 : decode cX6_twice 75 = .ok (.iconst 1, 1) := by decide +kernel
theorem dX6_twice_76 : decode cX6_twice 76 = .ok (.goto 4, 3) := by decide +kernel
theorem dX6_twice_79 : decode cX6_twice 79 = .ok (.iconst 0, 1) := by decide +kernel
theorem dX6_twice_80 : decode cX6_twice 80 = .ok (.istore 6, 2) := by decide +kernel
theorem dX6_twice_82 : decode cX6_twice 82 = .ok (.iload_n 3, 1) := by decide +kernel
theorem dX6_twice_83 : decode cX6_twice 83 = .ok (.iconst (-1), 1) := by decide +kernel
theorem dX6_twice_84 : decode cX6_twice 84 = .ok (.if_icmp .eq 27, 3) := by decide +kernel
theorem dX6_twice_87 : decode cX6_twice 87 = .ok (.aload_n 0, 1) := by decide +kernel
theorem dX6_twice_88 : decode cX6_twice 88 = .ok (.iload_n 2, 1) := by decide +kernel
theorem dX6_twice_89 : decode cX6_twice 89 = .ok (.invokestatic 58, 3) := by decide +kernel
theorem dX6_twice_92 : decode cX6_twice 92 = .ok (.iload 5, 2) := by decide +kernel
theorem dX6_twice_94 : decode cX6_twice 94 = .ok (.iadd, 1) := by decide +kernel
theorem dX6_twice_95 : decode cX6_twice 95 = .ok (.iload 4, 2) := by decide +kernel
theorem dX6_twice_97 : decode cX6_twice 97 = .ok (.iload_n 2, 1) := by decide +kernel
theorem dX6_twice_98 : decode cX6_twice 98 = .ok (.invokestatic 58, 3) := by decide +kernel
theorem dX6_twice_101 : decode cX6_twice 101 = .ok (.iload_n 3, 1) := by decide +kernel
theorem dX6_twice_102 : decode cX6_twice 102 = .ok (.iadd, 1) := by decide +kernel
theorem dX6_twice_103 : decode cX6_twice 103 = .ok (.iload 4, 2) := by decide +kernel
theorem dX6_twice_105 : decode cX6_twice 105 = .ok (.invokevirtual 105, 3) := by decide +kernel
theorem dX6_twice_108 : decode cX6_twice 108 = .ok (.ifCond .ge 7, 3) := by decide +kernel
theorem dX6_twice_111 : decode cX6_twice 111 = .ok (.iconst 1, 1) := by decide +kernel
theorem dX6_twice_112 : decode cX6_twice 112 = .ok (.goto 4, 3) := by decide +kernel
theorem dX6_twice_115 : decode cX6_twice 115 = .ok (.iconst 0, 1) := by decide +kernel
theorem dX6_twice_116 : decode cX6_twice 116 = .ok (.istore 7, 2) := by decide +kernel
theorem dX6_twice_118 : decode cX6_twice 118 = .ok (.iload 6, 2) := by decide +kernel
theorem dX6_twice_120 : decode cX6_twice 120 = .ok (.ifCond .eq 13, 3) := by decide +kernel
theorem dX6_twice_123 : decode cX6_twice 123 = .ok (.iload 7, 2) := by decide +kernel
theorem dX6_twice_125 : decode cX6_twice 125 = .ok (.ifCond .eq 8, 3) := by decide +kernel
theorem dX6_twice_128 : decode cX6_twice 128 = .ok (.iload 5, 2) := by decide +kernel
theorem dX6_twice_130 : decode cX6_twice 130 = .ok (.goto 4, 3) := by decide +kernel
theorem dX6_twice_133 : decode cX6_twice 133 = .ok (.iload_n 3, 1) := by decide +kernel
theorem dX6_twice_134 : decode cX6_twice 134 = .ok (.istore_n 3, 1) := by decide +kernel
theorem dX6_twice_135 : decode cX6_twice 135 = .ok (.iinc 5 1, 3) := by decide +kernel
theorem dX6_twice_138 : decode cX6_twice 138 = .ok (.goto (-101), 3) := by decide +kernel
theorem dX6_twice_141 : decode cX6_twice 141 = .ok (.goto (-120), 3) := by decide +kernel
theorem dX6_twice_144 : decode cX6_twice 144 = .ok (.aload_n 0, 1) := by decide +kernel
theorem dX6_twice_145 : decode cX6_twice 145 = .ok (.iload_n 1, 1) := by decide +kernel
theorem dX6_twice_146 : decode cX6_twice 146 = .ok (.iload_n 2, 1) := by decide +kernel
theorem dX6_twice_147 : decode cX6_twice 147 = .ok (.invokestatic 58, 3) := by decide +kernel
theorem dX6_twice_150 : decode cX6_twice 150 = .ok (.iload_n 3, 1) := by decide +kernel
theorem dX6_twice_151 : decode cX6_twice 151 = .ok (.iconst (-1), 1) := by decide +kernel
theorem dX6_twice_152 : decode cX6_twice 152 = .ok (.if_icmp .ne 7, 3) := by decide +kernel
theorem dX6_twice_155 : decode cX6_twice 155 = .ok (.iconst 0, 1) := by decide +kernel
theorem dX6_twice_156 : decode cX6_twice 156 = .ok (.goto 4, 3) := by decide +kernel
theorem dX6_twice_159 : decode cX6_twice 159 = .ok (.iload_n 3, 1) := by decide +kernel
theorem dX6_twice_160 : decode cX6_twice 160 = .ok (.iadd, 1) := by decide +kernel
theorem dX6_twice_161 : decode cX6_twice 161 = .ok (.iload_n 3, 1) := by decide +kernel
theorem dX6_twice_162 : decode cX6_twice 162 = .ok (.iconst (-1), 1) := by decide +kernel
theorem dX6_twice_163 : decode cX6_twice 163 = .ok (.if_icmp .ne 7, 3) := by decide +kernel
theorem dX6_twice_166 : decode cX6_twice 166 = .ok (.iconst 0, 1) := by decide +kernel
theorem dX6_twice_167 : decode cX6_twice 167 = .ok (.goto 5, 3) := by decide +kernel
theorem dX6_twice_170 : decode cX6_twice 170 = .ok (.iload 4, 2) := by decide +kernel
theorem dX6_twice_172 : decode cX6_twice 172 = .ok (.invokevirtual 82, 3) := by decide +kernel
theorem dX6_twice_175 : decode cX6_twice 175 = .ok (.ireturn, 1) := by decide +kernel
set_option maxRecDepth 20000 in
theorem ggX6_doCommute_X6_lays : GoodIn wsX6_doCommute wsX6_lays := goodIn_ca (goodIn_r _ [6, 1, 7, 8, 5, 9, 10, 11, 12, 13, 14, 23, 24, 25, 26, 27] (by decide +kernel) (by decide +kernel)) (goodIn_sub (fun _ h => List.mem_cons_of_mem _ (List.mem_append_right _ h)) (by decide +kernel))
set_option maxRecDepth 20000 in
theorem gX6_doCommute_X6_lays : GoodIn wsX6_doCommute (wsV RX6 79 RX6 yX6_lays wsX6_lays) := goodIn_app (goodIn_of _ (by decide +kernel)) ggX6_doCommute_X6_lays
set_option maxRecDepth 20000 in
theorem ggX6_doCommute_X6_areSame : GoodIn wsX6_doCommute wsX6_areSame := goodIn_ca (goodIn_r _ [18, 19, 20, 21, 5, 22, 14, 23, 24, 25, 26, 27] (by decide +kernel) (by decide +kernel)) (goodIn_sub (fun _ h => List.mem_cons_of_mem _ (List.mem_append_right _ h)) (by decide +kernel))
set_option maxRecDepth 20000 in
theorem gX6_doCommute_X6_areSame : GoodIn wsX6_doCommute (wsV RX6 101 RX6 yX6_areSame wsX6_areSame) := goodIn_app (goodIn_of _ (by decide +kernel)) ggX6_doCommute_X6_areSame
theorem dX6_doCommute_0 : decode cX6_doCommute 0 = .ok (.aload_n 0, 1) := by decide +kernel
theorem dX6_doCommute_1 : decode cX6_doCommute 1 = .ok (.iload_n 1, 1) := by decide +kernel
theorem dX6_doCommute_2 : decode cX6_doCommute 2 = .ok (.iload_n 2, 1) := by decide +kernel
theorem dX6_doCommute_3 : decode cX6_doCommute 3 = .ok (.sipush 360, 3) := by decide +kernel
theorem dX6_doCommute_6 : decode cX6_doCommute 6 = .ok (.invokevirtual 79, 3) := by decide +kernel
theorem dX6_doCommute_9 : decode cX6_doCommute 9 = .ok (.aload_n 0, 1) := by decide +kernel
theorem dX6_doCommute_10 : decode cX6_doCommute 10 = .ok (.iload_n 2, 1) := by decide +kernel
theorem dX6_doCommute_11 : decode cX6_doCommute 11 = .ok (.iload_n 1, 1) := by decide +kernel
theorem dX6_doCommute_12 : decode cX6_doCommute 12 = .ok (.sipush 490, 3) := by decide +kernel
theorem dX6_doCommute_15 : decode cX6_doCommute 15 = .ok (.invokevirtual 79, 3) := by decide +kernel
theorem dX6_doCommute_18 : decode cX6_doCommute 18 = .ok (.aload_n 0, 1) := by decide +kernel
theorem dX6_doCommute_19 : decode cX6_doCommute 19 = .ok (.sipush 360, 3) := by decide +kernel
theorem dX6_doCommute_22 : decode cX6_doCommute 22 = .ok (.aload_n 0, 1) := by decide +kernel
theorem dX6_doCommute_23 : decode cX6_doCommute 23 = .ok (.getfield 13, 3) := by decide +kernel
theorem dX6_doCommute_26 : decode cX6_doCommute 26 = .ok (.iload_n 1, 1) := by decide +kernel
theorem dX6_doCommute_27 : decode cX6_doCommute 27 = .ok (.iaload, 1) := by decide +kernel
theorem dX6_doCommute_28 : decode cX6_doCommute 28 = .ok (.aload_n 0, 1) := by decide +kernel
theorem dX6_doCommute_29 : decode cX6_doCommute 29 = .ok (.getfield 13, 3) := by decide +kernel
theorem dX6_doCommute_32 : decode cX6_doCommute 32 = .ok (.iload_n 2, 1) := by decide +kernel
theorem dX6_doCommute_33 : decode cX6_doCommute 33 = .ok (.iaload, 1) := by decide +kernel
theorem dX6_doCommute_34 : decode cX6_doCommute 34 = .ok (.iadd, 1) := by decide +kernel
theorem dX6_doCommute_35 : decode cX6_doCommute 35 = .ok (.sipush 490, 3) := by decide +kernel
theorem dX6_doCommute_38 : decode cX6_doCommute 38 = .ok (.aload_n 0, 1) := by decide +kernel
theorem dX6_doCommute_39 : decode cX6_doCommute 39 = .ok (.getfield 13, 3) := by decide +kernel
theorem dX6_doCommute_42 : decode cX6_doCommute 42 = .ok (.iload_n 1, 1) := by decide +kernel
theorem dX6_doCommute_43 : decode cX6_doCommute 43 = .ok (.iaload, 1) := by decide +kernel
theorem dX6_doCommute_44 : decode cX6_doCommute 44 = .ok (.aload_n 0, 1) := by decide +kernel
theorem dX6_doCommute_45 : decode cX6_doCommute 45 = .ok (.getfield 13, 3) := by decide +kernel
theorem dX6_doCommute_48 : decode cX6_doCommute 48 = .ok (.iload_n 2, 1) := by decide +kernel
theorem dX6_doCommute_49 : decode cX6_doCommute 49 = .ok (.iaload, 1) := by decide +kernel
theorem dX6_doCommute_50 : decode cX6_doCommute 50 = .ok (.iadd, 1) := by decide +kernel
theorem dX6_doCommute_51 : decode cX6_doCommute 51 = .ok (.invokevirtual 101, 3) := by decide +kernel
theorem dX6_doCommute_54 : decode cX6_doCommute 54 = .ok (.ireturn, 1) := by decide +kernel
set_option maxRecDepth 20000 in
theorem ggX6_commute_X6_isNoOf : GoodIn wsX6_commute wsX6_isNoOf := goodIn_r _ [5, 6, 7, 8, 4, 9, 10, 11, 12, 13, 14, 15, 16, 17, 18, 44, 45, 46, 47, 48] (by decide +kernel) (by decide +kernel)
set_option maxRecDepth 20000 in
theorem gX6_commute_X6_isNoOf : GoodIn wsX6_commute (wsV RX6 86 RX6 yX6_isNoOf wsX6_isNoOf) := goodIn_app (goodIn_of _ (by decide +kernel)) ggX6_commute_X6_isNoOf
set_option maxRecDepth 20000 in
theorem ggX6_commute_X6_doCommute : GoodIn wsX6_commute wsX6_doCommute := goodIn_ca (goodIn_r _ [22, 23, 24, 25, 26, 4, 27, 28, 29, 30, 31, 32, 33, 34, 35, 36, 37, 38, 39, 40, 41, 42, 43, 44, 45, 46, 47, 48] (by decide +kernel) (by decide +kernel)) (goodIn_sub (fun _ h => List.mem_cons_of_mem _ (List.mem_append_right _ h)) (by decide +kernel))
set_option maxRecDepth 20000 in
theorem gX6_commute_X6_doCommute : GoodIn wsX6_commute (wsV RX6 145 RX6 yX6_doCommute wsX6_doCommute) := goodIn_app (goodIn_of _ (by decide +kernel)) ggX6_commute_X6_doCommute
theorem dX6_commute_0 : decode cX6_commute 0 = .ok (.aload_n 0, 1) := by decide +kernel
theorem dX6_commute_1 : decode cX6_commute 1 = .ok (.iload_n 1, 1) := by decide +kernel
theorem dX6_commute_2 : decode cX6_commute 2 = .ok (.iload_n 2, 1) := by decide +kernel
theorem dX6_commute_3 : decode cX6_commute 3 = .ok (.invokevirtual 86, 3) := by decide +kernel
theorem dX6_commute_6 : decode cX6_commute 6 = .ok (.ifCond .ne 16, 3) := by decide +kernel
theorem dX6_commute_9 : decode cX6_commute 9 = .ok (.aload_n 0, 1) := by decide +kernel
theorem dX6_commute_10 : decode cX6_commute 10 = .ok (.iload_n 1, 1) := by decide +kernel
theorem dX6_commute_11 : decode cX6_commute 11 = .ok (.iload_n 2, 1) := by decide +kernel
theorem dX6_commute_12 : decode cX6_commute 12 = .ok (.invokevirtual 145, 3) := by decide +kernel
theorem dX6_commute_15 : decode cX6_commute 15 = .ok (.ifCond .eq 7, 3) := by decide +kernel
theorem dX6_commute_18 : decode cX6_commute 18 = .ok (.iconst 1, 1) := by decide +kernel
theorem dX6_commute_19 : decode cX6_commute 19 = .ok (.goto 4, 3) := by decide +kernel
theorem dX6_commute_22 : decode cX6_commute 22 = .ok (.iconst 0, 1) := by decide +kernel
theorem dX6_commute_23 : decode cX6_commute 23 = .ok (.ireturn, 1) := by decide +kernel
set_option maxRecDepth 20000 in
theorem ggX6_commonRoot_X6_isNoOfAll : GoodIn wsX6_commonRoot wsX6_isNoOfAll := goodIn_r _ [6, 7, 8, 9, 5, 10, 11, 12, 13, 14, 15, 16, 17, 18, 19, 56, 57, 58, 59, 60] (by decide +kernel) (by decide +kernel)
set_option maxRecDepth 20000 in
theorem gX6_commonRoot_X6_isNoOfAll : GoodIn wsX6_commonRoot (wsV RX6 75 RX6 yX6_isNoOfAll wsX6_isNoOfAll) := goodIn_app (goodIn_of _ (by decide +kernel)) ggX6_commonRoot_X6_isNoOfAll
set_option maxRecDepth 20000 in
theorem ggX6_commonRoot_X6_doCommute : GoodIn wsX6_commonRoot wsX6_doCommute := goodIn_ca (goodIn_r _ [23, 1, 24, 25, 26, 5, 27, 28, 29, 30, 31, 32, 33, 34, 35, 36, 37, 38, 39, 40, 41, 42, 43, 56, 57, 58, 59, 60] (by decide +kernel) (by decide +kernel)) (goodIn_sub (fun _ h => List.mem_cons_of_mem _ (List.mem_append_left _ (List.mem_append_right _ h))) (by decide +kernel))
set_option maxRecDepth 20000 in
theorem gX6_commonRoot_X6_doCommute : GoodIn wsX6_commonRoot (wsV RX6 145 RX6 yX6_doCommute wsX6_doCommute) := goodIn_app (goodIn_of _ (by decide +kernel)) ggX6_commonRoot_X6_doCommute
set_option maxRecDepth 20000 in
theorem ggX6_commonRoot_X6_isThrown : GoodIn wsX6_commonRoot wsX6_isThrown := goodIn_r _ [18, 19, 56, 57, 58, 59, 60] (by decide +kernel) (by decide +kernel)
set_option maxRecDepth 20000 in
theorem gX6_commonRoot_X6_isThrown : GoodIn wsX6_commonRoot (wsV RX6 34 RX6 yX6_isThrown wsX6_isThrown) := goodIn_app (goodIn_of _ (by decide +kernel)) ggX6_commonRoot_X6_isThrown
set_option maxRecDepth 20000 in
theorem ggX6_commonRoot_X6_baseOf : GoodIn wsX6_commonRoot wsX6_baseOf := goodIn_r _ [30] (by decide +kernel) (by decide +kernel)
set_option maxRecDepth 20000 in
theorem gX6_commonRoot_X6_baseOf : GoodIn wsX6_commonRoot (va_wsS RX6 58 yX6_baseOf wsX6_baseOf) := goodIn_app (goodIn_of _ (by decide +kernel)) ggX6_commonRoot_X6_baseOf
set_option maxRecDepth 20000 in
theorem ggX6_commonRoot_X6_rootOf : GoodIn wsX6_commonRoot wsX6_rootOf := goodIn_ca (goodIn_ca (goodIn_r _ [47, 1, 48, 49, 50, 5, 51, 35, 12, 13, 14, 28, 29, 30, 56, 57, 58, 59, 60] (by decide +kernel) (by decide +kernel)) (goodIn_sub (fun _ h => List.mem_cons_of_mem _ (List.mem_append_left _ (List.mem_append_right _ h))) (by decide +kernel))) (goodIn_sub (fun _ h => List.mem_cons_of_mem _ (List.mem_append_right _ h)) (by decide +kernel))
set_option maxRecDepth 20000 in
theorem gX6_commonRoot_X6_rootOf : GoodIn wsX6_commonRoot (wsV RX6 120 RX6 yX6_rootOf wsX6_rootOf) := goodIn_app (goodIn_of _ (by decide +kernel)) ggX6_commonRoot_X6_rootOf
set_option maxRecDepth 20000 in
theorem ggX6_commonRoot_X6_become : GoodIn wsX6_commonRoot wsX6_become := goodIn_ca (goodIn_r _ [55, 1, 31, 32, 33, 5, 34, 35, 28, 29, 30, 56, 57, 58, 59, 60] (by decide +kernel) (by decide +kernel)) (goodIn_sub (fun _ h => List.mem_cons_of_mem _ (List.mem_append_left _ (List.mem_append_right _ h))) (by decide +kernel))
set_option maxRecDepth 20000 in
theorem gX6_commonRoot_X6_become : GoodIn wsX6_commonRoot (wsV RX6 82 RX6 yX6_become wsX6_become) := goodIn_app (goodIn_of _ (by decide +kernel)) ggX6_commonRoot_X6_become
theorem dX6_commonRoot_0 : decode cX6_commonRoot 0 = .ok (.aload_n 0, 1) := by decide +kernel
theorem dX6_commonRoot_1 : decode cX6_commonRoot 1 = .ok (.iload_n 1, 1) := by decide +kernel
theorem dX6_commonRoot_2 : decode cX6_commonRoot 2 = .ok (.iload_n 2, 1) := by decide +kernel
theorem dX6_commonRoot_3 : decode cX6_commonRoot 3 = .ok (.iload_n 3, 1) := by decide +kernel
theorem dX6_commonRoot_4 : decode cX6_commonRoot 4 = .ok (.invokevirtual 75, 3) := by decide +kernel
theorem dX6_commonRoot_7 : decode cX6_commonRoot 7 = .ok (.ifCond .ne 41, 3) := by decide +kernel
theorem dX6_commonRoot_10 : decode cX6_commonRoot 10 = .ok (.aload_n 0, 1) := by decide +kernel
theorem dX6_commonRoot_11 : decode cX6_commonRoot 11 = .ok (.aload_n 0, 1) := by decide +kernel
theorem dX6_commonRoot_12 : decode cX6_commonRoot 12 = .ok (.getfield 13, 3) := by decide +kernel
theorem dX6_commonRoot_15 : decode cX6_commonRoot 15 = .ok (.iload_n 2, 1) := by decide +kernel
theorem dX6_commonRoot_16 : decode cX6_commonRoot 16 = .ok (.iaload, 1) := by decide +kernel
theorem dX6_commonRoot_17 : decode cX6_commonRoot 17 = .ok (.aload_n 0, 1) := by decide +kernel
theorem dX6_commonRoot_18 : decode cX6_commonRoot 18 = .ok (.getfield 13, 3) := by decide +kernel
theorem dX6_commonRoot_21 : decode cX6_commonRoot 21 = .ok (.iload_n 3, 1) := by decide +kernel
theorem dX6_commonRoot_22 : decode cX6_commonRoot 22 = .ok (.iaload, 1) := by decide +kernel
theorem dX6_commonRoot_23 : decode cX6_commonRoot 23 = .ok (.iadd, 1) := by decide +kernel
theorem dX6_commonRoot_24 : decode cX6_commonRoot 24 = .ok (.ifCond .eq 12, 3) := by decide +kernel
theorem dX6_commonRoot_27 : decode cX6_commonRoot 27 = .ok (.aload_n 0, 1) := by decide +kernel
theorem dX6_commonRoot_28 : decode cX6_commonRoot 28 = .ok (.iload_n 2, 1) := by decide +kernel
theorem dX6_commonRoot_29 : decode cX6_commonRoot 29 = .ok (.iload_n 3, 1) := by decide +kernel
theorem dX6_commonRoot_30 : decode cX6_commonRoot 30 = .ok (.invokevirtual 145, 3) := by decide +kernel
theorem dX6_commonRoot_33 : decode cX6_commonRoot 33 = .ok (.ifCond .ne 7, 3) := by decide +kernel
theorem dX6_commonRoot_36 : decode cX6_commonRoot 36 = .ok (.iconst 1, 1) := by decide +kernel
theorem dX6_commonRoot_37 : decode cX6_commonRoot 37 = .ok (.goto 4, 3) := by decide +kernel
theorem dX6_commonRoot_40 : decode cX6_commonRoot 40 = .ok (.iconst 0, 1) := by decide +kernel
theorem dX6_commonRoot_41 : decode cX6_commonRoot 41 = .ok (.iconst 2, 1) := by decide +kernel
theorem dX6_commonRoot_42 : decode cX6_commonRoot 42 = .ok (.invokevirtual 34, 3) := by decide +kernel
theorem dX6_commonRoot_45 : decode cX6_commonRoot 45 = .ok (.ifCond .eq 5, 3) := by decide +kernel
theorem dX6_commonRoot_48 : decode cX6_commonRoot 48 = .ok (.iconst 0, 1) := by decide +kernel
theorem dX6_commonRoot_49 : decode cX6_commonRoot 49 = .ok (.ireturn, 1) := by decide +kernel
theorem dX6_commonRoot_50 : decode cX6_commonRoot 50 = .ok (.aload_n 0, 1) := by decide +kernel
theorem dX6_commonRoot_51 : decode cX6_commonRoot 51 = .ok (.getfield 13, 3) := by decide +kernel
theorem dX6_commonRoot_54 : decode cX6_commonRoot 54 = .ok (.iload_n 2, 1) := by decide +kernel
theorem dX6_commonRoot_55 : decode cX6_commonRoot 55 = .ok (.iaload, 1) := by decide +kernel
theorem dX6_commonRoot_56 : decode cX6_commonRoot 56 = .ok (.ifCond .ne 7, 3) := by decide +kernel
theorem dX6_commonRoot_59 : decode cX6_commonRoot 59 = .ok (.iload_n 3, 1) := by decide +kernel
theorem dX6_commonRoot_60 : decode cX6_commonRoot 60 = .ok (.goto 4, 3) := by decide +kernel
theorem dX6_commonRoot_63 : decode cX6_commonRoot 63 = .ok (.iload_n 2, 1) := by decide +kernel
theorem dX6_commonRoot_64 : decode cX6_commonRoot 64 = .ok (.istore 4, 2) := by decide +kernel
theorem dX6_commonRoot_66 : decode cX6_commonRoot 66 = .ok (.aload_n 0, 1) := by decide +kernel
theorem dX6_commonRoot_67 : decode cX6_commonRoot 67 = .ok (.iload_n 1, 1) := by decide +kernel
theorem dX6_commonRoot_68 : decode cX6_commonRoot 68 = .ok (.iload 4, 2) := by decide +kernel
theorem dX6_commonRoot_70 : decode cX6_commonRoot 70 = .ok (.invokestatic 58, 3) := by decide +kernel
theorem dX6_commonRoot_73 : decode cX6_commonRoot 73 = .ok (.aload_n 0, 1) := by decide +kernel
theorem dX6_commonRoot_74 : decode cX6_commonRoot 74 = .ok (.iload 4, 2) := by decide +kernel
theorem dX6_commonRoot_76 : decode cX6_commonRoot 76 = .ok (.invokevirtual 120, 3) := by decide +kernel
theorem dX6_commonRoot_79 : decode cX6_commonRoot 79 = .ok (.invokevirtual 82, 3) := by decide +kernel
theorem dX6_commonRoot_82 : decode cX6_commonRoot 82 = .ok (.ireturn, 1) := by decide +kernel
theorem dX6_isOf_0 : decode cX6_isOf 0 = .ok (.iload_n 1, 1) := by decide +kernel
theorem dX6_isOf_1 : decode cX6_isOf 1 = .ok (.iload_n 2, 1) := by decide +kernel
theorem dX6_isOf_2 : decode cX6_isOf 2 = .ok (.ishr, 1) := by decide +kernel
theorem dX6_isOf_3 : decode cX6_isOf 3 = .ok (.iconst 1, 1) := by decide +kernel
theorem dX6_isOf_4 : decode cX6_isOf 4 = .ok (.iand, 1) := by decide +kernel
theorem dX6_isOf_5 : decode cX6_isOf 5 = .ok (.iconst 1, 1) := by decide +kernel
theorem dX6_isOf_6 : decode cX6_isOf 6 = .ok (.if_icmp .ne 16, 3) := by decide +kernel
theorem dX6_isOf_9 : decode cX6_isOf 9 = .ok (.aload_n 0, 1) := by decide +kernel
theorem dX6_isOf_10 : decode cX6_isOf 10 = .ok (.getfield 13, 3) := by decide +kernel
theorem dX6_isOf_13 : decode cX6_isOf 13 = .ok (.iload_n 2, 1) := by decide +kernel
theorem dX6_isOf_14 : decode cX6_isOf 14 = .ok (.iaload, 1) := by decide +kernel
theorem dX6_isOf_15 : decode cX6_isOf 15 = .ok (.ifCond .le 7, 3) := by decide +kernel
theorem dX6_isOf_18 : decode cX6_isOf 18 = .ok (.iconst 1, 1) := by decide +kernel
theorem dX6_isOf_19 : decode cX6_isOf 19 = .ok (.goto 4, 3) := by decide +kernel
theorem dX6_isOf_22 : decode cX6_isOf 22 = .ok (.iconst 0, 1) := by decide +kernel
theorem dX6_isOf_23 : decode cX6_isOf 23 = .ok (.ireturn, 1) := by decide +kernel
set_option maxRecDepth 20000 in
theorem ggX6_ways_X6_isNo : GoodIn wsX6_ways wsX6_isNo := goodIn_r _ [8, 9, 10, 11, 7, 12, 13, 14, 15, 16, 17, 30, 31, 32, 33, 34] (by decide +kernel) (by decide +kernel)
set_option maxRecDepth 20000 in
theorem gX6_ways_X6_isNo : GoodIn wsX6_ways (wsV RX6 38 RX6 yX6_isNo wsX6_isNo) := goodIn_app (goodIn_of _ (by decide +kernel)) ggX6_ways_X6_isNo
set_option maxRecDepth 20000 in
theorem ggX6_ways_X6_isIn : GoodIn wsX6_ways wsX6_isIn := goodIn_r _ [12] (by decide +kernel) (by decide +kernel)
set_option maxRecDepth 20000 in
theorem gX6_ways_X6_isIn : GoodIn wsX6_ways (va_wsS RX6 30 yX6_isIn wsX6_isIn) := goodIn_app (goodIn_of _ (by decide +kernel)) ggX6_ways_X6_isIn
set_option maxRecDepth 20000 in
theorem ggX6_ways_X6_isThrown : GoodIn wsX6_ways wsX6_isThrown := goodIn_r _ [16, 17, 30, 31, 32, 33, 34] (by decide +kernel) (by decide +kernel)
set_option maxRecDepth 20000 in
theorem gX6_ways_X6_isThrown : GoodIn wsX6_ways (wsV RX6 34 RX6 yX6_isThrown wsX6_isThrown) := goodIn_app (goodIn_of _ (by decide +kernel)) ggX6_ways_X6_isThrown
set_option maxRecDepth 20000 in
theorem ggX6_ways_X6_isOf : GoodIn wsX6_ways wsX6_isOf := goodIn_ca (goodIn_r _ [21, 3, 30, 31, 32, 33, 34] (by decide +kernel) (by decide +kernel)) (goodIn_sub (fun _ h => List.mem_cons_of_mem _ (List.mem_append_right _ h)) (by decide +kernel))
set_option maxRecDepth 20000 in
theorem gX6_ways_X6_isOf : GoodIn wsX6_ways (wsV RX6 150 RX6 yX6_isOf wsX6_isOf) := goodIn_app (goodIn_of _ (by decide +kernel)) ggX6_ways_X6_isOf
set_option maxRecDepth 20000 in
theorem ggX6_ways_X6_baseOf : GoodIn wsX6_ways wsX6_baseOf := goodIn_r _ [24] (by decide +kernel) (by decide +kernel)
set_option maxRecDepth 20000 in
theorem gX6_ways_X6_baseOf : GoodIn wsX6_ways (va_wsS RX6 58 yX6_baseOf wsX6_baseOf) := goodIn_app (goodIn_of _ (by decide +kernel)) ggX6_ways_X6_baseOf
set_option maxRecDepth 20000 in
theorem ggX6_ways_X6_standsAt : GoodIn wsX6_ways wsX6_standsAt := goodIn_ca (goodIn_r _ [28, 29, 30, 31, 32, 33, 34] (by decide +kernel) (by decide +kernel)) (goodIn_sub (fun _ h => List.mem_cons_of_mem _ (List.mem_append_right _ h)) (by decide +kernel))
set_option maxRecDepth 20000 in
theorem gX6_ways_X6_standsAt : GoodIn wsX6_ways (wsV RX6 46 RX6 yX6_standsAt wsX6_standsAt) := goodIn_app (goodIn_of _ (by decide +kernel)) ggX6_ways_X6_standsAt
theorem dX6_ways_0 : decode cX6_ways 0 = .ok (.aload_n 0, 1) := by decide +kernel
theorem dX6_ways_1 : decode cX6_ways 1 = .ok (.iload_n 1, 1) := by decide +kernel
theorem dX6_ways_2 : decode cX6_ways 2 = .ok (.invokevirtual 38, 3) := by decide +kernel
theorem dX6_ways_5 : decode cX6_ways 5 = .ok (.ifCond .ne 28, 3) := by decide +kernel
theorem dX6_ways_8 : decode cX6_ways 8 = .ok (.aload_n 0, 1) := by decide +kernel
theorem dX6_ways_9 : decode cX6_ways 9 = .ok (.iload_n 2, 1) := by decide +kernel
theorem dX6_ways_10 : decode cX6_ways 10 = .ok (.i2l, 1) := by decide +kernel
theorem dX6_ways_11 : decode cX6_ways 11 = .ok (.lconst 0, 1) := by decide +kernel
theorem dX6_ways_12 : decode cX6_ways 12 = .ok (.ldc2_w 148, 3) := by decide +kernel
theorem dX6_ways_15 : decode cX6_ways 15 = .ok (.invokestatic 30, 3) := by decide +kernel
theorem dX6_ways_18 : decode cX6_ways 18 = .ok (.ifCond .ne 7, 3) := by decide +kernel
theorem dX6_ways_21 : decode cX6_ways 21 = .ok (.iconst 1, 1) := by decide +kernel
theorem dX6_ways_22 : decode cX6_ways 22 = .ok (.goto 4, 3) := by decide +kernel
theorem dX6_ways_25 : decode cX6_ways 25 = .ok (.iconst 0, 1) := by decide +kernel
theorem dX6_ways_26 : decode cX6_ways 26 = .ok (.iconst 2, 1) := by decide +kernel
theorem dX6_ways_27 : decode cX6_ways 27 = .ok (.invokevirtual 34, 3) := by decide +kernel
theorem dX6_ways_30 : decode cX6_ways 30 = .ok (.ifCond .eq 5, 3) := by decide +kernel
theorem dX6_ways_33 : decode cX6_ways 33 = .ok (.lconst 0, 1) := by decide +kernel
theorem dX6_ways_34 : decode cX6_ways 34 = .ok (.lreturn, 1) := by decide +kernel
theorem dX6_ways_35 : decode cX6_ways 35 = .ok (.iconst 0, 1) := by decide +kernel
theorem dX6_ways_36 : decode cX6_ways 36 = .ok (.istore_n 3, 1) := by decide +kernel
theorem dX6_ways_37 : decode cX6_ways 37 = .ok (.iload_n 3, 1) := by decide +kernel
theorem dX6_ways_38 : decode cX6_ways 38 = .ok (.bipush 120, 2) := by decide +kernel
theorem dX6_ways_40 : decode cX6_ways 40 = .ok (.if_icmp .gt 24, 3) := by decide +kernel
theorem dX6_ways_43 : decode cX6_ways 43 = .ok (.aload_n 0, 1) := by decide +kernel
theorem dX6_ways_44 : decode cX6_ways 44 = .ok (.getfield 16, 3) := by decide +kernel
theorem dX6_ways_47 : decode cX6_ways 47 = .ok (.iload_n 3, 1) := by decide +kernel
theorem dX6_ways_48 : decode cX6_ways 48 = .ok (.iload_n 3, 1) := by decide +kernel
theorem dX6_ways_49 : decode cX6_ways 49 = .ok (.ifCond .ne 7, 3) := by decide +kernel
theorem dX6_ways_52 : decode cX6_ways 52 = .ok (.lconst 1, 1) := by decide +kernel
theorem dX6_ways_53 : decode cX6_ways 53 = .ok (.goto 4, 3) := by decide +kernel
theorem dX6_ways_56 : decode cX6_ways 56 = .ok (.lconst 0, 1) := by decide +kernel
theorem dX6_ways_57 : decode cX6_ways 57 = .ok (.lastore, 1) := by decide +kernel
theorem dX6_ways_58 : decode cX6_ways 58 = .ok (.iinc 3 1, 3) := by decide +kernel
theorem dX6_ways_61 : decode cX6_ways 61 = .ok (.goto (-24), 3) := by decide +kernel
theorem dX6_ways_64 : decode cX6_ways 64 = .ok (.iconst 0, 1) := by decide +kernel
theorem dX6_ways_65 : decode cX6_ways 65 = .ok (.istore_n 3, 1) := by decide +kernel
theorem dX6_ways_66 : decode cX6_ways 66 = .ok (.iload_n 3, 1) := by decide +kernel
theorem dX6_ways_67 : decode cX6_ways 67 = .ok (.aload_n 0, 1) := by decide +kernel
theorem dX6_ways_68 : decode cX6_ways 68 = .ok (.getfield 13, 3) := by decide +kernel
theorem dX6_ways_71 : decode cX6_ways 71 = .ok (.iload_n 1, 1) := by decide +kernel
theorem dX6_ways_72 : decode cX6_ways 72 = .ok (.iaload, 1) := by decide +kernel
theorem dX6_ways_73 : decode cX6_ways 73 = .ok (.if_icmp .ge 88, 3) := by decide +kernel
theorem dX6_ways_76 : decode cX6_ways 76 = .ok (.iconst 0, 1) := by decide +kernel
theorem dX6_ways_77 : decode cX6_ways 77 = .ok (.istore 4, 2) := by decide +kernel
theorem dX6_ways_79 : decode cX6_ways 79 = .ok (.iload 4, 2) := by decide +kernel
theorem dX6_ways_81 : decode cX6_ways 81 = .ok (.bipush 6, 2) := by decide +kernel
theorem dX6_ways_83 : decode cX6_ways 83 = .ok (.if_icmp .ge 72, 3) := by decide +kernel
theorem dX6_ways_86 : decode cX6_ways 86 = .ok (.aload_n 0, 1) := by decide +kernel
theorem dX6_ways_87 : decode cX6_ways 87 = .ok (.iload_n 2, 1) := by decide +kernel
theorem dX6_ways_88 : decode cX6_ways 88 = .ok (.iload 4, 2) := by decide +kernel
theorem dX6_ways_90 : decode cX6_ways 90 = .ok (.invokevirtual 150, 3) := by decide +kernel
theorem dX6_ways_93 : decode cX6_ways 93 = .ok (.ifCond .eq 56, 3) := by decide +kernel
theorem dX6_ways_96 : decode cX6_ways 96 = .ok (.aload_n 0, 1) := by decide +kernel
theorem dX6_ways_97 : decode cX6_ways 97 = .ok (.iload_n 1, 1) := by decide +kernel
theorem dX6_ways_98 : decode cX6_ways 98 = .ok (.invokestatic 58, 3) := by decide +kernel
theorem dX6_ways_101 : decode cX6_ways 101 = .ok (.aload_n 0, 1) := by decide +kernel
theorem dX6_ways_102 : decode cX6_ways 102 = .ok (.getfield 13, 3) := by decide +kernel
theorem dX6_ways_105 : decode cX6_ways 105 = .ok (.iload_n 1, 1) := by decide +kernel
theorem dX6_ways_106 : decode cX6_ways 106 = .ok (.iaload, 1) := by decide +kernel
theorem dX6_ways_107 : decode cX6_ways 107 = .ok (.iload 4, 2) := by decide +kernel
theorem dX6_ways_109 : decode cX6_ways 109 = .ok (.invokestatic 58, 3) := by decide +kernel
theorem dX6_ways_112 : decode cX6_ways 112 = .ok (.aload_n 0, 1) := by decide +kernel
theorem dX6_ways_113 : decode cX6_ways 113 = .ok (.getfield 13, 3) := by decide +kernel
theorem dX6_ways_116 : decode cX6_ways 116 = .ok (.iload 4, 2) := by decide +kernel
theorem dX6_ways_118 : decode cX6_ways 118 = .ok (.iaload, 1) := by decide +kernel
theorem dX6_ways_119 : decode cX6_ways 119 = .ok (.iload_n 3, 1) := by decide +kernel
theorem dX6_ways_120 : decode cX6_ways 120 = .ok (.invokevirtual 46, 3) := by decide +kernel
theorem dX6_ways_123 : decode cX6_ways 123 = .ok (.ifCond .eq 26, 3) := by decide +kernel
theorem dX6_ways_126 : decode cX6_ways 126 = .ok (.aload_n 0, 1) := by decide +kernel
theorem dX6_ways_127 : decode cX6_ways 127 = .ok (.getfield 16, 3) := by decide +kernel
theorem dX6_ways_130 : decode cX6_ways 130 = .ok (.iload_n 3, 1) := by decide +kernel
theorem dX6_ways_131 : decode cX6_ways 131 = .ok (.aload_n 0, 1) := by decide +kernel
theorem dX6_ways_132 : decode cX6_ways 132 = .ok (.getfield 13, 3) := by decide +kernel
theorem dX6_ways_135 : decode cX6_ways 135 = .ok (.iload 4, 2) := by decide +kernel
theorem dX6_ways_137 : decode cX6_ways 137 = .ok (.iaload, 1) := by decide +kernel
theorem dX6_ways_138 : decode cX6_ways 138 = .ok (.iadd, 1) := by decide +kernel
theorem dX6_ways_139 : decode cX6_ways 139 = .ok (.dup2, 1) := by decide +kernel
theorem dX6_ways_140 : decode cX6_ways 140 = .ok (.laload, 1) := by decide +kernel
theorem dX6_ways_141 : decode cX6_ways 141 = .ok (.aload_n 0, 1) := by decide +kernel
theorem dX6_ways_142 : decode cX6_ways 142 = .ok (.getfield 16, 3) := by decide +kernel
theorem dX6_ways_145 : decode cX6_ways 145 = .ok (.iload_n 3, 1) := by decide +kernel
theorem dX6_ways_146 : decode cX6_ways 146 = .ok (.laload, 1) := by decide +kernel
theorem dX6_ways_147 : decode cX6_ways 147 = .ok (.ladd, 1) := by decide +kernel
theorem dX6_ways_148 : decode cX6_ways 148 = .ok (.lastore, 1) := by decide +kernel
theorem dX6_ways_149 : decode cX6_ways 149 = .ok (.iinc 4 1, 3) := by decide +kernel
theorem dX6_ways_152 : decode cX6_ways 152 = .ok (.goto (-73), 3) := by decide +kernel
theorem dX6_ways_155 : decode cX6_ways 155 = .ok (.iinc 3 1, 3) := by decide +kernel
theorem dX6_ways_158 : decode cX6_ways 158 = .ok (.goto (-92), 3) := by decide +kernel
theorem dX6_ways_161 : decode cX6_ways 161 = .ok (.aload_n 0, 1) := by decide +kernel
theorem dX6_ways_162 : decode cX6_ways 162 = .ok (.getfield 16, 3) := by decide +kernel
theorem dX6_ways_165 : decode cX6_ways 165 = .ok (.aload_n 0, 1) := by decide +kernel
theorem dX6_ways_166 : decode cX6_ways 166 = .ok (.getfield 13, 3) := by decide +kernel
theorem dX6_ways_169 : decode cX6_ways 169 = .ok (.iload_n 1, 1) := by decide +kernel
theorem dX6_ways_170 : decode cX6_ways 170 = .ok (.iaload, 1) := by decide +kernel
theorem dX6_ways_171 : decode cX6_ways 171 = .ok (.laload, 1) := by decide +kernel
theorem dX6_ways_172 : decode cX6_ways 172 = .ok (.lreturn, 1) := by decide +kernel
set_option maxRecDepth 20000 in
theorem ggX6_meets_X6_baseOf : GoodIn wsX6_meets wsX6_baseOf := goodIn_r _ [6] (by decide +kernel) (by decide +kernel)
set_option maxRecDepth 20000 in
theorem gX6_meets_X6_baseOf : GoodIn wsX6_meets (va_wsS RX6 58 yX6_baseOf wsX6_baseOf) := goodIn_app (goodIn_of _ (by decide +kernel)) ggX6_meets_X6_baseOf
set_option maxRecDepth 20000 in
theorem ggX6_meets_X6_areSame : GoodIn wsX6_meets wsX6_areSame := goodIn_ca (goodIn_r _ [10, 11, 12, 13, 5, 14, 15, 16, 17, 18, 19, 20] (by decide +kernel) (by decide +kernel)) (goodIn_sub (fun _ h => List.mem_cons_of_mem _ (List.mem_append_right _ h)) (by decide +kernel))
set_option maxRecDepth 20000 in
theorem gX6_meets_X6_areSame : GoodIn wsX6_meets (wsV RX6 101 RX6 yX6_areSame wsX6_areSame) := goodIn_app (goodIn_of _ (by decide +kernel)) ggX6_meets_X6_areSame
set_option maxRecDepth 20000 in
theorem ggX6_meets_X6_standsAt : GoodIn wsX6_meets wsX6_standsAt := goodIn_ca (goodIn_r _ [14, 15, 16, 17, 18, 19, 20] (by decide +kernel) (by decide +kernel)) (goodIn_sub (fun _ h => List.mem_cons_of_mem _ (List.mem_append_right _ h)) (by decide +kernel))
set_option maxRecDepth 20000 in
theorem gX6_meets_X6_standsAt : GoodIn wsX6_meets (wsV RX6 46 RX6 yX6_standsAt wsX6_standsAt) := goodIn_app (goodIn_of _ (by decide +kernel)) ggX6_meets_X6_standsAt
theorem dX6_meets_0 : decode cX6_meets 0 = .ok (.iload_n 1, 1) := by decide +kernel
theorem dX6_meets_1 : decode cX6_meets 1 = .ok (.invokestatic 58, 3) := by decide +kernel
theorem dX6_meets_4 : decode cX6_meets 4 = .ok (.iload_n 2, 1) := by decide +kernel
theorem dX6_meets_5 : decode cX6_meets 5 = .ok (.iadd, 1) := by decide +kernel
theorem dX6_meets_6 : decode cX6_meets 6 = .ok (.istore 4, 2) := by decide +kernel
theorem dX6_meets_8 : decode cX6_meets 8 = .ok (.aload_n 0, 1) := by decide +kernel
theorem dX6_meets_9 : decode cX6_meets 9 = .ok (.getfield 13, 3) := by decide +kernel
theorem dX6_meets_12 : decode cX6_meets 12 = .ok (.iload_n 1, 1) := by decide +kernel
theorem dX6_meets_13 : decode cX6_meets 13 = .ok (.iaload, 1) := by decide +kernel
theorem dX6_meets_14 : decode cX6_meets 14 = .ok (.iload_n 2, 1) := by decide +kernel
theorem dX6_meets_15 : decode cX6_meets 15 = .ok (.isub, 1) := by decide +kernel
theorem dX6_meets_16 : decode cX6_meets 16 = .ok (.istore 5, 2) := by decide +kernel
theorem dX6_meets_18 : decode cX6_meets 18 = .ok (.aload_n 0, 1) := by decide +kernel
theorem dX6_meets_19 : decode cX6_meets 19 = .ok (.iload 4, 2) := by decide +kernel
theorem dX6_meets_21 : decode cX6_meets 21 = .ok (.iload 5, 2) := by decide +kernel
theorem dX6_meets_23 : decode cX6_meets 23 = .ok (.iload_n 3, 1) := by decide +kernel
theorem dX6_meets_24 : decode cX6_meets 24 = .ok (.invokestatic 58, 3) := by decide +kernel
theorem dX6_meets_27 : decode cX6_meets 27 = .ok (.aload_n 0, 1) := by decide +kernel
theorem dX6_meets_28 : decode cX6_meets 28 = .ok (.getfield 13, 3) := by decide +kernel
theorem dX6_meets_31 : decode cX6_meets 31 = .ok (.iload_n 3, 1) := by decide +kernel
theorem dX6_meets_32 : decode cX6_meets 32 = .ok (.iaload, 1) := by decide +kernel
theorem dX6_meets_33 : decode cX6_meets 33 = .ok (.invokevirtual 101, 3) := by decide +kernel
theorem dX6_meets_36 : decode cX6_meets 36 = .ok (.ifCond .eq 5, 3) := by decide +kernel
theorem dX6_meets_39 : decode cX6_meets 39 = .ok (.iconst 1, 1) := by decide +kernel
theorem dX6_meets_40 : decode cX6_meets 40 = .ok (.ireturn, 1) := by decide +kernel
theorem dX6_meets_41 : decode cX6_meets 41 = .ok (.aload_n 0, 1) := by decide +kernel
theorem dX6_meets_42 : decode cX6_meets 42 = .ok (.iload_n 3, 1) := by decide +kernel
theorem dX6_meets_43 : decode cX6_meets 43 = .ok (.invokestatic 58, 3) := by decide +kernel
theorem dX6_meets_46 : decode cX6_meets 46 = .ok (.aload_n 0, 1) := by decide +kernel
theorem dX6_meets_47 : decode cX6_meets 47 = .ok (.getfield 13, 3) := by decide +kernel
theorem dX6_meets_50 : decode cX6_meets 50 = .ok (.iload_n 3, 1) := by decide +kernel
theorem dX6_meets_51 : decode cX6_meets 51 = .ok (.iaload, 1) := by decide +kernel
theorem dX6_meets_52 : decode cX6_meets 52 = .ok (.iload 4, 2) := by decide +kernel
theorem dX6_meets_54 : decode cX6_meets 54 = .ok (.iload 5, 2) := by decide +kernel
theorem dX6_meets_56 : decode cX6_meets 56 = .ok (.iconst 0, 1) := by decide +kernel
theorem dX6_meets_57 : decode cX6_meets 57 = .ok (.invokevirtual 46, 3) := by decide +kernel
theorem dX6_meets_60 : decode cX6_meets 60 = .ok (.ifCond .eq 19, 3) := by decide +kernel
theorem dX6_meets_63 : decode cX6_meets 63 = .ok (.aload_n 0, 1) := by decide +kernel
theorem dX6_meets_64 : decode cX6_meets 64 = .ok (.getfield 20, 3) := by decide +kernel
theorem dX6_meets_67 : decode cX6_meets 67 = .ok (.iload_n 3, 1) := by decide +kernel
theorem dX6_meets_68 : decode cX6_meets 68 = .ok (.invokestatic 58, 3) := by decide +kernel
theorem dX6_meets_71 : decode cX6_meets 71 = .ok (.iload 5, 2) := by decide +kernel
theorem dX6_meets_73 : decode cX6_meets 73 = .ok (.iadd, 1) := by decide +kernel
theorem dX6_meets_74 : decode cX6_meets 74 = .ok (.iconst 1, 1) := by decide +kernel
theorem dX6_meets_75 : decode cX6_meets 75 = .ok (.bastore, 1) := by decide +kernel
theorem dX6_meets_76 : decode cX6_meets 76 = .ok (.goto 40, 3) := by decide +kernel
theorem dX6_meets_79 : decode cX6_meets 79 = .ok (.aload_n 0, 1) := by decide +kernel
theorem dX6_meets_80 : decode cX6_meets 80 = .ok (.iload 4, 2) := by decide +kernel
theorem dX6_meets_82 : decode cX6_meets 82 = .ok (.iload 5, 2) := by decide +kernel
theorem dX6_meets_84 : decode cX6_meets 84 = .ok (.iload_n 3, 1) := by decide +kernel
theorem dX6_meets_85 : decode cX6_meets 85 = .ok (.invokestatic 58, 3) := by decide +kernel
theorem dX6_meets_88 : decode cX6_meets 88 = .ok (.aload_n 0, 1) := by decide +kernel
theorem dX6_meets_89 : decode cX6_meets 89 = .ok (.getfield 13, 3) := by decide +kernel
theorem dX6_meets_92 : decode cX6_meets 92 = .ok (.iload_n 3, 1) := by decide +kernel
theorem dX6_meets_93 : decode cX6_meets 93 = .ok (.iaload, 1) := by decide +kernel
theorem dX6_meets_94 : decode cX6_meets 94 = .ok (.iconst 0, 1) := by decide +kernel
theorem dX6_meets_95 : decode cX6_meets 95 = .ok (.invokevirtual 46, 3) := by decide +kernel
theorem dX6_meets_98 : decode cX6_meets 98 = .ok (.ifCond .eq 18, 3) := by decide +kernel
theorem dX6_meets_101 : decode cX6_meets 101 = .ok (.aload_n 0, 1) := by decide +kernel
theorem dX6_meets_102 : decode cX6_meets 102 = .ok (.getfield 20, 3) := by decide +kernel
theorem dX6_meets_105 : decode cX6_meets 105 = .ok (.iload 4, 2) := by decide +kernel
theorem dX6_meets_107 : decode cX6_meets 107 = .ok (.aload_n 0, 1) := by decide +kernel
theorem dX6_meets_108 : decode cX6_meets 108 = .ok (.getfield 13, 3) := by decide +kernel
theorem dX6_meets_111 : decode cX6_meets 111 = .ok (.iload_n 3, 1) := by decide +kernel
theorem dX6_meets_112 : decode cX6_meets 112 = .ok (.iaload, 1) := by decide +kernel
theorem dX6_meets_113 : decode cX6_meets 113 = .ok (.iadd, 1) := by decide +kernel
theorem dX6_meets_114 : decode cX6_meets 114 = .ok (.iconst 1, 1) := by decide +kernel
theorem dX6_meets_115 : decode cX6_meets 115 = .ok (.bastore, 1) := by decide +kernel
theorem dX6_meets_116 : decode cX6_meets 116 = .ok (.iconst 0, 1) := by decide +kernel
theorem dX6_meets_117 : decode cX6_meets 117 = .ok (.ireturn, 1) := by decide +kernel
set_option maxRecDepth 20000 in
theorem ggX6_meetsAny_X6_isOf : GoodIn wsX6_meetsAny wsX6_isOf := goodIn_ca (goodIn_r _ [5, 6, 24, 25, 26, 27, 28] (by decide +kernel) (by decide +kernel)) (goodIn_sub (fun _ h => List.mem_cons_of_mem _ (List.mem_append_right _ h)) (by decide +kernel))
set_option maxRecDepth 20000 in
theorem gX6_meetsAny_X6_isOf : GoodIn wsX6_meetsAny (wsV RX6 150 RX6 yX6_isOf wsX6_isOf) := goodIn_app (goodIn_of _ (by decide +kernel)) ggX6_meetsAny_X6_isOf
set_option maxRecDepth 20000 in
theorem ggX6_meetsAny_X6_meets : GoodIn wsX6_meetsAny wsX6_meets := goodIn_ca (goodIn_r _ [10, 6, 11, 12, 13, 4, 14, 15, 16, 17, 18, 19, 20, 21, 22, 23, 24, 25, 26, 27, 28] (by decide +kernel) (by decide +kernel)) (goodIn_sub (fun _ h => List.mem_cons_of_mem _ (List.mem_append_right _ h)) (by decide +kernel))
set_option maxRecDepth 20000 in
theorem gX6_meetsAny_X6_meets : GoodIn wsX6_meetsAny (wsV RX6 153 RX6 yX6_meets wsX6_meets) := goodIn_app (goodIn_of _ (by decide +kernel)) ggX6_meetsAny_X6_meets
theorem dX6_meetsAny_0 : decode cX6_meetsAny 0 = .ok (.iconst 0, 1) := by decide +kernel
theorem dX6_meetsAny_1 : decode cX6_meetsAny 1 = .ok (.istore 4, 2) := by decide +kernel
theorem dX6_meetsAny_3 : decode cX6_meetsAny 3 = .ok (.iconst 0, 1) := by decide +kernel
theorem dX6_meetsAny_4 : decode cX6_meetsAny 4 = .ok (.istore 5, 2) := by decide +kernel
theorem dX6_meetsAny_6 : decode cX6_meetsAny 6 = .ok (.iload 5, 2) := by decide +kernel
theorem dX6_meetsAny_8 : decode cX6_meetsAny 8 = .ok (.bipush 6, 2) := by decide +kernel
theorem dX6_meetsAny_10 : decode cX6_meetsAny 10 = .ok (.if_icmp .ge 64, 3) := by decide +kernel
theorem dX6_meetsAny_13 : decode cX6_meetsAny 13 = .ok (.iload_n 3, 1) := by decide +kernel
theorem dX6_meetsAny_14 : decode cX6_meetsAny 14 = .ok (.ifCond .ne 13, 3) := by decide +kernel
theorem dX6_meetsAny_17 : decode cX6_meetsAny 17 = .ok (.iload 5, 2) := by decide +kernel
theorem dX6_meetsAny_19 : decode cX6_meetsAny 19 = .ok (.iload_n 2, 1) := by decide +kernel
theorem dX6_meetsAny_20 : decode cX6_meetsAny 20 = .ok (.if_icmp .ne 7, 3) := by decide +kernel
theorem dX6_meetsAny_23 : decode cX6_meetsAny 23 = .ok (.iconst 1, 1) := by decide +kernel
theorem dX6_meetsAny_24 : decode cX6_meetsAny 24 = .ok (.goto 4, 3) := by decide +kernel
theorem dX6_meetsAny_27 : decode cX6_meetsAny 27 = .ok (.iconst 0, 1) := by decide +kernel
theorem dX6_meetsAny_28 : decode cX6_meetsAny 28 = .ok (.istore 6, 2) := by decide +kernel
theorem dX6_meetsAny_30 : decode cX6_meetsAny 30 = .ok (.iload 4, 2) := by decide +kernel
theorem dX6_meetsAny_32 : decode cX6_meetsAny 32 = .ok (.ifCond .ne 29, 3) := by decide +kernel
theorem dX6_meetsAny_35 : decode cX6_meetsAny 35 = .ok (.aload_n 0, 1) := by decide +kernel
theorem dX6_meetsAny_36 : decode cX6_meetsAny 36 = .ok (.iload_n 1, 1) := by decide +kernel
theorem dX6_meetsAny_37 : decode cX6_meetsAny 37 = .ok (.iload 5, 2) := by decide +kernel
theorem dX6_meetsAny_39 : decode cX6_meetsAny 39 = .ok (.invokevirtual 150, 3) := by decide +kernel
theorem dX6_meetsAny_42 : decode cX6_meetsAny 42 = .ok (.ifCond .eq 23, 3) := by decide +kernel
theorem dX6_meetsAny_45 : decode cX6_meetsAny 45 = .ok (.iload 6, 2) := by decide +kernel
theorem dX6_meetsAny_47 : decode cX6_meetsAny 47 = .ok (.ifCond .ne 18, 3) := by decide +kernel
theorem dX6_meetsAny_50 : decode cX6_meetsAny 50 = .ok (.aload_n 0, 1) := by decide +kernel
theorem dX6_meetsAny_51 : decode cX6_meetsAny 51 = .ok (.iload_n 2, 1) := by decide +kernel
theorem dX6_meetsAny_52 : decode cX6_meetsAny 52 = .ok (.iload_n 3, 1) := by decide +kernel
theorem dX6_meetsAny_53 : decode cX6_meetsAny 53 = .ok (.iload 5, 2) := by decide +kernel
theorem dX6_meetsAny_55 : decode cX6_meetsAny 55 = .ok (.invokevirtual 153, 3) := by decide +kernel
theorem dX6_meetsAny_58 : decode cX6_meetsAny 58 = .ok (.ifCond .eq 7, 3) := by decide +kernel
theorem dX6_meetsAny_61 : decode cX6_meetsAny 61 = .ok (.iconst 1, 1) := by decide +kernel
theorem dX6_meetsAny_62 : decode cX6_meetsAny 62 = .ok (.goto 4, 3) := by decide +kernel
theorem dX6_meetsAny_65 : decode cX6_meetsAny 65 = .ok (.iconst 0, 1) := by decide +kernel
theorem dX6_meetsAny_66 : decode cX6_meetsAny 66 = .ok (.istore 4, 2) := by decide +kernel
theorem dX6_meetsAny_68 : decode cX6_meetsAny 68 = .ok (.iinc 5 1, 3) := by decide +kernel
theorem dX6_meetsAny_71 : decode cX6_meetsAny 71 = .ok (.goto (-65), 3) := by decide +kernel
theorem dX6_meetsAny_74 : decode cX6_meetsAny 74 = .ok (.iload 4, 2) := by decide +kernel
theorem dX6_meetsAny_76 : decode cX6_meetsAny 76 = .ok (.ireturn, 1) := by decide +kernel
theorem dX6_openMany_0 : decode cX6_openMany 0 = .ok (.iconst 0, 1) := by decide +kernel
theorem dX6_openMany_1 : decode cX6_openMany 1 = .ok (.istore_n 1, 1) := by decide +kernel
theorem dX6_openMany_2 : decode cX6_openMany 2 = .ok (.iconst 0, 1) := by decide +kernel
theorem dX6_openMany_3 : decode cX6_openMany 3 = .ok (.istore_n 2, 1) := by decide +kernel
theorem dX6_openMany_4 : decode cX6_openMany 4 = .ok (.iload_n 2, 1) := by decide +kernel
theorem dX6_openMany_5 : decode cX6_openMany 5 = .ok (.sipush 360, 3) := by decide +kernel
theorem dX6_openMany_8 : decode cX6_openMany 8 = .ok (.if_icmp .ge 26, 3) := by decide +kernel
theorem dX6_openMany_11 : decode cX6_openMany 11 = .ok (.iload_n 1, 1) := by decide +kernel
theorem dX6_openMany_12 : decode cX6_openMany 12 = .ok (.aload_n 0, 1) := by decide +kernel
theorem dX6_openMany_13 : decode cX6_openMany 13 = .ok (.getfield 20, 3) := by decide +kernel
theorem dX6_openMany_16 : decode cX6_openMany 16 = .ok (.iload_n 2, 1) := by decide +kernel
theorem dX6_openMany_17 : decode cX6_openMany 17 = .ok (.baload, 1) := by decide +kernel
theorem dX6_openMany_18 : decode cX6_openMany 18 = .ok (.ifCond .eq 7, 3) := by decide +kernel
theorem dX6_openMany_21 : decode cX6_openMany 21 = .ok (.iconst 1, 1) := by decide +kernel
theorem dX6_openMany_22 : decode cX6_openMany 22 = .ok (.goto 4, 3) := by decide +kernel
theorem dX6_openMany_25 : decode cX6_openMany 25 = .ok (.iconst 0, 1) := by decide +kernel
theorem dX6_openMany_26 : decode cX6_openMany 26 = .ok (.iadd, 1) := by decide +kernel
theorem dX6_openMany_27 : decode cX6_openMany 27 = .ok (.istore_n 1, 1) := by decide +kernel
theorem dX6_openMany_28 : decode cX6_openMany 28 = .ok (.iinc 2 1, 3) := by decide +kernel
theorem dX6_openMany_31 : decode cX6_openMany 31 = .ok (.goto (-27), 3) := by decide +kernel
theorem dX6_openMany_34 : decode cX6_openMany 34 = .ok (.iload_n 1, 1) := by decide +kernel
theorem dX6_openMany_35 : decode cX6_openMany 35 = .ok (.ireturn, 1) := by decide +kernel
set_option maxRecDepth 20000 in
theorem ggX6_isFree_X6_isIn : GoodIn wsX6_isFree wsX6_isIn := goodIn_r _ [6] (by decide +kernel) (by decide +kernel)
set_option maxRecDepth 20000 in
theorem gX6_isFree_X6_isIn : GoodIn wsX6_isFree (va_wsS RX6 30 yX6_isIn wsX6_isIn) := goodIn_app (goodIn_of _ (by decide +kernel)) ggX6_isFree_X6_isIn
set_option maxRecDepth 20000 in
theorem ggX6_isFree_X6_isThrown : GoodIn wsX6_isFree wsX6_isThrown := goodIn_r _ [10, 11, 41, 42, 43, 44, 45] (by decide +kernel) (by decide +kernel)
set_option maxRecDepth 20000 in
theorem gX6_isFree_X6_isThrown : GoodIn wsX6_isFree (wsV RX6 34 RX6 yX6_isThrown wsX6_isThrown) := goodIn_app (goodIn_of _ (by decide +kernel)) ggX6_isFree_X6_isThrown
set_option maxRecDepth 20000 in
theorem ggX6_isFree_X6_isOf : GoodIn wsX6_isFree wsX6_isOf := goodIn_ca (goodIn_r _ [15, 16, 41, 42, 43, 44, 45] (by decide +kernel) (by decide +kernel)) (goodIn_sub (fun _ h => List.mem_cons_of_mem _ (List.mem_append_right _ h)) (by decide +kernel))
set_option maxRecDepth 20000 in
theorem gX6_isFree_X6_isOf : GoodIn wsX6_isFree (wsV RX6 150 RX6 yX6_isOf wsX6_isOf) := goodIn_app (goodIn_of _ (by decide +kernel)) ggX6_isFree_X6_isOf
set_option maxRecDepth 20000 in
theorem ggX6_isFree_X6_meetsAny : GoodIn wsX6_isFree wsX6_meetsAny := goodIn_ca (goodIn_r _ [20, 12, 13, 14, 5, 15, 16, 21, 22, 23, 24, 2, 25, 26, 27, 28, 29, 30, 31, 32, 33, 34, 35, 36, 41, 42, 43, 44, 45] (by decide +kernel) (by decide +kernel)) (goodIn_sub (fun _ h => List.mem_cons_of_mem _ (List.mem_append_right _ h)) (by decide +kernel))
set_option maxRecDepth 20000 in
theorem gX6_isFree_X6_meetsAny : GoodIn wsX6_isFree (wsV RX6 156 RX6 yX6_meetsAny wsX6_meetsAny) := goodIn_app (goodIn_of _ (by decide +kernel)) ggX6_isFree_X6_meetsAny
set_option maxRecDepth 20000 in
theorem ggX6_isFree_X6_openMany : GoodIn wsX6_isFree wsX6_openMany := goodIn_ca (goodIn_r _ [40, 2, 41, 42, 43, 44, 45] (by decide +kernel) (by decide +kernel)) (goodIn_sub (fun _ h => List.mem_cons_of_mem _ (List.mem_append_right _ h)) (by decide +kernel))
set_option maxRecDepth 20000 in
theorem gX6_isFree_X6_openMany : GoodIn wsX6_isFree (wsV RX6 159 RX6 yX6_openMany wsX6_openMany) := goodIn_app (goodIn_of _ (by decide +kernel)) ggX6_isFree_X6_openMany
theorem dX6_isFree_0 : decode cX6_isFree 0 = .ok (.aload_n 0, 1) := by decide +kernel
theorem dX6_isFree_1 : decode cX6_isFree 1 = .ok (.iload_n 1, 1) := by decide +kernel
theorem dX6_isFree_2 : decode cX6_isFree 2 = .ok (.i2l, 1) := by decide +kernel
theorem dX6_isFree_3 : decode cX6_isFree 3 = .ok (.lconst 0, 1) := by decide +kernel
theorem dX6_isFree_4 : decode cX6_isFree 4 = .ok (.ldc2_w 148, 3) := by decide +kernel
theorem dX6_isFree_7 : decode cX6_isFree 7 = .ok (.invokestatic 30, 3) := by decide +kernel
theorem dX6_isFree_10 : decode cX6_isFree 10 = .ok (.ifCond .ne 7, 3) := by decide +kernel
theorem dX6_isFree_13 : decode cX6_isFree 13 = .ok (.iconst 1, 1) := by decide +kernel
theorem dX6_isFree_14 : decode cX6_isFree 14 = .ok (.goto 4, 3) := by decide +kernel
theorem dX6_isFree_17 : decode cX6_isFree 17 = .ok (.iconst 0, 1) := by decide +kernel
theorem dX6_isFree_18 : decode cX6_isFree 18 = .ok (.iconst 1, 1) := by decide +kernel
theorem dX6_isFree_19 : decode cX6_isFree 19 = .ok (.invokevirtual 34, 3) := by decide +kernel
theorem dX6_isFree_22 : decode cX6_isFree 22 = .ok (.ifCond .eq 5, 3) := by decide +kernel
theorem dX6_isFree_25 : decode cX6_isFree 25 = .ok (.iconst 0, 1) := by decide +kernel
theorem dX6_isFree_26 : decode cX6_isFree 26 = .ok (.ireturn, 1) := by decide +kernel
theorem dX6_isFree_27 : decode cX6_isFree 27 = .ok (.iconst 0, 1) := by decide +kernel
theorem dX6_isFree_28 : decode cX6_isFree 28 = .ok (.istore_n 2, 1) := by decide +kernel
theorem dX6_isFree_29 : decode cX6_isFree 29 = .ok (.iconst 0, 1) := by decide +kernel
theorem dX6_isFree_30 : decode cX6_isFree 30 = .ok (.istore_n 3, 1) := by decide +kernel
theorem dX6_isFree_31 : decode cX6_isFree 31 = .ok (.iload_n 3, 1) := by decide +kernel
theorem dX6_isFree_32 : decode cX6_isFree 32 = .ok (.sipush 360, 3) := by decide +kernel
theorem dX6_isFree_35 : decode cX6_isFree 35 = .ok (.if_icmp .ge 16, 3) := by decide +kernel
theorem dX6_isFree_38 : decode cX6_isFree 38 = .ok (.aload_n 0, 1) := by decide +kernel
theorem dX6_isFree_39 : decode cX6_isFree 39 = .ok (.getfield 20, 3) := by decide +kernel
theorem dX6_isFree_42 : decode cX6_isFree 42 = .ok (.iload_n 3, 1) := by decide +kernel
theorem dX6_isFree_43 : decode cX6_isFree 43 = .ok (.iconst 0, 1) := by decide +kernel
theorem dX6_isFree_44 : decode cX6_isFree 44 = .ok (.bastore, 1) := by decide +kernel
theorem dX6_isFree_45 : decode cX6_isFree 45 = .ok (.iinc 3 1, 3) := by decide +kernel
theorem dX6_isFree_48 : decode cX6_isFree 48 = .ok (.goto (-17), 3) := by decide +kernel
theorem dX6_isFree_51 : decode cX6_isFree 51 = .ok (.iconst 0, 1) := by decide +kernel
theorem dX6_isFree_52 : decode cX6_isFree 52 = .ok (.istore_n 3, 1) := by decide +kernel
theorem dX6_isFree_53 : decode cX6_isFree 53 = .ok (.iload_n 3, 1) := by decide +kernel
theorem dX6_isFree_54 : decode cX6_isFree 54 = .ok (.bipush 6, 2) := by decide +kernel
theorem dX6_isFree_56 : decode cX6_isFree 56 = .ok (.if_icmp .ge 38, 3) := by decide +kernel
theorem dX6_isFree_59 : decode cX6_isFree 59 = .ok (.iload_n 2, 1) := by decide +kernel
theorem dX6_isFree_60 : decode cX6_isFree 60 = .ok (.ifCond .ne 22, 3) := by decide +kernel
theorem dX6_isFree_63 : decode cX6_isFree 63 = .ok (.aload_n 0, 1) := by decide +kernel
theorem dX6_isFree_64 : decode cX6_isFree 64 = .ok (.iload_n 1, 1) := by decide +kernel
theorem dX6_isFree_65 : decode cX6_isFree 65 = .ok (.iload_n 3, 1) := by decide +kernel
theorem dX6_isFree_66 : decode cX6_isFree 66 = .ok (.invokevirtual 150, 3) := by decide +kernel
theorem dX6_isFree_69 : decode cX6_isFree 69 = .ok (.ifCond .eq 17, 3) := by decide +kernel
theorem dX6_isFree_72 : decode cX6_isFree 72 = .ok (.aload_n 0, 1) := by decide +kernel
theorem dX6_isFree_73 : decode cX6_isFree 73 = .ok (.iload_n 1, 1) := by decide +kernel
theorem dX6_isFree_74 : decode cX6_isFree 74 = .ok (.iload_n 3, 1) := by decide +kernel
theorem dX6_isFree_75 : decode cX6_isFree 75 = .ok (.iconst 0, 1) := by decide +kernel
theorem dX6_isFree_76 : decode cX6_isFree 76 = .ok (.invokevirtual 156, 3) := by decide +kernel
theorem dX6_isFree_79 : decode cX6_isFree 79 = .ok (.ifCond .eq 7, 3) := by decide +kernel
theorem dX6_isFree_82 : decode cX6_isFree 82 = .ok (.iconst 1, 1) := by decide +kernel
theorem dX6_isFree_83 : decode cX6_isFree 83 = .ok (.goto 4, 3) := by decide +kernel
theorem dX6_isFree_86 : decode cX6_isFree 86 = .ok (.iconst 0, 1) := by decide +kernel
theorem dX6_isFree_87 : decode cX6_isFree 87 = .ok (.istore_n 2, 1) := by decide +kernel
theorem dX6_isFree_88 : decode cX6_isFree 88 = .ok (.iinc 3 1, 3) := by decide +kernel
theorem dX6_isFree_91 : decode cX6_isFree 91 = .ok (.goto (-38), 3) := by decide +kernel
theorem dX6_isFree_94 : decode cX6_isFree 94 = .ok (.iconst (-1), 1) := by decide +kernel
theorem dX6_isFree_95 : decode cX6_isFree 95 = .ok (.istore_n 3, 1) := by decide +kernel
theorem dX6_isFree_96 : decode cX6_isFree 96 = .ok (.iload_n 2, 1) := by decide +kernel
theorem dX6_isFree_97 : decode cX6_isFree 97 = .ok (.ifCond .ne 74, 3) := by decide +kernel
theorem dX6_isFree_100 : decode cX6_isFree 100 = .ok (.iload_n 3, 1) := by decide +kernel
theorem dX6_isFree_101 : decode cX6_isFree 101 = .ok (.aload_n 0, 1) := by decide +kernel
theorem dX6_isFree_102 : decode cX6_isFree 102 = .ok (.invokevirtual 159, 3) := by decide +kernel
theorem dX6_isFree_105 : decode cX6_isFree 105 = .ok (.if_icmp .eq 66, 3) := by decide +kernel
theorem dX6_isFree_108 : decode cX6_isFree 108 = .ok (.aload_n 0, 1) := by decide +kernel
theorem dX6_isFree_109 : decode cX6_isFree 109 = .ok (.invokevirtual 159, 3) := by decide +kernel
theorem dX6_isFree_112 : decode cX6_isFree 112 = .ok (.istore_n 3, 1) := by decide +kernel
theorem dX6_isFree_113 : decode cX6_isFree 113 = .ok (.iconst 0, 1) := by decide +kernel
theorem dX6_isFree_114 : decode cX6_isFree 114 = .ok (.istore 4, 2) := by decide +kernel
theorem dX6_isFree_116 : decode cX6_isFree 116 = .ok (.iload 4, 2) := by decide +kernel
theorem dX6_isFree_118 : decode cX6_isFree 118 = .ok (.sipush 360, 3) := by decide +kernel
theorem dX6_isFree_121 : decode cX6_isFree 121 = .ok (.if_icmp .ge 47, 3) := by decide +kernel
theorem dX6_isFree_124 : decode cX6_isFree 124 = .ok (.iload_n 2, 1) := by decide +kernel
theorem dX6_isFree_125 : decode cX6_isFree 125 = .ok (.ifCond .ne 31, 3) := by decide +kernel
theorem dX6_isFree_128 : decode cX6_isFree 128 = .ok (.aload_n 0, 1) := by decide +kernel
theorem dX6_isFree_129 : decode cX6_isFree 129 = .ok (.getfield 20, 3) := by decide +kernel
theorem dX6_isFree_132 : decode cX6_isFree 132 = .ok (.iload 4, 2) := by decide +kernel
theorem dX6_isFree_134 : decode cX6_isFree 134 = .ok (.baload, 1) := by decide +kernel
theorem dX6_isFree_135 : decode cX6_isFree 135 = .ok (.ifCond .eq 25, 3) := by decide +kernel
theorem dX6_isFree_138 : decode cX6_isFree 138 = .ok (.aload_n 0, 1) := by decide +kernel
theorem dX6_isFree_139 : decode cX6_isFree 139 = .ok (.iload_n 1, 1) := by decide +kernel
theorem dX6_isFree_140 : decode cX6_isFree 140 = .ok (.iload 4, 2) := by decide +kernel
theorem dX6_isFree_142 : decode cX6_isFree 142 = .ok (.bipush 60, 2) := by decide +kernel
theorem dX6_isFree_144 : decode cX6_isFree 144 = .ok (.idiv, 1) := by decide +kernel
theorem dX6_isFree_145 : decode cX6_isFree 145 = .ok (.iload 4, 2) := by decide +kernel
theorem dX6_isFree_147 : decode cX6_isFree 147 = .ok (.bipush 60, 2) := by decide +kernel
theorem dX6_isFree_149 : decode cX6_isFree 149 = .ok (.irem, 1) := by decide +kernel
theorem dX6_isFree_150 : decode cX6_isFree 150 = .ok (.invokevirtual 156, 3) := by decide +kernel
theorem dX6_isFree_153 : decode cX6_isFree 153 = .ok (.ifCond .eq 7, 3) := by decide +kernel
theorem dX6_isFree_156 : decode cX6_isFree 156 = .ok (.iconst 1, 1) := by decide +kernel
theorem dX6_isFree_157 : decode cX6_isFree 157 = .ok (.goto 4, 3) := by decide +kernel
theorem dX6_isFree_160 : decode cX6_isFree 160 = .ok (.iconst 0, 1) := by decide +kernel
theorem dX6_isFree_161 : decode cX6_isFree 161 = .ok (.istore_n 2, 1) := by decide +kernel
theorem dX6_isFree_162 : decode cX6_isFree 162 = .ok (.iinc 4 1, 3) := by decide +kernel
theorem dX6_isFree_165 : decode cX6_isFree 165 = .ok (.goto (-49), 3) := by decide +kernel
theorem dX6_isFree_168 : decode cX6_isFree 168 = .ok (.goto (-72), 3) := by decide +kernel
theorem dX6_isFree_171 : decode cX6_isFree 171 = .ok (.iload_n 2, 1) := by decide +kernel
theorem dX6_isFree_172 : decode cX6_isFree 172 = .ok (.ifCond .ne 7, 3) := by decide +kernel
theorem dX6_isFree_175 : decode cX6_isFree 175 = .ok (.iconst 1, 1) := by decide +kernel
theorem dX6_isFree_176 : decode cX6_isFree 176 = .ok (.goto 4, 3) := by decide +kernel
theorem dX6_isFree_179 : decode cX6_isFree 179 = .ok (.iconst 0, 1) := by decide +kernel
theorem dX6_isFree_180 : decode cX6_isFree 180 = .ok (.ireturn, 1) := by decide +kernel
set_option maxRecDepth 20000 in
theorem ggX6_rootShare_X6_isNo : GoodIn wsX6_rootShare wsX6_isNo := goodIn_r _ [6, 7, 8, 9, 5, 10, 11, 12, 13, 14, 15, 28, 29, 30, 31, 32] (by decide +kernel) (by decide +kernel)
set_option maxRecDepth 20000 in
theorem gX6_rootShare_X6_isNo : GoodIn wsX6_rootShare (wsV RX6 38 RX6 yX6_isNo wsX6_isNo) := goodIn_app (goodIn_of _ (by decide +kernel)) ggX6_rootShare_X6_isNo
set_option maxRecDepth 20000 in
theorem ggX6_rootShare_X6_isThrown : GoodIn wsX6_rootShare wsX6_isThrown := goodIn_r _ [14, 15, 28, 29, 30, 31, 32] (by decide +kernel) (by decide +kernel)
set_option maxRecDepth 20000 in
theorem gX6_rootShare_X6_isThrown : GoodIn wsX6_rootShare (wsV RX6 34 RX6 yX6_isThrown wsX6_isThrown) := goodIn_app (goodIn_of _ (by decide +kernel)) ggX6_rootShare_X6_isThrown
set_option maxRecDepth 20000 in
theorem ggX6_rootShare_X6_rootOf : GoodIn wsX6_rootShare wsX6_rootOf := goodIn_ca (goodIn_ca (goodIn_r _ [19, 1, 20, 21, 22, 5, 23, 24, 8, 9, 10, 25, 26, 27, 28, 29, 30, 31, 32] (by decide +kernel) (by decide +kernel)) (goodIn_sub (fun _ h => List.mem_cons_of_mem _ (List.mem_append_left _ (List.mem_append_right _ h))) (by decide +kernel))) (goodIn_sub (fun _ h => List.mem_cons_of_mem _ (List.mem_append_right _ h)) (by decide +kernel))
set_option maxRecDepth 20000 in
theorem gX6_rootShare_X6_rootOf : GoodIn wsX6_rootShare (wsV RX6 120 RX6 yX6_rootOf wsX6_rootOf) := goodIn_app (goodIn_of _ (by decide +kernel)) ggX6_rootShare_X6_rootOf
theorem dX6_rootShare_0 : decode cX6_rootShare 0 = .ok (.aload_n 0, 1) := by decide +kernel
theorem dX6_rootShare_1 : decode cX6_rootShare 1 = .ok (.iload_n 1, 1) := by decide +kernel
theorem dX6_rootShare_2 : decode cX6_rootShare 2 = .ok (.invokevirtual 38, 3) := by decide +kernel
theorem dX6_rootShare_5 : decode cX6_rootShare 5 = .ok (.ifCond .ne 25, 3) := by decide +kernel
theorem dX6_rootShare_8 : decode cX6_rootShare 8 = .ok (.aload_n 0, 1) := by decide +kernel
theorem dX6_rootShare_9 : decode cX6_rootShare 9 = .ok (.aload_n 0, 1) := by decide +kernel
theorem dX6_rootShare_10 : decode cX6_rootShare 10 = .ok (.getfield 13, 3) := by decide +kernel
theorem dX6_rootShare_13 : decode cX6_rootShare 13 = .ok (.iload_n 1, 1) := by decide +kernel
theorem dX6_rootShare_14 : decode cX6_rootShare 14 = .ok (.iaload, 1) := by decide +kernel
theorem dX6_rootShare_15 : decode cX6_rootShare 15 = .ok (.ifCond .ne 7, 3) := by decide +kernel
theorem dX6_rootShare_18 : decode cX6_rootShare 18 = .ok (.iconst 1, 1) := by decide +kernel
theorem dX6_rootShare_19 : decode cX6_rootShare 19 = .ok (.goto 4, 3) := by decide +kernel
theorem dX6_rootShare_22 : decode cX6_rootShare 22 = .ok (.iconst 0, 1) := by decide +kernel
theorem dX6_rootShare_23 : decode cX6_rootShare 23 = .ok (.iconst 2, 1) := by decide +kernel
theorem dX6_rootShare_24 : decode cX6_rootShare 24 = .ok (.invokevirtual 34, 3) := by decide +kernel
theorem dX6_rootShare_27 : decode cX6_rootShare 27 = .ok (.ifCond .eq 5, 3) := by decide +kernel
theorem dX6_rootShare_30 : decode cX6_rootShare 30 = .ok (.fconst 0, 1) := by decide +kernel
theorem dX6_rootShare_31 : decode cX6_rootShare 31 = .ok (.freturn, 1) := by decide +kernel
theorem dX6_rootShare_32 : decode cX6_rootShare 32 = .ok (.aload_n 0, 1) := by decide +kernel
theorem dX6_rootShare_33 : decode cX6_rootShare 33 = .ok (.iload_n 1, 1) := by decide +kernel
theorem dX6_rootShare_34 : decode cX6_rootShare 34 = .ok (.invokevirtual 120, 3) := by decide +kernel
theorem dX6_rootShare_37 : decode cX6_rootShare 37 = .ok (.i2f, 1) := by decide +kernel
theorem dX6_rootShare_38 : decode cX6_rootShare 38 = .ok (.aload_n 0, 1) := by decide +kernel
theorem dX6_rootShare_39 : decode cX6_rootShare 39 = .ok (.getfield 13, 3) := by decide +kernel
theorem dX6_rootShare_42 : decode cX6_rootShare 42 = .ok (.iload_n 1, 1) := by decide +kernel
theorem dX6_rootShare_43 : decode cX6_rootShare 43 = .ok (.iaload, 1) := by decide +kernel
theorem dX6_rootShare_44 : decode cX6_rootShare 44 = .ok (.i2f, 1) := by decide +kernel
theorem dX6_rootShare_45 : decode cX6_rootShare 45 = .ok (.fdiv, 1) := by decide +kernel
theorem dX6_rootShare_46 : decode cX6_rootShare 46 = .ok (.freturn, 1) := by decide +kernel
set_option maxRecDepth 20000 in
theorem ggX6_meanPeriod_X6_isNo : GoodIn wsX6_meanPeriod wsX6_isNo := goodIn_r _ [6, 7, 8, 9, 5, 10, 11, 12, 13, 14, 15, 28, 29, 30, 31, 32] (by decide +kernel) (by decide +kernel)
set_option maxRecDepth 20000 in
theorem gX6_meanPeriod_X6_isNo : GoodIn wsX6_meanPeriod (wsV RX6 38 RX6 yX6_isNo wsX6_isNo) := goodIn_app (goodIn_of _ (by decide +kernel)) ggX6_meanPeriod_X6_isNo
set_option maxRecDepth 20000 in
theorem ggX6_meanPeriod_X6_isThrown : GoodIn wsX6_meanPeriod wsX6_isThrown := goodIn_r _ [14, 15, 28, 29, 30, 31, 32] (by decide +kernel) (by decide +kernel)
set_option maxRecDepth 20000 in
theorem gX6_meanPeriod_X6_isThrown : GoodIn wsX6_meanPeriod (wsV RX6 34 RX6 yX6_isThrown wsX6_isThrown) := goodIn_app (goodIn_of _ (by decide +kernel)) ggX6_meanPeriod_X6_isThrown
set_option maxRecDepth 20000 in
theorem ggX6_meanPeriod_X6_isPeriod : GoodIn wsX6_meanPeriod wsX6_isPeriod := goodIn_ca (goodIn_r _ [19, 1, 20, 8, 9, 5, 10, 21, 22, 23, 28, 29, 30, 31, 32] (by decide +kernel) (by decide +kernel)) (goodIn_sub (fun _ h => List.mem_cons_of_mem _ (List.mem_append_right _ h)) (by decide +kernel))
set_option maxRecDepth 20000 in
theorem gX6_meanPeriod_X6_isPeriod : GoodIn wsX6_meanPeriod (wsV RX6 114 RX6 yX6_isPeriod wsX6_isPeriod) := goodIn_app (goodIn_of _ (by decide +kernel)) ggX6_meanPeriod_X6_isPeriod
set_option maxRecDepth 20000 in
theorem ggX6_meanPeriod_X6_periodsOf : GoodIn wsX6_meanPeriod wsX6_periodsOf := goodIn_ca (goodIn_r _ [27, 1, 16, 17, 18, 5, 19, 20, 8, 9, 10, 21, 22, 23, 28, 29, 30, 31, 32] (by decide +kernel) (by decide +kernel)) (goodIn_sub (fun _ h => List.mem_cons_of_mem _ (List.mem_append_right _ h)) (by decide +kernel))
set_option maxRecDepth 20000 in
theorem gX6_meanPeriod_X6_periodsOf : GoodIn wsX6_meanPeriod (wsV RX6 117 RX6 yX6_periodsOf wsX6_periodsOf) := goodIn_app (goodIn_of _ (by decide +kernel)) ggX6_meanPeriod_X6_periodsOf
theorem dX6_meanPeriod_0 : decode cX6_meanPeriod 0 = .ok (.aload_n 0, 1) := by decide +kernel
theorem dX6_meanPeriod_1 : decode cX6_meanPeriod 1 = .ok (.iload_n 1, 1) := by decide +kernel
theorem dX6_meanPeriod_2 : decode cX6_meanPeriod 2 = .ok (.invokevirtual 38, 3) := by decide +kernel
theorem dX6_meanPeriod_5 : decode cX6_meanPeriod 5 = .ok (.ifCond .ne 25, 3) := by decide +kernel
theorem dX6_meanPeriod_8 : decode cX6_meanPeriod 8 = .ok (.aload_n 0, 1) := by decide +kernel
theorem dX6_meanPeriod_9 : decode cX6_meanPeriod 9 = .ok (.aload_n 0, 1) := by decide +kernel
theorem dX6_meanPeriod_10 : decode cX6_meanPeriod 10 = .ok (.getfield 13, 3) := by decide +kernel
theorem dX6_meanPeriod_13 : decode cX6_meanPeriod 13 = .ok (.iload_n 1, 1) := by decide +kernel
theorem dX6_meanPeriod_14 : decode cX6_meanPeriod 14 = .ok (.iaload, 1) := by decide +kernel
theorem dX6_meanPeriod_15 : decode cX6_meanPeriod 15 = .ok (.ifCond .ne 7, 3) := by decide +kernel
theorem dX6_meanPeriod_18 : decode cX6_meanPeriod 18 = .ok (.iconst 1, 1) := by decide +kernel
theorem dX6_meanPeriod_19 : decode cX6_meanPeriod 19 = .ok (.goto 4, 3) := by decide +kernel
theorem dX6_meanPeriod_22 : decode cX6_meanPeriod 22 = .ok (.iconst 0, 1) := by decide +kernel
theorem dX6_meanPeriod_23 : decode cX6_meanPeriod 23 = .ok (.iconst 2, 1) := by decide +kernel
theorem dX6_meanPeriod_24 : decode cX6_meanPeriod 24 = .ok (.invokevirtual 34, 3) := by decide +kernel
theorem dX6_meanPeriod_27 : decode cX6_meanPeriod 27 = .ok (.ifCond .eq 5, 3) := by decide +kernel
theorem dX6_meanPeriod_30 : decode cX6_meanPeriod 30 = .ok (.dconst 0, 1) := by decide +kernel
theorem dX6_meanPeriod_31 : decode cX6_meanPeriod 31 = .ok (.dreturn, 1) := by decide +kernel
theorem dX6_meanPeriod_32 : decode cX6_meanPeriod 32 = .ok (.iconst 0, 1) := by decide +kernel
theorem dX6_meanPeriod_33 : decode cX6_meanPeriod 33 = .ok (.istore_n 2, 1) := by decide +kernel
theorem dX6_meanPeriod_34 : decode cX6_meanPeriod 34 = .ok (.iconst 1, 1) := by decide +kernel
theorem dX6_meanPeriod_35 : decode cX6_meanPeriod 35 = .ok (.istore_n 3, 1) := by decide +kernel
theorem dX6_meanPeriod_36 : decode cX6_meanPeriod 36 = .ok (.iload_n 3, 1) := by decide +kernel
theorem dX6_meanPeriod_37 : decode cX6_meanPeriod 37 = .ok (.aload_n 0, 1) := by decide +kernel
theorem dX6_meanPeriod_38 : decode cX6_meanPeriod 38 = .ok (.getfield 13, 3) := by decide +kernel
theorem dX6_meanPeriod_41 : decode cX6_meanPeriod 41 = .ok (.iload_n 1, 1) := by decide +kernel
theorem dX6_meanPeriod_42 : decode cX6_meanPeriod 42 = .ok (.iaload, 1) := by decide +kernel
theorem dX6_meanPeriod_43 : decode cX6_meanPeriod 43 = .ok (.if_icmp .gt 26, 3) := by decide +kernel
theorem dX6_meanPeriod_46 : decode cX6_meanPeriod 46 = .ok (.iload_n 2, 1) := by decide +kernel
theorem dX6_meanPeriod_47 : decode cX6_meanPeriod 47 = .ok (.aload_n 0, 1) := by decide +kernel
theorem dX6_meanPeriod_48 : decode cX6_meanPeriod 48 = .ok (.iload_n 1, 1) := by decide +kernel
theorem dX6_meanPeriod_49 : decode cX6_meanPeriod 49 = .ok (.iload_n 3, 1) := by decide +kernel
theorem dX6_meanPeriod_50 : decode cX6_meanPeriod 50 = .ok (.invokevirtual 114, 3) := by decide +kernel
theorem dX6_meanPeriod_53 : decode cX6_meanPeriod 53 = .ok (.ifCond .eq 7, 3) := by decide +kernel
theorem dX6_meanPeriod_56 : decode cX6_meanPeriod 56 = .ok (.iload_n 3, 1) := by decide +kernel
theorem dX6_meanPeriod_57 : decode cX6_meanPeriod 57 = .ok (.goto 4, 3) := by decide +kernel
theorem dX6_meanPeriod_60 : decode cX6_meanPeriod 60 = .ok (.iconst 0, 1) := by decide +kernel
theorem dX6_meanPeriod_61 : decode cX6_meanPeriod 61 = .ok (.iadd, 1) := by decide +kernel
theorem dX6_meanPeriod_62 : decode cX6_meanPeriod 62 = .ok (.istore_n 2, 1) := by decide +kernel
theorem dX6_meanPeriod_63 : decode cX6_meanPeriod 63 = .ok (.iinc 3 1, 3) := by decide +kernel
theorem dX6_meanPeriod_66 : decode cX6_meanPeriod 66 = .ok (.goto (-30), 3) := by decide +kernel
theorem dX6_meanPeriod_69 : decode cX6_meanPeriod 69 = .ok (.iload_n 2, 1) := by decide +kernel
theorem dX6_meanPeriod_70 : decode cX6_meanPeriod 70 = .ok (.i2d, 1) := by decide +kernel
theorem dX6_meanPeriod_71 : decode cX6_meanPeriod 71 = .ok (.aload_n 0, 1) := by decide +kernel
theorem dX6_meanPeriod_72 : decode cX6_meanPeriod 72 = .ok (.iload_n 1, 1) := by decide +kernel
theorem dX6_meanPeriod_73 : decode cX6_meanPeriod 73 = .ok (.invokevirtual 117, 3) := by decide +kernel
theorem dX6_meanPeriod_76 : decode cX6_meanPeriod 76 = .ok (.i2d, 1) := by decide +kernel
theorem dX6_meanPeriod_77 : decode cX6_meanPeriod 77 = .ok (.ddiv, 1) := by decide +kernel
theorem dX6_meanPeriod_78 : decode cX6_meanPeriod 78 = .ok (.dreturn, 1) := by decide +kernel
set_option maxRecDepth 20000 in
theorem ggX6_checksum_X6_behind : GoodIn wsX6_checksum wsX6_behind := goodIn_ca (goodIn_r _ [9, 4, 10, 11, 12, 8, 13, 25, 26, 27, 28, 29] (by decide +kernel) (by decide +kernel)) (goodIn_sub (fun _ h => List.mem_cons_of_mem _ (List.mem_append_right _ h)) (by decide +kernel))
set_option maxRecDepth 20000 in
theorem gX6_checksum_X6_behind : GoodIn wsX6_checksum (wsV RX6 108 RX6 yX6_behind wsX6_behind) := goodIn_app (goodIn_of _ (by decide +kernel)) ggX6_checksum_X6_behind
set_option maxRecDepth 20000 in
theorem ggX6_checksum_X6_periodsOf : GoodIn wsX6_checksum wsX6_periodsOf := goodIn_ca (goodIn_r _ [17, 4, 18, 19, 20, 8, 21, 10, 22, 23, 24, 11, 12, 13, 25, 26, 27, 28, 29] (by decide +kernel) (by decide +kernel)) (goodIn_sub (fun _ h => List.mem_cons_of_mem _ (List.mem_append_right _ h)) (by decide +kernel))
set_option maxRecDepth 20000 in
theorem gX6_checksum_X6_periodsOf : GoodIn wsX6_checksum (wsV RX6 117 RX6 yX6_periodsOf wsX6_periodsOf) := goodIn_app (goodIn_of _ (by decide +kernel)) ggX6_checksum_X6_periodsOf
theorem dX6_checksum_0 : decode cX6_checksum 0 = .ok (.aload_n 0, 1) := by decide +kernel
theorem dX6_checksum_1 : decode cX6_checksum 1 = .ok (.iconst 0, 1) := by decide +kernel
theorem dX6_checksum_2 : decode cX6_checksum 2 = .ok (.putfield 24, 3) := by decide +kernel
theorem dX6_checksum_5 : decode cX6_checksum 5 = .ok (.ldc2_w 163, 3) := by decide +kernel
theorem dX6_checksum_8 : decode cX6_checksum 8 = .ok (.lstore_n 1, 1) := by decide +kernel
theorem dX6_checksum_9 : decode cX6_checksum 9 = .ok (.iconst 0, 1) := by decide +kernel
theorem dX6_checksum_10 : decode cX6_checksum 10 = .ok (.istore_n 3, 1) := by decide +kernel
theorem dX6_checksum_11 : decode cX6_checksum 11 = .ok (.iload_n 3, 1) := by decide +kernel
theorem dX6_checksum_12 : decode cX6_checksum 12 = .ok (.bipush 6, 2) := by decide +kernel
theorem dX6_checksum_14 : decode cX6_checksum 14 = .ok (.if_icmp .ge 50, 3) := by decide +kernel
theorem dX6_checksum_17 : decode cX6_checksum 17 = .ok (.ldc2_w 165, 3) := by decide +kernel
theorem dX6_checksum_20 : decode cX6_checksum 20 = .ok (.lload_n 1, 1) := by decide +kernel
theorem dX6_checksum_21 : decode cX6_checksum 21 = .ok (.lmul, 1) := by decide +kernel
theorem dX6_checksum_22 : decode cX6_checksum 22 = .ok (.aload_n 0, 1) := by decide +kernel
theorem dX6_checksum_23 : decode cX6_checksum 23 = .ok (.getfield 13, 3) := by decide +kernel
theorem dX6_checksum_26 : decode cX6_checksum 26 = .ok (.iload_n 3, 1) := by decide +kernel
theorem dX6_checksum_27 : decode cX6_checksum 27 = .ok (.iaload, 1) := by decide +kernel
theorem dX6_checksum_28 : decode cX6_checksum 28 = .ok (.i2l, 1) := by decide +kernel
theorem dX6_checksum_29 : decode cX6_checksum 29 = .ok (.ladd, 1) := by decide +kernel
theorem dX6_checksum_30 : decode cX6_checksum 30 = .ok (.lstore_n 1, 1) := by decide +kernel
theorem dX6_checksum_31 : decode cX6_checksum 31 = .ok (.ldc2_w 165, 3) := by decide +kernel
theorem dX6_checksum_34 : decode cX6_checksum 34 = .ok (.lload_n 1, 1) := by decide +kernel
theorem dX6_checksum_35 : decode cX6_checksum 35 = .ok (.lmul, 1) := by decide +kernel
theorem dX6_checksum_36 : decode cX6_checksum 36 = .ok (.aload_n 0, 1) := by decide +kernel
theorem dX6_checksum_37 : decode cX6_checksum 37 = .ok (.iconst 0, 1) := by decide +kernel
theorem dX6_checksum_38 : decode cX6_checksum 38 = .ok (.iload_n 3, 1) := by decide +kernel
theorem dX6_checksum_39 : decode cX6_checksum 39 = .ok (.invokevirtual 108, 3) := by decide +kernel
theorem dX6_checksum_42 : decode cX6_checksum 42 = .ok (.i2l, 1) := by decide +kernel
theorem dX6_checksum_43 : decode cX6_checksum 43 = .ok (.ladd, 1) := by decide +kernel
theorem dX6_checksum_44 : decode cX6_checksum 44 = .ok (.lstore_n 1, 1) := by decide +kernel
theorem dX6_checksum_45 : decode cX6_checksum 45 = .ok (.ldc2_w 165, 3) := by decide +kernel
theorem dX6_checksum_48 : decode cX6_checksum 48 = .ok (.lload_n 1, 1) := by decide +kernel
theorem dX6_checksum_49 : decode cX6_checksum 49 = .ok (.lmul, 1) := by decide +kernel
theorem dX6_checksum_50 : decode cX6_checksum 50 = .ok (.aload_n 0, 1) := by decide +kernel
theorem dX6_checksum_51 : decode cX6_checksum 51 = .ok (.iload_n 3, 1) := by decide +kernel
theorem dX6_checksum_52 : decode cX6_checksum 52 = .ok (.invokevirtual 117, 3) := by decide +kernel
theorem dX6_checksum_55 : decode cX6_checksum 55 = .ok (.i2l, 1) := by decide +kernel
theorem dX6_checksum_56 : decode cX6_checksum 56 = .ok (.ladd, 1) := by decide +kernel
theorem dX6_checksum_57 : decode cX6_checksum 57 = .ok (.lstore_n 1, 1) := by decide +kernel
theorem dX6_checksum_58 : decode cX6_checksum 58 = .ok (.iinc 3 1, 3) := by decide +kernel
theorem dX6_checksum_61 : decode cX6_checksum 61 = .ok (.goto (-50), 3) := by decide +kernel
theorem dX6_checksum_64 : decode cX6_checksum 64 = .ok (.lload_n 1, 1) := by decide +kernel
theorem dX6_checksum_65 : decode cX6_checksum 65 = .ok (.lreturn, 1) := by decide +kernel
theorem dX6_isTrue_0 : decode cX6_isTrue 0 = .ok (.aload_n 0, 1) := by decide +kernel
theorem dX6_isTrue_1 : decode cX6_isTrue 1 = .ok (.iconst 0, 1) := by decide +kernel
theorem dX6_isTrue_2 : decode cX6_isTrue 2 = .ok (.putfield 24, 3) := by decide +kernel
theorem dX6_isTrue_5 : decode cX6_isTrue 5 = .ok (.iconst 1, 1) := by decide +kernel
theorem dX6_isTrue_6 : decode cX6_isTrue 6 = .ok (.ireturn, 1) := by decide +kernel
