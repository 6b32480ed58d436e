theorem dX5_init_0 : decode cX5_init 0 = .ok (.aload_n 0, 1) := by decide +kernel
theorem dX5_init_1 : decode cX5_init 1 = .ok (.invokespecial 1, 3) := by decide +kernel
theorem dX5_init_4 : decode cX5_init 4 = .ok (.aload_n 0, 1) := by decide +kernel
theorem dX5_init_5 : decode cX5_init 5 = .ok (.bipush 120, 2) := by decide +kernel
theorem dX5_init_7 : decode cX5_init 7 = .ok (.newarray .int, 2) := by decide +kernel
theorem dX5_init_9 : decode cX5_init 9 = .ok (.putfield 7, 3) := by decide +kernel
theorem dX5_init_12 : decode cX5_init 12 = .ok (.aload_n 0, 1) := by decide +kernel
theorem dX5_init_13 : decode cX5_init 13 = .ok (.bipush 120, 2) := by decide +kernel
theorem dX5_init_15 : decode cX5_init 15 = .ok (.newarray .int, 2) := by decide +kernel
theorem dX5_init_17 : decode cX5_init 17 = .ok (.putfield 13, 3) := by decide +kernel
theorem dX5_init_20 : decode cX5_init 20 = .ok (.aload_n 0, 1) := by decide +kernel
theorem dX5_init_21 : decode cX5_init 21 = .ok (.bipush 120, 2) := by decide +kernel
theorem dX5_init_23 : decode cX5_init 23 = .ok (.newarray .int, 2) := by decide +kernel
theorem dX5_init_25 : decode cX5_init 25 = .ok (.putfield 16, 3) := by decide +kernel
theorem dX5_init_28 : decode cX5_init 28 = .ok (.aload_n 0, 1) := by decide +kernel
theorem dX5_init_29 : decode cX5_init 29 = .ok (.bipush 120, 2) := by decide +kernel
theorem dX5_init_31 : decode cX5_init 31 = .ok (.newarray .int, 2) := by decide +kernel
theorem dX5_init_33 : decode cX5_init 33 = .ok (.putfield 19, 3) := by decide +kernel
theorem dX5_init_36 : decode cX5_init 36 = .ok (.aload_n 0, 1) := by decide +kernel
theorem dX5_init_37 : decode cX5_init 37 = .ok (.bipush 120, 2) := by decide +kernel
theorem dX5_init_39 : decode cX5_init 39 = .ok (.newarray .int, 2) := by decide +kernel
theorem dX5_init_41 : decode cX5_init 41 = .ok (.putfield 22, 3) := by decide +kernel
theorem dX5_init_44 : decode cX5_init 44 = .ok (.aload_n 0, 1) := by decide +kernel
theorem dX5_init_45 : decode cX5_init 45 = .ok (.bipush 120, 2) := by decide +kernel
theorem dX5_init_47 : decode cX5_init 47 = .ok (.newarray .int, 2) := by decide +kernel
theorem dX5_init_49 : decode cX5_init 49 = .ok (.putfield 25, 3) := by decide +kernel
theorem dX5_init_52 : decode cX5_init 52 = .ok (.aload_n 0, 1) := by decide +kernel
theorem dX5_init_53 : decode cX5_init 53 = .ok (.iconst 4, 1) := by decide +kernel
theorem dX5_init_54 : decode cX5_init 54 = .ok (.newarray .int, 2) := by decide +kernel
theorem dX5_init_56 : decode cX5_init 56 = .ok (.putfield 28, 3) := by decide +kernel
theorem dX5_init_59 : decode cX5_init 59 = .ok (.return_, 1) := by decide +kernel
theorem dX5_thrown_0 : decode cX5_thrown 0 = .ok (.aload_n 0, 1) := by decide +kernel
theorem dX5_thrown_1 : decode cX5_thrown 1 = .ok (.getfield 31, 3) := by decide +kernel
theorem dX5_thrown_4 : decode cX5_thrown 4 = .ok (.ireturn, 1) := by decide +kernel
theorem dX5_isThrown_0 : decode cX5_isThrown 0 = .ok (.aload_n 0, 1) := by decide +kernel
theorem dX5_isThrown_1 : decode cX5_isThrown 1 = .ok (.iload_n 1, 1) := by decide +kernel
theorem dX5_isThrown_2 : decode cX5_isThrown 2 = .ok (.ifCond .eq 7, 3) := by decide +kernel
theorem dX5_isThrown_5 : decode cX5_isThrown 5 = .ok (.iload_n 2, 1) := by decide +kernel
theorem dX5_isThrown_6 : decode cX5_isThrown 6 = .ok (.goto 4, 3) := by decide +kernel
theorem dX5_isThrown_9 : decode cX5_isThrown 9 = .ok (.iconst 0, 1) := by decide +kernel
theorem dX5_isThrown_10 : decode cX5_isThrown 10 = .ok (.putfield 31, 3) := by decide +kernel
theorem dX5_isThrown_13 : decode cX5_isThrown 13 = .ok (.iload_n 1, 1) := by decide +kernel
theorem dX5_isThrown_14 : decode cX5_isThrown 14 = .ok (.ireturn, 1) := by decide +kernel
theorem dX5_isHouse_0 : decode cX5_isHouse 0 = .ok (.iload_n 0, 1) := by decide +kernel
theorem dX5_isHouse_1 : decode cX5_isHouse 1 = .ok (.ifCond .lt 12, 3) := by decide +kernel
theorem dX5_isHouse_4 : decode cX5_isHouse 4 = .ok (.iload_n 0, 1) := by decide +kernel
theorem dX5_isHouse_5 : decode cX5_isHouse 5 = .ok (.iconst 4, 1) := by decide +kernel
theorem dX5_isHouse_6 : decode cX5_isHouse 6 = .ok (.if_icmp .ge 7, 3) := by decide +kernel
theorem dX5_isHouse_9 : decode cX5_isHouse 9 = .ok (.iconst 1, 1) := by decide +kernel
theorem dX5_isHouse_10 : decode cX5_isHouse 10 = .ok (.goto 4, 3) := by decide +kernel
theorem dX5_isHouse_13 : decode cX5_isHouse 13 = .ok (.iconst 0, 1) := by decide +kernel
theorem dX5_isHouse_14 : decode cX5_isHouse 14 = .ok (.ireturn, 1) := by decide +kernel
theorem dX5_isIn_0 : decode cX5_isIn 0 = .ok (.iload_n 0, 1) := by decide +kernel
theorem dX5_isIn_1 : decode cX5_isIn 1 = .ok (.iload_n 1, 1) := by decide +kernel
theorem dX5_isIn_2 : decode cX5_isIn 2 = .ok (.if_icmp .lt 12, 3) := by decide +kernel
theorem dX5_isIn_5 : decode cX5_isIn 5 = .ok (.iload_n 0, 1) := by decide +kernel
theorem dX5_isIn_6 : decode cX5_isIn 6 = .ok (.iload_n 2, 1) := by decide +kernel
theorem dX5_isIn_7 : decode cX5_isIn 7 = .ok (.if_icmp .gt 7, 3) := by decide +kernel
theorem dX5_isIn_10 : decode cX5_isIn 10 = .ok (.iconst 1, 1) := by decide +kernel
theorem dX5_isIn_11 : decode cX5_isIn 11 = .ok (.goto 4, 3) := by decide +kernel
theorem dX5_isIn_14 : decode cX5_isIn 14 = .ok (.iconst 0, 1) := by decide +kernel
theorem dX5_isIn_15 : decode cX5_isIn 15 = .ok (.ireturn, 1) := by decide +kernel
theorem dX5_many_0 : decode cX5_many 0 = .ok (.iconst 0, 1) := by decide +kernel
theorem dX5_many_1 : decode cX5_many 1 = .ok (.istore_n 3, 1) := by decide +kernel
theorem dX5_many_2 : decode cX5_many 2 = .ok (.iconst 0, 1) := by decide +kernel
theorem dX5_many_3 : decode cX5_many 3 = .ok (.istore 4, 2) := by decide +kernel
theorem dX5_many_5 : decode cX5_many 5 = .ok (.iload 4, 2) := by decide +kernel
theorem dX5_many_7 : decode cX5_many 7 = .ok (.aload_n 0, 1) := by decide +kernel
theorem dX5_many_8 : decode cX5_many 8 = .ok (.getfield 35, 3) := by decide +kernel
theorem dX5_many_11 : decode cX5_many 11 = .ok (.if_icmp .ge 39, 3) := by decide +kernel
theorem dX5_many_14 : decode cX5_many 14 = .ok (.iload_n 3, 1) := by decide +kernel
theorem dX5_many_15 : decode cX5_many 15 = .ok (.aload_n 0, 1) := by decide +kernel
theorem dX5_many_16 : decode cX5_many 16 = .ok (.getfield 19, 3) := by decide +kernel
theorem dX5_many_19 : decode cX5_many 19 = .ok (.iload 4, 2) := by decide +kernel
theorem dX5_many_21 : decode cX5_many 21 = .ok (.iaload, 1) := by decide +kernel
theorem dX5_many_22 : decode cX5_many 22 = .ok (.iload_n 1, 1) := by decide +kernel
theorem dX5_many_23 : decode cX5_many 23 = .ok (.if_icmp .ne 18, 3) := by decide +kernel
theorem dX5_many_26 : decode cX5_many 26 = .ok (.aload_n 0, 1) := by decide +kernel
theorem dX5_many_27 : decode cX5_many 27 = .ok (.getfield 22, 3) := by decide +kernel
theorem dX5_many_30 : decode cX5_many 30 = .ok (.iload 4, 2) := by decide +kernel
theorem dX5_many_32 : decode cX5_many 32 = .ok (.iaload, 1) := by decide +kernel
theorem dX5_many_33 : decode cX5_many 33 = .ok (.iload_n 2, 1) := by decide +kernel
theorem dX5_many_34 : decode cX5_many 34 = .ok (.if_icmp .ne 7, 3) := by decide +kernel
theorem dX5_many_37 : decode cX5_many 37 = .ok (.iconst 1, 1) := by decide +kernel
theorem dX5_many_38 : decode cX5_many 38 = .ok (.goto 4, 3) := by decide +kernel
theorem dX5_many_41 : decode cX5_many 41 = .ok (.iconst 0, 1) := by decide +kernel
theorem dX5_many_42 : decode cX5_many 42 = .ok (.iadd, 1) := by decide +kernel
theorem dX5_many_43 : decode cX5_many 43 = .ok (.istore_n 3, 1) := by decide +kernel
theorem dX5_many_44 : decode cX5_many 44 = .ok (.iinc 4 1, 3) := by decide +kernel
theorem dX5_many_47 : decode cX5_many 47 = .ok (.goto (-42), 3) := by decide +kernel
theorem dX5_many_50 : decode cX5_many 50 = .ok (.iload_n 3, 1) := by decide +kernel
theorem dX5_many_51 : decode cX5_many 51 = .ok (.ireturn, 1) := by decide +kernel
theorem dX5_isAhead_0 : decode cX5_isAhead 0 = .ok (.aload_n 0, 1) := by decide +kernel
theorem dX5_isAhead_1 : decode cX5_isAhead 1 = .ok (.getfield 7, 3) := by decide +kernel
theorem dX5_isAhead_4 : decode cX5_isAhead 4 = .ok (.iload_n 1, 1) := by decide +kernel
theorem dX5_isAhead_5 : decode cX5_isAhead 5 = .ok (.iaload, 1) := by decide +kernel
theorem dX5_isAhead_6 : decode cX5_isAhead 6 = .ok (.aload_n 0, 1) := by decide +kernel
theorem dX5_isAhead_7 : decode cX5_isAhead 7 = .ok (.getfield 7, 3) := by decide +kernel
theorem dX5_isAhead_10 : decode cX5_isAhead 10 = .ok (.iload_n 2, 1) := by decide +kernel
theorem dX5_isAhead_11 : decode cX5_isAhead 11 = .ok (.iaload, 1) := by decide +kernel
theorem dX5_isAhead_12 : decode cX5_isAhead 12 = .ok (.if_icmp .lt 23, 3) := by decide +kernel
theorem dX5_isAhead_15 : decode cX5_isAhead 15 = .ok (.aload_n 0, 1) := by decide +kernel
theorem dX5_isAhead_16 : decode cX5_isAhead 16 = .ok (.getfield 7, 3) := by decide +kernel
theorem dX5_isAhead_19 : decode cX5_isAhead 19 = .ok (.iload_n 1, 1) := by decide +kernel
theorem dX5_isAhead_20 : decode cX5_isAhead 20 = .ok (.iaload, 1) := by decide +kernel
theorem dX5_isAhead_21 : decode cX5_isAhead 21 = .ok (.aload_n 0, 1) := by decide +kernel
theorem dX5_isAhead_22 : decode cX5_isAhead 22 = .ok (.getfield 7, 3) := by decide +kernel
theorem dX5_isAhead_25 : decode cX5_isAhead 25 = .ok (.iload_n 2, 1) := by decide +kernel
theorem dX5_isAhead_26 : decode cX5_isAhead 26 = .ok (.iaload, 1) := by decide +kernel
theorem dX5_isAhead_27 : decode cX5_isAhead 27 = .ok (.if_icmp .ne 12, 3) := by decide +kernel
theorem dX5_isAhead_30 : decode cX5_isAhead 30 = .ok (.iload_n 1, 1) := by decide +kernel
theorem dX5_isAhead_31 : decode cX5_isAhead 31 = .ok (.iload_n 2, 1) := by decide +kernel
theorem dX5_isAhead_32 : decode cX5_isAhead 32 = .ok (.if_icmp .ge 7, 3) := by decide +kernel
theorem dX5_isAhead_35 : decode cX5_isAhead 35 = .ok (.iconst 1, 1) := by decide +kernel
theorem dX5_isAhead_36 : decode cX5_isAhead 36 = .ok (.goto 4, 3) := by decide +kernel
theorem dX5_isAhead_39 : decode cX5_isAhead 39 = .ok (.iconst 0, 1) := by decide +kernel
theorem dX5_isAhead_40 : decode cX5_isAhead 40 = .ok (.ireturn, 1) := by decide +kernel
set_option maxRecDepth 20000 in
theorem ggX5_behind_X5_isAhead : GoodIn wsX5_behind wsX5_isAhead := goodIn_ca (goodIn_r _ [8, 9, 10, 11, 12, 13, 14, 15, 16, 17, 18, 19, 20] (by decide +kernel) (by decide +kernel)) (goodIn_sub (fun _ h => List.mem_cons_of_mem _ (List.mem_append_right _ h)) (by decide +kernel))
set_option maxRecDepth 20000 in
theorem gX5_behind_X5_isAhead : GoodIn wsX5_behind (wsV RX5 38 RX5 yX5_isAhead wsX5_isAhead) := goodIn_app (goodIn_of _ (by decide +kernel)) ggX5_behind_X5_isAhead
theorem dX5_behind_0 : decode cX5_behind 0 = .ok (.iconst (-1), 1) := by decide +kernel
theorem dX5_behind_1 : decode cX5_behind 1 = .ok (.istore_n 3, 1) := by decide +kernel
theorem dX5_behind_2 : decode cX5_behind 2 = .ok (.iconst 0, 1) := by decide +kernel
theorem dX5_behind_3 : decode cX5_behind 3 = .ok (.istore 4, 2) := by decide +kernel
theorem dX5_behind_5 : decode cX5_behind 5 = .ok (.iload 4, 2) := by decide +kernel
theorem dX5_behind_7 : decode cX5_behind 7 = .ok (.aload_n 0, 1) := by decide +kernel
theorem dX5_behind_8 : decode cX5_behind 8 = .ok (.getfield 35, 3) := by decide +kernel
theorem dX5_behind_11 : decode cX5_behind 11 = .ok (.if_icmp .ge 63, 3) := by decide +kernel
theorem dX5_behind_14 : decode cX5_behind 14 = .ok (.aload_n 0, 1) := by decide +kernel
theorem dX5_behind_15 : decode cX5_behind 15 = .ok (.getfield 19, 3) := by decide +kernel
theorem dX5_behind_18 : decode cX5_behind 18 = .ok (.iload 4, 2) := by decide +kernel
theorem dX5_behind_20 : decode cX5_behind 20 = .ok (.iaload, 1) := by decide +kernel
theorem dX5_behind_21 : decode cX5_behind 21 = .ok (.iload_n 1, 1) := by decide +kernel
theorem dX5_behind_22 : decode cX5_behind 22 = .ok (.if_icmp .ne 46, 3) := by decide +kernel
theorem dX5_behind_25 : decode cX5_behind 25 = .ok (.aload_n 0, 1) := by decide +kernel
theorem dX5_behind_26 : decode cX5_behind 26 = .ok (.getfield 22, 3) := by decide +kernel
theorem dX5_behind_29 : decode cX5_behind 29 = .ok (.iload 4, 2) := by decide +kernel
theorem dX5_behind_31 : decode cX5_behind 31 = .ok (.iaload, 1) := by decide +kernel
theorem dX5_behind_32 : decode cX5_behind 32 = .ok (.ifCond .ne 36, 3) := by decide +kernel
theorem dX5_behind_35 : decode cX5_behind 35 = .ok (.iload_n 2, 1) := by decide +kernel
theorem dX5_behind_36 : decode cX5_behind 36 = .ok (.iconst (-1), 1) := by decide +kernel
theorem dX5_behind_37 : decode cX5_behind 37 = .ok (.if_icmp .eq 13, 3) := by decide +kernel
theorem dX5_behind_40 : decode cX5_behind 40 = .ok (.aload_n 0, 1) := by decide +kernel
theorem dX5_behind_41 : decode cX5_behind 41 = .ok (.iload_n 2, 1) := by decide +kernel
theorem dX5_behind_42 : decode cX5_behind 42 = .ok (.iload 4, 2) := by decide +kernel
theorem dX5_behind_44 : decode cX5_behind 44 = .ok (.invokevirtual 38, 3) := by decide +kernel
theorem dX5_behind_47 : decode cX5_behind 47 = .ok (.ifCond .eq 21, 3) := by decide +kernel
theorem dX5_behind_50 : decode cX5_behind 50 = .ok (.iload_n 3, 1) := by decide +kernel
theorem dX5_behind_51 : decode cX5_behind 51 = .ok (.iconst (-1), 1) := by decide +kernel
theorem dX5_behind_52 : decode cX5_behind 52 = .ok (.if_icmp .eq 13, 3) := by decide +kernel
theorem dX5_behind_55 : decode cX5_behind 55 = .ok (.aload_n 0, 1) := by decide +kernel
theorem dX5_behind_56 : decode cX5_behind 56 = .ok (.iload 4, 2) := by decide +kernel
theorem dX5_behind_58 : decode cX5_behind 58 = .ok (.iload_n 3, 1) := by decide +kernel
theorem dX5_behind_59 : decode cX5_behind 59 = .ok (.invokevirtual 38, 3) := by decide +kernel
theorem dX5_behind_62 : decode cX5_behind 62 = .ok (.ifCond .eq 6, 3) := by decide +kernel
theorem dX5_behind_65 : decode cX5_behind 65 = .ok (.iload 4, 2) := by decide +kernel
theorem dX5_behind_67 : decode cX5_behind 67 = .ok (.istore_n 3, 1) := by decide +kernel
theorem dX5_behind_68 : decode cX5_behind 68 = .ok (.iinc 4 1, 3) := by decide +kernel
theorem dX5_behind_71 : decode cX5_behind 71 = .ok (.goto (-66), 3) := by decide +kernel
theorem dX5_behind_74 : decode cX5_behind 74 = .ok (.iload_n 3, 1) := by decide +kernel
theorem dX5_behind_75 : decode cX5_behind 75 = .ok (.ireturn, 1) := by decide +kernel
set_option maxRecDepth 20000 in
theorem ggX5_first_X5_behind : GoodIn wsX5_first wsX5_behind := goodIn_ca (goodIn_r _ [5, 6, 7, 8, 9, 10, 11, 4, 12, 13, 14, 15, 16, 17, 18, 19, 20, 21, 22, 23, 24] (by decide +kernel) (by decide +kernel)) (goodIn_sub (fun _ h => List.mem_cons_of_mem _ (List.mem_append_right _ h)) (by decide +kernel))
set_option maxRecDepth 20000 in
theorem gX5_first_X5_behind : GoodIn wsX5_first (wsV RX5 42 RX5 yX5_behind wsX5_behind) := goodIn_app (goodIn_of _ (by decide +kernel)) ggX5_first_X5_behind
theorem dX5_first_0 : decode cX5_first 0 = .ok (.aload_n 0, 1) := by decide +kernel
theorem dX5_first_1 : decode cX5_first 1 = .ok (.iload_n 1, 1) := by decide +kernel
theorem dX5_first_2 : decode cX5_first 2 = .ok (.iconst (-1), 1) := by decide +kernel
theorem dX5_first_3 : decode cX5_first 3 = .ok (.invokevirtual 42, 3) := by decide +kernel
theorem dX5_first_6 : decode cX5_first 6 = .ok (.ireturn, 1) := by decide +kernel
theorem dX5_isWaiting_0 : decode cX5_isWaiting 0 = .ok (.iload_n 2, 1) := by decide +kernel
theorem dX5_isWaiting_1 : decode cX5_isWaiting 1 = .ok (.ifCond .lt 34, 3) := by decide +kernel
theorem dX5_isWaiting_4 : decode cX5_isWaiting 4 = .ok (.iload_n 2, 1) := by decide +kernel
theorem dX5_isWaiting_5 : decode cX5_isWaiting 5 = .ok (.aload_n 0, 1) := by decide +kernel
theorem dX5_isWaiting_6 : decode cX5_isWaiting 6 = .ok (.getfield 35, 3) := by decide +kernel
theorem dX5_isWaiting_9 : decode cX5_isWaiting 9 = .ok (.if_icmp .ge 26, 3) := by decide +kernel
theorem dX5_isWaiting_12 : decode cX5_isWaiting 12 = .ok (.aload_n 0, 1) := by decide +kernel
theorem dX5_isWaiting_13 : decode cX5_isWaiting 13 = .ok (.getfield 19, 3) := by decide +kernel
theorem dX5_isWaiting_16 : decode cX5_isWaiting 16 = .ok (.iload_n 2, 1) := by decide +kernel
theorem dX5_isWaiting_17 : decode cX5_isWaiting 17 = .ok (.iaload, 1) := by decide +kernel
theorem dX5_isWaiting_18 : decode cX5_isWaiting 18 = .ok (.iload_n 1, 1) := by decide +kernel
theorem dX5_isWaiting_19 : decode cX5_isWaiting 19 = .ok (.if_icmp .ne 16, 3) := by decide +kernel
theorem dX5_isWaiting_22 : decode cX5_isWaiting 22 = .ok (.aload_n 0, 1) := by decide +kernel
theorem dX5_isWaiting_23 : decode cX5_isWaiting 23 = .ok (.getfield 22, 3) := by decide +kernel
theorem dX5_isWaiting_26 : decode cX5_isWaiting 26 = .ok (.iload_n 2, 1) := by decide +kernel
theorem dX5_isWaiting_27 : decode cX5_isWaiting 27 = .ok (.iaload, 1) := by decide +kernel
theorem dX5_isWaiting_28 : decode cX5_isWaiting 28 = .ok (.ifCond .ne 7, 3) := by decide +kernel
theorem dX5_isWaiting_31 : decode cX5_isWaiting 31 = .ok (.iconst 1, 1) := by decide +kernel
theorem dX5_isWaiting_32 : decode cX5_isWaiting 32 = .ok (.goto 4, 3) := by decide +kernel
theorem dX5_isWaiting_35 : decode cX5_isWaiting 35 = .ok (.iconst 0, 1) := by decide +kernel
theorem dX5_isWaiting_36 : decode cX5_isWaiting 36 = .ok (.ireturn, 1) := by decide +kernel
theorem dX5_makes_0 : decode cX5_makes 0 = .ok (.aload_n 0, 1) := by decide +kernel
theorem dX5_makes_1 : decode cX5_makes 1 = .ok (.getfield 7, 3) := by decide +kernel
theorem dX5_makes_4 : decode cX5_makes 4 = .ok (.aload_n 0, 1) := by decide +kernel
theorem dX5_makes_5 : decode cX5_makes 5 = .ok (.getfield 35, 3) := by decide +kernel
theorem dX5_makes_8 : decode cX5_makes 8 = .ok (.iload_n 2, 1) := by decide +kernel
theorem dX5_makes_9 : decode cX5_makes 9 = .ok (.iastore, 1) := by decide +kernel
theorem dX5_makes_10 : decode cX5_makes 10 = .ok (.aload_n 0, 1) := by decide +kernel
theorem dX5_makes_11 : decode cX5_makes 11 = .ok (.getfield 13, 3) := by decide +kernel
theorem dX5_makes_14 : decode cX5_makes 14 = .ok (.aload_n 0, 1) := by decide +kernel
theorem dX5_makes_15 : decode cX5_makes 15 = .ok (.getfield 35, 3) := by decide +kernel
theorem dX5_makes_18 : decode cX5_makes 18 = .ok (.iload_n 3, 1) := by decide +kernel
theorem dX5_makes_19 : decode cX5_makes 19 = .ok (.iastore, 1) := by decide +kernel
theorem dX5_makes_20 : decode cX5_makes 20 = .ok (.aload_n 0, 1) := by decide +kernel
theorem dX5_makes_21 : decode cX5_makes 21 = .ok (.getfield 16, 3) := by decide +kernel
theorem dX5_makes_24 : decode cX5_makes 24 = .ok (.aload_n 0, 1) := by decide +kernel
theorem dX5_makes_25 : decode cX5_makes 25 = .ok (.getfield 35, 3) := by decide +kernel
theorem dX5_makes_28 : decode cX5_makes 28 = .ok (.iload 4, 2) := by decide +kernel
theorem dX5_makes_30 : decode cX5_makes 30 = .ok (.iastore, 1) := by decide +kernel
theorem dX5_makes_31 : decode cX5_makes 31 = .ok (.aload_n 0, 1) := by decide +kernel
theorem dX5_makes_32 : decode cX5_makes 32 = .ok (.getfield 19, 3) := by decide +kernel
theorem dX5_makes_35 : decode cX5_makes 35 = .ok (.aload_n 0, 1) := by decide +kernel
theorem dX5_makes_36 : decode cX5_makes 36 = .ok (.getfield 35, 3) := by decide +kernel
theorem dX5_makes_39 : decode cX5_makes 39 = .ok (.iload_n 1, 1) := by decide +kernel
theorem dX5_makes_40 : decode cX5_makes 40 = .ok (.iastore, 1) := by decide +kernel
theorem dX5_makes_41 : decode cX5_makes 41 = .ok (.aload_n 0, 1) := by decide +kernel
theorem dX5_makes_42 : decode cX5_makes 42 = .ok (.getfield 22, 3) := by decide +kernel
theorem dX5_makes_45 : decode cX5_makes 45 = .ok (.aload_n 0, 1) := by decide +kernel
theorem dX5_makes_46 : decode cX5_makes 46 = .ok (.getfield 35, 3) := by decide +kernel
theorem dX5_makes_49 : decode cX5_makes 49 = .ok (.iconst 0, 1) := by decide +kernel
theorem dX5_makes_50 : decode cX5_makes 50 = .ok (.iastore, 1) := by decide +kernel
theorem dX5_makes_51 : decode cX5_makes 51 = .ok (.aload_n 0, 1) := by decide +kernel
theorem dX5_makes_52 : decode cX5_makes 52 = .ok (.dup, 1) := by decide +kernel
theorem dX5_makes_53 : decode cX5_makes 53 = .ok (.getfield 35, 3) := by decide +kernel
theorem dX5_makes_56 : decode cX5_makes 56 = .ok (.iconst 1, 1) := by decide +kernel
theorem dX5_makes_57 : decode cX5_makes 57 = .ok (.iadd, 1) := by decide +kernel
theorem dX5_makes_58 : decode cX5_makes 58 = .ok (.putfield 35, 3) := by decide +kernel
theorem dX5_makes_61 : decode cX5_makes 61 = .ok (.aload_n 0, 1) := by decide +kernel
theorem dX5_makes_62 : decode cX5_makes 62 = .ok (.getfield 35, 3) := by decide +kernel
theorem dX5_makes_65 : decode cX5_makes 65 = .ok (.iconst 1, 1) := by decide +kernel
theorem dX5_makes_66 : decode cX5_makes 66 = .ok (.isub, 1) := by decide +kernel
theorem dX5_makes_67 : decode cX5_makes 67 = .ok (.ireturn, 1) := by decide +kernel
set_option maxRecDepth 20000 in
theorem ggX5_book_X5_isHouse : GoodIn wsX5_book wsX5_isHouse := goodIn_r _ [6] (by decide +kernel) (by decide +kernel)
set_option maxRecDepth 20000 in
theorem gX5_book_X5_isHouse : GoodIn wsX5_book (va_wsS RX5 46 yX5_isHouse wsX5_isHouse) := goodIn_app (goodIn_of _ (by decide +kernel)) ggX5_book_X5_isHouse
set_option maxRecDepth 20000 in
theorem ggX5_book_X5_isThrown : GoodIn wsX5_book wsX5_isThrown := goodIn_r _ [10, 11, 28, 29, 30, 31, 32, 33, 34, 35, 36, 37, 38] (by decide +kernel) (by decide +kernel)
set_option maxRecDepth 20000 in
theorem gX5_book_X5_isThrown : GoodIn wsX5_book (wsV RX5 50 RX5 yX5_isThrown wsX5_isThrown) := goodIn_app (goodIn_of _ (by decide +kernel)) ggX5_book_X5_isThrown
set_option maxRecDepth 20000 in
theorem ggX5_book_X5_isIn : GoodIn wsX5_book wsX5_isIn := goodIn_r _ [14] (by decide +kernel) (by decide +kernel)
set_option maxRecDepth 20000 in
theorem gX5_book_X5_isIn : GoodIn wsX5_book (va_wsS RX5 54 yX5_isIn wsX5_isIn) := goodIn_app (goodIn_of _ (by decide +kernel)) ggX5_book_X5_isIn
set_option maxRecDepth 20000 in
theorem ggX5_book_X5_many : GoodIn wsX5_book wsX5_many := goodIn_ca (goodIn_r _ [18, 2, 19, 20, 28, 29, 30, 31, 32, 33, 34, 35, 36, 37, 38] (by decide +kernel) (by decide +kernel)) (goodIn_sub (fun _ h => List.mem_cons_of_mem _ (List.mem_append_right _ h)) (by decide +kernel))
set_option maxRecDepth 20000 in
theorem gX5_book_X5_many : GoodIn wsX5_book (wsV RX5 58 RX5 yX5_many wsX5_many) := goodIn_app (goodIn_of _ (by decide +kernel)) ggX5_book_X5_many
set_option maxRecDepth 20000 in
theorem ggX5_book_X5_makes : GoodIn wsX5_book wsX5_makes := goodIn_ca (goodIn_r _ [24, 25, 2, 26, 27, 19, 20, 28, 29, 30, 31, 32, 33, 34, 35, 36, 37, 38] (by decide +kernel) (by decide +kernel)) (goodIn_sub (fun _ h => List.mem_cons_of_mem _ (List.mem_append_right _ h)) (by decide +kernel))
set_option maxRecDepth 20000 in
theorem gX5_book_X5_makes : GoodIn wsX5_book (wsV RX5 61 RX5 yX5_makes wsX5_makes) := goodIn_app (goodIn_of _ (by decide +kernel)) ggX5_book_X5_makes
theorem dX5_book_0 : decode cX5_book 0 = .ok (.aload_n 0, 1) := by decide +kernel
theorem dX5_book_1 : decode cX5_book 1 = .ok (.iload_n 1, 1) := by decide +kernel
theorem dX5_book_2 : decode cX5_book 2 = .ok (.invokestatic 46, 3) := by decide +kernel
theorem dX5_book_5 : decode cX5_book 5 = .ok (.ifCond .ne 7, 3) := by decide +kernel
theorem dX5_book_8 : decode cX5_book 8 = .ok (.iconst 1, 1) := by decide +kernel
theorem dX5_book_9 : decode cX5_book 9 = .ok (.goto 4, 3) := by decide +kernel
theorem dX5_book_12 : decode cX5_book 12 = .ok (.iconst 0, 1) := by decide +kernel
theorem dX5_book_13 : decode cX5_book 13 = .ok (.iconst 1, 1) := by decide +kernel
theorem dX5_book_14 : decode cX5_book 14 = .ok (.invokevirtual 50, 3) := by decide +kernel
theorem dX5_book_17 : decode cX5_book 17 = .ok (.ifCond .ne 49, 3) := by decide +kernel
theorem dX5_book_20 : decode cX5_book 20 = .ok (.aload_n 0, 1) := by decide +kernel
theorem dX5_book_21 : decode cX5_book 21 = .ok (.iload_n 2, 1) := by decide +kernel
theorem dX5_book_22 : decode cX5_book 22 = .ok (.iconst 0, 1) := by decide +kernel
theorem dX5_book_23 : decode cX5_book 23 = .ok (.sipush 9999, 3) := by decide +kernel
theorem dX5_book_26 : decode cX5_book 26 = .ok (.invokestatic 54, 3) := by decide +kernel
theorem dX5_book_29 : decode cX5_book 29 = .ok (.ifCond .eq 25, 3) := by decide +kernel
theorem dX5_book_32 : decode cX5_book 32 = .ok (.iload_n 3, 1) := by decide +kernel
theorem dX5_book_33 : decode cX5_book 33 = .ok (.iconst 0, 1) := by decide +kernel
theorem dX5_book_34 : decode cX5_book 34 = .ok (.sipush 500, 3) := by decide +kernel
theorem dX5_book_37 : decode cX5_book 37 = .ok (.invokestatic 54, 3) := by decide +kernel
theorem dX5_book_40 : decode cX5_book 40 = .ok (.ifCond .eq 14, 3) := by decide +kernel
theorem dX5_book_43 : decode cX5_book 43 = .ok (.iload 4, 2) := by decide +kernel
theorem dX5_book_45 : decode cX5_book 45 = .ok (.iconst 1, 1) := by decide +kernel
theorem dX5_book_46 : decode cX5_book 46 = .ok (.bipush 9, 2) := by decide +kernel
theorem dX5_book_48 : decode cX5_book 48 = .ok (.invokestatic 54, 3) := by decide +kernel
theorem dX5_book_51 : decode cX5_book 51 = .ok (.ifCond .ne 7, 3) := by decide +kernel
theorem dX5_book_54 : decode cX5_book 54 = .ok (.iconst 1, 1) := by decide +kernel
theorem dX5_book_55 : decode cX5_book 55 = .ok (.goto 4, 3) := by decide +kernel
theorem dX5_book_58 : decode cX5_book 58 = .ok (.iconst 0, 1) := by decide +kernel
theorem dX5_book_59 : decode cX5_book 59 = .ok (.iconst 2, 1) := by decide +kernel
theorem dX5_book_60 : decode cX5_book 60 = .ok (.invokevirtual 50, 3) := by decide +kernel
theorem dX5_book_63 : decode cX5_book 63 = .ok (.ifCond .eq 5, 3) := by decide +kernel
theorem dX5_book_66 : decode cX5_book 66 = .ok (.iconst 0, 1) := by decide +kernel
theorem dX5_book_67 : decode cX5_book 67 = .ok (.ireturn, 1) := by decide +kernel
theorem dX5_book_68 : decode cX5_book 68 = .ok (.aload_n 0, 1) := by decide +kernel
theorem dX5_book_69 : decode cX5_book 69 = .ok (.iload_n 2, 1) := by decide +kernel
theorem dX5_book_70 : decode cX5_book 70 = .ok (.aload_n 0, 1) := by decide +kernel
theorem dX5_book_71 : decode cX5_book 71 = .ok (.getfield 28, 3) := by decide +kernel
theorem dX5_book_74 : decode cX5_book 74 = .ok (.iload_n 1, 1) := by decide +kernel
theorem dX5_book_75 : decode cX5_book 75 = .ok (.iaload, 1) := by decide +kernel
theorem dX5_book_76 : decode cX5_book 76 = .ok (.if_icmp .lt 23, 3) := by decide +kernel
theorem dX5_book_79 : decode cX5_book 79 = .ok (.aload_n 0, 1) := by decide +kernel
theorem dX5_book_80 : decode cX5_book 80 = .ok (.iload_n 1, 1) := by decide +kernel
theorem dX5_book_81 : decode cX5_book 81 = .ok (.iconst 0, 1) := by decide +kernel
theorem dX5_book_82 : decode cX5_book 82 = .ok (.invokevirtual 58, 3) := by decide +kernel
theorem dX5_book_85 : decode cX5_book 85 = .ok (.bipush 48, 2) := by decide +kernel
theorem dX5_book_87 : decode cX5_book 87 = .ok (.if_icmp .eq 12, 3) := by decide +kernel
theorem dX5_book_90 : decode cX5_book 90 = .ok (.aload_n 0, 1) := by decide +kernel
theorem dX5_book_91 : decode cX5_book 91 = .ok (.getfield 35, 3) := by decide +kernel
theorem dX5_book_94 : decode cX5_book 94 = .ok (.bipush 120, 2) := by decide +kernel
theorem dX5_book_96 : decode cX5_book 96 = .ok (.if_icmp .ne 7, 3) := by decide +kernel
theorem dX5_book_99 : decode cX5_book 99 = .ok (.iconst 1, 1) := by decide +kernel
theorem dX5_book_100 : decode cX5_book 100 = .ok (.goto 4, 3) := by decide +kernel
theorem dX5_book_103 : decode cX5_book 103 = .ok (.iconst 0, 1) := by decide +kernel
theorem dX5_book_104 : decode cX5_book 104 = .ok (.iconst 3, 1) := by decide +kernel
theorem dX5_book_105 : decode cX5_book 105 = .ok (.invokevirtual 50, 3) := by decide +kernel
theorem dX5_book_108 : decode cX5_book 108 = .ok (.ifCond .eq 5, 3) := by decide +kernel
theorem dX5_book_111 : decode cX5_book 111 = .ok (.iconst 0, 1) := by decide +kernel
theorem dX5_book_112 : decode cX5_book 112 = .ok (.ireturn, 1) := by decide +kernel
theorem dX5_book_113 : decode cX5_book 113 = .ok (.aload_n 0, 1) := by decide +kernel
theorem dX5_book_114 : decode cX5_book 114 = .ok (.iload_n 1, 1) := by decide +kernel
theorem dX5_book_115 : decode cX5_book 115 = .ok (.iload_n 2, 1) := by decide +kernel
theorem dX5_book_116 : decode cX5_book 116 = .ok (.iload_n 3, 1) := by decide +kernel
theorem dX5_book_117 : decode cX5_book 117 = .ok (.iload 4, 2) := by decide +kernel
theorem dX5_book_119 : decode cX5_book 119 = .ok (.invokevirtual 61, 3) := by decide +kernel
theorem dX5_book_122 : decode cX5_book 122 = .ok (.ireturn, 1) := by decide +kernel
set_option maxRecDepth 20000 in
theorem ggX5_series_X5_isHouse : GoodIn wsX5_series wsX5_isHouse := goodIn_r _ [6] (by decide +kernel) (by decide +kernel)
set_option maxRecDepth 20000 in
theorem gX5_series_X5_isHouse : GoodIn wsX5_series (va_wsS RX5 46 yX5_isHouse wsX5_isHouse) := goodIn_app (goodIn_of _ (by decide +kernel)) ggX5_series_X5_isHouse
set_option maxRecDepth 20000 in
theorem ggX5_series_X5_isThrown : GoodIn wsX5_series wsX5_isThrown := goodIn_r _ [10, 11, 28, 29, 30, 31, 32, 33, 34, 35, 36, 37, 38] (by decide +kernel) (by decide +kernel)
set_option maxRecDepth 20000 in
theorem gX5_series_X5_isThrown : GoodIn wsX5_series (wsV RX5 50 RX5 yX5_isThrown wsX5_isThrown) := goodIn_app (goodIn_of _ (by decide +kernel)) ggX5_series_X5_isThrown
set_option maxRecDepth 20000 in
theorem ggX5_series_X5_isIn : GoodIn wsX5_series wsX5_isIn := goodIn_r _ [14] (by decide +kernel) (by decide +kernel)
set_option maxRecDepth 20000 in
theorem gX5_series_X5_isIn : GoodIn wsX5_series (va_wsS RX5 54 yX5_isIn wsX5_isIn) := goodIn_app (goodIn_of _ (by decide +kernel)) ggX5_series_X5_isIn
set_option maxRecDepth 20000 in
theorem ggX5_series_X5_many : GoodIn wsX5_series wsX5_many := goodIn_ca (goodIn_r _ [18, 2, 19, 20, 28, 29, 30, 31, 32, 33, 34, 35, 36, 37, 38] (by decide +kernel) (by decide +kernel)) (goodIn_sub (fun _ h => List.mem_cons_of_mem _ (List.mem_append_right _ h)) (by decide +kernel))
set_option maxRecDepth 20000 in
theorem gX5_series_X5_many : GoodIn wsX5_series (wsV RX5 58 RX5 yX5_many wsX5_many) := goodIn_app (goodIn_of _ (by decide +kernel)) ggX5_series_X5_many
set_option maxRecDepth 20000 in
theorem ggX5_series_X5_makes : GoodIn wsX5_series wsX5_makes := goodIn_ca (goodIn_r _ [24, 25, 2, 26, 27, 19, 20, 28, 29, 30, 31, 32, 33, 34, 35, 36, 37, 38] (by decide +kernel) (by decide +kernel)) (goodIn_sub (fun _ h => List.mem_cons_of_mem _ (List.mem_append_right _ h)) (by decide +kernel))
set_option maxRecDepth 20000 in
theorem gX5_series_X5_makes : GoodIn wsX5_series (wsV RX5 61 RX5 yX5_makes wsX5_makes) := goodIn_app (goodIn_of _ (by decide +kernel)) ggX5_series_X5_makes
theorem dX5_series_0 : decode cX5_series 0 = .ok (.aload_n 0, 1) := by decide +kernel
theorem dX5_series_1 : decode cX5_series 1 = .ok (.iload_n 1, 1) := by decide +kernel
theorem dX5_series_2 : decode cX5_series 2 = .ok (.invokestatic 46, 3) := by decide +kernel
theorem dX5_series_5 : decode cX5_series 5 = .ok (.ifCond .ne 7, 3) := by decide +kernel
theorem dX5_series_8 : decode cX5_series 8 = .ok (.iconst 1, 1) := by decide +kernel
theorem dX5_series_9 : decode cX5_series 9 = .ok (.goto 4, 3) := by decide +kernel
theorem dX5_series_12 : decode cX5_series 12 = .ok (.iconst 0, 1) := by decide +kernel
theorem dX5_series_13 : decode cX5_series 13 = .ok (.iconst 1, 1) := by decide +kernel
theorem dX5_series_14 : decode cX5_series 14 = .ok (.invokevirtual 50, 3) := by decide +kernel
theorem dX5_series_17 : decode cX5_series 17 = .ok (.ifCond .eq 5, 3) := by decide +kernel
theorem dX5_series_20 : decode cX5_series 20 = .ok (.iconst 0, 1) := by decide +kernel
theorem dX5_series_21 : decode cX5_series 21 = .ok (.ireturn, 1) := by decide +kernel
theorem dX5_series_22 : decode cX5_series 22 = .ok (.aload_n 0, 1) := by decide +kernel
theorem dX5_series_23 : decode cX5_series 23 = .ok (.iload_n 3, 1) := by decide +kernel
theorem dX5_series_24 : decode cX5_series 24 = .ok (.iconst 0, 1) := by decide +kernel
theorem dX5_series_25 : decode cX5_series 25 = .ok (.sipush 500, 3) := by decide +kernel
theorem dX5_series_28 : decode cX5_series 28 = .ok (.invokestatic 54, 3) := by decide +kernel
theorem dX5_series_31 : decode cX5_series 31 = .ok (.ifCond .eq 48, 3) := by decide +kernel
theorem dX5_series_34 : decode cX5_series 34 = .ok (.iload 4, 2) := by decide +kernel
theorem dX5_series_36 : decode cX5_series 36 = .ok (.iconst 1, 1) := by decide +kernel
theorem dX5_series_37 : decode cX5_series 37 = .ok (.bipush 12, 2) := by decide +kernel
theorem dX5_series_39 : decode cX5_series 39 = .ok (.invokestatic 54, 3) := by decide +kernel
theorem dX5_series_42 : decode cX5_series 42 = .ok (.ifCond .eq 37, 3) := by decide +kernel
theorem dX5_series_45 : decode cX5_series 45 = .ok (.iload 5, 2) := by decide +kernel
theorem dX5_series_47 : decode cX5_series 47 = .ok (.iconst 0, 1) := by decide +kernel
theorem dX5_series_48 : decode cX5_series 48 = .ok (.sipush 500, 3) := by decide +kernel
theorem dX5_series_51 : decode cX5_series 51 = .ok (.invokestatic 54, 3) := by decide +kernel
theorem dX5_series_54 : decode cX5_series 54 = .ok (.ifCond .eq 25, 3) := by decide +kernel
theorem dX5_series_57 : decode cX5_series 57 = .ok (.iload 6, 2) := by decide +kernel
theorem dX5_series_59 : decode cX5_series 59 = .ok (.iconst 1, 1) := by decide +kernel
theorem dX5_series_60 : decode cX5_series 60 = .ok (.bipush 9, 2) := by decide +kernel
theorem dX5_series_62 : decode cX5_series 62 = .ok (.invokestatic 54, 3) := by decide +kernel
theorem dX5_series_65 : decode cX5_series 65 = .ok (.ifCond .eq 14, 3) := by decide +kernel
theorem dX5_series_68 : decode cX5_series 68 = .ok (.iload_n 2, 1) := by decide +kernel
theorem dX5_series_69 : decode cX5_series 69 = .ok (.iconst 0, 1) := by decide +kernel
theorem dX5_series_70 : decode cX5_series 70 = .ok (.sipush 9999, 3) := by decide +kernel
theorem dX5_series_73 : decode cX5_series 73 = .ok (.invokestatic 54, 3) := by decide +kernel
theorem dX5_series_76 : decode cX5_series 76 = .ok (.ifCond .ne 7, 3) := by decide +kernel
theorem dX5_series_79 : decode cX5_series 79 = .ok (.iconst 1, 1) := by decide +kernel
theorem dX5_series_80 : decode cX5_series 80 = .ok (.goto 4, 3) := by decide +kernel
theorem dX5_series_83 : decode cX5_series 83 = .ok (.iconst 0, 1) := by decide +kernel
theorem dX5_series_84 : decode cX5_series 84 = .ok (.iconst 2, 1) := by decide +kernel
theorem dX5_series_85 : decode cX5_series 85 = .ok (.invokevirtual 50, 3) := by decide +kernel
theorem dX5_series_88 : decode cX5_series 88 = .ok (.ifCond .eq 5, 3) := by decide +kernel
theorem dX5_series_91 : decode cX5_series 91 = .ok (.iconst 0, 1) := by decide +kernel
theorem dX5_series_92 : decode cX5_series 92 = .ok (.ireturn, 1) := by decide +kernel
theorem dX5_series_93 : decode cX5_series 93 = .ok (.aload_n 0, 1) := by decide +kernel
theorem dX5_series_94 : decode cX5_series 94 = .ok (.iload_n 2, 1) := by decide +kernel
theorem dX5_series_95 : decode cX5_series 95 = .ok (.iload_n 3, 1) := by decide +kernel
theorem dX5_series_96 : decode cX5_series 96 = .ok (.iload 4, 2) := by decide +kernel
theorem dX5_series_98 : decode cX5_series 98 = .ok (.iconst 1, 1) := by decide +kernel
theorem dX5_series_99 : decode cX5_series 99 = .ok (.isub, 1) := by decide +kernel
theorem dX5_series_100 : decode cX5_series 100 = .ok (.imul, 1) := by decide +kernel
theorem dX5_series_101 : decode cX5_series 101 = .ok (.iadd, 1) := by decide +kernel
theorem dX5_series_102 : decode cX5_series 102 = .ok (.sipush 9999, 3) := by decide +kernel
theorem dX5_series_105 : decode cX5_series 105 = .ok (.if_icmp .le 7, 3) := by decide +kernel
theorem dX5_series_108 : decode cX5_series 108 = .ok (.iconst 1, 1) := by decide +kernel
theorem dX5_series_109 : decode cX5_series 109 = .ok (.goto 4, 3) := by decide +kernel
theorem dX5_series_112 : decode cX5_series 112 = .ok (.iconst 0, 1) := by decide +kernel
theorem dX5_series_113 : decode cX5_series 113 = .ok (.iconst 2, 1) := by decide +kernel
theorem dX5_series_114 : decode cX5_series 114 = .ok (.invokevirtual 50, 3) := by decide +kernel
theorem dX5_series_117 : decode cX5_series 117 = .ok (.ifCond .eq 5, 3) := by decide +kernel
theorem dX5_series_120 : decode cX5_series 120 = .ok (.iconst 0, 1) := by decide +kernel
theorem dX5_series_121 : decode cX5_series 121 = .ok (.ireturn, 1) := by decide +kernel
theorem dX5_series_122 : decode cX5_series 122 = .ok (.aload_n 0, 1) := by decide +kernel
theorem dX5_series_123 : decode cX5_series 123 = .ok (.iload_n 2, 1) := by decide +kernel
theorem dX5_series_124 : decode cX5_series 124 = .ok (.aload_n 0, 1) := by decide +kernel
theorem dX5_series_125 : decode cX5_series 125 = .ok (.getfield 28, 3) := by decide +kernel
theorem dX5_series_128 : decode cX5_series 128 = .ok (.iload_n 1, 1) := by decide +kernel
theorem dX5_series_129 : decode cX5_series 129 = .ok (.iaload, 1) := by decide +kernel
theorem dX5_series_130 : decode cX5_series 130 = .ok (.if_icmp .lt 29, 3) := by decide +kernel
theorem dX5_series_133 : decode cX5_series 133 = .ok (.aload_n 0, 1) := by decide +kernel
theorem dX5_series_134 : decode cX5_series 134 = .ok (.iload_n 1, 1) := by decide +kernel
theorem dX5_series_135 : decode cX5_series 135 = .ok (.iconst 0, 1) := by decide +kernel
theorem dX5_series_136 : decode cX5_series 136 = .ok (.invokevirtual 58, 3) := by decide +kernel
theorem dX5_series_139 : decode cX5_series 139 = .ok (.iload 4, 2) := by decide +kernel
theorem dX5_series_141 : decode cX5_series 141 = .ok (.iadd, 1) := by decide +kernel
theorem dX5_series_142 : decode cX5_series 142 = .ok (.bipush 48, 2) := by decide +kernel
theorem dX5_series_144 : decode cX5_series 144 = .ok (.if_icmp .gt 15, 3) := by decide +kernel
theorem dX5_series_147 : decode cX5_series 147 = .ok (.aload_n 0, 1) := by decide +kernel
theorem dX5_series_148 : decode cX5_series 148 = .ok (.getfield 35, 3) := by decide +kernel
theorem dX5_series_151 : decode cX5_series 151 = .ok (.iload 4, 2) := by decide +kernel
theorem dX5_series_153 : decode cX5_series 153 = .ok (.iadd, 1) := by decide +kernel
theorem dX5_series_154 : decode cX5_series 154 = .ok (.bipush 120, 2) := by decide +kernel
theorem dX5_series_156 : decode cX5_series 156 = .ok (.if_icmp .le 7, 3) := by decide +kernel
theorem dX5_series_159 : decode cX5_series 159 = .ok (.iconst 1, 1) := by decide +kernel
theorem dX5_series_160 : decode cX5_series 160 = .ok (.goto 4, 3) := by decide +kernel
theorem dX5_series_163 : decode cX5_series 163 = .ok (.iconst 0, 1) := by decide +kernel
theorem dX5_series_164 : decode cX5_series 164 = .ok (.iconst 3, 1) := by decide +kernel
theorem dX5_series_165 : decode cX5_series 165 = .ok (.invokevirtual 50, 3) := by decide +kernel
theorem dX5_series_168 : decode cX5_series 168 = .ok (.ifCond .eq 5, 3) := by decide +kernel
theorem dX5_series_171 : decode cX5_series 171 = .ok (.iconst 0, 1) := by decide +kernel
theorem dX5_series_172 : decode cX5_series 172 = .ok (.ireturn, 1) := by decide +kernel
theorem dX5_series_173 : decode cX5_series 173 = .ok (.aload_n 0, 1) := by decide +kernel
theorem dX5_series_174 : decode cX5_series 174 = .ok (.getfield 35, 3) := by decide +kernel
theorem dX5_series_177 : decode cX5_series 177 = .ok (.istore 7, 2) := by decide +kernel
theorem dX5_series_179 : decode cX5_series 179 = .ok (.iconst 0, 1) := by decide +kernel
theorem dX5_series_180 : decode cX5_series 180 = .ok (.istore 8, 2) := by decide +kernel
theorem dX5_series_182 : decode cX5_series 182 = .ok (.iload 8, 2) := by decide +kernel
theorem dX5_series_184 : decode cX5_series 184 = .ok (.iload 4, 2) := by decide +kernel
theorem dX5_series_186 : decode cX5_series 186 = .ok (.if_icmp .ge 25, 3) := by decide +kernel
theorem dX5_series_189 : decode cX5_series 189 = .ok (.aload_n 0, 1) := by decide +kernel
theorem dX5_series_190 : decode cX5_series 190 = .ok (.iload_n 1, 1) := by decide +kernel
theorem dX5_series_191 : decode cX5_series 191 = .ok (.iload_n 2, 1) := by decide +kernel
theorem dX5_series_192 : decode cX5_series 192 = .ok (.iload_n 3, 1) := by decide +kernel
theorem dX5_series_193 : decode cX5_series 193 = .ok (.iload 8, 2) := by decide +kernel
theorem dX5_series_195 : decode cX5_series 195 = .ok (.imul, 1) := by decide +kernel
theorem dX5_series_196 : decode cX5_series 196 = .ok (.iadd, 1) := by decide +kernel
theorem dX5_series_197 : decode cX5_series 197 = .ok (.iload 5, 2) := by decide +kernel
theorem dX5_series_199 : decode cX5_series 199 = .ok (.iload 6, 2) := by decide +kernel
theorem dX5_series_201 : decode cX5_series 201 = .ok (.invokevirtual 61, 3) := by decide +kernel
theorem dX5_series_204 : decode cX5_series 204 = .ok (.pop, 1) := by decide +kernel
theorem dX5_series_205 : decode cX5_series 205 = .ok (.iinc 8 1, 3) := by decide +kernel
theorem dX5_series_208 : decode cX5_series 208 = .ok (.goto (-26), 3) := by decide +kernel
theorem dX5_series_211 : decode cX5_series 211 = .ok (.iload 7, 2) := by decide +kernel
theorem dX5_series_213 : decode cX5_series 213 = .ok (.ireturn, 1) := by decide +kernel
set_option maxRecDepth 20000 in
theorem ggX5_callOff_X5_isHouse : GoodIn wsX5_callOff wsX5_isHouse := goodIn_r _ [5] (by decide +kernel) (by decide +kernel)
set_option maxRecDepth 20000 in
theorem gX5_callOff_X5_isHouse : GoodIn wsX5_callOff (va_wsS RX5 46 yX5_isHouse wsX5_isHouse) := goodIn_app (goodIn_of _ (by decide +kernel)) ggX5_callOff_X5_isHouse
set_option maxRecDepth 20000 in
theorem ggX5_callOff_X5_isThrown : GoodIn wsX5_callOff wsX5_isThrown := goodIn_r _ [9, 10, 17, 18, 19, 20, 21, 22, 23, 24, 25, 26, 27] (by decide +kernel) (by decide +kernel)
set_option maxRecDepth 20000 in
theorem gX5_callOff_X5_isThrown : GoodIn wsX5_callOff (wsV RX5 50 RX5 yX5_isThrown wsX5_isThrown) := goodIn_app (goodIn_of _ (by decide +kernel)) ggX5_callOff_X5_isThrown
set_option maxRecDepth 20000 in
theorem ggX5_callOff_X5_isWaiting : GoodIn wsX5_callOff wsX5_isWaiting := goodIn_ca (goodIn_r _ [14, 15, 16, 1, 17, 18, 19, 20, 21, 22, 23, 24, 25, 26, 27] (by decide +kernel) (by decide +kernel)) (goodIn_sub (fun _ h => List.mem_cons_of_mem _ (List.mem_append_right _ h)) (by decide +kernel))
set_option maxRecDepth 20000 in
theorem gX5_callOff_X5_isWaiting : GoodIn wsX5_callOff (wsV RX5 65 RX5 yX5_isWaiting wsX5_isWaiting) := goodIn_app (goodIn_of _ (by decide +kernel)) ggX5_callOff_X5_isWaiting
theorem dX5_callOff_0 : decode cX5_callOff 0 = .ok (.aload_n 0, 1) := by decide +kernel
theorem dX5_callOff_1 : decode cX5_callOff 1 = .ok (.iload_n 1, 1) := by decide +kernel
theorem dX5_callOff_2 : decode cX5_callOff 2 = .ok (.invokestatic 46, 3) := by decide +kernel
theorem dX5_callOff_5 : decode cX5_callOff 5 = .ok (.ifCond .ne 7, 3) := by decide +kernel
theorem dX5_callOff_8 : decode cX5_callOff 8 = .ok (.iconst 1, 1) := by decide +kernel
theorem dX5_callOff_9 : decode cX5_callOff 9 = .ok (.goto 4, 3) := by decide +kernel
theorem dX5_callOff_12 : decode cX5_callOff 12 = .ok (.iconst 0, 1) := by decide +kernel
theorem dX5_callOff_13 : decode cX5_callOff 13 = .ok (.iconst 1, 1) := by decide +kernel
theorem dX5_callOff_14 : decode cX5_callOff 14 = .ok (.invokevirtual 50, 3) := by decide +kernel
theorem dX5_callOff_17 : decode cX5_callOff 17 = .ok (.ifCond .ne 12, 3) := by decide +kernel
theorem dX5_callOff_20 : decode cX5_callOff 20 = .ok (.aload_n 0, 1) := by decide +kernel
theorem dX5_callOff_21 : decode cX5_callOff 21 = .ok (.iload_n 1, 1) := by decide +kernel
theorem dX5_callOff_22 : decode cX5_callOff 22 = .ok (.iload_n 2, 1) := by decide +kernel
theorem dX5_callOff_23 : decode cX5_callOff 23 = .ok (.invokevirtual 65, 3) := by decide +kernel
theorem dX5_callOff_26 : decode cX5_callOff 26 = .ok (.ifCond .ne 5, 3) := by decide +kernel
theorem dX5_callOff_29 : decode cX5_callOff 29 = .ok (.iconst 0, 1) := by decide +kernel
theorem dX5_callOff_30 : decode cX5_callOff 30 = .ok (.ireturn, 1) := by decide +kernel
theorem dX5_callOff_31 : decode cX5_callOff 31 = .ok (.aload_n 0, 1) := by decide +kernel
theorem dX5_callOff_32 : decode cX5_callOff 32 = .ok (.getfield 22, 3) := by decide +kernel
theorem dX5_callOff_35 : decode cX5_callOff 35 = .ok (.iload_n 2, 1) := by decide +kernel
theorem dX5_callOff_36 : decode cX5_callOff 36 = .ok (.iconst 2, 1) := by decide +kernel
theorem dX5_callOff_37 : decode cX5_callOff 37 = .ok (.iastore, 1) := by decide +kernel
theorem dX5_callOff_38 : decode cX5_callOff 38 = .ok (.iconst 1, 1) := by decide +kernel
theorem dX5_callOff_39 : decode cX5_callOff 39 = .ok (.ireturn, 1) := by decide +kernel
set_option maxRecDepth 20000 in
theorem ggX5_callOffAll_X5_isHouse : GoodIn wsX5_callOffAll wsX5_isHouse := goodIn_r _ [7] (by decide +kernel) (by decide +kernel)
set_option maxRecDepth 20000 in
theorem gX5_callOffAll_X5_isHouse : GoodIn wsX5_callOffAll (va_wsS RX5 46 yX5_isHouse wsX5_isHouse) := goodIn_app (goodIn_of _ (by decide +kernel)) ggX5_callOffAll_X5_isHouse
set_option maxRecDepth 20000 in
theorem ggX5_callOffAll_X5_isThrown : GoodIn wsX5_callOffAll wsX5_isThrown := goodIn_r _ [11, 12, 18, 19, 20, 21, 22, 23, 24, 25, 26, 27, 28] (by decide +kernel) (by decide +kernel)
set_option maxRecDepth 20000 in
theorem gX5_callOffAll_X5_isThrown : GoodIn wsX5_callOffAll (wsV RX5 50 RX5 yX5_isThrown wsX5_isThrown) := goodIn_app (goodIn_of _ (by decide +kernel)) ggX5_callOffAll_X5_isThrown
set_option maxRecDepth 20000 in
theorem ggX5_callOffAll_X5_isWaiting : GoodIn wsX5_callOffAll wsX5_isWaiting := goodIn_ca (goodIn_r _ [16, 1, 17, 3, 18, 19, 20, 21, 22, 23, 24, 25, 26, 27, 28] (by decide +kernel) (by decide +kernel)) (goodIn_sub (fun _ h => List.mem_cons_of_mem _ (List.mem_append_right _ h)) (by decide +kernel))
set_option maxRecDepth 20000 in
theorem gX5_callOffAll_X5_isWaiting : GoodIn wsX5_callOffAll (wsV RX5 65 RX5 yX5_isWaiting wsX5_isWaiting) := goodIn_app (goodIn_of _ (by decide +kernel)) ggX5_callOffAll_X5_isWaiting
theorem dX5_callOffAll_0 : decode cX5_callOffAll 0 = .ok (.aload_n 0, 1) := by decide +kernel
theorem dX5_callOffAll_1 : decode cX5_callOffAll 1 = .ok (.iload_n 1, 1) := by decide +kernel
theorem dX5_callOffAll_2 : decode cX5_callOffAll 2 = .ok (.invokestatic 46, 3) := by decide +kernel
theorem dX5_callOffAll_5 : decode cX5_callOffAll 5 = .ok (.ifCond .ne 7, 3) := by decide +kernel
theorem dX5_callOffAll_8 : decode cX5_callOffAll 8 = .ok (.iconst 1, 1) := by decide +kernel
theorem dX5_callOffAll_9 : decode cX5_callOffAll 9 = .ok (.goto 4, 3) := by decide +kernel
theorem dX5_callOffAll_12 : decode cX5_callOffAll 12 = .ok (.iconst 0, 1) := by decide +kernel
theorem dX5_callOffAll_13 : decode cX5_callOffAll 13 = .ok (.iconst 1, 1) := by decide +kernel
theorem dX5_callOffAll_14 : decode cX5_callOffAll 14 = .ok (.invokevirtual 50, 3) := by decide +kernel
theorem dX5_callOffAll_17 : decode cX5_callOffAll 17 = .ok (.ifCond .ne 21, 3) := by decide +kernel
theorem dX5_callOffAll_20 : decode cX5_callOffAll 20 = .ok (.aload_n 0, 1) := by decide +kernel
theorem dX5_callOffAll_21 : decode cX5_callOffAll 21 = .ok (.iload_n 2, 1) := by decide +kernel
theorem dX5_callOffAll_22 : decode cX5_callOffAll 22 = .ok (.iload_n 3, 1) := by decide +kernel
theorem dX5_callOffAll_23 : decode cX5_callOffAll 23 = .ok (.if_icmp .le 7, 3) := by decide +kernel
theorem dX5_callOffAll_26 : decode cX5_callOffAll 26 = .ok (.iconst 1, 1) := by decide +kernel
theorem dX5_callOffAll_27 : decode cX5_callOffAll 27 = .ok (.goto 4, 3) := by decide +kernel
theorem dX5_callOffAll_30 : decode cX5_callOffAll 30 = .ok (.iconst 0, 1) := by decide +kernel
theorem dX5_callOffAll_31 : decode cX5_callOffAll 31 = .ok (.iconst 2, 1) := by decide +kernel
theorem dX5_callOffAll_32 : decode cX5_callOffAll 32 = .ok (.invokevirtual 50, 3) := by decide +kernel
theorem dX5_callOffAll_35 : decode cX5_callOffAll 35 = .ok (.ifCond .eq 5, 3) := by decide +kernel
theorem dX5_callOffAll_38 : decode cX5_callOffAll 38 = .ok (.iconst 0, 1) := by decide +kernel
theorem dX5_callOffAll_39 : decode cX5_callOffAll 39 = .ok (.ireturn, 1) := by decide +kernel
theorem dX5_callOffAll_40 : decode cX5_callOffAll 40 = .ok (.iconst 0, 1) := by decide +kernel
theorem dX5_callOffAll_41 : decode cX5_callOffAll 41 = .ok (.istore 4, 2) := by decide +kernel
theorem dX5_callOffAll_43 : decode cX5_callOffAll 43 = .ok (.iconst 0, 1) := by decide +kernel
theorem dX5_callOffAll_44 : decode cX5_callOffAll 44 = .ok (.istore 5, 2) := by decide +kernel
theorem dX5_callOffAll_46 : decode cX5_callOffAll 46 = .ok (.iload 5, 2) := by decide +kernel
theorem dX5_callOffAll_48 : decode cX5_callOffAll 48 = .ok (.aload_n 0, 1) := by decide +kernel
theorem dX5_callOffAll_49 : decode cX5_callOffAll 49 = .ok (.getfield 35, 3) := by decide +kernel
theorem dX5_callOffAll_52 : decode cX5_callOffAll 52 = .ok (.if_icmp .ge 52, 3) := by decide +kernel
theorem dX5_callOffAll_55 : decode cX5_callOffAll 55 = .ok (.aload_n 0, 1) := by decide +kernel
theorem dX5_callOffAll_56 : decode cX5_callOffAll 56 = .ok (.iload_n 1, 1) := by decide +kernel
theorem dX5_callOffAll_57 : decode cX5_callOffAll 57 = .ok (.iload 5, 2) := by decide +kernel
theorem dX5_callOffAll_59 : decode cX5_callOffAll 59 = .ok (.invokevirtual 65, 3) := by decide +kernel
theorem dX5_callOffAll_62 : decode cX5_callOffAll 62 = .ok (.ifCond .eq 36, 3) := by decide +kernel
theorem dX5_callOffAll_65 : decode cX5_callOffAll 65 = .ok (.aload_n 0, 1) := by decide +kernel
theorem dX5_callOffAll_66 : decode cX5_callOffAll 66 = .ok (.getfield 7, 3) := by decide +kernel
theorem dX5_callOffAll_69 : decode cX5_callOffAll 69 = .ok (.iload 5, 2) := by decide +kernel
theorem dX5_callOffAll_71 : decode cX5_callOffAll 71 = .ok (.iaload, 1) := by decide +kernel
theorem dX5_callOffAll_72 : decode cX5_callOffAll 72 = .ok (.iload_n 2, 1) := by decide +kernel
theorem dX5_callOffAll_73 : decode cX5_callOffAll 73 = .ok (.if_icmp .lt 25, 3) := by decide +kernel
theorem dX5_callOffAll_76 : decode cX5_callOffAll 76 = .ok (.aload_n 0, 1) := by decide +kernel
theorem dX5_callOffAll_77 : decode cX5_callOffAll 77 = .ok (.getfield 7, 3) := by decide +kernel
theorem dX5_callOffAll_80 : decode cX5_callOffAll 80 = .ok (.iload 5, 2) := by decide +kernel
theorem dX5_callOffAll_82 : decode cX5_callOffAll 82 = .ok (.iaload, 1) := by decide +kernel
theorem dX5_callOffAll_83 : decode cX5_callOffAll 83 = .ok (.iload_n 3, 1) := by decide +kernel
theorem dX5_callOffAll_84 : decode cX5_callOffAll 84 = .ok (.if_icmp .ge 14, 3) := by decide +kernel
theorem dX5_callOffAll_87 : decode cX5_callOffAll 87 = .ok (.aload_n 0, 1) := by decide +kernel
theorem dX5_callOffAll_88 : decode cX5_callOffAll 88 = .ok (.getfield 22, 3) := by decide +kernel
theorem dX5_callOffAll_91 : decode cX5_callOffAll 91 = .ok (.iload 5, 2) := by decide +kernel
theorem dX5_callOffAll_93 : decode cX5_callOffAll 93 = .ok (.iconst 2, 1) := by decide +kernel
theorem dX5_callOffAll_94 : decode cX5_callOffAll 94 = .ok (.iastore, 1) := by decide +kernel
theorem dX5_callOffAll_95 : decode cX5_callOffAll 95 = .ok (.iinc 4 1, 3) := by decide +kernel
theorem dX5_callOffAll_98 : decode cX5_callOffAll 98 = .ok (.iinc 5 1, 3) := by decide +kernel
theorem dX5_callOffAll_101 : decode cX5_callOffAll 101 = .ok (.goto (-55), 3) := by decide +kernel
theorem dX5_callOffAll_104 : decode cX5_callOffAll 104 = .ok (.iload 4, 2) := by decide +kernel
theorem dX5_callOffAll_106 : decode cX5_callOffAll 106 = .ok (.ireturn, 1) := by decide +kernel
set_option maxRecDepth 20000 in
theorem ggX5_put_X5_isHouse : GoodIn wsX5_put wsX5_isHouse := goodIn_r _ [6] (by decide +kernel) (by decide +kernel)
set_option maxRecDepth 20000 in
theorem gX5_put_X5_isHouse : GoodIn wsX5_put (va_wsS RX5 46 yX5_isHouse wsX5_isHouse) := goodIn_app (goodIn_of _ (by decide +kernel)) ggX5_put_X5_isHouse
set_option maxRecDepth 20000 in
theorem ggX5_put_X5_isThrown : GoodIn wsX5_put wsX5_isThrown := goodIn_r _ [10, 11, 22, 23, 24, 25, 26, 27, 28, 29, 30, 31, 32] (by decide +kernel) (by decide +kernel)
set_option maxRecDepth 20000 in
theorem gX5_put_X5_isThrown : GoodIn wsX5_put (wsV RX5 50 RX5 yX5_isThrown wsX5_isThrown) := goodIn_app (goodIn_of _ (by decide +kernel)) ggX5_put_X5_isThrown
set_option maxRecDepth 20000 in
theorem ggX5_put_X5_isIn : GoodIn wsX5_put wsX5_isIn := goodIn_r _ [14] (by decide +kernel) (by decide +kernel)
set_option maxRecDepth 20000 in
theorem gX5_put_X5_isIn : GoodIn wsX5_put (va_wsS RX5 54 yX5_isIn wsX5_isIn) := goodIn_app (goodIn_of _ (by decide +kernel)) ggX5_put_X5_isIn
set_option maxRecDepth 20000 in
theorem ggX5_put_X5_isWaiting : GoodIn wsX5_put wsX5_isWaiting := goodIn_ca (goodIn_r _ [18, 19, 20, 21, 22, 23, 24, 25, 26, 27, 28, 29, 30, 31, 32] (by decide +kernel) (by decide +kernel)) (goodIn_sub (fun _ h => List.mem_cons_of_mem _ (List.mem_append_right _ h)) (by decide +kernel))
set_option maxRecDepth 20000 in
theorem gX5_put_X5_isWaiting : GoodIn wsX5_put (wsV RX5 65 RX5 yX5_isWaiting wsX5_isWaiting) := goodIn_app (goodIn_of _ (by decide +kernel)) ggX5_put_X5_isWaiting
theorem dX5_put_0 : decode cX5_put 0 = .ok (.aload_n 0, 1) := by decide +kernel
theorem dX5_put_1 : decode cX5_put 1 = .ok (.iload_n 1, 1) := by decide +kernel
theorem dX5_put_2 : decode cX5_put 2 = .ok (.invokestatic 46, 3) := by decide +kernel
theorem dX5_put_5 : decode cX5_put 5 = .ok (.ifCond .ne 7, 3) := by decide +kernel
theorem dX5_put_8 : decode cX5_put 8 = .ok (.iconst 1, 1) := by decide +kernel
theorem dX5_put_9 : decode cX5_put 9 = .ok (.goto 4, 3) := by decide +kernel
theorem dX5_put_12 : decode cX5_put 12 = .ok (.iconst 0, 1) := by decide +kernel
theorem dX5_put_13 : decode cX5_put 13 = .ok (.iconst 1, 1) := by decide +kernel
theorem dX5_put_14 : decode cX5_put 14 = .ok (.invokevirtual 50, 3) := by decide +kernel
theorem dX5_put_17 : decode cX5_put 17 = .ok (.ifCond .ne 72, 3) := by decide +kernel
theorem dX5_put_20 : decode cX5_put 20 = .ok (.aload_n 0, 1) := by decide +kernel
theorem dX5_put_21 : decode cX5_put 21 = .ok (.iload_n 3, 1) := by decide +kernel
theorem dX5_put_22 : decode cX5_put 22 = .ok (.iconst 0, 1) := by decide +kernel
theorem dX5_put_23 : decode cX5_put 23 = .ok (.sipush 9999, 3) := by decide +kernel
theorem dX5_put_26 : decode cX5_put 26 = .ok (.invokestatic 54, 3) := by decide +kernel
theorem dX5_put_29 : decode cX5_put 29 = .ok (.ifCond .ne 7, 3) := by decide +kernel
theorem dX5_put_32 : decode cX5_put 32 = .ok (.iconst 1, 1) := by decide +kernel
theorem dX5_put_33 : decode cX5_put 33 = .ok (.goto 4, 3) := by decide +kernel
theorem dX5_put_36 : decode cX5_put 36 = .ok (.iconst 0, 1) := by decide +kernel
theorem dX5_put_37 : decode cX5_put 37 = .ok (.iconst 2, 1) := by decide +kernel
theorem dX5_put_38 : decode cX5_put 38 = .ok (.invokevirtual 50, 3) := by decide +kernel
theorem dX5_put_41 : decode cX5_put 41 = .ok (.ifCond .ne 48, 3) := by decide +kernel
theorem dX5_put_44 : decode cX5_put 44 = .ok (.aload_n 0, 1) := by decide +kernel
theorem dX5_put_45 : decode cX5_put 45 = .ok (.aload_n 0, 1) := by decide +kernel
theorem dX5_put_46 : decode cX5_put 46 = .ok (.iload_n 1, 1) := by decide +kernel
theorem dX5_put_47 : decode cX5_put 47 = .ok (.iload_n 2, 1) := by decide +kernel
theorem dX5_put_48 : decode cX5_put 48 = .ok (.invokevirtual 65, 3) := by decide +kernel
theorem dX5_put_51 : decode cX5_put 51 = .ok (.ifCond .ne 7, 3) := by decide +kernel
theorem dX5_put_54 : decode cX5_put 54 = .ok (.iconst 1, 1) := by decide +kernel
theorem dX5_put_55 : decode cX5_put 55 = .ok (.goto 4, 3) := by decide +kernel
theorem dX5_put_58 : decode cX5_put 58 = .ok (.iconst 0, 1) := by decide +kernel
theorem dX5_put_59 : decode cX5_put 59 = .ok (.iconst 3, 1) := by decide +kernel
theorem dX5_put_60 : decode cX5_put 60 = .ok (.invokevirtual 50, 3) := by decide +kernel
theorem dX5_put_63 : decode cX5_put 63 = .ok (.ifCond .ne 26, 3) := by decide +kernel
theorem dX5_put_66 : decode cX5_put 66 = .ok (.aload_n 0, 1) := by decide +kernel
theorem dX5_put_67 : decode cX5_put 67 = .ok (.iload_n 3, 1) := by decide +kernel
theorem dX5_put_68 : decode cX5_put 68 = .ok (.aload_n 0, 1) := by decide +kernel
theorem dX5_put_69 : decode cX5_put 69 = .ok (.getfield 28, 3) := by decide +kernel
theorem dX5_put_72 : decode cX5_put 72 = .ok (.iload_n 1, 1) := by decide +kernel
theorem dX5_put_73 : decode cX5_put 73 = .ok (.iaload, 1) := by decide +kernel
theorem dX5_put_74 : decode cX5_put 74 = .ok (.if_icmp .ge 7, 3) := by decide +kernel
theorem dX5_put_77 : decode cX5_put 77 = .ok (.iconst 1, 1) := by decide +kernel
theorem dX5_put_78 : decode cX5_put 78 = .ok (.goto 4, 3) := by decide +kernel
theorem dX5_put_81 : decode cX5_put 81 = .ok (.iconst 0, 1) := by decide +kernel
theorem dX5_put_82 : decode cX5_put 82 = .ok (.iconst 4, 1) := by decide +kernel
theorem dX5_put_83 : decode cX5_put 83 = .ok (.invokevirtual 50, 3) := by decide +kernel
theorem dX5_put_86 : decode cX5_put 86 = .ok (.ifCond .eq 5, 3) := by decide +kernel
theorem dX5_put_89 : decode cX5_put 89 = .ok (.iconst 0, 1) := by decide +kernel
theorem dX5_put_90 : decode cX5_put 90 = .ok (.ireturn, 1) := by decide +kernel
theorem dX5_put_91 : decode cX5_put 91 = .ok (.aload_n 0, 1) := by decide +kernel
theorem dX5_put_92 : decode cX5_put 92 = .ok (.getfield 7, 3) := by decide +kernel
theorem dX5_put_95 : decode cX5_put 95 = .ok (.iload_n 2, 1) := by decide +kernel
theorem dX5_put_96 : decode cX5_put 96 = .ok (.iaload, 1) := by decide +kernel
theorem dX5_put_97 : decode cX5_put 97 = .ok (.istore 4, 2) := by decide +kernel
theorem dX5_put_99 : decode cX5_put 99 = .ok (.aload_n 0, 1) := by decide +kernel
theorem dX5_put_100 : decode cX5_put 100 = .ok (.getfield 7, 3) := by decide +kernel
theorem dX5_put_103 : decode cX5_put 103 = .ok (.iload_n 2, 1) := by decide +kernel
theorem dX5_put_104 : decode cX5_put 104 = .ok (.iload_n 3, 1) := by decide +kernel
theorem dX5_put_105 : decode cX5_put 105 = .ok (.iastore, 1) := by decide +kernel
theorem dX5_put_106 : decode cX5_put 106 = .ok (.iload 4, 2) := by decide +kernel
theorem dX5_put_108 : decode cX5_put 108 = .ok (.ireturn, 1) := by decide +kernel
set_option maxRecDepth 20000 in
theorem ggX5_moved_X5_isWaiting : GoodIn wsX5_moved wsX5_isWaiting := goodIn_ca (goodIn_r _ [8, 1, 3, 9, 10, 11, 12, 13, 14, 15, 16, 17, 18, 19, 20] (by decide +kernel) (by decide +kernel)) (goodIn_sub (fun _ h => List.mem_cons_of_mem _ (List.mem_append_right _ h)) (by decide +kernel))
set_option maxRecDepth 20000 in
theorem gX5_moved_X5_isWaiting : GoodIn wsX5_moved (wsV RX5 65 RX5 yX5_isWaiting wsX5_isWaiting) := goodIn_app (goodIn_of _ (by decide +kernel)) ggX5_moved_X5_isWaiting
theorem dX5_moved_0 : decode cX5_moved 0 = .ok (.iconst 0, 1) := by decide +kernel
theorem dX5_moved_1 : decode cX5_moved 1 = .ok (.istore 6, 2) := by decide +kernel
theorem dX5_moved_3 : decode cX5_moved 3 = .ok (.iconst 0, 1) := by decide +kernel
theorem dX5_moved_4 : decode cX5_moved 4 = .ok (.istore 7, 2) := by decide +kernel
theorem dX5_moved_6 : decode cX5_moved 6 = .ok (.iload 7, 2) := by decide +kernel
theorem dX5_moved_8 : decode cX5_moved 8 = .ok (.aload_n 0, 1) := by decide +kernel
theorem dX5_moved_9 : decode cX5_moved 9 = .ok (.getfield 35, 3) := by decide +kernel
theorem dX5_moved_12 : decode cX5_moved 12 = .ok (.if_icmp .ge 62, 3) := by decide +kernel
theorem dX5_moved_15 : decode cX5_moved 15 = .ok (.aload_n 0, 1) := by decide +kernel
theorem dX5_moved_16 : decode cX5_moved 16 = .ok (.iload_n 1, 1) := by decide +kernel
theorem dX5_moved_17 : decode cX5_moved 17 = .ok (.iload 7, 2) := by decide +kernel
theorem dX5_moved_19 : decode cX5_moved 19 = .ok (.invokevirtual 65, 3) := by decide +kernel
theorem dX5_moved_22 : decode cX5_moved 22 = .ok (.ifCond .eq 46, 3) := by decide +kernel
theorem dX5_moved_25 : decode cX5_moved 25 = .ok (.aload_n 0, 1) := by decide +kernel
theorem dX5_moved_26 : decode cX5_moved 26 = .ok (.getfield 7, 3) := by decide +kernel
theorem dX5_moved_29 : decode cX5_moved 29 = .ok (.iload 7, 2) := by decide +kernel
theorem dX5_moved_31 : decode cX5_moved 31 = .ok (.iaload, 1) := by decide +kernel
theorem dX5_moved_32 : decode cX5_moved 32 = .ok (.iload_n 3, 1) := by decide +kernel
theorem dX5_moved_33 : decode cX5_moved 33 = .ok (.if_icmp .lt 35, 3) := by decide +kernel
theorem dX5_moved_36 : decode cX5_moved 36 = .ok (.aload_n 0, 1) := by decide +kernel
theorem dX5_moved_37 : decode cX5_moved 37 = .ok (.getfield 7, 3) := by decide +kernel
theorem dX5_moved_40 : decode cX5_moved 40 = .ok (.iload 7, 2) := by decide +kernel
theorem dX5_moved_42 : decode cX5_moved 42 = .ok (.iaload, 1) := by decide +kernel
theorem dX5_moved_43 : decode cX5_moved 43 = .ok (.iload 4, 2) := by decide +kernel
theorem dX5_moved_45 : decode cX5_moved 45 = .ok (.if_icmp .ge 23, 3) := by decide +kernel
theorem dX5_moved_48 : decode cX5_moved 48 = .ok (.iinc 6 1, 3) := by decide +kernel
theorem dX5_moved_51 : decode cX5_moved 51 = .ok (.aload_n 0, 1) := by decide +kernel
theorem dX5_moved_52 : decode cX5_moved 52 = .ok (.getfield 19, 3) := by decide +kernel
theorem dX5_moved_55 : decode cX5_moved 55 = .ok (.iload 7, 2) := by decide +kernel
theorem dX5_moved_57 : decode cX5_moved 57 = .ok (.iload 5, 2) := by decide +kernel
theorem dX5_moved_59 : decode cX5_moved 59 = .ok (.ifCond .eq 7, 3) := by decide +kernel
theorem dX5_moved_62 : decode cX5_moved 62 = .ok (.iload_n 2, 1) := by decide +kernel
theorem dX5_moved_63 : decode cX5_moved 63 = .ok (.goto 4, 3) := by decide +kernel
theorem dX5_moved_66 : decode cX5_moved 66 = .ok (.iload_n 1, 1) := by decide +kernel
theorem dX5_moved_67 : decode cX5_moved 67 = .ok (.iastore, 1) := by decide +kernel
theorem dX5_moved_68 : decode cX5_moved 68 = .ok (.iinc 7 1, 3) := by decide +kernel
theorem dX5_moved_71 : decode cX5_moved 71 = .ok (.goto (-65), 3) := by decide +kernel
theorem dX5_moved_74 : decode cX5_moved 74 = .ok (.iload 6, 2) := by decide +kernel
theorem dX5_moved_76 : decode cX5_moved 76 = .ok (.ireturn, 1) := by decide +kernel
set_option maxRecDepth 20000 in
theorem ggX5_goes_X5_moved : GoodIn wsX5_goes wsX5_moved := goodIn_ca (goodIn_r _ [7, 8, 9, 10, 11, 12, 13, 6, 14, 15, 25, 26, 27, 28, 29, 30, 31, 32, 33, 34, 35] (by decide +kernel) (by decide +kernel)) (goodIn_sub (fun _ h => List.mem_cons_of_mem _ (List.mem_append_right _ h)) (by decide +kernel))
set_option maxRecDepth 20000 in
theorem gX5_goes_X5_moved : GoodIn wsX5_goes (wsV RX5 68 RX5 yX5_moved wsX5_moved) := goodIn_app (goodIn_of _ (by decide +kernel)) ggX5_goes_X5_moved
set_option maxRecDepth 20000 in
theorem ggX5_goes_X5_many : GoodIn wsX5_goes wsX5_many := goodIn_ca (goodIn_r _ [19, 8, 10, 15, 25, 26, 27, 28, 29, 30, 31, 32, 33, 34, 35] (by decide +kernel) (by decide +kernel)) (goodIn_sub (fun _ h => List.mem_cons_of_mem _ (List.mem_append_right _ h)) (by decide +kernel))
set_option maxRecDepth 20000 in
theorem gX5_goes_X5_many : GoodIn wsX5_goes (wsV RX5 58 RX5 yX5_many wsX5_many) := goodIn_app (goodIn_of _ (by decide +kernel)) ggX5_goes_X5_many
set_option maxRecDepth 20000 in
theorem ggX5_goes_X5_isThrown : GoodIn wsX5_goes wsX5_isThrown := goodIn_r _ [23, 24, 25, 26, 27, 28, 29, 30, 31, 32, 33, 34, 35] (by decide +kernel) (by decide +kernel)
set_option maxRecDepth 20000 in
theorem gX5_goes_X5_isThrown : GoodIn wsX5_goes (wsV RX5 50 RX5 yX5_isThrown wsX5_isThrown) := goodIn_app (goodIn_of _ (by decide +kernel)) ggX5_goes_X5_isThrown
theorem dX5_goes_0 : decode cX5_goes 0 = .ok (.iload_n 1, 1) := by decide +kernel
theorem dX5_goes_1 : decode cX5_goes 1 = .ok (.iload_n 2, 1) := by decide +kernel
theorem dX5_goes_2 : decode cX5_goes 2 = .ok (.if_icmp .eq 42, 3) := by decide +kernel
theorem dX5_goes_5 : decode cX5_goes 5 = .ok (.aload_n 0, 1) := by decide +kernel
theorem dX5_goes_6 : decode cX5_goes 6 = .ok (.iload_n 1, 1) := by decide +kernel
theorem dX5_goes_7 : decode cX5_goes 7 = .ok (.iload_n 2, 1) := by decide +kernel
theorem dX5_goes_8 : decode cX5_goes 8 = .ok (.iload_n 3, 1) := by decide +kernel
theorem dX5_goes_9 : decode cX5_goes 9 = .ok (.aload_n 0, 1) := by decide +kernel
theorem dX5_goes_10 : decode cX5_goes 10 = .ok (.getfield 28, 3) := by decide +kernel
theorem dX5_goes_13 : decode cX5_goes 13 = .ok (.iload_n 2, 1) := by decide +kernel
theorem dX5_goes_14 : decode cX5_goes 14 = .ok (.iaload, 1) := by decide +kernel
theorem dX5_goes_15 : decode cX5_goes 15 = .ok (.iconst 0, 1) := by decide +kernel
theorem dX5_goes_16 : decode cX5_goes 16 = .ok (.invokevirtual 68, 3) := by decide +kernel
theorem dX5_goes_19 : decode cX5_goes 19 = .ok (.ifCond .gt 25, 3) := by decide +kernel
theorem dX5_goes_22 : decode cX5_goes 22 = .ok (.aload_n 0, 1) := by decide +kernel
theorem dX5_goes_23 : decode cX5_goes 23 = .ok (.iload_n 2, 1) := by decide +kernel
theorem dX5_goes_24 : decode cX5_goes 24 = .ok (.iconst 0, 1) := by decide +kernel
theorem dX5_goes_25 : decode cX5_goes 25 = .ok (.invokevirtual 58, 3) := by decide +kernel
theorem dX5_goes_28 : decode cX5_goes 28 = .ok (.aload_n 0, 1) := by decide +kernel
theorem dX5_goes_29 : decode cX5_goes 29 = .ok (.iload_n 1, 1) := by decide +kernel
theorem dX5_goes_30 : decode cX5_goes 30 = .ok (.iload_n 2, 1) := by decide +kernel
theorem dX5_goes_31 : decode cX5_goes 31 = .ok (.iload_n 3, 1) := by decide +kernel
theorem dX5_goes_32 : decode cX5_goes 32 = .ok (.ldc 72, 2) := by decide +kernel
theorem dX5_goes_34 : decode cX5_goes 34 = .ok (.iconst 0, 1) := by decide +kernel
theorem dX5_goes_35 : decode cX5_goes 35 = .ok (.invokevirtual 68, 3) := by decide +kernel
theorem dX5_goes_38 : decode cX5_goes 38 = .ok (.iadd, 1) := by decide +kernel
theorem dX5_goes_39 : decode cX5_goes 39 = .ok (.bipush 48, 2) := by decide +kernel
theorem dX5_goes_41 : decode cX5_goes 41 = .ok (.if_icmp .le 7, 3) := by decide +kernel
theorem dX5_goes_44 : decode cX5_goes 44 = .ok (.iconst 1, 1) := by decide +kernel
theorem dX5_goes_45 : decode cX5_goes 45 = .ok (.goto 4, 3) := by decide +kernel
theorem dX5_goes_48 : decode cX5_goes 48 = .ok (.iconst 0, 1) := by decide +kernel
theorem dX5_goes_49 : decode cX5_goes 49 = .ok (.istore 4, 2) := by decide +kernel
theorem dX5_goes_51 : decode cX5_goes 51 = .ok (.aload_n 0, 1) := by decide +kernel
theorem dX5_goes_52 : decode cX5_goes 52 = .ok (.iload 4, 2) := by decide +kernel
theorem dX5_goes_54 : decode cX5_goes 54 = .ok (.iconst 2, 1) := by decide +kernel
theorem dX5_goes_55 : decode cX5_goes 55 = .ok (.invokevirtual 50, 3) := by decide +kernel
theorem dX5_goes_58 : decode cX5_goes 58 = .ok (.ifCond .eq 7, 3) := by decide +kernel
theorem dX5_goes_61 : decode cX5_goes 61 = .ok (.iconst 0, 1) := by decide +kernel
theorem dX5_goes_62 : decode cX5_goes 62 = .ok (.goto 13, 3) := by decide +kernel
theorem dX5_goes_65 : decode cX5_goes 65 = .ok (.aload_n 0, 1) := by decide +kernel
theorem dX5_goes_66 : decode cX5_goes 66 = .ok (.iload_n 1, 1) := by decide +kernel
theorem dX5_goes_67 : decode cX5_goes 67 = .ok (.iload_n 2, 1) := by decide +kernel
theorem dX5_goes_68 : decode cX5_goes 68 = .ok (.iload_n 3, 1) := by decide +kernel
theorem dX5_goes_69 : decode cX5_goes 69 = .ok (.ldc 72, 2) := by decide +kernel
theorem dX5_goes_71 : decode cX5_goes 71 = .ok (.iconst 1, 1) := by decide +kernel
theorem dX5_goes_72 : decode cX5_goes 72 = .ok (.invokevirtual 68, 3) := by decide +kernel
theorem dX5_goes_75 : decode cX5_goes 75 = .ok (.ireturn, 1) := by decide +kernel
set_option maxRecDepth 20000 in
theorem ggX5_join_X5_isHouse : GoodIn wsX5_join wsX5_isHouse := goodIn_r _ [4] (by decide +kernel) (by decide +kernel)
set_option maxRecDepth 20000 in
theorem gX5_join_X5_isHouse : GoodIn wsX5_join (va_wsS RX5 46 yX5_isHouse wsX5_isHouse) := goodIn_app (goodIn_of _ (by decide +kernel)) ggX5_join_X5_isHouse
set_option maxRecDepth 20000 in
theorem ggX5_join_X5_isThrown : GoodIn wsX5_join wsX5_isThrown := goodIn_r _ [8, 9, 32, 33, 34, 35, 36, 37, 38, 39, 40, 41, 42] (by decide +kernel) (by decide +kernel)
set_option maxRecDepth 20000 in
theorem gX5_join_X5_isThrown : GoodIn wsX5_join (wsV RX5 50 RX5 yX5_isThrown wsX5_isThrown) := goodIn_app (goodIn_of _ (by decide +kernel)) ggX5_join_X5_isThrown
set_option maxRecDepth 20000 in
theorem ggX5_join_X5_goes : GoodIn wsX5_join wsX5_goes := goodIn_ca (goodIn_r _ [13, 14, 15, 16, 17, 18, 3, 19, 20, 21, 22, 23, 24, 25, 26, 27, 28, 29, 30, 31, 5, 6, 7, 8, 9, 32, 33, 34, 35, 36, 37, 38, 39, 40, 41, 42] (by decide +kernel) (by decide +kernel)) (goodIn_sub (fun _ h => List.mem_cons_of_mem _ (List.mem_append_right _ h)) (by decide +kernel))
set_option maxRecDepth 20000 in
theorem gX5_join_X5_goes : GoodIn wsX5_join (wsV RX5 73 RX5 yX5_goes wsX5_goes) := goodIn_app (goodIn_of _ (by decide +kernel)) ggX5_join_X5_goes
theorem dX5_join_0 : decode cX5_join 0 = .ok (.aload_n 0, 1) := by decide +kernel
theorem dX5_join_1 : decode cX5_join 1 = .ok (.iload_n 1, 1) := by decide +kernel
theorem dX5_join_2 : decode cX5_join 2 = .ok (.invokestatic 46, 3) := by decide +kernel
theorem dX5_join_5 : decode cX5_join 5 = .ok (.ifCond .eq 10, 3) := by decide +kernel
theorem dX5_join_8 : decode cX5_join 8 = .ok (.iload_n 2, 1) := by decide +kernel
theorem dX5_join_9 : decode cX5_join 9 = .ok (.invokestatic 46, 3) := by decide +kernel
theorem dX5_join_12 : decode cX5_join 12 = .ok (.ifCond .ne 7, 3) := by decide +kernel
theorem dX5_join_15 : decode cX5_join 15 = .ok (.iconst 1, 1) := by decide +kernel
theorem dX5_join_16 : decode cX5_join 16 = .ok (.goto 4, 3) := by decide +kernel
theorem dX5_join_19 : decode cX5_join 19 = .ok (.iconst 0, 1) := by decide +kernel
theorem dX5_join_20 : decode cX5_join 20 = .ok (.iconst 1, 1) := by decide +kernel
theorem dX5_join_21 : decode cX5_join 21 = .ok (.invokevirtual 50, 3) := by decide +kernel
theorem dX5_join_24 : decode cX5_join 24 = .ok (.ifCond .eq 7, 3) := by decide +kernel
theorem dX5_join_27 : decode cX5_join 27 = .ok (.iconst 0, 1) := by decide +kernel
theorem dX5_join_28 : decode cX5_join 28 = .ok (.goto 10, 3) := by decide +kernel
theorem dX5_join_31 : decode cX5_join 31 = .ok (.aload_n 0, 1) := by decide +kernel
theorem dX5_join_32 : decode cX5_join 32 = .ok (.iload_n 2, 1) := by decide +kernel
theorem dX5_join_33 : decode cX5_join 33 = .ok (.iload_n 1, 1) := by decide +kernel
theorem dX5_join_34 : decode cX5_join 34 = .ok (.iconst 0, 1) := by decide +kernel
theorem dX5_join_35 : decode cX5_join 35 = .ok (.invokevirtual 73, 3) := by decide +kernel
theorem dX5_join_38 : decode cX5_join 38 = .ok (.ireturn, 1) := by decide +kernel
set_option maxRecDepth 20000 in
theorem ggX5_part_X5_isHouse : GoodIn wsX5_part wsX5_isHouse := goodIn_r _ [4] (by decide +kernel) (by decide +kernel)
set_option maxRecDepth 20000 in
theorem gX5_part_X5_isHouse : GoodIn wsX5_part (va_wsS RX5 46 yX5_isHouse wsX5_isHouse) := goodIn_app (goodIn_of _ (by decide +kernel)) ggX5_part_X5_isHouse
set_option maxRecDepth 20000 in
theorem ggX5_part_X5_isThrown : GoodIn wsX5_part wsX5_isThrown := goodIn_r _ [8, 9, 32, 33, 34, 35, 36, 37, 38, 39, 40, 41, 42] (by decide +kernel) (by decide +kernel)
set_option maxRecDepth 20000 in
theorem gX5_part_X5_isThrown : GoodIn wsX5_part (wsV RX5 50 RX5 yX5_isThrown wsX5_isThrown) := goodIn_app (goodIn_of _ (by decide +kernel)) ggX5_part_X5_isThrown
set_option maxRecDepth 20000 in
theorem ggX5_part_X5_goes : GoodIn wsX5_part wsX5_goes := goodIn_ca (goodIn_r _ [13, 14, 15, 16, 17, 18, 3, 19, 20, 21, 22, 23, 24, 25, 26, 27, 28, 29, 30, 31, 5, 6, 7, 8, 9, 32, 33, 34, 35, 36, 37, 38, 39, 40, 41, 42] (by decide +kernel) (by decide +kernel)) (goodIn_sub (fun _ h => List.mem_cons_of_mem _ (List.mem_append_right _ h)) (by decide +kernel))
set_option maxRecDepth 20000 in
theorem gX5_part_X5_goes : GoodIn wsX5_part (wsV RX5 73 RX5 yX5_goes wsX5_goes) := goodIn_app (goodIn_of _ (by decide +kernel)) ggX5_part_X5_goes
theorem dX5_part_0 : decode cX5_part 0 = .ok (.aload_n 0, 1) := by decide +kernel
theorem dX5_part_1 : decode cX5_part 1 = .ok (.iload_n 1, 1) := by decide +kernel
theorem dX5_part_2 : decode cX5_part 2 = .ok (.invokestatic 46, 3) := by decide +kernel
theorem dX5_part_5 : decode cX5_part 5 = .ok (.ifCond .eq 10, 3) := by decide +kernel
theorem dX5_part_8 : decode cX5_part 8 = .ok (.iload_n 2, 1) := by decide +kernel
theorem dX5_part_9 : decode cX5_part 9 = .ok (.invokestatic 46, 3) := by decide +kernel
theorem dX5_part_12 : decode cX5_part 12 = .ok (.ifCond .ne 7, 3) := by decide +kernel
theorem dX5_part_15 : decode cX5_part 15 = .ok (.iconst 1, 1) := by decide +kernel
theorem dX5_part_16 : decode cX5_part 16 = .ok (.goto 4, 3) := by decide +kernel
theorem dX5_part_19 : decode cX5_part 19 = .ok (.iconst 0, 1) := by decide +kernel
theorem dX5_part_20 : decode cX5_part 20 = .ok (.iconst 1, 1) := by decide +kernel
theorem dX5_part_21 : decode cX5_part 21 = .ok (.invokevirtual 50, 3) := by decide +kernel
theorem dX5_part_24 : decode cX5_part 24 = .ok (.ifCond .eq 7, 3) := by decide +kernel
theorem dX5_part_27 : decode cX5_part 27 = .ok (.iconst 0, 1) := by decide +kernel
theorem dX5_part_28 : decode cX5_part 28 = .ok (.goto 10, 3) := by decide +kernel
theorem dX5_part_31 : decode cX5_part 31 = .ok (.aload_n 0, 1) := by decide +kernel
theorem dX5_part_32 : decode cX5_part 32 = .ok (.iload_n 1, 1) := by decide +kernel
theorem dX5_part_33 : decode cX5_part 33 = .ok (.iload_n 2, 1) := by decide +kernel
theorem dX5_part_34 : decode cX5_part 34 = .ok (.iload_n 3, 1) := by decide +kernel
theorem dX5_part_35 : decode cX5_part 35 = .ok (.invokevirtual 73, 3) := by decide +kernel
theorem dX5_part_38 : decode cX5_part 38 = .ok (.ireturn, 1) := by decide +kernel
theorem dX5_comes_0 : decode cX5_comes 0 = .ok (.aload_n 0, 1) := by decide +kernel
theorem dX5_comes_1 : decode cX5_comes 1 = .ok (.getfield 22, 3) := by decide +kernel
theorem dX5_comes_4 : decode cX5_comes 4 = .ok (.iload_n 1, 1) := by decide +kernel
theorem dX5_comes_5 : decode cX5_comes 5 = .ok (.iconst 1, 1) := by decide +kernel
theorem dX5_comes_6 : decode cX5_comes 6 = .ok (.iastore, 1) := by decide +kernel
theorem dX5_comes_7 : decode cX5_comes 7 = .ok (.aload_n 0, 1) := by decide +kernel
theorem dX5_comes_8 : decode cX5_comes 8 = .ok (.getfield 25, 3) := by decide +kernel
theorem dX5_comes_11 : decode cX5_comes 11 = .ok (.iload_n 1, 1) := by decide +kernel
theorem dX5_comes_12 : decode cX5_comes 12 = .ok (.aload_n 0, 1) := by decide +kernel
theorem dX5_comes_13 : decode cX5_comes 13 = .ok (.getfield 77, 3) := by decide +kernel
theorem dX5_comes_16 : decode cX5_comes 16 = .ok (.iastore, 1) := by decide +kernel
theorem dX5_comes_17 : decode cX5_comes 17 = .ok (.aload_n 0, 1) := by decide +kernel
theorem dX5_comes_18 : decode cX5_comes 18 = .ok (.dup, 1) := by decide +kernel
theorem dX5_comes_19 : decode cX5_comes 19 = .ok (.getfield 77, 3) := by decide +kernel
theorem dX5_comes_22 : decode cX5_comes 22 = .ok (.iconst 1, 1) := by decide +kernel
theorem dX5_comes_23 : decode cX5_comes 23 = .ok (.iadd, 1) := by decide +kernel
theorem dX5_comes_24 : decode cX5_comes 24 = .ok (.putfield 77, 3) := by decide +kernel
theorem dX5_comes_27 : decode cX5_comes 27 = .ok (.aload_n 0, 1) := by decide +kernel
theorem dX5_comes_28 : decode cX5_comes 28 = .ok (.getfield 28, 3) := by decide +kernel
theorem dX5_comes_31 : decode cX5_comes 31 = .ok (.aload_n 0, 1) := by decide +kernel
theorem dX5_comes_32 : decode cX5_comes 32 = .ok (.getfield 19, 3) := by decide +kernel
theorem dX5_comes_35 : decode cX5_comes 35 = .ok (.iload_n 1, 1) := by decide +kernel
theorem dX5_comes_36 : decode cX5_comes 36 = .ok (.iaload, 1) := by decide +kernel
theorem dX5_comes_37 : decode cX5_comes 37 = .ok (.aload_n 0, 1) := by decide +kernel
theorem dX5_comes_38 : decode cX5_comes 38 = .ok (.getfield 7, 3) := by decide +kernel
theorem dX5_comes_41 : decode cX5_comes 41 = .ok (.iload_n 1, 1) := by decide +kernel
theorem dX5_comes_42 : decode cX5_comes 42 = .ok (.iaload, 1) := by decide +kernel
theorem dX5_comes_43 : decode cX5_comes 43 = .ok (.iastore, 1) := by decide +kernel
theorem dX5_comes_44 : decode cX5_comes 44 = .ok (.return_, 1) := by decide +kernel
set_option maxRecDepth 20000 in
theorem ggX5_next_X5_isHouse : GoodIn wsX5_next wsX5_isHouse := goodIn_r _ [4] (by decide +kernel) (by decide +kernel)
set_option maxRecDepth 20000 in
theorem gX5_next_X5_isHouse : GoodIn wsX5_next (va_wsS RX5 46 yX5_isHouse wsX5_isHouse) := goodIn_app (goodIn_of _ (by decide +kernel)) ggX5_next_X5_isHouse
set_option maxRecDepth 20000 in
theorem ggX5_next_X5_isThrown : GoodIn wsX5_next wsX5_isThrown := goodIn_r _ [8, 9, 33, 34, 35, 36, 37, 38, 39, 40, 41, 42, 43] (by decide +kernel) (by decide +kernel)
set_option maxRecDepth 20000 in
theorem gX5_next_X5_isThrown : GoodIn wsX5_next (wsV RX5 50 RX5 yX5_isThrown wsX5_isThrown) := goodIn_app (goodIn_of _ (by decide +kernel)) ggX5_next_X5_isThrown
set_option maxRecDepth 20000 in
theorem ggX5_next_X5_first : GoodIn wsX5_next wsX5_first := goodIn_ca (goodIn_r _ [13, 14, 15, 16, 3, 17, 18, 19, 20, 21, 22, 23, 24, 25, 33, 34, 35, 36, 37, 38, 39, 40, 41, 42, 43] (by decide +kernel) (by decide +kernel)) (goodIn_sub (fun _ h => List.mem_cons_of_mem _ (List.mem_append_right _ h)) (by decide +kernel))
set_option maxRecDepth 20000 in
theorem gX5_next_X5_first : GoodIn wsX5_next (wsV RX5 80 RX5 yX5_first wsX5_first) := goodIn_app (goodIn_of _ (by decide +kernel)) ggX5_next_X5_first
set_option maxRecDepth 20000 in
theorem ggX5_next_X5_comes : GoodIn wsX5_next wsX5_comes := goodIn_ca (goodIn_r _ [29, 20, 30, 31, 32, 19, 25, 33, 34, 35, 36, 37, 38, 39, 40, 41, 42, 43] (by decide +kernel) (by decide +kernel)) (goodIn_sub (fun _ h => List.mem_cons_of_mem _ (List.mem_append_right _ h)) (by decide +kernel))
set_option maxRecDepth 20000 in
theorem gX5_next_X5_comes : GoodIn wsX5_next (wsV RX5 84 RX5 yX5_comes wsX5_comes) := goodIn_app (goodIn_of _ (by decide +kernel)) ggX5_next_X5_comes
theorem dX5_next_0 : decode cX5_next 0 = .ok (.aload_n 0, 1) := by decide +kernel
theorem dX5_next_1 : decode cX5_next 1 = .ok (.iload_n 1, 1) := by decide +kernel
theorem dX5_next_2 : decode cX5_next 2 = .ok (.invokestatic 46, 3) := by decide +kernel
theorem dX5_next_5 : decode cX5_next 5 = .ok (.ifCond .ne 7, 3) := by decide +kernel
theorem dX5_next_8 : decode cX5_next 8 = .ok (.iconst 1, 1) := by decide +kernel
theorem dX5_next_9 : decode cX5_next 9 = .ok (.goto 4, 3) := by decide +kernel
theorem dX5_next_12 : decode cX5_next 12 = .ok (.iconst 0, 1) := by decide +kernel
theorem dX5_next_13 : decode cX5_next 13 = .ok (.iconst 1, 1) := by decide +kernel
theorem dX5_next_14 : decode cX5_next 14 = .ok (.invokevirtual 50, 3) := by decide +kernel
theorem dX5_next_17 : decode cX5_next 17 = .ok (.ifCond .eq 5, 3) := by decide +kernel
theorem dX5_next_20 : decode cX5_next 20 = .ok (.iconst 0, 1) := by decide +kernel
theorem dX5_next_21 : decode cX5_next 21 = .ok (.ireturn, 1) := by decide +kernel
theorem dX5_next_22 : decode cX5_next 22 = .ok (.aload_n 0, 1) := by decide +kernel
theorem dX5_next_23 : decode cX5_next 23 = .ok (.iload_n 1, 1) := by decide +kernel
theorem dX5_next_24 : decode cX5_next 24 = .ok (.invokevirtual 80, 3) := by decide +kernel
theorem dX5_next_27 : decode cX5_next 27 = .ok (.istore_n 2, 1) := by decide +kernel
theorem dX5_next_28 : decode cX5_next 28 = .ok (.aload_n 0, 1) := by decide +kernel
theorem dX5_next_29 : decode cX5_next 29 = .ok (.iload_n 2, 1) := by decide +kernel
theorem dX5_next_30 : decode cX5_next 30 = .ok (.iconst (-1), 1) := by decide +kernel
theorem dX5_next_31 : decode cX5_next 31 = .ok (.if_icmp .ne 7, 3) := by decide +kernel
theorem dX5_next_34 : decode cX5_next 34 = .ok (.iconst 1, 1) := by decide +kernel
theorem dX5_next_35 : decode cX5_next 35 = .ok (.goto 4, 3) := by decide +kernel
theorem dX5_next_38 : decode cX5_next 38 = .ok (.iconst 0, 1) := by decide +kernel
theorem dX5_next_39 : decode cX5_next 39 = .ok (.iconst 2, 1) := by decide +kernel
theorem dX5_next_40 : decode cX5_next 40 = .ok (.invokevirtual 50, 3) := by decide +kernel
theorem dX5_next_43 : decode cX5_next 43 = .ok (.ifCond .eq 5, 3) := by decide +kernel
theorem dX5_next_46 : decode cX5_next 46 = .ok (.iconst 0, 1) := by decide +kernel
theorem dX5_next_47 : decode cX5_next 47 = .ok (.ireturn, 1) := by decide +kernel
theorem dX5_next_48 : decode cX5_next 48 = .ok (.aload_n 0, 1) := by decide +kernel
theorem dX5_next_49 : decode cX5_next 49 = .ok (.iload_n 2, 1) := by decide +kernel
theorem dX5_next_50 : decode cX5_next 50 = .ok (.invokevirtual 84, 3) := by decide +kernel
theorem dX5_next_53 : decode cX5_next 53 = .ok (.iload_n 2, 1) := by decide +kernel
theorem dX5_next_54 : decode cX5_next 54 = .ok (.ireturn, 1) := by decide +kernel
set_option maxRecDepth 20000 in
theorem ggX5_run_X5_isHouse : GoodIn wsX5_run wsX5_isHouse := goodIn_r _ [6] (by decide +kernel) (by decide +kernel)
set_option maxRecDepth 20000 in
theorem gX5_run_X5_isHouse : GoodIn wsX5_run (va_wsS RX5 46 yX5_isHouse wsX5_isHouse) := goodIn_app (goodIn_of _ (by decide +kernel)) ggX5_run_X5_isHouse
set_option maxRecDepth 20000 in
theorem ggX5_run_X5_isThrown : GoodIn wsX5_run wsX5_isThrown := goodIn_r _ [10, 11, 36, 37, 38, 39, 40, 41, 42, 43, 44, 45, 46] (by decide +kernel) (by decide +kernel)
set_option maxRecDepth 20000 in
theorem gX5_run_X5_isThrown : GoodIn wsX5_run (wsV RX5 50 RX5 yX5_isThrown wsX5_isThrown) := goodIn_app (goodIn_of _ (by decide +kernel)) ggX5_run_X5_isThrown
set_option maxRecDepth 20000 in
theorem ggX5_run_X5_isIn : GoodIn wsX5_run wsX5_isIn := goodIn_r _ [14] (by decide +kernel) (by decide +kernel)
set_option maxRecDepth 20000 in
theorem gX5_run_X5_isIn : GoodIn wsX5_run (va_wsS RX5 54 yX5_isIn wsX5_isIn) := goodIn_app (goodIn_of _ (by decide +kernel)) ggX5_run_X5_isIn
set_option maxRecDepth 20000 in
theorem ggX5_run_X5_first : GoodIn wsX5_run wsX5_first := goodIn_ca (goodIn_r _ [18, 19, 20, 21, 5, 22, 23, 24, 25, 26, 27, 28, 29, 2, 36, 37, 38, 39, 40, 41, 42, 43, 44, 45, 46] (by decide +kernel) (by decide +kernel)) (goodIn_sub (fun _ h => List.mem_cons_of_mem _ (List.mem_append_right _ h)) (by decide +kernel))
set_option maxRecDepth 20000 in
theorem gX5_run_X5_first : GoodIn wsX5_run (wsV RX5 80 RX5 yX5_first wsX5_first) := goodIn_app (goodIn_of _ (by decide +kernel)) ggX5_run_X5_first
set_option maxRecDepth 20000 in
theorem ggX5_run_X5_comes : GoodIn wsX5_run wsX5_comes := goodIn_ca (goodIn_r _ [33, 25, 34, 35, 1, 24, 2, 36, 37, 38, 39, 40, 41, 42, 43, 44, 45, 46] (by decide +kernel) (by decide +kernel)) (goodIn_sub (fun _ h => List.mem_cons_of_mem _ (List.mem_append_right _ h)) (by decide +kernel))
set_option maxRecDepth 20000 in
theorem gX5_run_X5_comes : GoodIn wsX5_run (wsV RX5 84 RX5 yX5_comes wsX5_comes) := goodIn_app (goodIn_of _ (by decide +kernel)) ggX5_run_X5_comes
theorem dX5_run_0 : decode cX5_run 0 = .ok (.aload_n 0, 1) := by decide +kernel
theorem dX5_run_1 : decode cX5_run 1 = .ok (.iload_n 1, 1) := by decide +kernel
theorem dX5_run_2 : decode cX5_run 2 = .ok (.invokestatic 46, 3) := by decide +kernel
theorem dX5_run_5 : decode cX5_run 5 = .ok (.ifCond .ne 7, 3) := by decide +kernel
theorem dX5_run_8 : decode cX5_run 8 = .ok (.iconst 1, 1) := by decide +kernel
theorem dX5_run_9 : decode cX5_run 9 = .ok (.goto 4, 3) := by decide +kernel
theorem dX5_run_12 : decode cX5_run 12 = .ok (.iconst 0, 1) := by decide +kernel
theorem dX5_run_13 : decode cX5_run 13 = .ok (.iconst 1, 1) := by decide +kernel
theorem dX5_run_14 : decode cX5_run 14 = .ok (.invokevirtual 50, 3) := by decide +kernel
theorem dX5_run_17 : decode cX5_run 17 = .ok (.ifCond .ne 50, 3) := by decide +kernel
theorem dX5_run_20 : decode cX5_run 20 = .ok (.aload_n 0, 1) := by decide +kernel
theorem dX5_run_21 : decode cX5_run 21 = .ok (.iload_n 2, 1) := by decide +kernel
theorem dX5_run_22 : decode cX5_run 22 = .ok (.iconst 0, 1) := by decide +kernel
theorem dX5_run_23 : decode cX5_run 23 = .ok (.sipush 9999, 3) := by decide +kernel
theorem dX5_run_26 : decode cX5_run 26 = .ok (.invokestatic 54, 3) := by decide +kernel
theorem dX5_run_29 : decode cX5_run 29 = .ok (.ifCond .ne 7, 3) := by decide +kernel
theorem dX5_run_32 : decode cX5_run 32 = .ok (.iconst 1, 1) := by decide +kernel
theorem dX5_run_33 : decode cX5_run 33 = .ok (.goto 4, 3) := by decide +kernel
theorem dX5_run_36 : decode cX5_run 36 = .ok (.iconst 0, 1) := by decide +kernel
theorem dX5_run_37 : decode cX5_run 37 = .ok (.iconst 2, 1) := by decide +kernel
theorem dX5_run_38 : decode cX5_run 38 = .ok (.invokevirtual 50, 3) := by decide +kernel
theorem dX5_run_41 : decode cX5_run 41 = .ok (.ifCond .ne 26, 3) := by decide +kernel
theorem dX5_run_44 : decode cX5_run 44 = .ok (.aload_n 0, 1) := by decide +kernel
theorem dX5_run_45 : decode cX5_run 45 = .ok (.iload_n 2, 1) := by decide +kernel
theorem dX5_run_46 : decode cX5_run 46 = .ok (.aload_n 0, 1) := by decide +kernel
theorem dX5_run_47 : decode cX5_run 47 = .ok (.getfield 28, 3) := by decide +kernel
theorem dX5_run_50 : decode cX5_run 50 = .ok (.iload_n 1, 1) := by decide +kernel
theorem dX5_run_51 : decode cX5_run 51 = .ok (.iaload, 1) := by decide +kernel
theorem dX5_run_52 : decode cX5_run 52 = .ok (.if_icmp .ge 7, 3) := by decide +kernel
theorem dX5_run_55 : decode cX5_run 55 = .ok (.iconst 1, 1) := by decide +kernel
theorem dX5_run_56 : decode cX5_run 56 = .ok (.goto 4, 3) := by decide +kernel
theorem dX5_run_59 : decode cX5_run 59 = .ok (.iconst 0, 1) := by decide +kernel
theorem dX5_run_60 : decode cX5_run 60 = .ok (.iconst 3, 1) := by decide +kernel
theorem dX5_run_61 : decode cX5_run 61 = .ok (.invokevirtual 50, 3) := by decide +kernel
theorem dX5_run_64 : decode cX5_run 64 = .ok (.ifCond .eq 5, 3) := by decide +kernel
theorem dX5_run_67 : decode cX5_run 67 = .ok (.iconst 0, 1) := by decide +kernel
theorem dX5_run_68 : decode cX5_run 68 = .ok (.ireturn, 1) := by decide +kernel
theorem dX5_run_69 : decode cX5_run 69 = .ok (.iconst 0, 1) := by decide +kernel
theorem dX5_run_70 : decode cX5_run 70 = .ok (.istore_n 3, 1) := by decide +kernel
theorem dX5_run_71 : decode cX5_run 71 = .ok (.aload_n 0, 1) := by decide +kernel
theorem dX5_run_72 : decode cX5_run 72 = .ok (.iload_n 1, 1) := by decide +kernel
theorem dX5_run_73 : decode cX5_run 73 = .ok (.invokevirtual 80, 3) := by decide +kernel
theorem dX5_run_76 : decode cX5_run 76 = .ok (.istore 4, 2) := by decide +kernel
theorem dX5_run_78 : decode cX5_run 78 = .ok (.iload 4, 2) := by decide +kernel
theorem dX5_run_80 : decode cX5_run 80 = .ok (.iconst (-1), 1) := by decide +kernel
theorem dX5_run_81 : decode cX5_run 81 = .ok (.if_icmp .eq 33, 3) := by decide +kernel
theorem dX5_run_84 : decode cX5_run 84 = .ok (.aload_n 0, 1) := by decide +kernel
theorem dX5_run_85 : decode cX5_run 85 = .ok (.getfield 7, 3) := by decide +kernel
theorem dX5_run_88 : decode cX5_run 88 = .ok (.iload 4, 2) := by decide +kernel
theorem dX5_run_90 : decode cX5_run 90 = .ok (.iaload, 1) := by decide +kernel
theorem dX5_run_91 : decode cX5_run 91 = .ok (.iload_n 2, 1) := by decide +kernel
theorem dX5_run_92 : decode cX5_run 92 = .ok (.if_icmp .gt 22, 3) := by decide +kernel
theorem dX5_run_95 : decode cX5_run 95 = .ok (.aload_n 0, 1) := by decide +kernel
theorem dX5_run_96 : decode cX5_run 96 = .ok (.iload 4, 2) := by decide +kernel
theorem dX5_run_98 : decode cX5_run 98 = .ok (.invokevirtual 84, 3) := by decide +kernel
theorem dX5_run_101 : decode cX5_run 101 = .ok (.iinc 3 1, 3) := by decide +kernel
theorem dX5_run_104 : decode cX5_run 104 = .ok (.aload_n 0, 1) := by decide +kernel
theorem dX5_run_105 : decode cX5_run 105 = .ok (.iload_n 1, 1) := by decide +kernel
theorem dX5_run_106 : decode cX5_run 106 = .ok (.invokevirtual 80, 3) := by decide +kernel
theorem dX5_run_109 : decode cX5_run 109 = .ok (.istore 4, 2) := by decide +kernel
theorem dX5_run_111 : decode cX5_run 111 = .ok (.goto (-33), 3) := by decide +kernel
theorem dX5_run_114 : decode cX5_run 114 = .ok (.aload_n 0, 1) := by decide +kernel
theorem dX5_run_115 : decode cX5_run 115 = .ok (.getfield 28, 3) := by decide +kernel
theorem dX5_run_118 : decode cX5_run 118 = .ok (.iload_n 1, 1) := by decide +kernel
theorem dX5_run_119 : decode cX5_run 119 = .ok (.iload_n 2, 1) := by decide +kernel
theorem dX5_run_120 : decode cX5_run 120 = .ok (.iastore, 1) := by decide +kernel
theorem dX5_run_121 : decode cX5_run 121 = .ok (.iload_n 3, 1) := by decide +kernel
theorem dX5_run_122 : decode cX5_run 122 = .ok (.ireturn, 1) := by decide +kernel
set_option maxRecDepth 20000 in
theorem ggX5_back_X5_isHouse : GoodIn wsX5_back wsX5_isHouse := goodIn_r _ [9] (by decide +kernel) (by decide +kernel)
set_option maxRecDepth 20000 in
theorem gX5_back_X5_isHouse : GoodIn wsX5_back (va_wsS RX5 46 yX5_isHouse wsX5_isHouse) := goodIn_app (goodIn_of _ (by decide +kernel)) ggX5_back_X5_isHouse
set_option maxRecDepth 20000 in
theorem ggX5_back_X5_isThrown : GoodIn wsX5_back wsX5_isThrown := goodIn_r _ [13, 14, 22, 23, 24, 25, 26, 27, 28, 29, 30, 31, 32] (by decide +kernel) (by decide +kernel)
set_option maxRecDepth 20000 in
theorem gX5_back_X5_isThrown : GoodIn wsX5_back (wsV RX5 50 RX5 yX5_isThrown wsX5_isThrown) := goodIn_app (goodIn_of _ (by decide +kernel)) ggX5_back_X5_isThrown
set_option maxRecDepth 20000 in
theorem ggX5_back_X5_isIn : GoodIn wsX5_back wsX5_isIn := goodIn_r _ [17] (by decide +kernel) (by decide +kernel)
set_option maxRecDepth 20000 in
theorem gX5_back_X5_isIn : GoodIn wsX5_back (va_wsS RX5 54 yX5_isIn wsX5_isIn) := goodIn_app (goodIn_of _ (by decide +kernel)) ggX5_back_X5_isIn
set_option maxRecDepth 20000 in
theorem ggX5_back_X5_many : GoodIn wsX5_back wsX5_many := goodIn_ca (goodIn_r _ [21, 1, 2, 3, 22, 23, 24, 25, 26, 27, 28, 29, 30, 31, 32] (by decide +kernel) (by decide +kernel)) (goodIn_sub (fun _ h => List.mem_cons_of_mem _ (List.mem_append_right _ h)) (by decide +kernel))
set_option maxRecDepth 20000 in
theorem gX5_back_X5_many : GoodIn wsX5_back (wsV RX5 58 RX5 yX5_many wsX5_many) := goodIn_app (goodIn_of _ (by decide +kernel)) ggX5_back_X5_many
theorem dX5_back_0 : decode cX5_back 0 = .ok (.aload_n 0, 1) := by decide +kernel
theorem dX5_back_1 : decode cX5_back 1 = .ok (.iload_n 1, 1) := by decide +kernel
theorem dX5_back_2 : decode cX5_back 2 = .ok (.invokestatic 46, 3) := by decide +kernel
theorem dX5_back_5 : decode cX5_back 5 = .ok (.ifCond .ne 7, 3) := by decide +kernel
theorem dX5_back_8 : decode cX5_back 8 = .ok (.iconst 1, 1) := by decide +kernel
theorem dX5_back_9 : decode cX5_back 9 = .ok (.goto 4, 3) := by decide +kernel
theorem dX5_back_12 : decode cX5_back 12 = .ok (.iconst 0, 1) := by decide +kernel
theorem dX5_back_13 : decode cX5_back 13 = .ok (.iconst 1, 1) := by decide +kernel
theorem dX5_back_14 : decode cX5_back 14 = .ok (.invokevirtual 50, 3) := by decide +kernel
theorem dX5_back_17 : decode cX5_back 17 = .ok (.ifCond .ne 27, 3) := by decide +kernel
theorem dX5_back_20 : decode cX5_back 20 = .ok (.aload_n 0, 1) := by decide +kernel
theorem dX5_back_21 : decode cX5_back 21 = .ok (.iload_n 2, 1) := by decide +kernel
theorem dX5_back_22 : decode cX5_back 22 = .ok (.iconst 0, 1) := by decide +kernel
theorem dX5_back_23 : decode cX5_back 23 = .ok (.sipush 9999, 3) := by decide +kernel
theorem dX5_back_26 : decode cX5_back 26 = .ok (.invokestatic 54, 3) := by decide +kernel
theorem dX5_back_29 : decode cX5_back 29 = .ok (.ifCond .ne 7, 3) := by decide +kernel
theorem dX5_back_32 : decode cX5_back 32 = .ok (.iconst 1, 1) := by decide +kernel
theorem dX5_back_33 : decode cX5_back 33 = .ok (.goto 4, 3) := by decide +kernel
theorem dX5_back_36 : decode cX5_back 36 = .ok (.iconst 0, 1) := by decide +kernel
theorem dX5_back_37 : decode cX5_back 37 = .ok (.iconst 2, 1) := by decide +kernel
theorem dX5_back_38 : decode cX5_back 38 = .ok (.invokevirtual 50, 3) := by decide +kernel
theorem dX5_back_41 : decode cX5_back 41 = .ok (.ifCond .eq 5, 3) := by decide +kernel
theorem dX5_back_44 : decode cX5_back 44 = .ok (.iconst 0, 1) := by decide +kernel
theorem dX5_back_45 : decode cX5_back 45 = .ok (.ireturn, 1) := by decide +kernel
theorem dX5_back_46 : decode cX5_back 46 = .ok (.iconst 0, 1) := by decide +kernel
theorem dX5_back_47 : decode cX5_back 47 = .ok (.istore_n 3, 1) := by decide +kernel
theorem dX5_back_48 : decode cX5_back 48 = .ok (.iconst 0, 1) := by decide +kernel
theorem dX5_back_49 : decode cX5_back 49 = .ok (.istore 4, 2) := by decide +kernel
theorem dX5_back_51 : decode cX5_back 51 = .ok (.iload 4, 2) := by decide +kernel
theorem dX5_back_53 : decode cX5_back 53 = .ok (.aload_n 0, 1) := by decide +kernel
theorem dX5_back_54 : decode cX5_back 54 = .ok (.getfield 35, 3) := by decide +kernel
theorem dX5_back_57 : decode cX5_back 57 = .ok (.if_icmp .ge 50, 3) := by decide +kernel
theorem dX5_back_60 : decode cX5_back 60 = .ok (.iload_n 3, 1) := by decide +kernel
theorem dX5_back_61 : decode cX5_back 61 = .ok (.aload_n 0, 1) := by decide +kernel
theorem dX5_back_62 : decode cX5_back 62 = .ok (.getfield 19, 3) := by decide +kernel
theorem dX5_back_65 : decode cX5_back 65 = .ok (.iload 4, 2) := by decide +kernel
theorem dX5_back_67 : decode cX5_back 67 = .ok (.iaload, 1) := by decide +kernel
theorem dX5_back_68 : decode cX5_back 68 = .ok (.iload_n 1, 1) := by decide +kernel
theorem dX5_back_69 : decode cX5_back 69 = .ok (.if_icmp .ne 29, 3) := by decide +kernel
theorem dX5_back_72 : decode cX5_back 72 = .ok (.aload_n 0, 1) := by decide +kernel
theorem dX5_back_73 : decode cX5_back 73 = .ok (.getfield 22, 3) := by decide +kernel
theorem dX5_back_76 : decode cX5_back 76 = .ok (.iload 4, 2) := by decide +kernel
theorem dX5_back_78 : decode cX5_back 78 = .ok (.iaload, 1) := by decide +kernel
theorem dX5_back_79 : decode cX5_back 79 = .ok (.iconst 1, 1) := by decide +kernel
theorem dX5_back_80 : decode cX5_back 80 = .ok (.if_icmp .ne 18, 3) := by decide +kernel
theorem dX5_back_83 : decode cX5_back 83 = .ok (.aload_n 0, 1) := by decide +kernel
theorem dX5_back_84 : decode cX5_back 84 = .ok (.getfield 7, 3) := by decide +kernel
theorem dX5_back_87 : decode cX5_back 87 = .ok (.iload 4, 2) := by decide +kernel
theorem dX5_back_89 : decode cX5_back 89 = .ok (.iaload, 1) := by decide +kernel
theorem dX5_back_90 : decode cX5_back 90 = .ok (.iload_n 2, 1) := by decide +kernel
theorem dX5_back_91 : decode cX5_back 91 = .ok (.if_icmp .le 7, 3) := by decide +kernel
theorem dX5_back_94 : decode cX5_back 94 = .ok (.iconst 1, 1) := by decide +kernel
theorem dX5_back_95 : decode cX5_back 95 = .ok (.goto 4, 3) := by decide +kernel
theorem dX5_back_98 : decode cX5_back 98 = .ok (.iconst 0, 1) := by decide +kernel
theorem dX5_back_99 : decode cX5_back 99 = .ok (.iadd, 1) := by decide +kernel
theorem dX5_back_100 : decode cX5_back 100 = .ok (.istore_n 3, 1) := by decide +kernel
theorem dX5_back_101 : decode cX5_back 101 = .ok (.iinc 4 1, 3) := by decide +kernel
theorem dX5_back_104 : decode cX5_back 104 = .ok (.goto (-53), 3) := by decide +kernel
theorem dX5_back_107 : decode cX5_back 107 = .ok (.aload_n 0, 1) := by decide +kernel
theorem dX5_back_108 : decode cX5_back 108 = .ok (.iload_n 2, 1) := by decide +kernel
theorem dX5_back_109 : decode cX5_back 109 = .ok (.aload_n 0, 1) := by decide +kernel
theorem dX5_back_110 : decode cX5_back 110 = .ok (.getfield 28, 3) := by decide +kernel
theorem dX5_back_113 : decode cX5_back 113 = .ok (.iload_n 1, 1) := by decide +kernel
theorem dX5_back_114 : decode cX5_back 114 = .ok (.iaload, 1) := by decide +kernel
theorem dX5_back_115 : decode cX5_back 115 = .ok (.if_icmp .gt 16, 3) := by decide +kernel
theorem dX5_back_118 : decode cX5_back 118 = .ok (.aload_n 0, 1) := by decide +kernel
theorem dX5_back_119 : decode cX5_back 119 = .ok (.iload_n 1, 1) := by decide +kernel
theorem dX5_back_120 : decode cX5_back 120 = .ok (.iconst 0, 1) := by decide +kernel
theorem dX5_back_121 : decode cX5_back 121 = .ok (.invokevirtual 58, 3) := by decide +kernel
theorem dX5_back_124 : decode cX5_back 124 = .ok (.iload_n 3, 1) := by decide +kernel
theorem dX5_back_125 : decode cX5_back 125 = .ok (.iadd, 1) := by decide +kernel
theorem dX5_back_126 : decode cX5_back 126 = .ok (.bipush 48, 2) := by decide +kernel
theorem dX5_back_128 : decode cX5_back 128 = .ok (.if_icmp .le 7, 3) := by decide +kernel
theorem dX5_back_131 : decode cX5_back 131 = .ok (.iconst 1, 1) := by decide +kernel
theorem dX5_back_132 : decode cX5_back 132 = .ok (.goto 4, 3) := by decide +kernel
theorem dX5_back_135 : decode cX5_back 135 = .ok (.iconst 0, 1) := by decide +kernel
theorem dX5_back_136 : decode cX5_back 136 = .ok (.iconst 3, 1) := by decide +kernel
theorem dX5_back_137 : decode cX5_back 137 = .ok (.invokevirtual 50, 3) := by decide +kernel
theorem dX5_back_140 : decode cX5_back 140 = .ok (.ifCond .eq 5, 3) := by decide +kernel
theorem dX5_back_143 : decode cX5_back 143 = .ok (.iconst 0, 1) := by decide +kernel
theorem dX5_back_144 : decode cX5_back 144 = .ok (.ireturn, 1) := by decide +kernel
theorem dX5_back_145 : decode cX5_back 145 = .ok (.iconst 0, 1) := by decide +kernel
theorem dX5_back_146 : decode cX5_back 146 = .ok (.istore 4, 2) := by decide +kernel
theorem dX5_back_148 : decode cX5_back 148 = .ok (.iload 4, 2) := by decide +kernel
theorem dX5_back_150 : decode cX5_back 150 = .ok (.aload_n 0, 1) := by decide +kernel
theorem dX5_back_151 : decode cX5_back 151 = .ok (.getfield 35, 3) := by decide +kernel
theorem dX5_back_154 : decode cX5_back 154 = .ok (.if_icmp .ge 50, 3) := by decide +kernel
theorem dX5_back_157 : decode cX5_back 157 = .ok (.aload_n 0, 1) := by decide +kernel
theorem dX5_back_158 : decode cX5_back 158 = .ok (.getfield 19, 3) := by decide +kernel
theorem dX5_back_161 : decode cX5_back 161 = .ok (.iload 4, 2) := by decide +kernel
theorem dX5_back_163 : decode cX5_back 163 = .ok (.iaload, 1) := by decide +kernel
theorem dX5_back_164 : decode cX5_back 164 = .ok (.iload_n 1, 1) := by decide +kernel
theorem dX5_back_165 : decode cX5_back 165 = .ok (.if_icmp .ne 33, 3) := by decide +kernel
theorem dX5_back_168 : decode cX5_back 168 = .ok (.aload_n 0, 1) := by decide +kernel
theorem dX5_back_169 : decode cX5_back 169 = .ok (.getfield 22, 3) := by decide +kernel
theorem dX5_back_172 : decode cX5_back 172 = .ok (.iload 4, 2) := by decide +kernel
theorem dX5_back_174 : decode cX5_back 174 = .ok (.iaload, 1) := by decide +kernel
theorem dX5_back_175 : decode cX5_back 175 = .ok (.iconst 1, 1) := by decide +kernel
theorem dX5_back_176 : decode cX5_back 176 = .ok (.if_icmp .ne 22, 3) := by decide +kernel
theorem dX5_back_179 : decode cX5_back 179 = .ok (.aload_n 0, 1) := by decide +kernel
theorem dX5_back_180 : decode cX5_back 180 = .ok (.getfield 7, 3) := by decide +kernel
theorem dX5_back_183 : decode cX5_back 183 = .ok (.iload 4, 2) := by decide +kernel
theorem dX5_back_185 : decode cX5_back 185 = .ok (.iaload, 1) := by decide +kernel
theorem dX5_back_186 : decode cX5_back 186 = .ok (.iload_n 2, 1) := by decide +kernel
theorem dX5_back_187 : decode cX5_back 187 = .ok (.if_icmp .le 11, 3) := by decide +kernel
theorem dX5_back_190 : decode cX5_back 190 = .ok (.aload_n 0, 1) := by decide +kernel
theorem dX5_back_191 : decode cX5_back 191 = .ok (.getfield 22, 3) := by decide +kernel
theorem dX5_back_194 : decode cX5_back 194 = .ok (.iload 4, 2) := by decide +kernel
theorem dX5_back_196 : decode cX5_back 196 = .ok (.iconst 0, 1) := by decide +kernel
theorem dX5_back_197 : decode cX5_back 197 = .ok (.iastore, 1) := by decide +kernel
theorem dX5_back_198 : decode cX5_back 198 = .ok (.iinc 4 1, 3) := by decide +kernel
theorem dX5_back_201 : decode cX5_back 201 = .ok (.goto (-53), 3) := by decide +kernel
theorem dX5_back_204 : decode cX5_back 204 = .ok (.aload_n 0, 1) := by decide +kernel
theorem dX5_back_205 : decode cX5_back 205 = .ok (.getfield 28, 3) := by decide +kernel
theorem dX5_back_208 : decode cX5_back 208 = .ok (.iload_n 1, 1) := by decide +kernel
theorem dX5_back_209 : decode cX5_back 209 = .ok (.iload_n 2, 1) := by decide +kernel
theorem dX5_back_210 : decode cX5_back 210 = .ok (.iastore, 1) := by decide +kernel
theorem dX5_back_211 : decode cX5_back 211 = .ok (.iload_n 3, 1) := by decide +kernel
theorem dX5_back_212 : decode cX5_back 212 = .ok (.ireturn, 1) := by decide +kernel
set_option maxRecDepth 20000 in
theorem ggX5_clock_X5_isHouse : GoodIn wsX5_clock wsX5_isHouse := goodIn_r _ [5] (by decide +kernel) (by decide +kernel)
set_option maxRecDepth 20000 in
theorem gX5_clock_X5_isHouse : GoodIn wsX5_clock (va_wsS RX5 46 yX5_isHouse wsX5_isHouse) := goodIn_app (goodIn_of _ (by decide +kernel)) ggX5_clock_X5_isHouse
set_option maxRecDepth 20000 in
theorem ggX5_clock_X5_isThrown : GoodIn wsX5_clock wsX5_isThrown := goodIn_r _ [9, 10, 11, 12, 13, 14, 15, 16, 17, 18, 19, 20, 21] (by decide +kernel) (by decide +kernel)
set_option maxRecDepth 20000 in
theorem gX5_clock_X5_isThrown : GoodIn wsX5_clock (wsV RX5 50 RX5 yX5_isThrown wsX5_isThrown) := goodIn_app (goodIn_of _ (by decide +kernel)) ggX5_clock_X5_isThrown
theorem dX5_clock_0 : decode cX5_clock 0 = .ok (.aload_n 0, 1) := by decide +kernel
theorem dX5_clock_1 : decode cX5_clock 1 = .ok (.iload_n 1, 1) := by decide +kernel
theorem dX5_clock_2 : decode cX5_clock 2 = .ok (.invokestatic 46, 3) := by decide +kernel
theorem dX5_clock_5 : decode cX5_clock 5 = .ok (.ifCond .ne 7, 3) := by decide +kernel
theorem dX5_clock_8 : decode cX5_clock 8 = .ok (.iconst 1, 1) := by decide +kernel
theorem dX5_clock_9 : decode cX5_clock 9 = .ok (.goto 4, 3) := by decide +kernel
theorem dX5_clock_12 : decode cX5_clock 12 = .ok (.iconst 0, 1) := by decide +kernel
theorem dX5_clock_13 : decode cX5_clock 13 = .ok (.iconst 1, 1) := by decide +kernel
theorem dX5_clock_14 : decode cX5_clock 14 = .ok (.invokevirtual 50, 3) := by decide +kernel
theorem dX5_clock_17 : decode cX5_clock 17 = .ok (.ifCond .eq 7, 3) := by decide +kernel
theorem dX5_clock_20 : decode cX5_clock 20 = .ok (.iconst 0, 1) := by decide +kernel
theorem dX5_clock_21 : decode cX5_clock 21 = .ok (.goto 9, 3) := by decide +kernel
theorem dX5_clock_24 : decode cX5_clock 24 = .ok (.aload_n 0, 1) := by decide +kernel
theorem dX5_clock_25 : decode cX5_clock 25 = .ok (.getfield 28, 3) := by decide +kernel
theorem dX5_clock_28 : decode cX5_clock 28 = .ok (.iload_n 1, 1) := by decide +kernel
theorem dX5_clock_29 : decode cX5_clock 29 = .ok (.iaload, 1) := by decide +kernel
theorem dX5_clock_30 : decode cX5_clock 30 = .ok (.ireturn, 1) := by decide +kernel
set_option maxRecDepth 20000 in
theorem ggX5_waiting_X5_isHouse : GoodIn wsX5_waiting wsX5_isHouse := goodIn_r _ [4] (by decide +kernel) (by decide +kernel)
set_option maxRecDepth 20000 in
theorem gX5_waiting_X5_isHouse : GoodIn wsX5_waiting (va_wsS RX5 46 yX5_isHouse wsX5_isHouse) := goodIn_app (goodIn_of _ (by decide +kernel)) ggX5_waiting_X5_isHouse
set_option maxRecDepth 20000 in
theorem ggX5_waiting_X5_isThrown : GoodIn wsX5_waiting wsX5_isThrown := goodIn_r _ [8, 9, 17, 18, 19, 20, 21, 22, 23, 24, 25, 26, 27] (by decide +kernel) (by decide +kernel)
set_option maxRecDepth 20000 in
theorem gX5_waiting_X5_isThrown : GoodIn wsX5_waiting (wsV RX5 50 RX5 yX5_isThrown wsX5_isThrown) := goodIn_app (goodIn_of _ (by decide +kernel)) ggX5_waiting_X5_isThrown
set_option maxRecDepth 20000 in
theorem ggX5_waiting_X5_many : GoodIn wsX5_waiting wsX5_many := goodIn_ca (goodIn_r _ [13, 14, 15, 16, 17, 18, 19, 20, 21, 22, 23, 24, 25, 26, 27] (by decide +kernel) (by decide +kernel)) (goodIn_sub (fun _ h => List.mem_cons_of_mem _ (List.mem_append_right _ h)) (by decide +kernel))
set_option maxRecDepth 20000 in
theorem gX5_waiting_X5_many : GoodIn wsX5_waiting (wsV RX5 58 RX5 yX5_many wsX5_many) := goodIn_app (goodIn_of _ (by decide +kernel)) ggX5_waiting_X5_many
theorem dX5_waiting_0 : decode cX5_waiting 0 = .ok (.aload_n 0, 1) := by decide +kernel
theorem dX5_waiting_1 : decode cX5_waiting 1 = .ok (.iload_n 1, 1) := by decide +kernel
theorem dX5_waiting_2 : decode cX5_waiting 2 = .ok (.invokestatic 46, 3) := by decide +kernel
theorem dX5_waiting_5 : decode cX5_waiting 5 = .ok (.ifCond .ne 7, 3) := by decide +kernel
theorem dX5_waiting_8 : decode cX5_waiting 8 = .ok (.iconst 1, 1) := by decide +kernel
theorem dX5_waiting_9 : decode cX5_waiting 9 = .ok (.goto 4, 3) := by decide +kernel
theorem dX5_waiting_12 : decode cX5_waiting 12 = .ok (.iconst 0, 1) := by decide +kernel
theorem dX5_waiting_13 : decode cX5_waiting 13 = .ok (.iconst 1, 1) := by decide +kernel
theorem dX5_waiting_14 : decode cX5_waiting 14 = .ok (.invokevirtual 50, 3) := by decide +kernel
theorem dX5_waiting_17 : decode cX5_waiting 17 = .ok (.ifCond .eq 7, 3) := by decide +kernel
theorem dX5_waiting_20 : decode cX5_waiting 20 = .ok (.iconst 0, 1) := by decide +kernel
theorem dX5_waiting_21 : decode cX5_waiting 21 = .ok (.goto 9, 3) := by decide +kernel
theorem dX5_waiting_24 : decode cX5_waiting 24 = .ok (.aload_n 0, 1) := by decide +kernel
theorem dX5_waiting_25 : decode cX5_waiting 25 = .ok (.iload_n 1, 1) := by decide +kernel
theorem dX5_waiting_26 : decode cX5_waiting 26 = .ok (.iconst 0, 1) := by decide +kernel
theorem dX5_waiting_27 : decode cX5_waiting 27 = .ok (.invokevirtual 58, 3) := by decide +kernel
theorem dX5_waiting_30 : decode cX5_waiting 30 = .ok (.ireturn, 1) := by decide +kernel
set_option maxRecDepth 20000 in
theorem ggX5_came_X5_isHouse : GoodIn wsX5_came wsX5_isHouse := goodIn_r _ [4] (by decide +kernel) (by decide +kernel)
set_option maxRecDepth 20000 in
theorem gX5_came_X5_isHouse : GoodIn wsX5_came (va_wsS RX5 46 yX5_isHouse wsX5_isHouse) := goodIn_app (goodIn_of _ (by decide +kernel)) ggX5_came_X5_isHouse
set_option maxRecDepth 20000 in
theorem ggX5_came_X5_isThrown : GoodIn wsX5_came wsX5_isThrown := goodIn_r _ [8, 9, 17, 18, 19, 20, 21, 22, 23, 24, 25, 26, 27] (by decide +kernel) (by decide +kernel)
set_option maxRecDepth 20000 in
theorem gX5_came_X5_isThrown : GoodIn wsX5_came (wsV RX5 50 RX5 yX5_isThrown wsX5_isThrown) := goodIn_app (goodIn_of _ (by decide +kernel)) ggX5_came_X5_isThrown
set_option maxRecDepth 20000 in
theorem ggX5_came_X5_many : GoodIn wsX5_came wsX5_many := goodIn_ca (goodIn_r _ [13, 14, 15, 16, 17, 18, 19, 20, 21, 22, 23, 24, 25, 26, 27] (by decide +kernel) (by decide +kernel)) (goodIn_sub (fun _ h => List.mem_cons_of_mem _ (List.mem_append_right _ h)) (by decide +kernel))
set_option maxRecDepth 20000 in
theorem gX5_came_X5_many : GoodIn wsX5_came (wsV RX5 58 RX5 yX5_many wsX5_many) := goodIn_app (goodIn_of _ (by decide +kernel)) ggX5_came_X5_many
theorem dX5_came_0 : decode cX5_came 0 = .ok (.aload_n 0, 1) := by decide +kernel
theorem dX5_came_1 : decode cX5_came 1 = .ok (.iload_n 1, 1) := by decide +kernel
theorem dX5_came_2 : decode cX5_came 2 = .ok (.invokestatic 46, 3) := by decide +kernel
theorem dX5_came_5 : decode cX5_came 5 = .ok (.ifCond .ne 7, 3) := by decide +kernel
theorem dX5_came_8 : decode cX5_came 8 = .ok (.iconst 1, 1) := by decide +kernel
theorem dX5_came_9 : decode cX5_came 9 = .ok (.goto 4, 3) := by decide +kernel
theorem dX5_came_12 : decode cX5_came 12 = .ok (.iconst 0, 1) := by decide +kernel
theorem dX5_came_13 : decode cX5_came 13 = .ok (.iconst 1, 1) := by decide +kernel
theorem dX5_came_14 : decode cX5_came 14 = .ok (.invokevirtual 50, 3) := by decide +kernel
theorem dX5_came_17 : decode cX5_came 17 = .ok (.ifCond .eq 7, 3) := by decide +kernel
theorem dX5_came_20 : decode cX5_came 20 = .ok (.iconst 0, 1) := by decide +kernel
theorem dX5_came_21 : decode cX5_came 21 = .ok (.goto 9, 3) := by decide +kernel
theorem dX5_came_24 : decode cX5_came 24 = .ok (.aload_n 0, 1) := by decide +kernel
theorem dX5_came_25 : decode cX5_came 25 = .ok (.iload_n 1, 1) := by decide +kernel
theorem dX5_came_26 : decode cX5_came 26 = .ok (.iconst 1, 1) := by decide +kernel
theorem dX5_came_27 : decode cX5_came 27 = .ok (.invokevirtual 58, 3) := by decide +kernel
theorem dX5_came_30 : decode cX5_came 30 = .ok (.ireturn, 1) := by decide +kernel
theorem dX5_cameBehind_0 : decode cX5_cameBehind 0 = .ok (.iconst (-1), 1) := by decide +kernel
theorem dX5_cameBehind_1 : decode cX5_cameBehind 1 = .ok (.istore_n 3, 1) := by decide +kernel
theorem dX5_cameBehind_2 : decode cX5_cameBehind 2 = .ok (.iconst 0, 1) := by decide +kernel
theorem dX5_cameBehind_3 : decode cX5_cameBehind 3 = .ok (.istore 4, 2) := by decide +kernel
theorem dX5_cameBehind_5 : decode cX5_cameBehind 5 = .ok (.iload 4, 2) := by decide +kernel
theorem dX5_cameBehind_7 : decode cX5_cameBehind 7 = .ok (.aload_n 0, 1) := by decide +kernel
theorem dX5_cameBehind_8 : decode cX5_cameBehind 8 = .ok (.getfield 35, 3) := by decide +kernel
theorem dX5_cameBehind_11 : decode cX5_cameBehind 11 = .ok (.if_icmp .ge 76, 3) := by decide +kernel
theorem dX5_cameBehind_14 : decode cX5_cameBehind 14 = .ok (.aload_n 0, 1) := by decide +kernel
theorem dX5_cameBehind_15 : decode cX5_cameBehind 15 = .ok (.getfield 19, 3) := by decide +kernel
theorem dX5_cameBehind_18 : decode cX5_cameBehind 18 = .ok (.iload 4, 2) := by decide +kernel
theorem dX5_cameBehind_20 : decode cX5_cameBehind 20 = .ok (.iaload, 1) := by decide +kernel
theorem dX5_cameBehind_21 : decode cX5_cameBehind 21 = .ok (.iload_n 1, 1) := by decide +kernel
theorem dX5_cameBehind_22 : decode cX5_cameBehind 22 = .ok (.if_icmp .ne 59, 3) := by decide +kernel
theorem dX5_cameBehind_25 : decode cX5_cameBehind 25 = .ok (.aload_n 0, 1) := by decide +kernel
theorem dX5_cameBehind_26 : decode cX5_cameBehind 26 = .ok (.getfield 22, 3) := by decide +kernel
theorem dX5_cameBehind_29 : decode cX5_cameBehind 29 = .ok (.iload 4, 2) := by decide +kernel
theorem dX5_cameBehind_31 : decode cX5_cameBehind 31 = .ok (.iaload, 1) := by decide +kernel
theorem dX5_cameBehind_32 : decode cX5_cameBehind 32 = .ok (.iconst 1, 1) := by decide +kernel
theorem dX5_cameBehind_33 : decode cX5_cameBehind 33 = .ok (.if_icmp .ne 48, 3) := by decide +kernel
theorem dX5_cameBehind_36 : decode cX5_cameBehind 36 = .ok (.iload_n 2, 1) := by decide +kernel
theorem dX5_cameBehind_37 : decode cX5_cameBehind 37 = .ok (.iconst (-1), 1) := by decide +kernel
theorem dX5_cameBehind_38 : decode cX5_cameBehind 38 = .ok (.if_icmp .eq 19, 3) := by decide +kernel
theorem dX5_cameBehind_41 : decode cX5_cameBehind 41 = .ok (.aload_n 0, 1) := by decide +kernel
theorem dX5_cameBehind_42 : decode cX5_cameBehind 42 = .ok (.getfield 25, 3) := by decide +kernel
theorem dX5_cameBehind_45 : decode cX5_cameBehind 45 = .ok (.iload 4, 2) := by decide +kernel
theorem dX5_cameBehind_47 : decode cX5_cameBehind 47 = .ok (.iaload, 1) := by decide +kernel
theorem dX5_cameBehind_48 : decode cX5_cameBehind 48 = .ok (.aload_n 0, 1) := by decide +kernel
theorem dX5_cameBehind_49 : decode cX5_cameBehind 49 = .ok (.getfield 25, 3) := by decide +kernel
theorem dX5_cameBehind_52 : decode cX5_cameBehind 52 = .ok (.iload_n 2, 1) := by decide +kernel
theorem dX5_cameBehind_53 : decode cX5_cameBehind 53 = .ok (.iaload, 1) := by decide +kernel
theorem dX5_cameBehind_54 : decode cX5_cameBehind 54 = .ok (.if_icmp .le 27, 3) := by decide +kernel
theorem dX5_cameBehind_57 : decode cX5_cameBehind 57 = .ok (.iload_n 3, 1) := by decide +kernel
theorem dX5_cameBehind_58 : decode cX5_cameBehind 58 = .ok (.iconst (-1), 1) := by decide +kernel
theorem dX5_cameBehind_59 : decode cX5_cameBehind 59 = .ok (.if_icmp .eq 19, 3) := by decide +kernel
theorem dX5_cameBehind_62 : decode cX5_cameBehind 62 = .ok (.aload_n 0, 1) := by decide +kernel
theorem dX5_cameBehind_63 : decode cX5_cameBehind 63 = .ok (.getfield 25, 3) := by decide +kernel
theorem dX5_cameBehind_66 : decode cX5_cameBehind 66 = .ok (.iload 4, 2) := by decide +kernel
theorem dX5_cameBehind_68 : decode cX5_cameBehind 68 = .ok (.iaload, 1) := by decide +kernel
theorem dX5_cameBehind_69 : decode cX5_cameBehind 69 = .ok (.aload_n 0, 1) := by decide +kernel
theorem dX5_cameBehind_70 : decode cX5_cameBehind 70 = .ok (.getfield 25, 3) := by decide +kernel
theorem dX5_cameBehind_73 : decode cX5_cameBehind 73 = .ok (.iload_n 3, 1) := by decide +kernel
theorem dX5_cameBehind_74 : decode cX5_cameBehind 74 = .ok (.iaload, 1) := by decide +kernel
theorem dX5_cameBehind_75 : decode cX5_cameBehind 75 = .ok (.if_icmp .ge 6, 3) := by decide +kernel
theorem dX5_cameBehind_78 : decode cX5_cameBehind 78 = .ok (.iload 4, 2) := by decide +kernel
theorem dX5_cameBehind_80 : decode cX5_cameBehind 80 = .ok (.istore_n 3, 1) := by decide +kernel
theorem dX5_cameBehind_81 : decode cX5_cameBehind 81 = .ok (.iinc 4 1, 3) := by decide +kernel
theorem dX5_cameBehind_84 : decode cX5_cameBehind 84 = .ok (.goto (-79), 3) := by decide +kernel
theorem dX5_cameBehind_87 : decode cX5_cameBehind 87 = .ok (.iload_n 3, 1) := by decide +kernel
theorem dX5_cameBehind_88 : decode cX5_cameBehind 88 = .ok (.ireturn, 1) := by decide +kernel
set_option maxRecDepth 20000 in
theorem ggX5_waits_X5_isHouse : GoodIn wsX5_waits wsX5_isHouse := goodIn_r _ [4] (by decide +kernel) (by decide +kernel)
set_option maxRecDepth 20000 in
theorem gX5_waits_X5_isHouse : GoodIn wsX5_waits (va_wsS RX5 46 yX5_isHouse wsX5_isHouse) := goodIn_app (goodIn_of _ (by decide +kernel)) ggX5_waits_X5_isHouse
set_option maxRecDepth 20000 in
theorem ggX5_waits_X5_isThrown : GoodIn wsX5_waits wsX5_isThrown := goodIn_r _ [8, 9, 26, 27, 28, 29, 30, 31, 32, 33, 34, 35, 36] (by decide +kernel) (by decide +kernel)
set_option maxRecDepth 20000 in
theorem gX5_waits_X5_isThrown : GoodIn wsX5_waits (wsV RX5 50 RX5 yX5_isThrown wsX5_isThrown) := goodIn_app (goodIn_of _ (by decide +kernel)) ggX5_waits_X5_isThrown
set_option maxRecDepth 20000 in
theorem ggX5_waits_X5_first : GoodIn wsX5_waits wsX5_first := goodIn_ca (goodIn_r _ [13, 14, 15, 16, 3, 17, 18, 19, 20, 21, 22, 23, 24, 25, 26, 27, 28, 29, 30, 31, 32, 33, 34, 35, 36] (by decide +kernel) (by decide +kernel)) (goodIn_sub (fun _ h => List.mem_cons_of_mem _ (List.mem_append_right _ h)) (by decide +kernel))
set_option maxRecDepth 20000 in
theorem gX5_waits_X5_first : GoodIn wsX5_waits (wsV RX5 80 RX5 yX5_first wsX5_first) := goodIn_app (goodIn_of _ (by decide +kernel)) ggX5_waits_X5_first
set_option maxRecDepth 20000 in
theorem ggX5_waits_X5_behind : GoodIn wsX5_waits wsX5_behind := goodIn_ca (goodIn_r _ [17, 18, 19, 20, 21, 22, 23, 3, 24, 25, 26, 27, 28, 29, 30, 31, 32, 33, 34, 35, 36] (by decide +kernel) (by decide +kernel)) (goodIn_sub (fun _ h => List.mem_cons_of_mem _ (List.mem_append_right _ h)) (by decide +kernel))
set_option maxRecDepth 20000 in
theorem gX5_waits_X5_behind : GoodIn wsX5_waits (wsV RX5 42 RX5 yX5_behind wsX5_behind) := goodIn_app (goodIn_of _ (by decide +kernel)) ggX5_waits_X5_behind
theorem dX5_waits_0 : decode cX5_waits 0 = .ok (.aload_n 0, 1) := by decide +kernel
theorem dX5_waits_1 : decode cX5_waits 1 = .ok (.iload_n 1, 1) := by decide +kernel
theorem dX5_waits_2 : decode cX5_waits 2 = .ok (.invokestatic 46, 3) := by decide +kernel
theorem dX5_waits_5 : decode cX5_waits 5 = .ok (.ifCond .ne 7, 3) := by decide +kernel
theorem dX5_waits_8 : decode cX5_waits 8 = .ok (.iconst 1, 1) := by decide +kernel
theorem dX5_waits_9 : decode cX5_waits 9 = .ok (.goto 4, 3) := by decide +kernel
theorem dX5_waits_12 : decode cX5_waits 12 = .ok (.iconst 0, 1) := by decide +kernel
theorem dX5_waits_13 : decode cX5_waits 13 = .ok (.iconst 1, 1) := by decide +kernel
theorem dX5_waits_14 : decode cX5_waits 14 = .ok (.invokevirtual 50, 3) := by decide +kernel
theorem dX5_waits_17 : decode cX5_waits 17 = .ok (.ifCond .eq 5, 3) := by decide +kernel
theorem dX5_waits_20 : decode cX5_waits 20 = .ok (.iconst 0, 1) := by decide +kernel
theorem dX5_waits_21 : decode cX5_waits 21 = .ok (.ireturn, 1) := by decide +kernel
theorem dX5_waits_22 : decode cX5_waits 22 = .ok (.aload_n 0, 1) := by decide +kernel
theorem dX5_waits_23 : decode cX5_waits 23 = .ok (.iload_n 1, 1) := by decide +kernel
theorem dX5_waits_24 : decode cX5_waits 24 = .ok (.invokevirtual 80, 3) := by decide +kernel
theorem dX5_waits_27 : decode cX5_waits 27 = .ok (.istore_n 3, 1) := by decide +kernel
theorem dX5_waits_28 : decode cX5_waits 28 = .ok (.iconst 0, 1) := by decide +kernel
theorem dX5_waits_29 : decode cX5_waits 29 = .ok (.istore 4, 2) := by decide +kernel
theorem dX5_waits_31 : decode cX5_waits 31 = .ok (.iload 4, 2) := by decide +kernel
theorem dX5_waits_33 : decode cX5_waits 33 = .ok (.iload_n 2, 1) := by decide +kernel
theorem dX5_waits_34 : decode cX5_waits 34 = .ok (.if_icmp .ge 21, 3) := by decide +kernel
theorem dX5_waits_37 : decode cX5_waits 37 = .ok (.iload_n 3, 1) := by decide +kernel
theorem dX5_waits_38 : decode cX5_waits 38 = .ok (.iconst (-1), 1) := by decide +kernel
theorem dX5_waits_39 : decode cX5_waits 39 = .ok (.if_icmp .eq 16, 3) := by decide +kernel
theorem dX5_waits_42 : decode cX5_waits 42 = .ok (.aload_n 0, 1) := by decide +kernel
theorem dX5_waits_43 : decode cX5_waits 43 = .ok (.iload_n 1, 1) := by decide +kernel
theorem dX5_waits_44 : decode cX5_waits 44 = .ok (.iload_n 3, 1) := by decide +kernel
theorem dX5_waits_45 : decode cX5_waits 45 = .ok (.invokevirtual 42, 3) := by decide +kernel
theorem dX5_waits_48 : decode cX5_waits 48 = .ok (.istore_n 3, 1) := by decide +kernel
theorem dX5_waits_49 : decode cX5_waits 49 = .ok (.iinc 4 1, 3) := by decide +kernel
theorem dX5_waits_52 : decode cX5_waits 52 = .ok (.goto (-21), 3) := by decide +kernel
theorem dX5_waits_55 : decode cX5_waits 55 = .ok (.aload_n 0, 1) := by decide +kernel
theorem dX5_waits_56 : decode cX5_waits 56 = .ok (.iload_n 2, 1) := by decide +kernel
theorem dX5_waits_57 : decode cX5_waits 57 = .ok (.ifCond .lt 8, 3) := by decide +kernel
theorem dX5_waits_60 : decode cX5_waits 60 = .ok (.iload_n 3, 1) := by decide +kernel
theorem dX5_waits_61 : decode cX5_waits 61 = .ok (.iconst (-1), 1) := by decide +kernel
theorem dX5_waits_62 : decode cX5_waits 62 = .ok (.if_icmp .ne 7, 3) := by decide +kernel
theorem dX5_waits_65 : decode cX5_waits 65 = .ok (.iconst 1, 1) := by decide +kernel
theorem dX5_waits_66 : decode cX5_waits 66 = .ok (.goto 4, 3) := by decide +kernel
theorem dX5_waits_69 : decode cX5_waits 69 = .ok (.iconst 0, 1) := by decide +kernel
theorem dX5_waits_70 : decode cX5_waits 70 = .ok (.iconst 2, 1) := by decide +kernel
theorem dX5_waits_71 : decode cX5_waits 71 = .ok (.invokevirtual 50, 3) := by decide +kernel
theorem dX5_waits_74 : decode cX5_waits 74 = .ok (.ifCond .eq 7, 3) := by decide +kernel
theorem dX5_waits_77 : decode cX5_waits 77 = .ok (.iconst 0, 1) := by decide +kernel
theorem dX5_waits_78 : decode cX5_waits 78 = .ok (.goto 4, 3) := by decide +kernel
theorem dX5_waits_81 : decode cX5_waits 81 = .ok (.iload_n 3, 1) := by decide +kernel
theorem dX5_waits_82 : decode cX5_waits 82 = .ok (.ireturn, 1) := by decide +kernel
set_option maxRecDepth 20000 in
theorem ggX5_cameAt_X5_isHouse : GoodIn wsX5_cameAt wsX5_isHouse := goodIn_r _ [4] (by decide +kernel) (by decide +kernel)
set_option maxRecDepth 20000 in
theorem gX5_cameAt_X5_isHouse : GoodIn wsX5_cameAt (va_wsS RX5 46 yX5_isHouse wsX5_isHouse) := goodIn_app (goodIn_of _ (by decide +kernel)) ggX5_cameAt_X5_isHouse
set_option maxRecDepth 20000 in
theorem ggX5_cameAt_X5_isThrown : GoodIn wsX5_cameAt wsX5_isThrown := goodIn_r _ [8, 9, 18, 19, 20, 21, 22, 23, 24, 25, 26, 27, 28] (by decide +kernel) (by decide +kernel)
set_option maxRecDepth 20000 in
theorem gX5_cameAt_X5_isThrown : GoodIn wsX5_cameAt (wsV RX5 50 RX5 yX5_isThrown wsX5_isThrown) := goodIn_app (goodIn_of _ (by decide +kernel)) ggX5_cameAt_X5_isThrown
set_option maxRecDepth 20000 in
theorem ggX5_cameAt_X5_cameBehind : GoodIn wsX5_cameAt wsX5_cameBehind := goodIn_ca (goodIn_r _ [13, 14, 15, 16, 17, 18, 19, 20, 21, 22, 23, 24, 25, 26, 27, 28] (by decide +kernel) (by decide +kernel)) (goodIn_sub (fun _ h => List.mem_cons_of_mem _ (List.mem_append_right _ h)) (by decide +kernel))
set_option maxRecDepth 20000 in
theorem gX5_cameAt_X5_cameBehind : GoodIn wsX5_cameAt (wsV RX5 88 RX5 yX5_cameBehind wsX5_cameBehind) := goodIn_app (goodIn_of _ (by decide +kernel)) ggX5_cameAt_X5_cameBehind
theorem dX5_cameAt_0 : decode cX5_cameAt 0 = .ok (.aload_n 0, 1) := by decide +kernel
theorem dX5_cameAt_1 : decode cX5_cameAt 1 = .ok (.iload_n 1, 1) := by decide +kernel
theorem dX5_cameAt_2 : decode cX5_cameAt 2 = .ok (.invokestatic 46, 3) := by decide +kernel
theorem dX5_cameAt_5 : decode cX5_cameAt 5 = .ok (.ifCond .ne 7, 3) := by decide +kernel
theorem dX5_cameAt_8 : decode cX5_cameAt 8 = .ok (.iconst 1, 1) := by decide +kernel
theorem dX5_cameAt_9 : decode cX5_cameAt 9 = .ok (.goto 4, 3) := by decide +kernel
theorem dX5_cameAt_12 : decode cX5_cameAt 12 = .ok (.iconst 0, 1) := by decide +kernel
theorem dX5_cameAt_13 : decode cX5_cameAt 13 = .ok (.iconst 1, 1) := by decide +kernel
theorem dX5_cameAt_14 : decode cX5_cameAt 14 = .ok (.invokevirtual 50, 3) := by decide +kernel
theorem dX5_cameAt_17 : decode cX5_cameAt 17 = .ok (.ifCond .eq 5, 3) := by decide +kernel
theorem dX5_cameAt_20 : decode cX5_cameAt 20 = .ok (.iconst 0, 1) := by decide +kernel
theorem dX5_cameAt_21 : decode cX5_cameAt 21 = .ok (.ireturn, 1) := by decide +kernel
theorem dX5_cameAt_22 : decode cX5_cameAt 22 = .ok (.aload_n 0, 1) := by decide +kernel
theorem dX5_cameAt_23 : decode cX5_cameAt 23 = .ok (.iload_n 1, 1) := by decide +kernel
theorem dX5_cameAt_24 : decode cX5_cameAt 24 = .ok (.iconst (-1), 1) := by decide +kernel
theorem dX5_cameAt_25 : decode cX5_cameAt 25 = .ok (.invokevirtual 88, 3) := by decide +kernel
theorem dX5_cameAt_28 : decode cX5_cameAt 28 = .ok (.istore_n 3, 1) := by decide +kernel
theorem dX5_cameAt_29 : decode cX5_cameAt 29 = .ok (.iconst 0, 1) := by decide +kernel
theorem dX5_cameAt_30 : decode cX5_cameAt 30 = .ok (.istore 4, 2) := by decide +kernel
theorem dX5_cameAt_32 : decode cX5_cameAt 32 = .ok (.iload 4, 2) := by decide +kernel
theorem dX5_cameAt_34 : decode cX5_cameAt 34 = .ok (.iload_n 2, 1) := by decide +kernel
theorem dX5_cameAt_35 : decode cX5_cameAt 35 = .ok (.if_icmp .ge 21, 3) := by decide +kernel
theorem dX5_cameAt_38 : decode cX5_cameAt 38 = .ok (.iload_n 3, 1) := by decide +kernel
theorem dX5_cameAt_39 : decode cX5_cameAt 39 = .ok (.iconst (-1), 1) := by decide +kernel
theorem dX5_cameAt_40 : decode cX5_cameAt 40 = .ok (.if_icmp .eq 16, 3) := by decide +kernel
theorem dX5_cameAt_43 : decode cX5_cameAt 43 = .ok (.aload_n 0, 1) := by decide +kernel
theorem dX5_cameAt_44 : decode cX5_cameAt 44 = .ok (.iload_n 1, 1) := by decide +kernel
theorem dX5_cameAt_45 : decode cX5_cameAt 45 = .ok (.iload_n 3, 1) := by decide +kernel
theorem dX5_cameAt_46 : decode cX5_cameAt 46 = .ok (.invokevirtual 88, 3) := by decide +kernel
theorem dX5_cameAt_49 : decode cX5_cameAt 49 = .ok (.istore_n 3, 1) := by decide +kernel
theorem dX5_cameAt_50 : decode cX5_cameAt 50 = .ok (.iinc 4 1, 3) := by decide +kernel
theorem dX5_cameAt_53 : decode cX5_cameAt 53 = .ok (.goto (-21), 3) := by decide +kernel
theorem dX5_cameAt_56 : decode cX5_cameAt 56 = .ok (.aload_n 0, 1) := by decide +kernel
theorem dX5_cameAt_57 : decode cX5_cameAt 57 = .ok (.iload_n 2, 1) := by decide +kernel
theorem dX5_cameAt_58 : decode cX5_cameAt 58 = .ok (.ifCond .lt 8, 3) := by decide +kernel
theorem dX5_cameAt_61 : decode cX5_cameAt 61 = .ok (.iload_n 3, 1) := by decide +kernel
theorem dX5_cameAt_62 : decode cX5_cameAt 62 = .ok (.iconst (-1), 1) := by decide +kernel
theorem dX5_cameAt_63 : decode cX5_cameAt 63 = .ok (.if_icmp .ne 7, 3) := by decide +kernel
theorem dX5_cameAt_66 : decode cX5_cameAt 66 = .ok (.iconst 1, 1) := by decide +kernel
theorem dX5_cameAt_67 : decode cX5_cameAt 67 = .ok (.goto 4, 3) := by decide +kernel
theorem dX5_cameAt_70 : decode cX5_cameAt 70 = .ok (.iconst 0, 1) := by decide +kernel
theorem dX5_cameAt_71 : decode cX5_cameAt 71 = .ok (.iconst 2, 1) := by decide +kernel
theorem dX5_cameAt_72 : decode cX5_cameAt 72 = .ok (.invokevirtual 50, 3) := by decide +kernel
theorem dX5_cameAt_75 : decode cX5_cameAt 75 = .ok (.ifCond .eq 7, 3) := by decide +kernel
theorem dX5_cameAt_78 : decode cX5_cameAt 78 = .ok (.iconst 0, 1) := by decide +kernel
theorem dX5_cameAt_79 : decode cX5_cameAt 79 = .ok (.goto 4, 3) := by decide +kernel
theorem dX5_cameAt_82 : decode cX5_cameAt 82 = .ok (.iload_n 3, 1) := by decide +kernel
theorem dX5_cameAt_83 : decode cX5_cameAt 83 = .ok (.ireturn, 1) := by decide +kernel
set_option maxRecDepth 20000 in
theorem ggX5_nextTime_X5_isHouse : GoodIn wsX5_nextTime wsX5_isHouse := goodIn_r _ [7] (by decide +kernel) (by decide +kernel)
set_option maxRecDepth 20000 in
theorem gX5_nextTime_X5_isHouse : GoodIn wsX5_nextTime (va_wsS RX5 46 yX5_isHouse wsX5_isHouse) := goodIn_app (goodIn_of _ (by decide +kernel)) ggX5_nextTime_X5_isHouse
set_option maxRecDepth 20000 in
theorem ggX5_nextTime_X5_isThrown : GoodIn wsX5_nextTime wsX5_isThrown := goodIn_r _ [11, 12, 19, 20, 21, 22, 23, 24, 25, 26, 27, 28, 29] (by decide +kernel) (by decide +kernel)
set_option maxRecDepth 20000 in
theorem gX5_nextTime_X5_isThrown : GoodIn wsX5_nextTime (wsV RX5 50 RX5 yX5_isThrown wsX5_isThrown) := goodIn_app (goodIn_of _ (by decide +kernel)) ggX5_nextTime_X5_isThrown
set_option maxRecDepth 20000 in
theorem ggX5_nextTime_X5_isWaiting : GoodIn wsX5_nextTime wsX5_isWaiting := goodIn_ca (goodIn_r _ [16, 2, 17, 18, 19, 20, 21, 22, 23, 24, 25, 26, 27, 28, 29] (by decide +kernel) (by decide +kernel)) (goodIn_sub (fun _ h => List.mem_cons_of_mem _ (List.mem_append_right _ h)) (by decide +kernel))
set_option maxRecDepth 20000 in
theorem gX5_nextTime_X5_isWaiting : GoodIn wsX5_nextTime (wsV RX5 65 RX5 yX5_isWaiting wsX5_isWaiting) := goodIn_app (goodIn_of _ (by decide +kernel)) ggX5_nextTime_X5_isWaiting
theorem dX5_nextTime_0 : decode cX5_nextTime 0 = .ok (.aload_n 0, 1) := by decide +kernel
theorem dX5_nextTime_1 : decode cX5_nextTime 1 = .ok (.iload_n 1, 1) := by decide +kernel
theorem dX5_nextTime_2 : decode cX5_nextTime 2 = .ok (.invokestatic 46, 3) := by decide +kernel
theorem dX5_nextTime_5 : decode cX5_nextTime 5 = .ok (.ifCond .ne 7, 3) := by decide +kernel
theorem dX5_nextTime_8 : decode cX5_nextTime 8 = .ok (.iconst 1, 1) := by decide +kernel
theorem dX5_nextTime_9 : decode cX5_nextTime 9 = .ok (.goto 4, 3) := by decide +kernel
theorem dX5_nextTime_12 : decode cX5_nextTime 12 = .ok (.iconst 0, 1) := by decide +kernel
theorem dX5_nextTime_13 : decode cX5_nextTime 13 = .ok (.iconst 1, 1) := by decide +kernel
theorem dX5_nextTime_14 : decode cX5_nextTime 14 = .ok (.invokevirtual 50, 3) := by decide +kernel
theorem dX5_nextTime_17 : decode cX5_nextTime 17 = .ok (.ifCond .eq 5, 3) := by decide +kernel
theorem dX5_nextTime_20 : decode cX5_nextTime 20 = .ok (.iconst 0, 1) := by decide +kernel
theorem dX5_nextTime_21 : decode cX5_nextTime 21 = .ok (.ireturn, 1) := by decide +kernel
theorem dX5_nextTime_22 : decode cX5_nextTime 22 = .ok (.ldc 72, 2) := by decide +kernel
theorem dX5_nextTime_24 : decode cX5_nextTime 24 = .ok (.istore_n 3, 1) := by decide +kernel
theorem dX5_nextTime_25 : decode cX5_nextTime 25 = .ok (.iconst 0, 1) := by decide +kernel
theorem dX5_nextTime_26 : decode cX5_nextTime 26 = .ok (.istore 4, 2) := by decide +kernel
theorem dX5_nextTime_28 : decode cX5_nextTime 28 = .ok (.iload 4, 2) := by decide +kernel
theorem dX5_nextTime_30 : decode cX5_nextTime 30 = .ok (.aload_n 0, 1) := by decide +kernel
theorem dX5_nextTime_31 : decode cX5_nextTime 31 = .ok (.getfield 35, 3) := by decide +kernel
theorem dX5_nextTime_34 : decode cX5_nextTime 34 = .ok (.if_icmp .ge 53, 3) := by decide +kernel
theorem dX5_nextTime_37 : decode cX5_nextTime 37 = .ok (.aload_n 0, 1) := by decide +kernel
theorem dX5_nextTime_38 : decode cX5_nextTime 38 = .ok (.iload_n 1, 1) := by decide +kernel
theorem dX5_nextTime_39 : decode cX5_nextTime 39 = .ok (.iload 4, 2) := by decide +kernel
theorem dX5_nextTime_41 : decode cX5_nextTime 41 = .ok (.invokevirtual 65, 3) := by decide +kernel
theorem dX5_nextTime_44 : decode cX5_nextTime 44 = .ok (.ifCond .eq 35, 3) := by decide +kernel
theorem dX5_nextTime_47 : decode cX5_nextTime 47 = .ok (.aload_n 0, 1) := by decide +kernel
theorem dX5_nextTime_48 : decode cX5_nextTime 48 = .ok (.getfield 7, 3) := by decide +kernel
theorem dX5_nextTime_51 : decode cX5_nextTime 51 = .ok (.iload 4, 2) := by decide +kernel
theorem dX5_nextTime_53 : decode cX5_nextTime 53 = .ok (.iaload, 1) := by decide +kernel
theorem dX5_nextTime_54 : decode cX5_nextTime 54 = .ok (.iload_n 2, 1) := by decide +kernel
theorem dX5_nextTime_55 : decode cX5_nextTime 55 = .ok (.if_icmp .lt 24, 3) := by decide +kernel
theorem dX5_nextTime_58 : decode cX5_nextTime 58 = .ok (.aload_n 0, 1) := by decide +kernel
theorem dX5_nextTime_59 : decode cX5_nextTime 59 = .ok (.getfield 7, 3) := by decide +kernel
theorem dX5_nextTime_62 : decode cX5_nextTime 62 = .ok (.iload 4, 2) := by decide +kernel
theorem dX5_nextTime_64 : decode cX5_nextTime 64 = .ok (.iaload, 1) := by decide +kernel
theorem dX5_nextTime_65 : decode cX5_nextTime 65 = .ok (.iload_n 3, 1) := by decide +kernel
theorem dX5_nextTime_66 : decode cX5_nextTime 66 = .ok (.if_icmp .ge 13, 3) := by decide +kernel
theorem dX5_nextTime_69 : decode cX5_nextTime 69 = .ok (.aload_n 0, 1) := by decide +kernel
theorem dX5_nextTime_70 : decode cX5_nextTime 70 = .ok (.getfield 7, 3) := by decide +kernel
theorem dX5_nextTime_73 : decode cX5_nextTime 73 = .ok (.iload 4, 2) := by decide +kernel
theorem dX5_nextTime_75 : decode cX5_nextTime 75 = .ok (.iaload, 1) := by decide +kernel
theorem dX5_nextTime_76 : decode cX5_nextTime 76 = .ok (.goto 4, 3) := by decide +kernel
theorem dX5_nextTime_79 : decode cX5_nextTime 79 = .ok (.iload_n 3, 1) := by decide +kernel
theorem dX5_nextTime_80 : decode cX5_nextTime 80 = .ok (.istore_n 3, 1) := by decide +kernel
theorem dX5_nextTime_81 : decode cX5_nextTime 81 = .ok (.iinc 4 1, 3) := by decide +kernel
theorem dX5_nextTime_84 : decode cX5_nextTime 84 = .ok (.goto (-56), 3) := by decide +kernel
theorem dX5_nextTime_87 : decode cX5_nextTime 87 = .ok (.aload_n 0, 1) := by decide +kernel
theorem dX5_nextTime_88 : decode cX5_nextTime 88 = .ok (.iload_n 3, 1) := by decide +kernel
theorem dX5_nextTime_89 : decode cX5_nextTime 89 = .ok (.ldc 72, 2) := by decide +kernel
theorem dX5_nextTime_91 : decode cX5_nextTime 91 = .ok (.if_icmp .ne 7, 3) := by decide +kernel
theorem dX5_nextTime_94 : decode cX5_nextTime 94 = .ok (.iconst 1, 1) := by decide +kernel
theorem dX5_nextTime_95 : decode cX5_nextTime 95 = .ok (.goto 4, 3) := by decide +kernel
theorem dX5_nextTime_98 : decode cX5_nextTime 98 = .ok (.iconst 0, 1) := by decide +kernel
theorem dX5_nextTime_99 : decode cX5_nextTime 99 = .ok (.iconst 2, 1) := by decide +kernel
theorem dX5_nextTime_100 : decode cX5_nextTime 100 = .ok (.invokevirtual 50, 3) := by decide +kernel
theorem dX5_nextTime_103 : decode cX5_nextTime 103 = .ok (.ifCond .eq 7, 3) := by decide +kernel
theorem dX5_nextTime_106 : decode cX5_nextTime 106 = .ok (.iconst 0, 1) := by decide +kernel
theorem dX5_nextTime_107 : decode cX5_nextTime 107 = .ok (.goto 4, 3) := by decide +kernel
theorem dX5_nextTime_110 : decode cX5_nextTime 110 = .ok (.iload_n 3, 1) := by decide +kernel
theorem dX5_nextTime_111 : decode cX5_nextTime 111 = .ok (.ireturn, 1) := by decide +kernel
set_option maxRecDepth 20000 in
theorem ggX5_about_X5_isThrown : GoodIn wsX5_about wsX5_isThrown := goodIn_r _ [11, 12, 13, 14, 15, 16, 17, 18, 19, 20, 21, 22, 23] (by decide +kernel) (by decide +kernel)
set_option maxRecDepth 20000 in
theorem gX5_about_X5_isThrown : GoodIn wsX5_about (wsV RX5 50 RX5 yX5_isThrown wsX5_isThrown) := goodIn_app (goodIn_of _ (by decide +kernel)) ggX5_about_X5_isThrown
theorem dX5_about_0 : decode cX5_about 0 = .ok (.aload_n 0, 1) := by decide +kernel
theorem dX5_about_1 : decode cX5_about 1 = .ok (.iload_n 1, 1) := by decide +kernel
theorem dX5_about_2 : decode cX5_about 2 = .ok (.ifCond .lt 11, 3) := by decide +kernel
theorem dX5_about_5 : decode cX5_about 5 = .ok (.iload_n 1, 1) := by decide +kernel
theorem dX5_about_6 : decode cX5_about 6 = .ok (.aload_n 0, 1) := by decide +kernel
theorem dX5_about_7 : decode cX5_about 7 = .ok (.getfield 35, 3) := by decide +kernel
theorem dX5_about_10 : decode cX5_about 10 = .ok (.if_icmp .lt 7, 3) := by decide +kernel
theorem dX5_about_13 : decode cX5_about 13 = .ok (.iconst 1, 1) := by decide +kernel
theorem dX5_about_14 : decode cX5_about 14 = .ok (.goto 4, 3) := by decide +kernel
theorem dX5_about_17 : decode cX5_about 17 = .ok (.iconst 0, 1) := by decide +kernel
theorem dX5_about_18 : decode cX5_about 18 = .ok (.iconst 1, 1) := by decide +kernel
theorem dX5_about_19 : decode cX5_about 19 = .ok (.invokevirtual 50, 3) := by decide +kernel
theorem dX5_about_22 : decode cX5_about 22 = .ok (.ifCond .ne 46, 3) := by decide +kernel
theorem dX5_about_25 : decode cX5_about 25 = .ok (.aload_n 0, 1) := by decide +kernel
theorem dX5_about_26 : decode cX5_about 26 = .ok (.iload_n 2, 1) := by decide +kernel
theorem dX5_about_27 : decode cX5_about 27 = .ok (.bipush 116, 2) := by decide +kernel
theorem dX5_about_29 : decode cX5_about 29 = .ok (.if_icmp .eq 31, 3) := by decide +kernel
theorem dX5_about_32 : decode cX5_about 32 = .ok (.iload_n 2, 1) := by decide +kernel
theorem dX5_about_33 : decode cX5_about 33 = .ok (.bipush 115, 2) := by decide +kernel
theorem dX5_about_35 : decode cX5_about 35 = .ok (.if_icmp .eq 25, 3) := by decide +kernel
theorem dX5_about_38 : decode cX5_about 38 = .ok (.iload_n 2, 1) := by decide +kernel
theorem dX5_about_39 : decode cX5_about 39 = .ok (.bipush 119, 2) := by decide +kernel
theorem dX5_about_41 : decode cX5_about 41 = .ok (.if_icmp .eq 19, 3) := by decide +kernel
theorem dX5_about_44 : decode cX5_about 44 = .ok (.iload_n 2, 1) := by decide +kernel
theorem dX5_about_45 : decode cX5_about 45 = .ok (.bipush 104, 2) := by decide +kernel
theorem dX5_about_47 : decode cX5_about 47 = .ok (.if_icmp .eq 13, 3) := by decide +kernel
theorem dX5_about_50 : decode cX5_about 50 = .ok (.iload_n 2, 1) := by decide +kernel
theorem dX5_about_51 : decode cX5_about 51 = .ok (.bipush 120, 2) := by decide +kernel
theorem dX5_about_53 : decode cX5_about 53 = .ok (.if_icmp .eq 7, 3) := by decide +kernel
theorem dX5_about_56 : decode cX5_about 56 = .ok (.iconst 1, 1) := by decide +kernel
theorem dX5_about_57 : decode cX5_about 57 = .ok (.goto 4, 3) := by decide +kernel
theorem dX5_about_60 : decode cX5_about 60 = .ok (.iconst 0, 1) := by decide +kernel
theorem dX5_about_61 : decode cX5_about 61 = .ok (.iconst 2, 1) := by decide +kernel
theorem dX5_about_62 : decode cX5_about 62 = .ok (.invokevirtual 50, 3) := by decide +kernel
theorem dX5_about_65 : decode cX5_about 65 = .ok (.ifCond .eq 5, 3) := by decide +kernel
theorem dX5_about_68 : decode cX5_about 68 = .ok (.lconst 0, 1) := by decide +kernel
theorem dX5_about_69 : decode cX5_about 69 = .ok (.lreturn, 1) := by decide +kernel
theorem dX5_about_70 : decode cX5_about 70 = .ok (.iload_n 2, 1) := by decide +kernel
theorem dX5_about_71 : decode cX5_about 71 = .ok (.bipush 116, 2) := by decide +kernel
theorem dX5_about_73 : decode cX5_about 73 = .ok (.if_icmp .ne 13, 3) := by decide +kernel
theorem dX5_about_76 : decode cX5_about 76 = .ok (.aload_n 0, 1) := by decide +kernel
theorem dX5_about_77 : decode cX5_about 77 = .ok (.getfield 7, 3) := by decide +kernel
theorem dX5_about_80 : decode cX5_about 80 = .ok (.iload_n 1, 1) := by decide +kernel
theorem dX5_about_81 : decode cX5_about 81 = .ok (.iaload, 1) := by decide +kernel
theorem dX5_about_82 : decode cX5_about 82 = .ok (.i2l, 1) := by decide +kernel
theorem dX5_about_83 : decode cX5_about 83 = .ok (.goto 58, 3) := by decide +kernel
theorem dX5_about_86 : decode cX5_about 86 = .ok (.iload_n 2, 1) := by decide +kernel
theorem dX5_about_87 : decode cX5_about 87 = .ok (.bipush 115, 2) := by decide +kernel
theorem dX5_about_89 : decode cX5_about 89 = .ok (.if_icmp .ne 13, 3) := by decide +kernel
theorem dX5_about_92 : decode cX5_about 92 = .ok (.aload_n 0, 1) := by decide +kernel
theorem dX5_about_93 : decode cX5_about 93 = .ok (.getfield 13, 3) := by decide +kernel
theorem dX5_about_96 : decode cX5_about 96 = .ok (.iload_n 1, 1) := by decide +kernel
theorem dX5_about_97 : decode cX5_about 97 = .ok (.iaload, 1) := by decide +kernel
theorem dX5_about_98 : decode cX5_about 98 = .ok (.i2l, 1) := by decide +kernel
theorem dX5_about_99 : decode cX5_about 99 = .ok (.goto 42, 3) := by decide +kernel
theorem dX5_about_102 : decode cX5_about 102 = .ok (.iload_n 2, 1) := by decide +kernel
theorem dX5_about_103 : decode cX5_about 103 = .ok (.bipush 119, 2) := by decide +kernel
theorem dX5_about_105 : decode cX5_about 105 = .ok (.if_icmp .ne 13, 3) := by decide +kernel
theorem dX5_about_108 : decode cX5_about 108 = .ok (.aload_n 0, 1) := by decide +kernel
theorem dX5_about_109 : decode cX5_about 109 = .ok (.getfield 16, 3) := by decide +kernel
theorem dX5_about_112 : decode cX5_about 112 = .ok (.iload_n 1, 1) := by decide +kernel
theorem dX5_about_113 : decode cX5_about 113 = .ok (.iaload, 1) := by decide +kernel
theorem dX5_about_114 : decode cX5_about 114 = .ok (.i2l, 1) := by decide +kernel
theorem dX5_about_115 : decode cX5_about 115 = .ok (.goto 26, 3) := by decide +kernel
theorem dX5_about_118 : decode cX5_about 118 = .ok (.iload_n 2, 1) := by decide +kernel
theorem dX5_about_119 : decode cX5_about 119 = .ok (.bipush 104, 2) := by decide +kernel
theorem dX5_about_121 : decode cX5_about 121 = .ok (.if_icmp .ne 13, 3) := by decide +kernel
theorem dX5_about_124 : decode cX5_about 124 = .ok (.aload_n 0, 1) := by decide +kernel
theorem dX5_about_125 : decode cX5_about 125 = .ok (.getfield 19, 3) := by decide +kernel
theorem dX5_about_128 : decode cX5_about 128 = .ok (.iload_n 1, 1) := by decide +kernel
theorem dX5_about_129 : decode cX5_about 129 = .ok (.iaload, 1) := by decide +kernel
theorem dX5_about_130 : decode cX5_about 130 = .ok (.i2l, 1) := by decide +kernel
theorem dX5_about_131 : decode cX5_about 131 = .ok (.goto 10, 3) := by decide +kernel
theorem dX5_about_134 : decode cX5_about 134 = .ok (.aload_n 0, 1) := by decide +kernel
theorem dX5_about_135 : decode cX5_about 135 = .ok (.getfield 22, 3) := by decide +kernel
theorem dX5_about_138 : decode cX5_about 138 = .ok (.iload_n 1, 1) := by decide +kernel
theorem dX5_about_139 : decode cX5_about 139 = .ok (.iaload, 1) := by decide +kernel
theorem dX5_about_140 : decode cX5_about 140 = .ok (.i2l, 1) := by decide +kernel
theorem dX5_about_141 : decode cX5_about 141 = .ok (.lreturn, 1) := by decide +kernel
theorem dX5_isOf_0 : decode cX5_isOf 0 = .ok (.aload_n 0, 1) := by decide +kernel
theorem dX5_isOf_1 : decode cX5_isOf 1 = .ok (.getfield 19, 3) := by decide +kernel
theorem dX5_isOf_4 : decode cX5_isOf 4 = .ok (.iload_n 2, 1) := by decide +kernel
theorem dX5_isOf_5 : decode cX5_isOf 5 = .ok (.iaload, 1) := by decide +kernel
theorem dX5_isOf_6 : decode cX5_isOf 6 = .ok (.iload_n 1, 1) := by decide +kernel
theorem dX5_isOf_7 : decode cX5_isOf 7 = .ok (.if_icmp .ne 26, 3) := by decide +kernel
theorem dX5_isOf_10 : decode cX5_isOf 10 = .ok (.aload_n 0, 1) := by decide +kernel
theorem dX5_isOf_11 : decode cX5_isOf 11 = .ok (.getfield 22, 3) := by decide +kernel
theorem dX5_isOf_14 : decode cX5_isOf 14 = .ok (.iload_n 2, 1) := by decide +kernel
theorem dX5_isOf_15 : decode cX5_isOf 15 = .ok (.iaload, 1) := by decide +kernel
theorem dX5_isOf_16 : decode cX5_isOf 16 = .ok (.iconst 1, 1) := by decide +kernel
theorem dX5_isOf_17 : decode cX5_isOf 17 = .ok (.if_icmp .ne 16, 3) := by decide +kernel
theorem dX5_isOf_20 : decode cX5_isOf 20 = .ok (.aload_n 0, 1) := by decide +kernel
theorem dX5_isOf_21 : decode cX5_isOf 21 = .ok (.getfield 13, 3) := by decide +kernel
theorem dX5_isOf_24 : decode cX5_isOf 24 = .ok (.iload_n 2, 1) := by decide +kernel
theorem dX5_isOf_25 : decode cX5_isOf 25 = .ok (.iaload, 1) := by decide +kernel
theorem dX5_isOf_26 : decode cX5_isOf 26 = .ok (.ifCond .le 7, 3) := by decide +kernel
theorem dX5_isOf_29 : decode cX5_isOf 29 = .ok (.iconst 1, 1) := by decide +kernel
theorem dX5_isOf_30 : decode cX5_isOf 30 = .ok (.goto 4, 3) := by decide +kernel
theorem dX5_isOf_33 : decode cX5_isOf 33 = .ok (.iconst 0, 1) := by decide +kernel
theorem dX5_isOf_34 : decode cX5_isOf 34 = .ok (.ireturn, 1) := by decide +kernel
set_option maxRecDepth 20000 in
theorem ggX5_crowdAt_X5_isOf : GoodIn wsX5_crowdAt wsX5_isOf := goodIn_ca (goodIn_r _ [9, 10, 11, 3, 12, 13, 14, 15, 16, 17, 18, 19, 20, 21, 22] (by decide +kernel) (by decide +kernel)) (goodIn_sub (fun _ h => List.mem_cons_of_mem _ (List.mem_append_right _ h)) (by decide +kernel))
set_option maxRecDepth 20000 in
theorem gX5_crowdAt_X5_isOf : GoodIn wsX5_crowdAt (wsV RX5 91 RX5 yX5_isOf wsX5_isOf) := goodIn_app (goodIn_of _ (by decide +kernel)) ggX5_crowdAt_X5_isOf
theorem dX5_crowdAt_0 : decode cX5_crowdAt 0 = .ok (.iconst 0, 1) := by decide +kernel
theorem dX5_crowdAt_1 : decode cX5_crowdAt 1 = .ok (.istore_n 3, 1) := by decide +kernel
theorem dX5_crowdAt_2 : decode cX5_crowdAt 2 = .ok (.iconst 0, 1) := by decide +kernel
theorem dX5_crowdAt_3 : decode cX5_crowdAt 3 = .ok (.istore 4, 2) := by decide +kernel
theorem dX5_crowdAt_5 : decode cX5_crowdAt 5 = .ok (.iload 4, 2) := by decide +kernel
theorem dX5_crowdAt_7 : decode cX5_crowdAt 7 = .ok (.aload_n 0, 1) := by decide +kernel
theorem dX5_crowdAt_8 : decode cX5_crowdAt 8 = .ok (.getfield 35, 3) := by decide +kernel
theorem dX5_crowdAt_11 : decode cX5_crowdAt 11 = .ok (.if_icmp .ge 63, 3) := by decide +kernel
theorem dX5_crowdAt_14 : decode cX5_crowdAt 14 = .ok (.iload_n 3, 1) := by decide +kernel
theorem dX5_crowdAt_15 : decode cX5_crowdAt 15 = .ok (.aload_n 0, 1) := by decide +kernel
theorem dX5_crowdAt_16 : decode cX5_crowdAt 16 = .ok (.iload_n 1, 1) := by decide +kernel
theorem dX5_crowdAt_17 : decode cX5_crowdAt 17 = .ok (.iload 4, 2) := by decide +kernel
theorem dX5_crowdAt_19 : decode cX5_crowdAt 19 = .ok (.invokevirtual 91, 3) := by decide +kernel
theorem dX5_crowdAt_22 : decode cX5_crowdAt 22 = .ok (.ifCond .eq 43, 3) := by decide +kernel
theorem dX5_crowdAt_25 : decode cX5_crowdAt 25 = .ok (.aload_n 0, 1) := by decide +kernel
theorem dX5_crowdAt_26 : decode cX5_crowdAt 26 = .ok (.getfield 7, 3) := by decide +kernel
theorem dX5_crowdAt_29 : decode cX5_crowdAt 29 = .ok (.iload 4, 2) := by decide +kernel
theorem dX5_crowdAt_31 : decode cX5_crowdAt 31 = .ok (.iaload, 1) := by decide +kernel
theorem dX5_crowdAt_32 : decode cX5_crowdAt 32 = .ok (.iload_n 2, 1) := by decide +kernel
theorem dX5_crowdAt_33 : decode cX5_crowdAt 33 = .ok (.if_icmp .gt 32, 3) := by decide +kernel
theorem dX5_crowdAt_36 : decode cX5_crowdAt 36 = .ok (.iload_n 2, 1) := by decide +kernel
theorem dX5_crowdAt_37 : decode cX5_crowdAt 37 = .ok (.aload_n 0, 1) := by decide +kernel
theorem dX5_crowdAt_38 : decode cX5_crowdAt 38 = .ok (.getfield 7, 3) := by decide +kernel
theorem dX5_crowdAt_41 : decode cX5_crowdAt 41 = .ok (.iload 4, 2) := by decide +kernel
theorem dX5_crowdAt_43 : decode cX5_crowdAt 43 = .ok (.iaload, 1) := by decide +kernel
theorem dX5_crowdAt_44 : decode cX5_crowdAt 44 = .ok (.aload_n 0, 1) := by decide +kernel
theorem dX5_crowdAt_45 : decode cX5_crowdAt 45 = .ok (.getfield 13, 3) := by decide +kernel
theorem dX5_crowdAt_48 : decode cX5_crowdAt 48 = .ok (.iload 4, 2) := by decide +kernel
theorem dX5_crowdAt_50 : decode cX5_crowdAt 50 = .ok (.iaload, 1) := by decide +kernel
theorem dX5_crowdAt_51 : decode cX5_crowdAt 51 = .ok (.iadd, 1) := by decide +kernel
theorem dX5_crowdAt_52 : decode cX5_crowdAt 52 = .ok (.if_icmp .ge 13, 3) := by decide +kernel
theorem dX5_crowdAt_55 : decode cX5_crowdAt 55 = .ok (.aload_n 0, 1) := by decide +kernel
theorem dX5_crowdAt_56 : decode cX5_crowdAt 56 = .ok (.getfield 16, 3) := by decide +kernel
theorem dX5_crowdAt_59 : decode cX5_crowdAt 59 = .ok (.iload 4, 2) := by decide +kernel
theorem dX5_crowdAt_61 : decode cX5_crowdAt 61 = .ok (.iaload, 1) := by decide +kernel
theorem dX5_crowdAt_62 : decode cX5_crowdAt 62 = .ok (.goto 4, 3) := by decide +kernel
theorem dX5_crowdAt_65 : decode cX5_crowdAt 65 = .ok (.iconst 0, 1) := by decide +kernel
theorem dX5_crowdAt_66 : decode cX5_crowdAt 66 = .ok (.iadd, 1) := by decide +kernel
theorem dX5_crowdAt_67 : decode cX5_crowdAt 67 = .ok (.istore_n 3, 1) := by decide +kernel
theorem dX5_crowdAt_68 : decode cX5_crowdAt 68 = .ok (.iinc 4 1, 3) := by decide +kernel
theorem dX5_crowdAt_71 : decode cX5_crowdAt 71 = .ok (.goto (-66), 3) := by decide +kernel
theorem dX5_crowdAt_74 : decode cX5_crowdAt 74 = .ok (.iload_n 3, 1) := by decide +kernel
theorem dX5_crowdAt_75 : decode cX5_crowdAt 75 = .ok (.ireturn, 1) := by decide +kernel
set_option maxRecDepth 20000 in
theorem ggX5_changeAt_X5_isOf : GoodIn wsX5_changeAt wsX5_isOf := goodIn_ca (goodIn_r _ [9, 10, 11, 4, 12, 13, 14, 15, 16, 17, 18, 19, 20, 21, 22] (by decide +kernel) (by decide +kernel)) (goodIn_sub (fun _ h => List.mem_cons_of_mem _ (List.mem_append_right _ h)) (by decide +kernel))
set_option maxRecDepth 20000 in
theorem gX5_changeAt_X5_isOf : GoodIn wsX5_changeAt (wsV RX5 91 RX5 yX5_isOf wsX5_isOf) := goodIn_app (goodIn_of _ (by decide +kernel)) ggX5_changeAt_X5_isOf
theorem dX5_changeAt_0 : decode cX5_changeAt 0 = .ok (.iconst 0, 1) := by decide +kernel
theorem dX5_changeAt_1 : decode cX5_changeAt 1 = .ok (.istore_n 3, 1) := by decide +kernel
theorem dX5_changeAt_2 : decode cX5_changeAt 2 = .ok (.iconst 0, 1) := by decide +kernel
theorem dX5_changeAt_3 : decode cX5_changeAt 3 = .ok (.istore 4, 2) := by decide +kernel
theorem dX5_changeAt_5 : decode cX5_changeAt 5 = .ok (.iload 4, 2) := by decide +kernel
theorem dX5_changeAt_7 : decode cX5_changeAt 7 = .ok (.aload_n 0, 1) := by decide +kernel
theorem dX5_changeAt_8 : decode cX5_changeAt 8 = .ok (.getfield 35, 3) := by decide +kernel
theorem dX5_changeAt_11 : decode cX5_changeAt 11 = .ok (.if_icmp .ge 87, 3) := by decide +kernel
theorem dX5_changeAt_14 : decode cX5_changeAt 14 = .ok (.iload_n 3, 1) := by decide +kernel
theorem dX5_changeAt_15 : decode cX5_changeAt 15 = .ok (.aload_n 0, 1) := by decide +kernel
theorem dX5_changeAt_16 : decode cX5_changeAt 16 = .ok (.iload_n 1, 1) := by decide +kernel
theorem dX5_changeAt_17 : decode cX5_changeAt 17 = .ok (.iload 4, 2) := by decide +kernel
theorem dX5_changeAt_19 : decode cX5_changeAt 19 = .ok (.invokevirtual 91, 3) := by decide +kernel
theorem dX5_changeAt_22 : decode cX5_changeAt 22 = .ok (.ifCond .eq 24, 3) := by decide +kernel
theorem dX5_changeAt_25 : decode cX5_changeAt 25 = .ok (.aload_n 0, 1) := by decide +kernel
theorem dX5_changeAt_26 : decode cX5_changeAt 26 = .ok (.getfield 7, 3) := by decide +kernel
theorem dX5_changeAt_29 : decode cX5_changeAt 29 = .ok (.iload 4, 2) := by decide +kernel
theorem dX5_changeAt_31 : decode cX5_changeAt 31 = .ok (.iaload, 1) := by decide +kernel
theorem dX5_changeAt_32 : decode cX5_changeAt 32 = .ok (.iload_n 2, 1) := by decide +kernel
theorem dX5_changeAt_33 : decode cX5_changeAt 33 = .ok (.if_icmp .ne 13, 3) := by decide +kernel
theorem dX5_changeAt_36 : decode cX5_changeAt 36 = .ok (.aload_n 0, 1) := by decide +kernel
theorem dX5_changeAt_37 : decode cX5_changeAt 37 = .ok (.getfield 16, 3) := by decide +kernel
theorem dX5_changeAt_40 : decode cX5_changeAt 40 = .ok (.iload 4, 2) := by decide +kernel
theorem dX5_changeAt_42 : decode cX5_changeAt 42 = .ok (.iaload, 1) := by decide +kernel
theorem dX5_changeAt_43 : decode cX5_changeAt 43 = .ok (.goto 4, 3) := by decide +kernel
theorem dX5_changeAt_46 : decode cX5_changeAt 46 = .ok (.iconst 0, 1) := by decide +kernel
theorem dX5_changeAt_47 : decode cX5_changeAt 47 = .ok (.iadd, 1) := by decide +kernel
theorem dX5_changeAt_48 : decode cX5_changeAt 48 = .ok (.istore_n 3, 1) := by decide +kernel
theorem dX5_changeAt_49 : decode cX5_changeAt 49 = .ok (.iload_n 3, 1) := by decide +kernel
theorem dX5_changeAt_50 : decode cX5_changeAt 50 = .ok (.aload_n 0, 1) := by decide +kernel
theorem dX5_changeAt_51 : decode cX5_changeAt 51 = .ok (.iload_n 1, 1) := by decide +kernel
theorem dX5_changeAt_52 : decode cX5_changeAt 52 = .ok (.iload 4, 2) := by decide +kernel
theorem dX5_changeAt_54 : decode cX5_changeAt 54 = .ok (.invokevirtual 91, 3) := by decide +kernel
theorem dX5_changeAt_57 : decode cX5_changeAt 57 = .ok (.ifCond .eq 32, 3) := by decide +kernel
theorem dX5_changeAt_60 : decode cX5_changeAt 60 = .ok (.aload_n 0, 1) := by decide +kernel
theorem dX5_changeAt_61 : decode cX5_changeAt 61 = .ok (.getfield 7, 3) := by decide +kernel
theorem dX5_changeAt_64 : decode cX5_changeAt 64 = .ok (.iload 4, 2) := by decide +kernel
theorem dX5_changeAt_66 : decode cX5_changeAt 66 = .ok (.iaload, 1) := by decide +kernel
theorem dX5_changeAt_67 : decode cX5_changeAt 67 = .ok (.aload_n 0, 1) := by decide +kernel
theorem dX5_changeAt_68 : decode cX5_changeAt 68 = .ok (.getfield 13, 3) := by decide +kernel
theorem dX5_changeAt_71 : decode cX5_changeAt 71 = .ok (.iload 4, 2) := by decide +kernel
theorem dX5_changeAt_73 : decode cX5_changeAt 73 = .ok (.iaload, 1) := by decide +kernel
theorem dX5_changeAt_74 : decode cX5_changeAt 74 = .ok (.iadd, 1) := by decide +kernel
theorem dX5_changeAt_75 : decode cX5_changeAt 75 = .ok (.iload_n 2, 1) := by decide +kernel
theorem dX5_changeAt_76 : decode cX5_changeAt 76 = .ok (.if_icmp .ne 13, 3) := by decide +kernel
theorem dX5_changeAt_79 : decode cX5_changeAt 79 = .ok (.aload_n 0, 1) := by decide +kernel
theorem dX5_changeAt_80 : decode cX5_changeAt 80 = .ok (.getfield 16, 3) := by decide +kernel
theorem dX5_changeAt_83 : decode cX5_changeAt 83 = .ok (.iload 4, 2) := by decide +kernel
theorem dX5_changeAt_85 : decode cX5_changeAt 85 = .ok (.iaload, 1) := by decide +kernel
theorem dX5_changeAt_86 : decode cX5_changeAt 86 = .ok (.goto 4, 3) := by decide +kernel
theorem dX5_changeAt_89 : decode cX5_changeAt 89 = .ok (.iconst 0, 1) := by decide +kernel
theorem dX5_changeAt_90 : decode cX5_changeAt 90 = .ok (.isub, 1) := by decide +kernel
theorem dX5_changeAt_91 : decode cX5_changeAt 91 = .ok (.istore_n 3, 1) := by decide +kernel
theorem dX5_changeAt_92 : decode cX5_changeAt 92 = .ok (.iinc 4 1, 3) := by decide +kernel
theorem dX5_changeAt_95 : decode cX5_changeAt 95 = .ok (.goto (-90), 3) := by decide +kernel
theorem dX5_changeAt_98 : decode cX5_changeAt 98 = .ok (.iload_n 3, 1) := by decide +kernel
theorem dX5_changeAt_99 : decode cX5_changeAt 99 = .ok (.ireturn, 1) := by decide +kernel
set_option maxRecDepth 20000 in
theorem ggX5_busyFrom_X5_crowdAt : GoodIn wsX5_busyFrom wsX5_crowdAt := goodIn_ca (goodIn_r _ [8, 2, 3, 9, 10, 11, 12, 13, 7, 14, 15, 16, 17, 18, 19, 20, 21, 22, 23, 24, 25, 26, 27] (by decide +kernel) (by decide +kernel)) (goodIn_sub (fun _ h => List.mem_cons_of_mem _ (List.mem_append_right _ h)) (by decide +kernel))
set_option maxRecDepth 20000 in
theorem gX5_busyFrom_X5_crowdAt : GoodIn wsX5_busyFrom (wsV RX5 94 RX5 yX5_crowdAt wsX5_crowdAt) := goodIn_app (goodIn_of _ (by decide +kernel)) ggX5_busyFrom_X5_crowdAt
set_option maxRecDepth 20000 in
theorem ggX5_busyFrom_X5_isOf : GoodIn wsX5_busyFrom wsX5_isOf := goodIn_ca (goodIn_r _ [14, 15, 16, 9, 17, 18, 19, 20, 21, 22, 23, 24, 25, 26, 27] (by decide +kernel) (by decide +kernel)) (goodIn_sub (fun _ h => List.mem_cons_of_mem _ (List.mem_append_right _ h)) (by decide +kernel))
set_option maxRecDepth 20000 in
theorem gX5_busyFrom_X5_isOf : GoodIn wsX5_busyFrom (wsV RX5 91 RX5 yX5_isOf wsX5_isOf) := goodIn_app (goodIn_of _ (by decide +kernel)) ggX5_busyFrom_X5_isOf
theorem dX5_busyFrom_0 : decode cX5_busyFrom 0 = .ok (.aload_n 0, 1) := by decide +kernel
theorem dX5_busyFrom_1 : decode cX5_busyFrom 1 = .ok (.iload_n 1, 1) := by decide +kernel
theorem dX5_busyFrom_2 : decode cX5_busyFrom 2 = .ok (.iload_n 2, 1) := by decide +kernel
theorem dX5_busyFrom_3 : decode cX5_busyFrom 3 = .ok (.invokevirtual 94, 3) := by decide +kernel
theorem dX5_busyFrom_6 : decode cX5_busyFrom 6 = .ok (.ifCond .le 7, 3) := by decide +kernel
theorem dX5_busyFrom_9 : decode cX5_busyFrom 9 = .ok (.iload_n 2, 1) := by decide +kernel
theorem dX5_busyFrom_10 : decode cX5_busyFrom 10 = .ok (.goto 5, 3) := by decide +kernel
theorem dX5_busyFrom_13 : decode cX5_busyFrom 13 = .ok (.ldc 72, 2) := by decide +kernel
theorem dX5_busyFrom_15 : decode cX5_busyFrom 15 = .ok (.istore_n 3, 1) := by decide +kernel
theorem dX5_busyFrom_16 : decode cX5_busyFrom 16 = .ok (.iconst 0, 1) := by decide +kernel
theorem dX5_busyFrom_17 : decode cX5_busyFrom 17 = .ok (.istore 4, 2) := by decide +kernel
theorem dX5_busyFrom_19 : decode cX5_busyFrom 19 = .ok (.iload 4, 2) := by decide +kernel
theorem dX5_busyFrom_21 : decode cX5_busyFrom 21 = .ok (.aload_n 0, 1) := by decide +kernel
theorem dX5_busyFrom_22 : decode cX5_busyFrom 22 = .ok (.getfield 35, 3) := by decide +kernel
theorem dX5_busyFrom_25 : decode cX5_busyFrom 25 = .ok (.if_icmp .ge 53, 3) := by decide +kernel
theorem dX5_busyFrom_28 : decode cX5_busyFrom 28 = .ok (.aload_n 0, 1) := by decide +kernel
theorem dX5_busyFrom_29 : decode cX5_busyFrom 29 = .ok (.iload_n 1, 1) := by decide +kernel
theorem dX5_busyFrom_30 : decode cX5_busyFrom 30 = .ok (.iload 4, 2) := by decide +kernel
theorem dX5_busyFrom_32 : decode cX5_busyFrom 32 = .ok (.invokevirtual 91, 3) := by decide +kernel
theorem dX5_busyFrom_35 : decode cX5_busyFrom 35 = .ok (.ifCond .eq 35, 3) := by decide +kernel
theorem dX5_busyFrom_38 : decode cX5_busyFrom 38 = .ok (.aload_n 0, 1) := by decide +kernel
theorem dX5_busyFrom_39 : decode cX5_busyFrom 39 = .ok (.getfield 7, 3) := by decide +kernel
theorem dX5_busyFrom_42 : decode cX5_busyFrom 42 = .ok (.iload 4, 2) := by decide +kernel
theorem dX5_busyFrom_44 : decode cX5_busyFrom 44 = .ok (.iaload, 1) := by decide +kernel
theorem dX5_busyFrom_45 : decode cX5_busyFrom 45 = .ok (.iload_n 2, 1) := by decide +kernel
theorem dX5_busyFrom_46 : decode cX5_busyFrom 46 = .ok (.if_icmp .lt 24, 3) := by decide +kernel
theorem dX5_busyFrom_49 : decode cX5_busyFrom 49 = .ok (.aload_n 0, 1) := by decide +kernel
theorem dX5_busyFrom_50 : decode cX5_busyFrom 50 = .ok (.getfield 7, 3) := by decide +kernel
theorem dX5_busyFrom_53 : decode cX5_busyFrom 53 = .ok (.iload 4, 2) := by decide +kernel
theorem dX5_busyFrom_55 : decode cX5_busyFrom 55 = .ok (.iaload, 1) := by decide +kernel
theorem dX5_busyFrom_56 : decode cX5_busyFrom 56 = .ok (.iload_n 3, 1) := by decide +kernel
theorem dX5_busyFrom_57 : decode cX5_busyFrom 57 = .ok (.if_icmp .ge 13, 3) := by decide +kernel
theorem dX5_busyFrom_60 : decode cX5_busyFrom 60 = .ok (.aload_n 0, 1) := by decide +kernel
theorem dX5_busyFrom_61 : decode cX5_busyFrom 61 = .ok (.getfield 7, 3) := by decide +kernel
theorem dX5_busyFrom_64 : decode cX5_busyFrom 64 = .ok (.iload 4, 2) := by decide +kernel
theorem dX5_busyFrom_66 : decode cX5_busyFrom 66 = .ok (.iaload, 1) := by decide +kernel
theorem dX5_busyFrom_67 : decode cX5_busyFrom 67 = .ok (.goto 4, 3) := by decide +kernel
theorem dX5_busyFrom_70 : decode cX5_busyFrom 70 = .ok (.iload_n 3, 1) := by decide +kernel
theorem dX5_busyFrom_71 : decode cX5_busyFrom 71 = .ok (.istore_n 3, 1) := by decide +kernel
theorem dX5_busyFrom_72 : decode cX5_busyFrom 72 = .ok (.iinc 4 1, 3) := by decide +kernel
theorem dX5_busyFrom_75 : decode cX5_busyFrom 75 = .ok (.goto (-56), 3) := by decide +kernel
theorem dX5_busyFrom_78 : decode cX5_busyFrom 78 = .ok (.iload_n 3, 1) := by decide +kernel
theorem dX5_busyFrom_79 : decode cX5_busyFrom 79 = .ok (.ireturn, 1) := by decide +kernel
set_option maxRecDepth 20000 in
theorem ggX5_idleFrom_X5_crowdAt : GoodIn wsX5_idleFrom wsX5_crowdAt := goodIn_ca (goodIn_r _ [8, 1, 2, 3, 9, 10, 11, 12, 7, 13, 14, 15, 16, 17, 18, 19, 20, 21, 22, 23, 24, 25, 26] (by decide +kernel) (by decide +kernel)) (goodIn_sub (fun _ h => List.mem_cons_of_mem _ (List.mem_append_right _ h)) (by decide +kernel))
set_option maxRecDepth 20000 in
theorem gX5_idleFrom_X5_crowdAt : GoodIn wsX5_idleFrom (wsV RX5 94 RX5 yX5_crowdAt wsX5_crowdAt) := goodIn_app (goodIn_of _ (by decide +kernel)) ggX5_idleFrom_X5_crowdAt
set_option maxRecDepth 20000 in
theorem ggX5_idleFrom_X5_isOf : GoodIn wsX5_idleFrom wsX5_isOf := goodIn_ca (goodIn_r _ [13, 14, 15, 3, 16, 17, 18, 19, 20, 21, 22, 23, 24, 25, 26] (by decide +kernel) (by decide +kernel)) (goodIn_sub (fun _ h => List.mem_cons_of_mem _ (List.mem_append_right _ h)) (by decide +kernel))
set_option maxRecDepth 20000 in
theorem gX5_idleFrom_X5_isOf : GoodIn wsX5_idleFrom (wsV RX5 91 RX5 yX5_isOf wsX5_isOf) := goodIn_app (goodIn_of _ (by decide +kernel)) ggX5_idleFrom_X5_isOf
theorem dX5_idleFrom_0 : decode cX5_idleFrom 0 = .ok (.iload_n 2, 1) := by decide +kernel
theorem dX5_idleFrom_1 : decode cX5_idleFrom 1 = .ok (.istore_n 3, 1) := by decide +kernel
theorem dX5_idleFrom_2 : decode cX5_idleFrom 2 = .ok (.aload_n 0, 1) := by decide +kernel
theorem dX5_idleFrom_3 : decode cX5_idleFrom 3 = .ok (.iload_n 1, 1) := by decide +kernel
theorem dX5_idleFrom_4 : decode cX5_idleFrom 4 = .ok (.iload_n 3, 1) := by decide +kernel
theorem dX5_idleFrom_5 : decode cX5_idleFrom 5 = .ok (.invokevirtual 94, 3) := by decide +kernel
theorem dX5_idleFrom_8 : decode cX5_idleFrom 8 = .ok (.ifCond .le 93, 3) := by decide +kernel
theorem dX5_idleFrom_11 : decode cX5_idleFrom 11 = .ok (.iload_n 3, 1) := by decide +kernel
theorem dX5_idleFrom_12 : decode cX5_idleFrom 12 = .ok (.istore 4, 2) := by decide +kernel
theorem dX5_idleFrom_14 : decode cX5_idleFrom 14 = .ok (.iconst 0, 1) := by decide +kernel
theorem dX5_idleFrom_15 : decode cX5_idleFrom 15 = .ok (.istore 5, 2) := by decide +kernel
theorem dX5_idleFrom_17 : decode cX5_idleFrom 17 = .ok (.iload 5, 2) := by decide +kernel
theorem dX5_idleFrom_19 : decode cX5_idleFrom 19 = .ok (.aload_n 0, 1) := by decide +kernel
theorem dX5_idleFrom_20 : decode cX5_idleFrom 20 = .ok (.getfield 35, 3) := by decide +kernel
theorem dX5_idleFrom_23 : decode cX5_idleFrom 23 = .ok (.if_icmp .ge 72, 3) := by decide +kernel
theorem dX5_idleFrom_26 : decode cX5_idleFrom 26 = .ok (.aload_n 0, 1) := by decide +kernel
theorem dX5_idleFrom_27 : decode cX5_idleFrom 27 = .ok (.iload_n 1, 1) := by decide +kernel
theorem dX5_idleFrom_28 : decode cX5_idleFrom 28 = .ok (.iload 5, 2) := by decide +kernel
theorem dX5_idleFrom_30 : decode cX5_idleFrom 30 = .ok (.invokevirtual 91, 3) := by decide +kernel
theorem dX5_idleFrom_33 : decode cX5_idleFrom 33 = .ok (.ifCond .eq 52, 3) := by decide +kernel
theorem dX5_idleFrom_36 : decode cX5_idleFrom 36 = .ok (.aload_n 0, 1) := by decide +kernel
theorem dX5_idleFrom_37 : decode cX5_idleFrom 37 = .ok (.getfield 7, 3) := by decide +kernel
theorem dX5_idleFrom_40 : decode cX5_idleFrom 40 = .ok (.iload 5, 2) := by decide +kernel
theorem dX5_idleFrom_42 : decode cX5_idleFrom 42 = .ok (.iaload, 1) := by decide +kernel
theorem dX5_idleFrom_43 : decode cX5_idleFrom 43 = .ok (.iload_n 3, 1) := by decide +kernel
theorem dX5_idleFrom_44 : decode cX5_idleFrom 44 = .ok (.if_icmp .gt 41, 3) := by decide +kernel
theorem dX5_idleFrom_47 : decode cX5_idleFrom 47 = .ok (.aload_n 0, 1) := by decide +kernel
theorem dX5_idleFrom_48 : decode cX5_idleFrom 48 = .ok (.getfield 7, 3) := by decide +kernel
theorem dX5_idleFrom_51 : decode cX5_idleFrom 51 = .ok (.iload 5, 2) := by decide +kernel
theorem dX5_idleFrom_53 : decode cX5_idleFrom 53 = .ok (.iaload, 1) := by decide +kernel
theorem dX5_idleFrom_54 : decode cX5_idleFrom 54 = .ok (.aload_n 0, 1) := by decide +kernel
theorem dX5_idleFrom_55 : decode cX5_idleFrom 55 = .ok (.getfield 13, 3) := by decide +kernel
theorem dX5_idleFrom_58 : decode cX5_idleFrom 58 = .ok (.iload 5, 2) := by decide +kernel
theorem dX5_idleFrom_60 : decode cX5_idleFrom 60 = .ok (.iaload, 1) := by decide +kernel
theorem dX5_idleFrom_61 : decode cX5_idleFrom 61 = .ok (.iadd, 1) := by decide +kernel
theorem dX5_idleFrom_62 : decode cX5_idleFrom 62 = .ok (.iload 4, 2) := by decide +kernel
theorem dX5_idleFrom_64 : decode cX5_idleFrom 64 = .ok (.if_icmp .le 21, 3) := by decide +kernel
theorem dX5_idleFrom_67 : decode cX5_idleFrom 67 = .ok (.aload_n 0, 1) := by decide +kernel
theorem dX5_idleFrom_68 : decode cX5_idleFrom 68 = .ok (.getfield 7, 3) := by decide +kernel
theorem dX5_idleFrom_71 : decode cX5_idleFrom 71 = .ok (.iload 5, 2) := by decide +kernel
theorem dX5_idleFrom_73 : decode cX5_idleFrom 73 = .ok (.iaload, 1) := by decide +kernel
theorem dX5_idleFrom_74 : decode cX5_idleFrom 74 = .ok (.aload_n 0, 1) := by decide +kernel
theorem dX5_idleFrom_75 : decode cX5_idleFrom 75 = .ok (.getfield 13, 3) := by decide +kernel
theorem dX5_idleFrom_78 : decode cX5_idleFrom 78 = .ok (.iload 5, 2) := by decide +kernel
theorem dX5_idleFrom_80 : decode cX5_idleFrom 80 = .ok (.iaload, 1) := by decide +kernel
theorem dX5_idleFrom_81 : decode cX5_idleFrom 81 = .ok (.iadd, 1) := by decide +kernel
theorem dX5_idleFrom_82 : decode cX5_idleFrom 82 = .ok (.goto 5, 3) := by decide +kernel
theorem dX5_idleFrom_85 : decode cX5_idleFrom 85 = .ok (.iload 4, 2) := by decide +kernel
theorem dX5_idleFrom_87 : decode cX5_idleFrom 87 = .ok (.istore 4, 2) := by decide +kernel
theorem dX5_idleFrom_89 : decode cX5_idleFrom 89 = .ok (.iinc 5 1, 3) := by decide +kernel
theorem dX5_idleFrom_92 : decode cX5_idleFrom 92 = .ok (.goto (-75), 3) := by decide +kernel
theorem dX5_idleFrom_95 : decode cX5_idleFrom 95 = .ok (.iload 4, 2) := by decide +kernel
theorem dX5_idleFrom_97 : decode cX5_idleFrom 97 = .ok (.istore_n 3, 1) := by decide +kernel
theorem dX5_idleFrom_98 : decode cX5_idleFrom 98 = .ok (.goto (-96), 3) := by decide +kernel
theorem dX5_idleFrom_101 : decode cX5_idleFrom 101 = .ok (.iload_n 3, 1) := by decide +kernel
theorem dX5_idleFrom_102 : decode cX5_idleFrom 102 = .ok (.ireturn, 1) := by decide +kernel
set_option maxRecDepth 20000 in
theorem ggX5_greatestIn_X5_isOf : GoodIn wsX5_greatestIn wsX5_isOf := goodIn_ca (goodIn_r _ [7, 8, 9, 10, 16, 17, 18, 19, 20, 21, 22, 23, 24, 25, 26] (by decide +kernel) (by decide +kernel)) (goodIn_sub (fun _ h => List.mem_cons_of_mem _ (List.mem_append_right _ h)) (by decide +kernel))
set_option maxRecDepth 20000 in
theorem gX5_greatestIn_X5_isOf : GoodIn wsX5_greatestIn (wsV RX5 91 RX5 yX5_isOf wsX5_isOf) := goodIn_app (goodIn_of _ (by decide +kernel)) ggX5_greatestIn_X5_isOf
set_option maxRecDepth 20000 in
theorem ggX5_greatestIn_X5_crowdAt : GoodIn wsX5_greatestIn wsX5_crowdAt := goodIn_ca (goodIn_r _ [14, 1, 2, 10, 15, 3, 4, 5, 6, 7, 8, 9, 16, 17, 18, 19, 20, 21, 22, 23, 24, 25, 26] (by decide +kernel) (by decide +kernel)) (goodIn_sub (fun _ h => List.mem_cons_of_mem _ (List.mem_append_right _ h)) (by decide +kernel))
set_option maxRecDepth 20000 in
theorem gX5_greatestIn_X5_crowdAt : GoodIn wsX5_greatestIn (wsV RX5 94 RX5 yX5_crowdAt wsX5_crowdAt) := goodIn_app (goodIn_of _ (by decide +kernel)) ggX5_greatestIn_X5_crowdAt
theorem dX5_greatestIn_0 : decode cX5_greatestIn 0 = .ok (.iconst 0, 1) := by decide +kernel
theorem dX5_greatestIn_1 : decode cX5_greatestIn 1 = .ok (.istore 4, 2) := by decide +kernel
theorem dX5_greatestIn_3 : decode cX5_greatestIn 3 = .ok (.iconst 0, 1) := by decide +kernel
theorem dX5_greatestIn_4 : decode cX5_greatestIn 4 = .ok (.istore 5, 2) := by decide +kernel
theorem dX5_greatestIn_6 : decode cX5_greatestIn 6 = .ok (.iload 5, 2) := by decide +kernel
theorem dX5_greatestIn_8 : decode cX5_greatestIn 8 = .ok (.aload_n 0, 1) := by decide +kernel
theorem dX5_greatestIn_9 : decode cX5_greatestIn 9 = .ok (.getfield 35, 3) := by decide +kernel
theorem dX5_greatestIn_12 : decode cX5_greatestIn 12 = .ok (.if_icmp .ge 71, 3) := by decide +kernel
theorem dX5_greatestIn_15 : decode cX5_greatestIn 15 = .ok (.aload_n 0, 1) := by decide +kernel
theorem dX5_greatestIn_16 : decode cX5_greatestIn 16 = .ok (.iload_n 1, 1) := by decide +kernel
theorem dX5_greatestIn_17 : decode cX5_greatestIn 17 = .ok (.iload 5, 2) := by decide +kernel
theorem dX5_greatestIn_19 : decode cX5_greatestIn 19 = .ok (.invokevirtual 91, 3) := by decide +kernel
theorem dX5_greatestIn_22 : decode cX5_greatestIn 22 = .ok (.ifCond .eq 55, 3) := by decide +kernel
theorem dX5_greatestIn_25 : decode cX5_greatestIn 25 = .ok (.aload_n 0, 1) := by decide +kernel
theorem dX5_greatestIn_26 : decode cX5_greatestIn 26 = .ok (.getfield 7, 3) := by decide +kernel
theorem dX5_greatestIn_29 : decode cX5_greatestIn 29 = .ok (.iload 5, 2) := by decide +kernel
theorem dX5_greatestIn_31 : decode cX5_greatestIn 31 = .ok (.iaload, 1) := by decide +kernel
theorem dX5_greatestIn_32 : decode cX5_greatestIn 32 = .ok (.iload_n 2, 1) := by decide +kernel
theorem dX5_greatestIn_33 : decode cX5_greatestIn 33 = .ok (.if_icmp .lt 44, 3) := by decide +kernel
theorem dX5_greatestIn_36 : decode cX5_greatestIn 36 = .ok (.aload_n 0, 1) := by decide +kernel
theorem dX5_greatestIn_37 : decode cX5_greatestIn 37 = .ok (.getfield 7, 3) := by decide +kernel
theorem dX5_greatestIn_40 : decode cX5_greatestIn 40 = .ok (.iload 5, 2) := by decide +kernel
theorem dX5_greatestIn_42 : decode cX5_greatestIn 42 = .ok (.iaload, 1) := by decide +kernel
theorem dX5_greatestIn_43 : decode cX5_greatestIn 43 = .ok (.iload_n 3, 1) := by decide +kernel
theorem dX5_greatestIn_44 : decode cX5_greatestIn 44 = .ok (.if_icmp .ge 33, 3) := by decide +kernel
theorem dX5_greatestIn_47 : decode cX5_greatestIn 47 = .ok (.aload_n 0, 1) := by decide +kernel
theorem dX5_greatestIn_48 : decode cX5_greatestIn 48 = .ok (.iload_n 1, 1) := by decide +kernel
theorem dX5_greatestIn_49 : decode cX5_greatestIn 49 = .ok (.aload_n 0, 1) := by decide +kernel
theorem dX5_greatestIn_50 : decode cX5_greatestIn 50 = .ok (.getfield 7, 3) := by decide +kernel
theorem dX5_greatestIn_53 : decode cX5_greatestIn 53 = .ok (.iload 5, 2) := by decide +kernel
theorem dX5_greatestIn_55 : decode cX5_greatestIn 55 = .ok (.iaload, 1) := by decide +kernel
theorem dX5_greatestIn_56 : decode cX5_greatestIn 56 = .ok (.invokevirtual 94, 3) := by decide +kernel
theorem dX5_greatestIn_59 : decode cX5_greatestIn 59 = .ok (.istore 6, 2) := by decide +kernel
theorem dX5_greatestIn_61 : decode cX5_greatestIn 61 = .ok (.iload 6, 2) := by decide +kernel
theorem dX5_greatestIn_63 : decode cX5_greatestIn 63 = .ok (.iload 4, 2) := by decide +kernel
theorem dX5_greatestIn_65 : decode cX5_greatestIn 65 = .ok (.if_icmp .le 8, 3) := by decide +kernel
theorem dX5_greatestIn_68 : decode cX5_greatestIn 68 = .ok (.iload 6, 2) := by decide +kernel
theorem dX5_greatestIn_70 : decode cX5_greatestIn 70 = .ok (.goto 5, 3) := by decide +kernel
theorem dX5_greatestIn_73 : decode cX5_greatestIn 73 = .ok (.iload 4, 2) := by decide +kernel
theorem dX5_greatestIn_75 : decode cX5_greatestIn 75 = .ok (.istore 4, 2) := by decide +kernel
theorem dX5_greatestIn_77 : decode cX5_greatestIn 77 = .ok (.iinc 5 1, 3) := by decide +kernel
theorem dX5_greatestIn_80 : decode cX5_greatestIn 80 = .ok (.goto (-74), 3) := by decide +kernel
theorem dX5_greatestIn_83 : decode cX5_greatestIn 83 = .ok (.iload 4, 2) := by decide +kernel
theorem dX5_greatestIn_85 : decode cX5_greatestIn 85 = .ok (.ireturn, 1) := by decide +kernel
set_option maxRecDepth 20000 in
theorem ggX5_crowd_X5_isHouse : GoodIn wsX5_crowd wsX5_isHouse := goodIn_r _ [4] (by decide +kernel) (by decide +kernel)
set_option maxRecDepth 20000 in
theorem gX5_crowd_X5_isHouse : GoodIn wsX5_crowd (va_wsS RX5 46 yX5_isHouse wsX5_isHouse) := goodIn_app (goodIn_of _ (by decide +kernel)) ggX5_crowd_X5_isHouse
set_option maxRecDepth 20000 in
theorem ggX5_crowd_X5_isThrown : GoodIn wsX5_crowd wsX5_isThrown := goodIn_r _ [8, 9, 24, 25, 26, 27, 28, 29, 30, 31, 32, 33, 34] (by decide +kernel) (by decide +kernel)
set_option maxRecDepth 20000 in
theorem gX5_crowd_X5_isThrown : GoodIn wsX5_crowd (wsV RX5 50 RX5 yX5_isThrown wsX5_isThrown) := goodIn_app (goodIn_of _ (by decide +kernel)) ggX5_crowd_X5_isThrown
set_option maxRecDepth 20000 in
theorem ggX5_crowd_X5_crowdAt : GoodIn wsX5_crowd wsX5_crowdAt := goodIn_ca (goodIn_r _ [13, 14, 15, 16, 17, 18, 19, 20, 3, 21, 22, 23, 24, 25, 26, 27, 28, 29, 30, 31, 32, 33, 34] (by decide +kernel) (by decide +kernel)) (goodIn_sub (fun _ h => List.mem_cons_of_mem _ (List.mem_append_right _ h)) (by decide +kernel))
set_option maxRecDepth 20000 in
theorem gX5_crowd_X5_crowdAt : GoodIn wsX5_crowd (wsV RX5 94 RX5 yX5_crowdAt wsX5_crowdAt) := goodIn_app (goodIn_of _ (by decide +kernel)) ggX5_crowd_X5_crowdAt
theorem dX5_crowd_0 : decode cX5_crowd 0 = .ok (.aload_n 0, 1) := by decide +kernel
theorem dX5_crowd_1 : decode cX5_crowd 1 = .ok (.iload_n 1, 1) := by decide +kernel
theorem dX5_crowd_2 : decode cX5_crowd 2 = .ok (.invokestatic 46, 3) := by decide +kernel
theorem dX5_crowd_5 : decode cX5_crowd 5 = .ok (.ifCond .ne 7, 3) := by decide +kernel
theorem dX5_crowd_8 : decode cX5_crowd 8 = .ok (.iconst 1, 1) := by decide +kernel
theorem dX5_crowd_9 : decode cX5_crowd 9 = .ok (.goto 4, 3) := by decide +kernel
theorem dX5_crowd_12 : decode cX5_crowd 12 = .ok (.iconst 0, 1) := by decide +kernel
theorem dX5_crowd_13 : decode cX5_crowd 13 = .ok (.iconst 1, 1) := by decide +kernel
theorem dX5_crowd_14 : decode cX5_crowd 14 = .ok (.invokevirtual 50, 3) := by decide +kernel
theorem dX5_crowd_17 : decode cX5_crowd 17 = .ok (.ifCond .eq 7, 3) := by decide +kernel
theorem dX5_crowd_20 : decode cX5_crowd 20 = .ok (.iconst 0, 1) := by decide +kernel
theorem dX5_crowd_21 : decode cX5_crowd 21 = .ok (.goto 9, 3) := by decide +kernel
theorem dX5_crowd_24 : decode cX5_crowd 24 = .ok (.aload_n 0, 1) := by decide +kernel
theorem dX5_crowd_25 : decode cX5_crowd 25 = .ok (.iload_n 1, 1) := by decide +kernel
theorem dX5_crowd_26 : decode cX5_crowd 26 = .ok (.iload_n 2, 1) := by decide +kernel
theorem dX5_crowd_27 : decode cX5_crowd 27 = .ok (.invokevirtual 94, 3) := by decide +kernel
theorem dX5_crowd_30 : decode cX5_crowd 30 = .ok (.ireturn, 1) := by decide +kernel
set_option maxRecDepth 20000 in
theorem ggX5_change_X5_isHouse : GoodIn wsX5_change wsX5_isHouse := goodIn_r _ [4] (by decide +kernel) (by decide +kernel)
set_option maxRecDepth 20000 in
theorem gX5_change_X5_isHouse : GoodIn wsX5_change (va_wsS RX5 46 yX5_isHouse wsX5_isHouse) := goodIn_app (goodIn_of _ (by decide +kernel)) ggX5_change_X5_isHouse
set_option maxRecDepth 20000 in
theorem ggX5_change_X5_isThrown : GoodIn wsX5_change wsX5_isThrown := goodIn_r _ [8, 9, 24, 25, 26, 27, 28, 29, 30, 31, 32, 33, 34] (by decide +kernel) (by decide +kernel)
set_option maxRecDepth 20000 in
theorem gX5_change_X5_isThrown : GoodIn wsX5_change (wsV RX5 50 RX5 yX5_isThrown wsX5_isThrown) := goodIn_app (goodIn_of _ (by decide +kernel)) ggX5_change_X5_isThrown
set_option maxRecDepth 20000 in
theorem ggX5_change_X5_changeAt : GoodIn wsX5_change wsX5_changeAt := goodIn_ca (goodIn_r _ [13, 14, 15, 16, 17, 18, 19, 20, 3, 21, 22, 23, 24, 25, 26, 27, 28, 29, 30, 31, 32, 33, 34] (by decide +kernel) (by decide +kernel)) (goodIn_sub (fun _ h => List.mem_cons_of_mem _ (List.mem_append_right _ h)) (by decide +kernel))
set_option maxRecDepth 20000 in
theorem gX5_change_X5_changeAt : GoodIn wsX5_change (wsV RX5 97 RX5 yX5_changeAt wsX5_changeAt) := goodIn_app (goodIn_of _ (by decide +kernel)) ggX5_change_X5_changeAt
theorem dX5_change_0 : decode cX5_change 0 = .ok (.aload_n 0, 1) := by decide +kernel
theorem dX5_change_1 : decode cX5_change 1 = .ok (.iload_n 1, 1) := by decide +kernel
theorem dX5_change_2 : decode cX5_change 2 = .ok (.invokestatic 46, 3) := by decide +kernel
theorem dX5_change_5 : decode cX5_change 5 = .ok (.ifCond .ne 7, 3) := by decide +kernel
theorem dX5_change_8 : decode cX5_change 8 = .ok (.iconst 1, 1) := by decide +kernel
theorem dX5_change_9 : decode cX5_change 9 = .ok (.goto 4, 3) := by decide +kernel
theorem dX5_change_12 : decode cX5_change 12 = .ok (.iconst 0, 1) := by decide +kernel
theorem dX5_change_13 : decode cX5_change 13 = .ok (.iconst 1, 1) := by decide +kernel
theorem dX5_change_14 : decode cX5_change 14 = .ok (.invokevirtual 50, 3) := by decide +kernel
theorem dX5_change_17 : decode cX5_change 17 = .ok (.ifCond .eq 7, 3) := by decide +kernel
theorem dX5_change_20 : decode cX5_change 20 = .ok (.iconst 0, 1) := by decide +kernel
theorem dX5_change_21 : decode cX5_change 21 = .ok (.goto 9, 3) := by decide +kernel
theorem dX5_change_24 : decode cX5_change 24 = .ok (.aload_n 0, 1) := by decide +kernel
theorem dX5_change_25 : decode cX5_change 25 = .ok (.iload_n 1, 1) := by decide +kernel
theorem dX5_change_26 : decode cX5_change 26 = .ok (.iload_n 2, 1) := by decide +kernel
theorem dX5_change_27 : decode cX5_change 27 = .ok (.invokevirtual 97, 3) := by decide +kernel
theorem dX5_change_30 : decode cX5_change 30 = .ok (.ireturn, 1) := by decide +kernel
set_option maxRecDepth 20000 in
theorem ggX5_greatest_X5_isHouse : GoodIn wsX5_greatest wsX5_isHouse := goodIn_r _ [5] (by decide +kernel) (by decide +kernel)
set_option maxRecDepth 20000 in
theorem gX5_greatest_X5_isHouse : GoodIn wsX5_greatest (va_wsS RX5 46 yX5_isHouse wsX5_isHouse) := goodIn_app (goodIn_of _ (by decide +kernel)) ggX5_greatest_X5_isHouse
set_option maxRecDepth 20000 in
theorem ggX5_greatest_X5_isThrown : GoodIn wsX5_greatest wsX5_isThrown := goodIn_r _ [9, 10, 29, 30, 31, 32, 33, 34, 35, 36, 37, 38, 39] (by decide +kernel) (by decide +kernel)
set_option maxRecDepth 20000 in
theorem gX5_greatest_X5_isThrown : GoodIn wsX5_greatest (wsV RX5 50 RX5 yX5_isThrown wsX5_isThrown) := goodIn_app (goodIn_of _ (by decide +kernel)) ggX5_greatest_X5_isThrown
set_option maxRecDepth 20000 in
theorem ggX5_greatest_X5_greatestIn : GoodIn wsX5_greatest wsX5_greatestIn := goodIn_ca (goodIn_r _ [14, 15, 16, 17, 18, 19, 4, 20, 21, 22, 23, 24, 25, 26, 27, 28, 29, 30, 31, 32, 33, 34, 35, 36, 37, 38, 39] (by decide +kernel) (by decide +kernel)) (goodIn_sub (fun _ h => List.mem_cons_of_mem _ (List.mem_append_right _ h)) (by decide +kernel))
set_option maxRecDepth 20000 in
theorem gX5_greatest_X5_greatestIn : GoodIn wsX5_greatest (wsV RX5 100 RX5 yX5_greatestIn wsX5_greatestIn) := goodIn_app (goodIn_of _ (by decide +kernel)) ggX5_greatest_X5_greatestIn
theorem dX5_greatest_0 : decode cX5_greatest 0 = .ok (.aload_n 0, 1) := by decide +kernel
theorem dX5_greatest_1 : decode cX5_greatest 1 = .ok (.iload_n 1, 1) := by decide +kernel
theorem dX5_greatest_2 : decode cX5_greatest 2 = .ok (.invokestatic 46, 3) := by decide +kernel
theorem dX5_greatest_5 : decode cX5_greatest 5 = .ok (.ifCond .ne 7, 3) := by decide +kernel
theorem dX5_greatest_8 : decode cX5_greatest 8 = .ok (.iconst 1, 1) := by decide +kernel
theorem dX5_greatest_9 : decode cX5_greatest 9 = .ok (.goto 4, 3) := by decide +kernel
theorem dX5_greatest_12 : decode cX5_greatest 12 = .ok (.iconst 0, 1) := by decide +kernel
theorem dX5_greatest_13 : decode cX5_greatest 13 = .ok (.iconst 1, 1) := by decide +kernel
theorem dX5_greatest_14 : decode cX5_greatest 14 = .ok (.invokevirtual 50, 3) := by decide +kernel
theorem dX5_greatest_17 : decode cX5_greatest 17 = .ok (.ifCond .eq 7, 3) := by decide +kernel
theorem dX5_greatest_20 : decode cX5_greatest 20 = .ok (.iconst 0, 1) := by decide +kernel
theorem dX5_greatest_21 : decode cX5_greatest 21 = .ok (.goto 11, 3) := by decide +kernel
theorem dX5_greatest_24 : decode cX5_greatest 24 = .ok (.aload_n 0, 1) := by decide +kernel
theorem dX5_greatest_25 : decode cX5_greatest 25 = .ok (.iload_n 1, 1) := by decide +kernel
theorem dX5_greatest_26 : decode cX5_greatest 26 = .ok (.iconst 0, 1) := by decide +kernel
theorem dX5_greatest_27 : decode cX5_greatest 27 = .ok (.ldc 72, 2) := by decide +kernel
theorem dX5_greatest_29 : decode cX5_greatest 29 = .ok (.invokevirtual 100, 3) := by decide +kernel
theorem dX5_greatest_32 : decode cX5_greatest 32 = .ok (.ireturn, 1) := by decide +kernel
set_option maxRecDepth 20000 in
theorem ggX5_greatestFrom_X5_isHouse : GoodIn wsX5_greatestFrom wsX5_isHouse := goodIn_r _ [7] (by decide +kernel) (by decide +kernel)
set_option maxRecDepth 20000 in
theorem gX5_greatestFrom_X5_isHouse : GoodIn wsX5_greatestFrom (va_wsS RX5 46 yX5_isHouse wsX5_isHouse) := goodIn_app (goodIn_of _ (by decide +kernel)) ggX5_greatestFrom_X5_isHouse
set_option maxRecDepth 20000 in
theorem ggX5_greatestFrom_X5_isThrown : GoodIn wsX5_greatestFrom wsX5_isThrown := goodIn_r _ [11, 12, 29, 30, 31, 32, 33, 34, 35, 36, 37, 38, 39] (by decide +kernel) (by decide +kernel)
set_option maxRecDepth 20000 in
theorem gX5_greatestFrom_X5_isThrown : GoodIn wsX5_greatestFrom (wsV RX5 50 RX5 yX5_isThrown wsX5_isThrown) := goodIn_app (goodIn_of _ (by decide +kernel)) ggX5_greatestFrom_X5_isThrown
set_option maxRecDepth 20000 in
theorem ggX5_greatestFrom_X5_greatestIn : GoodIn wsX5_greatestFrom wsX5_greatestIn := goodIn_ca (goodIn_r _ [16, 2, 3, 17, 18, 19, 6, 20, 21, 22, 23, 24, 25, 26, 27, 28, 29, 30, 31, 32, 33, 34, 35, 36, 37, 38, 39] (by decide +kernel) (by decide +kernel)) (goodIn_sub (fun _ h => List.mem_cons_of_mem _ (List.mem_append_right _ h)) (by decide +kernel))
set_option maxRecDepth 20000 in
theorem gX5_greatestFrom_X5_greatestIn : GoodIn wsX5_greatestFrom (wsV RX5 100 RX5 yX5_greatestIn wsX5_greatestIn) := goodIn_app (goodIn_of _ (by decide +kernel)) ggX5_greatestFrom_X5_greatestIn
set_option maxRecDepth 20000 in
theorem ggX5_greatestFrom_X5_isOf : GoodIn wsX5_greatestFrom wsX5_isOf := goodIn_ca (goodIn_r _ [20, 21, 22, 23, 29, 30, 31, 32, 33, 34, 35, 36, 37, 38, 39] (by decide +kernel) (by decide +kernel)) (goodIn_sub (fun _ h => List.mem_cons_of_mem _ (List.mem_append_right _ h)) (by decide +kernel))
set_option maxRecDepth 20000 in
theorem gX5_greatestFrom_X5_isOf : GoodIn wsX5_greatestFrom (wsV RX5 91 RX5 yX5_isOf wsX5_isOf) := goodIn_app (goodIn_of _ (by decide +kernel)) ggX5_greatestFrom_X5_isOf
set_option maxRecDepth 20000 in
theorem ggX5_greatestFrom_X5_crowdAt : GoodIn wsX5_greatestFrom wsX5_crowdAt := goodIn_ca (goodIn_r _ [27, 2, 3, 23, 28, 17, 18, 19, 6, 20, 21, 22, 29, 30, 31, 32, 33, 34, 35, 36, 37, 38, 39] (by decide +kernel) (by decide +kernel)) (goodIn_sub (fun _ h => List.mem_cons_of_mem _ (List.mem_append_right _ h)) (by decide +kernel))
set_option maxRecDepth 20000 in
theorem gX5_greatestFrom_X5_crowdAt : GoodIn wsX5_greatestFrom (wsV RX5 94 RX5 yX5_crowdAt wsX5_crowdAt) := goodIn_app (goodIn_of _ (by decide +kernel)) ggX5_greatestFrom_X5_crowdAt
theorem dX5_greatestFrom_0 : decode cX5_greatestFrom 0 = .ok (.aload_n 0, 1) := by decide +kernel
theorem dX5_greatestFrom_1 : decode cX5_greatestFrom 1 = .ok (.iload_n 1, 1) := by decide +kernel
theorem dX5_greatestFrom_2 : decode cX5_greatestFrom 2 = .ok (.invokestatic 46, 3) := by decide +kernel
theorem dX5_greatestFrom_5 : decode cX5_greatestFrom 5 = .ok (.ifCond .ne 7, 3) := by decide +kernel
theorem dX5_greatestFrom_8 : decode cX5_greatestFrom 8 = .ok (.iconst 1, 1) := by decide +kernel
theorem dX5_greatestFrom_9 : decode cX5_greatestFrom 9 = .ok (.goto 4, 3) := by decide +kernel
theorem dX5_greatestFrom_12 : decode cX5_greatestFrom 12 = .ok (.iconst 0, 1) := by decide +kernel
theorem dX5_greatestFrom_13 : decode cX5_greatestFrom 13 = .ok (.iconst 1, 1) := by decide +kernel
theorem dX5_greatestFrom_14 : decode cX5_greatestFrom 14 = .ok (.invokevirtual 50, 3) := by decide +kernel
theorem dX5_greatestFrom_17 : decode cX5_greatestFrom 17 = .ok (.ifCond .eq 5, 3) := by decide +kernel
theorem dX5_greatestFrom_20 : decode cX5_greatestFrom 20 = .ok (.iconst 0, 1) := by decide +kernel
theorem dX5_greatestFrom_21 : decode cX5_greatestFrom 21 = .ok (.ireturn, 1) := by decide +kernel
theorem dX5_greatestFrom_22 : decode cX5_greatestFrom 22 = .ok (.aload_n 0, 1) := by decide +kernel
theorem dX5_greatestFrom_23 : decode cX5_greatestFrom 23 = .ok (.iload_n 1, 1) := by decide +kernel
theorem dX5_greatestFrom_24 : decode cX5_greatestFrom 24 = .ok (.iconst 0, 1) := by decide +kernel
theorem dX5_greatestFrom_25 : decode cX5_greatestFrom 25 = .ok (.ldc 72, 2) := by decide +kernel
theorem dX5_greatestFrom_27 : decode cX5_greatestFrom 27 = .ok (.invokevirtual 100, 3) := by decide +kernel
theorem dX5_greatestFrom_30 : decode cX5_greatestFrom 30 = .ok (.istore_n 2, 1) := by decide +kernel
theorem dX5_greatestFrom_31 : decode cX5_greatestFrom 31 = .ok (.aload_n 0, 1) := by decide +kernel
theorem dX5_greatestFrom_32 : decode cX5_greatestFrom 32 = .ok (.iload_n 2, 1) := by decide +kernel
theorem dX5_greatestFrom_33 : decode cX5_greatestFrom 33 = .ok (.ifCond .ne 7, 3) := by decide +kernel
theorem dX5_greatestFrom_36 : decode cX5_greatestFrom 36 = .ok (.iconst 1, 1) := by decide +kernel
theorem dX5_greatestFrom_37 : decode cX5_greatestFrom 37 = .ok (.goto 4, 3) := by decide +kernel
theorem dX5_greatestFrom_40 : decode cX5_greatestFrom 40 = .ok (.iconst 0, 1) := by decide +kernel
theorem dX5_greatestFrom_41 : decode cX5_greatestFrom 41 = .ok (.iconst 2, 1) := by decide +kernel
theorem dX5_greatestFrom_42 : decode cX5_greatestFrom 42 = .ok (.invokevirtual 50, 3) := by decide +kernel
theorem dX5_greatestFrom_45 : decode cX5_greatestFrom 45 = .ok (.ifCond .eq 5, 3) := by decide +kernel
theorem dX5_greatestFrom_48 : decode cX5_greatestFrom 48 = .ok (.iconst 0, 1) := by decide +kernel
theorem dX5_greatestFrom_49 : decode cX5_greatestFrom 49 = .ok (.ireturn, 1) := by decide +kernel
theorem dX5_greatestFrom_50 : decode cX5_greatestFrom 50 = .ok (.ldc 72, 2) := by decide +kernel
theorem dX5_greatestFrom_52 : decode cX5_greatestFrom 52 = .ok (.istore_n 3, 1) := by decide +kernel
theorem dX5_greatestFrom_53 : decode cX5_greatestFrom 53 = .ok (.iconst 0, 1) := by decide +kernel
theorem dX5_greatestFrom_54 : decode cX5_greatestFrom 54 = .ok (.istore 4, 2) := by decide +kernel
theorem dX5_greatestFrom_56 : decode cX5_greatestFrom 56 = .ok (.iload 4, 2) := by decide +kernel
theorem dX5_greatestFrom_58 : decode cX5_greatestFrom 58 = .ok (.aload_n 0, 1) := by decide +kernel
theorem dX5_greatestFrom_59 : decode cX5_greatestFrom 59 = .ok (.getfield 35, 3) := by decide +kernel
theorem dX5_greatestFrom_62 : decode cX5_greatestFrom 62 = .ok (.if_icmp .ge 58, 3) := by decide +kernel
theorem dX5_greatestFrom_65 : decode cX5_greatestFrom 65 = .ok (.aload_n 0, 1) := by decide +kernel
theorem dX5_greatestFrom_66 : decode cX5_greatestFrom 66 = .ok (.iload_n 1, 1) := by decide +kernel
theorem dX5_greatestFrom_67 : decode cX5_greatestFrom 67 = .ok (.iload 4, 2) := by decide +kernel
theorem dX5_greatestFrom_69 : decode cX5_greatestFrom 69 = .ok (.invokevirtual 91, 3) := by decide +kernel
theorem dX5_greatestFrom_72 : decode cX5_greatestFrom 72 = .ok (.ifCond .eq 40, 3) := by decide +kernel
theorem dX5_greatestFrom_75 : decode cX5_greatestFrom 75 = .ok (.aload_n 0, 1) := by decide +kernel
theorem dX5_greatestFrom_76 : decode cX5_greatestFrom 76 = .ok (.getfield 7, 3) := by decide +kernel
theorem dX5_greatestFrom_79 : decode cX5_greatestFrom 79 = .ok (.iload 4, 2) := by decide +kernel
theorem dX5_greatestFrom_81 : decode cX5_greatestFrom 81 = .ok (.iaload, 1) := by decide +kernel
theorem dX5_greatestFrom_82 : decode cX5_greatestFrom 82 = .ok (.iload_n 3, 1) := by decide +kernel
theorem dX5_greatestFrom_83 : decode cX5_greatestFrom 83 = .ok (.if_icmp .ge 29, 3) := by decide +kernel
theorem dX5_greatestFrom_86 : decode cX5_greatestFrom 86 = .ok (.aload_n 0, 1) := by decide +kernel
theorem dX5_greatestFrom_87 : decode cX5_greatestFrom 87 = .ok (.iload_n 1, 1) := by decide +kernel
theorem dX5_greatestFrom_88 : decode cX5_greatestFrom 88 = .ok (.aload_n 0, 1) := by decide +kernel
theorem dX5_greatestFrom_89 : decode cX5_greatestFrom 89 = .ok (.getfield 7, 3) := by decide +kernel
theorem dX5_greatestFrom_92 : decode cX5_greatestFrom 92 = .ok (.iload 4, 2) := by decide +kernel
theorem dX5_greatestFrom_94 : decode cX5_greatestFrom 94 = .ok (.iaload, 1) := by decide +kernel
theorem dX5_greatestFrom_95 : decode cX5_greatestFrom 95 = .ok (.invokevirtual 94, 3) := by decide +kernel
theorem dX5_greatestFrom_98 : decode cX5_greatestFrom 98 = .ok (.iload_n 2, 1) := by decide +kernel
theorem dX5_greatestFrom_99 : decode cX5_greatestFrom 99 = .ok (.if_icmp .ne 13, 3) := by decide +kernel
theorem dX5_greatestFrom_102 : decode cX5_greatestFrom 102 = .ok (.aload_n 0, 1) := by decide +kernel
theorem dX5_greatestFrom_103 : decode cX5_greatestFrom 103 = .ok (.getfield 7, 3) := by decide +kernel
theorem dX5_greatestFrom_106 : decode cX5_greatestFrom 106 = .ok (.iload 4, 2) := by decide +kernel
theorem dX5_greatestFrom_108 : decode cX5_greatestFrom 108 = .ok (.iaload, 1) := by decide +kernel
theorem dX5_greatestFrom_109 : decode cX5_greatestFrom 109 = .ok (.goto 4, 3) := by decide +kernel
theorem dX5_greatestFrom_112 : decode cX5_greatestFrom 112 = .ok (.iload_n 3, 1) := by decide +kernel
theorem dX5_greatestFrom_113 : decode cX5_greatestFrom 113 = .ok (.istore_n 3, 1) := by decide +kernel
theorem dX5_greatestFrom_114 : decode cX5_greatestFrom 114 = .ok (.iinc 4 1, 3) := by decide +kernel
theorem dX5_greatestFrom_117 : decode cX5_greatestFrom 117 = .ok (.goto (-61), 3) := by decide +kernel
theorem dX5_greatestFrom_120 : decode cX5_greatestFrom 120 = .ok (.iload_n 3, 1) := by decide +kernel
theorem dX5_greatestFrom_121 : decode cX5_greatestFrom 121 = .ok (.ireturn, 1) := by decide +kernel
set_option maxRecDepth 20000 in
theorem ggX5_busyIn_X5_busyFrom : GoodIn wsX5_busyIn wsX5_busyFrom := goodIn_ca (goodIn_r _ [6, 1, 7, 8, 9, 10, 11, 5, 12, 13, 14, 15, 16, 17, 18, 19, 20, 25, 26, 27, 28, 29, 30, 31, 32, 33, 34, 35] (by decide +kernel) (by decide +kernel)) (goodIn_sub (fun _ h => List.mem_cons_of_mem _ (List.mem_append_right _ h)) (by decide +kernel))
set_option maxRecDepth 20000 in
theorem gX5_busyIn_X5_busyFrom : GoodIn wsX5_busyIn (wsV RX5 103 RX5 yX5_busyFrom wsX5_busyFrom) := goodIn_app (goodIn_of _ (by decide +kernel)) ggX5_busyIn_X5_busyFrom
set_option maxRecDepth 20000 in
theorem ggX5_busyIn_X5_idleFrom : GoodIn wsX5_busyIn wsX5_idleFrom := goodIn_ca (goodIn_r _ [24, 7, 8, 13, 9, 10, 11, 5, 12, 14, 15, 16, 17, 18, 19, 20, 25, 26, 27, 28, 29, 30, 31, 32, 33, 34, 35] (by decide +kernel) (by decide +kernel)) (goodIn_sub (fun _ h => List.mem_cons_of_mem _ (List.mem_append_right _ h)) (by decide +kernel))
set_option maxRecDepth 20000 in
theorem gX5_busyIn_X5_idleFrom : GoodIn wsX5_busyIn (wsV RX5 106 RX5 yX5_idleFrom wsX5_idleFrom) := goodIn_app (goodIn_of _ (by decide +kernel)) ggX5_busyIn_X5_idleFrom
theorem dX5_busyIn_0 : decode cX5_busyIn 0 = .ok (.iconst 0, 1) := by decide +kernel
theorem dX5_busyIn_1 : decode cX5_busyIn 1 = .ok (.istore 4, 2) := by decide +kernel
theorem dX5_busyIn_3 : decode cX5_busyIn 3 = .ok (.aload_n 0, 1) := by decide +kernel
theorem dX5_busyIn_4 : decode cX5_busyIn 4 = .ok (.iload_n 1, 1) := by decide +kernel
theorem dX5_busyIn_5 : decode cX5_busyIn 5 = .ok (.iconst 0, 1) := by decide +kernel
theorem dX5_busyIn_6 : decode cX5_busyIn 6 = .ok (.invokevirtual 103, 3) := by decide +kernel
theorem dX5_busyIn_9 : decode cX5_busyIn 9 = .ok (.istore 5, 2) := by decide +kernel
theorem dX5_busyIn_11 : decode cX5_busyIn 11 = .ok (.iload 5, 2) := by decide +kernel
theorem dX5_busyIn_13 : decode cX5_busyIn 13 = .ok (.ldc 72, 2) := by decide +kernel
theorem dX5_busyIn_15 : decode cX5_busyIn 15 = .ok (.if_icmp .ge 73, 3) := by decide +kernel
theorem dX5_busyIn_18 : decode cX5_busyIn 18 = .ok (.aload_n 0, 1) := by decide +kernel
theorem dX5_busyIn_19 : decode cX5_busyIn 19 = .ok (.iload_n 1, 1) := by decide +kernel
theorem dX5_busyIn_20 : decode cX5_busyIn 20 = .ok (.iload 5, 2) := by decide +kernel
theorem dX5_busyIn_22 : decode cX5_busyIn 22 = .ok (.invokevirtual 106, 3) := by decide +kernel
theorem dX5_busyIn_25 : decode cX5_busyIn 25 = .ok (.istore 6, 2) := by decide +kernel
theorem dX5_busyIn_27 : decode cX5_busyIn 27 = .ok (.iload 5, 2) := by decide +kernel
theorem dX5_busyIn_29 : decode cX5_busyIn 29 = .ok (.iload_n 2, 1) := by decide +kernel
theorem dX5_busyIn_30 : decode cX5_busyIn 30 = .ok (.if_icmp .ge 7, 3) := by decide +kernel
theorem dX5_busyIn_33 : decode cX5_busyIn 33 = .ok (.iload_n 2, 1) := by decide +kernel
theorem dX5_busyIn_34 : decode cX5_busyIn 34 = .ok (.goto 5, 3) := by decide +kernel
theorem dX5_busyIn_37 : decode cX5_busyIn 37 = .ok (.iload 5, 2) := by decide +kernel
theorem dX5_busyIn_39 : decode cX5_busyIn 39 = .ok (.istore 7, 2) := by decide +kernel
theorem dX5_busyIn_41 : decode cX5_busyIn 41 = .ok (.iload 6, 2) := by decide +kernel
theorem dX5_busyIn_43 : decode cX5_busyIn 43 = .ok (.iload_n 3, 1) := by decide +kernel
theorem dX5_busyIn_44 : decode cX5_busyIn 44 = .ok (.if_icmp .ge 8, 3) := by decide +kernel
theorem dX5_busyIn_47 : decode cX5_busyIn 47 = .ok (.iload 6, 2) := by decide +kernel
theorem dX5_busyIn_49 : decode cX5_busyIn 49 = .ok (.goto 4, 3) := by decide +kernel
theorem dX5_busyIn_52 : decode cX5_busyIn 52 = .ok (.iload_n 3, 1) := by decide +kernel
theorem dX5_busyIn_53 : decode cX5_busyIn 53 = .ok (.istore 8, 2) := by decide +kernel
theorem dX5_busyIn_55 : decode cX5_busyIn 55 = .ok (.iload 4, 2) := by decide +kernel
theorem dX5_busyIn_57 : decode cX5_busyIn 57 = .ok (.iload 8, 2) := by decide +kernel
theorem dX5_busyIn_59 : decode cX5_busyIn 59 = .ok (.iload 7, 2) := by decide +kernel
theorem dX5_busyIn_61 : decode cX5_busyIn 61 = .ok (.if_icmp .le 11, 3) := by decide +kernel
theorem dX5_busyIn_64 : decode cX5_busyIn 64 = .ok (.iload 8, 2) := by decide +kernel
theorem dX5_busyIn_66 : decode cX5_busyIn 66 = .ok (.iload 7, 2) := by decide +kernel
theorem dX5_busyIn_68 : decode cX5_busyIn 68 = .ok (.isub, 1) := by decide +kernel
theorem dX5_busyIn_69 : decode cX5_busyIn 69 = .ok (.goto 4, 3) := by decide +kernel
theorem dX5_busyIn_72 : decode cX5_busyIn 72 = .ok (.iconst 0, 1) := by decide +kernel
theorem dX5_busyIn_73 : decode cX5_busyIn 73 = .ok (.iadd, 1) := by decide +kernel
theorem dX5_busyIn_74 : decode cX5_busyIn 74 = .ok (.istore 4, 2) := by decide +kernel
theorem dX5_busyIn_76 : decode cX5_busyIn 76 = .ok (.aload_n 0, 1) := by decide +kernel
theorem dX5_busyIn_77 : decode cX5_busyIn 77 = .ok (.iload_n 1, 1) := by decide +kernel
theorem dX5_busyIn_78 : decode cX5_busyIn 78 = .ok (.iload 6, 2) := by decide +kernel
theorem dX5_busyIn_80 : decode cX5_busyIn 80 = .ok (.invokevirtual 103, 3) := by decide +kernel
theorem dX5_busyIn_83 : decode cX5_busyIn 83 = .ok (.istore 5, 2) := by decide +kernel
theorem dX5_busyIn_85 : decode cX5_busyIn 85 = .ok (.goto (-74), 3) := by decide +kernel
theorem dX5_busyIn_88 : decode cX5_busyIn 88 = .ok (.iload 4, 2) := by decide +kernel
theorem dX5_busyIn_90 : decode cX5_busyIn 90 = .ok (.ireturn, 1) := by decide +kernel
set_option maxRecDepth 20000 in
theorem ggX5_busy_X5_isHouse : GoodIn wsX5_busy wsX5_isHouse := goodIn_r _ [4] (by decide +kernel) (by decide +kernel)
set_option maxRecDepth 20000 in
theorem gX5_busy_X5_isHouse : GoodIn wsX5_busy (va_wsS RX5 46 yX5_isHouse wsX5_isHouse) := goodIn_app (goodIn_of _ (by decide +kernel)) ggX5_busy_X5_isHouse
set_option maxRecDepth 20000 in
theorem ggX5_busy_X5_isThrown : GoodIn wsX5_busy wsX5_isThrown := goodIn_r _ [8, 9, 37, 38, 39, 40, 41, 42, 43, 44, 45, 46, 47] (by decide +kernel) (by decide +kernel)
set_option maxRecDepth 20000 in
theorem gX5_busy_X5_isThrown : GoodIn wsX5_busy (wsV RX5 50 RX5 yX5_isThrown wsX5_isThrown) := goodIn_app (goodIn_of _ (by decide +kernel)) ggX5_busy_X5_isThrown
set_option maxRecDepth 20000 in
theorem ggX5_busy_X5_busyIn : GoodIn wsX5_busy wsX5_busyIn := goodIn_ca (goodIn_r _ [13, 14, 15, 16, 17, 3, 18, 19, 20, 21, 22, 23, 24, 25, 26, 27, 28, 29, 30, 31, 32, 33, 34, 35, 36, 37, 38, 39, 40, 41, 42, 43, 44, 45, 46, 47] (by decide +kernel) (by decide +kernel)) (goodIn_sub (fun _ h => List.mem_cons_of_mem _ (List.mem_append_right _ h)) (by decide +kernel))
set_option maxRecDepth 20000 in
theorem gX5_busy_X5_busyIn : GoodIn wsX5_busy (wsV RX5 109 RX5 yX5_busyIn wsX5_busyIn) := goodIn_app (goodIn_of _ (by decide +kernel)) ggX5_busy_X5_busyIn
theorem dX5_busy_0 : decode cX5_busy 0 = .ok (.aload_n 0, 1) := by decide +kernel
theorem dX5_busy_1 : decode cX5_busy 1 = .ok (.iload_n 1, 1) := by decide +kernel
theorem dX5_busy_2 : decode cX5_busy 2 = .ok (.invokestatic 46, 3) := by decide +kernel
theorem dX5_busy_5 : decode cX5_busy 5 = .ok (.ifCond .ne 7, 3) := by decide +kernel
theorem dX5_busy_8 : decode cX5_busy 8 = .ok (.iconst 1, 1) := by decide +kernel
theorem dX5_busy_9 : decode cX5_busy 9 = .ok (.goto 4, 3) := by decide +kernel
theorem dX5_busy_12 : decode cX5_busy 12 = .ok (.iconst 0, 1) := by decide +kernel
theorem dX5_busy_13 : decode cX5_busy 13 = .ok (.iconst 1, 1) := by decide +kernel
theorem dX5_busy_14 : decode cX5_busy 14 = .ok (.invokevirtual 50, 3) := by decide +kernel
theorem dX5_busy_17 : decode cX5_busy 17 = .ok (.ifCond .ne 21, 3) := by decide +kernel
theorem dX5_busy_20 : decode cX5_busy 20 = .ok (.aload_n 0, 1) := by decide +kernel
theorem dX5_busy_21 : decode cX5_busy 21 = .ok (.iload_n 2, 1) := by decide +kernel
theorem dX5_busy_22 : decode cX5_busy 22 = .ok (.iload_n 3, 1) := by decide +kernel
theorem dX5_busy_23 : decode cX5_busy 23 = .ok (.if_icmp .le 7, 3) := by decide +kernel
theorem dX5_busy_26 : decode cX5_busy 26 = .ok (.iconst 1, 1) := by decide +kernel
theorem dX5_busy_27 : decode cX5_busy 27 = .ok (.goto 4, 3) := by decide +kernel
theorem dX5_busy_30 : decode cX5_busy 30 = .ok (.iconst 0, 1) := by decide +kernel
theorem dX5_busy_31 : decode cX5_busy 31 = .ok (.iconst 2, 1) := by decide +kernel
theorem dX5_busy_32 : decode cX5_busy 32 = .ok (.invokevirtual 50, 3) := by decide +kernel
theorem dX5_busy_35 : decode cX5_busy 35 = .ok (.ifCond .eq 7, 3) := by decide +kernel
theorem dX5_busy_38 : decode cX5_busy 38 = .ok (.iconst 0, 1) := by decide +kernel
theorem dX5_busy_39 : decode cX5_busy 39 = .ok (.goto 10, 3) := by decide +kernel
theorem dX5_busy_42 : decode cX5_busy 42 = .ok (.aload_n 0, 1) := by decide +kernel
theorem dX5_busy_43 : decode cX5_busy 43 = .ok (.iload_n 1, 1) := by decide +kernel
theorem dX5_busy_44 : decode cX5_busy 44 = .ok (.iload_n 2, 1) := by decide +kernel
theorem dX5_busy_45 : decode cX5_busy 45 = .ok (.iload_n 3, 1) := by decide +kernel
theorem dX5_busy_46 : decode cX5_busy 46 = .ok (.invokevirtual 109, 3) := by decide +kernel
theorem dX5_busy_49 : decode cX5_busy 49 = .ok (.ireturn, 1) := by decide +kernel
set_option maxRecDepth 20000 in
theorem ggX5_spans_X5_isHouse : GoodIn wsX5_spans wsX5_isHouse := goodIn_r _ [5] (by decide +kernel) (by decide +kernel)
set_option maxRecDepth 20000 in
theorem gX5_spans_X5_isHouse : GoodIn wsX5_spans (va_wsS RX5 46 yX5_isHouse wsX5_isHouse) := goodIn_app (goodIn_of _ (by decide +kernel)) ggX5_spans_X5_isHouse
set_option maxRecDepth 20000 in
theorem ggX5_spans_X5_isThrown : GoodIn wsX5_spans wsX5_isThrown := goodIn_r _ [9, 10, 33, 34, 35, 36, 37, 38, 39, 40, 41, 42, 43] (by decide +kernel) (by decide +kernel)
set_option maxRecDepth 20000 in
theorem gX5_spans_X5_isThrown : GoodIn wsX5_spans (wsV RX5 50 RX5 yX5_isThrown wsX5_isThrown) := goodIn_app (goodIn_of _ (by decide +kernel)) ggX5_spans_X5_isThrown
set_option maxRecDepth 20000 in
theorem ggX5_spans_X5_busyFrom : GoodIn wsX5_spans wsX5_busyFrom := goodIn_ca (goodIn_r _ [14, 1, 15, 16, 17, 18, 19, 4, 20, 21, 22, 23, 24, 25, 26, 27, 28, 33, 34, 35, 36, 37, 38, 39, 40, 41, 42, 43] (by decide +kernel) (by decide +kernel)) (goodIn_sub (fun _ h => List.mem_cons_of_mem _ (List.mem_append_right _ h)) (by decide +kernel))
set_option maxRecDepth 20000 in
theorem gX5_spans_X5_busyFrom : GoodIn wsX5_spans (wsV RX5 103 RX5 yX5_busyFrom wsX5_busyFrom) := goodIn_app (goodIn_of _ (by decide +kernel)) ggX5_spans_X5_busyFrom
set_option maxRecDepth 20000 in
theorem ggX5_spans_X5_idleFrom : GoodIn wsX5_spans wsX5_idleFrom := goodIn_ca (goodIn_r _ [32, 15, 16, 21, 17, 18, 19, 4, 20, 22, 23, 24, 25, 26, 27, 28, 33, 34, 35, 36, 37, 38, 39, 40, 41, 42, 43] (by decide +kernel) (by decide +kernel)) (goodIn_sub (fun _ h => List.mem_cons_of_mem _ (List.mem_append_right _ h)) (by decide +kernel))
set_option maxRecDepth 20000 in
theorem gX5_spans_X5_idleFrom : GoodIn wsX5_spans (wsV RX5 106 RX5 yX5_idleFrom wsX5_idleFrom) := goodIn_app (goodIn_of _ (by decide +kernel)) ggX5_spans_X5_idleFrom
theorem dX5_spans_0 : decode cX5_spans 0 = .ok (.aload_n 0, 1) := by decide +kernel
theorem dX5_spans_1 : decode cX5_spans 1 = .ok (.iload_n 1, 1) := by decide +kernel
theorem dX5_spans_2 : decode cX5_spans 2 = .ok (.invokestatic 46, 3) := by decide +kernel
theorem dX5_spans_5 : decode cX5_spans 5 = .ok (.ifCond .ne 7, 3) := by decide +kernel
theorem dX5_spans_8 : decode cX5_spans 8 = .ok (.iconst 1, 1) := by decide +kernel
theorem dX5_spans_9 : decode cX5_spans 9 = .ok (.goto 4, 3) := by decide +kernel
theorem dX5_spans_12 : decode cX5_spans 12 = .ok (.iconst 0, 1) := by decide +kernel
theorem dX5_spans_13 : decode cX5_spans 13 = .ok (.iconst 1, 1) := by decide +kernel
theorem dX5_spans_14 : decode cX5_spans 14 = .ok (.invokevirtual 50, 3) := by decide +kernel
theorem dX5_spans_17 : decode cX5_spans 17 = .ok (.ifCond .eq 5, 3) := by decide +kernel
theorem dX5_spans_20 : decode cX5_spans 20 = .ok (.iconst 0, 1) := by decide +kernel
theorem dX5_spans_21 : decode cX5_spans 21 = .ok (.ireturn, 1) := by decide +kernel
theorem dX5_spans_22 : decode cX5_spans 22 = .ok (.iconst 0, 1) := by decide +kernel
theorem dX5_spans_23 : decode cX5_spans 23 = .ok (.istore_n 2, 1) := by decide +kernel
theorem dX5_spans_24 : decode cX5_spans 24 = .ok (.aload_n 0, 1) := by decide +kernel
theorem dX5_spans_25 : decode cX5_spans 25 = .ok (.iload_n 1, 1) := by decide +kernel
theorem dX5_spans_26 : decode cX5_spans 26 = .ok (.iconst 0, 1) := by decide +kernel
theorem dX5_spans_27 : decode cX5_spans 27 = .ok (.invokevirtual 103, 3) := by decide +kernel
theorem dX5_spans_30 : decode cX5_spans 30 = .ok (.istore_n 3, 1) := by decide +kernel
theorem dX5_spans_31 : decode cX5_spans 31 = .ok (.iload_n 3, 1) := by decide +kernel
theorem dX5_spans_32 : decode cX5_spans 32 = .ok (.ldc 72, 2) := by decide +kernel
theorem dX5_spans_34 : decode cX5_spans 34 = .ok (.if_icmp .ge 21, 3) := by decide +kernel
theorem dX5_spans_37 : decode cX5_spans 37 = .ok (.iinc 2 1, 3) := by decide +kernel
theorem dX5_spans_40 : decode cX5_spans 40 = .ok (.aload_n 0, 1) := by decide +kernel
theorem dX5_spans_41 : decode cX5_spans 41 = .ok (.iload_n 1, 1) := by decide +kernel
theorem dX5_spans_42 : decode cX5_spans 42 = .ok (.aload_n 0, 1) := by decide +kernel
theorem dX5_spans_43 : decode cX5_spans 43 = .ok (.iload_n 1, 1) := by decide +kernel
theorem dX5_spans_44 : decode cX5_spans 44 = .ok (.iload_n 3, 1) := by decide +kernel
theorem dX5_spans_45 : decode cX5_spans 45 = .ok (.invokevirtual 106, 3) := by decide +kernel
theorem dX5_spans_48 : decode cX5_spans 48 = .ok (.invokevirtual 103, 3) := by decide +kernel
theorem dX5_spans_51 : decode cX5_spans 51 = .ok (.istore_n 3, 1) := by decide +kernel
theorem dX5_spans_52 : decode cX5_spans 52 = .ok (.goto (-21), 3) := by decide +kernel
theorem dX5_spans_55 : decode cX5_spans 55 = .ok (.iload_n 2, 1) := by decide +kernel
theorem dX5_spans_56 : decode cX5_spans 56 = .ok (.ireturn, 1) := by decide +kernel
set_option maxRecDepth 20000 in
theorem ggX5_span_X5_isHouse : GoodIn wsX5_span wsX5_isHouse := goodIn_r _ [5] (by decide +kernel) (by decide +kernel)
set_option maxRecDepth 20000 in
theorem gX5_span_X5_isHouse : GoodIn wsX5_span (va_wsS RX5 46 yX5_isHouse wsX5_isHouse) := goodIn_app (goodIn_of _ (by decide +kernel)) ggX5_span_X5_isHouse
set_option maxRecDepth 20000 in
theorem ggX5_span_X5_isThrown : GoodIn wsX5_span wsX5_isThrown := goodIn_r _ [9, 10, 37, 38, 39, 40, 41, 42, 43, 44, 45, 46, 47] (by decide +kernel) (by decide +kernel)
set_option maxRecDepth 20000 in
theorem gX5_span_X5_isThrown : GoodIn wsX5_span (wsV RX5 50 RX5 yX5_isThrown wsX5_isThrown) := goodIn_app (goodIn_of _ (by decide +kernel)) ggX5_span_X5_isThrown
set_option maxRecDepth 20000 in
theorem ggX5_span_X5_busyFrom : GoodIn wsX5_span wsX5_busyFrom := goodIn_ca (goodIn_r _ [14, 1, 15, 16, 17, 18, 19, 4, 20, 21, 22, 23, 24, 25, 26, 27, 28, 37, 38, 39, 40, 41, 42, 43, 44, 45, 46, 47] (by decide +kernel) (by decide +kernel)) (goodIn_sub (fun _ h => List.mem_cons_of_mem _ (List.mem_append_right _ h)) (by decide +kernel))
set_option maxRecDepth 20000 in
theorem gX5_span_X5_busyFrom : GoodIn wsX5_span (wsV RX5 103 RX5 yX5_busyFrom wsX5_busyFrom) := goodIn_app (goodIn_of _ (by decide +kernel)) ggX5_span_X5_busyFrom
set_option maxRecDepth 20000 in
theorem ggX5_span_X5_idleFrom : GoodIn wsX5_span wsX5_idleFrom := goodIn_ca (goodIn_r _ [32, 15, 16, 21, 17, 18, 19, 4, 20, 22, 23, 24, 25, 26, 27, 28, 37, 38, 39, 40, 41, 42, 43, 44, 45, 46, 47] (by decide +kernel) (by decide +kernel)) (goodIn_sub (fun _ h => List.mem_cons_of_mem _ (List.mem_append_right _ h)) (by decide +kernel))
set_option maxRecDepth 20000 in
theorem gX5_span_X5_idleFrom : GoodIn wsX5_span (wsV RX5 106 RX5 yX5_idleFrom wsX5_idleFrom) := goodIn_app (goodIn_of _ (by decide +kernel)) ggX5_span_X5_idleFrom
set_option maxRecDepth 20000 in
theorem ggX5_span_X5_greatestIn : GoodIn wsX5_span wsX5_greatestIn := goodIn_ca (goodIn_r _ [36, 15, 16, 23, 24, 25, 4, 26, 27, 28, 21, 17, 18, 19, 20, 22, 37, 38, 39, 40, 41, 42, 43, 44, 45, 46, 47] (by decide +kernel) (by decide +kernel)) (goodIn_sub (fun _ h => List.mem_cons_of_mem _ (List.mem_append_right _ h)) (by decide +kernel))
set_option maxRecDepth 20000 in
theorem gX5_span_X5_greatestIn : GoodIn wsX5_span (wsV RX5 100 RX5 yX5_greatestIn wsX5_greatestIn) := goodIn_app (goodIn_of _ (by decide +kernel)) ggX5_span_X5_greatestIn
theorem dX5_span_0 : decode cX5_span 0 = .ok (.aload_n 0, 1) := by decide +kernel
theorem dX5_span_1 : decode cX5_span 1 = .ok (.iload_n 1, 1) := by decide +kernel
theorem dX5_span_2 : decode cX5_span 2 = .ok (.invokestatic 46, 3) := by decide +kernel
theorem dX5_span_5 : decode cX5_span 5 = .ok (.ifCond .ne 7, 3) := by decide +kernel
theorem dX5_span_8 : decode cX5_span 8 = .ok (.iconst 1, 1) := by decide +kernel
theorem dX5_span_9 : decode cX5_span 9 = .ok (.goto 4, 3) := by decide +kernel
theorem dX5_span_12 : decode cX5_span 12 = .ok (.iconst 0, 1) := by decide +kernel
theorem dX5_span_13 : decode cX5_span 13 = .ok (.iconst 1, 1) := by decide +kernel
theorem dX5_span_14 : decode cX5_span 14 = .ok (.invokevirtual 50, 3) := by decide +kernel
theorem dX5_span_17 : decode cX5_span 17 = .ok (.ifCond .ne 34, 3) := by decide +kernel
theorem dX5_span_20 : decode cX5_span 20 = .ok (.aload_n 0, 1) := by decide +kernel
theorem dX5_span_21 : decode cX5_span 21 = .ok (.iload_n 3, 1) := by decide +kernel
theorem dX5_span_22 : decode cX5_span 22 = .ok (.bipush 98, 2) := by decide +kernel
theorem dX5_span_24 : decode cX5_span 24 = .ok (.if_icmp .eq 19, 3) := by decide +kernel
theorem dX5_span_27 : decode cX5_span 27 = .ok (.iload_n 3, 1) := by decide +kernel
theorem dX5_span_28 : decode cX5_span 28 = .ok (.bipush 101, 2) := by decide +kernel
theorem dX5_span_30 : decode cX5_span 30 = .ok (.if_icmp .eq 13, 3) := by decide +kernel
theorem dX5_span_33 : decode cX5_span 33 = .ok (.iload_n 3, 1) := by decide +kernel
theorem dX5_span_34 : decode cX5_span 34 = .ok (.bipush 103, 2) := by decide +kernel
theorem dX5_span_36 : decode cX5_span 36 = .ok (.if_icmp .eq 7, 3) := by decide +kernel
theorem dX5_span_39 : decode cX5_span 39 = .ok (.iconst 1, 1) := by decide +kernel
theorem dX5_span_40 : decode cX5_span 40 = .ok (.goto 4, 3) := by decide +kernel
theorem dX5_span_43 : decode cX5_span 43 = .ok (.iconst 0, 1) := by decide +kernel
theorem dX5_span_44 : decode cX5_span 44 = .ok (.iconst 2, 1) := by decide +kernel
theorem dX5_span_45 : decode cX5_span 45 = .ok (.invokevirtual 50, 3) := by decide +kernel
theorem dX5_span_48 : decode cX5_span 48 = .ok (.ifCond .eq 5, 3) := by decide +kernel
theorem dX5_span_51 : decode cX5_span 51 = .ok (.iconst 0, 1) := by decide +kernel
theorem dX5_span_52 : decode cX5_span 52 = .ok (.ireturn, 1) := by decide +kernel
theorem dX5_span_53 : decode cX5_span 53 = .ok (.aload_n 0, 1) := by decide +kernel
theorem dX5_span_54 : decode cX5_span 54 = .ok (.iload_n 1, 1) := by decide +kernel
theorem dX5_span_55 : decode cX5_span 55 = .ok (.iconst 0, 1) := by decide +kernel
theorem dX5_span_56 : decode cX5_span 56 = .ok (.invokevirtual 103, 3) := by decide +kernel
theorem dX5_span_59 : decode cX5_span 59 = .ok (.istore 4, 2) := by decide +kernel
theorem dX5_span_61 : decode cX5_span 61 = .ok (.iconst 0, 1) := by decide +kernel
theorem dX5_span_62 : decode cX5_span 62 = .ok (.istore 5, 2) := by decide +kernel
theorem dX5_span_64 : decode cX5_span 64 = .ok (.iload 5, 2) := by decide +kernel
theorem dX5_span_66 : decode cX5_span 66 = .ok (.iload_n 2, 1) := by decide +kernel
theorem dX5_span_67 : decode cX5_span 67 = .ok (.if_icmp .ge 30, 3) := by decide +kernel
theorem dX5_span_70 : decode cX5_span 70 = .ok (.iload 4, 2) := by decide +kernel
theorem dX5_span_72 : decode cX5_span 72 = .ok (.ldc 72, 2) := by decide +kernel
theorem dX5_span_74 : decode cX5_span 74 = .ok (.if_icmp .ge 23, 3) := by decide +kernel
theorem dX5_span_77 : decode cX5_span 77 = .ok (.aload_n 0, 1) := by decide +kernel
theorem dX5_span_78 : decode cX5_span 78 = .ok (.iload_n 1, 1) := by decide +kernel
theorem dX5_span_79 : decode cX5_span 79 = .ok (.aload_n 0, 1) := by decide +kernel
theorem dX5_span_80 : decode cX5_span 80 = .ok (.iload_n 1, 1) := by decide +kernel
theorem dX5_span_81 : decode cX5_span 81 = .ok (.iload 4, 2) := by decide +kernel
theorem dX5_span_83 : decode cX5_span 83 = .ok (.invokevirtual 106, 3) := by decide +kernel
theorem dX5_span_86 : decode cX5_span 86 = .ok (.invokevirtual 103, 3) := by decide +kernel
theorem dX5_span_89 : decode cX5_span 89 = .ok (.istore 4, 2) := by decide +kernel
theorem dX5_span_91 : decode cX5_span 91 = .ok (.iinc 5 1, 3) := by decide +kernel
theorem dX5_span_94 : decode cX5_span 94 = .ok (.goto (-30), 3) := by decide +kernel
theorem dX5_span_97 : decode cX5_span 97 = .ok (.aload_n 0, 1) := by decide +kernel
theorem dX5_span_98 : decode cX5_span 98 = .ok (.iload_n 2, 1) := by decide +kernel
theorem dX5_span_99 : decode cX5_span 99 = .ok (.ifCond .lt 10, 3) := by decide +kernel
theorem dX5_span_102 : decode cX5_span 102 = .ok (.iload 4, 2) := by decide +kernel
theorem dX5_span_104 : decode cX5_span 104 = .ok (.ldc 72, 2) := by decide +kernel
theorem dX5_span_106 : decode cX5_span 106 = .ok (.if_icmp .ne 7, 3) := by decide +kernel
theorem dX5_span_109 : decode cX5_span 109 = .ok (.iconst 1, 1) := by decide +kernel
theorem dX5_span_110 : decode cX5_span 110 = .ok (.goto 4, 3) := by decide +kernel
theorem dX5_span_113 : decode cX5_span 113 = .ok (.iconst 0, 1) := by decide +kernel
theorem dX5_span_114 : decode cX5_span 114 = .ok (.iconst 3, 1) := by decide +kernel
theorem dX5_span_115 : decode cX5_span 115 = .ok (.invokevirtual 50, 3) := by decide +kernel
theorem dX5_span_118 : decode cX5_span 118 = .ok (.ifCond .eq 5, 3) := by decide +kernel
theorem dX5_span_121 : decode cX5_span 121 = .ok (.iconst 0, 1) := by decide +kernel
theorem dX5_span_122 : decode cX5_span 122 = .ok (.ireturn, 1) := by decide +kernel
theorem dX5_span_123 : decode cX5_span 123 = .ok (.aload_n 0, 1) := by decide +kernel
theorem dX5_span_124 : decode cX5_span 124 = .ok (.iload_n 1, 1) := by decide +kernel
theorem dX5_span_125 : decode cX5_span 125 = .ok (.iload 4, 2) := by decide +kernel
theorem dX5_span_127 : decode cX5_span 127 = .ok (.invokevirtual 106, 3) := by decide +kernel
theorem dX5_span_130 : decode cX5_span 130 = .ok (.istore 5, 2) := by decide +kernel
theorem dX5_span_132 : decode cX5_span 132 = .ok (.iload_n 3, 1) := by decide +kernel
theorem dX5_span_133 : decode cX5_span 133 = .ok (.bipush 98, 2) := by decide +kernel
theorem dX5_span_135 : decode cX5_span 135 = .ok (.if_icmp .ne 8, 3) := by decide +kernel
theorem dX5_span_138 : decode cX5_span 138 = .ok (.iload 4, 2) := by decide +kernel
theorem dX5_span_140 : decode cX5_span 140 = .ok (.goto 23, 3) := by decide +kernel
theorem dX5_span_143 : decode cX5_span 143 = .ok (.iload_n 3, 1) := by decide +kernel
theorem dX5_span_144 : decode cX5_span 144 = .ok (.bipush 101, 2) := by decide +kernel
theorem dX5_span_146 : decode cX5_span 146 = .ok (.if_icmp .ne 8, 3) := by decide +kernel
theorem dX5_span_149 : decode cX5_span 149 = .ok (.iload 5, 2) := by decide +kernel
theorem dX5_span_151 : decode cX5_span 151 = .ok (.goto 12, 3) := by decide +kernel
theorem dX5_span_154 : decode cX5_span 154 = .ok (.aload_n 0, 1) := by decide +kernel
theorem dX5_span_155 : decode cX5_span 155 = .ok (.iload_n 1, 1) := by decide +kernel
theorem dX5_span_156 : decode cX5_span 156 = .ok (.iload 4, 2) := by decide +kernel
theorem dX5_span_158 : decode cX5_span 158 = .ok (.iload 5, 2) := by decide +kernel
theorem dX5_span_160 : decode cX5_span 160 = .ok (.invokevirtual 100, 3) := by decide +kernel
theorem dX5_span_163 : decode cX5_span 163 = .ok (.ireturn, 1) := by decide +kernel
set_option maxRecDepth 20000 in
theorem ggX5_free_X5_isHouse : GoodIn wsX5_free wsX5_isHouse := goodIn_r _ [4] (by decide +kernel) (by decide +kernel)
set_option maxRecDepth 20000 in
theorem gX5_free_X5_isHouse : GoodIn wsX5_free (va_wsS RX5 46 yX5_isHouse wsX5_isHouse) := goodIn_app (goodIn_of _ (by decide +kernel)) ggX5_free_X5_isHouse
set_option maxRecDepth 20000 in
theorem ggX5_free_X5_isThrown : GoodIn wsX5_free wsX5_isThrown := goodIn_r _ [8, 9, 36, 37, 38, 39, 40, 41, 42, 43, 44, 45, 46] (by decide +kernel) (by decide +kernel)
set_option maxRecDepth 20000 in
theorem gX5_free_X5_isThrown : GoodIn wsX5_free (wsV RX5 50 RX5 yX5_isThrown wsX5_isThrown) := goodIn_app (goodIn_of _ (by decide +kernel)) ggX5_free_X5_isThrown
set_option maxRecDepth 20000 in
theorem ggX5_free_X5_isIn : GoodIn wsX5_free wsX5_isIn := goodIn_r _ [12] (by decide +kernel) (by decide +kernel)
set_option maxRecDepth 20000 in
theorem gX5_free_X5_isIn : GoodIn wsX5_free (va_wsS RX5 54 yX5_isIn wsX5_isIn) := goodIn_app (goodIn_of _ (by decide +kernel)) ggX5_free_X5_isIn
set_option maxRecDepth 20000 in
theorem ggX5_free_X5_busyFrom : GoodIn wsX5_free wsX5_busyFrom := goodIn_ca (goodIn_r _ [16, 17, 18, 19, 20, 21, 22, 3, 23, 24, 25, 26, 27, 28, 29, 30, 31, 36, 37, 38, 39, 40, 41, 42, 43, 44, 45, 46] (by decide +kernel) (by decide +kernel)) (goodIn_sub (fun _ h => List.mem_cons_of_mem _ (List.mem_append_right _ h)) (by decide +kernel))
set_option maxRecDepth 20000 in
theorem gX5_free_X5_busyFrom : GoodIn wsX5_free (wsV RX5 103 RX5 yX5_busyFrom wsX5_busyFrom) := goodIn_app (goodIn_of _ (by decide +kernel)) ggX5_free_X5_busyFrom
set_option maxRecDepth 20000 in
theorem ggX5_free_X5_idleFrom : GoodIn wsX5_free wsX5_idleFrom := goodIn_ca (goodIn_r _ [35, 18, 19, 24, 20, 21, 22, 3, 23, 25, 26, 27, 28, 29, 30, 31, 36, 37, 38, 39, 40, 41, 42, 43, 44, 45, 46] (by decide +kernel) (by decide +kernel)) (goodIn_sub (fun _ h => List.mem_cons_of_mem _ (List.mem_append_right _ h)) (by decide +kernel))
set_option maxRecDepth 20000 in
theorem gX5_free_X5_idleFrom : GoodIn wsX5_free (wsV RX5 106 RX5 yX5_idleFrom wsX5_idleFrom) := goodIn_app (goodIn_of _ (by decide +kernel)) ggX5_free_X5_idleFrom
theorem dX5_free_0 : decode cX5_free 0 = .ok (.aload_n 0, 1) := by decide +kernel
theorem dX5_free_1 : decode cX5_free 1 = .ok (.iload_n 1, 1) := by decide +kernel
theorem dX5_free_2 : decode cX5_free 2 = .ok (.invokestatic 46, 3) := by decide +kernel
theorem dX5_free_5 : decode cX5_free 5 = .ok (.ifCond .ne 7, 3) := by decide +kernel
theorem dX5_free_8 : decode cX5_free 8 = .ok (.iconst 1, 1) := by decide +kernel
theorem dX5_free_9 : decode cX5_free 9 = .ok (.goto 4, 3) := by decide +kernel
theorem dX5_free_12 : decode cX5_free 12 = .ok (.iconst 0, 1) := by decide +kernel
theorem dX5_free_13 : decode cX5_free 13 = .ok (.iconst 1, 1) := by decide +kernel
theorem dX5_free_14 : decode cX5_free 14 = .ok (.invokevirtual 50, 3) := by decide +kernel
theorem dX5_free_17 : decode cX5_free 17 = .ok (.ifCond .ne 38, 3) := by decide +kernel
theorem dX5_free_20 : decode cX5_free 20 = .ok (.aload_n 0, 1) := by decide +kernel
theorem dX5_free_21 : decode cX5_free 21 = .ok (.iload_n 2, 1) := by decide +kernel
theorem dX5_free_22 : decode cX5_free 22 = .ok (.iconst 0, 1) := by decide +kernel
theorem dX5_free_23 : decode cX5_free 23 = .ok (.sipush 20000, 3) := by decide +kernel
theorem dX5_free_26 : decode cX5_free 26 = .ok (.invokestatic 54, 3) := by decide +kernel
theorem dX5_free_29 : decode cX5_free 29 = .ok (.ifCond .eq 14, 3) := by decide +kernel
theorem dX5_free_32 : decode cX5_free 32 = .ok (.iload_n 3, 1) := by decide +kernel
theorem dX5_free_33 : decode cX5_free 33 = .ok (.iconst 1, 1) := by decide +kernel
theorem dX5_free_34 : decode cX5_free 34 = .ok (.sipush 500, 3) := by decide +kernel
theorem dX5_free_37 : decode cX5_free 37 = .ok (.invokestatic 54, 3) := by decide +kernel
theorem dX5_free_40 : decode cX5_free 40 = .ok (.ifCond .ne 7, 3) := by decide +kernel
theorem dX5_free_43 : decode cX5_free 43 = .ok (.iconst 1, 1) := by decide +kernel
theorem dX5_free_44 : decode cX5_free 44 = .ok (.goto 4, 3) := by decide +kernel
theorem dX5_free_47 : decode cX5_free 47 = .ok (.iconst 0, 1) := by decide +kernel
theorem dX5_free_48 : decode cX5_free 48 = .ok (.iconst 2, 1) := by decide +kernel
theorem dX5_free_49 : decode cX5_free 49 = .ok (.invokevirtual 50, 3) := by decide +kernel
theorem dX5_free_52 : decode cX5_free 52 = .ok (.ifCond .eq 5, 3) := by decide +kernel
theorem dX5_free_55 : decode cX5_free 55 = .ok (.iconst 0, 1) := by decide +kernel
theorem dX5_free_56 : decode cX5_free 56 = .ok (.ireturn, 1) := by decide +kernel
theorem dX5_free_57 : decode cX5_free 57 = .ok (.iload_n 2, 1) := by decide +kernel
theorem dX5_free_58 : decode cX5_free 58 = .ok (.istore 4, 2) := by decide +kernel
theorem dX5_free_60 : decode cX5_free 60 = .ok (.aload_n 0, 1) := by decide +kernel
theorem dX5_free_61 : decode cX5_free 61 = .ok (.iload_n 1, 1) := by decide +kernel
theorem dX5_free_62 : decode cX5_free 62 = .ok (.iload 4, 2) := by decide +kernel
theorem dX5_free_64 : decode cX5_free 64 = .ok (.invokevirtual 103, 3) := by decide +kernel
theorem dX5_free_67 : decode cX5_free 67 = .ok (.istore 5, 2) := by decide +kernel
theorem dX5_free_69 : decode cX5_free 69 = .ok (.iload 5, 2) := by decide +kernel
theorem dX5_free_71 : decode cX5_free 71 = .ok (.iload 4, 2) := by decide +kernel
theorem dX5_free_73 : decode cX5_free 73 = .ok (.isub, 1) := by decide +kernel
theorem dX5_free_74 : decode cX5_free 74 = .ok (.iload_n 3, 1) := by decide +kernel
theorem dX5_free_75 : decode cX5_free 75 = .ok (.if_icmp .ge 24, 3) := by decide +kernel
theorem dX5_free_78 : decode cX5_free 78 = .ok (.aload_n 0, 1) := by decide +kernel
theorem dX5_free_79 : decode cX5_free 79 = .ok (.iload_n 1, 1) := by decide +kernel
theorem dX5_free_80 : decode cX5_free 80 = .ok (.iload 5, 2) := by decide +kernel
theorem dX5_free_82 : decode cX5_free 82 = .ok (.invokevirtual 106, 3) := by decide +kernel
theorem dX5_free_85 : decode cX5_free 85 = .ok (.istore 4, 2) := by decide +kernel
theorem dX5_free_87 : decode cX5_free 87 = .ok (.aload_n 0, 1) := by decide +kernel
theorem dX5_free_88 : decode cX5_free 88 = .ok (.iload_n 1, 1) := by decide +kernel
theorem dX5_free_89 : decode cX5_free 89 = .ok (.iload 4, 2) := by decide +kernel
theorem dX5_free_91 : decode cX5_free 91 = .ok (.invokevirtual 103, 3) := by decide +kernel
theorem dX5_free_94 : decode cX5_free 94 = .ok (.istore 5, 2) := by decide +kernel
theorem dX5_free_96 : decode cX5_free 96 = .ok (.goto (-27), 3) := by decide +kernel
theorem dX5_free_99 : decode cX5_free 99 = .ok (.iload 4, 2) := by decide +kernel
theorem dX5_free_101 : decode cX5_free 101 = .ok (.ireturn, 1) := by decide +kernel
set_option maxRecDepth 20000 in
theorem ggX5_loadOf_X5_isOf : GoodIn wsX5_loadOf wsX5_isOf := goodIn_ca (goodIn_r _ [8, 9, 10, 3, 11, 12, 13, 14, 15, 16, 17, 18, 19, 20, 21] (by decide +kernel) (by decide +kernel)) (goodIn_sub (fun _ h => List.mem_cons_of_mem _ (List.mem_append_right _ h)) (by decide +kernel))
set_option maxRecDepth 20000 in
theorem gX5_loadOf_X5_isOf : GoodIn wsX5_loadOf (wsV RX5 91 RX5 yX5_isOf wsX5_isOf) := goodIn_app (goodIn_of _ (by decide +kernel)) ggX5_loadOf_X5_isOf
theorem dX5_loadOf_0 : decode cX5_loadOf 0 = .ok (.lconst 0, 1) := by decide +kernel
theorem dX5_loadOf_1 : decode cX5_loadOf 1 = .ok (.lstore_n 2, 1) := by decide +kernel
theorem dX5_loadOf_2 : decode cX5_loadOf 2 = .ok (.iconst 0, 1) := by decide +kernel
theorem dX5_loadOf_3 : decode cX5_loadOf 3 = .ok (.istore 4, 2) := by decide +kernel
theorem dX5_loadOf_5 : decode cX5_loadOf 5 = .ok (.iload 4, 2) := by decide +kernel
theorem dX5_loadOf_7 : decode cX5_loadOf 7 = .ok (.aload_n 0, 1) := by decide +kernel
theorem dX5_loadOf_8 : decode cX5_loadOf 8 = .ok (.getfield 35, 3) := by decide +kernel
theorem dX5_loadOf_11 : decode cX5_loadOf 11 = .ok (.if_icmp .ge 43, 3) := by decide +kernel
theorem dX5_loadOf_14 : decode cX5_loadOf 14 = .ok (.lload_n 2, 1) := by decide +kernel
theorem dX5_loadOf_15 : decode cX5_loadOf 15 = .ok (.aload_n 0, 1) := by decide +kernel
theorem dX5_loadOf_16 : decode cX5_loadOf 16 = .ok (.iload_n 1, 1) := by decide +kernel
theorem dX5_loadOf_17 : decode cX5_loadOf 17 = .ok (.iload 4, 2) := by decide +kernel
theorem dX5_loadOf_19 : decode cX5_loadOf 19 = .ok (.invokevirtual 91, 3) := by decide +kernel
theorem dX5_loadOf_22 : decode cX5_loadOf 22 = .ok (.ifCond .eq 23, 3) := by decide +kernel
theorem dX5_loadOf_25 : decode cX5_loadOf 25 = .ok (.aload_n 0, 1) := by decide +kernel
theorem dX5_loadOf_26 : decode cX5_loadOf 26 = .ok (.getfield 16, 3) := by decide +kernel
theorem dX5_loadOf_29 : decode cX5_loadOf 29 = .ok (.iload 4, 2) := by decide +kernel
theorem dX5_loadOf_31 : decode cX5_loadOf 31 = .ok (.iaload, 1) := by decide +kernel
theorem dX5_loadOf_32 : decode cX5_loadOf 32 = .ok (.i2l, 1) := by decide +kernel
theorem dX5_loadOf_33 : decode cX5_loadOf 33 = .ok (.aload_n 0, 1) := by decide +kernel
theorem dX5_loadOf_34 : decode cX5_loadOf 34 = .ok (.getfield 13, 3) := by decide +kernel
theorem dX5_loadOf_37 : decode cX5_loadOf 37 = .ok (.iload 4, 2) := by decide +kernel
theorem dX5_loadOf_39 : decode cX5_loadOf 39 = .ok (.iaload, 1) := by decide +kernel
theorem dX5_loadOf_40 : decode cX5_loadOf 40 = .ok (.i2l, 1) := by decide +kernel
theorem dX5_loadOf_41 : decode cX5_loadOf 41 = .ok (.lmul, 1) := by decide +kernel
theorem dX5_loadOf_42 : decode cX5_loadOf 42 = .ok (.goto 4, 3) := by decide +kernel
theorem dX5_loadOf_45 : decode cX5_loadOf 45 = .ok (.lconst 0, 1) := by decide +kernel
theorem dX5_loadOf_46 : decode cX5_loadOf 46 = .ok (.ladd, 1) := by decide +kernel
theorem dX5_loadOf_47 : decode cX5_loadOf 47 = .ok (.lstore_n 2, 1) := by decide +kernel
theorem dX5_loadOf_48 : decode cX5_loadOf 48 = .ok (.iinc 4 1, 3) := by decide +kernel
theorem dX5_loadOf_51 : decode cX5_loadOf 51 = .ok (.goto (-46), 3) := by decide +kernel
theorem dX5_loadOf_54 : decode cX5_loadOf 54 = .ok (.lload_n 2, 1) := by decide +kernel
theorem dX5_loadOf_55 : decode cX5_loadOf 55 = .ok (.lreturn, 1) := by decide +kernel
set_option maxRecDepth 20000 in
theorem ggX5_load_X5_isHouse : GoodIn wsX5_load wsX5_isHouse := goodIn_r _ [4] (by decide +kernel) (by decide +kernel)
set_option maxRecDepth 20000 in
theorem gX5_load_X5_isHouse : GoodIn wsX5_load (va_wsS RX5 46 yX5_isHouse wsX5_isHouse) := goodIn_app (goodIn_of _ (by decide +kernel)) ggX5_load_X5_isHouse
set_option maxRecDepth 20000 in
theorem ggX5_load_X5_isThrown : GoodIn wsX5_load wsX5_isThrown := goodIn_r _ [8, 9, 23, 24, 25, 26, 27, 28, 29, 30, 31, 32, 33] (by decide +kernel) (by decide +kernel)
set_option maxRecDepth 20000 in
theorem gX5_load_X5_isThrown : GoodIn wsX5_load (wsV RX5 50 RX5 yX5_isThrown wsX5_isThrown) := goodIn_app (goodIn_of _ (by decide +kernel)) ggX5_load_X5_isThrown
set_option maxRecDepth 20000 in
theorem ggX5_load_X5_loadOf : GoodIn wsX5_load wsX5_loadOf := goodIn_ca (goodIn_r _ [13, 14, 15, 16, 17, 18, 19, 3, 20, 21, 22, 23, 24, 25, 26, 27, 28, 29, 30, 31, 32, 33] (by decide +kernel) (by decide +kernel)) (goodIn_sub (fun _ h => List.mem_cons_of_mem _ (List.mem_append_right _ h)) (by decide +kernel))
set_option maxRecDepth 20000 in
theorem gX5_load_X5_loadOf : GoodIn wsX5_load (wsV RX5 112 RX5 yX5_loadOf wsX5_loadOf) := goodIn_app (goodIn_of _ (by decide +kernel)) ggX5_load_X5_loadOf
theorem dX5_load_0 : decode cX5_load 0 = .ok (.aload_n 0, 1) := by decide +kernel
theorem dX5_load_1 : decode cX5_load 1 = .ok (.iload_n 1, 1) := by decide +kernel
theorem dX5_load_2 : decode cX5_load 2 = .ok (.invokestatic 46, 3) := by decide +kernel
theorem dX5_load_5 : decode cX5_load 5 = .ok (.ifCond .ne 7, 3) := by decide +kernel
theorem dX5_load_8 : decode cX5_load 8 = .ok (.iconst 1, 1) := by decide +kernel
theorem dX5_load_9 : decode cX5_load 9 = .ok (.goto 4, 3) := by decide +kernel
theorem dX5_load_12 : decode cX5_load 12 = .ok (.iconst 0, 1) := by decide +kernel
theorem dX5_load_13 : decode cX5_load 13 = .ok (.iconst 1, 1) := by decide +kernel
theorem dX5_load_14 : decode cX5_load 14 = .ok (.invokevirtual 50, 3) := by decide +kernel
theorem dX5_load_17 : decode cX5_load 17 = .ok (.ifCond .eq 7, 3) := by decide +kernel
theorem dX5_load_20 : decode cX5_load 20 = .ok (.lconst 0, 1) := by decide +kernel
theorem dX5_load_21 : decode cX5_load 21 = .ok (.goto 8, 3) := by decide +kernel
theorem dX5_load_24 : decode cX5_load 24 = .ok (.aload_n 0, 1) := by decide +kernel
theorem dX5_load_25 : decode cX5_load 25 = .ok (.iload_n 1, 1) := by decide +kernel
theorem dX5_load_26 : decode cX5_load 26 = .ok (.invokevirtual 112, 3) := by decide +kernel
theorem dX5_load_29 : decode cX5_load 29 = .ok (.lreturn, 1) := by decide +kernel
set_option maxRecDepth 20000 in
theorem ggX5_mean_X5_isHouse : GoodIn wsX5_mean wsX5_isHouse := goodIn_r _ [5] (by decide +kernel) (by decide +kernel)
set_option maxRecDepth 20000 in
theorem gX5_mean_X5_isHouse : GoodIn wsX5_mean (va_wsS RX5 46 yX5_isHouse wsX5_isHouse) := goodIn_app (goodIn_of _ (by decide +kernel)) ggX5_mean_X5_isHouse
set_option maxRecDepth 20000 in
theorem ggX5_mean_X5_isThrown : GoodIn wsX5_mean wsX5_isThrown := goodIn_r _ [9, 10, 41, 42, 43, 44, 45, 46, 47, 48, 49, 50, 51] (by decide +kernel) (by decide +kernel)
set_option maxRecDepth 20000 in
theorem gX5_mean_X5_isThrown : GoodIn wsX5_mean (wsV RX5 50 RX5 yX5_isThrown wsX5_isThrown) := goodIn_app (goodIn_of _ (by decide +kernel)) ggX5_mean_X5_isThrown
set_option maxRecDepth 20000 in
theorem ggX5_mean_X5_busyIn : GoodIn wsX5_mean wsX5_busyIn := goodIn_ca (goodIn_r _ [14, 1, 15, 16, 17, 4, 18, 19, 20, 21, 22, 23, 24, 25, 26, 27, 28, 29, 30, 31, 32, 33, 34, 35, 36, 41, 42, 43, 44, 45, 46, 47, 48, 49, 50, 51] (by decide +kernel) (by decide +kernel)) (goodIn_sub (fun _ h => List.mem_cons_of_mem _ (List.mem_append_right _ h)) (by decide +kernel))
set_option maxRecDepth 20000 in
theorem gX5_mean_X5_busyIn : GoodIn wsX5_mean (wsV RX5 109 RX5 yX5_busyIn wsX5_busyIn) := goodIn_app (goodIn_of _ (by decide +kernel)) ggX5_mean_X5_busyIn
set_option maxRecDepth 20000 in
theorem ggX5_mean_X5_loadOf : GoodIn wsX5_mean wsX5_loadOf := goodIn_ca (goodIn_r _ [40, 19, 26, 25, 27, 28, 29, 4, 30, 31, 32, 41, 42, 43, 44, 45, 46, 47, 48, 49, 50, 51] (by decide +kernel) (by decide +kernel)) (goodIn_sub (fun _ h => List.mem_cons_of_mem _ (List.mem_append_right _ h)) (by decide +kernel))
set_option maxRecDepth 20000 in
theorem gX5_mean_X5_loadOf : GoodIn wsX5_mean (wsV RX5 112 RX5 yX5_loadOf wsX5_loadOf) := goodIn_app (goodIn_of _ (by decide +kernel)) ggX5_mean_X5_loadOf
theorem dX5_mean_0 : decode cX5_mean 0 = .ok (.aload_n 0, 1) := by decide +kernel
theorem dX5_mean_1 : decode cX5_mean 1 = .ok (.iload_n 1, 1) := by decide +kernel
theorem dX5_mean_2 : decode cX5_mean 2 = .ok (.invokestatic 46, 3) := by decide +kernel
theorem dX5_mean_5 : decode cX5_mean 5 = .ok (.ifCond .ne 7, 3) := by decide +kernel
theorem dX5_mean_8 : decode cX5_mean 8 = .ok (.iconst 1, 1) := by decide +kernel
theorem dX5_mean_9 : decode cX5_mean 9 = .ok (.goto 4, 3) := by decide +kernel
theorem dX5_mean_12 : decode cX5_mean 12 = .ok (.iconst 0, 1) := by decide +kernel
theorem dX5_mean_13 : decode cX5_mean 13 = .ok (.iconst 1, 1) := by decide +kernel
theorem dX5_mean_14 : decode cX5_mean 14 = .ok (.invokevirtual 50, 3) := by decide +kernel
theorem dX5_mean_17 : decode cX5_mean 17 = .ok (.ifCond .eq 5, 3) := by decide +kernel
theorem dX5_mean_20 : decode cX5_mean 20 = .ok (.dconst 0, 1) := by decide +kernel
theorem dX5_mean_21 : decode cX5_mean 21 = .ok (.dreturn, 1) := by decide +kernel
theorem dX5_mean_22 : decode cX5_mean 22 = .ok (.aload_n 0, 1) := by decide +kernel
theorem dX5_mean_23 : decode cX5_mean 23 = .ok (.iload_n 1, 1) := by decide +kernel
theorem dX5_mean_24 : decode cX5_mean 24 = .ok (.iconst 0, 1) := by decide +kernel
theorem dX5_mean_25 : decode cX5_mean 25 = .ok (.ldc 72, 2) := by decide +kernel
theorem dX5_mean_27 : decode cX5_mean 27 = .ok (.invokevirtual 109, 3) := by decide +kernel
theorem dX5_mean_30 : decode cX5_mean 30 = .ok (.istore_n 2, 1) := by decide +kernel
theorem dX5_mean_31 : decode cX5_mean 31 = .ok (.aload_n 0, 1) := by decide +kernel
theorem dX5_mean_32 : decode cX5_mean 32 = .ok (.iload_n 2, 1) := by decide +kernel
theorem dX5_mean_33 : decode cX5_mean 33 = .ok (.ifCond .ne 7, 3) := by decide +kernel
theorem dX5_mean_36 : decode cX5_mean 36 = .ok (.iconst 1, 1) := by decide +kernel
theorem dX5_mean_37 : decode cX5_mean 37 = .ok (.goto 4, 3) := by decide +kernel
theorem dX5_mean_40 : decode cX5_mean 40 = .ok (.iconst 0, 1) := by decide +kernel
theorem dX5_mean_41 : decode cX5_mean 41 = .ok (.iconst 2, 1) := by decide +kernel
theorem dX5_mean_42 : decode cX5_mean 42 = .ok (.invokevirtual 50, 3) := by decide +kernel
theorem dX5_mean_45 : decode cX5_mean 45 = .ok (.ifCond .eq 7, 3) := by decide +kernel
theorem dX5_mean_48 : decode cX5_mean 48 = .ok (.dconst 0, 1) := by decide +kernel
theorem dX5_mean_49 : decode cX5_mean 49 = .ok (.goto 12, 3) := by decide +kernel
theorem dX5_mean_52 : decode cX5_mean 52 = .ok (.aload_n 0, 1) := by decide +kernel
theorem dX5_mean_53 : decode cX5_mean 53 = .ok (.iload_n 1, 1) := by decide +kernel
theorem dX5_mean_54 : decode cX5_mean 54 = .ok (.invokevirtual 112, 3) := by decide +kernel
theorem dX5_mean_57 : decode cX5_mean 57 = .ok (.l2d, 1) := by decide +kernel
theorem dX5_mean_58 : decode cX5_mean 58 = .ok (.iload_n 2, 1) := by decide +kernel
theorem dX5_mean_59 : decode cX5_mean 59 = .ok (.i2d, 1) := by decide +kernel
theorem dX5_mean_60 : decode cX5_mean 60 = .ok (.ddiv, 1) := by decide +kernel
theorem dX5_mean_61 : decode cX5_mean 61 = .ok (.dreturn, 1) := by decide +kernel
set_option maxRecDepth 20000 in
theorem ggX5_share_X5_isHouse : GoodIn wsX5_share wsX5_isHouse := goodIn_r _ [4] (by decide +kernel) (by decide +kernel)
set_option maxRecDepth 20000 in
theorem gX5_share_X5_isHouse : GoodIn wsX5_share (va_wsS RX5 46 yX5_isHouse wsX5_isHouse) := goodIn_app (goodIn_of _ (by decide +kernel)) ggX5_share_X5_isHouse
set_option maxRecDepth 20000 in
theorem ggX5_share_X5_isThrown : GoodIn wsX5_share wsX5_isThrown := goodIn_r _ [8, 9, 17, 18, 19, 20, 21, 22, 23, 24, 25, 26, 27] (by decide +kernel) (by decide +kernel)
set_option maxRecDepth 20000 in
theorem gX5_share_X5_isThrown : GoodIn wsX5_share (wsV RX5 50 RX5 yX5_isThrown wsX5_isThrown) := goodIn_app (goodIn_of _ (by decide +kernel)) ggX5_share_X5_isThrown
set_option maxRecDepth 20000 in
theorem ggX5_share_X5_many : GoodIn wsX5_share wsX5_many := goodIn_ca (goodIn_r _ [13, 14, 15, 16, 17, 18, 19, 20, 21, 22, 23, 24, 25, 26, 27] (by decide +kernel) (by decide +kernel)) (goodIn_sub (fun _ h => List.mem_cons_of_mem _ (List.mem_append_right _ h)) (by decide +kernel))
set_option maxRecDepth 20000 in
theorem gX5_share_X5_many : GoodIn wsX5_share (wsV RX5 58 RX5 yX5_many wsX5_many) := goodIn_app (goodIn_of _ (by decide +kernel)) ggX5_share_X5_many
theorem dX5_share_0 : decode cX5_share 0 = .ok (.aload_n 0, 1) := by decide +kernel
theorem dX5_share_1 : decode cX5_share 1 = .ok (.iload_n 1, 1) := by decide +kernel
theorem dX5_share_2 : decode cX5_share 2 = .ok (.invokestatic 46, 3) := by decide +kernel
theorem dX5_share_5 : decode cX5_share 5 = .ok (.ifCond .ne 7, 3) := by decide +kernel
theorem dX5_share_8 : decode cX5_share 8 = .ok (.iconst 1, 1) := by decide +kernel
theorem dX5_share_9 : decode cX5_share 9 = .ok (.goto 4, 3) := by decide +kernel
theorem dX5_share_12 : decode cX5_share 12 = .ok (.iconst 0, 1) := by decide +kernel
theorem dX5_share_13 : decode cX5_share 13 = .ok (.iconst 1, 1) := by decide +kernel
theorem dX5_share_14 : decode cX5_share 14 = .ok (.invokevirtual 50, 3) := by decide +kernel
theorem dX5_share_17 : decode cX5_share 17 = .ok (.ifCond .eq 5, 3) := by decide +kernel
theorem dX5_share_20 : decode cX5_share 20 = .ok (.fconst 0, 1) := by decide +kernel
theorem dX5_share_21 : decode cX5_share 21 = .ok (.freturn, 1) := by decide +kernel
theorem dX5_share_22 : decode cX5_share 22 = .ok (.aload_n 0, 1) := by decide +kernel
theorem dX5_share_23 : decode cX5_share 23 = .ok (.iload_n 1, 1) := by decide +kernel
theorem dX5_share_24 : decode cX5_share 24 = .ok (.iconst 1, 1) := by decide +kernel
theorem dX5_share_25 : decode cX5_share 25 = .ok (.invokevirtual 58, 3) := by decide +kernel
theorem dX5_share_28 : decode cX5_share 28 = .ok (.aload_n 0, 1) := by decide +kernel
theorem dX5_share_29 : decode cX5_share 29 = .ok (.iload_n 1, 1) := by decide +kernel
theorem dX5_share_30 : decode cX5_share 30 = .ok (.iconst 0, 1) := by decide +kernel
theorem dX5_share_31 : decode cX5_share 31 = .ok (.invokevirtual 58, 3) := by decide +kernel
theorem dX5_share_34 : decode cX5_share 34 = .ok (.iadd, 1) := by decide +kernel
theorem dX5_share_35 : decode cX5_share 35 = .ok (.istore_n 2, 1) := by decide +kernel
theorem dX5_share_36 : decode cX5_share 36 = .ok (.aload_n 0, 1) := by decide +kernel
theorem dX5_share_37 : decode cX5_share 37 = .ok (.iload_n 2, 1) := by decide +kernel
theorem dX5_share_38 : decode cX5_share 38 = .ok (.ifCond .ne 7, 3) := by decide +kernel
theorem dX5_share_41 : decode cX5_share 41 = .ok (.iconst 1, 1) := by decide +kernel
theorem dX5_share_42 : decode cX5_share 42 = .ok (.goto 4, 3) := by decide +kernel
theorem dX5_share_45 : decode cX5_share 45 = .ok (.iconst 0, 1) := by decide +kernel
theorem dX5_share_46 : decode cX5_share 46 = .ok (.iconst 2, 1) := by decide +kernel
theorem dX5_share_47 : decode cX5_share 47 = .ok (.invokevirtual 50, 3) := by decide +kernel
theorem dX5_share_50 : decode cX5_share 50 = .ok (.ifCond .eq 7, 3) := by decide +kernel
theorem dX5_share_53 : decode cX5_share 53 = .ok (.fconst 0, 1) := by decide +kernel
theorem dX5_share_54 : decode cX5_share 54 = .ok (.goto 13, 3) := by decide +kernel
theorem dX5_share_57 : decode cX5_share 57 = .ok (.aload_n 0, 1) := by decide +kernel
theorem dX5_share_58 : decode cX5_share 58 = .ok (.iload_n 1, 1) := by decide +kernel
theorem dX5_share_59 : decode cX5_share 59 = .ok (.iconst 1, 1) := by decide +kernel
theorem dX5_share_60 : decode cX5_share 60 = .ok (.invokevirtual 58, 3) := by decide +kernel
theorem dX5_share_63 : decode cX5_share 63 = .ok (.i2f, 1) := by decide +kernel
theorem dX5_share_64 : decode cX5_share 64 = .ok (.iload_n 2, 1) := by decide +kernel
theorem dX5_share_65 : decode cX5_share 65 = .ok (.i2f, 1) := by decide +kernel
theorem dX5_share_66 : decode cX5_share 66 = .ok (.fdiv, 1) := by decide +kernel
theorem dX5_share_67 : decode cX5_share 67 = .ok (.freturn, 1) := by decide +kernel
set_option maxRecDepth 20000 in
theorem ggX5_isQuiet_X5_isHouse : GoodIn wsX5_isQuiet wsX5_isHouse := goodIn_r _ [6] (by decide +kernel) (by decide +kernel)
set_option maxRecDepth 20000 in
theorem gX5_isQuiet_X5_isHouse : GoodIn wsX5_isQuiet (va_wsS RX5 46 yX5_isHouse wsX5_isHouse) := goodIn_app (goodIn_of _ (by decide +kernel)) ggX5_isQuiet_X5_isHouse
set_option maxRecDepth 20000 in
theorem ggX5_isQuiet_X5_isThrown : GoodIn wsX5_isQuiet wsX5_isThrown := goodIn_r _ [10, 11, 34, 35, 36, 37, 38, 39, 40, 41, 42, 43, 44] (by decide +kernel) (by decide +kernel)
set_option maxRecDepth 20000 in
theorem gX5_isQuiet_X5_isThrown : GoodIn wsX5_isQuiet (wsV RX5 50 RX5 yX5_isThrown wsX5_isThrown) := goodIn_app (goodIn_of _ (by decide +kernel)) ggX5_isQuiet_X5_isThrown
set_option maxRecDepth 20000 in
theorem ggX5_isQuiet_X5_many : GoodIn wsX5_isQuiet wsX5_many := goodIn_ca (goodIn_r _ [15, 16, 17, 18, 34, 35, 36, 37, 38, 39, 40, 41, 42, 43, 44] (by decide +kernel) (by decide +kernel)) (goodIn_sub (fun _ h => List.mem_cons_of_mem _ (List.mem_append_right _ h)) (by decide +kernel))
set_option maxRecDepth 20000 in
theorem gX5_isQuiet_X5_many : GoodIn wsX5_isQuiet (wsV RX5 58 RX5 yX5_many wsX5_many) := goodIn_app (goodIn_of _ (by decide +kernel)) ggX5_isQuiet_X5_many
set_option maxRecDepth 20000 in
theorem ggX5_isQuiet_X5_busyFrom : GoodIn wsX5_isQuiet wsX5_busyFrom := goodIn_ca (goodIn_r _ [22, 2, 16, 23, 24, 25, 26, 5, 27, 28, 29, 30, 31, 32, 33, 17, 18, 34, 35, 36, 37, 38, 39, 40, 41, 42, 43, 44] (by decide +kernel) (by decide +kernel)) (goodIn_sub (fun _ h => List.mem_cons_of_mem _ (List.mem_append_right _ h)) (by decide +kernel))
set_option maxRecDepth 20000 in
theorem gX5_isQuiet_X5_busyFrom : GoodIn wsX5_isQuiet (wsV RX5 103 RX5 yX5_busyFrom wsX5_busyFrom) := goodIn_app (goodIn_of _ (by decide +kernel)) ggX5_isQuiet_X5_busyFrom
theorem dX5_isQuiet_0 : decode cX5_isQuiet 0 = .ok (.aload_n 0, 1) := by decide +kernel
theorem dX5_isQuiet_1 : decode cX5_isQuiet 1 = .ok (.iload_n 1, 1) := by decide +kernel
theorem dX5_isQuiet_2 : decode cX5_isQuiet 2 = .ok (.invokestatic 46, 3) := by decide +kernel
theorem dX5_isQuiet_5 : decode cX5_isQuiet 5 = .ok (.ifCond .ne 7, 3) := by decide +kernel
theorem dX5_isQuiet_8 : decode cX5_isQuiet 8 = .ok (.iconst 1, 1) := by decide +kernel
theorem dX5_isQuiet_9 : decode cX5_isQuiet 9 = .ok (.goto 4, 3) := by decide +kernel
theorem dX5_isQuiet_12 : decode cX5_isQuiet 12 = .ok (.iconst 0, 1) := by decide +kernel
theorem dX5_isQuiet_13 : decode cX5_isQuiet 13 = .ok (.iconst 1, 1) := by decide +kernel
theorem dX5_isQuiet_14 : decode cX5_isQuiet 14 = .ok (.invokevirtual 50, 3) := by decide +kernel
theorem dX5_isQuiet_17 : decode cX5_isQuiet 17 = .ok (.ifCond .ne 32, 3) := by decide +kernel
theorem dX5_isQuiet_20 : decode cX5_isQuiet 20 = .ok (.aload_n 0, 1) := by decide +kernel
theorem dX5_isQuiet_21 : decode cX5_isQuiet 21 = .ok (.iload_n 1, 1) := by decide +kernel
theorem dX5_isQuiet_22 : decode cX5_isQuiet 22 = .ok (.iconst 0, 1) := by decide +kernel
theorem dX5_isQuiet_23 : decode cX5_isQuiet 23 = .ok (.invokevirtual 58, 3) := by decide +kernel
theorem dX5_isQuiet_26 : decode cX5_isQuiet 26 = .ok (.ifCond .ne 23, 3) := by decide +kernel
theorem dX5_isQuiet_29 : decode cX5_isQuiet 29 = .ok (.aload_n 0, 1) := by decide +kernel
theorem dX5_isQuiet_30 : decode cX5_isQuiet 30 = .ok (.iload_n 1, 1) := by decide +kernel
theorem dX5_isQuiet_31 : decode cX5_isQuiet 31 = .ok (.aload_n 0, 1) := by decide +kernel
theorem dX5_isQuiet_32 : decode cX5_isQuiet 32 = .ok (.getfield 28, 3) := by decide +kernel
theorem dX5_isQuiet_35 : decode cX5_isQuiet 35 = .ok (.iload_n 1, 1) := by decide +kernel
theorem dX5_isQuiet_36 : decode cX5_isQuiet 36 = .ok (.iaload, 1) := by decide +kernel
theorem dX5_isQuiet_37 : decode cX5_isQuiet 37 = .ok (.invokevirtual 103, 3) := by decide +kernel
theorem dX5_isQuiet_40 : decode cX5_isQuiet 40 = .ok (.ldc 72, 2) := by decide +kernel
theorem dX5_isQuiet_42 : decode cX5_isQuiet 42 = .ok (.if_icmp .ne 7, 3) := by decide +kernel
theorem dX5_isQuiet_45 : decode cX5_isQuiet 45 = .ok (.iconst 1, 1) := by decide +kernel
theorem dX5_isQuiet_46 : decode cX5_isQuiet 46 = .ok (.goto 4, 3) := by decide +kernel
theorem dX5_isQuiet_49 : decode cX5_isQuiet 49 = .ok (.iconst 0, 1) := by decide +kernel
theorem dX5_isQuiet_50 : decode cX5_isQuiet 50 = .ok (.ireturn, 1) := by decide +kernel
theorem dX5_adds_0 : decode cX5_adds 0 = .ok (.aload_n 0, 1) := by decide +kernel
theorem dX5_adds_1 : decode cX5_adds 1 = .ok (.ldc2_w 116, 3) := by decide +kernel
theorem dX5_adds_4 : decode cX5_adds 4 = .ok (.aload_n 0, 1) := by decide +kernel
theorem dX5_adds_5 : decode cX5_adds 5 = .ok (.getfield 118, 3) := by decide +kernel
theorem dX5_adds_8 : decode cX5_adds 8 = .ok (.lmul, 1) := by decide +kernel
theorem dX5_adds_9 : decode cX5_adds 9 = .ok (.lload_n 1, 1) := by decide +kernel
theorem dX5_adds_10 : decode cX5_adds 10 = .ok (.ladd, 1) := by decide +kernel
theorem dX5_adds_11 : decode cX5_adds 11 = .ok (.putfield 118, 3) := by decide +kernel
theorem dX5_adds_14 : decode cX5_adds 14 = .ok (.return_, 1) := by decide +kernel
set_option maxRecDepth 20000 in
theorem ggX5_turnBehind_X5_isOf : GoodIn wsX5_turnBehind wsX5_isOf := goodIn_ca (goodIn_r _ [9, 10, 11, 4, 12, 13, 14, 15, 16, 17, 18, 19, 20, 21, 22] (by decide +kernel) (by decide +kernel)) (goodIn_sub (fun _ h => List.mem_cons_of_mem _ (List.mem_append_right _ h)) (by decide +kernel))
set_option maxRecDepth 20000 in
theorem gX5_turnBehind_X5_isOf : GoodIn wsX5_turnBehind (wsV RX5 91 RX5 yX5_isOf wsX5_isOf) := goodIn_app (goodIn_of _ (by decide +kernel)) ggX5_turnBehind_X5_isOf
theorem dX5_turnBehind_0 : decode cX5_turnBehind 0 = .ok (.ldc 72, 2) := by decide +kernel
theorem dX5_turnBehind_2 : decode cX5_turnBehind 2 = .ok (.istore_n 3, 1) := by decide +kernel
theorem dX5_turnBehind_3 : decode cX5_turnBehind 3 = .ok (.iconst 0, 1) := by decide +kernel
theorem dX5_turnBehind_4 : decode cX5_turnBehind 4 = .ok (.istore 4, 2) := by decide +kernel
theorem dX5_turnBehind_6 : decode cX5_turnBehind 6 = .ok (.iload 4, 2) := by decide +kernel
theorem dX5_turnBehind_8 : decode cX5_turnBehind 8 = .ok (.aload_n 0, 1) := by decide +kernel
theorem dX5_turnBehind_9 : decode cX5_turnBehind 9 = .ok (.getfield 35, 3) := by decide +kernel
theorem dX5_turnBehind_12 : decode cX5_turnBehind 12 = .ok (.if_icmp .ge 111, 3) := by decide +kernel
theorem dX5_turnBehind_15 : decode cX5_turnBehind 15 = .ok (.aload_n 0, 1) := by decide +kernel
theorem dX5_turnBehind_16 : decode cX5_turnBehind 16 = .ok (.iload_n 1, 1) := by decide +kernel
theorem dX5_turnBehind_17 : decode cX5_turnBehind 17 = .ok (.iload 4, 2) := by decide +kernel
theorem dX5_turnBehind_19 : decode cX5_turnBehind 19 = .ok (.invokevirtual 91, 3) := by decide +kernel
theorem dX5_turnBehind_22 : decode cX5_turnBehind 22 = .ok (.ifCond .eq 95, 3) := by decide +kernel
theorem dX5_turnBehind_25 : decode cX5_turnBehind 25 = .ok (.aload_n 0, 1) := by decide +kernel
theorem dX5_turnBehind_26 : decode cX5_turnBehind 26 = .ok (.getfield 7, 3) := by decide +kernel
theorem dX5_turnBehind_29 : decode cX5_turnBehind 29 = .ok (.iload 4, 2) := by decide +kernel
theorem dX5_turnBehind_31 : decode cX5_turnBehind 31 = .ok (.iaload, 1) := by decide +kernel
theorem dX5_turnBehind_32 : decode cX5_turnBehind 32 = .ok (.iload_n 2, 1) := by decide +kernel
theorem dX5_turnBehind_33 : decode cX5_turnBehind 33 = .ok (.if_icmp .le 24, 3) := by decide +kernel
theorem dX5_turnBehind_36 : decode cX5_turnBehind 36 = .ok (.aload_n 0, 1) := by decide +kernel
theorem dX5_turnBehind_37 : decode cX5_turnBehind 37 = .ok (.getfield 7, 3) := by decide +kernel
theorem dX5_turnBehind_40 : decode cX5_turnBehind 40 = .ok (.iload 4, 2) := by decide +kernel
theorem dX5_turnBehind_42 : decode cX5_turnBehind 42 = .ok (.iaload, 1) := by decide +kernel
theorem dX5_turnBehind_43 : decode cX5_turnBehind 43 = .ok (.iload_n 3, 1) := by decide +kernel
theorem dX5_turnBehind_44 : decode cX5_turnBehind 44 = .ok (.if_icmp .ge 13, 3) := by decide +kernel
theorem dX5_turnBehind_47 : decode cX5_turnBehind 47 = .ok (.aload_n 0, 1) := by decide +kernel
theorem dX5_turnBehind_48 : decode cX5_turnBehind 48 = .ok (.getfield 7, 3) := by decide +kernel
theorem dX5_turnBehind_51 : decode cX5_turnBehind 51 = .ok (.iload 4, 2) := by decide +kernel
theorem dX5_turnBehind_53 : decode cX5_turnBehind 53 = .ok (.iaload, 1) := by decide +kernel
theorem dX5_turnBehind_54 : decode cX5_turnBehind 54 = .ok (.goto 4, 3) := by decide +kernel
theorem dX5_turnBehind_57 : decode cX5_turnBehind 57 = .ok (.iload_n 3, 1) := by decide +kernel
theorem dX5_turnBehind_58 : decode cX5_turnBehind 58 = .ok (.istore_n 3, 1) := by decide +kernel
theorem dX5_turnBehind_59 : decode cX5_turnBehind 59 = .ok (.aload_n 0, 1) := by decide +kernel
theorem dX5_turnBehind_60 : decode cX5_turnBehind 60 = .ok (.getfield 7, 3) := by decide +kernel
theorem dX5_turnBehind_63 : decode cX5_turnBehind 63 = .ok (.iload 4, 2) := by decide +kernel
theorem dX5_turnBehind_65 : decode cX5_turnBehind 65 = .ok (.iaload, 1) := by decide +kernel
theorem dX5_turnBehind_66 : decode cX5_turnBehind 66 = .ok (.aload_n 0, 1) := by decide +kernel
theorem dX5_turnBehind_67 : decode cX5_turnBehind 67 = .ok (.getfield 13, 3) := by decide +kernel
theorem dX5_turnBehind_70 : decode cX5_turnBehind 70 = .ok (.iload 4, 2) := by decide +kernel
theorem dX5_turnBehind_72 : decode cX5_turnBehind 72 = .ok (.iaload, 1) := by decide +kernel
theorem dX5_turnBehind_73 : decode cX5_turnBehind 73 = .ok (.iadd, 1) := by decide +kernel
theorem dX5_turnBehind_74 : decode cX5_turnBehind 74 = .ok (.iload_n 2, 1) := by decide +kernel
theorem dX5_turnBehind_75 : decode cX5_turnBehind 75 = .ok (.if_icmp .le 40, 3) := by decide +kernel
theorem dX5_turnBehind_78 : decode cX5_turnBehind 78 = .ok (.aload_n 0, 1) := by decide +kernel
theorem dX5_turnBehind_79 : decode cX5_turnBehind 79 = .ok (.getfield 7, 3) := by decide +kernel
theorem dX5_turnBehind_82 : decode cX5_turnBehind 82 = .ok (.iload 4, 2) := by decide +kernel
theorem dX5_turnBehind_84 : decode cX5_turnBehind 84 = .ok (.iaload, 1) := by decide +kernel
theorem dX5_turnBehind_85 : decode cX5_turnBehind 85 = .ok (.aload_n 0, 1) := by decide +kernel
theorem dX5_turnBehind_86 : decode cX5_turnBehind 86 = .ok (.getfield 13, 3) := by decide +kernel
theorem dX5_turnBehind_89 : decode cX5_turnBehind 89 = .ok (.iload 4, 2) := by decide +kernel
theorem dX5_turnBehind_91 : decode cX5_turnBehind 91 = .ok (.iaload, 1) := by decide +kernel
theorem dX5_turnBehind_92 : decode cX5_turnBehind 92 = .ok (.iadd, 1) := by decide +kernel
theorem dX5_turnBehind_93 : decode cX5_turnBehind 93 = .ok (.iload_n 3, 1) := by decide +kernel
theorem dX5_turnBehind_94 : decode cX5_turnBehind 94 = .ok (.if_icmp .ge 21, 3) := by decide +kernel
theorem dX5_turnBehind_97 : decode cX5_turnBehind 97 = .ok (.aload_n 0, 1) := by decide +kernel
theorem dX5_turnBehind_98 : decode cX5_turnBehind 98 = .ok (.getfield 7, 3) := by decide +kernel
theorem dX5_turnBehind_101 : decode cX5_turnBehind 101 = .ok (.iload 4, 2) := by decide +kernel
theorem dX5_turnBehind_103 : decode cX5_turnBehind 103 = .ok (.iaload, 1) := by decide +kernel
theorem dX5_turnBehind_104 : decode cX5_turnBehind 104 = .ok (.aload_n 0, 1) := by decide +kernel
theorem dX5_turnBehind_105 : decode cX5_turnBehind 105 = .ok (.getfield 13, 3) := by decide +kernel
theorem dX5_turnBehind_108 : decode cX5_turnBehind 108 = .ok (.iload 4, 2) := by decide +kernel
theorem dX5_turnBehind_110 : decode cX5_turnBehind 110 = .ok (.iaload, 1) := by decide +kernel
theorem dX5_turnBehind_111 : decode cX5_turnBehind 111 = .ok (.iadd, 1) := by decide +kernel
theorem dX5_turnBehind_112 : decode cX5_turnBehind 112 = .ok (.goto 4, 3) := by decide +kernel
theorem dX5_turnBehind_115 : decode cX5_turnBehind 115 = .ok (.iload_n 3, 1) := by decide +kernel
theorem dX5_turnBehind_116 : decode cX5_turnBehind 116 = .ok (.istore_n 3, 1) := by decide +kernel
theorem dX5_turnBehind_117 : decode cX5_turnBehind 117 = .ok (.iinc 4 1, 3) := by decide +kernel
theorem dX5_turnBehind_120 : decode cX5_turnBehind 120 = .ok (.goto (-114), 3) := by decide +kernel
theorem dX5_turnBehind_123 : decode cX5_turnBehind 123 = .ok (.iload_n 3, 1) := by decide +kernel
theorem dX5_turnBehind_124 : decode cX5_turnBehind 124 = .ok (.ireturn, 1) := by decide +kernel
set_option maxRecDepth 20000 in
theorem ggX5_checksum_X5_adds : GoodIn wsX5_checksum wsX5_adds := goodIn_r _ [10, 11, 3, 51, 52, 53, 54, 55, 56, 57, 58, 59, 60, 61] (by decide +kernel) (by decide +kernel)
set_option maxRecDepth 20000 in
theorem gX5_checksum_X5_adds : GoodIn wsX5_checksum (wsV RX5 124 RX5 yX5_adds wsX5_adds) := goodIn_app (goodIn_of _ (by decide +kernel)) ggX5_checksum_X5_adds
set_option maxRecDepth 20000 in
theorem ggX5_checksum_X5_many : GoodIn wsX5_checksum wsX5_many := goodIn_ca (goodIn_r _ [15, 16, 17, 18, 51, 52, 53, 54, 55, 56, 57, 58, 59, 60, 61] (by decide +kernel) (by decide +kernel)) (goodIn_sub (fun _ h => List.mem_cons_of_mem _ (List.mem_append_right _ h)) (by decide +kernel))
set_option maxRecDepth 20000 in
theorem gX5_checksum_X5_many : GoodIn wsX5_checksum (wsV RX5 58 RX5 yX5_many wsX5_many) := goodIn_app (goodIn_of _ (by decide +kernel)) ggX5_checksum_X5_many
set_option maxRecDepth 20000 in
theorem ggX5_checksum_X5_first : GoodIn wsX5_checksum wsX5_first := goodIn_ca (goodIn_r _ [22, 23, 24, 25, 9, 26, 16, 17, 18, 27, 28, 29, 30, 31, 51, 52, 53, 54, 55, 56, 57, 58, 59, 60, 61] (by decide +kernel) (by decide +kernel)) (goodIn_sub (fun _ h => List.mem_cons_of_mem _ (List.mem_append_right _ h)) (by decide +kernel))
set_option maxRecDepth 20000 in
theorem gX5_checksum_X5_first : GoodIn wsX5_checksum (wsV RX5 80 RX5 yX5_first wsX5_first) := goodIn_app (goodIn_of _ (by decide +kernel)) ggX5_checksum_X5_first
set_option maxRecDepth 20000 in
theorem ggX5_checksum_X5_behind : GoodIn wsX5_checksum wsX5_behind := goodIn_ca (goodIn_r _ [26, 16, 17, 18, 27, 28, 29, 9, 30, 31, 51, 52, 53, 54, 55, 56, 57, 58, 59, 60, 61] (by decide +kernel) (by decide +kernel)) (goodIn_sub (fun _ h => List.mem_cons_of_mem _ (List.mem_append_right _ h)) (by decide +kernel))
set_option maxRecDepth 20000 in
theorem gX5_checksum_X5_behind : GoodIn wsX5_checksum (wsV RX5 42 RX5 yX5_behind wsX5_behind) := goodIn_app (goodIn_of _ (by decide +kernel)) ggX5_checksum_X5_behind
set_option maxRecDepth 20000 in
theorem ggX5_checksum_X5_cameBehind : GoodIn wsX5_checksum wsX5_cameBehind := goodIn_ca (goodIn_r _ [35, 16, 17, 18, 36, 51, 52, 53, 54, 55, 56, 57, 58, 59, 60, 61] (by decide +kernel) (by decide +kernel)) (goodIn_sub (fun _ h => List.mem_cons_of_mem _ (List.mem_append_right _ h)) (by decide +kernel))
set_option maxRecDepth 20000 in
theorem gX5_checksum_X5_cameBehind : GoodIn wsX5_checksum (wsV RX5 88 RX5 yX5_cameBehind wsX5_cameBehind) := goodIn_app (goodIn_of _ (by decide +kernel)) ggX5_checksum_X5_cameBehind
set_option maxRecDepth 20000 in
theorem ggX5_checksum_X5_turnBehind : GoodIn wsX5_checksum wsX5_turnBehind := goodIn_ca (goodIn_r _ [40, 5, 16, 31, 41, 42, 43, 44, 9, 45, 17, 18, 51, 52, 53, 54, 55, 56, 57, 58, 59, 60, 61] (by decide +kernel) (by decide +kernel)) (goodIn_sub (fun _ h => List.mem_cons_of_mem _ (List.mem_append_right _ h)) (by decide +kernel))
set_option maxRecDepth 20000 in
theorem gX5_checksum_X5_turnBehind : GoodIn wsX5_checksum (wsV RX5 128 RX5 yX5_turnBehind wsX5_turnBehind) := goodIn_app (goodIn_of _ (by decide +kernel)) ggX5_checksum_X5_turnBehind
set_option maxRecDepth 20000 in
theorem ggX5_checksum_X5_changeAt : GoodIn wsX5_checksum wsX5_changeAt := goodIn_ca (goodIn_r _ [49, 16, 31, 50, 41, 42, 43, 44, 9, 45, 17, 18, 51, 52, 53, 54, 55, 56, 57, 58, 59, 60, 61] (by decide +kernel) (by decide +kernel)) (goodIn_sub (fun _ h => List.mem_cons_of_mem _ (List.mem_append_right _ h)) (by decide +kernel))
set_option maxRecDepth 20000 in
theorem gX5_checksum_X5_changeAt : GoodIn wsX5_checksum (wsV RX5 97 RX5 yX5_changeAt wsX5_changeAt) := goodIn_app (goodIn_of _ (by decide +kernel)) ggX5_checksum_X5_changeAt
theorem dX5_checksum_0 : decode cX5_checksum 0 = .ok (.aload_n 0, 1) := by decide +kernel
theorem dX5_checksum_1 : decode cX5_checksum 1 = .ok (.iconst 0, 1) := by decide +kernel
theorem dX5_checksum_2 : decode cX5_checksum 2 = .ok (.putfield 31, 3) := by decide +kernel
theorem dX5_checksum_5 : decode cX5_checksum 5 = .ok (.aload_n 0, 1) := by decide +kernel
theorem dX5_checksum_6 : decode cX5_checksum 6 = .ok (.ldc2_w 122, 3) := by decide +kernel
theorem dX5_checksum_9 : decode cX5_checksum 9 = .ok (.putfield 118, 3) := by decide +kernel
theorem dX5_checksum_12 : decode cX5_checksum 12 = .ok (.iconst 0, 1) := by decide +kernel
theorem dX5_checksum_13 : decode cX5_checksum 13 = .ok (.istore_n 1, 1) := by decide +kernel
theorem dX5_checksum_14 : decode cX5_checksum 14 = .ok (.iload_n 1, 1) := by decide +kernel
theorem dX5_checksum_15 : decode cX5_checksum 15 = .ok (.iconst 4, 1) := by decide +kernel
theorem dX5_checksum_16 : decode cX5_checksum 16 = .ok (.if_icmp .ge 143, 3) := by decide +kernel
theorem dX5_checksum_19 : decode cX5_checksum 19 = .ok (.aload_n 0, 1) := by decide +kernel
theorem dX5_checksum_20 : decode cX5_checksum 20 = .ok (.aload_n 0, 1) := by decide +kernel
theorem dX5_checksum_21 : decode cX5_checksum 21 = .ok (.getfield 28, 3) := by decide +kernel
theorem dX5_checksum_24 : decode cX5_checksum 24 = .ok (.iload_n 1, 1) := by decide +kernel
theorem dX5_checksum_25 : decode cX5_checksum 25 = .ok (.iaload, 1) := by decide +kernel
theorem dX5_checksum_26 : decode cX5_checksum 26 = .ok (.i2l, 1) := by decide +kernel
theorem dX5_checksum_27 : decode cX5_checksum 27 = .ok (.invokevirtual 124, 3) := by decide +kernel
theorem dX5_checksum_30 : decode cX5_checksum 30 = .ok (.aload_n 0, 1) := by decide +kernel
theorem dX5_checksum_31 : decode cX5_checksum 31 = .ok (.aload_n 0, 1) := by decide +kernel
theorem dX5_checksum_32 : decode cX5_checksum 32 = .ok (.iload_n 1, 1) := by decide +kernel
theorem dX5_checksum_33 : decode cX5_checksum 33 = .ok (.iconst 0, 1) := by decide +kernel
theorem dX5_checksum_34 : decode cX5_checksum 34 = .ok (.invokevirtual 58, 3) := by decide +kernel
theorem dX5_checksum_37 : decode cX5_checksum 37 = .ok (.i2l, 1) := by decide +kernel
theorem dX5_checksum_38 : decode cX5_checksum 38 = .ok (.invokevirtual 124, 3) := by decide +kernel
theorem dX5_checksum_41 : decode cX5_checksum 41 = .ok (.aload_n 0, 1) := by decide +kernel
theorem dX5_checksum_42 : decode cX5_checksum 42 = .ok (.iload_n 1, 1) := by decide +kernel
theorem dX5_checksum_43 : decode cX5_checksum 43 = .ok (.invokevirtual 80, 3) := by decide +kernel
theorem dX5_checksum_46 : decode cX5_checksum 46 = .ok (.istore_n 2, 1) := by decide +kernel
theorem dX5_checksum_47 : decode cX5_checksum 47 = .ok (.iload_n 2, 1) := by decide +kernel
theorem dX5_checksum_48 : decode cX5_checksum 48 = .ok (.iconst (-1), 1) := by decide +kernel
theorem dX5_checksum_49 : decode cX5_checksum 49 = .ok (.if_icmp .eq 19, 3) := by decide +kernel
theorem dX5_checksum_52 : decode cX5_checksum 52 = .ok (.aload_n 0, 1) := by decide +kernel
theorem dX5_checksum_53 : decode cX5_checksum 53 = .ok (.iload_n 2, 1) := by decide +kernel
theorem dX5_checksum_54 : decode cX5_checksum 54 = .ok (.i2l, 1) := by decide +kernel
theorem dX5_checksum_55 : decode cX5_checksum 55 = .ok (.invokevirtual 124, 3) := by decide +kernel
theorem dX5_checksum_58 : decode cX5_checksum 58 = .ok (.aload_n 0, 1) := by decide +kernel
theorem dX5_checksum_59 : decode cX5_checksum 59 = .ok (.iload_n 1, 1) := by decide +kernel
theorem dX5_checksum_60 : decode cX5_checksum 60 = .ok (.iload_n 2, 1) := by decide +kernel
theorem dX5_checksum_61 : decode cX5_checksum 61 = .ok (.invokevirtual 42, 3) := by decide +kernel
theorem dX5_checksum_64 : decode cX5_checksum 64 = .ok (.istore_n 2, 1) := by decide +kernel
theorem dX5_checksum_65 : decode cX5_checksum 65 = .ok (.goto (-18), 3) := by decide +kernel
theorem dX5_checksum_68 : decode cX5_checksum 68 = .ok (.aload_n 0, 1) := by decide +kernel
theorem dX5_checksum_69 : decode cX5_checksum 69 = .ok (.aload_n 0, 1) := by decide +kernel
theorem dX5_checksum_70 : decode cX5_checksum 70 = .ok (.iload_n 1, 1) := by decide +kernel
theorem dX5_checksum_71 : decode cX5_checksum 71 = .ok (.iconst 1, 1) := by decide +kernel
theorem dX5_checksum_72 : decode cX5_checksum 72 = .ok (.invokevirtual 58, 3) := by decide +kernel
theorem dX5_checksum_75 : decode cX5_checksum 75 = .ok (.i2l, 1) := by decide +kernel
theorem dX5_checksum_76 : decode cX5_checksum 76 = .ok (.invokevirtual 124, 3) := by decide +kernel
theorem dX5_checksum_79 : decode cX5_checksum 79 = .ok (.aload_n 0, 1) := by decide +kernel
theorem dX5_checksum_80 : decode cX5_checksum 80 = .ok (.iload_n 1, 1) := by decide +kernel
theorem dX5_checksum_81 : decode cX5_checksum 81 = .ok (.iconst (-1), 1) := by decide +kernel
theorem dX5_checksum_82 : decode cX5_checksum 82 = .ok (.invokevirtual 88, 3) := by decide +kernel
theorem dX5_checksum_85 : decode cX5_checksum 85 = .ok (.istore_n 2, 1) := by decide +kernel
theorem dX5_checksum_86 : decode cX5_checksum 86 = .ok (.iload_n 2, 1) := by decide +kernel
theorem dX5_checksum_87 : decode cX5_checksum 87 = .ok (.iconst (-1), 1) := by decide +kernel
theorem dX5_checksum_88 : decode cX5_checksum 88 = .ok (.if_icmp .eq 19, 3) := by decide +kernel
theorem dX5_checksum_91 : decode cX5_checksum 91 = .ok (.aload_n 0, 1) := by decide +kernel
theorem dX5_checksum_92 : decode cX5_checksum 92 = .ok (.iload_n 2, 1) := by decide +kernel
theorem dX5_checksum_93 : decode cX5_checksum 93 = .ok (.i2l, 1) := by decide +kernel
theorem dX5_checksum_94 : decode cX5_checksum 94 = .ok (.invokevirtual 124, 3) := by decide +kernel
theorem dX5_checksum_97 : decode cX5_checksum 97 = .ok (.aload_n 0, 1) := by decide +kernel
theorem dX5_checksum_98 : decode cX5_checksum 98 = .ok (.iload_n 1, 1) := by decide +kernel
theorem dX5_checksum_99 : decode cX5_checksum 99 = .ok (.iload_n 2, 1) := by decide +kernel
theorem dX5_checksum_100 : decode cX5_checksum 100 = .ok (.invokevirtual 88, 3) := by decide +kernel
theorem dX5_checksum_103 : decode cX5_checksum 103 = .ok (.istore_n 2, 1) := by decide +kernel
theorem dX5_checksum_104 : decode cX5_checksum 104 = .ok (.goto (-18), 3) := by decide +kernel
theorem dX5_checksum_107 : decode cX5_checksum 107 = .ok (.aload_n 0, 1) := by decide +kernel
theorem dX5_checksum_108 : decode cX5_checksum 108 = .ok (.iload_n 1, 1) := by decide +kernel
theorem dX5_checksum_109 : decode cX5_checksum 109 = .ok (.iconst (-1), 1) := by decide +kernel
theorem dX5_checksum_110 : decode cX5_checksum 110 = .ok (.invokevirtual 128, 3) := by decide +kernel
theorem dX5_checksum_113 : decode cX5_checksum 113 = .ok (.istore_n 2, 1) := by decide +kernel
theorem dX5_checksum_114 : decode cX5_checksum 114 = .ok (.iload_n 2, 1) := by decide +kernel
theorem dX5_checksum_115 : decode cX5_checksum 115 = .ok (.ldc 72, 2) := by decide +kernel
theorem dX5_checksum_117 : decode cX5_checksum 117 = .ok (.if_icmp .ge 36, 3) := by decide +kernel
theorem dX5_checksum_120 : decode cX5_checksum 120 = .ok (.aload_n 0, 1) := by decide +kernel
theorem dX5_checksum_121 : decode cX5_checksum 121 = .ok (.iload_n 1, 1) := by decide +kernel
theorem dX5_checksum_122 : decode cX5_checksum 122 = .ok (.iload_n 2, 1) := by decide +kernel
theorem dX5_checksum_123 : decode cX5_checksum 123 = .ok (.invokevirtual 97, 3) := by decide +kernel
theorem dX5_checksum_126 : decode cX5_checksum 126 = .ok (.istore_n 3, 1) := by decide +kernel
theorem dX5_checksum_127 : decode cX5_checksum 127 = .ok (.iload_n 3, 1) := by decide +kernel
theorem dX5_checksum_128 : decode cX5_checksum 128 = .ok (.ifCond .eq 15, 3) := by decide +kernel
theorem dX5_checksum_131 : decode cX5_checksum 131 = .ok (.aload_n 0, 1) := by decide +kernel
theorem dX5_checksum_132 : decode cX5_checksum 132 = .ok (.iload_n 2, 1) := by decide +kernel
theorem dX5_checksum_133 : decode cX5_checksum 133 = .ok (.i2l, 1) := by decide +kernel
theorem dX5_checksum_134 : decode cX5_checksum 134 = .ok (.invokevirtual 124, 3) := by decide +kernel
theorem dX5_checksum_137 : decode cX5_checksum 137 = .ok (.aload_n 0, 1) := by decide +kernel
theorem dX5_checksum_138 : decode cX5_checksum 138 = .ok (.iload_n 3, 1) := by decide +kernel
theorem dX5_checksum_139 : decode cX5_checksum 139 = .ok (.i2l, 1) := by decide +kernel
theorem dX5_checksum_140 : decode cX5_checksum 140 = .ok (.invokevirtual 124, 3) := by decide +kernel
theorem dX5_checksum_143 : decode cX5_checksum 143 = .ok (.aload_n 0, 1) := by decide +kernel
theorem dX5_checksum_144 : decode cX5_checksum 144 = .ok (.iload_n 1, 1) := by decide +kernel
theorem dX5_checksum_145 : decode cX5_checksum 145 = .ok (.iload_n 2, 1) := by decide +kernel
theorem dX5_checksum_146 : decode cX5_checksum 146 = .ok (.invokevirtual 128, 3) := by decide +kernel
theorem dX5_checksum_149 : decode cX5_checksum 149 = .ok (.istore_n 2, 1) := by decide +kernel
theorem dX5_checksum_150 : decode cX5_checksum 150 = .ok (.goto (-36), 3) := by decide +kernel
theorem dX5_checksum_153 : decode cX5_checksum 153 = .ok (.iinc 1 1, 3) := by decide +kernel
theorem dX5_checksum_156 : decode cX5_checksum 156 = .ok (.goto (-142), 3) := by decide +kernel
theorem dX5_checksum_159 : decode cX5_checksum 159 = .ok (.aload_n 0, 1) := by decide +kernel
theorem dX5_checksum_160 : decode cX5_checksum 160 = .ok (.getfield 118, 3) := by decide +kernel
theorem dX5_checksum_163 : decode cX5_checksum 163 = .ok (.lreturn, 1) := by decide +kernel
theorem dX5_isSound_0 : decode cX5_isSound 0 = .ok (.aload_n 0, 1) := by decide +kernel
theorem dX5_isSound_1 : decode cX5_isSound 1 = .ok (.iconst 0, 1) := by decide +kernel
theorem dX5_isSound_2 : decode cX5_isSound 2 = .ok (.putfield 31, 3) := by decide +kernel
theorem dX5_isSound_5 : decode cX5_isSound 5 = .ok (.iconst 1, 1) := by decide +kernel
theorem dX5_isSound_6 : decode cX5_isSound 6 = .ok (.ireturn, 1) := by decide +kernel
theorem dJx00060_init_a7421_0 : decode cJx00060_init_a7421 0 = .ok (.aload_n 0, 1) := by decide +kernel
theorem dJx00060_init_a7421_1 : decode cJx00060_init_a7421 1 = .ok (.aload_n 1, 1) := by decide +kernel
theorem dJx00060_init_a7421_2 : decode cJx00060_init_a7421 2 = .ok (.invokespecial 7, 3) := by decide +kernel
theorem dJx00060_init_a7421_5 : decode cJx00060_init_a7421 5 = .ok (.return_, 1) := by decide +kernel
theorem dJ9_max_7cf53_0 : decode cJ9_max_7cf53 0 = .ok (.iload_n 0, 1) := by decide +kernel
theorem dJ9_max_7cf53_1 : decode cJ9_max_7cf53 1 = .ok (.iload_n 1, 1) := by decide +kernel
theorem dJ9_max_7cf53_2 : decode cJ9_max_7cf53 2 = .ok (.if_icmp .lt 7, 3) := by decide +kernel
theorem dJ9_max_7cf53_5 : decode cJ9_max_7cf53 5 = .ok (.iload_n 0, 1) := by decide +kernel
theorem dJ9_max_7cf53_6 : decode cJ9_max_7cf53 6 = .ok (.goto 4, 3) := by decide +kernel
theorem dJ9_max_7cf53_9 : decode cJ9_max_7cf53 9 = .ok (.iload_n 1, 1) := by decide +kernel
theorem dJ9_max_7cf53_10 : decode cJ9_max_7cf53 10 = .ok (.ireturn, 1) := by decide +kernel
theorem dJ9_min_7cf53_0 : decode cJ9_min_7cf53 0 = .ok (.iload_n 0, 1) := by decide +kernel
theorem dJ9_min_7cf53_1 : decode cJ9_min_7cf53 1 = .ok (.iload_n 1, 1) := by decide +kernel
theorem dJ9_min_7cf53_2 : decode cJ9_min_7cf53 2 = .ok (.if_icmp .gt 7, 3) := by decide +kernel
theorem dJ9_min_7cf53_5 : decode cJ9_min_7cf53 5 = .ok (.iload_n 0, 1) := by decide +kernel
theorem dJ9_min_7cf53_6 : decode cJ9_min_7cf53 6 = .ok (.goto 4, 3) := by decide +kernel
theorem dJ9_min_7cf53_9 : decode cJ9_min_7cf53 9 = .ok (.iload_n 1, 1) := by decide +kernel
theorem dJ9_min_7cf53_10 : decode cJ9_min_7cf53 10 = .ok (.ireturn, 1) := by decide +kernel
