set_option maxRecDepth 20000 in
theorem ggX9_insert_X9_isBetween : GoodIn wsX9_insert wsX9_isBetween := goodIn_r _ [8] (by decide +kernel) (by decide +kernel)
set_option maxRecDepth 20000 in
theorem gX9_insert_X9_isBetween : GoodIn wsX9_insert (va_wsS RX9 72 yX9_isBetween wsX9_isBetween) := goodIn_app (goodIn_of _ (by decide +kernel)) ggX9_insert_X9_isBetween
set_option maxRecDepth 20000 in
theorem ggX9_insert_X9_fails : GoodIn wsX9_insert wsX9_fails := goodIn_r _ [12, 1, 75, 76, 77, 78, 79, 80, 81, 82, 83, 84, 85, 86, 87, 88, 89, 90, 91, 92, 93, 94, 95, 96] (by decide +kernel) (by decide +kernel)
set_option maxRecDepth 20000 in
theorem gX9_insert_X9_fails : GoodIn wsX9_insert (wsV RX9 119 RX9 yX9_fails wsX9_fails) := goodIn_app (goodIn_of _ (by decide +kernel)) ggX9_insert_X9_fails
set_option maxRecDepth 20000 in
theorem ggX9_insert_X9_putsIn : GoodIn wsX9_insert wsX9_putsIn := goodIn_ca (goodIn_r _ [16, 2, 17, 75, 76, 77, 78, 79, 80, 81, 82, 83, 84, 85, 86, 87, 88, 89, 90, 91, 92, 93, 94, 95, 96] (by decide +kernel) (by decide +kernel)) (goodIn_sub (fun _ h => List.mem_cons_of_mem _ (List.mem_append_right _ h)) (by decide +kernel))
set_option maxRecDepth 20000 in
theorem gX9_insert_X9_putsIn : GoodIn wsX9_insert (wsV RX9 122 RX9 yX9_putsIn wsX9_putsIn) := goodIn_app (goodIn_of _ (by decide +kernel)) ggX9_insert_X9_putsIn
set_option maxRecDepth 20000 in
theorem ggX9_insert_X9_isParting : GoodIn wsX9_insert wsX9_isParting := goodIn_ca (goodIn_r _ [21, 2, 22, 17, 23, 24, 25, 26, 7, 27, 4, 75, 76, 77, 78, 79, 80, 81, 82, 83, 84, 85, 86, 87, 88, 89, 90, 91, 92, 93, 94, 95, 96] (by decide +kernel) (by decide +kernel)) (goodIn_sub (fun _ h => List.mem_cons_of_mem _ (List.mem_append_right _ h)) (by decide +kernel))
set_option maxRecDepth 20000 in
theorem gX9_insert_X9_isParting : GoodIn wsX9_insert (wsV RX9 126 RX9 yX9_isParting wsX9_isParting) := goodIn_app (goodIn_of _ (by decide +kernel)) ggX9_insert_X9_isParting
set_option maxRecDepth 20000 in
theorem ggX9_insert_X9_settles : GoodIn wsX9_insert wsX9_settles := goodIn_ca (goodIn_r _ [35, 2, 36, 17, 23, 4, 22, 24, 25, 26, 7, 27, 37, 38, 39, 40, 41, 42, 43, 44, 45, 46, 47, 48, 49, 50, 51, 52, 53, 54, 55, 56, 57, 58, 59, 60, 61, 62, 63, 64, 65, 66, 67, 68, 69, 70, 71, 72, 73, 74, 75, 76, 77, 78, 79, 80, 81, 82, 83, 84, 85, 86, 87, 88, 89, 90, 91, 92, 93, 94, 95, 96] (by decide +kernel) (by decide +kernel)) (goodIn_sub (fun _ h => List.mem_cons_of_mem _ (List.mem_append_right _ h)) (by decide +kernel))
set_option maxRecDepth 20000 in
theorem gX9_insert_X9_settles : GoodIn wsX9_insert (wsV RX9 133 RX9 yX9_settles wsX9_settles) := goodIn_app (goodIn_of _ (by decide +kernel)) ggX9_insert_X9_settles
theorem dX9_insert_0 : decode cX9_insert 0 = .ok (.aload_n 0, 1) := by decide +kernel
theorem dX9_insert_1 : decode cX9_insert 1 = .ok (.iconst 0, 1) := by decide +kernel
theorem dX9_insert_2 : decode cX9_insert 2 = .ok (.putfield 65, 3) := by decide +kernel
theorem dX9_insert_5 : decode cX9_insert 5 = .ok (.iload_n 1, 1) := by decide +kernel
theorem dX9_insert_6 : decode cX9_insert 6 = .ok (.iconst 0, 1) := by decide +kernel
theorem dX9_insert_7 : decode cX9_insert 7 = .ok (.aload_n 0, 1) := by decide +kernel
theorem dX9_insert_8 : decode cX9_insert 8 = .ok (.getfield 91, 3) := by decide +kernel
theorem dX9_insert_11 : decode cX9_insert 11 = .ok (.invokestatic 72, 3) := by decide +kernel
theorem dX9_insert_14 : decode cX9_insert 14 = .ok (.ifCond .eq 12, 3) := by decide +kernel
theorem dX9_insert_17 : decode cX9_insert 17 = .ok (.iload_n 2, 1) := by decide +kernel
theorem dX9_insert_18 : decode cX9_insert 18 = .ok (.iconst 0, 1) := by decide +kernel
theorem dX9_insert_19 : decode cX9_insert 19 = .ok (.iconst 4, 1) := by decide +kernel
theorem dX9_insert_20 : decode cX9_insert 20 = .ok (.invokestatic 72, 3) := by decide +kernel
theorem dX9_insert_23 : decode cX9_insert 23 = .ok (.ifCond .ne 9, 3) := by decide +kernel
theorem dX9_insert_26 : decode cX9_insert 26 = .ok (.aload_n 0, 1) := by decide +kernel
theorem dX9_insert_27 : decode cX9_insert 27 = .ok (.iconst 1, 1) := by decide +kernel
theorem dX9_insert_28 : decode cX9_insert 28 = .ok (.invokevirtual 119, 3) := by decide +kernel
theorem dX9_insert_31 : decode cX9_insert 31 = .ok (.ireturn, 1) := by decide +kernel
theorem dX9_insert_32 : decode cX9_insert 32 = .ok (.aload_n 0, 1) := by decide +kernel
theorem dX9_insert_33 : decode cX9_insert 33 = .ok (.getfield 69, 3) := by decide +kernel
theorem dX9_insert_36 : decode cX9_insert 36 = .ok (.bipush 60, 2) := by decide +kernel
theorem dX9_insert_38 : decode cX9_insert 38 = .ok (.if_icmp .ne 9, 3) := by decide +kernel
theorem dX9_insert_47 : decode cX9_insert 47 = .ok (.aload_n 0, 1) := by decide +kernel
theorem dX9_insert_48 : decode cX9_insert 48 = .ok (.getfield 9, 3) := by decide +kernel
theorem dX9_insert_51 : decode cX9_insert 51 = .ok (.aload_n 0, 1) := by decide +kernel
theorem dX9_insert_52 : decode cX9_insert 52 = .ok (.getfield 69, 3) := by decide +kernel
theorem dX9_insert_55 : decode cX9_insert 55 = .ok (.iload_n 2, 1) := by decide +kernel
theorem dX9_insert_56 : decode cX9_insert 56 = .ok (.iastore, 1) := by decide +kernel
theorem dX9_insert_57 : decode cX9_insert 57 = .ok (.aload_n 0, 1) := by decide +kernel
theorem dX9_insert_58 : decode cX9_insert 58 = .ok (.aload_n 0, 1) := by decide +kernel
theorem dX9_insert_59 : decode cX9_insert 59 = .ok (.getfield 69, 3) := by decide +kernel
theorem dX9_insert_62 : decode cX9_insert 62 = .ok (.iload_n 1, 1) := by decide +kernel
theorem dX9_insert_63 : decode cX9_insert 63 = .ok (.invokevirtual 122, 3) := by decide +kernel
theorem dX9_insert_66 : decode cX9_insert 66 = .ok (.aload_n 0, 1) := by decide +kernel
theorem dX9_insert_67 : decode cX9_insert 67 = .ok (.invokevirtual 126, 3) := by decide +kernel
theorem dX9_insert_70 : decode cX9_insert 70 = .ok (.ifCond .eq 14, 3) := by decide +kernel
theorem dX9_insert_84 : decode cX9_insert 84 = .ok (.aload_n 0, 1) := by decide +kernel
theorem dX9_insert_85 : decode cX9_insert 85 = .ok (.dup, 1) := by decide +kernel
theorem dX9_insert_86 : decode cX9_insert 86 = .ok (.getfield 69, 3) := by decide +kernel
theorem dX9_insert_89 : decode cX9_insert 89 = .ok (.iconst 1, 1) := by decide +kernel
theorem dX9_insert_90 : decode cX9_insert 90 = .ok (.iadd, 1) := by decide +kernel
theorem dX9_insert_91 : decode cX9_insert 91 = .ok (.putfield 69, 3) := by decide +kernel
theorem dX9_insert_94 : decode cX9_insert 94 = .ok (.aload_n 0, 1) := by decide +kernel
theorem dX9_insert_95 : decode cX9_insert 95 = .ok (.invokevirtual 133, 3) := by decide +kernel
theorem dX9_insert_98 : decode cX9_insert 98 = .ok (.aload_n 0, 1) := by decide +kernel
theorem dX9_insert_99 : decode cX9_insert 99 = .ok (.getfield 69, 3) := by decide +kernel
theorem dX9_insert_102 : decode cX9_insert 102 = .ok (.iconst 1, 1) := by decide +kernel
theorem dX9_insert_103 : decode cX9_insert 103 = .ok (.isub, 1) := by decide +kernel
theorem dX9_insert_104 : decode cX9_insert 104 = .ok (.ireturn, 1) := by decide +kernel
set_option maxRecDepth 20000 in
theorem ggX9_move_X9_isGone : GoodIn wsX9_move wsX9_isGone := goodIn_ca (goodIn_r _ [8, 9, 10, 11, 12, 7, 13, 14, 3, 15, 16, 17, 83, 84, 85, 86, 87, 88, 89, 90, 91, 92, 93, 94, 95, 96, 97, 98, 99, 100, 101, 102, 103, 104] (by decide +kernel) (by decide +kernel)) (goodIn_sub (fun _ h => List.mem_cons_of_mem _ (List.mem_append_right _ h)) (by decide +kernel))
set_option maxRecDepth 20000 in
theorem gX9_move_X9_isGone : GoodIn wsX9_move (wsV RX9 80 RX9 yX9_isGone wsX9_isGone) := goodIn_app (goodIn_of _ (by decide +kernel)) ggX9_move_X9_isGone
theorem dX9_move_0 : decode cX9_move 0 = .ok (.aload_n 0, 1) := by decide +kernel
theorem dX9_move_1 : decode cX9_move 1 = .ok (.iload_n 1, 1) := by decide +kernel
theorem dX9_move_2 : decode cX9_move 2 = .ok (.invokevirtual 80, 3) := by decide +kernel
theorem dX9_move_5 : decode cX9_move 5 = .ok (.ifCond .eq 5, 3) := by decide +kernel
theorem dX9_move_8 : decode cX9_move 8 = .ok (.iconst 0, 1) := by decide +kernel
theorem dX9_move_9 : decode cX9_move 9 = .ok (.ireturn, 1) := by decide +kernel
set_option maxRecDepth 20000 in
theorem ggX9_setLevel_X9_isGone : GoodIn wsX9_setLevel wsX9_isGone := goodIn_ca (goodIn_r _ [7, 8, 9, 10, 11, 6, 12, 13, 14, 15, 16, 17, 75, 76, 77, 78, 79, 80, 81, 82, 83, 84, 85, 86, 87, 88, 89, 90, 91, 92, 93, 94, 95, 96] (by decide +kernel) (by decide +kernel)) (goodIn_sub (fun _ h => List.mem_cons_of_mem _ (List.mem_append_right _ h)) (by decide +kernel))
set_option maxRecDepth 20000 in
theorem gX9_setLevel_X9_isGone : GoodIn wsX9_setLevel (wsV RX9 80 RX9 yX9_isGone wsX9_isGone) := goodIn_app (goodIn_of _ (by decide +kernel)) ggX9_setLevel_X9_isGone
theorem dX9_setLevel_0 : decode cX9_setLevel 0 = .ok (.aload_n 0, 1) := by decide +kernel
theorem dX9_setLevel_1 : decode cX9_setLevel 1 = .ok (.iload_n 1, 1) := by decide +kernel
theorem dX9_setLevel_2 : decode cX9_setLevel 2 = .ok (.invokevirtual 80, 3) := by decide +kernel
theorem dX9_setLevel_5 : decode cX9_setLevel 5 = .ok (.ifCond .eq 5, 3) := by decide +kernel
theorem dX9_setLevel_8 : decode cX9_setLevel 8 = .ok (.iconst 0, 1) := by decide +kernel
theorem dX9_setLevel_9 : decode cX9_setLevel 9 = .ok (.ireturn, 1) := by decide +kernel
set_option maxRecDepth 20000 in
theorem ggX9_remove_X9_isGone : GoodIn wsX9_remove wsX9_isGone := goodIn_ca (goodIn_r _ [7, 8, 9, 10, 11, 6, 12, 13, 1, 14, 15, 16, 83, 84, 85, 86, 87, 88, 89, 90, 91, 92, 93, 94, 95, 96, 97, 98, 99, 100, 101, 102, 103, 104] (by decide +kernel) (by decide +kernel)) (goodIn_sub (fun _ h => List.mem_cons_of_mem _ (List.mem_append_right _ h)) (by decide +kernel))
set_option maxRecDepth 20000 in
theorem gX9_remove_X9_isGone : GoodIn wsX9_remove (wsV RX9 80 RX9 yX9_isGone wsX9_isGone) := goodIn_app (goodIn_of _ (by decide +kernel)) ggX9_remove_X9_isGone
theorem dX9_remove_0 : decode cX9_remove 0 = .ok (.aload_n 0, 1) := by decide +kernel
theorem dX9_remove_1 : decode cX9_remove 1 = .ok (.iload_n 1, 1) := by decide +kernel
theorem dX9_remove_2 : decode cX9_remove 2 = .ok (.invokevirtual 80, 3) := by decide +kernel
theorem dX9_remove_5 : decode cX9_remove 5 = .ok (.ifCond .eq 5, 3) := by decide +kernel
theorem dX9_remove_8 : decode cX9_remove 8 = .ok (.iconst 0, 1) := by decide +kernel
theorem dX9_remove_9 : decode cX9_remove 9 = .ok (.ireturn, 1) := by decide +kernel
set_option maxRecDepth 20000 in
theorem ggX9_startAt_X9_isGone : GoodIn wsX9_startAt wsX9_isGone := goodIn_ca (goodIn_r _ [6, 7, 8, 9, 10, 5, 11, 12, 13, 14, 15, 16, 71, 72, 73, 74, 75, 76, 77, 78, 79, 80, 81, 82, 83, 84, 85, 86, 87, 88, 89, 90, 91, 92] (by decide +kernel) (by decide +kernel)) (goodIn_sub (fun _ h => List.mem_cons_of_mem _ (List.mem_append_right _ h)) (by decide +kernel))
set_option maxRecDepth 20000 in
theorem gX9_startAt_X9_isGone : GoodIn wsX9_startAt (wsV RX9 80 RX9 yX9_isGone wsX9_isGone) := goodIn_app (goodIn_of _ (by decide +kernel)) ggX9_startAt_X9_isGone
theorem dX9_startAt_0 : decode cX9_startAt 0 = .ok (.aload_n 0, 1) := by decide +kernel
theorem dX9_startAt_1 : decode cX9_startAt 1 = .ok (.iload_n 1, 1) := by decide +kernel
theorem dX9_startAt_2 : decode cX9_startAt 2 = .ok (.invokevirtual 80, 3) := by decide +kernel
theorem dX9_startAt_5 : decode cX9_startAt 5 = .ok (.ifCond .eq 5, 3) := by decide +kernel
theorem dX9_startAt_8 : decode cX9_startAt 8 = .ok (.iconst 0, 1) := by decide +kernel
theorem dX9_startAt_9 : decode cX9_startAt 9 = .ok (.ireturn, 1) := by decide +kernel
set_option maxRecDepth 20000 in
theorem ggX9_reserve_X9_isGone : GoodIn wsX9_reserve wsX9_isGone := goodIn_ca (goodIn_r _ [6, 7, 8, 9, 10, 5, 11, 12, 13, 14, 15, 16, 71, 72, 73, 74, 75, 76, 77, 78, 79, 80, 81, 82, 83, 84, 85, 86, 87, 88, 89, 90, 91, 92] (by decide +kernel) (by decide +kernel)) (goodIn_sub (fun _ h => List.mem_cons_of_mem _ (List.mem_append_right _ h)) (by decide +kernel))
set_option maxRecDepth 20000 in
theorem gX9_reserve_X9_isGone : GoodIn wsX9_reserve (wsV RX9 80 RX9 yX9_isGone wsX9_isGone) := goodIn_app (goodIn_of _ (by decide +kernel)) ggX9_reserve_X9_isGone
theorem dX9_reserve_0 : decode cX9_reserve 0 = .ok (.aload_n 0, 1) := by decide +kernel
theorem dX9_reserve_1 : decode cX9_reserve 1 = .ok (.iload_n 1, 1) := by decide +kernel
theorem dX9_reserve_2 : decode cX9_reserve 2 = .ok (.invokevirtual 80, 3) := by decide +kernel
theorem dX9_reserve_5 : decode cX9_reserve 5 = .ok (.ifCond .eq 5, 3) := by decide +kernel
theorem dX9_reserve_8 : decode cX9_reserve 8 = .ok (.iconst 0, 1) := by decide +kernel
theorem dX9_reserve_9 : decode cX9_reserve 9 = .ok (.ireturn, 1) := by decide +kernel
set_option maxRecDepth 20000 in
theorem ggX9_skips_X9_isLevel : GoodIn wsX9_skips wsX9_isLevel := goodIn_r _ [6, 7, 8, 5, 9] (by decide +kernel) (by decide +kernel)
set_option maxRecDepth 20000 in
theorem gX9_skips_X9_isLevel : GoodIn wsX9_skips (va_wsS RX9 136 yX9_isLevel wsX9_isLevel) := goodIn_app (goodIn_of _ (by decide +kernel)) ggX9_skips_X9_isLevel
set_option maxRecDepth 20000 in
theorem ggX9_skips_X9_isBetween : GoodIn wsX9_skips wsX9_isBetween := goodIn_r _ [9] (by decide +kernel) (by decide +kernel)
set_option maxRecDepth 20000 in
theorem gX9_skips_X9_isBetween : GoodIn wsX9_skips (va_wsS RX9 72 yX9_isBetween wsX9_isBetween) := goodIn_app (goodIn_of _ (by decide +kernel)) ggX9_skips_X9_isBetween
set_option maxRecDepth 20000 in
theorem ggX9_skips_X9_fails : GoodIn wsX9_skips wsX9_fails := goodIn_r _ [13, 1, 65, 66, 67, 68, 69, 70, 71, 72, 73, 74, 75, 76, 77, 78, 79, 80, 81, 82, 83, 84, 85, 86] (by decide +kernel) (by decide +kernel)
set_option maxRecDepth 20000 in
theorem gX9_skips_X9_fails : GoodIn wsX9_skips (wsV RX9 119 RX9 yX9_fails wsX9_fails) := goodIn_app (goodIn_of _ (by decide +kernel)) ggX9_skips_X9_fails
set_option maxRecDepth 20000 in
theorem ggX9_skips_X9_settles : GoodIn wsX9_skips wsX9_settles := goodIn_ca (goodIn_r _ [17, 18, 19, 20, 21, 22, 23, 24, 25, 26, 5, 27, 28, 29, 30, 31, 32, 33, 34, 35, 36, 37, 38, 39, 40, 41, 42, 43, 44, 45, 46, 47, 48, 49, 50, 51, 52, 53, 54, 55, 56, 57, 58, 59, 60, 61, 62, 63, 64, 2, 65, 66, 67, 68, 69, 70, 71, 72, 73, 74, 75, 76, 77, 78, 79, 80, 81, 82, 83, 84, 85, 86] (by decide +kernel) (by decide +kernel)) (goodIn_sub (fun _ h => List.mem_cons_of_mem _ (List.mem_append_right _ h)) (by decide +kernel))
set_option maxRecDepth 20000 in
theorem gX9_skips_X9_settles : GoodIn wsX9_skips (wsV RX9 133 RX9 yX9_settles wsX9_settles) := goodIn_app (goodIn_of _ (by decide +kernel)) ggX9_skips_X9_settles
theorem dX9_skips_0 : decode cX9_skips 0 = .ok (.aload_n 0, 1) := by decide +kernel
theorem dX9_skips_1 : decode cX9_skips 1 = .ok (.iconst 0, 1) := by decide +kernel
theorem dX9_skips_2 : decode cX9_skips 2 = .ok (.putfield 65, 3) := by decide +kernel
theorem dX9_skips_5 : decode cX9_skips 5 = .ok (.iload_n 1, 1) := by decide +kernel
theorem dX9_skips_6 : decode cX9_skips 6 = .ok (.invokestatic 136, 3) := by decide +kernel
theorem dX9_skips_9 : decode cX9_skips 9 = .ok (.ifCond .eq 13, 3) := by decide +kernel
theorem dX9_skips_12 : decode cX9_skips 12 = .ok (.iload_n 2, 1) := by decide +kernel
theorem dX9_skips_13 : decode cX9_skips 13 = .ok (.iconst 1, 1) := by decide +kernel
theorem dX9_skips_14 : decode cX9_skips 14 = .ok (.bipush 99, 2) := by decide +kernel
theorem dX9_skips_16 : decode cX9_skips 16 = .ok (.invokestatic 72, 3) := by decide +kernel
theorem dX9_skips_19 : decode cX9_skips 19 = .ok (.ifCond .ne 9, 3) := by decide +kernel
theorem dX9_skips_22 : decode cX9_skips 22 = .ok (.aload_n 0, 1) := by decide +kernel
theorem dX9_skips_23 : decode cX9_skips 23 = .ok (.iconst 1, 1) := by decide +kernel
theorem dX9_skips_24 : decode cX9_skips 24 = .ok (.invokevirtual 119, 3) := by decide +kernel
theorem dX9_skips_27 : decode cX9_skips 27 = .ok (.ireturn, 1) := by decide +kernel
theorem dX9_skips_28 : decode cX9_skips 28 = .ok (.aload_n 0, 1) := by decide +kernel
theorem dX9_skips_29 : decode cX9_skips 29 = .ok (.getfield 43, 3) := by decide +kernel
theorem dX9_skips_32 : decode cX9_skips 32 = .ok (.iload_n 1, 1) := by decide +kernel
theorem dX9_skips_33 : decode cX9_skips 33 = .ok (.aaload, 1) := by decide +kernel
theorem dX9_skips_34 : decode cX9_skips 34 = .ok (.iload_n 2, 1) := by decide +kernel
theorem dX9_skips_35 : decode cX9_skips 35 = .ok (.baload, 1) := by decide +kernel
theorem dX9_skips_36 : decode cX9_skips 36 = .ok (.iload_n 3, 1) := by decide +kernel
theorem dX9_skips_37 : decode cX9_skips 37 = .ok (.if_icmp .ne 9, 3) := by decide +kernel
theorem dX9_skips_40 : decode cX9_skips 40 = .ok (.aload_n 0, 1) := by decide +kernel
theorem dX9_skips_41 : decode cX9_skips 41 = .ok (.iconst 2, 1) := by decide +kernel
theorem dX9_skips_42 : decode cX9_skips 42 = .ok (.invokevirtual 119, 3) := by decide +kernel
theorem dX9_skips_45 : decode cX9_skips 45 = .ok (.ireturn, 1) := by decide +kernel
theorem dX9_skips_46 : decode cX9_skips 46 = .ok (.aload_n 0, 1) := by decide +kernel
theorem dX9_skips_47 : decode cX9_skips 47 = .ok (.getfield 43, 3) := by decide +kernel
theorem dX9_skips_50 : decode cX9_skips 50 = .ok (.iload_n 1, 1) := by decide +kernel
theorem dX9_skips_51 : decode cX9_skips 51 = .ok (.aaload, 1) := by decide +kernel
theorem dX9_skips_52 : decode cX9_skips 52 = .ok (.iload_n 2, 1) := by decide +kernel
theorem dX9_skips_53 : decode cX9_skips 53 = .ok (.iload_n 3, 1) := by decide +kernel
theorem dX9_skips_54 : decode cX9_skips 54 = .ok (.bastore, 1) := by decide +kernel
theorem dX9_skips_55 : decode cX9_skips 55 = .ok (.aload_n 0, 1) := by decide +kernel
theorem dX9_skips_56 : decode cX9_skips 56 = .ok (.invokevirtual 133, 3) := by decide +kernel
theorem dX9_skips_59 : decode cX9_skips 59 = .ok (.iconst 0, 1) := by decide +kernel
theorem dX9_skips_60 : decode cX9_skips 60 = .ok (.istore 4, 2) := by decide +kernel
theorem dX9_skips_62 : decode cX9_skips 62 = .ok (.iconst 1, 1) := by decide +kernel
theorem dX9_skips_63 : decode cX9_skips 63 = .ok (.istore 5, 2) := by decide +kernel
theorem dX9_skips_65 : decode cX9_skips 65 = .ok (.iload 5, 2) := by decide +kernel
theorem dX9_skips_67 : decode cX9_skips 67 = .ok (.bipush 100, 2) := by decide +kernel
theorem dX9_skips_69 : decode cX9_skips 69 = .ok (.if_icmp .ge 31, 3) := by decide +kernel
theorem dX9_skips_72 : decode cX9_skips 72 = .ok (.iload 4, 2) := by decide +kernel
theorem dX9_skips_74 : decode cX9_skips 74 = .ok (.aload_n 0, 1) := by decide +kernel
theorem dX9_skips_75 : decode cX9_skips 75 = .ok (.getfield 43, 3) := by decide +kernel
theorem dX9_skips_78 : decode cX9_skips 78 = .ok (.iload_n 1, 1) := by decide +kernel
theorem dX9_skips_79 : decode cX9_skips 79 = .ok (.aaload, 1) := by decide +kernel
theorem dX9_skips_80 : decode cX9_skips 80 = .ok (.iload 5, 2) := by decide +kernel
theorem dX9_skips_82 : decode cX9_skips 82 = .ok (.baload, 1) := by decide +kernel
theorem dX9_skips_83 : decode cX9_skips 83 = .ok (.ifCond .eq 7, 3) := by decide +kernel
theorem dX9_skips_86 : decode cX9_skips 86 = .ok (.iconst 1, 1) := by decide +kernel
theorem dX9_skips_87 : decode cX9_skips 87 = .ok (.goto 4, 3) := by decide +kernel
theorem dX9_skips_90 : decode cX9_skips 90 = .ok (.iconst 0, 1) := by decide +kernel
theorem dX9_skips_91 : decode cX9_skips 91 = .ok (.iadd, 1) := by decide +kernel
theorem dX9_skips_92 : decode cX9_skips 92 = .ok (.istore 4, 2) := by decide +kernel
theorem dX9_skips_94 : decode cX9_skips 94 = .ok (.iinc 5 1, 3) := by decide +kernel
theorem dX9_skips_97 : decode cX9_skips 97 = .ok (.goto (-32), 3) := by decide +kernel
theorem dX9_skips_100 : decode cX9_skips 100 = .ok (.iload 4, 2) := by decide +kernel
theorem dX9_skips_102 : decode cX9_skips 102 = .ok (.ireturn, 1) := by decide +kernel
set_option maxRecDepth 20000 in
theorem ggX9_skip_X9_skips : GoodIn wsX9_skip wsX9_skips := goodIn_ca (goodIn_r _ [5, 6, 7, 8, 9, 4, 10, 11, 12, 13, 14, 15, 16, 17, 18, 19, 20, 21, 22, 23, 24, 25, 26, 27, 28, 29, 30, 31, 32, 33, 34, 35, 36, 37, 38, 39, 40, 41, 42, 43, 44, 45, 46, 47, 48, 49, 50, 51, 52, 53, 54, 55, 56, 57, 58, 59, 60, 61, 62, 63, 64, 65, 66, 67, 68, 69, 70, 71, 72, 73, 74, 75, 76, 77, 78, 79, 80, 81, 82, 83, 84, 85, 86, 87, 88, 89, 90] (by decide +kernel) (by decide +kernel)) (goodIn_sub (fun _ h => List.mem_cons_of_mem _ (List.mem_append_right _ h)) (by decide +kernel))
set_option maxRecDepth 20000 in
theorem gX9_skip_X9_skips : GoodIn wsX9_skip (wsV RX9 139 RX9 yX9_skips wsX9_skips) := goodIn_app (goodIn_of _ (by decide +kernel)) ggX9_skip_X9_skips
theorem dX9_skip_0 : decode cX9_skip 0 = .ok (.aload_n 0, 1) := by decide +kernel
theorem dX9_skip_1 : decode cX9_skip 1 = .ok (.iload_n 1, 1) := by decide +kernel
theorem dX9_skip_2 : decode cX9_skip 2 = .ok (.iload_n 2, 1) := by decide +kernel
theorem dX9_skip_3 : decode cX9_skip 3 = .ok (.iconst 1, 1) := by decide +kernel
theorem dX9_skip_4 : decode cX9_skip 4 = .ok (.invokevirtual 139, 3) := by decide +kernel
theorem dX9_skip_7 : decode cX9_skip 7 = .ok (.ireturn, 1) := by decide +kernel
set_option maxRecDepth 20000 in
theorem ggX9_unskip_X9_skips : GoodIn wsX9_unskip wsX9_skips := goodIn_ca (goodIn_r _ [5, 6, 7, 8, 9, 4, 10, 11, 12, 13, 14, 15, 16, 17, 18, 19, 20, 21, 22, 23, 24, 25, 26, 27, 28, 29, 30, 31, 32, 33, 34, 35, 36, 37, 38, 39, 40, 41, 42, 43, 44, 45, 46, 47, 48, 49, 50, 51, 52, 53, 54, 55, 56, 57, 58, 59, 60, 61, 62, 63, 64, 65, 66, 67, 68, 69, 70, 71, 72, 73, 74, 75, 76, 77, 78, 79, 80, 81, 82, 83, 84, 85, 86, 87, 88, 89, 90] (by decide +kernel) (by decide +kernel)) (goodIn_sub (fun _ h => List.mem_cons_of_mem _ (List.mem_append_right _ h)) (by decide +kernel))
set_option maxRecDepth 20000 in
theorem gX9_unskip_X9_skips : GoodIn wsX9_unskip (wsV RX9 139 RX9 yX9_skips wsX9_skips) := goodIn_app (goodIn_of _ (by decide +kernel)) ggX9_unskip_X9_skips
theorem dX9_unskip_0 : decode cX9_unskip 0 = .ok (.aload_n 0, 1) := by decide +kernel
theorem dX9_unskip_1 : decode cX9_unskip 1 = .ok (.iload_n 1, 1) := by decide +kernel
theorem dX9_unskip_2 : decode cX9_unskip 2 = .ok (.iload_n 2, 1) := by decide +kernel
theorem dX9_unskip_3 : decode cX9_unskip 3 = .ok (.iconst 0, 1) := by decide +kernel
theorem dX9_unskip_4 : decode cX9_unskip 4 = .ok (.invokevirtual 139, 3) := by decide +kernel
theorem dX9_unskip_7 : decode cX9_unskip 7 = .ok (.ireturn, 1) := by decide +kernel
set_option maxRecDepth 20000 in
theorem ggX9_setFormat_X9_isLevel : GoodIn wsX9_setFormat wsX9_isLevel := goodIn_r _ [6, 7, 8, 5, 9] (by decide +kernel) (by decide +kernel)
set_option maxRecDepth 20000 in
theorem gX9_setFormat_X9_isLevel : GoodIn wsX9_setFormat (va_wsS RX9 136 yX9_isLevel wsX9_isLevel) := goodIn_app (goodIn_of _ (by decide +kernel)) ggX9_setFormat_X9_isLevel
set_option maxRecDepth 20000 in
theorem ggX9_setFormat_X9_fails : GoodIn wsX9_setFormat wsX9_fails := goodIn_r _ [13, 1, 14, 15, 16, 17, 18, 19, 20, 21, 22, 23, 24, 25, 26, 27, 28, 29, 30, 31, 32, 33, 34, 35] (by decide +kernel) (by decide +kernel)
set_option maxRecDepth 20000 in
theorem gX9_setFormat_X9_fails : GoodIn wsX9_setFormat (wsV RX9 119 RX9 yX9_fails wsX9_fails) := goodIn_app (goodIn_of _ (by decide +kernel)) ggX9_setFormat_X9_fails
theorem dX9_setFormat_0 : decode cX9_setFormat 0 = .ok (.aload_n 0, 1) := by decide +kernel
theorem dX9_setFormat_1 : decode cX9_setFormat 1 = .ok (.iconst 0, 1) := by decide +kernel
theorem dX9_setFormat_2 : decode cX9_setFormat 2 = .ok (.putfield 65, 3) := by decide +kernel
theorem dX9_setFormat_5 : decode cX9_setFormat 5 = .ok (.iload_n 1, 1) := by decide +kernel
theorem dX9_setFormat_6 : decode cX9_setFormat 6 = .ok (.invokestatic 136, 3) := by decide +kernel
theorem dX9_setFormat_9 : decode cX9_setFormat 9 = .ok (.ifCond .eq 27, 3) := by decide +kernel
theorem dX9_setFormat_12 : decode cX9_setFormat 12 = .ok (.iload_n 2, 1) := by decide +kernel
theorem dX9_setFormat_13 : decode cX9_setFormat 13 = .ok (.bipush 100, 2) := by decide +kernel
theorem dX9_setFormat_15 : decode cX9_setFormat 15 = .ok (.if_icmp .eq 28, 3) := by decide +kernel
theorem dX9_setFormat_18 : decode cX9_setFormat 18 = .ok (.iload_n 2, 1) := by decide +kernel
theorem dX9_setFormat_19 : decode cX9_setFormat 19 = .ok (.bipush 108, 2) := by decide +kernel
theorem dX9_setFormat_21 : decode cX9_setFormat 21 = .ok (.if_icmp .eq 22, 3) := by decide +kernel
theorem dX9_setFormat_24 : decode cX9_setFormat 24 = .ok (.iload_n 2, 1) := by decide +kernel
theorem dX9_setFormat_25 : decode cX9_setFormat 25 = .ok (.bipush 114, 2) := by decide +kernel
theorem dX9_setFormat_27 : decode cX9_setFormat 27 = .ok (.if_icmp .eq 16, 3) := by decide +kernel
theorem dX9_setFormat_30 : decode cX9_setFormat 30 = .ok (.iload_n 2, 1) := by decide +kernel
theorem dX9_setFormat_31 : decode cX9_setFormat 31 = .ok (.bipush 82, 2) := by decide +kernel
theorem dX9_setFormat_33 : decode cX9_setFormat 33 = .ok (.if_icmp .eq 10, 3) := by decide +kernel
theorem dX9_setFormat_36 : decode cX9_setFormat 36 = .ok (.aload_n 0, 1) := by decide +kernel
theorem dX9_setFormat_37 : decode cX9_setFormat 37 = .ok (.iconst 1, 1) := by decide +kernel
theorem dX9_setFormat_38 : decode cX9_setFormat 38 = .ok (.invokevirtual 119, 3) := by decide +kernel
theorem dX9_setFormat_41 : decode cX9_setFormat 41 = .ok (.i2c, 1) := by decide +kernel
theorem dX9_setFormat_42 : decode cX9_setFormat 42 = .ok (.ireturn, 1) := by decide +kernel
theorem dX9_setFormat_43 : decode cX9_setFormat 43 = .ok (.aload_n 0, 1) := by decide +kernel
theorem dX9_setFormat_44 : decode cX9_setFormat 44 = .ok (.getfield 46, 3) := by decide +kernel
theorem dX9_setFormat_47 : decode cX9_setFormat 47 = .ok (.iload_n 1, 1) := by decide +kernel
theorem dX9_setFormat_48 : decode cX9_setFormat 48 = .ok (.caload, 1) := by decide +kernel
theorem dX9_setFormat_49 : decode cX9_setFormat 49 = .ok (.istore_n 3, 1) := by decide +kernel
theorem dX9_setFormat_50 : decode cX9_setFormat 50 = .ok (.aload_n 0, 1) := by decide +kernel
theorem dX9_setFormat_51 : decode cX9_setFormat 51 = .ok (.getfield 46, 3) := by decide +kernel
theorem dX9_setFormat_54 : decode cX9_setFormat 54 = .ok (.iload_n 1, 1) := by decide +kernel
theorem dX9_setFormat_55 : decode cX9_setFormat 55 = .ok (.iload_n 2, 1) := by decide +kernel
theorem dX9_setFormat_56 : decode cX9_setFormat 56 = .ok (.castore, 1) := by decide +kernel
theorem dX9_setFormat_57 : decode cX9_setFormat 57 = .ok (.iload_n 3, 1) := by decide +kernel
theorem dX9_setFormat_58 : decode cX9_setFormat 58 = .ok (.ireturn, 1) := by decide +kernel
set_option maxRecDepth 20000 in
theorem ggX9_setGoingOn_X9_isLevel : GoodIn wsX9_setGoingOn wsX9_isLevel := goodIn_r _ [10, 11, 12, 9, 13] (by decide +kernel) (by decide +kernel)
set_option maxRecDepth 20000 in
theorem gX9_setGoingOn_X9_isLevel : GoodIn wsX9_setGoingOn (va_wsS RX9 136 yX9_isLevel wsX9_isLevel) := goodIn_app (goodIn_of _ (by decide +kernel)) ggX9_setGoingOn_X9_isLevel
set_option maxRecDepth 20000 in
theorem ggX9_setGoingOn_X9_isWrong : GoodIn wsX9_setGoingOn wsX9_isWrong := goodIn_r _ [17, 1, 65, 66, 67, 68, 69, 70, 71, 72, 73, 74, 75, 76, 77, 78, 79, 80, 81, 82, 83, 84, 85, 86] (by decide +kernel) (by decide +kernel)
set_option maxRecDepth 20000 in
theorem gX9_setGoingOn_X9_isWrong : GoodIn wsX9_setGoingOn (wsV RX9 143 RX9 yX9_isWrong wsX9_isWrong) := goodIn_app (goodIn_of _ (by decide +kernel)) ggX9_setGoingOn_X9_isWrong
set_option maxRecDepth 20000 in
theorem ggX9_setGoingOn_X9_settles : GoodIn wsX9_setGoingOn wsX9_settles := goodIn_ca (goodIn_r _ [21, 2, 22, 4, 23, 5, 3, 24, 25, 26, 9, 27, 28, 29, 30, 31, 32, 33, 34, 35, 36, 37, 38, 39, 40, 41, 42, 43, 44, 45, 46, 47, 48, 49, 50, 51, 6, 52, 53, 54, 55, 56, 57, 58, 59, 60, 61, 62, 63, 64, 65, 66, 67, 68, 69, 70, 71, 72, 73, 74, 75, 76, 77, 78, 79, 80, 81, 82, 83, 84, 85, 86] (by decide +kernel) (by decide +kernel)) (goodIn_sub (fun _ h => List.mem_cons_of_mem _ (List.mem_append_right _ h)) (by decide +kernel))
set_option maxRecDepth 20000 in
theorem gX9_setGoingOn_X9_settles : GoodIn wsX9_setGoingOn (wsV RX9 133 RX9 yX9_settles wsX9_settles) := goodIn_app (goodIn_of _ (by decide +kernel)) ggX9_setGoingOn_X9_settles
theorem dX9_setGoingOn_0 : decode cX9_setGoingOn 0 = .ok (.aload_n 0, 1) := by decide +kernel
theorem dX9_setGoingOn_1 : decode cX9_setGoingOn 1 = .ok (.iconst 0, 1) := by decide +kernel
theorem dX9_setGoingOn_2 : decode cX9_setGoingOn 2 = .ok (.putfield 65, 3) := by decide +kernel
theorem dX9_setGoingOn_5 : decode cX9_setGoingOn 5 = .ok (.iload_n 1, 1) := by decide +kernel
theorem dX9_setGoingOn_6 : decode cX9_setGoingOn 6 = .ok (.invokestatic 136, 3) := by decide +kernel
theorem dX9_setGoingOn_9 : decode cX9_setGoingOn 9 = .ok (.ifCond .ne 9, 3) := by decide +kernel
theorem dX9_setGoingOn_12 : decode cX9_setGoingOn 12 = .ok (.aload_n 0, 1) := by decide +kernel
theorem dX9_setGoingOn_13 : decode cX9_setGoingOn 13 = .ok (.iconst 1, 1) := by decide +kernel
theorem dX9_setGoingOn_14 : decode cX9_setGoingOn 14 = .ok (.invokevirtual 143, 3) := by decide +kernel
theorem dX9_setGoingOn_17 : decode cX9_setGoingOn 17 = .ok (.ireturn, 1) := by decide +kernel
theorem dX9_setGoingOn_18 : decode cX9_setGoingOn 18 = .ok (.iconst 0, 1) := by decide +kernel
theorem dX9_setGoingOn_19 : decode cX9_setGoingOn 19 = .ok (.istore_n 3, 1) := by decide +kernel
theorem dX9_setGoingOn_20 : decode cX9_setGoingOn 20 = .ok (.iload_n 3, 1) := by decide +kernel
theorem dX9_setGoingOn_21 : decode cX9_setGoingOn 21 = .ok (.aload_n 0, 1) := by decide +kernel
theorem dX9_setGoingOn_22 : decode cX9_setGoingOn 22 = .ok (.getfield 91, 3) := by decide +kernel
theorem dX9_setGoingOn_25 : decode cX9_setGoingOn 25 = .ok (.if_icmp .ge 44, 3) := by decide +kernel
theorem dX9_setGoingOn_69 : decode cX9_setGoingOn 69 = .ok (.aload_n 0, 1) := by decide +kernel
theorem dX9_setGoingOn_70 : decode cX9_setGoingOn 70 = .ok (.getfield 38, 3) := by decide +kernel
theorem dX9_setGoingOn_73 : decode cX9_setGoingOn 73 = .ok (.iload_n 1, 1) := by decide +kernel
theorem dX9_setGoingOn_74 : decode cX9_setGoingOn 74 = .ok (.baload, 1) := by decide +kernel
theorem dX9_setGoingOn_75 : decode cX9_setGoingOn 75 = .ok (.istore_n 3, 1) := by decide +kernel
theorem dX9_setGoingOn_76 : decode cX9_setGoingOn 76 = .ok (.aload_n 0, 1) := by decide +kernel
theorem dX9_setGoingOn_77 : decode cX9_setGoingOn 77 = .ok (.getfield 38, 3) := by decide +kernel
theorem dX9_setGoingOn_80 : decode cX9_setGoingOn 80 = .ok (.iload_n 1, 1) := by decide +kernel
theorem dX9_setGoingOn_81 : decode cX9_setGoingOn 81 = .ok (.iload_n 2, 1) := by decide +kernel
theorem dX9_setGoingOn_82 : decode cX9_setGoingOn 82 = .ok (.bastore, 1) := by decide +kernel
theorem dX9_setGoingOn_83 : decode cX9_setGoingOn 83 = .ok (.aload_n 0, 1) := by decide +kernel
theorem dX9_setGoingOn_84 : decode cX9_setGoingOn 84 = .ok (.invokevirtual 133, 3) := by decide +kernel
theorem dX9_setGoingOn_87 : decode cX9_setGoingOn 87 = .ok (.iload_n 3, 1) := by decide +kernel
theorem dX9_setGoingOn_88 : decode cX9_setGoingOn 88 = .ok (.ireturn, 1) := by decide +kernel
set_option maxRecDepth 20000 in
theorem ggX9_freeze_X9_settles : GoodIn wsX9_freeze wsX9_settles := goodIn_ca (goodIn_r _ [22, 2, 23, 3, 7, 4, 5, 24, 25, 26, 16, 27, 28, 29, 30, 31, 12, 32, 33, 34, 35, 36, 37, 6, 38, 39, 40, 41, 42, 43, 44, 45, 13, 14, 15, 17, 18, 46, 47, 48, 49, 50, 51, 52, 53, 9, 8, 10, 11, 54, 55, 56, 57, 58, 59, 60, 61, 62, 63, 64, 65, 66, 67, 68, 69, 70, 71, 72, 73, 74, 75, 76] (by decide +kernel) (by decide +kernel)) (goodIn_sub (fun _ h => List.mem_cons_of_mem _ (List.mem_append_right _ h)) (by decide +kernel))
set_option maxRecDepth 20000 in
theorem gX9_freeze_X9_settles : GoodIn wsX9_freeze (wsV RX9 133 RX9 yX9_settles wsX9_settles) := goodIn_app (goodIn_of _ (by decide +kernel)) ggX9_freeze_X9_settles
theorem dX9_freeze_0 : decode cX9_freeze 0 = .ok (.aload_n 0, 1) := by decide +kernel
theorem dX9_freeze_1 : decode cX9_freeze 1 = .ok (.iconst 0, 1) := by decide +kernel
theorem dX9_freeze_2 : decode cX9_freeze 2 = .ok (.putfield 65, 3) := by decide +kernel
theorem dX9_freeze_5 : decode cX9_freeze 5 = .ok (.iconst 0, 1) := by decide +kernel
theorem dX9_freeze_6 : decode cX9_freeze 6 = .ok (.istore_n 1, 1) := by decide +kernel
theorem dX9_freeze_7 : decode cX9_freeze 7 = .ok (.iconst 0, 1) := by decide +kernel
theorem dX9_freeze_8 : decode cX9_freeze 8 = .ok (.istore_n 2, 1) := by decide +kernel
theorem dX9_freeze_9 : decode cX9_freeze 9 = .ok (.iload_n 2, 1) := by decide +kernel
theorem dX9_freeze_10 : decode cX9_freeze 10 = .ok (.aload_n 0, 1) := by decide +kernel
theorem dX9_freeze_11 : decode cX9_freeze 11 = .ok (.getfield 91, 3) := by decide +kernel
theorem dX9_freeze_14 : decode cX9_freeze 14 = .ok (.if_icmp .ge 133, 3) := by decide +kernel
theorem dX9_freeze_147 : decode cX9_freeze 147 = .ok (.aload_n 0, 1) := by decide +kernel
theorem dX9_freeze_148 : decode cX9_freeze 148 = .ok (.invokevirtual 133, 3) := by decide +kernel
theorem dX9_freeze_151 : decode cX9_freeze 151 = .ok (.iload_n 1, 1) := by decide +kernel
theorem dX9_freeze_152 : decode cX9_freeze 152 = .ok (.ireturn, 1) := by decide +kernel
theorem dX9_size_0 : decode cX9_size 0 = .ok (.aload_n 0, 1) := by decide +kernel
theorem dX9_size_1 : decode cX9_size 1 = .ok (.iconst 0, 1) := by decide +kernel
theorem dX9_size_2 : decode cX9_size 2 = .ok (.putfield 65, 3) := by decide +kernel
theorem dX9_size_5 : decode cX9_size 5 = .ok (.aload_n 0, 1) := by decide +kernel
theorem dX9_size_6 : decode cX9_size 6 = .ok (.getfield 91, 3) := by decide +kernel
theorem dX9_size_9 : decode cX9_size 9 = .ok (.ireturn, 1) := by decide +kernel
set_option maxRecDepth 20000 in
theorem ggX9_paragraphAt_X9_isBetween : GoodIn wsX9_paragraphAt wsX9_isBetween := goodIn_r _ [7] (by decide +kernel) (by decide +kernel)
set_option maxRecDepth 20000 in
theorem gX9_paragraphAt_X9_isBetween : GoodIn wsX9_paragraphAt (va_wsS RX9 72 yX9_isBetween wsX9_isBetween) := goodIn_app (goodIn_of _ (by decide +kernel)) ggX9_paragraphAt_X9_isBetween
set_option maxRecDepth 20000 in
theorem ggX9_paragraphAt_X9_fails : GoodIn wsX9_paragraphAt wsX9_fails := goodIn_r _ [11, 1, 12, 13, 14, 15, 16, 17, 18, 19, 20, 21, 22, 23, 24, 25, 26, 27, 28, 29, 30, 31, 32, 33] (by decide +kernel) (by decide +kernel)
set_option maxRecDepth 20000 in
theorem gX9_paragraphAt_X9_fails : GoodIn wsX9_paragraphAt (wsV RX9 119 RX9 yX9_fails wsX9_fails) := goodIn_app (goodIn_of _ (by decide +kernel)) ggX9_paragraphAt_X9_fails
theorem dX9_paragraphAt_0 : decode cX9_paragraphAt 0 = .ok (.aload_n 0, 1) := by decide +kernel
theorem dX9_paragraphAt_1 : decode cX9_paragraphAt 1 = .ok (.iconst 0, 1) := by decide +kernel
theorem dX9_paragraphAt_2 : decode cX9_paragraphAt 2 = .ok (.putfield 65, 3) := by decide +kernel
theorem dX9_paragraphAt_5 : decode cX9_paragraphAt 5 = .ok (.iload_n 1, 1) := by decide +kernel
theorem dX9_paragraphAt_6 : decode cX9_paragraphAt 6 = .ok (.iconst 0, 1) := by decide +kernel
theorem dX9_paragraphAt_7 : decode cX9_paragraphAt 7 = .ok (.aload_n 0, 1) := by decide +kernel
theorem dX9_paragraphAt_8 : decode cX9_paragraphAt 8 = .ok (.getfield 91, 3) := by decide +kernel
theorem dX9_paragraphAt_11 : decode cX9_paragraphAt 11 = .ok (.iconst 1, 1) := by decide +kernel
theorem dX9_paragraphAt_12 : decode cX9_paragraphAt 12 = .ok (.isub, 1) := by decide +kernel
theorem dX9_paragraphAt_13 : decode cX9_paragraphAt 13 = .ok (.invokestatic 72, 3) := by decide +kernel
theorem dX9_paragraphAt_16 : decode cX9_paragraphAt 16 = .ok (.ifCond .eq 12, 3) := by decide +kernel
theorem dX9_paragraphAt_28 : decode cX9_paragraphAt 28 = .ok (.aload_n 0, 1) := by decide +kernel
theorem dX9_paragraphAt_29 : decode cX9_paragraphAt 29 = .ok (.iconst 1, 1) := by decide +kernel
theorem dX9_paragraphAt_30 : decode cX9_paragraphAt 30 = .ok (.invokevirtual 119, 3) := by decide +kernel
theorem dX9_paragraphAt_33 : decode cX9_paragraphAt 33 = .ok (.ireturn, 1) := by decide +kernel
set_option maxRecDepth 20000 in
theorem ggX9_placeOf_X9_isGone : GoodIn wsX9_placeOf wsX9_isGone := goodIn_ca (goodIn_r _ [6, 7, 8, 9, 10, 5, 11, 12, 1, 13, 14, 15, 16, 17, 18, 19, 20, 21, 22, 23, 24, 25, 26, 27, 28, 29, 30, 31, 32, 33, 34, 35, 36, 37] (by decide +kernel) (by decide +kernel)) (goodIn_sub (fun _ h => List.mem_cons_of_mem _ (List.mem_append_right _ h)) (by decide +kernel))
set_option maxRecDepth 20000 in
theorem gX9_placeOf_X9_isGone : GoodIn wsX9_placeOf (wsV RX9 80 RX9 yX9_isGone wsX9_isGone) := goodIn_app (goodIn_of _ (by decide +kernel)) ggX9_placeOf_X9_isGone
theorem dX9_placeOf_0 : decode cX9_placeOf 0 = .ok (.aload_n 0, 1) := by decide +kernel
theorem dX9_placeOf_1 : decode cX9_placeOf 1 = .ok (.iload_n 1, 1) := by decide +kernel
theorem dX9_placeOf_2 : decode cX9_placeOf 2 = .ok (.invokevirtual 80, 3) := by decide +kernel
theorem dX9_placeOf_5 : decode cX9_placeOf 5 = .ok (.ifCond .eq 7, 3) := by decide +kernel
theorem dX9_placeOf_8 : decode cX9_placeOf 8 = .ok (.iconst 0, 1) := by decide +kernel
theorem dX9_placeOf_9 : decode cX9_placeOf 9 = .ok (.goto 9, 3) := by decide +kernel
theorem dX9_placeOf_18 : decode cX9_placeOf 18 = .ok (.ireturn, 1) := by decide +kernel
set_option maxRecDepth 20000 in
theorem ggX9_levelOf_X9_isGone : GoodIn wsX9_levelOf wsX9_isGone := goodIn_ca (goodIn_r _ [6, 7, 8, 9, 10, 5, 11, 12, 13, 14, 15, 16, 17, 18, 19, 20, 21, 22, 23, 24, 25, 26, 27, 28, 29, 30, 31, 32, 33, 34, 35, 36, 37, 38] (by decide +kernel) (by decide +kernel)) (goodIn_sub (fun _ h => List.mem_cons_of_mem _ (List.mem_append_right _ h)) (by decide +kernel))
set_option maxRecDepth 20000 in
theorem gX9_levelOf_X9_isGone : GoodIn wsX9_levelOf (wsV RX9 80 RX9 yX9_isGone wsX9_isGone) := goodIn_app (goodIn_of _ (by decide +kernel)) ggX9_levelOf_X9_isGone
theorem dX9_levelOf_0 : decode cX9_levelOf 0 = .ok (.aload_n 0, 1) := by decide +kernel
theorem dX9_levelOf_1 : decode cX9_levelOf 1 = .ok (.iload_n 1, 1) := by decide +kernel
theorem dX9_levelOf_2 : decode cX9_levelOf 2 = .ok (.invokevirtual 80, 3) := by decide +kernel
theorem dX9_levelOf_5 : decode cX9_levelOf 5 = .ok (.ifCond .eq 7, 3) := by decide +kernel
theorem dX9_levelOf_8 : decode cX9_levelOf 8 = .ok (.iconst 0, 1) := by decide +kernel
theorem dX9_levelOf_9 : decode cX9_levelOf 9 = .ok (.goto 9, 3) := by decide +kernel
theorem dX9_levelOf_18 : decode cX9_levelOf 18 = .ok (.ireturn, 1) := by decide +kernel
set_option maxRecDepth 20000 in
theorem ggX9_parentOf_X9_isPlain : GoodIn wsX9_parentOf wsX9_isPlain := goodIn_ca (goodIn_r _ [6, 7, 8, 9, 10, 11, 5, 12, 13, 14, 15, 16, 17, 18, 19, 20, 21, 22, 23, 24, 25, 26, 27, 28, 29, 30, 31, 32, 33, 34, 35, 36, 37, 38, 39, 40, 41, 42, 43] (by decide +kernel) (by decide +kernel)) (goodIn_sub (fun _ h => List.mem_cons_of_mem _ (List.mem_append_right _ h)) (by decide +kernel))
set_option maxRecDepth 20000 in
theorem gX9_parentOf_X9_isPlain : GoodIn wsX9_parentOf (wsV RX9 146 RX9 yX9_isPlain wsX9_isPlain) := goodIn_app (goodIn_of _ (by decide +kernel)) ggX9_parentOf_X9_isPlain
theorem dX9_parentOf_0 : decode cX9_parentOf 0 = .ok (.aload_n 0, 1) := by decide +kernel
theorem dX9_parentOf_1 : decode cX9_parentOf 1 = .ok (.iload_n 1, 1) := by decide +kernel
theorem dX9_parentOf_2 : decode cX9_parentOf 2 = .ok (.invokevirtual 146, 3) := by decide +kernel
theorem dX9_parentOf_5 : decode cX9_parentOf 5 = .ok (.ifCond .eq 7, 3) := by decide +kernel
theorem dX9_parentOf_8 : decode cX9_parentOf 8 = .ok (.iconst 0, 1) := by decide +kernel
theorem dX9_parentOf_9 : decode cX9_parentOf 9 = .ok (.goto 9, 3) := by decide +kernel
theorem dX9_parentOf_18 : decode cX9_parentOf 18 = .ok (.ireturn, 1) := by decide +kernel
set_option maxRecDepth 20000 in
theorem ggX9_below_X9_isGone : GoodIn wsX9_below wsX9_isGone := goodIn_ca (goodIn_r _ [7, 8, 9, 10, 11, 6, 12, 13, 14, 15, 16, 17, 23, 24, 25, 26, 27, 28, 29, 30, 31, 32, 33, 34, 35, 36, 37, 38, 39, 40, 41, 42, 43, 44] (by decide +kernel) (by decide +kernel)) (goodIn_sub (fun _ h => List.mem_cons_of_mem _ (List.mem_append_right _ h)) (by decide +kernel))
set_option maxRecDepth 20000 in
theorem gX9_below_X9_isGone : GoodIn wsX9_below (wsV RX9 80 RX9 yX9_isGone wsX9_isGone) := goodIn_app (goodIn_of _ (by decide +kernel)) ggX9_below_X9_isGone
theorem dX9_below_0 : decode cX9_below 0 = .ok (.aload_n 0, 1) := by decide +kernel
theorem dX9_below_1 : decode cX9_below 1 = .ok (.iload_n 1, 1) := by decide +kernel
theorem dX9_below_2 : decode cX9_below 2 = .ok (.invokevirtual 80, 3) := by decide +kernel
theorem dX9_below_5 : decode cX9_below 5 = .ok (.ifCond .eq 5, 3) := by decide +kernel
theorem dX9_below_8 : decode cX9_below 8 = .ok (.iconst 0, 1) := by decide +kernel
theorem dX9_below_9 : decode cX9_below 9 = .ok (.ireturn, 1) := by decide +kernel
set_option maxRecDepth 20000 in
theorem ggX9_isFrozen_X9_isGone : GoodIn wsX9_isFrozen wsX9_isGone := goodIn_ca (goodIn_r _ [6, 7, 8, 9, 10, 5, 11, 12, 13, 14, 15, 16, 17, 18, 19, 20, 21, 22, 23, 24, 25, 26, 27, 28, 29, 30, 31, 32, 33, 34, 35, 36, 37, 38] (by decide +kernel) (by decide +kernel)) (goodIn_sub (fun _ h => List.mem_cons_of_mem _ (List.mem_append_right _ h)) (by decide +kernel))
set_option maxRecDepth 20000 in
theorem gX9_isFrozen_X9_isGone : GoodIn wsX9_isFrozen (wsV RX9 80 RX9 yX9_isGone wsX9_isGone) := goodIn_app (goodIn_of _ (by decide +kernel)) ggX9_isFrozen_X9_isGone
theorem dX9_isFrozen_0 : decode cX9_isFrozen 0 = .ok (.aload_n 0, 1) := by decide +kernel
theorem dX9_isFrozen_1 : decode cX9_isFrozen 1 = .ok (.iload_n 1, 1) := by decide +kernel
theorem dX9_isFrozen_2 : decode cX9_isFrozen 2 = .ok (.invokevirtual 80, 3) := by decide +kernel
theorem dX9_isFrozen_5 : decode cX9_isFrozen 5 = .ok (.ifCond .ne 16, 3) := by decide +kernel
theorem dX9_isFrozen_21 : decode cX9_isFrozen 21 = .ok (.iconst 0, 1) := by decide +kernel
theorem dX9_isFrozen_22 : decode cX9_isFrozen 22 = .ok (.ireturn, 1) := by decide +kernel
set_option maxRecDepth 20000 in
theorem ggX9_numberOf_X9_isPlain : GoodIn wsX9_numberOf wsX9_isPlain := goodIn_ca (goodIn_r _ [6, 7, 8, 9, 10, 11, 5, 12, 13, 14, 15, 16, 17, 18, 19, 20, 21, 22, 23, 24, 25, 26, 27, 28, 29, 30, 31, 32, 33, 34, 35, 36, 37, 38, 39, 40, 41, 42, 43] (by decide +kernel) (by decide +kernel)) (goodIn_sub (fun _ h => List.mem_cons_of_mem _ (List.mem_append_right _ h)) (by decide +kernel))
set_option maxRecDepth 20000 in
theorem gX9_numberOf_X9_isPlain : GoodIn wsX9_numberOf (wsV RX9 146 RX9 yX9_isPlain wsX9_isPlain) := goodIn_app (goodIn_of _ (by decide +kernel)) ggX9_numberOf_X9_isPlain
theorem dX9_numberOf_0 : decode cX9_numberOf 0 = .ok (.aload_n 0, 1) := by decide +kernel
theorem dX9_numberOf_1 : decode cX9_numberOf 1 = .ok (.iload_n 1, 1) := by decide +kernel
theorem dX9_numberOf_2 : decode cX9_numberOf 2 = .ok (.invokevirtual 146, 3) := by decide +kernel
theorem dX9_numberOf_5 : decode cX9_numberOf 5 = .ok (.ifCond .eq 7, 3) := by decide +kernel
theorem dX9_numberOf_8 : decode cX9_numberOf 8 = .ok (.iconst 0, 1) := by decide +kernel
theorem dX9_numberOf_9 : decode cX9_numberOf 9 = .ok (.goto 9, 3) := by decide +kernel
theorem dX9_numberOf_18 : decode cX9_numberOf 18 = .ok (.ireturn, 1) := by decide +kernel
set_option maxRecDepth 20000 in
theorem ggX9_lettersOf_X9_isPlain : GoodIn wsX9_lettersOf wsX9_isPlain := goodIn_ca (goodIn_r _ [6, 7, 8, 9, 10, 11, 5, 12, 13, 14, 15, 16, 17, 18, 19, 20, 21, 22, 23, 24, 25, 26, 27, 28, 29, 30, 31, 32, 33, 34, 35, 36, 37, 38, 39, 40, 41, 42, 43] (by decide +kernel) (by decide +kernel)) (goodIn_sub (fun _ h => List.mem_cons_of_mem _ (List.mem_append_right _ h)) (by decide +kernel))
set_option maxRecDepth 20000 in
theorem gX9_lettersOf_X9_isPlain : GoodIn wsX9_lettersOf (wsV RX9 146 RX9 yX9_isPlain wsX9_isPlain) := goodIn_app (goodIn_of _ (by decide +kernel)) ggX9_lettersOf_X9_isPlain
theorem dX9_lettersOf_0 : decode cX9_lettersOf 0 = .ok (.aload_n 0, 1) := by decide +kernel
theorem dX9_lettersOf_1 : decode cX9_lettersOf 1 = .ok (.iload_n 1, 1) := by decide +kernel
theorem dX9_lettersOf_2 : decode cX9_lettersOf 2 = .ok (.invokevirtual 146, 3) := by decide +kernel
theorem dX9_lettersOf_5 : decode cX9_lettersOf 5 = .ok (.ifCond .eq 7, 3) := by decide +kernel
theorem dX9_lettersOf_8 : decode cX9_lettersOf 8 = .ok (.iconst 0, 1) := by decide +kernel
theorem dX9_lettersOf_9 : decode cX9_lettersOf 9 = .ok (.goto 9, 3) := by decide +kernel
theorem dX9_lettersOf_18 : decode cX9_lettersOf 18 = .ok (.ireturn, 1) := by decide +kernel
set_option maxRecDepth 20000 in
theorem ggX9_numberByWalk_X9_numberOf : GoodIn wsX9_numberByWalk wsX9_numberOf := goodIn_ca (goodIn_r _ [5, 6, 7, 8, 9, 4, 10, 11, 12, 13, 14, 15, 16, 17, 18, 19, 20, 21, 22, 23, 24, 25, 26, 27, 28, 29, 30, 31, 32, 33, 34, 35, 36, 37, 38, 39, 40, 41, 42, 43, 44, 45, 46, 47] (by decide +kernel) (by decide +kernel)) (goodIn_sub (fun _ h => List.mem_cons_of_mem _ (List.mem_append_right _ h)) (by decide +kernel))
set_option maxRecDepth 20000 in
theorem gX9_numberByWalk_X9_numberOf : GoodIn wsX9_numberByWalk (wsV RX9 152 RX9 yX9_numberOf wsX9_numberOf) := goodIn_app (goodIn_of _ (by decide +kernel)) ggX9_numberByWalk_X9_numberOf
theorem dX9_numberByWalk_0 : decode cX9_numberByWalk 0 = .ok (.aload_n 0, 1) := by decide +kernel
theorem dX9_numberByWalk_1 : decode cX9_numberByWalk 1 = .ok (.iload_n 1, 1) := by decide +kernel
theorem dX9_numberByWalk_2 : decode cX9_numberByWalk 2 = .ok (.invokevirtual 152, 3) := by decide +kernel
theorem dX9_numberByWalk_5 : decode cX9_numberByWalk 5 = .ok (.ireturn, 1) := by decide +kernel
set_option maxRecDepth 20000 in
theorem ggX9_lettersByWalk_X9_lettersOf : GoodIn wsX9_lettersByWalk wsX9_lettersOf := goodIn_ca (goodIn_r _ [5, 6, 7, 8, 9, 4, 10, 11, 12, 13, 14, 15, 16, 17, 18, 19, 20, 21, 22, 23, 24, 25, 26, 27, 28, 29, 30, 31, 32, 33, 34, 35, 36, 37, 38, 39, 40, 41, 42, 43, 44, 45, 46, 47] (by decide +kernel) (by decide +kernel)) (goodIn_sub (fun _ h => List.mem_cons_of_mem _ (List.mem_append_right _ h)) (by decide +kernel))
set_option maxRecDepth 20000 in
theorem gX9_lettersByWalk_X9_lettersOf : GoodIn wsX9_lettersByWalk (wsV RX9 155 RX9 yX9_lettersOf wsX9_lettersOf) := goodIn_app (goodIn_of _ (by decide +kernel)) ggX9_lettersByWalk_X9_lettersOf
theorem dX9_lettersByWalk_0 : decode cX9_lettersByWalk 0 = .ok (.aload_n 0, 1) := by decide +kernel
theorem dX9_lettersByWalk_1 : decode cX9_lettersByWalk 1 = .ok (.iload_n 1, 1) := by decide +kernel
theorem dX9_lettersByWalk_2 : decode cX9_lettersByWalk 2 = .ok (.invokevirtual 155, 3) := by decide +kernel
theorem dX9_lettersByWalk_5 : decode cX9_lettersByWalk 5 = .ok (.ireturn, 1) := by decide +kernel
set_option maxRecDepth 20000 in
theorem ggX9_ahead_X9_isPlain : GoodIn wsX9_ahead wsX9_isPlain := goodIn_ca (goodIn_r _ [5, 6, 7, 8, 9, 10, 4, 11, 12, 13, 14, 15, 16, 17, 18, 19, 20, 36, 37, 38, 39, 40, 41, 42, 43, 44, 45, 46, 47, 48, 49, 50, 51, 52, 53, 54, 55, 56, 57] (by decide +kernel) (by decide +kernel)) (goodIn_sub (fun _ h => List.mem_cons_of_mem _ (List.mem_append_right _ h)) (by decide +kernel))
set_option maxRecDepth 20000 in
theorem gX9_ahead_X9_isPlain : GoodIn wsX9_ahead (wsV RX9 146 RX9 yX9_isPlain wsX9_isPlain) := goodIn_app (goodIn_of _ (by decide +kernel)) ggX9_ahead_X9_isPlain
theorem dX9_ahead_0 : decode cX9_ahead 0 = .ok (.aload_n 0, 1) := by decide +kernel
theorem dX9_ahead_1 : decode cX9_ahead 1 = .ok (.iload_n 1, 1) := by decide +kernel
theorem dX9_ahead_2 : decode cX9_ahead 2 = .ok (.invokevirtual 146, 3) := by decide +kernel
theorem dX9_ahead_5 : decode cX9_ahead 5 = .ok (.ifCond .eq 7, 3) := by decide +kernel
theorem dX9_ahead_8 : decode cX9_ahead 8 = .ok (.iconst 0, 1) := by decide +kernel
theorem dX9_ahead_9 : decode cX9_ahead 9 = .ok (.goto 8, 3) := by decide +kernel
theorem dX9_ahead_17 : decode cX9_ahead 17 = .ok (.ireturn, 1) := by decide +kernel
set_option maxRecDepth 20000 in
theorem ggX9_labelLength_X9_isPlain : GoodIn wsX9_labelLength wsX9_isPlain := goodIn_ca (goodIn_r _ [5, 6, 7, 8, 9, 10, 4, 11, 12, 13, 14, 15, 16, 17, 18, 19, 20, 291, 292, 293, 294, 295, 296, 297, 298, 299, 300, 301, 302, 303, 304, 305, 306, 307, 308, 309, 310, 311, 312] (by decide +kernel) (by decide +kernel)) (goodIn_sub (fun _ h => List.mem_cons_of_mem _ (List.mem_append_right _ h)) (by decide +kernel))
set_option maxRecDepth 20000 in
theorem gX9_labelLength_X9_isPlain : GoodIn wsX9_labelLength (wsV RX9 146 RX9 yX9_isPlain wsX9_isPlain) := goodIn_app (goodIn_of _ (by decide +kernel)) ggX9_labelLength_X9_isPlain
theorem dX9_labelLength_0 : decode cX9_labelLength 0 = .ok (.aload_n 0, 1) := by decide +kernel
theorem dX9_labelLength_1 : decode cX9_labelLength 1 = .ok (.iload_n 1, 1) := by decide +kernel
theorem dX9_labelLength_2 : decode cX9_labelLength 2 = .ok (.invokevirtual 146, 3) := by decide +kernel
theorem dX9_labelLength_5 : decode cX9_labelLength 5 = .ok (.ifCond .eq 7, 3) := by decide +kernel
theorem dX9_labelLength_8 : decode cX9_labelLength 8 = .ok (.iconst 0, 1) := by decide +kernel
theorem dX9_labelLength_9 : decode cX9_labelLength 9 = .ok (.goto 12, 3) := by decide +kernel
theorem dX9_labelLength_21 : decode cX9_labelLength 21 = .ok (.ireturn, 1) := by decide +kernel
set_option maxRecDepth 20000 in
theorem ggX9_labelAt_X9_isPlain : GoodIn wsX9_labelAt wsX9_isPlain := goodIn_ca (goodIn_r _ [5, 6, 7, 8, 9, 10, 4, 11, 12, 13, 14, 15, 16, 17, 18, 19, 20, 295, 296, 297, 298, 299, 300, 301, 302, 303, 304, 305, 306, 307, 308, 309, 310, 311, 312, 313, 314, 315, 316] (by decide +kernel) (by decide +kernel)) (goodIn_sub (fun _ h => List.mem_cons_of_mem _ (List.mem_append_right _ h)) (by decide +kernel))
set_option maxRecDepth 20000 in
theorem gX9_labelAt_X9_isPlain : GoodIn wsX9_labelAt (wsV RX9 146 RX9 yX9_isPlain wsX9_isPlain) := goodIn_app (goodIn_of _ (by decide +kernel)) ggX9_labelAt_X9_isPlain
theorem dX9_labelAt_0 : decode cX9_labelAt 0 = .ok (.aload_n 0, 1) := by decide +kernel
theorem dX9_labelAt_1 : decode cX9_labelAt 1 = .ok (.iload_n 1, 1) := by decide +kernel
theorem dX9_labelAt_2 : decode cX9_labelAt 2 = .ok (.invokevirtual 146, 3) := by decide +kernel
theorem dX9_labelAt_5 : decode cX9_labelAt 5 = .ok (.ifCond .eq 5, 3) := by decide +kernel
theorem dX9_labelAt_8 : decode cX9_labelAt 8 = .ok (.iconst 0, 1) := by decide +kernel
theorem dX9_labelAt_9 : decode cX9_labelAt 9 = .ok (.ireturn, 1) := by decide +kernel
set_option maxRecDepth 20000 in
theorem ggX9_find_X9_isLevel : GoodIn wsX9_find wsX9_isLevel := goodIn_r _ [10, 11, 12, 9, 13] (by decide +kernel) (by decide +kernel)
set_option maxRecDepth 20000 in
theorem gX9_find_X9_isLevel : GoodIn wsX9_find (va_wsS RX9 136 yX9_isLevel wsX9_isLevel) := goodIn_app (goodIn_of _ (by decide +kernel)) ggX9_find_X9_isLevel
set_option maxRecDepth 20000 in
theorem ggX9_find_X9_fails : GoodIn wsX9_find wsX9_fails := goodIn_r _ [17, 1, 18, 19, 20, 21, 22, 23, 24, 25, 26, 27, 28, 29, 30, 31, 32, 33, 34, 35, 36, 37, 38, 39] (by decide +kernel) (by decide +kernel)
set_option maxRecDepth 20000 in
theorem gX9_find_X9_fails : GoodIn wsX9_find (wsV RX9 119 RX9 yX9_fails wsX9_fails) := goodIn_app (goodIn_of _ (by decide +kernel)) ggX9_find_X9_fails
theorem dX9_find_0 : decode cX9_find 0 = .ok (.aload_n 0, 1) := by decide +kernel
theorem dX9_find_1 : decode cX9_find 1 = .ok (.iconst 0, 1) := by decide +kernel
theorem dX9_find_2 : decode cX9_find 2 = .ok (.putfield 65, 3) := by decide +kernel
theorem dX9_find_5 : decode cX9_find 5 = .ok (.iload_n 1, 1) := by decide +kernel
theorem dX9_find_6 : decode cX9_find 6 = .ok (.invokestatic 136, 3) := by decide +kernel
theorem dX9_find_9 : decode cX9_find 9 = .ok (.ifCond .ne 9, 3) := by decide +kernel
theorem dX9_find_12 : decode cX9_find 12 = .ok (.aload_n 0, 1) := by decide +kernel
theorem dX9_find_13 : decode cX9_find 13 = .ok (.iconst 1, 1) := by decide +kernel
theorem dX9_find_14 : decode cX9_find 14 = .ok (.invokevirtual 119, 3) := by decide +kernel
theorem dX9_find_17 : decode cX9_find 17 = .ok (.ireturn, 1) := by decide +kernel
theorem dX9_find_18 : decode cX9_find 18 = .ok (.iconst 0, 1) := by decide +kernel
theorem dX9_find_19 : decode cX9_find 19 = .ok (.istore_n 3, 1) := by decide +kernel
theorem dX9_find_20 : decode cX9_find 20 = .ok (.iload_n 3, 1) := by decide +kernel
theorem dX9_find_21 : decode cX9_find 21 = .ok (.aload_n 0, 1) := by decide +kernel
theorem dX9_find_22 : decode cX9_find 22 = .ok (.getfield 91, 3) := by decide +kernel
theorem dX9_find_25 : decode cX9_find 25 = .ok (.if_icmp .ge 52, 3) := by decide +kernel
theorem dX9_find_77 : decode cX9_find 77 = .ok (.aload_n 0, 1) := by decide +kernel
theorem dX9_find_78 : decode cX9_find 78 = .ok (.iconst 2, 1) := by decide +kernel
theorem dX9_find_79 : decode cX9_find 79 = .ok (.invokevirtual 119, 3) := by decide +kernel
theorem dX9_find_82 : decode cX9_find 82 = .ok (.ireturn, 1) := by decide +kernel
set_option maxRecDepth 20000 in
theorem ggX9_isReference_X9_isBetween : GoodIn wsX9_isReference wsX9_isBetween := goodIn_r _ [5] (by decide +kernel) (by decide +kernel)
set_option maxRecDepth 20000 in
theorem gX9_isReference_X9_isBetween : GoodIn wsX9_isReference (va_wsS RX9 72 yX9_isBetween wsX9_isBetween) := goodIn_app (goodIn_of _ (by decide +kernel)) ggX9_isReference_X9_isBetween
theorem dX9_isReference_0 : decode cX9_isReference 0 = .ok (.iload_n 1, 1) := by decide +kernel
theorem dX9_isReference_1 : decode cX9_isReference 1 = .ok (.iconst 0, 1) := by decide +kernel
theorem dX9_isReference_2 : decode cX9_isReference 2 = .ok (.aload_n 0, 1) := by decide +kernel
theorem dX9_isReference_3 : decode cX9_isReference 3 = .ok (.getfield 230, 3) := by decide +kernel
theorem dX9_isReference_6 : decode cX9_isReference 6 = .ok (.iconst 1, 1) := by decide +kernel
theorem dX9_isReference_7 : decode cX9_isReference 7 = .ok (.isub, 1) := by decide +kernel
theorem dX9_isReference_8 : decode cX9_isReference 8 = .ok (.invokestatic 72, 3) := by decide +kernel
theorem dX9_isReference_11 : decode cX9_isReference 11 = .ok (.ireturn, 1) := by decide +kernel
set_option maxRecDepth 20000 in
theorem ggX9_refer_X9_isThere : GoodIn wsX9_refer wsX9_isThere := goodIn_ca (goodIn_r _ [10, 11, 12, 13, 14, 9, 15, 20, 21, 22, 23, 24, 25, 26, 27, 28, 29, 30, 31, 32, 33, 34, 35, 36, 37, 38, 39, 40, 41] (by decide +kernel) (by decide +kernel)) (goodIn_sub (fun _ h => List.mem_cons_of_mem _ (List.mem_append_right _ h)) (by decide +kernel))
set_option maxRecDepth 20000 in
theorem gX9_refer_X9_isThere : GoodIn wsX9_refer (wsV RX9 76 RX9 yX9_isThere wsX9_isThere) := goodIn_app (goodIn_of _ (by decide +kernel)) ggX9_refer_X9_isThere
set_option maxRecDepth 20000 in
theorem ggX9_refer_X9_fails : GoodIn wsX9_refer wsX9_fails := goodIn_r _ [19, 1, 20, 21, 22, 23, 24, 25, 26, 27, 28, 29, 30, 31, 32, 33, 34, 35, 36, 37, 38, 39, 40, 41] (by decide +kernel) (by decide +kernel)
set_option maxRecDepth 20000 in
theorem gX9_refer_X9_fails : GoodIn wsX9_refer (wsV RX9 119 RX9 yX9_fails wsX9_fails) := goodIn_app (goodIn_of _ (by decide +kernel)) ggX9_refer_X9_fails
theorem dX9_refer_0 : decode cX9_refer 0 = .ok (.aload_n 0, 1) := by decide +kernel
theorem dX9_refer_1 : decode cX9_refer 1 = .ok (.iconst 0, 1) := by decide +kernel
theorem dX9_refer_2 : decode cX9_refer 2 = .ok (.putfield 65, 3) := by decide +kernel
theorem dX9_refer_5 : decode cX9_refer 5 = .ok (.aload_n 0, 1) := by decide +kernel
theorem dX9_refer_6 : decode cX9_refer 6 = .ok (.iload_n 1, 1) := by decide +kernel
theorem dX9_refer_7 : decode cX9_refer 7 = .ok (.invokevirtual 76, 3) := by decide +kernel
theorem dX9_refer_10 : decode cX9_refer 10 = .ok (.ifCond .eq 11, 3) := by decide +kernel
theorem dX9_refer_21 : decode cX9_refer 21 = .ok (.aload_n 0, 1) := by decide +kernel
theorem dX9_refer_22 : decode cX9_refer 22 = .ok (.iconst 1, 1) := by decide +kernel
theorem dX9_refer_23 : decode cX9_refer 23 = .ok (.invokevirtual 119, 3) := by decide +kernel
theorem dX9_refer_26 : decode cX9_refer 26 = .ok (.ireturn, 1) := by decide +kernel
theorem dX9_references_0 : decode cX9_references 0 = .ok (.aload_n 0, 1) := by decide +kernel
theorem dX9_references_1 : decode cX9_references 1 = .ok (.iconst 0, 1) := by decide +kernel
theorem dX9_references_2 : decode cX9_references 2 = .ok (.putfield 65, 3) := by decide +kernel
theorem dX9_references_5 : decode cX9_references 5 = .ok (.aload_n 0, 1) := by decide +kernel
theorem dX9_references_6 : decode cX9_references 6 = .ok (.getfield 230, 3) := by decide +kernel
theorem dX9_references_9 : decode cX9_references 9 = .ok (.ireturn, 1) := by decide +kernel
set_option maxRecDepth 20000 in
theorem ggX9_targetOf_X9_isReference : GoodIn wsX9_targetOf wsX9_isReference := goodIn_r _ [7, 8, 9, 10, 6, 11, 16, 17, 18, 19, 20, 21, 22, 23, 24, 25, 26, 27, 28, 29, 30, 31, 32, 33, 34, 35, 36, 37] (by decide +kernel) (by decide +kernel)
set_option maxRecDepth 20000 in
theorem gX9_targetOf_X9_isReference : GoodIn wsX9_targetOf (wsV RX9 233 RX9 yX9_isReference wsX9_isReference) := goodIn_app (goodIn_of _ (by decide +kernel)) ggX9_targetOf_X9_isReference
set_option maxRecDepth 20000 in
theorem ggX9_targetOf_X9_fails : GoodIn wsX9_targetOf wsX9_fails := goodIn_r _ [15, 1, 16, 17, 18, 19, 20, 21, 22, 23, 24, 25, 26, 27, 28, 29, 30, 31, 32, 33, 34, 35, 36, 37] (by decide +kernel) (by decide +kernel)
set_option maxRecDepth 20000 in
theorem gX9_targetOf_X9_fails : GoodIn wsX9_targetOf (wsV RX9 119 RX9 yX9_fails wsX9_fails) := goodIn_app (goodIn_of _ (by decide +kernel)) ggX9_targetOf_X9_fails
theorem dX9_targetOf_0 : decode cX9_targetOf 0 = .ok (.aload_n 0, 1) := by decide +kernel
theorem dX9_targetOf_1 : decode cX9_targetOf 1 = .ok (.iconst 0, 1) := by decide +kernel
theorem dX9_targetOf_2 : decode cX9_targetOf 2 = .ok (.putfield 65, 3) := by decide +kernel
theorem dX9_targetOf_5 : decode cX9_targetOf 5 = .ok (.aload_n 0, 1) := by decide +kernel
theorem dX9_targetOf_6 : decode cX9_targetOf 6 = .ok (.iload_n 1, 1) := by decide +kernel
theorem dX9_targetOf_7 : decode cX9_targetOf 7 = .ok (.invokevirtual 233, 3) := by decide +kernel
theorem dX9_targetOf_10 : decode cX9_targetOf 10 = .ok (.ifCond .eq 12, 3) := by decide +kernel
theorem dX9_targetOf_22 : decode cX9_targetOf 22 = .ok (.aload_n 0, 1) := by decide +kernel
theorem dX9_targetOf_23 : decode cX9_targetOf 23 = .ok (.iconst 1, 1) := by decide +kernel
theorem dX9_targetOf_24 : decode cX9_targetOf 24 = .ok (.invokevirtual 119, 3) := by decide +kernel
theorem dX9_targetOf_27 : decode cX9_targetOf 27 = .ok (.ireturn, 1) := by decide +kernel
set_option maxRecDepth 20000 in
theorem ggX9_isBroken_X9_isReference : GoodIn wsX9_isBroken wsX9_isReference := goodIn_r _ [6, 7, 8, 9, 5, 10, 27, 28, 29, 30, 31, 32, 33, 34, 35, 36, 37, 38, 39, 40, 41, 42, 43, 44, 45, 46, 47, 48] (by decide +kernel) (by decide +kernel)
set_option maxRecDepth 20000 in
theorem gX9_isBroken_X9_isReference : GoodIn wsX9_isBroken (wsV RX9 233 RX9 yX9_isReference wsX9_isReference) := goodIn_app (goodIn_of _ (by decide +kernel)) ggX9_isBroken_X9_isReference
set_option maxRecDepth 20000 in
theorem ggX9_isBroken_X9_isWrong : GoodIn wsX9_isBroken wsX9_isWrong := goodIn_r _ [26, 1, 27, 28, 29, 30, 31, 32, 33, 34, 35, 36, 37, 38, 39, 40, 41, 42, 43, 44, 45, 46, 47, 48] (by decide +kernel) (by decide +kernel)
set_option maxRecDepth 20000 in
theorem gX9_isBroken_X9_isWrong : GoodIn wsX9_isBroken (wsV RX9 143 RX9 yX9_isWrong wsX9_isWrong) := goodIn_app (goodIn_of _ (by decide +kernel)) ggX9_isBroken_X9_isWrong
theorem dX9_isBroken_0 : decode cX9_isBroken 0 = .ok (.aload_n 0, 1) := by decide +kernel
theorem dX9_isBroken_1 : decode cX9_isBroken 1 = .ok (.iconst 0, 1) := by decide +kernel
theorem dX9_isBroken_2 : decode cX9_isBroken 2 = .ok (.putfield 65, 3) := by decide +kernel
theorem dX9_isBroken_5 : decode cX9_isBroken 5 = .ok (.aload_n 0, 1) := by decide +kernel
theorem dX9_isBroken_6 : decode cX9_isBroken 6 = .ok (.iload_n 1, 1) := by decide +kernel
theorem dX9_isBroken_7 : decode cX9_isBroken 7 = .ok (.invokevirtual 233, 3) := by decide +kernel
theorem dX9_isBroken_10 : decode cX9_isBroken 10 = .ok (.ifCond .eq 11, 3) := by decide +kernel
theorem dX9_isBroken_21 : decode cX9_isBroken 21 = .ok (.aload_n 0, 1) := by decide +kernel
theorem dX9_isBroken_22 : decode cX9_isBroken 22 = .ok (.iconst 1, 1) := by decide +kernel
theorem dX9_isBroken_23 : decode cX9_isBroken 23 = .ok (.invokevirtual 143, 3) := by decide +kernel
theorem dX9_isBroken_26 : decode cX9_isBroken 26 = .ok (.ireturn, 1) := by decide +kernel
set_option maxRecDepth 20000 in
theorem ggX9_isVoid_X9_isReference : GoodIn wsX9_isVoid wsX9_isReference := goodIn_r _ [6, 7, 8, 9, 5, 10, 23, 24, 25, 26, 27, 28, 29, 30, 31, 32, 33, 34, 35, 36, 37, 38, 39, 40, 41, 42, 43, 44] (by decide +kernel) (by decide +kernel)
set_option maxRecDepth 20000 in
theorem gX9_isVoid_X9_isReference : GoodIn wsX9_isVoid (wsV RX9 233 RX9 yX9_isReference wsX9_isReference) := goodIn_app (goodIn_of _ (by decide +kernel)) ggX9_isVoid_X9_isReference
theorem dX9_isVoid_0 : decode cX9_isVoid 0 = .ok (.aload_n 0, 1) := by decide +kernel
theorem dX9_isVoid_1 : decode cX9_isVoid 1 = .ok (.aload_n 0, 1) := by decide +kernel
theorem dX9_isVoid_2 : decode cX9_isVoid 2 = .ok (.iload_n 1, 1) := by decide +kernel
theorem dX9_isVoid_3 : decode cX9_isVoid 3 = .ok (.invokevirtual 233, 3) := by decide +kernel
theorem dX9_isVoid_6 : decode cX9_isVoid 6 = .ok (.ifCond .ne 7, 3) := by decide +kernel
theorem dX9_isVoid_9 : decode cX9_isVoid 9 = .ok (.iconst 1, 1) := by decide +kernel
theorem dX9_isVoid_10 : decode cX9_isVoid 10 = .ok (.goto 16, 3) := by decide +kernel
theorem dX9_isVoid_26 : decode cX9_isVoid 26 = .ok (.putfield 65, 3) := by decide +kernel
theorem dX9_isVoid_29 : decode cX9_isVoid 29 = .ok (.aload_n 0, 1) := by decide +kernel
theorem dX9_isVoid_30 : decode cX9_isVoid 30 = .ok (.getfield 65, 3) := by decide +kernel
theorem dX9_isVoid_33 : decode cX9_isVoid 33 = .ok (.ifCond .le 7, 3) := by decide +kernel
theorem dX9_isVoid_36 : decode cX9_isVoid 36 = .ok (.iconst 1, 1) := by decide +kernel
theorem dX9_isVoid_37 : decode cX9_isVoid 37 = .ok (.goto 4, 3) := by decide +kernel
theorem dX9_isVoid_41 : decode cX9_isVoid 41 = .ok (.ireturn, 1) := by decide +kernel
set_option maxRecDepth 20000 in
theorem ggX9_referenceLength_X9_isVoid : GoodIn wsX9_referenceLength wsX9_isVoid := goodIn_ca (goodIn_r _ [7, 8, 9, 10, 11, 6, 12, 13, 14, 15, 16, 17, 18, 19, 20, 2, 1, 21, 22, 23, 24, 25, 26, 298, 299, 300, 301, 302, 303, 304, 305, 306, 307, 308, 309, 310, 311, 312, 313, 314, 315, 316, 317, 318, 319] (by decide +kernel) (by decide +kernel)) (goodIn_sub (fun _ h => List.mem_cons_of_mem _ (List.mem_append_right _ h)) (by decide +kernel))
set_option maxRecDepth 20000 in
theorem gX9_referenceLength_X9_isVoid : GoodIn wsX9_referenceLength (wsV RX9 239 RX9 yX9_isVoid wsX9_isVoid) := goodIn_app (goodIn_of _ (by decide +kernel)) ggX9_referenceLength_X9_isVoid
theorem dX9_referenceLength_0 : decode cX9_referenceLength 0 = .ok (.aload_n 0, 1) := by decide +kernel
theorem dX9_referenceLength_1 : decode cX9_referenceLength 1 = .ok (.iload_n 1, 1) := by decide +kernel
theorem dX9_referenceLength_2 : decode cX9_referenceLength 2 = .ok (.invokevirtual 239, 3) := by decide +kernel
theorem dX9_referenceLength_5 : decode cX9_referenceLength 5 = .ok (.ifCond .eq 7, 3) := by decide +kernel
theorem dX9_referenceLength_8 : decode cX9_referenceLength 8 = .ok (.iconst 0, 1) := by decide +kernel
theorem dX9_referenceLength_9 : decode cX9_referenceLength 9 = .ok (.goto 22, 3) := by decide +kernel
theorem dX9_referenceLength_31 : decode cX9_referenceLength 31 = .ok (.ireturn, 1) := by decide +kernel
set_option maxRecDepth 20000 in
theorem ggX9_referenceAt_X9_isVoid : GoodIn wsX9_referenceAt wsX9_isVoid := goodIn_ca (goodIn_r _ [7, 8, 9, 10, 11, 6, 12, 13, 14, 15, 16, 17, 18, 19, 20, 2, 1, 21, 22, 23, 24, 25, 26, 302, 303, 304, 305, 306, 307, 308, 309, 310, 311, 312, 313, 314, 315, 316, 317, 318, 319, 320, 321, 322, 323] (by decide +kernel) (by decide +kernel)) (goodIn_sub (fun _ h => List.mem_cons_of_mem _ (List.mem_append_right _ h)) (by decide +kernel))
set_option maxRecDepth 20000 in
theorem gX9_referenceAt_X9_isVoid : GoodIn wsX9_referenceAt (wsV RX9 239 RX9 yX9_isVoid wsX9_isVoid) := goodIn_app (goodIn_of _ (by decide +kernel)) ggX9_referenceAt_X9_isVoid
theorem dX9_referenceAt_0 : decode cX9_referenceAt 0 = .ok (.aload_n 0, 1) := by decide +kernel
theorem dX9_referenceAt_1 : decode cX9_referenceAt 1 = .ok (.iload_n 1, 1) := by decide +kernel
theorem dX9_referenceAt_2 : decode cX9_referenceAt 2 = .ok (.invokevirtual 239, 3) := by decide +kernel
theorem dX9_referenceAt_5 : decode cX9_referenceAt 5 = .ok (.ifCond .eq 5, 3) := by decide +kernel
theorem dX9_referenceAt_8 : decode cX9_referenceAt 8 = .ok (.iconst 0, 1) := by decide +kernel
theorem dX9_referenceAt_9 : decode cX9_referenceAt 9 = .ok (.ireturn, 1) := by decide +kernel
theorem dX9_broken_0 : decode cX9_broken 0 = .ok (.aload_n 0, 1) := by decide +kernel
theorem dX9_broken_1 : decode cX9_broken 1 = .ok (.iconst 0, 1) := by decide +kernel
theorem dX9_broken_2 : decode cX9_broken 2 = .ok (.putfield 65, 3) := by decide +kernel
theorem dX9_broken_5 : decode cX9_broken 5 = .ok (.iconst 0, 1) := by decide +kernel
theorem dX9_broken_6 : decode cX9_broken 6 = .ok (.istore_n 1, 1) := by decide +kernel
theorem dX9_broken_7 : decode cX9_broken 7 = .ok (.iconst 0, 1) := by decide +kernel
theorem dX9_broken_8 : decode cX9_broken 8 = .ok (.istore_n 2, 1) := by decide +kernel
theorem dX9_broken_9 : decode cX9_broken 9 = .ok (.iload_n 2, 1) := by decide +kernel
theorem dX9_broken_10 : decode cX9_broken 10 = .ok (.aload_n 0, 1) := by decide +kernel
theorem dX9_broken_11 : decode cX9_broken 11 = .ok (.getfield 230, 3) := by decide +kernel
theorem dX9_broken_14 : decode cX9_broken 14 = .ok (.if_icmp .ge 25, 3) := by decide +kernel
theorem dX9_broken_39 : decode cX9_broken 39 = .ok (.iload_n 1, 1) := by decide +kernel
theorem dX9_broken_40 : decode cX9_broken 40 = .ok (.ireturn, 1) := by decide +kernel
theorem dX9_used_0 : decode cX9_used 0 = .ok (.aload_n 0, 1) := by decide +kernel
theorem dX9_used_1 : decode cX9_used 1 = .ok (.iconst 0, 1) := by decide +kernel
theorem dX9_used_2 : decode cX9_used 2 = .ok (.putfield 65, 3) := by decide +kernel
theorem dX9_used_5 : decode cX9_used 5 = .ok (.aload_n 0, 1) := by decide +kernel
theorem dX9_used_6 : decode cX9_used 6 = .ok (.getfield 94, 3) := by decide +kernel
theorem dX9_used_9 : decode cX9_used 9 = .ok (.ireturn, 1) := by decide +kernel
theorem dX9_many_0 : decode cX9_many 0 = .ok (.iconst 0, 1) := by decide +kernel
theorem dX9_many_1 : decode cX9_many 1 = .ok (.istore_n 2, 1) := by decide +kernel
theorem dX9_many_2 : decode cX9_many 2 = .ok (.iconst 0, 1) := by decide +kernel
theorem dX9_many_3 : decode cX9_many 3 = .ok (.istore_n 3, 1) := by decide +kernel
theorem dX9_many_4 : decode cX9_many 4 = .ok (.iload_n 3, 1) := by decide +kernel
theorem dX9_many_5 : decode cX9_many 5 = .ok (.aload_n 0, 1) := by decide +kernel
theorem dX9_many_6 : decode cX9_many 6 = .ok (.getfield 91, 3) := by decide +kernel
theorem dX9_many_9 : decode cX9_many 9 = .ok (.if_icmp .ge 61, 3) := by decide +kernel
theorem dX9_many_70 : decode cX9_many 70 = .ok (.iload_n 2, 1) := by decide +kernel
theorem dX9_many_71 : decode cX9_many 71 = .ok (.ireturn, 1) := by decide +kernel
set_option maxRecDepth 20000 in
theorem ggX9_count_X9_many : GoodIn wsX9_count wsX9_many := goodIn_ca (goodIn_r _ [6, 7, 8, 9, 10, 15, 16, 17, 18, 19, 20, 21, 22, 23, 24, 25, 26, 27, 28, 29, 30, 31, 32, 33, 34, 35, 36] (by decide +kernel) (by decide +kernel)) (goodIn_sub (fun _ h => List.mem_cons_of_mem _ (List.mem_append_right _ h)) (by decide +kernel))
set_option maxRecDepth 20000 in
theorem gX9_count_X9_many : GoodIn wsX9_count (wsV RX9 242 RX9 yX9_many wsX9_many) := goodIn_app (goodIn_of _ (by decide +kernel)) ggX9_count_X9_many
set_option maxRecDepth 20000 in
theorem ggX9_count_X9_fails : GoodIn wsX9_count wsX9_fails := goodIn_r _ [14, 1, 15, 16, 17, 18, 19, 20, 21, 22, 23, 24, 25, 26, 27, 28, 29, 30, 31, 32, 33, 34, 35, 36] (by decide +kernel) (by decide +kernel)
set_option maxRecDepth 20000 in
theorem gX9_count_X9_fails : GoodIn wsX9_count (wsV RX9 119 RX9 yX9_fails wsX9_fails) := goodIn_app (goodIn_of _ (by decide +kernel)) ggX9_count_X9_fails
theorem dX9_count_0 : decode cX9_count 0 = .ok (.aload_n 0, 1) := by decide +kernel
theorem dX9_count_1 : decode cX9_count 1 = .ok (.iconst 0, 1) := by decide +kernel
theorem dX9_count_2 : decode cX9_count 2 = .ok (.putfield 65, 3) := by decide +kernel
theorem dX9_count_5 : decode cX9_count 5 = .ok (.iload_n 1, 1) := by decide +kernel
theorem dX9_count_6 : decode cX9_count 6 = .ok (.bipush 112, 2) := by decide +kernel
theorem dX9_count_8 : decode cX9_count 8 = .ok (.if_icmp .eq 15, 3) := by decide +kernel
theorem dX9_count_11 : decode cX9_count 11 = .ok (.iload_n 1, 1) := by decide +kernel
theorem dX9_count_12 : decode cX9_count 12 = .ok (.bipush 102, 2) := by decide +kernel
theorem dX9_count_14 : decode cX9_count 14 = .ok (.if_icmp .eq 9, 3) := by decide +kernel
theorem dX9_count_17 : decode cX9_count 17 = .ok (.iload_n 1, 1) := by decide +kernel
theorem dX9_count_18 : decode cX9_count 18 = .ok (.bipush 111, 2) := by decide +kernel
theorem dX9_count_20 : decode cX9_count 20 = .ok (.if_icmp .ne 11, 3) := by decide +kernel
theorem dX9_count_23 : decode cX9_count 23 = .ok (.aload_n 0, 1) := by decide +kernel
theorem dX9_count_24 : decode cX9_count 24 = .ok (.iload_n 1, 1) := by decide +kernel
theorem dX9_count_25 : decode cX9_count 25 = .ok (.invokevirtual 242, 3) := by decide +kernel
theorem dX9_count_28 : decode cX9_count 28 = .ok (.goto 8, 3) := by decide +kernel
theorem dX9_count_31 : decode cX9_count 31 = .ok (.aload_n 0, 1) := by decide +kernel
theorem dX9_count_32 : decode cX9_count 32 = .ok (.iconst 1, 1) := by decide +kernel
theorem dX9_count_33 : decode cX9_count 33 = .ok (.invokevirtual 119, 3) := by decide +kernel
theorem dX9_count_36 : decode cX9_count 36 = .ok (.ireturn, 1) := by decide +kernel
theorem dX9_sum_0 : decode cX9_sum 0 = .ok (.aload_n 0, 1) := by decide +kernel
theorem dX9_sum_1 : decode cX9_sum 1 = .ok (.iconst 0, 1) := by decide +kernel
theorem dX9_sum_2 : decode cX9_sum 2 = .ok (.putfield 65, 3) := by decide +kernel
theorem dX9_sum_5 : decode cX9_sum 5 = .ok (.lconst 0, 1) := by decide +kernel
theorem dX9_sum_6 : decode cX9_sum 6 = .ok (.lstore_n 1, 1) := by decide +kernel
theorem dX9_sum_7 : decode cX9_sum 7 = .ok (.iconst 0, 1) := by decide +kernel
theorem dX9_sum_8 : decode cX9_sum 8 = .ok (.istore_n 3, 1) := by decide +kernel
theorem dX9_sum_9 : decode cX9_sum 9 = .ok (.iload_n 3, 1) := by decide +kernel
theorem dX9_sum_10 : decode cX9_sum 10 = .ok (.aload_n 0, 1) := by decide +kernel
theorem dX9_sum_11 : decode cX9_sum 11 = .ok (.getfield 91, 3) := by decide +kernel
theorem dX9_sum_14 : decode cX9_sum 14 = .ok (.if_icmp .ge 42, 3) := by decide +kernel
theorem dX9_sum_56 : decode cX9_sum 56 = .ok (.lload_n 1, 1) := by decide +kernel
theorem dX9_sum_57 : decode cX9_sum 57 = .ok (.lreturn, 1) := by decide +kernel
theorem dX9_isUnique_0 : decode cX9_isUnique 0 = .ok (.aload_n 0, 1) := by decide +kernel
theorem dX9_isUnique_1 : decode cX9_isUnique 1 = .ok (.iconst 0, 1) := by decide +kernel
theorem dX9_isUnique_2 : decode cX9_isUnique 2 = .ok (.putfield 65, 3) := by decide +kernel
theorem dX9_isUnique_5 : decode cX9_isUnique 5 = .ok (.iconst 0, 1) := by decide +kernel
theorem dX9_isUnique_6 : decode cX9_isUnique 6 = .ok (.istore_n 1, 1) := by decide +kernel
theorem dX9_isUnique_7 : decode cX9_isUnique 7 = .ok (.iload_n 1, 1) := by decide +kernel
theorem dX9_isUnique_8 : decode cX9_isUnique 8 = .ok (.aload_n 0, 1) := by decide +kernel
theorem dX9_isUnique_9 : decode cX9_isUnique 9 = .ok (.getfield 91, 3) := by decide +kernel
theorem dX9_isUnique_12 : decode cX9_isUnique 12 = .ok (.if_icmp .ge 91, 3) := by decide +kernel
theorem dX9_isUnique_103 : decode cX9_isUnique 103 = .ok (.iconst 1, 1) := by decide +kernel
theorem dX9_isUnique_104 : decode cX9_isUnique 104 = .ok (.ireturn, 1) := by decide +kernel
set_option maxRecDepth 20000 in
theorem ggX9_share_X9_many : GoodIn wsX9_share wsX9_many := goodIn_ca (goodIn_r _ [5, 6, 7, 8, 9, 15, 16, 17, 18, 19, 20, 21, 22, 23, 24, 25, 26, 27, 28, 29, 30, 31, 32, 33, 34, 35, 36] (by decide +kernel) (by decide +kernel)) (goodIn_sub (fun _ h => List.mem_cons_of_mem _ (List.mem_append_right _ h)) (by decide +kernel))
set_option maxRecDepth 20000 in
theorem gX9_share_X9_many : GoodIn wsX9_share (wsV RX9 242 RX9 yX9_many wsX9_many) := goodIn_app (goodIn_of _ (by decide +kernel)) ggX9_share_X9_many
set_option maxRecDepth 20000 in
theorem ggX9_share_X9_fails : GoodIn wsX9_share wsX9_fails := goodIn_r _ [13, 14, 15, 16, 17, 18, 19, 20, 21, 22, 23, 24, 25, 26, 27, 28, 29, 30, 31, 32, 33, 34, 35, 36] (by decide +kernel) (by decide +kernel)
set_option maxRecDepth 20000 in
theorem gX9_share_X9_fails : GoodIn wsX9_share (wsV RX9 119 RX9 yX9_fails wsX9_fails) := goodIn_app (goodIn_of _ (by decide +kernel)) ggX9_share_X9_fails
theorem dX9_share_0 : decode cX9_share 0 = .ok (.aload_n 0, 1) := by decide +kernel
theorem dX9_share_1 : decode cX9_share 1 = .ok (.bipush 102, 2) := by decide +kernel
theorem dX9_share_3 : decode cX9_share 3 = .ok (.invokevirtual 242, 3) := by decide +kernel
theorem dX9_share_6 : decode cX9_share 6 = .ok (.aload_n 0, 1) := by decide +kernel
theorem dX9_share_7 : decode cX9_share 7 = .ok (.bipush 111, 2) := by decide +kernel
theorem dX9_share_9 : decode cX9_share 9 = .ok (.invokevirtual 242, 3) := by decide +kernel
theorem dX9_share_12 : decode cX9_share 12 = .ok (.iadd, 1) := by decide +kernel
theorem dX9_share_13 : decode cX9_share 13 = .ok (.istore_n 1, 1) := by decide +kernel
theorem dX9_share_14 : decode cX9_share 14 = .ok (.iload_n 1, 1) := by decide +kernel
theorem dX9_share_15 : decode cX9_share 15 = .ok (.ifCond .ne 10, 3) := by decide +kernel
theorem dX9_share_18 : decode cX9_share 18 = .ok (.aload_n 0, 1) := by decide +kernel
theorem dX9_share_19 : decode cX9_share 19 = .ok (.iconst 1, 1) := by decide +kernel
theorem dX9_share_20 : decode cX9_share 20 = .ok (.invokevirtual 119, 3) := by decide +kernel
theorem dX9_share_23 : decode cX9_share 23 = .ok (.i2f, 1) := by decide +kernel
theorem dX9_share_24 : decode cX9_share 24 = .ok (.freturn, 1) := by decide +kernel
set_option maxRecDepth 20000 in
theorem ggX9_frozenShare_X9_share : GoodIn wsX9_frozenShare wsX9_share := goodIn_ca (goodIn_r _ [6, 7, 8, 9, 5, 10, 11, 12, 13, 14, 15, 16, 17, 18, 1, 19, 20, 21, 22, 23, 24, 25, 26, 27, 28, 29, 30, 31, 32, 33, 34, 35, 36, 37, 38, 39, 40] (by decide +kernel) (by decide +kernel)) (goodIn_sub (fun _ h => List.mem_cons_of_mem _ (List.mem_append_right _ h)) (by decide +kernel))
set_option maxRecDepth 20000 in
theorem gX9_frozenShare_X9_share : GoodIn wsX9_frozenShare (wsV RX9 250 RX9 yX9_share wsX9_share) := goodIn_app (goodIn_of _ (by decide +kernel)) ggX9_frozenShare_X9_share
theorem dX9_frozenShare_0 : decode cX9_frozenShare 0 = .ok (.aload_n 0, 1) := by decide +kernel
theorem dX9_frozenShare_1 : decode cX9_frozenShare 1 = .ok (.iconst 0, 1) := by decide +kernel
theorem dX9_frozenShare_2 : decode cX9_frozenShare 2 = .ok (.putfield 65, 3) := by decide +kernel
theorem dX9_frozenShare_5 : decode cX9_frozenShare 5 = .ok (.aload_n 0, 1) := by decide +kernel
theorem dX9_frozenShare_6 : decode cX9_frozenShare 6 = .ok (.invokevirtual 250, 3) := by decide +kernel
theorem dX9_frozenShare_9 : decode cX9_frozenShare 9 = .ok (.freturn, 1) := by decide +kernel
set_option maxRecDepth 20000 in
theorem ggX9_shareBits_X9_share : GoodIn wsX9_shareBits wsX9_share := goodIn_ca (goodIn_r _ [6, 7, 8, 9, 5, 10, 11, 12, 13, 14, 15, 16, 17, 18, 1, 31, 32, 33, 34, 35, 36, 37, 38, 39, 40, 41, 42, 43, 44, 45, 46, 47, 48, 49, 50, 51, 52] (by decide +kernel) (by decide +kernel)) (goodIn_sub (fun _ h => List.mem_cons_of_mem _ (List.mem_append_right _ h)) (by decide +kernel))
set_option maxRecDepth 20000 in
theorem gX9_shareBits_X9_share : GoodIn wsX9_shareBits (wsV RX9 250 RX9 yX9_share wsX9_share) := goodIn_app (goodIn_of _ (by decide +kernel)) ggX9_shareBits_X9_share
set_option maxRecDepth 20000 in
theorem ggX9_shareBits_Jxf58ca_floatToIntBits_5c35a : GoodIn wsX9_shareBits wsJxf58ca_floatToIntBits_5c35a := goodIn_r _ [22, 23, 24, 25, 26, 27, 28, 29, 21, 30] (by decide +kernel) (by decide +kernel)
set_option maxRecDepth 20000 in
theorem gX9_shareBits_Jxf58ca_floatToIntBits_5c35a : GoodIn wsX9_shareBits (va_wsS RX9 254 yJxf58ca_floatToIntBits_5c35a wsJxf58ca_floatToIntBits_5c35a) := goodIn_app (goodIn_of _ (by decide +kernel)) ggX9_shareBits_Jxf58ca_floatToIntBits_5c35a
theorem dX9_shareBits_0 : decode cX9_shareBits 0 = .ok (.aload_n 0, 1) := by decide +kernel
theorem dX9_shareBits_1 : decode cX9_shareBits 1 = .ok (.iconst 0, 1) := by decide +kernel
theorem dX9_shareBits_2 : decode cX9_shareBits 2 = .ok (.putfield 65, 3) := by decide +kernel
theorem dX9_shareBits_5 : decode cX9_shareBits 5 = .ok (.aload_n 0, 1) := by decide +kernel
theorem dX9_shareBits_6 : decode cX9_shareBits 6 = .ok (.invokevirtual 250, 3) := by decide +kernel
theorem dX9_shareBits_9 : decode cX9_shareBits 9 = .ok (.invokestatic 254, 3) := by decide +kernel
theorem dX9_shareBits_12 : decode cX9_shareBits 12 = .ok (.ireturn, 1) := by decide +kernel
set_option maxRecDepth 20000 in
theorem ggX9_meanNumber_X9_isLevel : GoodIn wsX9_meanNumber wsX9_isLevel := goodIn_r _ [9, 10, 11, 8, 12] (by decide +kernel) (by decide +kernel)
set_option maxRecDepth 20000 in
theorem gX9_meanNumber_X9_isLevel : GoodIn wsX9_meanNumber (va_wsS RX9 136 yX9_isLevel wsX9_isLevel) := goodIn_app (goodIn_of _ (by decide +kernel)) ggX9_meanNumber_X9_isLevel
set_option maxRecDepth 20000 in
theorem ggX9_meanNumber_X9_fails : GoodIn wsX9_meanNumber wsX9_fails := goodIn_r _ [16, 1, 17, 18, 19, 20, 21, 22, 23, 24, 25, 26, 27, 28, 29, 30, 31, 32, 33, 34, 35, 36, 37, 38] (by decide +kernel) (by decide +kernel)
set_option maxRecDepth 20000 in
theorem gX9_meanNumber_X9_fails : GoodIn wsX9_meanNumber (wsV RX9 119 RX9 yX9_fails wsX9_fails) := goodIn_app (goodIn_of _ (by decide +kernel)) ggX9_meanNumber_X9_fails
theorem dX9_meanNumber_0 : decode cX9_meanNumber 0 = .ok (.aload_n 0, 1) := by decide +kernel
theorem dX9_meanNumber_1 : decode cX9_meanNumber 1 = .ok (.iconst 0, 1) := by decide +kernel
theorem dX9_meanNumber_2 : decode cX9_meanNumber 2 = .ok (.putfield 65, 3) := by decide +kernel
theorem dX9_meanNumber_5 : decode cX9_meanNumber 5 = .ok (.iload_n 1, 1) := by decide +kernel
theorem dX9_meanNumber_6 : decode cX9_meanNumber 6 = .ok (.invokestatic 136, 3) := by decide +kernel
theorem dX9_meanNumber_9 : decode cX9_meanNumber 9 = .ok (.ifCond .ne 10, 3) := by decide +kernel
theorem dX9_meanNumber_12 : decode cX9_meanNumber 12 = .ok (.aload_n 0, 1) := by decide +kernel
theorem dX9_meanNumber_13 : decode cX9_meanNumber 13 = .ok (.iconst 1, 1) := by decide +kernel
theorem dX9_meanNumber_14 : decode cX9_meanNumber 14 = .ok (.invokevirtual 119, 3) := by decide +kernel
theorem dX9_meanNumber_17 : decode cX9_meanNumber 17 = .ok (.i2d, 1) := by decide +kernel
theorem dX9_meanNumber_18 : decode cX9_meanNumber 18 = .ok (.dreturn, 1) := by decide +kernel
theorem dX9_meanNumber_19 : decode cX9_meanNumber 19 = .ok (.iconst 0, 1) := by decide +kernel
theorem dX9_meanNumber_20 : decode cX9_meanNumber 20 = .ok (.istore_n 2, 1) := by decide +kernel
theorem dX9_meanNumber_21 : decode cX9_meanNumber 21 = .ok (.iconst 0, 1) := by decide +kernel
theorem dX9_meanNumber_22 : decode cX9_meanNumber 22 = .ok (.istore_n 3, 1) := by decide +kernel
theorem dX9_meanNumber_23 : decode cX9_meanNumber 23 = .ok (.iconst 0, 1) := by decide +kernel
theorem dX9_meanNumber_24 : decode cX9_meanNumber 24 = .ok (.istore 4, 2) := by decide +kernel
theorem dX9_meanNumber_26 : decode cX9_meanNumber 26 = .ok (.iload 4, 2) := by decide +kernel
theorem dX9_meanNumber_28 : decode cX9_meanNumber 28 = .ok (.aload_n 0, 1) := by decide +kernel
theorem dX9_meanNumber_29 : decode cX9_meanNumber 29 = .ok (.getfield 91, 3) := by decide +kernel
theorem dX9_meanNumber_32 : decode cX9_meanNumber 32 = .ok (.if_icmp .ge 46, 3) := by decide +kernel
theorem dX9_meanNumber_78 : decode cX9_meanNumber 78 = .ok (.iload_n 2, 1) := by decide +kernel
theorem dX9_meanNumber_79 : decode cX9_meanNumber 79 = .ok (.ifCond .ne 12, 3) := by decide +kernel
theorem dX9_meanNumber_82 : decode cX9_meanNumber 82 = .ok (.aload_n 0, 1) := by decide +kernel
theorem dX9_meanNumber_83 : decode cX9_meanNumber 83 = .ok (.iconst 2, 1) := by decide +kernel
theorem dX9_meanNumber_84 : decode cX9_meanNumber 84 = .ok (.invokevirtual 119, 3) := by decide +kernel
theorem dX9_meanNumber_87 : decode cX9_meanNumber 87 = .ok (.i2d, 1) := by decide +kernel
theorem dX9_meanNumber_88 : decode cX9_meanNumber 88 = .ok (.goto 8, 3) := by decide +kernel
theorem dX9_meanNumber_96 : decode cX9_meanNumber 96 = .ok (.dreturn, 1) := by decide +kernel
theorem dJxf58ca_isNaN_12338_0 : decode cJxf58ca_isNaN_12338 0 = .ok (.fload_n 0, 1) := by decide +kernel
theorem dJxf58ca_isNaN_12338_1 : decode cJxf58ca_isNaN_12338 1 = .ok (.fload_n 0, 1) := by decide +kernel
theorem dJxf58ca_isNaN_12338_2 : decode cJxf58ca_isNaN_12338 2 = .ok (.fcmp .l, 1) := by decide +kernel
theorem dJxf58ca_isNaN_12338_3 : decode cJxf58ca_isNaN_12338 3 = .ok (.ifCond .eq 7, 3) := by decide +kernel
theorem dJxf58ca_isNaN_12338_10 : decode cJxf58ca_isNaN_12338 10 = .ok (.iconst 0, 1) := by decide +kernel
theorem dJxf58ca_isNaN_12338_11 : decode cJxf58ca_isNaN_12338 11 = .ok (.ireturn, 1) := by decide +kernel
set_option maxRecDepth 20000 in
theorem ggJxf58ca_floatToIntBits_5c35a_Jxf58ca_isNaN_12338 : GoodIn wsJxf58ca_floatToIntBits_5c35a wsJxf58ca_isNaN_12338 := goodIn_r _ [9] (by decide +kernel) (by decide +kernel)
set_option maxRecDepth 20000 in
theorem gJxf58ca_floatToIntBits_5c35a_Jxf58ca_isNaN_12338 : GoodIn wsJxf58ca_floatToIntBits_5c35a (va_wsS RJxf58ca 59 yJxf58ca_isNaN_12338 wsJxf58ca_isNaN_12338) := goodIn_app (goodIn_of _ (by decide +kernel)) ggJxf58ca_floatToIntBits_5c35a_Jxf58ca_isNaN_12338
theorem dJxf58ca_floatToIntBits_5c35a_0 : decode cJxf58ca_floatToIntBits_5c35a 0 = .ok (.fload_n 0, 1) := by decide +kernel
theorem dJxf58ca_floatToIntBits_5c35a_1 : decode cJxf58ca_floatToIntBits_5c35a 1 = .ok (.invokestatic 59, 3) := by decide +kernel
theorem dJxf58ca_floatToIntBits_5c35a_4 : decode cJxf58ca_floatToIntBits_5c35a 4 = .ok (.ifCond .ne 8, 3) := by decide +kernel
theorem dJxf58ca_floatToIntBits_5c35a_7 : decode cJxf58ca_floatToIntBits_5c35a 7 = .ok (.fload_n 0, 1) := by decide +kernel
theorem dJxf58ca_floatToIntBits_5c35a_8 : decode cJxf58ca_floatToIntBits_5c35a 8 = .ok (.invokestatic 74, 3) := by decide +kernel
theorem dJxf58ca_floatToIntBits_5c35a_11 : decode cJxf58ca_floatToIntBits_5c35a 11 = .ok (.ireturn, 1) := by decide +kernel
set_option maxRecDepth 20000 in
theorem ggL_insert_X8_insert : GoodIn wsL_insert wsX8_insert := goodIn_ca (goodIn_ca (goodIn_ca (goodIn_ca (goodIn_r _ [8, 9, 10, 11, 12, 13, 14, 15, 16, 17, 18, 19, 20, 21, 22, 23, 24, 25, 26, 27, 28, 29, 30, 31, 32, 33, 34, 35, 36, 37, 38, 39, 40, 41, 42, 43, 44, 45, 46, 7, 47, 48, 49, 50, 51, 52, 53, 54, 55, 56, 57, 58, 59, 60, 61, 62, 63, 64, 65, 66, 67, 68, 69, 70, 71, 72, 73, 74, 75, 76, 77, 78, 79, 80, 81, 82, 83, 84, 85, 86, 87, 88, 89, 90, 91, 92, 93, 94, 95, 96, 97, 98, 99, 100, 101, 102, 103, 104, 105, 106, 107, 108, 109, 110, 111, 112, 113, 114, 115, 116, 117, 118, 119, 120, 121, 122, 123, 124, 125, 126, 127, 128, 129, 130, 131, 132, 133, 134, 135, 136, 137, 138, 139, 140, 141, 142, 143, 144, 145, 146, 147, 148, 149, 150, 151, 152, 153, 154, 155, 156, 157, 158, 159, 160, 161, 162, 163, 164, 165, 166, 167, 168, 169, 170, 171, 172, 173, 174, 175, 176, 177, 178, 179, 180, 181, 182, 183, 184, 185, 186, 187, 188, 189, 190, 191, 192, 193, 194, 195, 196, 197, 198, 199, 200, 201, 202, 203, 204, 205, 206, 207, 208, 209] (by decide +kernel) (by decide +kernel)) (goodIn_sub (fun _ h => List.mem_cons_of_mem _ (List.mem_append_left _ (List.mem_append_left _ (List.mem_append_right _ h)))) (by decide +kernel))) (goodIn_sub (fun _ h => List.mem_cons_of_mem _ (List.mem_append_left _ (List.mem_append_right _ h))) (by decide +kernel))) (goodIn_sub (fun _ h => List.mem_cons_of_mem _ (List.mem_append_right _ h)) (by decide +kernel))) (goodIn_sub (fun _ h => List.mem_cons_of_mem _ (List.mem_append_left _ (List.mem_append_left _ (List.mem_append_left _ (List.mem_append_right _ h))))) (by decide +kernel))
set_option maxRecDepth 20000 in
theorem gL_insert_X8_insert : GoodIn wsL_insert (wsV RL 7 RX8 yX8_insert wsX8_insert) := goodIn_app (goodIn_of _ (by decide +kernel)) ggL_insert_X8_insert
theorem dL_insert_0 : decode cL_insert 0 = .ok (.aload_n 3, 1) := by decide +kernel
theorem dL_insert_1 : decode cL_insert 1 = .ok (.iconst 0, 1) := by decide +kernel
theorem dL_insert_2 : decode cL_insert 2 = .ok (.aload_n 0, 1) := by decide +kernel
theorem dL_insert_3 : decode cL_insert 3 = .ok (.iload_n 1, 1) := by decide +kernel
theorem dL_insert_4 : decode cL_insert 4 = .ok (.iload_n 2, 1) := by decide +kernel
theorem dL_insert_5 : decode cL_insert 5 = .ok (.invokevirtual 7, 3) := by decide +kernel
theorem dL_insert_8 : decode cL_insert 8 = .ok (.i2l, 1) := by decide +kernel
theorem dL_insert_9 : decode cL_insert 9 = .ok (.lastore, 1) := by decide +kernel
theorem dL_insert_10 : decode cL_insert 10 = .ok (.goto 15, 3) := by decide +kernel
theorem dL_insert_13 : decode cL_insert 13 = .ok (.astore 4, 2) := by decide +kernel
theorem dL_insert_15 : decode cL_insert 15 = .ok (.iconst 1, 1) := by decide +kernel
theorem dL_insert_16 : decode cL_insert 16 = .ok (.ireturn, 1) := by decide +kernel
theorem dL_insert_25 : decode cL_insert 25 = .ok (.iconst 0, 1) := by decide +kernel
theorem dL_insert_26 : decode cL_insert 26 = .ok (.ireturn, 1) := by decide +kernel
set_option maxRecDepth 20000 in
theorem ggL_move_X8_move : GoodIn wsL_move wsX8_move := goodIn_ca (goodIn_ca (goodIn_ca (goodIn_ca (goodIn_r _ [8, 9, 10, 11, 12, 13, 14, 15, 16, 17, 7, 18, 19, 20, 21, 22, 23, 24, 25, 26, 27, 28, 29, 30, 31, 32, 33, 34, 35, 36, 37, 38, 39, 40, 41, 42, 43, 44, 45, 46, 47, 48, 49, 50, 51, 52, 53, 54, 55, 56, 57, 58, 59, 60, 61, 62, 63, 64, 65, 66, 67, 68, 69, 70, 71, 72, 73, 74, 75, 76, 77, 78, 79, 80, 81, 82, 83, 84, 85, 86, 87, 88, 89, 90, 91, 92, 93, 94, 95, 96, 97, 98, 99, 100, 101, 102, 103, 104, 105, 106, 107, 108, 109, 110, 111, 112, 113, 114, 115, 116, 117, 118, 119, 120, 121, 122, 123, 124, 125, 126, 127, 128, 129, 130, 131, 132, 133, 134, 135, 136, 137, 138, 139, 140, 141, 142, 143, 144, 145, 146, 147, 148, 149, 150, 151, 152, 153, 154, 155, 156, 157, 158, 159, 160, 161, 162, 163, 164, 165, 166, 167, 168, 169, 170, 171, 172, 173, 174, 175, 176, 177, 178, 179, 180, 181, 182, 183, 184, 185, 186, 187, 188, 189, 190, 191, 192, 193, 194, 195, 196, 197, 198, 199, 200, 201, 202, 203, 204, 205, 206, 207, 208, 209, 210, 211, 212, 213, 214, 215, 216, 217, 218, 219, 220, 221] (by decide +kernel) (by decide +kernel)) (goodIn_sub (fun _ h => List.mem_cons_of_mem _ (List.mem_append_left _ (List.mem_append_left _ (List.mem_append_right _ h)))) (by decide +kernel))) (goodIn_sub (fun _ h => List.mem_cons_of_mem _ (List.mem_append_left _ (List.mem_append_right _ h))) (by decide +kernel))) (goodIn_sub (fun _ h => List.mem_cons_of_mem _ (List.mem_append_right _ h)) (by decide +kernel))) (goodIn_sub (fun _ h => List.mem_cons_of_mem _ (List.mem_append_left _ (List.mem_append_left _ (List.mem_append_left _ (List.mem_append_right _ h))))) (by decide +kernel))
set_option maxRecDepth 20000 in
theorem gL_move_X8_move : GoodIn wsL_move (wsV RL 19 RX8 yX8_move wsX8_move) := goodIn_app (goodIn_of _ (by decide +kernel)) ggL_move_X8_move
theorem dL_move_0 : decode cL_move 0 = .ok (.aload_n 3, 1) := by decide +kernel
theorem dL_move_1 : decode cL_move 1 = .ok (.iconst 0, 1) := by decide +kernel
theorem dL_move_2 : decode cL_move 2 = .ok (.aload_n 0, 1) := by decide +kernel
theorem dL_move_3 : decode cL_move 3 = .ok (.iload_n 1, 1) := by decide +kernel
theorem dL_move_4 : decode cL_move 4 = .ok (.iload_n 2, 1) := by decide +kernel
theorem dL_move_5 : decode cL_move 5 = .ok (.invokevirtual 19, 3) := by decide +kernel
theorem dL_move_13 : decode cL_move 13 = .ok (.astore 4, 2) := by decide +kernel
theorem dL_move_15 : decode cL_move 15 = .ok (.iconst 1, 1) := by decide +kernel
theorem dL_move_16 : decode cL_move 16 = .ok (.ireturn, 1) := by decide +kernel
set_option maxRecDepth 20000 in
theorem ggL_setLevel_X8_setLevel : GoodIn wsL_setLevel wsX8_setLevel := goodIn_ca (goodIn_ca (goodIn_ca (goodIn_ca (goodIn_r _ [8, 9, 10, 11, 12, 13, 14, 15, 16, 17, 7, 18, 19, 20, 21, 22, 23, 24, 25, 26, 27, 28, 29, 30, 31, 32, 33, 34, 35, 36, 37, 38, 39, 40, 41, 42, 43, 44, 45, 46, 47, 48, 49, 50, 51, 52, 53, 54, 55, 56, 57, 58, 59, 60, 61, 62, 63, 64, 65, 66, 67, 68, 69, 70, 71, 72, 73, 74, 75, 76, 77, 78, 79, 80, 81, 82, 83, 84, 85, 86, 87, 88, 89, 90, 91, 92, 93, 94, 95, 96, 97, 98, 99, 100, 101, 102, 103, 104, 105, 106, 107, 108, 109, 110, 111, 112, 113, 114, 115, 116, 117, 118, 119, 120, 121, 122, 123, 124, 125, 126, 127, 128, 129, 130, 131, 132, 133, 134, 135, 136, 137, 138, 139, 140, 141, 142, 143, 144, 145, 146, 147, 148, 149, 150, 151, 152, 153, 154, 155, 156, 157, 158, 159, 160, 161, 162, 163, 164, 165, 166, 167, 168, 169, 170, 171, 172, 173, 174, 175, 176, 177, 178, 179, 180, 181, 182, 183, 184, 185, 186, 187, 188, 189, 190, 191, 192, 193, 194, 195, 196, 197, 198, 199, 200, 201, 202, 203, 204, 205, 206, 207, 208] (by decide +kernel) (by decide +kernel)) (goodIn_sub (fun _ h => List.mem_cons_of_mem _ (List.mem_append_left _ (List.mem_append_left _ (List.mem_append_right _ h)))) (by decide +kernel))) (goodIn_sub (fun _ h => List.mem_cons_of_mem _ (List.mem_append_left _ (List.mem_append_right _ h))) (by decide +kernel))) (goodIn_sub (fun _ h => List.mem_cons_of_mem _ (List.mem_append_right _ h)) (by decide +kernel))) (goodIn_sub (fun _ h => List.mem_cons_of_mem _ (List.mem_append_left _ (List.mem_append_left _ (List.mem_append_left _ (List.mem_append_right _ h))))) (by decide +kernel))
set_option maxRecDepth 20000 in
theorem gL_setLevel_X8_setLevel : GoodIn wsL_setLevel (wsV RL 24 RX8 yX8_setLevel wsX8_setLevel) := goodIn_app (goodIn_of _ (by decide +kernel)) ggL_setLevel_X8_setLevel
theorem dL_setLevel_0 : decode cL_setLevel 0 = .ok (.aload_n 3, 1) := by decide +kernel
theorem dL_setLevel_1 : decode cL_setLevel 1 = .ok (.iconst 0, 1) := by decide +kernel
theorem dL_setLevel_2 : decode cL_setLevel 2 = .ok (.aload_n 0, 1) := by decide +kernel
theorem dL_setLevel_3 : decode cL_setLevel 3 = .ok (.iload_n 1, 1) := by decide +kernel
theorem dL_setLevel_4 : decode cL_setLevel 4 = .ok (.iload_n 2, 1) := by decide +kernel
theorem dL_setLevel_5 : decode cL_setLevel 5 = .ok (.invokevirtual 24, 3) := by decide +kernel
theorem dL_setLevel_13 : decode cL_setLevel 13 = .ok (.astore 4, 2) := by decide +kernel
theorem dL_setLevel_15 : decode cL_setLevel 15 = .ok (.iconst 1, 1) := by decide +kernel
theorem dL_setLevel_16 : decode cL_setLevel 16 = .ok (.ireturn, 1) := by decide +kernel
set_option maxRecDepth 20000 in
theorem ggL_remove_X8_remove : GoodIn wsL_remove wsX8_remove := goodIn_ca (goodIn_ca (goodIn_ca (goodIn_r _ [7, 8, 9, 10, 11, 12, 13, 6, 14, 15, 16, 17, 18, 19, 20, 21, 22, 23, 24, 25, 26, 27, 28, 29, 30, 31, 32, 33, 34, 35, 36, 37, 38, 39, 40, 41, 42, 43, 44, 45, 46, 47, 48, 49, 50, 51, 52, 53, 54, 55, 56, 57, 58, 59, 60, 61, 62, 63, 64, 65, 66, 67, 68, 69, 70, 71, 72, 73, 74, 75, 76, 77, 78, 79, 80, 81, 82, 83, 84, 85, 86, 87, 88, 89, 90, 91, 92, 93, 94, 95, 96, 97, 98, 99, 100, 101, 102, 103, 104, 105, 106, 107, 108, 109, 110, 111, 112, 113, 114, 115, 116, 117, 118, 119, 120, 121, 122, 123, 124, 125, 126, 127, 128, 129, 130, 131, 132, 133, 134, 135, 136, 137, 138, 139, 140, 141, 142, 143, 144, 145, 146, 147, 148, 149, 150, 151, 152, 153, 154, 155, 156, 157, 158, 159, 160, 161, 162, 163, 164, 165, 166, 167, 168, 169, 170, 171, 172, 173, 174, 175, 176, 177, 178, 179, 180, 181, 182, 183, 184, 185, 186, 187, 188, 189, 190, 191, 192, 193, 194, 195, 196, 197, 198, 199, 200, 201, 202, 203, 204, 205, 206, 207, 208, 209, 210, 211, 212, 213, 214, 215] (by decide +kernel) (by decide +kernel)) (goodIn_sub (fun _ h => List.mem_cons_of_mem _ (List.mem_append_left _ (List.mem_append_right _ h))) (by decide +kernel))) (goodIn_sub (fun _ h => List.mem_cons_of_mem _ (List.mem_append_right _ h)) (by decide +kernel))) (goodIn_sub (fun _ h => List.mem_cons_of_mem _ (List.mem_append_left _ (List.mem_append_left _ (List.mem_append_right _ h)))) (by decide +kernel))
set_option maxRecDepth 20000 in
theorem gL_remove_X8_remove : GoodIn wsL_remove (wsV RL 27 RX8 yX8_remove wsX8_remove) := goodIn_app (goodIn_of _ (by decide +kernel)) ggL_remove_X8_remove
theorem dL_remove_0 : decode cL_remove 0 = .ok (.aload_n 2, 1) := by decide +kernel
theorem dL_remove_1 : decode cL_remove 1 = .ok (.iconst 0, 1) := by decide +kernel
theorem dL_remove_2 : decode cL_remove 2 = .ok (.aload_n 0, 1) := by decide +kernel
theorem dL_remove_3 : decode cL_remove 3 = .ok (.iload_n 1, 1) := by decide +kernel
theorem dL_remove_4 : decode cL_remove 4 = .ok (.invokevirtual 27, 3) := by decide +kernel
theorem dL_remove_12 : decode cL_remove 12 = .ok (.astore_n 3, 1) := by decide +kernel
theorem dL_remove_13 : decode cL_remove 13 = .ok (.iconst 1, 1) := by decide +kernel
theorem dL_remove_14 : decode cL_remove 14 = .ok (.ireturn, 1) := by decide +kernel
set_option maxRecDepth 20000 in
theorem ggL_startAt_X8_startAt : GoodIn wsL_startAt wsX8_startAt := goodIn_ca (goodIn_ca (goodIn_ca (goodIn_r _ [7, 8, 9, 10, 11, 12, 13, 6, 14, 15, 16, 17, 18, 19, 20, 21, 22, 23, 24, 25, 26, 27, 28, 29, 30, 31, 32, 33, 34, 35, 36, 37, 38, 39, 40, 41, 42, 43, 44, 45, 46, 47, 48, 49, 50, 51, 52, 53, 54, 55, 56, 57, 58, 59, 60, 61, 62, 63, 64, 65, 66, 67, 68, 69, 70, 71, 72, 73, 74, 75, 76, 77, 78, 79, 80, 81, 82, 83, 84, 85, 86, 87, 88, 89, 90, 91, 92, 93, 94, 95, 96, 97, 98, 99, 100, 101, 102, 103, 104, 105, 106, 107, 108, 109, 110, 111, 112, 113, 114, 115, 116, 117, 118, 119, 120, 121, 122, 123, 124, 125, 126, 127, 128, 129, 130, 131, 132, 133, 134, 135, 136, 137, 138, 139, 140, 141, 142, 143, 144, 145, 146, 147, 148, 149, 150, 151, 152, 153, 154, 155, 156, 157, 158, 159, 160, 161, 162, 163, 164, 165, 166, 167, 168, 169, 170, 171, 172, 173, 174, 175, 176, 177, 178, 179, 180, 181, 182] (by decide +kernel) (by decide +kernel)) (goodIn_sub (fun _ h => List.mem_cons_of_mem _ (List.mem_append_left _ (List.mem_append_right _ h))) (by decide +kernel))) (goodIn_sub (fun _ h => List.mem_cons_of_mem _ (List.mem_append_right _ h)) (by decide +kernel))) (goodIn_sub (fun _ h => List.mem_cons_of_mem _ (List.mem_append_left _ (List.mem_append_left _ (List.mem_append_right _ h)))) (by decide +kernel))
set_option maxRecDepth 20000 in
theorem gL_startAt_X8_startAt : GoodIn wsL_startAt (wsV RL 31 RX8 yX8_startAt wsX8_startAt) := goodIn_app (goodIn_of _ (by decide +kernel)) ggL_startAt_X8_startAt
theorem dL_startAt_0 : decode cL_startAt 0 = .ok (.aload_n 3, 1) := by decide +kernel
theorem dL_startAt_1 : decode cL_startAt 1 = .ok (.iconst 0, 1) := by decide +kernel
theorem dL_startAt_2 : decode cL_startAt 2 = .ok (.aload_n 0, 1) := by decide +kernel
theorem dL_startAt_3 : decode cL_startAt 3 = .ok (.iload_n 1, 1) := by decide +kernel
theorem dL_startAt_4 : decode cL_startAt 4 = .ok (.iload_n 2, 1) := by decide +kernel
theorem dL_startAt_5 : decode cL_startAt 5 = .ok (.invokevirtual 31, 3) := by decide +kernel
theorem dL_startAt_13 : decode cL_startAt 13 = .ok (.astore 4, 2) := by decide +kernel
theorem dL_startAt_15 : decode cL_startAt 15 = .ok (.iconst 1, 1) := by decide +kernel
theorem dL_startAt_16 : decode cL_startAt 16 = .ok (.ireturn, 1) := by decide +kernel
set_option maxRecDepth 20000 in
theorem ggL_reserve_X8_reserve : GoodIn wsL_reserve wsX8_reserve := goodIn_ca (goodIn_ca (goodIn_ca (goodIn_r _ [7, 8, 9, 10, 11, 12, 13, 6, 14, 15, 16, 17, 18, 19, 20, 21, 22, 23, 24, 25, 26, 27, 28, 29, 30, 31, 32, 33, 34, 35, 36, 37, 38, 39, 40, 41, 42, 43, 44, 45, 46, 47, 48, 49, 50, 51, 52, 53, 54, 55, 56, 57, 58, 59, 60, 61, 62, 63, 64, 65, 66, 67, 68, 69, 70, 71, 72, 73, 74, 75, 76, 77, 78, 79, 80, 81, 82, 83, 84, 85, 86, 87, 88, 89, 90, 91, 92, 93, 94, 95, 96, 97, 98, 99, 100, 101, 102, 103, 104, 105, 106, 107, 108, 109, 110, 111, 112, 113, 114, 115, 116, 117, 118, 119, 120, 121, 122, 123, 124, 125, 126, 127, 128, 129, 130, 131, 132, 133, 134, 135, 136, 137, 138, 139, 140, 141, 142, 143, 144, 145, 146, 147, 148, 149, 150, 151, 152, 153, 154, 155, 156, 157, 158, 159, 160, 161, 162, 163, 164, 165, 166, 167, 168, 169, 170, 171, 172, 173, 174, 175, 176, 177, 178, 179, 180, 181, 182] (by decide +kernel) (by decide +kernel)) (goodIn_sub (fun _ h => List.mem_cons_of_mem _ (List.mem_append_left _ (List.mem_append_right _ h))) (by decide +kernel))) (goodIn_sub (fun _ h => List.mem_cons_of_mem _ (List.mem_append_right _ h)) (by decide +kernel))) (goodIn_sub (fun _ h => List.mem_cons_of_mem _ (List.mem_append_left _ (List.mem_append_left _ (List.mem_append_right _ h)))) (by decide +kernel))
set_option maxRecDepth 20000 in
theorem gL_reserve_X8_reserve : GoodIn wsL_reserve (wsV RL 34 RX8 yX8_reserve wsX8_reserve) := goodIn_app (goodIn_of _ (by decide +kernel)) ggL_reserve_X8_reserve
theorem dL_reserve_0 : decode cL_reserve 0 = .ok (.aload_n 3, 1) := by decide +kernel
theorem dL_reserve_1 : decode cL_reserve 1 = .ok (.iconst 0, 1) := by decide +kernel
theorem dL_reserve_2 : decode cL_reserve 2 = .ok (.aload_n 0, 1) := by decide +kernel
theorem dL_reserve_3 : decode cL_reserve 3 = .ok (.iload_n 1, 1) := by decide +kernel
theorem dL_reserve_4 : decode cL_reserve 4 = .ok (.iload_n 2, 1) := by decide +kernel
theorem dL_reserve_5 : decode cL_reserve 5 = .ok (.invokevirtual 34, 3) := by decide +kernel
theorem dL_reserve_13 : decode cL_reserve 13 = .ok (.astore 4, 2) := by decide +kernel
theorem dL_reserve_15 : decode cL_reserve 15 = .ok (.iconst 1, 1) := by decide +kernel
theorem dL_reserve_16 : decode cL_reserve 16 = .ok (.ireturn, 1) := by decide +kernel
set_option maxRecDepth 20000 in
theorem ggL_skip_X8_skip : GoodIn wsL_skip wsX8_skip := goodIn_ca (goodIn_ca (goodIn_ca (goodIn_r _ [7, 8, 9, 10, 11, 12, 13, 14, 6, 15, 16, 17, 18, 19, 20, 21, 22, 23, 24, 25, 26, 27, 28, 29, 30, 31, 32, 33, 34, 35, 36, 37, 38, 39, 40, 41, 42, 43, 44, 45, 46, 47, 48, 49, 50, 51, 52, 53, 54, 55, 56, 57, 58, 59, 60, 61, 62, 63, 64, 65, 66, 67, 68, 69, 70, 71, 72, 73, 74, 75, 76, 77, 78, 79, 80, 81, 82, 83, 84, 85, 86, 87, 88, 89, 90, 91, 92, 93, 94, 95, 96, 97, 98, 99, 100, 101, 102, 103, 104, 105, 106, 107, 108, 109, 110, 111, 112, 113, 114, 115, 116, 117, 118, 119, 120, 121, 122, 123, 124, 125, 126, 127, 128, 129, 130, 131, 132, 133, 134, 135, 136, 137, 138, 139, 140, 141, 142, 143, 144, 145, 146, 147, 148, 149, 150, 151, 152, 153, 154, 155, 156, 157, 158, 159, 160, 161, 162, 163, 164, 165, 166, 167, 168, 169, 170, 171, 172, 173, 174, 175, 176, 177, 178, 179, 180, 181, 182, 183, 184, 185, 186, 187, 188] (by decide +kernel) (by decide +kernel)) (goodIn_sub (fun _ h => List.mem_cons_of_mem _ (List.mem_append_left _ (List.mem_append_right _ h))) (by decide +kernel))) (goodIn_sub (fun _ h => List.mem_cons_of_mem _ (List.mem_append_right _ h)) (by decide +kernel))) (goodIn_sub (fun _ h => List.mem_cons_of_mem _ (List.mem_append_left _ (List.mem_append_left _ (List.mem_append_right _ h)))) (by decide +kernel))
set_option maxRecDepth 20000 in
theorem gL_skip_X8_skip : GoodIn wsL_skip (wsV RL 37 RX8 yX8_skip wsX8_skip) := goodIn_app (goodIn_of _ (by decide +kernel)) ggL_skip_X8_skip
theorem dL_skip_0 : decode cL_skip 0 = .ok (.aload_n 3, 1) := by decide +kernel
theorem dL_skip_1 : decode cL_skip 1 = .ok (.iconst 0, 1) := by decide +kernel
theorem dL_skip_2 : decode cL_skip 2 = .ok (.aload_n 0, 1) := by decide +kernel
theorem dL_skip_3 : decode cL_skip 3 = .ok (.iload_n 1, 1) := by decide +kernel
theorem dL_skip_4 : decode cL_skip 4 = .ok (.iload_n 2, 1) := by decide +kernel
theorem dL_skip_5 : decode cL_skip 5 = .ok (.invokevirtual 37, 3) := by decide +kernel
theorem dL_skip_8 : decode cL_skip 8 = .ok (.i2l, 1) := by decide +kernel
theorem dL_skip_9 : decode cL_skip 9 = .ok (.lastore, 1) := by decide +kernel
theorem dL_skip_10 : decode cL_skip 10 = .ok (.goto 11, 3) := by decide +kernel
theorem dL_skip_13 : decode cL_skip 13 = .ok (.astore 4, 2) := by decide +kernel
theorem dL_skip_15 : decode cL_skip 15 = .ok (.iconst 1, 1) := by decide +kernel
theorem dL_skip_16 : decode cL_skip 16 = .ok (.ireturn, 1) := by decide +kernel
theorem dL_skip_21 : decode cL_skip 21 = .ok (.iconst 0, 1) := by decide +kernel
theorem dL_skip_22 : decode cL_skip 22 = .ok (.ireturn, 1) := by decide +kernel
set_option maxRecDepth 20000 in
theorem ggL_unskip_X8_unskip : GoodIn wsL_unskip wsX8_unskip := goodIn_ca (goodIn_ca (goodIn_ca (goodIn_r _ [7, 8, 9, 10, 11, 12, 13, 14, 6, 15, 16, 17, 18, 19, 20, 21, 22, 23, 24, 25, 26, 27, 28, 29, 30, 31, 32, 33, 34, 35, 36, 37, 38, 39, 40, 41, 42, 43, 44, 45, 46, 47, 48, 49, 50, 51, 52, 53, 54, 55, 56, 57, 58, 59, 60, 61, 62, 63, 64, 65, 66, 67, 68, 69, 70, 71, 72, 73, 74, 75, 76, 77, 78, 79, 80, 81, 82, 83, 84, 85, 86, 87, 88, 89, 90, 91, 92, 93, 94, 95, 96, 97, 98, 99, 100, 101, 102, 103, 104, 105, 106, 107, 108, 109, 110, 111, 112, 113, 114, 115, 116, 117, 118, 119, 120, 121, 122, 123, 124, 125, 126, 127, 128, 129, 130, 131, 132, 133, 134, 135, 136, 137, 138, 139, 140, 141, 142, 143, 144, 145, 146, 147, 148, 149, 150, 151, 152, 153, 154, 155, 156, 157, 158, 159, 160, 161, 162, 163, 164, 165, 166, 167, 168, 169, 170, 171, 172, 173, 174, 175, 176, 177, 178, 179, 180, 181, 182, 183, 184, 185, 186, 187, 188] (by decide +kernel) (by decide +kernel)) (goodIn_sub (fun _ h => List.mem_cons_of_mem _ (List.mem_append_left _ (List.mem_append_right _ h))) (by decide +kernel))) (goodIn_sub (fun _ h => List.mem_cons_of_mem _ (List.mem_append_right _ h)) (by decide +kernel))) (goodIn_sub (fun _ h => List.mem_cons_of_mem _ (List.mem_append_left _ (List.mem_append_left _ (List.mem_append_right _ h)))) (by decide +kernel))
set_option maxRecDepth 20000 in
theorem gL_unskip_X8_unskip : GoodIn wsL_unskip (wsV RL 40 RX8 yX8_unskip wsX8_unskip) := goodIn_app (goodIn_of _ (by decide +kernel)) ggL_unskip_X8_unskip
theorem dL_unskip_0 : decode cL_unskip 0 = .ok (.aload_n 3, 1) := by decide +kernel
theorem dL_unskip_1 : decode cL_unskip 1 = .ok (.iconst 0, 1) := by decide +kernel
theorem dL_unskip_2 : decode cL_unskip 2 = .ok (.aload_n 0, 1) := by decide +kernel
theorem dL_unskip_3 : decode cL_unskip 3 = .ok (.iload_n 1, 1) := by decide +kernel
theorem dL_unskip_4 : decode cL_unskip 4 = .ok (.iload_n 2, 1) := by decide +kernel
theorem dL_unskip_5 : decode cL_unskip 5 = .ok (.invokevirtual 40, 3) := by decide +kernel
theorem dL_unskip_13 : decode cL_unskip 13 = .ok (.astore 4, 2) := by decide +kernel
theorem dL_unskip_15 : decode cL_unskip 15 = .ok (.iconst 1, 1) := by decide +kernel
theorem dL_unskip_16 : decode cL_unskip 16 = .ok (.ireturn, 1) := by decide +kernel
theorem dL_unskip_17 : decode cL_unskip 17 = .ok (.astore 4, 2) := by decide +kernel
theorem dL_unskip_19 : decode cL_unskip 19 = .ok (.iconst 2, 1) := by decide +kernel
theorem dL_unskip_20 : decode cL_unskip 20 = .ok (.ireturn, 1) := by decide +kernel
set_option maxRecDepth 20000 in
theorem ggL_setFormat_X8_setFormat : GoodIn wsL_setFormat wsX8_setFormat := goodIn_ca (goodIn_ca (goodIn_r _ [6, 7, 8, 9, 10, 11, 12, 5, 13, 14, 15, 16, 17, 18, 19, 20, 21, 22, 23, 24, 25, 26, 27, 28, 29, 30, 31, 32, 33, 34, 35, 36, 37, 38, 39, 40, 41, 42, 43, 44] (by decide +kernel) (by decide +kernel)) (goodIn_sub (fun _ h => List.mem_cons_of_mem _ (List.mem_append_right _ h)) (by decide +kernel))) (goodIn_sub (fun _ h => List.mem_cons_of_mem _ (List.mem_append_left _ (List.mem_append_right _ h))) (by decide +kernel))
set_option maxRecDepth 20000 in
theorem gL_setFormat_X8_setFormat : GoodIn wsL_setFormat (wsV RL 43 RX8 yX8_setFormat wsX8_setFormat) := goodIn_app (goodIn_of _ (by decide +kernel)) ggL_setFormat_X8_setFormat
theorem dL_setFormat_0 : decode cL_setFormat 0 = .ok (.aload_n 3, 1) := by decide +kernel
theorem dL_setFormat_1 : decode cL_setFormat 1 = .ok (.iconst 0, 1) := by decide +kernel
theorem dL_setFormat_2 : decode cL_setFormat 2 = .ok (.aload_n 0, 1) := by decide +kernel
theorem dL_setFormat_3 : decode cL_setFormat 3 = .ok (.iload_n 1, 1) := by decide +kernel
theorem dL_setFormat_4 : decode cL_setFormat 4 = .ok (.iload_n 2, 1) := by decide +kernel
theorem dL_setFormat_5 : decode cL_setFormat 5 = .ok (.invokevirtual 43, 3) := by decide +kernel
theorem dL_setFormat_8 : decode cL_setFormat 8 = .ok (.i2l, 1) := by decide +kernel
theorem dL_setFormat_9 : decode cL_setFormat 9 = .ok (.lastore, 1) := by decide +kernel
theorem dL_setFormat_10 : decode cL_setFormat 10 = .ok (.goto 7, 3) := by decide +kernel
theorem dL_setFormat_13 : decode cL_setFormat 13 = .ok (.astore 4, 2) := by decide +kernel
theorem dL_setFormat_15 : decode cL_setFormat 15 = .ok (.iconst 1, 1) := by decide +kernel
theorem dL_setFormat_16 : decode cL_setFormat 16 = .ok (.ireturn, 1) := by decide +kernel
theorem dL_setFormat_17 : decode cL_setFormat 17 = .ok (.iconst 0, 1) := by decide +kernel
theorem dL_setFormat_18 : decode cL_setFormat 18 = .ok (.ireturn, 1) := by decide +kernel
set_option maxRecDepth 20000 in
theorem ggL_setGoingOn_X8_setGoingOn : GoodIn wsL_setGoingOn wsX8_setGoingOn := goodIn_ca (goodIn_ca (goodIn_ca (goodIn_r _ [7, 8, 9, 10, 11, 12, 13, 14, 6, 15, 16, 17, 18, 19, 20, 21, 22, 23, 24, 25, 26, 27, 28, 29, 30, 31, 32, 33, 34, 35, 36, 37, 38, 39, 40, 41, 42, 43, 44, 45, 46, 47, 48, 49, 50, 51, 52, 53, 54, 55, 56, 57, 58, 59, 60, 61, 62, 63, 64, 65, 66, 67, 68, 69, 70, 71, 72, 73, 74, 75, 76, 77, 78, 79, 80, 81, 82, 83, 84, 85, 86, 87, 88, 89, 90, 91, 92, 93, 94, 95, 96, 97, 98, 99, 100, 101, 102, 103, 104, 105, 106, 107, 108, 109, 110, 111, 112, 113, 114, 115, 116, 117, 118, 119, 120, 121, 122, 123, 124, 125, 126, 127, 128, 129, 130, 131, 132, 133, 134, 135, 136, 137, 138, 139, 140, 141, 142, 143, 144, 145, 146, 147, 148, 149, 150, 151, 152, 153, 154, 155, 156, 157, 158, 159, 160, 161, 162, 163, 164, 165, 166, 167, 168, 169, 170, 171, 172, 173, 174, 175, 176, 177, 178, 179, 180, 181, 182, 183, 184, 185, 186, 187, 188] (by decide +kernel) (by decide +kernel)) (goodIn_sub (fun _ h => List.mem_cons_of_mem _ (List.mem_append_left _ (List.mem_append_right _ h))) (by decide +kernel))) (goodIn_sub (fun _ h => List.mem_cons_of_mem _ (List.mem_append_right _ h)) (by decide +kernel))) (goodIn_sub (fun _ h => List.mem_cons_of_mem _ (List.mem_append_left _ (List.mem_append_left _ (List.mem_append_right _ h)))) (by decide +kernel))
set_option maxRecDepth 20000 in
theorem gL_setGoingOn_X8_setGoingOn : GoodIn wsL_setGoingOn (wsV RL 47 RX8 yX8_setGoingOn wsX8_setGoingOn) := goodIn_app (goodIn_of _ (by decide +kernel)) ggL_setGoingOn_X8_setGoingOn
theorem dL_setGoingOn_0 : decode cL_setGoingOn 0 = .ok (.aload_n 3, 1) := by decide +kernel
theorem dL_setGoingOn_1 : decode cL_setGoingOn 1 = .ok (.iconst 0, 1) := by decide +kernel
theorem dL_setGoingOn_2 : decode cL_setGoingOn 2 = .ok (.aload_n 0, 1) := by decide +kernel
theorem dL_setGoingOn_3 : decode cL_setGoingOn 3 = .ok (.iload_n 1, 1) := by decide +kernel
theorem dL_setGoingOn_4 : decode cL_setGoingOn 4 = .ok (.iload_n 2, 1) := by decide +kernel
theorem dL_setGoingOn_5 : decode cL_setGoingOn 5 = .ok (.invokevirtual 47, 3) := by decide +kernel
theorem dL_setGoingOn_8 : decode cL_setGoingOn 8 = .ok (.ifCond .eq 7, 3) := by decide +kernel
theorem dL_setGoingOn_15 : decode cL_setGoingOn 15 = .ok (.lconst 0, 1) := by decide +kernel
theorem dL_setGoingOn_16 : decode cL_setGoingOn 16 = .ok (.lastore, 1) := by decide +kernel
theorem dL_setGoingOn_17 : decode cL_setGoingOn 17 = .ok (.goto 11, 3) := by decide +kernel
theorem dL_setGoingOn_20 : decode cL_setGoingOn 20 = .ok (.astore 4, 2) := by decide +kernel
theorem dL_setGoingOn_22 : decode cL_setGoingOn 22 = .ok (.iconst 1, 1) := by decide +kernel
theorem dL_setGoingOn_23 : decode cL_setGoingOn 23 = .ok (.ireturn, 1) := by decide +kernel
theorem dL_setGoingOn_28 : decode cL_setGoingOn 28 = .ok (.iconst 0, 1) := by decide +kernel
theorem dL_setGoingOn_29 : decode cL_setGoingOn 29 = .ok (.ireturn, 1) := by decide +kernel
set_option maxRecDepth 20000 in
theorem ggL_refer_X8_refer : GoodIn wsL_refer wsX8_refer := goodIn_ca (goodIn_ca (goodIn_ca (goodIn_ca (goodIn_r _ [8, 9, 10, 11, 12, 13, 14, 15, 16, 17, 7, 18, 19, 20, 21, 22, 23, 24, 25, 26, 27, 28, 29, 30, 31, 32, 33, 34, 35, 36, 37, 38, 39, 40, 41, 42, 43, 44, 45, 46, 47, 48, 49, 50, 51, 52, 53, 54, 55, 56, 57, 58, 59, 60, 61, 62, 63, 64, 65, 66, 67, 68] (by decide +kernel) (by decide +kernel)) (goodIn_sub (fun _ h => List.mem_cons_of_mem _ (List.mem_append_left _ (List.mem_append_left _ (List.mem_append_right _ h)))) (by decide +kernel))) (goodIn_sub (fun _ h => List.mem_cons_of_mem _ (List.mem_append_left _ (List.mem_append_right _ h))) (by decide +kernel))) (goodIn_sub (fun _ h => List.mem_cons_of_mem _ (List.mem_append_right _ h)) (by decide +kernel))) (goodIn_sub (fun _ h => List.mem_cons_of_mem _ (List.mem_append_left _ (List.mem_append_left _ (List.mem_append_left _ (List.mem_append_right _ h))))) (by decide +kernel))
set_option maxRecDepth 20000 in
theorem gL_refer_X8_refer : GoodIn wsL_refer (wsV RL 51 RX8 yX8_refer wsX8_refer) := goodIn_app (goodIn_of _ (by decide +kernel)) ggL_refer_X8_refer
theorem dL_refer_0 : decode cL_refer 0 = .ok (.aload_n 3, 1) := by decide +kernel
theorem dL_refer_1 : decode cL_refer 1 = .ok (.iconst 0, 1) := by decide +kernel
theorem dL_refer_2 : decode cL_refer 2 = .ok (.aload_n 0, 1) := by decide +kernel
theorem dL_refer_3 : decode cL_refer 3 = .ok (.iload_n 1, 1) := by decide +kernel
theorem dL_refer_4 : decode cL_refer 4 = .ok (.iload_n 2, 1) := by decide +kernel
theorem dL_refer_5 : decode cL_refer 5 = .ok (.invokevirtual 51, 3) := by decide +kernel
theorem dL_refer_13 : decode cL_refer 13 = .ok (.astore 4, 2) := by decide +kernel
theorem dL_refer_15 : decode cL_refer 15 = .ok (.iconst 1, 1) := by decide +kernel
theorem dL_refer_16 : decode cL_refer 16 = .ok (.ireturn, 1) := by decide +kernel
set_option maxRecDepth 20000 in
theorem ggL_paragraphAt_X8_paragraphAt : GoodIn wsL_paragraphAt wsX8_paragraphAt := goodIn_ca (goodIn_ca (goodIn_r _ [6, 7, 8, 9, 10, 11, 12, 13, 14, 15, 16, 17, 18, 19, 20, 21, 22, 23, 24, 25, 26, 27, 28, 29, 30, 31, 32, 33, 34, 35, 36, 37, 38] (by decide +kernel) (by decide +kernel)) (goodIn_sub (fun _ h => List.mem_cons_of_mem _ (List.mem_append_right _ h)) (by decide +kernel))) (goodIn_sub (fun _ h => List.mem_cons_of_mem _ (List.mem_append_left _ (List.mem_append_right _ h))) (by decide +kernel))
set_option maxRecDepth 20000 in
theorem gL_paragraphAt_X8_paragraphAt : GoodIn wsL_paragraphAt (wsV RL 54 RX8 yX8_paragraphAt wsX8_paragraphAt) := goodIn_app (goodIn_of _ (by decide +kernel)) ggL_paragraphAt_X8_paragraphAt
theorem dL_paragraphAt_0 : decode cL_paragraphAt 0 = .ok (.aload_n 2, 1) := by decide +kernel
theorem dL_paragraphAt_1 : decode cL_paragraphAt 1 = .ok (.iconst 0, 1) := by decide +kernel
theorem dL_paragraphAt_2 : decode cL_paragraphAt 2 = .ok (.aload_n 0, 1) := by decide +kernel
theorem dL_paragraphAt_3 : decode cL_paragraphAt 3 = .ok (.iload_n 1, 1) := by decide +kernel
theorem dL_paragraphAt_4 : decode cL_paragraphAt 4 = .ok (.invokevirtual 54, 3) := by decide +kernel
theorem dL_paragraphAt_12 : decode cL_paragraphAt 12 = .ok (.astore_n 3, 1) := by decide +kernel
theorem dL_paragraphAt_13 : decode cL_paragraphAt 13 = .ok (.iconst 1, 1) := by decide +kernel
theorem dL_paragraphAt_14 : decode cL_paragraphAt 14 = .ok (.ireturn, 1) := by decide +kernel
set_option maxRecDepth 20000 in
theorem ggL_placeOf_X8_placeOf : GoodIn wsL_placeOf wsX8_placeOf := goodIn_ca (goodIn_ca (goodIn_r _ [6, 7, 8, 9, 10, 5, 11, 12, 13, 14, 15, 16, 17, 18, 19, 20, 21, 22, 23, 24, 25, 26, 27, 28, 29, 30, 31, 32, 33, 34, 35, 36, 37, 38, 39, 40, 41] (by decide +kernel) (by decide +kernel)) (goodIn_sub (fun _ h => List.mem_cons_of_mem _ (List.mem_append_right _ h)) (by decide +kernel))) (goodIn_sub (fun _ h => List.mem_cons_of_mem _ (List.mem_append_left _ (List.mem_append_right _ h))) (by decide +kernel))
set_option maxRecDepth 20000 in
theorem gL_placeOf_X8_placeOf : GoodIn wsL_placeOf (wsV RL 59 RX8 yX8_placeOf wsX8_placeOf) := goodIn_app (goodIn_of _ (by decide +kernel)) ggL_placeOf_X8_placeOf
theorem dL_placeOf_0 : decode cL_placeOf 0 = .ok (.aload_n 2, 1) := by decide +kernel
theorem dL_placeOf_1 : decode cL_placeOf 1 = .ok (.iconst 0, 1) := by decide +kernel
theorem dL_placeOf_2 : decode cL_placeOf 2 = .ok (.aload_n 0, 1) := by decide +kernel
theorem dL_placeOf_3 : decode cL_placeOf 3 = .ok (.iload_n 1, 1) := by decide +kernel
theorem dL_placeOf_4 : decode cL_placeOf 4 = .ok (.invokevirtual 59, 3) := by decide +kernel
theorem dL_placeOf_12 : decode cL_placeOf 12 = .ok (.astore_n 3, 1) := by decide +kernel
theorem dL_placeOf_13 : decode cL_placeOf 13 = .ok (.iconst 1, 1) := by decide +kernel
theorem dL_placeOf_14 : decode cL_placeOf 14 = .ok (.ireturn, 1) := by decide +kernel
set_option maxRecDepth 20000 in
theorem ggL_levelOf_X8_levelOf : GoodIn wsL_levelOf wsX8_levelOf := goodIn_ca (goodIn_ca (goodIn_r _ [6, 7, 8, 9, 10, 5, 11, 12, 13, 14, 15, 16, 17, 18, 19, 20, 21, 22, 23, 24, 25, 26, 27, 28, 29, 30, 31, 32, 33, 34, 35, 36, 37, 38, 39, 40, 41, 42] (by decide +kernel) (by decide +kernel)) (goodIn_sub (fun _ h => List.mem_cons_of_mem _ (List.mem_append_right _ h)) (by decide +kernel))) (goodIn_sub (fun _ h => List.mem_cons_of_mem _ (List.mem_append_left _ (List.mem_append_right _ h))) (by decide +kernel))
set_option maxRecDepth 20000 in
theorem gL_levelOf_X8_levelOf : GoodIn wsL_levelOf (wsV RL 62 RX8 yX8_levelOf wsX8_levelOf) := goodIn_app (goodIn_of _ (by decide +kernel)) ggL_levelOf_X8_levelOf
theorem dL_levelOf_0 : decode cL_levelOf 0 = .ok (.aload_n 2, 1) := by decide +kernel
theorem dL_levelOf_1 : decode cL_levelOf 1 = .ok (.iconst 0, 1) := by decide +kernel
theorem dL_levelOf_2 : decode cL_levelOf 2 = .ok (.aload_n 0, 1) := by decide +kernel
theorem dL_levelOf_3 : decode cL_levelOf 3 = .ok (.iload_n 1, 1) := by decide +kernel
theorem dL_levelOf_4 : decode cL_levelOf 4 = .ok (.invokevirtual 62, 3) := by decide +kernel
theorem dL_levelOf_12 : decode cL_levelOf 12 = .ok (.astore_n 3, 1) := by decide +kernel
theorem dL_levelOf_13 : decode cL_levelOf 13 = .ok (.iconst 1, 1) := by decide +kernel
theorem dL_levelOf_14 : decode cL_levelOf 14 = .ok (.ireturn, 1) := by decide +kernel
set_option maxRecDepth 20000 in
theorem ggL_parentOf_X8_parentOf : GoodIn wsL_parentOf wsX8_parentOf := goodIn_ca (goodIn_ca (goodIn_ca (goodIn_r _ [7, 8, 9, 10, 11, 6, 12, 13, 14, 15, 16, 17, 18, 19, 20, 21, 22, 23, 24, 25, 26, 27, 28, 29, 30, 31, 32, 33, 34, 35, 36, 37, 38, 39, 40, 41, 42, 43, 44, 45, 46, 47, 48, 49, 50, 51, 52, 53, 54] (by decide +kernel) (by decide +kernel)) (goodIn_sub (fun _ h => List.mem_cons_of_mem _ (List.mem_append_left _ (List.mem_append_right _ h))) (by decide +kernel))) (goodIn_sub (fun _ h => List.mem_cons_of_mem _ (List.mem_append_right _ h)) (by decide +kernel))) (goodIn_sub (fun _ h => List.mem_cons_of_mem _ (List.mem_append_left _ (List.mem_append_left _ (List.mem_append_right _ h)))) (by decide +kernel))
set_option maxRecDepth 20000 in
theorem gL_parentOf_X8_parentOf : GoodIn wsL_parentOf (wsV RL 65 RX8 yX8_parentOf wsX8_parentOf) := goodIn_app (goodIn_of _ (by decide +kernel)) ggL_parentOf_X8_parentOf
theorem dL_parentOf_0 : decode cL_parentOf 0 = .ok (.aload_n 2, 1) := by decide +kernel
theorem dL_parentOf_1 : decode cL_parentOf 1 = .ok (.iconst 0, 1) := by decide +kernel
theorem dL_parentOf_2 : decode cL_parentOf 2 = .ok (.aload_n 0, 1) := by decide +kernel
theorem dL_parentOf_3 : decode cL_parentOf 3 = .ok (.iload_n 1, 1) := by decide +kernel
theorem dL_parentOf_4 : decode cL_parentOf 4 = .ok (.invokevirtual 65, 3) := by decide +kernel
theorem dL_parentOf_12 : decode cL_parentOf 12 = .ok (.astore_n 3, 1) := by decide +kernel
theorem dL_parentOf_13 : decode cL_parentOf 13 = .ok (.iconst 1, 1) := by decide +kernel
theorem dL_parentOf_14 : decode cL_parentOf 14 = .ok (.ireturn, 1) := by decide +kernel
set_option maxRecDepth 20000 in
theorem ggL_below_X8_below : GoodIn wsL_below wsX8_below := goodIn_ca (goodIn_ca (goodIn_r _ [6, 7, 8, 9, 10, 5, 11, 12, 13, 14, 15, 16, 17, 18, 19, 20, 21, 22, 23, 24, 25, 26, 27, 28, 29, 30, 31, 32, 33, 34, 35, 36, 37, 38, 39, 40, 41, 42, 43, 44, 45, 46, 47, 48, 49, 50, 51, 52, 53, 54, 55, 56] (by decide +kernel) (by decide +kernel)) (goodIn_sub (fun _ h => List.mem_cons_of_mem _ (List.mem_append_right _ h)) (by decide +kernel))) (goodIn_sub (fun _ h => List.mem_cons_of_mem _ (List.mem_append_left _ (List.mem_append_right _ h))) (by decide +kernel))
set_option maxRecDepth 20000 in
theorem gL_below_X8_below : GoodIn wsL_below (wsV RL 68 RX8 yX8_below wsX8_below) := goodIn_app (goodIn_of _ (by decide +kernel)) ggL_below_X8_below
theorem dL_below_0 : decode cL_below 0 = .ok (.aload_n 2, 1) := by decide +kernel
theorem dL_below_1 : decode cL_below 1 = .ok (.iconst 0, 1) := by decide +kernel
theorem dL_below_2 : decode cL_below 2 = .ok (.aload_n 0, 1) := by decide +kernel
theorem dL_below_3 : decode cL_below 3 = .ok (.iload_n 1, 1) := by decide +kernel
theorem dL_below_4 : decode cL_below 4 = .ok (.invokevirtual 68, 3) := by decide +kernel
theorem dL_below_12 : decode cL_below 12 = .ok (.astore_n 3, 1) := by decide +kernel
theorem dL_below_13 : decode cL_below 13 = .ok (.iconst 1, 1) := by decide +kernel
theorem dL_below_14 : decode cL_below 14 = .ok (.ireturn, 1) := by decide +kernel
set_option maxRecDepth 20000 in
theorem ggL_isFrozen_X8_isFrozen : GoodIn wsL_isFrozen wsX8_isFrozen := goodIn_ca (goodIn_ca (goodIn_r _ [6, 7, 8, 9, 10, 5, 11, 12, 13, 14, 15, 16, 17, 18, 19, 20, 21, 22, 23, 24, 25, 26, 27, 28, 29, 30, 31, 32, 33, 34, 35, 36, 37, 38, 39, 40, 41, 42, 43, 44, 45, 46, 47, 48, 49, 50, 51, 52, 53, 54, 55, 56, 57, 58] (by decide +kernel) (by decide +kernel)) (goodIn_sub (fun _ h => List.mem_cons_of_mem _ (List.mem_append_right _ h)) (by decide +kernel))) (goodIn_sub (fun _ h => List.mem_cons_of_mem _ (List.mem_append_left _ (List.mem_append_right _ h))) (by decide +kernel))
set_option maxRecDepth 20000 in
theorem gL_isFrozen_X8_isFrozen : GoodIn wsL_isFrozen (wsV RL 71 RX8 yX8_isFrozen wsX8_isFrozen) := goodIn_app (goodIn_of _ (by decide +kernel)) ggL_isFrozen_X8_isFrozen
theorem dL_isFrozen_0 : decode cL_isFrozen 0 = .ok (.aload_n 2, 1) := by decide +kernel
theorem dL_isFrozen_1 : decode cL_isFrozen 1 = .ok (.iconst 0, 1) := by decide +kernel
theorem dL_isFrozen_2 : decode cL_isFrozen 2 = .ok (.aload_n 0, 1) := by decide +kernel
theorem dL_isFrozen_3 : decode cL_isFrozen 3 = .ok (.iload_n 1, 1) := by decide +kernel
theorem dL_isFrozen_4 : decode cL_isFrozen 4 = .ok (.invokevirtual 71, 3) := by decide +kernel
theorem dL_isFrozen_19 : decode cL_isFrozen 19 = .ok (.astore_n 3, 1) := by decide +kernel
theorem dL_isFrozen_20 : decode cL_isFrozen 20 = .ok (.iconst 1, 1) := by decide +kernel
theorem dL_isFrozen_21 : decode cL_isFrozen 21 = .ok (.ireturn, 1) := by decide +kernel
set_option maxRecDepth 20000 in
theorem ggL_numberOf_X8_numberOf : GoodIn wsL_numberOf wsX8_numberOf := goodIn_ca (goodIn_ca (goodIn_ca (goodIn_r _ [7, 8, 9, 10, 11, 6, 12, 13, 14, 15, 16, 17, 18, 19, 20, 21, 22, 23, 24, 25, 26, 27, 28, 29, 30, 31, 32, 33, 34, 35, 36, 37, 38, 39, 40, 41, 42, 43, 44, 45, 46, 47, 48, 49, 50, 51, 52, 53, 54, 55, 56, 57, 58, 59, 60, 61, 62, 63, 64, 65, 66, 67, 68, 69, 70] (by decide +kernel) (by decide +kernel)) (goodIn_sub (fun _ h => List.mem_cons_of_mem _ (List.mem_append_left _ (List.mem_append_right _ h))) (by decide +kernel))) (goodIn_sub (fun _ h => List.mem_cons_of_mem _ (List.mem_append_right _ h)) (by decide +kernel))) (goodIn_sub (fun _ h => List.mem_cons_of_mem _ (List.mem_append_left _ (List.mem_append_left _ (List.mem_append_right _ h)))) (by decide +kernel))
set_option maxRecDepth 20000 in
theorem gL_numberOf_X8_numberOf : GoodIn wsL_numberOf (wsV RL 75 RX8 yX8_numberOf wsX8_numberOf) := goodIn_app (goodIn_of _ (by decide +kernel)) ggL_numberOf_X8_numberOf
theorem dL_numberOf_0 : decode cL_numberOf 0 = .ok (.aload_n 2, 1) := by decide +kernel
theorem dL_numberOf_1 : decode cL_numberOf 1 = .ok (.iconst 0, 1) := by decide +kernel
theorem dL_numberOf_2 : decode cL_numberOf 2 = .ok (.aload_n 0, 1) := by decide +kernel
theorem dL_numberOf_3 : decode cL_numberOf 3 = .ok (.iload_n 1, 1) := by decide +kernel
theorem dL_numberOf_4 : decode cL_numberOf 4 = .ok (.invokevirtual 75, 3) := by decide +kernel
theorem dL_numberOf_12 : decode cL_numberOf 12 = .ok (.astore_n 3, 1) := by decide +kernel
theorem dL_numberOf_13 : decode cL_numberOf 13 = .ok (.iconst 1, 1) := by decide +kernel
theorem dL_numberOf_14 : decode cL_numberOf 14 = .ok (.ireturn, 1) := by decide +kernel
set_option maxRecDepth 20000 in
theorem ggL_lettersOf_X8_lettersOf : GoodIn wsL_lettersOf wsX8_lettersOf := goodIn_ca (goodIn_ca (goodIn_ca (goodIn_r _ [7, 8, 9, 10, 11, 6, 12, 13, 14, 15, 16, 17, 18, 19, 20, 21, 22, 23, 24, 25, 26, 27, 28, 29, 30, 31, 32, 33, 34, 35, 36, 37, 38, 39, 40, 41, 42, 43, 44, 45, 46, 47, 48, 49, 50, 51, 52, 53, 54, 55, 56, 57, 58, 59, 60, 61, 62, 63, 64, 65, 66, 67, 68, 69, 70] (by decide +kernel) (by decide +kernel)) (goodIn_sub (fun _ h => List.mem_cons_of_mem _ (List.mem_append_left _ (List.mem_append_right _ h))) (by decide +kernel))) (goodIn_sub (fun _ h => List.mem_cons_of_mem _ (List.mem_append_right _ h)) (by decide +kernel))) (goodIn_sub (fun _ h => List.mem_cons_of_mem _ (List.mem_append_left _ (List.mem_append_left _ (List.mem_append_right _ h)))) (by decide +kernel))
set_option maxRecDepth 20000 in
theorem gL_lettersOf_X8_lettersOf : GoodIn wsL_lettersOf (wsV RL 78 RX8 yX8_lettersOf wsX8_lettersOf) := goodIn_app (goodIn_of _ (by decide +kernel)) ggL_lettersOf_X8_lettersOf
theorem dL_lettersOf_0 : decode cL_lettersOf 0 = .ok (.aload_n 2, 1) := by decide +kernel
theorem dL_lettersOf_1 : decode cL_lettersOf 1 = .ok (.iconst 0, 1) := by decide +kernel
theorem dL_lettersOf_2 : decode cL_lettersOf 2 = .ok (.aload_n 0, 1) := by decide +kernel
theorem dL_lettersOf_3 : decode cL_lettersOf 3 = .ok (.iload_n 1, 1) := by decide +kernel
theorem dL_lettersOf_4 : decode cL_lettersOf 4 = .ok (.invokevirtual 78, 3) := by decide +kernel
theorem dL_lettersOf_12 : decode cL_lettersOf 12 = .ok (.astore_n 3, 1) := by decide +kernel
theorem dL_lettersOf_13 : decode cL_lettersOf 13 = .ok (.iconst 1, 1) := by decide +kernel
theorem dL_lettersOf_14 : decode cL_lettersOf 14 = .ok (.ireturn, 1) := by decide +kernel
set_option maxRecDepth 20000 in
theorem ggL_numberByWalk_X8_numberByWalk : GoodIn wsL_numberByWalk wsX8_numberByWalk := goodIn_ca (goodIn_ca (goodIn_ca (goodIn_r _ [7, 8, 9, 10, 11, 6, 12, 13, 14, 15, 16, 17, 18, 19, 20, 21, 22, 23, 24, 25, 26, 27, 28, 29, 30, 31, 32, 33, 34, 35, 36, 37, 38, 39, 40, 41, 42, 43, 44, 45, 46, 47, 48, 49, 50, 51, 52, 53, 54, 55, 56, 57, 58, 59, 60, 61, 62, 63, 64, 65, 66, 67, 68, 69, 70, 71, 72, 73, 74, 75, 76, 77, 78, 79, 80, 81, 82, 83, 84, 85, 86, 87, 88, 89, 90, 91, 92, 93, 94, 95, 96, 97, 98, 99, 100, 101, 102, 103, 104, 105, 106, 107, 108, 109, 110, 111, 112, 113, 114, 115, 116, 117, 118, 119, 120, 121, 122, 123, 124, 125, 126, 127, 128, 129, 130, 131, 132, 133, 134, 135, 136, 137, 138, 139, 140, 141, 142, 143, 144, 145, 146, 147, 148, 149, 150, 151, 152, 153, 154, 155, 156, 157, 158, 159, 160, 161, 162, 163, 164] (by decide +kernel) (by decide +kernel)) (goodIn_sub (fun _ h => List.mem_cons_of_mem _ (List.mem_append_left _ (List.mem_append_right _ h))) (by decide +kernel))) (goodIn_sub (fun _ h => List.mem_cons_of_mem _ (List.mem_append_right _ h)) (by decide +kernel))) (goodIn_sub (fun _ h => List.mem_cons_of_mem _ (List.mem_append_left _ (List.mem_append_left _ (List.mem_append_right _ h)))) (by decide +kernel))
set_option maxRecDepth 20000 in
theorem gL_numberByWalk_X8_numberByWalk : GoodIn wsL_numberByWalk (wsV RL 81 RX8 yX8_numberByWalk wsX8_numberByWalk) := goodIn_app (goodIn_of _ (by decide +kernel)) ggL_numberByWalk_X8_numberByWalk
theorem dL_numberByWalk_0 : decode cL_numberByWalk 0 = .ok (.aload_n 2, 1) := by decide +kernel
theorem dL_numberByWalk_1 : decode cL_numberByWalk 1 = .ok (.iconst 0, 1) := by decide +kernel
theorem dL_numberByWalk_2 : decode cL_numberByWalk 2 = .ok (.aload_n 0, 1) := by decide +kernel
theorem dL_numberByWalk_3 : decode cL_numberByWalk 3 = .ok (.iload_n 1, 1) := by decide +kernel
theorem dL_numberByWalk_4 : decode cL_numberByWalk 4 = .ok (.invokevirtual 81, 3) := by decide +kernel
theorem dL_numberByWalk_12 : decode cL_numberByWalk 12 = .ok (.astore_n 3, 1) := by decide +kernel
theorem dL_numberByWalk_13 : decode cL_numberByWalk 13 = .ok (.iconst 1, 1) := by decide +kernel
theorem dL_numberByWalk_14 : decode cL_numberByWalk 14 = .ok (.ireturn, 1) := by decide +kernel
set_option maxRecDepth 20000 in
theorem ggL_lettersByWalk_X8_lettersByWalk : GoodIn wsL_lettersByWalk wsX8_lettersByWalk := goodIn_ca (goodIn_ca (goodIn_ca (goodIn_r _ [7, 8, 9, 10, 11, 6, 12, 13, 14, 15, 16, 17, 18, 19, 20, 21, 22, 23, 24, 25, 26, 27, 28, 29, 30, 31, 32, 33, 34, 35, 36, 37, 38, 39, 40, 41, 42, 43, 44, 45, 46, 47, 48, 49, 50, 51, 52, 53, 54, 55, 56, 57, 58, 59, 60, 61, 62, 63, 64, 65, 66, 67, 68, 69, 70, 71, 72, 73, 74, 75, 76, 77, 78, 79, 80, 81, 82, 83, 84, 85, 86, 87, 88, 89, 90, 91, 92, 93, 94, 95, 96, 97, 98, 99, 100, 101, 102, 103, 104, 105, 106, 107, 108, 109, 110, 111, 112, 113, 114, 115, 116, 117, 118, 119, 120, 121, 122, 123, 124, 125, 126, 127, 128, 129, 130, 131, 132, 133, 134, 135, 136, 137, 138, 139, 140, 141, 142, 143, 144, 145, 146, 147, 148, 149, 150, 151, 152, 153, 154, 155, 156, 157, 158, 159, 160, 161, 162, 163, 164] (by decide +kernel) (by decide +kernel)) (goodIn_sub (fun _ h => List.mem_cons_of_mem _ (List.mem_append_left _ (List.mem_append_right _ h))) (by decide +kernel))) (goodIn_sub (fun _ h => List.mem_cons_of_mem _ (List.mem_append_right _ h)) (by decide +kernel))) (goodIn_sub (fun _ h => List.mem_cons_of_mem _ (List.mem_append_left _ (List.mem_append_left _ (List.mem_append_right _ h)))) (by decide +kernel))
set_option maxRecDepth 20000 in
theorem gL_lettersByWalk_X8_lettersByWalk : GoodIn wsL_lettersByWalk (wsV RL 84 RX8 yX8_lettersByWalk wsX8_lettersByWalk) := goodIn_app (goodIn_of _ (by decide +kernel)) ggL_lettersByWalk_X8_lettersByWalk
theorem dL_lettersByWalk_0 : decode cL_lettersByWalk 0 = .ok (.aload_n 2, 1) := by decide +kernel
theorem dL_lettersByWalk_1 : decode cL_lettersByWalk 1 = .ok (.iconst 0, 1) := by decide +kernel
theorem dL_lettersByWalk_2 : decode cL_lettersByWalk 2 = .ok (.aload_n 0, 1) := by decide +kernel
theorem dL_lettersByWalk_3 : decode cL_lettersByWalk 3 = .ok (.iload_n 1, 1) := by decide +kernel
theorem dL_lettersByWalk_4 : decode cL_lettersByWalk 4 = .ok (.invokevirtual 84, 3) := by decide +kernel
theorem dL_lettersByWalk_12 : decode cL_lettersByWalk 12 = .ok (.astore_n 3, 1) := by decide +kernel
theorem dL_lettersByWalk_13 : decode cL_lettersByWalk 13 = .ok (.iconst 1, 1) := by decide +kernel
theorem dL_lettersByWalk_14 : decode cL_lettersByWalk 14 = .ok (.ireturn, 1) := by decide +kernel
set_option maxRecDepth 20000 in
theorem ggL_ahead_X8_ahead : GoodIn wsL_ahead wsX8_ahead := goodIn_ca (goodIn_ca (goodIn_ca (goodIn_r _ [7, 8, 9, 10, 11, 6, 12, 13, 14, 15, 16, 17, 18, 19, 20, 21, 22, 23, 24, 25, 26, 27, 28, 29, 30, 31, 32, 33, 34, 35, 36, 37, 38, 39, 40, 41, 42, 43, 44, 45, 46, 47, 48, 49, 50, 51, 52, 53, 54, 55, 56, 57, 58, 59, 60, 61, 62, 63, 64, 65, 66, 67, 68, 69, 70, 71, 72, 73, 74, 75, 76, 77, 78, 79, 80] (by decide +kernel) (by decide +kernel)) (goodIn_sub (fun _ h => List.mem_cons_of_mem _ (List.mem_append_left _ (List.mem_append_right _ h))) (by decide +kernel))) (goodIn_sub (fun _ h => List.mem_cons_of_mem _ (List.mem_append_right _ h)) (by decide +kernel))) (goodIn_sub (fun _ h => List.mem_cons_of_mem _ (List.mem_append_left _ (List.mem_append_left _ (List.mem_append_right _ h)))) (by decide +kernel))
set_option maxRecDepth 20000 in
theorem gL_ahead_X8_ahead : GoodIn wsL_ahead (wsV RL 87 RX8 yX8_ahead wsX8_ahead) := goodIn_app (goodIn_of _ (by decide +kernel)) ggL_ahead_X8_ahead
theorem dL_ahead_0 : decode cL_ahead 0 = .ok (.aload_n 2, 1) := by decide +kernel
theorem dL_ahead_1 : decode cL_ahead 1 = .ok (.iconst 0, 1) := by decide +kernel
theorem dL_ahead_2 : decode cL_ahead 2 = .ok (.aload_n 0, 1) := by decide +kernel
theorem dL_ahead_3 : decode cL_ahead 3 = .ok (.iload_n 1, 1) := by decide +kernel
theorem dL_ahead_4 : decode cL_ahead 4 = .ok (.invokevirtual 87, 3) := by decide +kernel
theorem dL_ahead_12 : decode cL_ahead 12 = .ok (.astore_n 3, 1) := by decide +kernel
theorem dL_ahead_13 : decode cL_ahead 13 = .ok (.iconst 1, 1) := by decide +kernel
theorem dL_ahead_14 : decode cL_ahead 14 = .ok (.ireturn, 1) := by decide +kernel
set_option maxRecDepth 20000 in
theorem ggL_labelLength_X8_labelLength : GoodIn wsL_labelLength wsX8_labelLength := goodIn_ca (goodIn_ca (goodIn_ca (goodIn_r _ [7, 8, 9, 10, 11, 6, 12, 13, 14, 15, 16, 17, 18, 19, 20, 21, 22, 23, 24, 25, 26, 27, 28, 29, 30, 31, 32, 33, 34, 35, 36, 37, 38, 39, 40, 41, 42, 43, 44, 45, 46, 47, 48, 49, 50, 51, 52, 53, 54, 55, 56, 57, 58, 59, 60, 61, 62, 63, 64, 65, 66, 67, 68, 69, 70, 71, 72, 73, 74, 75, 76, 77, 78, 79, 80, 81, 82, 83, 84, 85, 86, 87, 88, 89, 90, 91, 92, 93, 94, 95, 96, 97, 98, 99, 100, 101, 102, 103, 104, 105, 106, 107, 108, 109, 110, 111, 112, 113, 114, 115, 116, 117, 118, 119, 120, 121, 122, 123, 124, 125, 126, 127, 128, 129, 130, 131, 132, 133, 134, 135, 136, 137, 138, 139, 140, 141, 142, 143, 144, 145, 146, 147, 148, 149, 150, 151, 152, 153, 154, 155, 156, 157, 158, 159, 160, 161, 162, 163, 164, 165, 166, 167, 168, 169, 170, 171, 172, 173, 174, 175, 176, 177, 178, 179, 180, 181] (by decide +kernel) (by decide +kernel)) (goodIn_sub (fun _ h => List.mem_cons_of_mem _ (List.mem_append_left _ (List.mem_append_right _ h))) (by decide +kernel))) (goodIn_sub (fun _ h => List.mem_cons_of_mem _ (List.mem_append_right _ h)) (by decide +kernel))) (goodIn_sub (fun _ h => List.mem_cons_of_mem _ (List.mem_append_left _ (List.mem_append_left _ (List.mem_append_right _ h)))) (by decide +kernel))
set_option maxRecDepth 20000 in
theorem gL_labelLength_X8_labelLength : GoodIn wsL_labelLength (wsV RL 90 RX8 yX8_labelLength wsX8_labelLength) := goodIn_app (goodIn_of _ (by decide +kernel)) ggL_labelLength_X8_labelLength
theorem dL_labelLength_0 : decode cL_labelLength 0 = .ok (.aload_n 2, 1) := by decide +kernel
theorem dL_labelLength_1 : decode cL_labelLength 1 = .ok (.iconst 0, 1) := by decide +kernel
theorem dL_labelLength_2 : decode cL_labelLength 2 = .ok (.aload_n 0, 1) := by decide +kernel
theorem dL_labelLength_3 : decode cL_labelLength 3 = .ok (.iload_n 1, 1) := by decide +kernel
theorem dL_labelLength_4 : decode cL_labelLength 4 = .ok (.invokevirtual 90, 3) := by decide +kernel
theorem dL_labelLength_12 : decode cL_labelLength 12 = .ok (.astore_n 3, 1) := by decide +kernel
theorem dL_labelLength_13 : decode cL_labelLength 13 = .ok (.iconst 1, 1) := by decide +kernel
theorem dL_labelLength_14 : decode cL_labelLength 14 = .ok (.ireturn, 1) := by decide +kernel
set_option maxRecDepth 20000 in
theorem ggL_labelAt_X8_labelAt : GoodIn wsL_labelAt wsX8_labelAt := goodIn_ca (goodIn_ca (goodIn_ca (goodIn_ca (goodIn_r _ [8, 9, 10, 11, 12, 7, 13, 14, 15, 16, 17, 18, 19, 20, 21, 22, 23, 24, 25, 26, 27, 28, 29, 30, 31, 32, 33, 34, 35, 36, 37, 38, 39, 40, 41, 42, 43, 44, 45, 46, 47, 48, 49, 50, 51, 52, 53, 54, 55, 56, 57, 58, 59, 60, 61, 62, 63, 64, 65, 66, 67, 68, 69, 70, 71, 72, 73, 74, 75, 76, 77, 78, 79, 80, 81, 82, 83, 84, 85, 86, 87, 88, 89, 90, 91, 92, 93, 94, 95, 96, 97, 98, 99, 100, 101, 102, 103, 104, 105, 106, 107, 108, 109, 110, 111, 112, 113, 114, 115, 116, 117, 118, 119, 120, 121, 122, 123, 124, 125, 126, 127, 128, 129, 130, 131, 132, 133, 134, 135, 136, 137, 138, 139, 140, 141, 142, 143, 144, 145, 146, 147, 148, 149, 150, 151, 152, 153, 154, 155, 156, 157, 158, 159, 160, 161, 162, 163, 164, 165, 166, 167, 168, 169, 170, 171, 172, 173, 174, 175, 176, 177, 178, 179, 180, 181, 182, 183, 184, 185, 186, 187, 188, 189, 190, 191, 192, 193] (by decide +kernel) (by decide +kernel)) (goodIn_sub (fun _ h => List.mem_cons_of_mem _ (List.mem_append_left _ (List.mem_append_left _ (List.mem_append_right _ h)))) (by decide +kernel))) (goodIn_sub (fun _ h => List.mem_cons_of_mem _ (List.mem_append_left _ (List.mem_append_right _ h))) (by decide +kernel))) (goodIn_sub (fun _ h => List.mem_cons_of_mem _ (List.mem_append_left _ (List.mem_append_left _ (List.mem_append_left _ (List.mem_append_right _ h))))) (by decide +kernel))) (goodIn_sub (fun _ h => List.mem_cons_of_mem _ (List.mem_append_right _ h)) (by decide +kernel))
set_option maxRecDepth 20000 in
theorem gL_labelAt_X8_labelAt : GoodIn wsL_labelAt (wsV RL 93 RX8 yX8_labelAt wsX8_labelAt) := goodIn_app (goodIn_of _ (by decide +kernel)) ggL_labelAt_X8_labelAt
theorem dL_labelAt_0 : decode cL_labelAt 0 = .ok (.aload_n 3, 1) := by decide +kernel
theorem dL_labelAt_1 : decode cL_labelAt 1 = .ok (.iconst 0, 1) := by decide +kernel
theorem dL_labelAt_2 : decode cL_labelAt 2 = .ok (.aload_n 0, 1) := by decide +kernel
theorem dL_labelAt_3 : decode cL_labelAt 3 = .ok (.iload_n 1, 1) := by decide +kernel
theorem dL_labelAt_4 : decode cL_labelAt 4 = .ok (.iload_n 2, 1) := by decide +kernel
theorem dL_labelAt_5 : decode cL_labelAt 5 = .ok (.invokevirtual 93, 3) := by decide +kernel
theorem dL_labelAt_13 : decode cL_labelAt 13 = .ok (.astore 4, 2) := by decide +kernel
theorem dL_labelAt_15 : decode cL_labelAt 15 = .ok (.iconst 1, 1) := by decide +kernel
theorem dL_labelAt_16 : decode cL_labelAt 16 = .ok (.ireturn, 1) := by decide +kernel
set_option maxRecDepth 20000 in
theorem ggL_find_X8_find : GoodIn wsL_find wsX8_find := goodIn_ca (goodIn_ca (goodIn_ca (goodIn_r _ [7, 8, 9, 10, 11, 12, 13, 14, 6, 15, 16, 17, 18, 19, 20, 21, 22, 23, 24, 25, 26, 27, 28, 29, 30, 31, 32, 33, 34, 35, 36, 37, 38, 39, 40, 41, 42, 43, 44, 45, 46, 47, 48, 49, 50, 51, 52, 53, 54, 55, 56, 57, 58, 59, 60, 61, 62, 63, 64, 65, 66, 67, 68, 69, 70, 71, 72, 73, 74, 75, 76] (by decide +kernel) (by decide +kernel)) (goodIn_sub (fun _ h => List.mem_cons_of_mem _ (List.mem_append_left _ (List.mem_append_right _ h))) (by decide +kernel))) (goodIn_sub (fun _ h => List.mem_cons_of_mem _ (List.mem_append_right _ h)) (by decide +kernel))) (goodIn_sub (fun _ h => List.mem_cons_of_mem _ (List.mem_append_left _ (List.mem_append_left _ (List.mem_append_right _ h)))) (by decide +kernel))
set_option maxRecDepth 20000 in
theorem gL_find_X8_find : GoodIn wsL_find (wsV RL 97 RX8 yX8_find wsX8_find) := goodIn_app (goodIn_of _ (by decide +kernel)) ggL_find_X8_find
theorem dL_find_0 : decode cL_find 0 = .ok (.aload_n 3, 1) := by decide +kernel
theorem dL_find_1 : decode cL_find 1 = .ok (.iconst 0, 1) := by decide +kernel
theorem dL_find_2 : decode cL_find 2 = .ok (.aload_n 0, 1) := by decide +kernel
theorem dL_find_3 : decode cL_find 3 = .ok (.iload_n 1, 1) := by decide +kernel
theorem dL_find_4 : decode cL_find 4 = .ok (.iload_n 2, 1) := by decide +kernel
theorem dL_find_5 : decode cL_find 5 = .ok (.invokevirtual 97, 3) := by decide +kernel
theorem dL_find_13 : decode cL_find 13 = .ok (.astore 4, 2) := by decide +kernel
theorem dL_find_15 : decode cL_find 15 = .ok (.iconst 1, 1) := by decide +kernel
theorem dL_find_16 : decode cL_find 16 = .ok (.ireturn, 1) := by decide +kernel
theorem dL_find_17 : decode cL_find 17 = .ok (.astore 4, 2) := by decide +kernel
theorem dL_find_19 : decode cL_find 19 = .ok (.iconst 2, 1) := by decide +kernel
theorem dL_find_20 : decode cL_find 20 = .ok (.ireturn, 1) := by decide +kernel
set_option maxRecDepth 20000 in
theorem ggL_targetOf_X8_targetOf : GoodIn wsL_targetOf wsX8_targetOf := goodIn_ca (goodIn_ca (goodIn_r _ [6, 7, 8, 9, 10, 5, 11, 12, 13, 14, 15, 16, 17, 18, 19, 20, 21, 22, 23, 24, 25, 26, 27, 28, 29, 30, 31, 32, 33, 34, 35, 36, 37, 38, 39, 40] (by decide +kernel) (by decide +kernel)) (goodIn_sub (fun _ h => List.mem_cons_of_mem _ (List.mem_append_right _ h)) (by decide +kernel))) (goodIn_sub (fun _ h => List.mem_cons_of_mem _ (List.mem_append_left _ (List.mem_append_right _ h))) (by decide +kernel))
set_option maxRecDepth 20000 in
theorem gL_targetOf_X8_targetOf : GoodIn wsL_targetOf (wsV RL 100 RX8 yX8_targetOf wsX8_targetOf) := goodIn_app (goodIn_of _ (by decide +kernel)) ggL_targetOf_X8_targetOf
theorem dL_targetOf_0 : decode cL_targetOf 0 = .ok (.aload_n 2, 1) := by decide +kernel
theorem dL_targetOf_1 : decode cL_targetOf 1 = .ok (.iconst 0, 1) := by decide +kernel
theorem dL_targetOf_2 : decode cL_targetOf 2 = .ok (.aload_n 0, 1) := by decide +kernel
theorem dL_targetOf_3 : decode cL_targetOf 3 = .ok (.iload_n 1, 1) := by decide +kernel
theorem dL_targetOf_4 : decode cL_targetOf 4 = .ok (.invokevirtual 100, 3) := by decide +kernel
theorem dL_targetOf_12 : decode cL_targetOf 12 = .ok (.astore_n 3, 1) := by decide +kernel
theorem dL_targetOf_13 : decode cL_targetOf 13 = .ok (.iconst 1, 1) := by decide +kernel
theorem dL_targetOf_14 : decode cL_targetOf 14 = .ok (.ireturn, 1) := by decide +kernel
set_option maxRecDepth 20000 in
theorem ggL_isBroken_X8_isBroken : GoodIn wsL_isBroken wsX8_isBroken := goodIn_ca (goodIn_ca (goodIn_r _ [6, 7, 8, 9, 5, 10, 11, 12, 13, 14, 15, 16, 17, 18, 19, 20, 21, 22, 23, 24, 25, 26, 27, 28, 29, 30, 31, 32, 33, 34, 35, 36, 37, 38, 39, 40, 41, 42, 43, 44, 45, 46, 47, 48, 49, 50, 51, 52, 53, 54, 55, 56, 57, 58, 59, 60, 61, 62] (by decide +kernel) (by decide +kernel)) (goodIn_sub (fun _ h => List.mem_cons_of_mem _ (List.mem_append_right _ h)) (by decide +kernel))) (goodIn_sub (fun _ h => List.mem_cons_of_mem _ (List.mem_append_left _ (List.mem_append_right _ h))) (by decide +kernel))
set_option maxRecDepth 20000 in
theorem gL_isBroken_X8_isBroken : GoodIn wsL_isBroken (wsV RL 103 RX8 yX8_isBroken wsX8_isBroken) := goodIn_app (goodIn_of _ (by decide +kernel)) ggL_isBroken_X8_isBroken
theorem dL_isBroken_0 : decode cL_isBroken 0 = .ok (.aload_n 2, 1) := by decide +kernel
theorem dL_isBroken_1 : decode cL_isBroken 1 = .ok (.iconst 0, 1) := by decide +kernel
theorem dL_isBroken_2 : decode cL_isBroken 2 = .ok (.aload_n 0, 1) := by decide +kernel
theorem dL_isBroken_3 : decode cL_isBroken 3 = .ok (.iload_n 1, 1) := by decide +kernel
theorem dL_isBroken_4 : decode cL_isBroken 4 = .ok (.invokevirtual 103, 3) := by decide +kernel
theorem dL_isBroken_19 : decode cL_isBroken 19 = .ok (.astore_n 3, 1) := by decide +kernel
theorem dL_isBroken_20 : decode cL_isBroken 20 = .ok (.iconst 1, 1) := by decide +kernel
theorem dL_isBroken_21 : decode cL_isBroken 21 = .ok (.ireturn, 1) := by decide +kernel
set_option maxRecDepth 20000 in
theorem ggL_referenceLength_X8_referenceLength : GoodIn wsL_referenceLength wsX8_referenceLength := goodIn_ca (goodIn_ca (goodIn_ca (goodIn_r _ [7, 8, 9, 10, 11, 12, 6, 13, 14, 15, 16, 17, 18, 19, 20, 21, 22, 23, 24, 25, 26, 27, 28, 29, 30, 31, 32, 33, 34, 35, 36, 37, 38, 39, 40, 41, 42, 43, 44, 45, 46, 47, 48, 49, 50, 51, 52, 53, 54, 55, 56, 57, 58, 59, 60, 61, 62, 63, 64, 65, 66, 67, 68, 69, 70, 71, 72, 73, 74, 75, 76, 77, 78, 79, 80, 81, 82, 83, 84, 85, 86, 87, 88, 89, 90, 91, 92, 93, 94, 95, 96, 97, 98, 99, 100, 101, 102, 103, 104, 105, 106, 107, 108, 109, 110, 111, 112, 113, 114, 115, 116, 117, 118, 119, 120, 121, 122, 123, 124, 125, 126, 127, 128, 129, 130, 131, 132, 133, 134, 135, 136, 137, 138, 139, 140, 141, 142, 143, 144, 145, 146, 147, 148, 149, 150, 151, 152, 153, 154, 155, 156, 157, 158, 159, 160, 161, 162, 163, 164, 165, 166, 167, 168, 169, 170, 171, 172, 173, 174, 175, 176, 177, 178, 179, 180, 181, 182, 183, 184, 185, 186, 187, 188, 189, 190, 191, 192, 193, 194, 195, 196, 197, 198, 199, 200, 201, 202, 203, 204, 205, 206] (by decide +kernel) (by decide +kernel)) (goodIn_sub (fun _ h => List.mem_cons_of_mem _ (List.mem_append_left _ (List.mem_append_right _ h))) (by decide +kernel))) (goodIn_sub (fun _ h => List.mem_cons_of_mem _ (List.mem_append_right _ h)) (by decide +kernel))) (goodIn_sub (fun _ h => List.mem_cons_of_mem _ (List.mem_append_left _ (List.mem_append_left _ (List.mem_append_right _ h)))) (by decide +kernel))
set_option maxRecDepth 20000 in
theorem gL_referenceLength_X8_referenceLength : GoodIn wsL_referenceLength (wsV RL 106 RX8 yX8_referenceLength wsX8_referenceLength) := goodIn_app (goodIn_of _ (by decide +kernel)) ggL_referenceLength_X8_referenceLength
theorem dL_referenceLength_0 : decode cL_referenceLength 0 = .ok (.aload_n 2, 1) := by decide +kernel
theorem dL_referenceLength_1 : decode cL_referenceLength 1 = .ok (.iconst 0, 1) := by decide +kernel
theorem dL_referenceLength_2 : decode cL_referenceLength 2 = .ok (.aload_n 0, 1) := by decide +kernel
theorem dL_referenceLength_3 : decode cL_referenceLength 3 = .ok (.iload_n 1, 1) := by decide +kernel
theorem dL_referenceLength_4 : decode cL_referenceLength 4 = .ok (.invokevirtual 106, 3) := by decide +kernel
theorem dL_referenceLength_12 : decode cL_referenceLength 12 = .ok (.astore_n 3, 1) := by decide +kernel
theorem dL_referenceLength_13 : decode cL_referenceLength 13 = .ok (.iconst 1, 1) := by decide +kernel
theorem dL_referenceLength_14 : decode cL_referenceLength 14 = .ok (.ireturn, 1) := by decide +kernel
set_option maxRecDepth 20000 in
theorem ggL_referenceAt_X8_referenceAt : GoodIn wsL_referenceAt wsX8_referenceAt := goodIn_ca (goodIn_ca (goodIn_ca (goodIn_ca (goodIn_r _ [8, 9, 10, 11, 12, 13, 7, 14, 15, 16, 17, 18, 19, 20, 21, 22, 23, 24, 25, 26, 27, 28, 29, 30, 31, 32, 33, 34, 35, 36, 37, 38, 39, 40, 41, 42, 43, 44, 45, 46, 47, 48, 49, 50, 51, 52, 53, 54, 55, 56, 57, 58, 59, 60, 61, 62, 63, 64, 65, 66, 67, 68, 69, 70, 71, 72, 73, 74, 75, 76, 77, 78, 79, 80, 81, 82, 83, 84, 85, 86, 87, 88, 89, 90, 91, 92, 93, 94, 95, 96, 97, 98, 99, 100, 101, 102, 103, 104, 105, 106, 107, 108, 109, 110, 111, 112, 113, 114, 115, 116, 117, 118, 119, 120, 121, 122, 123, 124, 125, 126, 127, 128, 129, 130, 131, 132, 133, 134, 135, 136, 137, 138, 139, 140, 141, 142, 143, 144, 145, 146, 147, 148, 149, 150, 151, 152, 153, 154, 155, 156, 157, 158, 159, 160, 161, 162, 163, 164, 165, 166, 167, 168, 169, 170, 171, 172, 173, 174, 175, 176, 177, 178, 179, 180, 181, 182, 183, 184, 185, 186, 187, 188, 189, 190, 191, 192, 193, 194, 195, 196, 197, 198, 199, 200, 201, 202, 203, 204, 205, 206, 207, 208, 209, 210, 211, 212, 213, 214, 215, 216, 217, 218] (by decide +kernel) (by decide +kernel)) (goodIn_sub (fun _ h => List.mem_cons_of_mem _ (List.mem_append_left _ (List.mem_append_left _ (List.mem_append_right _ h)))) (by decide +kernel))) (goodIn_sub (fun _ h => List.mem_cons_of_mem _ (List.mem_append_left _ (List.mem_append_right _ h))) (by decide +kernel))) (goodIn_sub (fun _ h => List.mem_cons_of_mem _ (List.mem_append_left _ (List.mem_append_left _ (List.mem_append_left _ (List.mem_append_right _ h))))) (by decide +kernel))) (goodIn_sub (fun _ h => List.mem_cons_of_mem _ (List.mem_append_right _ h)) (by decide +kernel))
set_option maxRecDepth 20000 in
theorem gL_referenceAt_X8_referenceAt : GoodIn wsL_referenceAt (wsV RL 109 RX8 yX8_referenceAt wsX8_referenceAt) := goodIn_app (goodIn_of _ (by decide +kernel)) ggL_referenceAt_X8_referenceAt
theorem dL_referenceAt_0 : decode cL_referenceAt 0 = .ok (.aload_n 3, 1) := by decide +kernel
theorem dL_referenceAt_1 : decode cL_referenceAt 1 = .ok (.iconst 0, 1) := by decide +kernel
theorem dL_referenceAt_2 : decode cL_referenceAt 2 = .ok (.aload_n 0, 1) := by decide +kernel
theorem dL_referenceAt_3 : decode cL_referenceAt 3 = .ok (.iload_n 1, 1) := by decide +kernel
theorem dL_referenceAt_4 : decode cL_referenceAt 4 = .ok (.iload_n 2, 1) := by decide +kernel
theorem dL_referenceAt_5 : decode cL_referenceAt 5 = .ok (.invokevirtual 109, 3) := by decide +kernel
theorem dL_referenceAt_13 : decode cL_referenceAt 13 = .ok (.astore 4, 2) := by decide +kernel
theorem dL_referenceAt_15 : decode cL_referenceAt 15 = .ok (.iconst 1, 1) := by decide +kernel
theorem dL_referenceAt_16 : decode cL_referenceAt 16 = .ok (.ireturn, 1) := by decide +kernel
set_option maxRecDepth 20000 in
theorem ggL_count_X8_count : GoodIn wsL_count wsX8_count := goodIn_ca (goodIn_ca (goodIn_r _ [6, 7, 8, 9, 10, 11, 5, 12, 13, 14, 15, 16, 17, 18, 19, 20, 21, 22, 23, 24, 25, 26, 27, 28, 29, 30, 31, 32, 33, 34, 35, 36, 37, 38, 39, 40, 41, 42, 43, 44, 45, 46, 47, 48, 49, 50, 51, 52, 53, 54, 55, 56, 57, 58, 59, 60, 61, 62, 63, 64, 65, 66, 67, 68, 69, 70, 71, 72] (by decide +kernel) (by decide +kernel)) (goodIn_sub (fun _ h => List.mem_cons_of_mem _ (List.mem_append_right _ h)) (by decide +kernel))) (goodIn_sub (fun _ h => List.mem_cons_of_mem _ (List.mem_append_left _ (List.mem_append_right _ h))) (by decide +kernel))
set_option maxRecDepth 20000 in
theorem gL_count_X8_count : GoodIn wsL_count (wsV RL 112 RX8 yX8_count wsX8_count) := goodIn_app (goodIn_of _ (by decide +kernel)) ggL_count_X8_count
theorem dL_count_0 : decode cL_count 0 = .ok (.aload_n 2, 1) := by decide +kernel
theorem dL_count_1 : decode cL_count 1 = .ok (.iconst 0, 1) := by decide +kernel
theorem dL_count_2 : decode cL_count 2 = .ok (.aload_n 0, 1) := by decide +kernel
theorem dL_count_3 : decode cL_count 3 = .ok (.iload_n 1, 1) := by decide +kernel
theorem dL_count_4 : decode cL_count 4 = .ok (.invokevirtual 112, 3) := by decide +kernel
theorem dL_count_7 : decode cL_count 7 = .ok (.i2l, 1) := by decide +kernel
theorem dL_count_8 : decode cL_count 8 = .ok (.lastore, 1) := by decide +kernel
theorem dL_count_9 : decode cL_count 9 = .ok (.goto 6, 3) := by decide +kernel
theorem dL_count_12 : decode cL_count 12 = .ok (.astore_n 3, 1) := by decide +kernel
theorem dL_count_13 : decode cL_count 13 = .ok (.iconst 1, 1) := by decide +kernel
theorem dL_count_14 : decode cL_count 14 = .ok (.ireturn, 1) := by decide +kernel
theorem dL_count_15 : decode cL_count 15 = .ok (.iconst 0, 1) := by decide +kernel
theorem dL_count_16 : decode cL_count 16 = .ok (.ireturn, 1) := by decide +kernel
set_option maxRecDepth 20000 in
theorem ggL_frozenShare_X8_frozenShare : GoodIn wsL_frozenShare wsX8_frozenShare := goodIn_ca (goodIn_ca (goodIn_r _ [6, 7, 8, 9, 5, 10, 11, 12, 13, 14, 15, 16, 17, 18, 19, 20, 21, 22, 23, 24, 25, 26, 27, 28, 29, 30, 31, 32, 33, 34, 35, 36, 37, 38, 39, 40, 41, 42, 43, 44, 45, 46, 47, 48, 49, 50, 51, 52, 53, 54, 55, 56, 57, 58, 59, 60, 61, 62, 63, 64, 65, 66, 67, 68, 69, 70, 71, 72, 73, 74, 75, 76, 77, 78, 79, 80, 81, 82, 83, 84] (by decide +kernel) (by decide +kernel)) (goodIn_sub (fun _ h => List.mem_cons_of_mem _ (List.mem_append_right _ h)) (by decide +kernel))) (goodIn_sub (fun _ h => List.mem_cons_of_mem _ (List.mem_append_left _ (List.mem_append_right _ h))) (by decide +kernel))
set_option maxRecDepth 20000 in
theorem gL_frozenShare_X8_frozenShare : GoodIn wsL_frozenShare (wsV RL 116 RX8 yX8_frozenShare wsX8_frozenShare) := goodIn_app (goodIn_of _ (by decide +kernel)) ggL_frozenShare_X8_frozenShare
theorem dL_frozenShare_0 : decode cL_frozenShare 0 = .ok (.aload_n 1, 1) := by decide +kernel
theorem dL_frozenShare_1 : decode cL_frozenShare 1 = .ok (.iconst 0, 1) := by decide +kernel
theorem dL_frozenShare_2 : decode cL_frozenShare 2 = .ok (.aload_n 0, 1) := by decide +kernel
theorem dL_frozenShare_3 : decode cL_frozenShare 3 = .ok (.invokevirtual 116, 3) := by decide +kernel
theorem dL_frozenShare_11 : decode cL_frozenShare 11 = .ok (.astore_n 2, 1) := by decide +kernel
theorem dL_frozenShare_12 : decode cL_frozenShare 12 = .ok (.iconst 1, 1) := by decide +kernel
theorem dL_frozenShare_13 : decode cL_frozenShare 13 = .ok (.ireturn, 1) := by decide +kernel
set_option maxRecDepth 20000 in
theorem ggL_shareBits_X8_shareBits : GoodIn wsL_shareBits wsX8_shareBits := goodIn_ca (goodIn_ca (goodIn_r _ [6, 7, 8, 9, 5, 10, 11, 12, 13, 14, 15, 16, 17, 18, 19, 20, 21, 22, 23, 24, 25, 26, 27, 28, 29, 30, 31, 32, 33, 34, 35, 36, 37, 38, 39, 40, 41, 42, 43, 44, 45, 46, 47, 48, 49, 50, 51, 52, 53, 54, 55, 56, 57, 58, 59, 60, 61, 62, 63, 64, 65, 66, 67, 68, 69, 70, 71, 72, 73, 74, 75, 76, 77, 78, 79, 80, 81, 82, 83, 84, 85, 86, 87, 88] (by decide +kernel) (by decide +kernel)) (goodIn_sub (fun _ h => List.mem_cons_of_mem _ (List.mem_append_right _ h)) (by decide +kernel))) (goodIn_sub (fun _ h => List.mem_cons_of_mem _ (List.mem_append_left _ (List.mem_append_right _ h))) (by decide +kernel))
set_option maxRecDepth 20000 in
theorem gL_shareBits_X8_shareBits : GoodIn wsL_shareBits (wsV RL 122 RX8 yX8_shareBits wsX8_shareBits) := goodIn_app (goodIn_of _ (by decide +kernel)) ggL_shareBits_X8_shareBits
theorem dL_shareBits_0 : decode cL_shareBits 0 = .ok (.aload_n 1, 1) := by decide +kernel
theorem dL_shareBits_1 : decode cL_shareBits 1 = .ok (.iconst 0, 1) := by decide +kernel
theorem dL_shareBits_2 : decode cL_shareBits 2 = .ok (.aload_n 0, 1) := by decide +kernel
theorem dL_shareBits_3 : decode cL_shareBits 3 = .ok (.invokevirtual 122, 3) := by decide +kernel
theorem dL_shareBits_11 : decode cL_shareBits 11 = .ok (.astore_n 2, 1) := by decide +kernel
theorem dL_shareBits_12 : decode cL_shareBits 12 = .ok (.iconst 1, 1) := by decide +kernel
theorem dL_shareBits_13 : decode cL_shareBits 13 = .ok (.ireturn, 1) := by decide +kernel
set_option maxRecDepth 20000 in
theorem ggL_meanNumber_X8_meanNumber : GoodIn wsL_meanNumber wsX8_meanNumber := goodIn_ca (goodIn_ca (goodIn_ca (goodIn_r _ [7, 8, 9, 10, 11, 12, 6, 13, 14, 15, 16, 17, 18, 19, 20, 21, 22, 23, 24, 25, 26, 27, 28, 29, 30, 31, 32, 33, 34, 35, 36, 37, 38, 39, 40, 41, 42, 43, 44, 45, 46, 47, 48, 49, 50, 51, 52, 53, 54, 55, 56, 57, 58, 59, 60, 61, 62, 63, 64, 65, 66, 67, 68, 69, 70, 71, 72, 73, 74, 75, 76, 77, 78, 79] (by decide +kernel) (by decide +kernel)) (goodIn_sub (fun _ h => List.mem_cons_of_mem _ (List.mem_append_left _ (List.mem_append_right _ h))) (by decide +kernel))) (goodIn_sub (fun _ h => List.mem_cons_of_mem _ (List.mem_append_right _ h)) (by decide +kernel))) (goodIn_sub (fun _ h => List.mem_cons_of_mem _ (List.mem_append_left _ (List.mem_append_left _ (List.mem_append_right _ h)))) (by decide +kernel))
set_option maxRecDepth 20000 in
theorem gL_meanNumber_X8_meanNumber : GoodIn wsL_meanNumber (wsV RL 126 RX8 yX8_meanNumber wsX8_meanNumber) := goodIn_app (goodIn_of _ (by decide +kernel)) ggL_meanNumber_X8_meanNumber
theorem dL_meanNumber_0 : decode cL_meanNumber 0 = .ok (.aload_n 2, 1) := by decide +kernel
theorem dL_meanNumber_1 : decode cL_meanNumber 1 = .ok (.iconst 0, 1) := by decide +kernel
theorem dL_meanNumber_2 : decode cL_meanNumber 2 = .ok (.aload_n 0, 1) := by decide +kernel
theorem dL_meanNumber_3 : decode cL_meanNumber 3 = .ok (.iload_n 1, 1) := by decide +kernel
theorem dL_meanNumber_4 : decode cL_meanNumber 4 = .ok (.invokevirtual 126, 3) := by decide +kernel
theorem dL_meanNumber_11 : decode cL_meanNumber 11 = .ok (.astore_n 3, 1) := by decide +kernel
theorem dL_meanNumber_12 : decode cL_meanNumber 12 = .ok (.iconst 1, 1) := by decide +kernel
theorem dL_meanNumber_13 : decode cL_meanNumber 13 = .ok (.ireturn, 1) := by decide +kernel
theorem dL_meanNumber_14 : decode cL_meanNumber 14 = .ok (.astore_n 3, 1) := by decide +kernel
theorem dL_meanNumber_15 : decode cL_meanNumber 15 = .ok (.iconst 2, 1) := by decide +kernel
theorem dL_meanNumber_16 : decode cL_meanNumber 16 = .ok (.ireturn, 1) := by decide +kernel
