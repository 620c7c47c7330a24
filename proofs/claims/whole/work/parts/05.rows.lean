theorem dX9_takesOut_32 : decode cX9_takesOut 32 = .ok (.iaload, 1) := by decide +kernel
theorem dX9_takesOut_33 : decode cX9_takesOut 33 = .ok (.iastore, 1) := by decide +kernel
theorem dX9_takesOut_34 : decode cX9_takesOut 34 = .ok (.iinc 2 1, 3) := by decide +kernel
theorem dX9_takesOut_37 : decode cX9_takesOut 37 = .ok (.goto (-25), 3) := by decide +kernel
theorem dX9_takesOut_40 : decode cX9_takesOut 40 = .ok (.return_, 1) := by decide +kernel
set_option maxRecDepth 20000 in
theorem ggX9_insert_X9_isBetween : GoodIn wsX9_insert wsX9_isBetween := goodIn_r _ [8] (by decide +kernel) (by decide +kernel)
set_option maxRecDepth 20000 in
theorem gX9_insert_X9_isBetween : GoodIn wsX9_insert (va_wsS RX9 72 yX9_isBetween wsX9_isBetween) := goodIn_app (goodIn_of _ (by decide +kernel)) ggX9_insert_X9_isBetween
set_option maxRecDepth 20000 in
theorem ggX9_insert_X9_fails : GoodIn wsX9_insert wsX9_fails := goodIn_r _ [12, 1, 75, 76, 77, 78, 79, 80, 81, 82, 83, 84, 85, 86, 87, 88, 89, 90, 91, 92, 93, 94, 95, 96] (by decide +kernel) (by decide +kernel)
set_option maxRecDepth 20000 in
theorem gX9_insert_X9_fails : GoodIn wsX9_insert (wsV RX9 119 RX9 yX9_fails wsX9_fails) := goodIn_app (goodIn_of _ (by decide +kernel)) ggX9_insert_X9_fails
set_option maxRecDepth 20000 in
theorem ggX9_insert_X9_putsIn : GoodIn wsX9_insert wsX9_putsIn := goodIn_ca (goodIn_r _ [16, 2, 17, 75, 76, 77, 78, 79, 80, 81, 82, 83, 84, 85, 86, 87, 88, 89, 90, 91, 92, 93, 94, 95, 96] (by decide +kernel) (by decide +kernel)) (goodIn_sub (fun _ h => List.mem_cons_of_mem _ (List.mem_append_right _ h)) (by decide +kernel))
set_option maxRecDepth 20000 in
theorem gX9_insert_X9_putsIn : GoodIn wsX9_insert (wsV RX9 122 RX9 yX9_putsIn wsX9_putsIn) := goodIn_app (goodIn_of _ (by decide +kernel)) ggX9_insert_X9_putsIn
set_option maxRecDepth 20000 in
theorem ggX9_insert_X9_isParting : GoodIn wsX9_insert wsX9_isParting := goodIn_ca (goodIn_r _ [21, 2, 22, 17, 23, 24, 25, 26, 7, 27, 4, 75, 76, 77, 78, 79, 80, 81, 82, 83, 84, 85, 86, 87, 88, 89, 90, 91, 92, 93, 94, 95, 96] (by decide +kernel) (by decide +kernel)) (goodIn_sub (fun _ h => List.mem_cons_of_mem _ (List.mem_append_right _ h)) (by decide +kernel))
set_option maxRecDepth 20000 in
theorem gX9_insert_X9_isParting : GoodIn wsX9_insert (wsV RX9 126 RX9 yX9_isParting wsX9_isParting) := goodIn_app (goodIn_of _ (by decide +kernel)) ggX9_insert_X9_isParting
set_option maxRecDepth 20000 in
theorem ggX9_insert_X9_takesOut : GoodIn wsX9_insert wsX9_takesOut := goodIn_ca (goodIn_r _ [31, 2, 17, 75, 76, 77, 78, 79, 80, 81, 82, 83, 84, 85, 86, 87, 88, 89, 90, 91, 92, 93, 94, 95, 96] (by decide +kernel) (by decide +kernel)) (goodIn_sub (fun _ h => List.mem_cons_of_mem _ (List.mem_append_right _ h)) (by decide +kernel))
set_option maxRecDepth 20000 in
theorem gX9_insert_X9_takesOut : GoodIn wsX9_insert (wsV RX9 130 RX9 yX9_takesOut wsX9_takesOut) := goodIn_app (goodIn_of _ (by decide +kernel)) ggX9_insert_X9_takesOut
set_option maxRecDepth 20000 in
theorem ggX9_insert_X9_settles : GoodIn wsX9_insert wsX9_settles := goodIn_ca (goodIn_r _ [35, 2, 36, 17, 23, 4, 22, 24, 25, 26, 7, 27, 37, 38, 39, 40, 41, 42, 43, 44, 45, 46, 47, 48, 49, 50, 51, 52, 53, 54, 55, 56, 57, 58, 59, 60, 61, 62, 63, 64, 65, 66, 67, 68, 69, 70, 71, 72, 73, 74, 75, 76, 77, 78, 79, 80, 81, 82, 83, 84, 85, 86, 87, 88, 89, 90, 91, 92, 93, 94, 95, 96] (by decide +kernel) (by decide +kernel)) (goodIn_sub (fun _ h => List.mem_cons_of_mem _ (List.mem_append_right _ h)) (by decide +kernel))
set_option maxRecDepth 20000 in
theorem gX9_insert_X9_settles : GoodIn wsX9_insert (wsV RX9 133 RX9 yX9_settles wsX9_settles) := goodIn_app (goodIn_of _ (by decide +kernel)) ggX9_insert_X9_settles
theorem dX9_insert_0 : decode cX9_insert 0 = .ok (.aload_n 0, 1) := by decide +kernel
theorem dX9_insert_1 : decode cX9_insert 1 = .ok (.iconst 0, 1) := by decide +kernel
theorem dX9_insert_2 : decode cX9_insert 2 = .ok (.putfield 65, 3) := by decide +kernel
theorem dX9_insert_5 : decode cX9_insert 5 = .ok (.iload_n 1, 1) := by decide +kernel
theorem dX9_insert_6 : decode cX9_insert 6 = .ok (.iconst 0, 1) := by decide +kernel
theorem dX9_insert_7 : decode cX9_insert 7 = .ok (.aload_n 0, 1) := by decide +kernel
theorem dX9_insert_8 : decode cX9_insert 8 = .ok (.getfield 91, 3) := by decide +kernel
theorem dX9_insert_11 : decode cX9_insert 11 = .ok (.invokestatic 72, 3) := by decide +kernel
theorem dX9_insert_14 : decode cX9_insert 14 = .ok (.ifCond .eq 12, 3) := by decide +kernel
theorem dX9_insert_17 : decode cX9_insert 17 = .ok (.iload_n 2, 1) := by decide +kernel
theorem dX9_insert_18 : decode cX9_insert 18 = .ok (.iconst 0, 1) := by decide +kernel
theorem dX9_insert_19 : decode cX9_insert 19 = .ok (.iconst 4, 1) := by decide +kernel
theorem dX9_insert_20 : decode cX9_insert 20 = .ok (.invokestatic 72, 3) := by decide +kernel
theorem dX9_insert_23 : decode cX9_insert 23 = .ok (.ifCond .ne 9, 3) := by decide +kernel
theorem dX9_insert_26 : decode cX9_insert 26 = .ok (.aload_n 0, 1) := by decide +kernel
theorem dX9_insert_27 : decode cX9_insert 27 = .ok (.iconst 1, 1) := by decide +kernel
theorem dX9_insert_28 : decode cX9_insert 28 = .ok (.invokevirtual 119, 3) := by decide +kernel
theorem dX9_insert_31 : decode cX9_insert 31 = .ok (.ireturn, 1) := by decide +kernel
theorem dX9_insert_32 : decode cX9_insert 32 = .ok (.aload_n 0, 1) := by decide +kernel
theorem dX9_insert_33 : decode cX9_insert 33 = .ok (.getfield 69, 3) := by decide +kernel
theorem dX9_insert_36 : decode cX9_insert 36 = .ok (.bipush 60, 2) := by decide +kernel
theorem dX9_insert_38 : decode cX9_insert 38 = .ok (.if_icmp .ne 9, 3) := by decide +kernel
theorem dX9_insert_41 : decode cX9_insert 41 = .ok (.aload_n 0, 1) := by decide +kernel
theorem dX9_insert_42 : decode cX9_insert 42 = .ok (.iconst 2, 1) := by decide +kernel
theorem dX9_insert_43 : decode cX9_insert 43 = .ok (.invokevirtual 119, 3) := by decide +kernel
theorem dX9_insert_46 : decode cX9_insert 46 = .ok (.ireturn, 1) := by decide +kernel
theorem dX9_insert_47 : decode cX9_insert 47 = .ok (.aload_n 0, 1) := by decide +kernel
theorem dX9_insert_48 : decode cX9_insert 48 = .ok (.getfield 9, 3) := by decide +kernel
theorem dX9_insert_51 : decode cX9_insert 51 = .ok (.aload_n 0, 1) := by decide +kernel
theorem dX9_insert_52 : decode cX9_insert 52 = .ok (.getfield 69, 3) := by decide +kernel
theorem dX9_insert_55 : decode cX9_insert 55 = .ok (.iload_n 2, 1) := by decide +kernel
theorem dX9_insert_56 : decode cX9_insert 56 = .ok (.iastore, 1) := by decide +kernel
theorem dX9_insert_57 : decode cX9_insert 57 = .ok (.aload_n 0, 1) := by decide +kernel
theorem dX9_insert_58 : decode cX9_insert 58 = .ok (.aload_n 0, 1) := by decide +kernel
theorem dX9_insert_59 : decode cX9_insert 59 = .ok (.getfield 69, 3) := by decide +kernel
theorem dX9_insert_62 : decode cX9_insert 62 = .ok (.iload_n 1, 1) := by decide +kernel
theorem dX9_insert_63 : decode cX9_insert 63 = .ok (.invokevirtual 122, 3) := by decide +kernel
theorem dX9_insert_66 : decode cX9_insert 66 = .ok (.aload_n 0, 1) := by decide +kernel
theorem dX9_insert_67 : decode cX9_insert 67 = .ok (.invokevirtual 126, 3) := by decide +kernel
theorem dX9_insert_70 : decode cX9_insert 70 = .ok (.ifCond .eq 14, 3) := by decide +kernel
theorem dX9_insert_73 : decode cX9_insert 73 = .ok (.aload_n 0, 1) := by decide +kernel
theorem dX9_insert_74 : decode cX9_insert 74 = .ok (.iload_n 1, 1) := by decide +kernel
theorem dX9_insert_75 : decode cX9_insert 75 = .ok (.invokevirtual 130, 3) := by decide +kernel
theorem dX9_insert_78 : decode cX9_insert 78 = .ok (.aload_n 0, 1) := by decide +kernel
theorem dX9_insert_79 : decode cX9_insert 79 = .ok (.iconst 3, 1) := by decide +kernel
theorem dX9_insert_80 : decode cX9_insert 80 = .ok (.invokevirtual 119, 3) := by decide +kernel
theorem dX9_insert_83 : decode cX9_insert 83 = .ok (.ireturn, 1) := by decide +kernel
theorem dX9_insert_84 : decode cX9_insert 84 = .ok (.aload_n 0, 1) := by decide +kernel
theorem dX9_insert_85 : decode cX9_insert 85 = .ok (.dup, 1) := by decide +kernel
theorem dX9_insert_86 : decode cX9_insert 86 = .ok (.getfield 69, 3) := by decide +kernel
theorem dX9_insert_89 : decode cX9_insert 89 = .ok (.iconst 1, 1) := by decide +kernel
theorem dX9_insert_90 : decode cX9_insert 90 = .ok (.iadd, 1) := by decide +kernel
theorem dX9_insert_91 : decode cX9_insert 91 = .ok (.putfield 69, 3) := by decide +kernel
theorem dX9_insert_94 : decode cX9_insert 94 = .ok (.aload_n 0, 1) := by decide +kernel
theorem dX9_insert_95 : decode cX9_insert 95 = .ok (.invokevirtual 133, 3) := by decide +kernel
theorem dX9_insert_98 : decode cX9_insert 98 = .ok (.aload_n 0, 1) := by decide +kernel
theorem dX9_insert_99 : decode cX9_insert 99 = .ok (.getfield 69, 3) := by decide +kernel
theorem dX9_insert_102 : decode cX9_insert 102 = .ok (.iconst 1, 1) := by decide +kernel
theorem dX9_insert_103 : decode cX9_insert 103 = .ok (.isub, 1) := by decide +kernel
theorem dX9_insert_104 : decode cX9_insert 104 = .ok (.ireturn, 1) := by decide +kernel
set_option maxRecDepth 20000 in
theorem ggX9_move_X9_isGone : GoodIn wsX9_move wsX9_isGone := goodIn_ca (goodIn_r _ [8, 9, 10, 11, 12, 7, 13, 14, 3, 15, 16, 17, 83, 84, 85, 86, 87, 88, 89, 90, 91, 92, 93, 94, 95, 96, 97, 98, 99, 100, 101, 102, 103, 104] (by decide +kernel) (by decide +kernel)) (goodIn_sub (fun _ h => List.mem_cons_of_mem _ (List.mem_append_right _ h)) (by decide +kernel))
set_option maxRecDepth 20000 in
theorem gX9_move_X9_isGone : GoodIn wsX9_move (wsV RX9 80 RX9 yX9_isGone wsX9_isGone) := goodIn_app (goodIn_of _ (by decide +kernel)) ggX9_move_X9_isGone
set_option maxRecDepth 20000 in
theorem ggX9_move_X9_isBetween : GoodIn wsX9_move wsX9_isBetween := goodIn_r _ [17] (by decide +kernel) (by decide +kernel)
set_option maxRecDepth 20000 in
theorem gX9_move_X9_isBetween : GoodIn wsX9_move (va_wsS RX9 72 yX9_isBetween wsX9_isBetween) := goodIn_app (goodIn_of _ (by decide +kernel)) ggX9_move_X9_isBetween
set_option maxRecDepth 20000 in
theorem ggX9_move_X9_fails : GoodIn wsX9_move wsX9_fails := goodIn_r _ [21, 9, 83, 84, 85, 86, 87, 88, 89, 90, 91, 92, 93, 94, 95, 96, 97, 98, 99, 100, 101, 102, 103, 104] (by decide +kernel) (by decide +kernel)
set_option maxRecDepth 20000 in
theorem gX9_move_X9_fails : GoodIn wsX9_move (wsV RX9 119 RX9 yX9_fails wsX9_fails) := goodIn_app (goodIn_of _ (by decide +kernel)) ggX9_move_X9_fails
set_option maxRecDepth 20000 in
theorem ggX9_move_X9_takesOut : GoodIn wsX9_move wsX9_takesOut := goodIn_ca (goodIn_r _ [25, 1, 26, 83, 84, 85, 86, 87, 88, 89, 90, 91, 92, 93, 94, 95, 96, 97, 98, 99, 100, 101, 102, 103, 104] (by decide +kernel) (by decide +kernel)) (goodIn_sub (fun _ h => List.mem_cons_of_mem _ (List.mem_append_right _ h)) (by decide +kernel))
set_option maxRecDepth 20000 in
theorem gX9_move_X9_takesOut : GoodIn wsX9_move (wsV RX9 130 RX9 yX9_takesOut wsX9_takesOut) := goodIn_app (goodIn_of _ (by decide +kernel)) ggX9_move_X9_takesOut
set_option maxRecDepth 20000 in
theorem ggX9_move_X9_putsIn : GoodIn wsX9_move wsX9_putsIn := goodIn_ca (goodIn_r _ [30, 1, 26, 83, 84, 85, 86, 87, 88, 89, 90, 91, 92, 93, 94, 95, 96, 97, 98, 99, 100, 101, 102, 103, 104] (by decide +kernel) (by decide +kernel)) (goodIn_sub (fun _ h => List.mem_cons_of_mem _ (List.mem_append_right _ h)) (by decide +kernel))
set_option maxRecDepth 20000 in
theorem gX9_move_X9_putsIn : GoodIn wsX9_move (wsV RX9 122 RX9 yX9_putsIn wsX9_putsIn) := goodIn_app (goodIn_of _ (by decide +kernel)) ggX9_move_X9_putsIn
set_option maxRecDepth 20000 in
theorem ggX9_move_X9_isParting : GoodIn wsX9_move wsX9_isParting := goodIn_ca (goodIn_r _ [34, 1, 2, 26, 35, 36, 37, 38, 7, 39, 40, 83, 84, 85, 86, 87, 88, 89, 90, 91, 92, 93, 94, 95, 96, 97, 98, 99, 100, 101, 102, 103, 104] (by decide +kernel) (by decide +kernel)) (goodIn_sub (fun _ h => List.mem_cons_of_mem _ (List.mem_append_right _ h)) (by decide +kernel))
set_option maxRecDepth 20000 in
theorem gX9_move_X9_isParting : GoodIn wsX9_move (wsV RX9 126 RX9 yX9_isParting wsX9_isParting) := goodIn_app (goodIn_of _ (by decide +kernel)) ggX9_move_X9_isParting
set_option maxRecDepth 20000 in
theorem ggX9_move_X9_settles : GoodIn wsX9_move wsX9_settles := goodIn_ca (goodIn_r _ [44, 1, 3, 26, 35, 40, 2, 36, 37, 38, 7, 39, 45, 46, 47, 48, 49, 50, 51, 52, 53, 54, 55, 56, 57, 58, 59, 60, 61, 62, 63, 64, 65, 66, 67, 68, 69, 70, 71, 72, 73, 74, 75, 76, 77, 78, 79, 80, 81, 82, 83, 84, 85, 86, 87, 88, 89, 90, 91, 92, 93, 94, 95, 96, 97, 98, 99, 100, 101, 102, 103, 104] (by decide +kernel) (by decide +kernel)) (goodIn_sub (fun _ h => List.mem_cons_of_mem _ (List.mem_append_right _ h)) (by decide +kernel))
set_option maxRecDepth 20000 in
theorem gX9_move_X9_settles : GoodIn wsX9_move (wsV RX9 133 RX9 yX9_settles wsX9_settles) := goodIn_app (goodIn_of _ (by decide +kernel)) ggX9_move_X9_settles
theorem dX9_move_0 : decode cX9_move 0 = .ok (.aload_n 0, 1) := by decide +kernel
theorem dX9_move_1 : decode cX9_move 1 = .ok (.iload_n 1, 1) := by decide +kernel
theorem dX9_move_2 : decode cX9_move 2 = .ok (.invokevirtual 80, 3) := by decide +kernel
theorem dX9_move_5 : decode cX9_move 5 = .ok (.ifCond .eq 5, 3) := by decide +kernel
theorem dX9_move_8 : decode cX9_move 8 = .ok (.iconst 0, 1) := by decide +kernel
theorem dX9_move_9 : decode cX9_move 9 = .ok (.ireturn, 1) := by decide +kernel
theorem dX9_move_10 : decode cX9_move 10 = .ok (.iload_n 2, 1) := by decide +kernel
theorem dX9_move_11 : decode cX9_move 11 = .ok (.iconst 0, 1) := by decide +kernel
theorem dX9_move_12 : decode cX9_move 12 = .ok (.aload_n 0, 1) := by decide +kernel
theorem dX9_move_13 : decode cX9_move 13 = .ok (.getfield 91, 3) := by decide +kernel
theorem dX9_move_16 : decode cX9_move 16 = .ok (.iconst 1, 1) := by decide +kernel
theorem dX9_move_17 : decode cX9_move 17 = .ok (.isub, 1) := by decide +kernel
theorem dX9_move_18 : decode cX9_move 18 = .ok (.invokestatic 72, 3) := by decide +kernel
theorem dX9_move_21 : decode cX9_move 21 = .ok (.ifCond .ne 9, 3) := by decide +kernel
theorem dX9_move_24 : decode cX9_move 24 = .ok (.aload_n 0, 1) := by decide +kernel
theorem dX9_move_25 : decode cX9_move 25 = .ok (.iconst 2, 1) := by decide +kernel
theorem dX9_move_26 : decode cX9_move 26 = .ok (.invokevirtual 119, 3) := by decide +kernel
theorem dX9_move_29 : decode cX9_move 29 = .ok (.ireturn, 1) := by decide +kernel
theorem dX9_move_30 : decode cX9_move 30 = .ok (.aload_n 0, 1) := by decide +kernel
theorem dX9_move_31 : decode cX9_move 31 = .ok (.getfield 34, 3) := by decide +kernel
theorem dX9_move_34 : decode cX9_move 34 = .ok (.iload_n 1, 1) := by decide +kernel
theorem dX9_move_35 : decode cX9_move 35 = .ok (.baload, 1) := by decide +kernel
theorem dX9_move_36 : decode cX9_move 36 = .ok (.ifCond .eq 9, 3) := by decide +kernel
theorem dX9_move_39 : decode cX9_move 39 = .ok (.aload_n 0, 1) := by decide +kernel
theorem dX9_move_40 : decode cX9_move 40 = .ok (.iconst 3, 1) := by decide +kernel
theorem dX9_move_41 : decode cX9_move 41 = .ok (.invokevirtual 119, 3) := by decide +kernel
theorem dX9_move_44 : decode cX9_move 44 = .ok (.ireturn, 1) := by decide +kernel
theorem dX9_move_45 : decode cX9_move 45 = .ok (.aload_n 0, 1) := by decide +kernel
theorem dX9_move_46 : decode cX9_move 46 = .ok (.getfield 28, 3) := by decide +kernel
theorem dX9_move_49 : decode cX9_move 49 = .ok (.iload_n 1, 1) := by decide +kernel
theorem dX9_move_50 : decode cX9_move 50 = .ok (.iaload, 1) := by decide +kernel
theorem dX9_move_51 : decode cX9_move 51 = .ok (.istore_n 3, 1) := by decide +kernel
theorem dX9_move_52 : decode cX9_move 52 = .ok (.aload_n 0, 1) := by decide +kernel
theorem dX9_move_53 : decode cX9_move 53 = .ok (.iload_n 3, 1) := by decide +kernel
theorem dX9_move_54 : decode cX9_move 54 = .ok (.invokevirtual 130, 3) := by decide +kernel
theorem dX9_move_57 : decode cX9_move 57 = .ok (.aload_n 0, 1) := by decide +kernel
theorem dX9_move_58 : decode cX9_move 58 = .ok (.iload_n 1, 1) := by decide +kernel
theorem dX9_move_59 : decode cX9_move 59 = .ok (.iload_n 2, 1) := by decide +kernel
theorem dX9_move_60 : decode cX9_move 60 = .ok (.invokevirtual 122, 3) := by decide +kernel
theorem dX9_move_63 : decode cX9_move 63 = .ok (.aload_n 0, 1) := by decide +kernel
theorem dX9_move_64 : decode cX9_move 64 = .ok (.invokevirtual 126, 3) := by decide +kernel
theorem dX9_move_67 : decode cX9_move 67 = .ok (.ifCond .eq 20, 3) := by decide +kernel
theorem dX9_move_70 : decode cX9_move 70 = .ok (.aload_n 0, 1) := by decide +kernel
theorem dX9_move_71 : decode cX9_move 71 = .ok (.iload_n 2, 1) := by decide +kernel
theorem dX9_move_72 : decode cX9_move 72 = .ok (.invokevirtual 130, 3) := by decide +kernel
theorem dX9_move_75 : decode cX9_move 75 = .ok (.aload_n 0, 1) := by decide +kernel
theorem dX9_move_76 : decode cX9_move 76 = .ok (.iload_n 1, 1) := by decide +kernel
theorem dX9_move_77 : decode cX9_move 77 = .ok (.iload_n 3, 1) := by decide +kernel
theorem dX9_move_78 : decode cX9_move 78 = .ok (.invokevirtual 122, 3) := by decide +kernel
theorem dX9_move_81 : decode cX9_move 81 = .ok (.aload_n 0, 1) := by decide +kernel
theorem dX9_move_82 : decode cX9_move 82 = .ok (.iconst 3, 1) := by decide +kernel
theorem dX9_move_83 : decode cX9_move 83 = .ok (.invokevirtual 119, 3) := by decide +kernel
theorem dX9_move_86 : decode cX9_move 86 = .ok (.ireturn, 1) := by decide +kernel
theorem dX9_move_87 : decode cX9_move 87 = .ok (.aload_n 0, 1) := by decide +kernel
theorem dX9_move_88 : decode cX9_move 88 = .ok (.invokevirtual 133, 3) := by decide +kernel
theorem dX9_move_91 : decode cX9_move 91 = .ok (.iload_n 3, 1) := by decide +kernel
theorem dX9_move_92 : decode cX9_move 92 = .ok (.ireturn, 1) := by decide +kernel
set_option maxRecDepth 20000 in
theorem ggX9_setLevel_X9_isGone : GoodIn wsX9_setLevel wsX9_isGone := goodIn_ca (goodIn_r _ [7, 8, 9, 10, 11, 6, 12, 13, 14, 15, 16, 17, 75, 76, 77, 78, 79, 80, 81, 82, 83, 84, 85, 86, 87, 88, 89, 90, 91, 92, 93, 94, 95, 96] (by decide +kernel) (by decide +kernel)) (goodIn_sub (fun _ h => List.mem_cons_of_mem _ (List.mem_append_right _ h)) (by decide +kernel))
set_option maxRecDepth 20000 in
theorem gX9_setLevel_X9_isGone : GoodIn wsX9_setLevel (wsV RX9 80 RX9 yX9_isGone wsX9_isGone) := goodIn_app (goodIn_of _ (by decide +kernel)) ggX9_setLevel_X9_isGone
set_option maxRecDepth 20000 in
theorem ggX9_setLevel_X9_isBetween : GoodIn wsX9_setLevel wsX9_isBetween := goodIn_r _ [17] (by decide +kernel) (by decide +kernel)
set_option maxRecDepth 20000 in
theorem gX9_setLevel_X9_isBetween : GoodIn wsX9_setLevel (va_wsS RX9 72 yX9_isBetween wsX9_isBetween) := goodIn_app (goodIn_of _ (by decide +kernel)) ggX9_setLevel_X9_isBetween
set_option maxRecDepth 20000 in
theorem ggX9_setLevel_X9_fails : GoodIn wsX9_setLevel wsX9_fails := goodIn_r _ [21, 8, 75, 76, 77, 78, 79, 80, 81, 82, 83, 84, 85, 86, 87, 88, 89, 90, 91, 92, 93, 94, 95, 96] (by decide +kernel) (by decide +kernel)
set_option maxRecDepth 20000 in
theorem gX9_setLevel_X9_fails : GoodIn wsX9_setLevel (wsV RX9 119 RX9 yX9_fails wsX9_fails) := goodIn_app (goodIn_of _ (by decide +kernel)) ggX9_setLevel_X9_fails
set_option maxRecDepth 20000 in
theorem ggX9_setLevel_X9_isParting : GoodIn wsX9_setLevel wsX9_isParting := goodIn_ca (goodIn_r _ [25, 26, 1, 27, 28, 29, 30, 31, 6, 32, 2, 75, 76, 77, 78, 79, 80, 81, 82, 83, 84, 85, 86, 87, 88, 89, 90, 91, 92, 93, 94, 95, 96] (by decide +kernel) (by decide +kernel)) (goodIn_sub (fun _ h => List.mem_cons_of_mem _ (List.mem_append_right _ h)) (by decide +kernel))
set_option maxRecDepth 20000 in
theorem gX9_setLevel_X9_isParting : GoodIn wsX9_setLevel (wsV RX9 126 RX9 yX9_isParting wsX9_isParting) := goodIn_app (goodIn_of _ (by decide +kernel)) ggX9_setLevel_X9_isParting
set_option maxRecDepth 20000 in
theorem ggX9_setLevel_X9_settles : GoodIn wsX9_setLevel wsX9_settles := goodIn_ca (goodIn_r _ [36, 26, 14, 27, 28, 2, 1, 29, 30, 31, 6, 32, 37, 38, 39, 40, 41, 42, 43, 44, 45, 46, 47, 48, 49, 50, 51, 52, 53, 54, 55, 56, 57, 58, 59, 60, 61, 62, 63, 64, 65, 66, 67, 68, 69, 70, 71, 72, 73, 74, 75, 76, 77, 78, 79, 80, 81, 82, 83, 84, 85, 86, 87, 88, 89, 90, 91, 92, 93, 94, 95, 96] (by decide +kernel) (by decide +kernel)) (goodIn_sub (fun _ h => List.mem_cons_of_mem _ (List.mem_append_right _ h)) (by decide +kernel))
set_option maxRecDepth 20000 in
theorem gX9_setLevel_X9_settles : GoodIn wsX9_setLevel (wsV RX9 133 RX9 yX9_settles wsX9_settles) := goodIn_app (goodIn_of _ (by decide +kernel)) ggX9_setLevel_X9_settles
theorem dX9_setLevel_0 : decode cX9_setLevel 0 = .ok (.aload_n 0, 1) := by decide +kernel
theorem dX9_setLevel_1 : decode cX9_setLevel 1 = .ok (.iload_n 1, 1) := by decide +kernel
theorem dX9_setLevel_2 : decode cX9_setLevel 2 = .ok (.invokevirtual 80, 3) := by decide +kernel
theorem dX9_setLevel_5 : decode cX9_setLevel 5 = .ok (.ifCond .eq 5, 3) := by decide +kernel
theorem dX9_setLevel_8 : decode cX9_setLevel 8 = .ok (.iconst 0, 1) := by decide +kernel
theorem dX9_setLevel_9 : decode cX9_setLevel 9 = .ok (.ireturn, 1) := by decide +kernel
theorem dX9_setLevel_10 : decode cX9_setLevel 10 = .ok (.iload_n 2, 1) := by decide +kernel
theorem dX9_setLevel_11 : decode cX9_setLevel 11 = .ok (.iconst 0, 1) := by decide +kernel
theorem dX9_setLevel_12 : decode cX9_setLevel 12 = .ok (.iconst 4, 1) := by decide +kernel
theorem dX9_setLevel_13 : decode cX9_setLevel 13 = .ok (.invokestatic 72, 3) := by decide +kernel
theorem dX9_setLevel_16 : decode cX9_setLevel 16 = .ok (.ifCond .ne 9, 3) := by decide +kernel
theorem dX9_setLevel_19 : decode cX9_setLevel 19 = .ok (.aload_n 0, 1) := by decide +kernel
theorem dX9_setLevel_20 : decode cX9_setLevel 20 = .ok (.iconst 2, 1) := by decide +kernel
theorem dX9_setLevel_21 : decode cX9_setLevel 21 = .ok (.invokevirtual 119, 3) := by decide +kernel
theorem dX9_setLevel_24 : decode cX9_setLevel 24 = .ok (.ireturn, 1) := by decide +kernel
theorem dX9_setLevel_25 : decode cX9_setLevel 25 = .ok (.aload_n 0, 1) := by decide +kernel
theorem dX9_setLevel_26 : decode cX9_setLevel 26 = .ok (.getfield 34, 3) := by decide +kernel
theorem dX9_setLevel_29 : decode cX9_setLevel 29 = .ok (.iload_n 1, 1) := by decide +kernel
theorem dX9_setLevel_30 : decode cX9_setLevel 30 = .ok (.baload, 1) := by decide +kernel
theorem dX9_setLevel_31 : decode cX9_setLevel 31 = .ok (.ifCond .eq 9, 3) := by decide +kernel
theorem dX9_setLevel_34 : decode cX9_setLevel 34 = .ok (.aload_n 0, 1) := by decide +kernel
theorem dX9_setLevel_35 : decode cX9_setLevel 35 = .ok (.iconst 3, 1) := by decide +kernel
theorem dX9_setLevel_36 : decode cX9_setLevel 36 = .ok (.invokevirtual 119, 3) := by decide +kernel
theorem dX9_setLevel_39 : decode cX9_setLevel 39 = .ok (.ireturn, 1) := by decide +kernel
theorem dX9_setLevel_40 : decode cX9_setLevel 40 = .ok (.aload_n 0, 1) := by decide +kernel
theorem dX9_setLevel_41 : decode cX9_setLevel 41 = .ok (.getfield 9, 3) := by decide +kernel
theorem dX9_setLevel_44 : decode cX9_setLevel 44 = .ok (.iload_n 1, 1) := by decide +kernel
theorem dX9_setLevel_45 : decode cX9_setLevel 45 = .ok (.iaload, 1) := by decide +kernel
theorem dX9_setLevel_46 : decode cX9_setLevel 46 = .ok (.istore_n 3, 1) := by decide +kernel
theorem dX9_setLevel_47 : decode cX9_setLevel 47 = .ok (.aload_n 0, 1) := by decide +kernel
theorem dX9_setLevel_48 : decode cX9_setLevel 48 = .ok (.getfield 9, 3) := by decide +kernel
theorem dX9_setLevel_51 : decode cX9_setLevel 51 = .ok (.iload_n 1, 1) := by decide +kernel
theorem dX9_setLevel_52 : decode cX9_setLevel 52 = .ok (.iload_n 2, 1) := by decide +kernel
theorem dX9_setLevel_53 : decode cX9_setLevel 53 = .ok (.iastore, 1) := by decide +kernel
theorem dX9_setLevel_54 : decode cX9_setLevel 54 = .ok (.aload_n 0, 1) := by decide +kernel
theorem dX9_setLevel_55 : decode cX9_setLevel 55 = .ok (.invokevirtual 126, 3) := by decide +kernel
theorem dX9_setLevel_58 : decode cX9_setLevel 58 = .ok (.ifCond .eq 16, 3) := by decide +kernel
theorem dX9_setLevel_61 : decode cX9_setLevel 61 = .ok (.aload_n 0, 1) := by decide +kernel
theorem dX9_setLevel_62 : decode cX9_setLevel 62 = .ok (.getfield 9, 3) := by decide +kernel
theorem dX9_setLevel_65 : decode cX9_setLevel 65 = .ok (.iload_n 1, 1) := by decide +kernel
theorem dX9_setLevel_66 : decode cX9_setLevel 66 = .ok (.iload_n 3, 1) := by decide +kernel
theorem dX9_setLevel_67 : decode cX9_setLevel 67 = .ok (.iastore, 1) := by decide +kernel
theorem dX9_setLevel_68 : decode cX9_setLevel 68 = .ok (.aload_n 0, 1) := by decide +kernel
theorem dX9_setLevel_69 : decode cX9_setLevel 69 = .ok (.iconst 3, 1) := by decide +kernel
theorem dX9_setLevel_70 : decode cX9_setLevel 70 = .ok (.invokevirtual 119, 3) := by decide +kernel
theorem dX9_setLevel_73 : decode cX9_setLevel 73 = .ok (.ireturn, 1) := by decide +kernel
theorem dX9_setLevel_74 : decode cX9_setLevel 74 = .ok (.aload_n 0, 1) := by decide +kernel
theorem dX9_setLevel_75 : decode cX9_setLevel 75 = .ok (.invokevirtual 133, 3) := by decide +kernel
theorem dX9_setLevel_78 : decode cX9_setLevel 78 = .ok (.iload_n 3, 1) := by decide +kernel
theorem dX9_setLevel_79 : decode cX9_setLevel 79 = .ok (.ireturn, 1) := by decide +kernel
set_option maxRecDepth 20000 in
theorem ggX9_remove_X9_isGone : GoodIn wsX9_remove wsX9_isGone := goodIn_ca (goodIn_r _ [7, 8, 9, 10, 11, 6, 12, 13, 1, 14, 15, 16, 83, 84, 85, 86, 87, 88, 89, 90, 91, 92, 93, 94, 95, 96, 97, 98, 99, 100, 101, 102, 103, 104] (by decide +kernel) (by decide +kernel)) (goodIn_sub (fun _ h => List.mem_cons_of_mem _ (List.mem_append_right _ h)) (by decide +kernel))
set_option maxRecDepth 20000 in
theorem gX9_remove_X9_isGone : GoodIn wsX9_remove (wsV RX9 80 RX9 yX9_isGone wsX9_isGone) := goodIn_app (goodIn_of _ (by decide +kernel)) ggX9_remove_X9_isGone
set_option maxRecDepth 20000 in
theorem ggX9_remove_X9_takesOut : GoodIn wsX9_remove wsX9_takesOut := goodIn_ca (goodIn_r _ [20, 2, 21, 83, 84, 85, 86, 87, 88, 89, 90, 91, 92, 93, 94, 95, 96, 97, 98, 99, 100, 101, 102, 103, 104] (by decide +kernel) (by decide +kernel)) (goodIn_sub (fun _ h => List.mem_cons_of_mem _ (List.mem_append_right _ h)) (by decide +kernel))
set_option maxRecDepth 20000 in
theorem gX9_remove_X9_takesOut : GoodIn wsX9_remove (wsV RX9 130 RX9 yX9_takesOut wsX9_takesOut) := goodIn_app (goodIn_of _ (by decide +kernel)) ggX9_remove_X9_takesOut
set_option maxRecDepth 20000 in
theorem ggX9_remove_X9_isParting : GoodIn wsX9_remove wsX9_isParting := goodIn_ca (goodIn_r _ [25, 2, 26, 21, 27, 28, 29, 30, 6, 31, 32, 83, 84, 85, 86, 87, 88, 89, 90, 91, 92, 93, 94, 95, 96, 97, 98, 99, 100, 101, 102, 103, 104] (by decide +kernel) (by decide +kernel)) (goodIn_sub (fun _ h => List.mem_cons_of_mem _ (List.mem_append_right _ h)) (by decide +kernel))
set_option maxRecDepth 20000 in
theorem gX9_remove_X9_isParting : GoodIn wsX9_remove (wsV RX9 126 RX9 yX9_isParting wsX9_isParting) := goodIn_app (goodIn_of _ (by decide +kernel)) ggX9_remove_X9_isParting
set_option maxRecDepth 20000 in
theorem ggX9_remove_X9_putsIn : GoodIn wsX9_remove wsX9_putsIn := goodIn_ca (goodIn_r _ [36, 2, 21, 83, 84, 85, 86, 87, 88, 89, 90, 91, 92, 93, 94, 95, 96, 97, 98, 99, 100, 101, 102, 103, 104] (by decide +kernel) (by decide +kernel)) (goodIn_sub (fun _ h => List.mem_cons_of_mem _ (List.mem_append_right _ h)) (by decide +kernel))
set_option maxRecDepth 20000 in
theorem gX9_remove_X9_putsIn : GoodIn wsX9_remove (wsV RX9 122 RX9 yX9_putsIn wsX9_putsIn) := goodIn_app (goodIn_of _ (by decide +kernel)) ggX9_remove_X9_putsIn
set_option maxRecDepth 20000 in
theorem ggX9_remove_X9_fails : GoodIn wsX9_remove wsX9_fails := goodIn_r _ [40, 8, 83, 84, 85, 86, 87, 88, 89, 90, 91, 92, 93, 94, 95, 96, 97, 98, 99, 100, 101, 102, 103, 104] (by decide +kernel) (by decide +kernel)
set_option maxRecDepth 20000 in
theorem gX9_remove_X9_fails : GoodIn wsX9_remove (wsV RX9 119 RX9 yX9_fails wsX9_fails) := goodIn_app (goodIn_of _ (by decide +kernel)) ggX9_remove_X9_fails
set_option maxRecDepth 20000 in
theorem ggX9_remove_X9_settles : GoodIn wsX9_remove wsX9_settles := goodIn_ca (goodIn_r _ [44, 2, 1, 21, 27, 32, 26, 28, 29, 30, 6, 31, 45, 46, 47, 48, 49, 50, 51, 52, 53, 54, 55, 56, 57, 58, 59, 60, 61, 62, 63, 64, 65, 66, 67, 68, 69, 70, 71, 72, 73, 74, 75, 76, 77, 78, 79, 80, 81, 82, 83, 84, 85, 86, 87, 88, 89, 90, 91, 92, 93, 94, 95, 96, 97, 98, 99, 100, 101, 102, 103, 104] (by decide +kernel) (by decide +kernel)) (goodIn_sub (fun _ h => List.mem_cons_of_mem _ (List.mem_append_right _ h)) (by decide +kernel))
set_option maxRecDepth 20000 in
theorem gX9_remove_X9_settles : GoodIn wsX9_remove (wsV RX9 133 RX9 yX9_settles wsX9_settles) := goodIn_app (goodIn_of _ (by decide +kernel)) ggX9_remove_X9_settles
theorem dX9_remove_0 : decode cX9_remove 0 = .ok (.aload_n 0, 1) := by decide +kernel
theorem dX9_remove_1 : decode cX9_remove 1 = .ok (.iload_n 1, 1) := by decide +kernel
theorem dX9_remove_2 : decode cX9_remove 2 = .ok (.invokevirtual 80, 3) := by decide +kernel
theorem dX9_remove_5 : decode cX9_remove 5 = .ok (.ifCond .eq 5, 3) := by decide +kernel
theorem dX9_remove_8 : decode cX9_remove 8 = .ok (.iconst 0, 1) := by decide +kernel
theorem dX9_remove_9 : decode cX9_remove 9 = .ok (.ireturn, 1) := by decide +kernel
theorem dX9_remove_10 : decode cX9_remove 10 = .ok (.aload_n 0, 1) := by decide +kernel
theorem dX9_remove_11 : decode cX9_remove 11 = .ok (.getfield 28, 3) := by decide +kernel
theorem dX9_remove_14 : decode cX9_remove 14 = .ok (.iload_n 1, 1) := by decide +kernel
theorem dX9_remove_15 : decode cX9_remove 15 = .ok (.iaload, 1) := by decide +kernel
theorem dX9_remove_16 : decode cX9_remove 16 = .ok (.istore_n 2, 1) := by decide +kernel
theorem dX9_remove_17 : decode cX9_remove 17 = .ok (.aload_n 0, 1) := by decide +kernel
theorem dX9_remove_18 : decode cX9_remove 18 = .ok (.iload_n 2, 1) := by decide +kernel
theorem dX9_remove_19 : decode cX9_remove 19 = .ok (.invokevirtual 130, 3) := by decide +kernel
theorem dX9_remove_22 : decode cX9_remove 22 = .ok (.aload_n 0, 1) := by decide +kernel
theorem dX9_remove_23 : decode cX9_remove 23 = .ok (.invokevirtual 126, 3) := by decide +kernel
theorem dX9_remove_26 : decode cX9_remove 26 = .ok (.ifCond .eq 15, 3) := by decide +kernel
theorem dX9_remove_29 : decode cX9_remove 29 = .ok (.aload_n 0, 1) := by decide +kernel
theorem dX9_remove_30 : decode cX9_remove 30 = .ok (.iload_n 1, 1) := by decide +kernel
theorem dX9_remove_31 : decode cX9_remove 31 = .ok (.iload_n 2, 1) := by decide +kernel
theorem dX9_remove_32 : decode cX9_remove 32 = .ok (.invokevirtual 122, 3) := by decide +kernel
theorem dX9_remove_35 : decode cX9_remove 35 = .ok (.aload_n 0, 1) := by decide +kernel
theorem dX9_remove_36 : decode cX9_remove 36 = .ok (.iconst 2, 1) := by decide +kernel
theorem dX9_remove_37 : decode cX9_remove 37 = .ok (.invokevirtual 119, 3) := by decide +kernel
theorem dX9_remove_40 : decode cX9_remove 40 = .ok (.ireturn, 1) := by decide +kernel
theorem dX9_remove_41 : decode cX9_remove 41 = .ok (.aload_n 0, 1) := by decide +kernel
theorem dX9_remove_42 : decode cX9_remove 42 = .ok (.getfield 28, 3) := by decide +kernel
theorem dX9_remove_45 : decode cX9_remove 45 = .ok (.iload_n 1, 1) := by decide +kernel
theorem dX9_remove_46 : decode cX9_remove 46 = .ok (.iconst (-1), 1) := by decide +kernel
theorem dX9_remove_47 : decode cX9_remove 47 = .ok (.iastore, 1) := by decide +kernel
theorem dX9_remove_48 : decode cX9_remove 48 = .ok (.aload_n 0, 1) := by decide +kernel
theorem dX9_remove_49 : decode cX9_remove 49 = .ok (.invokevirtual 133, 3) := by decide +kernel
theorem dX9_remove_52 : decode cX9_remove 52 = .ok (.aload_n 0, 1) := by decide +kernel
theorem dX9_remove_53 : decode cX9_remove 53 = .ok (.getfield 91, 3) := by decide +kernel
theorem dX9_remove_56 : decode cX9_remove 56 = .ok (.ireturn, 1) := by decide +kernel
set_option maxRecDepth 20000 in
theorem ggX9_startAt_X9_isGone : GoodIn wsX9_startAt wsX9_isGone := goodIn_ca (goodIn_r _ [6, 7, 8, 9, 10, 5, 11, 12, 13, 14, 15, 16, 71, 72, 73, 74, 75, 76, 77, 78, 79, 80, 81, 82, 83, 84, 85, 86, 87, 88, 89, 90, 91, 92] (by decide +kernel) (by decide +kernel)) (goodIn_sub (fun _ h => List.mem_cons_of_mem _ (List.mem_append_right _ h)) (by decide +kernel))
set_option maxRecDepth 20000 in
theorem gX9_startAt_X9_isGone : GoodIn wsX9_startAt (wsV RX9 80 RX9 yX9_isGone wsX9_isGone) := goodIn_app (goodIn_of _ (by decide +kernel)) ggX9_startAt_X9_isGone
set_option maxRecDepth 20000 in
theorem ggX9_startAt_X9_isBetween : GoodIn wsX9_startAt wsX9_isBetween := goodIn_r _ [16] (by decide +kernel) (by decide +kernel)
set_option maxRecDepth 20000 in
theorem gX9_startAt_X9_isBetween : GoodIn wsX9_startAt (va_wsS RX9 72 yX9_isBetween wsX9_isBetween) := goodIn_app (goodIn_of _ (by decide +kernel)) ggX9_startAt_X9_isBetween
set_option maxRecDepth 20000 in
theorem ggX9_startAt_X9_fails : GoodIn wsX9_startAt wsX9_fails := goodIn_r _ [20, 7, 71, 72, 73, 74, 75, 76, 77, 78, 79, 80, 81, 82, 83, 84, 85, 86, 87, 88, 89, 90, 91, 92] (by decide +kernel) (by decide +kernel)
set_option maxRecDepth 20000 in
theorem gX9_startAt_X9_fails : GoodIn wsX9_startAt (wsV RX9 119 RX9 yX9_fails wsX9_fails) := goodIn_app (goodIn_of _ (by decide +kernel)) ggX9_startAt_X9_fails
set_option maxRecDepth 20000 in
theorem ggX9_startAt_X9_settles : GoodIn wsX9_startAt wsX9_settles := goodIn_ca (goodIn_r _ [24, 25, 13, 26, 27, 28, 29, 30, 31, 32, 5, 33, 34, 35, 36, 37, 38, 1, 39, 40, 41, 42, 43, 44, 45, 46, 47, 48, 49, 50, 51, 52, 53, 54, 55, 56, 57, 58, 59, 60, 61, 62, 63, 64, 65, 66, 67, 68, 69, 70, 71, 72, 73, 74, 75, 76, 77, 78, 79, 80, 81, 82, 83, 84, 85, 86, 87, 88, 89, 90, 91, 92] (by decide +kernel) (by decide +kernel)) (goodIn_sub (fun _ h => List.mem_cons_of_mem _ (List.mem_append_right _ h)) (by decide +kernel))
set_option maxRecDepth 20000 in
theorem gX9_startAt_X9_settles : GoodIn wsX9_startAt (wsV RX9 133 RX9 yX9_settles wsX9_settles) := goodIn_app (goodIn_of _ (by decide +kernel)) ggX9_startAt_X9_settles
theorem dX9_startAt_0 : decode cX9_startAt 0 = .ok (.aload_n 0, 1) := by decide +kernel
theorem dX9_startAt_1 : decode cX9_startAt 1 = .ok (.iload_n 1, 1) := by decide +kernel
theorem dX9_startAt_2 : decode cX9_startAt 2 = .ok (.invokevirtual 80, 3) := by decide +kernel
theorem dX9_startAt_5 : decode cX9_startAt 5 = .ok (.ifCond .eq 5, 3) := by decide +kernel
theorem dX9_startAt_8 : decode cX9_startAt 8 = .ok (.iconst 0, 1) := by decide +kernel
theorem dX9_startAt_9 : decode cX9_startAt 9 = .ok (.ireturn, 1) := by decide +kernel
theorem dX9_startAt_10 : decode cX9_startAt 10 = .ok (.iload_n 2, 1) := by decide +kernel
theorem dX9_startAt_11 : decode cX9_startAt 11 = .ok (.iconst 0, 1) := by decide +kernel
theorem dX9_startAt_12 : decode cX9_startAt 12 = .ok (.sipush 999, 3) := by decide +kernel
theorem dX9_startAt_15 : decode cX9_startAt 15 = .ok (.invokestatic 72, 3) := by decide +kernel
theorem dX9_startAt_18 : decode cX9_startAt 18 = .ok (.ifCond .ne 9, 3) := by decide +kernel
theorem dX9_startAt_21 : decode cX9_startAt 21 = .ok (.aload_n 0, 1) := by decide +kernel
theorem dX9_startAt_22 : decode cX9_startAt 22 = .ok (.iconst 2, 1) := by decide +kernel
theorem dX9_startAt_23 : decode cX9_startAt 23 = .ok (.invokevirtual 119, 3) := by decide +kernel
theorem dX9_startAt_26 : decode cX9_startAt 26 = .ok (.ireturn, 1) := by decide +kernel
theorem dX9_startAt_27 : decode cX9_startAt 27 = .ok (.aload_n 0, 1) := by decide +kernel
theorem dX9_startAt_28 : decode cX9_startAt 28 = .ok (.getfield 13, 3) := by decide +kernel
theorem dX9_startAt_31 : decode cX9_startAt 31 = .ok (.iload_n 1, 1) := by decide +kernel
theorem dX9_startAt_32 : decode cX9_startAt 32 = .ok (.iaload, 1) := by decide +kernel
theorem dX9_startAt_33 : decode cX9_startAt 33 = .ok (.istore_n 3, 1) := by decide +kernel
theorem dX9_startAt_34 : decode cX9_startAt 34 = .ok (.aload_n 0, 1) := by decide +kernel
theorem dX9_startAt_35 : decode cX9_startAt 35 = .ok (.getfield 13, 3) := by decide +kernel
theorem dX9_startAt_38 : decode cX9_startAt 38 = .ok (.iload_n 1, 1) := by decide +kernel
theorem dX9_startAt_39 : decode cX9_startAt 39 = .ok (.iload_n 2, 1) := by decide +kernel
theorem dX9_startAt_40 : decode cX9_startAt 40 = .ok (.iastore, 1) := by decide +kernel
theorem dX9_startAt_41 : decode cX9_startAt 41 = .ok (.aload_n 0, 1) := by decide +kernel
theorem dX9_startAt_42 : decode cX9_startAt 42 = .ok (.invokevirtual 133, 3) := by decide +kernel
theorem dX9_startAt_45 : decode cX9_startAt 45 = .ok (.iload_n 3, 1) := by decide +kernel
theorem dX9_startAt_46 : decode cX9_startAt 46 = .ok (.ireturn, 1) := by decide +kernel
set_option maxRecDepth 20000 in
theorem ggX9_reserve_X9_isGone : GoodIn wsX9_reserve wsX9_isGone := goodIn_ca (goodIn_r _ [6, 7, 8, 9, 10, 5, 11, 12, 13, 14, 15, 16, 71, 72, 73, 74, 75, 76, 77, 78, 79, 80, 81, 82, 83, 84, 85, 86, 87, 88, 89, 90, 91, 92] (by decide +kernel) (by decide +kernel)) (goodIn_sub (fun _ h => List.mem_cons_of_mem _ (List.mem_append_right _ h)) (by decide +kernel))
set_option maxRecDepth 20000 in
theorem gX9_reserve_X9_isGone : GoodIn wsX9_reserve (wsV RX9 80 RX9 yX9_isGone wsX9_isGone) := goodIn_app (goodIn_of _ (by decide +kernel)) ggX9_reserve_X9_isGone
set_option maxRecDepth 20000 in
theorem ggX9_reserve_X9_isBetween : GoodIn wsX9_reserve wsX9_isBetween := goodIn_r _ [16] (by decide +kernel) (by decide +kernel)
set_option maxRecDepth 20000 in
theorem gX9_reserve_X9_isBetween : GoodIn wsX9_reserve (va_wsS RX9 72 yX9_isBetween wsX9_isBetween) := goodIn_app (goodIn_of _ (by decide +kernel)) ggX9_reserve_X9_isBetween
set_option maxRecDepth 20000 in
theorem ggX9_reserve_X9_fails : GoodIn wsX9_reserve wsX9_fails := goodIn_r _ [20, 7, 71, 72, 73, 74, 75, 76, 77, 78, 79, 80, 81, 82, 83, 84, 85, 86, 87, 88, 89, 90, 91, 92] (by decide +kernel) (by decide +kernel)
set_option maxRecDepth 20000 in
theorem gX9_reserve_X9_fails : GoodIn wsX9_reserve (wsV RX9 119 RX9 yX9_fails wsX9_fails) := goodIn_app (goodIn_of _ (by decide +kernel)) ggX9_reserve_X9_fails
set_option maxRecDepth 20000 in
theorem ggX9_reserve_X9_settles : GoodIn wsX9_reserve wsX9_settles := goodIn_ca (goodIn_r _ [24, 25, 13, 26, 27, 28, 29, 30, 31, 32, 5, 33, 34, 35, 36, 37, 38, 39, 1, 40, 41, 42, 43, 44, 45, 46, 47, 48, 49, 50, 51, 52, 53, 54, 55, 56, 57, 58, 59, 60, 61, 62, 63, 64, 65, 66, 67, 68, 69, 70, 71, 72, 73, 74, 75, 76, 77, 78, 79, 80, 81, 82, 83, 84, 85, 86, 87, 88, 89, 90, 91, 92] (by decide +kernel) (by decide +kernel)) (goodIn_sub (fun _ h => List.mem_cons_of_mem _ (List.mem_append_right _ h)) (by decide +kernel))
set_option maxRecDepth 20000 in
theorem gX9_reserve_X9_settles : GoodIn wsX9_reserve (wsV RX9 133 RX9 yX9_settles wsX9_settles) := goodIn_app (goodIn_of _ (by decide +kernel)) ggX9_reserve_X9_settles
theorem dX9_reserve_0 : decode cX9_reserve 0 = .ok (.aload_n 0, 1) := by decide +kernel
theorem dX9_reserve_1 : decode cX9_reserve 1 = .ok (.iload_n 1, 1) := by decide +kernel
theorem dX9_reserve_2 : decode cX9_reserve 2 = .ok (.invokevirtual 80, 3) := by decide +kernel
theorem dX9_reserve_5 : decode cX9_reserve 5 = .ok (.ifCond .eq 5, 3) := by decide +kernel
theorem dX9_reserve_8 : decode cX9_reserve 8 = .ok (.iconst 0, 1) := by decide +kernel
theorem dX9_reserve_9 : decode cX9_reserve 9 = .ok (.ireturn, 1) := by decide +kernel
theorem dX9_reserve_10 : decode cX9_reserve 10 = .ok (.iload_n 2, 1) := by decide +kernel
theorem dX9_reserve_11 : decode cX9_reserve 11 = .ok (.iconst 0, 1) := by decide +kernel
theorem dX9_reserve_12 : decode cX9_reserve 12 = .ok (.bipush 20, 2) := by decide +kernel
theorem dX9_reserve_14 : decode cX9_reserve 14 = .ok (.invokestatic 72, 3) := by decide +kernel
theorem dX9_reserve_17 : decode cX9_reserve 17 = .ok (.ifCond .ne 9, 3) := by decide +kernel
theorem dX9_reserve_20 : decode cX9_reserve 20 = .ok (.aload_n 0, 1) := by decide +kernel
theorem dX9_reserve_21 : decode cX9_reserve 21 = .ok (.iconst 2, 1) := by decide +kernel
theorem dX9_reserve_22 : decode cX9_reserve 22 = .ok (.invokevirtual 119, 3) := by decide +kernel
theorem dX9_reserve_25 : decode cX9_reserve 25 = .ok (.ireturn, 1) := by decide +kernel
theorem dX9_reserve_26 : decode cX9_reserve 26 = .ok (.aload_n 0, 1) := by decide +kernel
theorem dX9_reserve_27 : decode cX9_reserve 27 = .ok (.getfield 16, 3) := by decide +kernel
theorem dX9_reserve_30 : decode cX9_reserve 30 = .ok (.iload_n 1, 1) := by decide +kernel
theorem dX9_reserve_31 : decode cX9_reserve 31 = .ok (.iaload, 1) := by decide +kernel
theorem dX9_reserve_32 : decode cX9_reserve 32 = .ok (.istore_n 3, 1) := by decide +kernel
theorem dX9_reserve_33 : decode cX9_reserve 33 = .ok (.aload_n 0, 1) := by decide +kernel
theorem dX9_reserve_34 : decode cX9_reserve 34 = .ok (.getfield 16, 3) := by decide +kernel
theorem dX9_reserve_37 : decode cX9_reserve 37 = .ok (.iload_n 1, 1) := by decide +kernel
theorem dX9_reserve_38 : decode cX9_reserve 38 = .ok (.iload_n 2, 1) := by decide +kernel
theorem dX9_reserve_39 : decode cX9_reserve 39 = .ok (.iastore, 1) := by decide +kernel
theorem dX9_reserve_40 : decode cX9_reserve 40 = .ok (.aload_n 0, 1) := by decide +kernel
theorem dX9_reserve_41 : decode cX9_reserve 41 = .ok (.invokevirtual 133, 3) := by decide +kernel
theorem dX9_reserve_44 : decode cX9_reserve 44 = .ok (.iload_n 3, 1) := by decide +kernel
theorem dX9_reserve_45 : decode cX9_reserve 45 = .ok (.ireturn, 1) := by decide +kernel
set_option maxRecDepth 20000 in
theorem ggX9_skips_X9_isLevel : GoodIn wsX9_skips wsX9_isLevel := goodIn_r _ [6, 7, 8, 5, 9] (by decide +kernel) (by decide +kernel)
set_option maxRecDepth 20000 in
theorem gX9_skips_X9_isLevel : GoodIn wsX9_skips (va_wsS RX9 136 yX9_isLevel wsX9_isLevel) := goodIn_app (goodIn_of _ (by decide +kernel)) ggX9_skips_X9_isLevel
set_option maxRecDepth 20000 in
theorem ggX9_skips_X9_isBetween : GoodIn wsX9_skips wsX9_isBetween := goodIn_r _ [9] (by decide +kernel) (by decide +kernel)
set_option maxRecDepth 20000 in
theorem gX9_skips_X9_isBetween : GoodIn wsX9_skips (va_wsS RX9 72 yX9_isBetween wsX9_isBetween) := goodIn_app (goodIn_of _ (by decide +kernel)) ggX9_skips_X9_isBetween
set_option maxRecDepth 20000 in
theorem ggX9_skips_X9_fails : GoodIn wsX9_skips wsX9_fails := goodIn_r _ [13, 1, 65, 66, 67, 68, 69, 70, 71, 72, 73, 74, 75, 76, 77, 78, 79, 80, 81, 82, 83, 84, 85, 86] (by decide +kernel) (by decide +kernel)
set_option maxRecDepth 20000 in
theorem gX9_skips_X9_fails : GoodIn wsX9_skips (wsV RX9 119 RX9 yX9_fails wsX9_fails) := goodIn_app (goodIn_of _ (by decide +kernel)) ggX9_skips_X9_fails
set_option maxRecDepth 20000 in
theorem ggX9_skips_X9_settles : GoodIn wsX9_skips wsX9_settles := goodIn_ca (goodIn_r _ [17, 18, 19, 20, 21, 22, 23, 24, 25, 26, 5, 27, 28, 29, 30, 31, 32, 33, 34, 35, 36, 37, 38, 39, 40, 41, 42, 43, 44, 45, 46, 47, 48, 49, 50, 51, 52, 53, 54, 55, 56, 57, 58, 59, 60, 61, 62, 63, 64, 2, 65, 66, 67, 68, 69, 70, 71, 72, 73, 74, 75, 76, 77, 78, 79, 80, 81, 82, 83, 84, 85, 86] (by decide +kernel) (by decide +kernel)) (goodIn_sub (fun _ h => List.mem_cons_of_mem _ (List.mem_append_right _ h)) (by decide +kernel))
set_option maxRecDepth 20000 in
theorem gX9_skips_X9_settles : GoodIn wsX9_skips (wsV RX9 133 RX9 yX9_settles wsX9_settles) := goodIn_app (goodIn_of _ (by decide +kernel)) ggX9_skips_X9_settles
theorem dX9_skips_0 : decode cX9_skips 0 = .ok (.aload_n 0, 1) := by decide +kernel
theorem dX9_skips_1 : decode cX9_skips 1 = .ok (.iconst 0, 1) := by decide +kernel
theorem dX9_skips_2 : decode cX9_skips 2 = .ok (.putfield 65, 3) := by decide +kernel
theorem dX9_skips_5 : decode cX9_skips 5 = .ok (.iload_n 1, 1) := by decide +kernel
theorem dX9_skips_6 : decode cX9_skips 6 = .ok (.invokestatic 136, 3) := by decide +kernel
theorem dX9_skips_9 : decode cX9_skips 9 = .ok (.ifCond .eq 13, 3) := by decide +kernel
theorem dX9_skips_12 : decode cX9_skips 12 = .ok (.iload_n 2, 1) := by decide +kernel
theorem dX9_skips_13 : decode cX9_skips 13 = .ok (.iconst 1, 1) := by decide +kernel
theorem dX9_skips_14 : decode cX9_skips 14 = .ok (.bipush 99, 2) := by decide +kernel
theorem dX9_skips_16 : decode cX9_skips 16 = .ok (.invokestatic 72, 3) := by decide +kernel
theorem dX9_skips_19 : decode cX9_skips 19 = .ok (.ifCond .ne 9, 3) := by decide +kernel
theorem dX9_skips_22 : decode cX9_skips 22 = .ok (.aload_n 0, 1) := by decide +kernel
theorem dX9_skips_23 : decode cX9_skips 23 = .ok (.iconst 1, 1) := by decide +kernel
theorem dX9_skips_24 : decode cX9_skips 24 = .ok (.invokevirtual 119, 3) := by decide +kernel
theorem dX9_skips_27 : decode cX9_skips 27 = .ok (.ireturn, 1) := by decide +kernel
theorem dX9_skips_28 : decode cX9_skips 28 = .ok (.aload_n 0, 1) := by decide +kernel
theorem dX9_skips_29 : decode cX9_skips 29 = .ok (.getfield 43, 3) := by decide +kernel
theorem dX9_skips_32 : decode cX9_skips 32 = .ok (.iload_n 1, 1) := by decide +kernel
theorem dX9_skips_33 : decode cX9_skips 33 = .ok (.aaload, 1) := by decide +kernel
theorem dX9_skips_34 : decode cX9_skips 34 = .ok (.iload_n 2, 1) := by decide +kernel
theorem dX9_skips_35 : decode cX9_skips 35 = .ok (.baload, 1) := by decide +kernel
theorem dX9_skips_36 : decode cX9_skips 36 = .ok (.iload_n 3, 1) := by decide +kernel
theorem dX9_skips_37 : decode cX9_skips 37 = .ok (.if_icmp .ne 9, 3) := by decide +kernel
theorem dX9_skips_40 : decode cX9_skips 40 = .ok (.aload_n 0, 1) := by decide +kernel
theorem dX9_skips_41 : decode cX9_skips 41 = .ok (.iconst 2, 1) := by decide +kernel
theorem dX9_skips_42 : decode cX9_skips 42 = .ok (.invokevirtual 119, 3) := by decide +kernel
theorem dX9_skips_45 : decode cX9_skips 45 = .ok (.ireturn, 1) := by decide +kernel
theorem dX9_skips_46 : decode cX9_skips 46 = .ok (.aload_n 0, 1) := by decide +kernel
theorem dX9_skips_47 : decode cX9_skips 47 = .ok (.getfield 43, 3) := by decide +kernel
theorem dX9_skips_50 : decode cX9_skips 50 = .ok (.iload_n 1, 1) := by decide +kernel
theorem dX9_skips_51 : decode cX9_skips 51 = .ok (.aaload, 1) := by decide +kernel
theorem dX9_skips_52 : decode cX9_skips 52 = .ok (.iload_n 2, 1) := by decide +kernel
theorem dX9_skips_53 : decode cX9_skips 53 = .ok (.iload_n 3, 1) := by decide +kernel
theorem dX9_skips_54 : decode cX9_skips 54 = .ok (.bastore, 1) := by decide +kernel
theorem dX9_skips_55 : decode cX9_skips 55 = .ok (.aload_n 0, 1) := by decide +kernel
theorem dX9_skips_56 : decode cX9_skips 56 = .ok (.invokevirtual 133, 3) := by decide +kernel
theorem dX9_skips_59 : decode cX9_skips 59 = .ok (.iconst 0, 1) := by decide +kernel
theorem dX9_skips_60 : decode cX9_skips 60 = .ok (.istore 4, 2) := by decide +kernel
theorem dX9_skips_62 : decode cX9_skips 62 = .ok (.iconst 1, 1) := by decide +kernel
theorem dX9_skips_63 : decode cX9_skips 63 = .ok (.istore 5, 2) := by decide +kernel
theorem dX9_skips_65 : decode cX9_skips 65 = .ok (.iload 5, 2) := by decide +kernel
theorem dX9_skips_67 : decode cX9_skips 67 = .ok (.bipush 100, 2) := by decide +kernel
theorem dX9_skips_69 : decode cX9_skips 69 = .ok (.if_icmp .ge 31, 3) := by decide +kernel
theorem dX9_skips_72 : decode cX9_skips 72 = .ok (.iload 4, 2) := by decide +kernel
theorem dX9_skips_74 : decode cX9_skips 74 = .ok (.aload_n 0, 1) := by decide +kernel
theorem dX9_skips_75 : decode cX9_skips 75 = .ok (.getfield 43, 3) := by decide +kernel
theorem dX9_skips_78 : decode cX9_skips 78 = .ok (.iload_n 1, 1) := by decide +kernel
theorem dX9_skips_79 : decode cX9_skips 79 = .ok (.aaload, 1) := by decide +kernel
theorem dX9_skips_80 : decode cX9_skips 80 = .ok (.iload 5, 2) := by decide +kernel
theorem dX9_skips_82 : decode cX9_skips 82 = .ok (.baload, 1) := by decide +kernel
theorem dX9_skips_83 : decode cX9_skips 83 = .ok (.ifCond .eq 7, 3) := by decide +kernel
theorem dX9_skips_86 : decode cX9_skips 86 = .ok (.iconst 1, 1) := by decide +kernel
theorem dX9_skips_87 : decode cX9_skips 87 = .ok (.goto 4, 3) := by decide +kernel
theorem dX9_skips_90 : decode cX9_skips 90 = .ok (.iconst 0, 1) := by decide +kernel
theorem dX9_skips_91 : decode cX9_skips 91 = .ok (.iadd, 1) := by decide +kernel
theorem dX9_skips_92 : decode cX9_skips 92 = .ok (.istore 4, 2) := by decide +kernel
theorem dX9_skips_94 : decode cX9_skips 94 = .ok (.iinc 5 1, 3) := by decide +kernel
theorem dX9_skips_97 : decode cX9_skips 97 = .ok (.goto (-32), 3) := by decide +kernel
theorem dX9_skips_100 : decode cX9_skips 100 = .ok (.iload 4, 2) := by decide +kernel
theorem dX9_skips_102 : decode cX9_skips 102 = .ok (.ireturn, 1) := by decide +kernel
set_option maxRecDepth 20000 in
theorem ggX9_skip_X9_skips : GoodIn wsX9_skip wsX9_skips := goodIn_ca (goodIn_r _ [5, 6, 7, 8, 9, 4, 10, 11, 12, 13, 14, 15, 16, 17, 18, 19, 20, 21, 22, 23, 24, 25, 26, 27, 28, 29, 30, 31, 32, 33, 34, 35, 36, 37, 38, 39, 40, 41, 42, 43, 44, 45, 46, 47, 48, 49, 50, 51, 52, 53, 54, 55, 56, 57, 58, 59, 60, 61, 62, 63, 64, 65, 66, 67, 68, 69, 70, 71, 72, 73, 74, 75, 76, 77, 78, 79, 80, 81, 82, 83, 84, 85, 86, 87, 88, 89, 90] (by decide +kernel) (by decide +kernel)) (goodIn_sub (fun _ h => List.mem_cons_of_mem _ (List.mem_append_right _ h)) (by decide +kernel))
set_option maxRecDepth 20000 in
theorem gX9_skip_X9_skips : GoodIn wsX9_skip (wsV RX9 139 RX9 yX9_skips wsX9_skips) := goodIn_app (goodIn_of _ (by decide +kernel)) ggX9_skip_X9_skips
theorem dX9_skip_0 : decode cX9_skip 0 = .ok (.aload_n 0, 1) := by decide +kernel
theorem dX9_skip_1 : decode cX9_skip 1 = .ok (.iload_n 1, 1) := by decide +kernel
theorem dX9_skip_2 : decode cX9_skip 2 = .ok (.iload_n 2, 1) := by decide +kernel
theorem dX9_skip_3 : decode cX9_skip 3 = .ok (.iconst 1, 1) := by decide +kernel
theorem dX9_skip_4 : decode cX9_skip 4 = .ok (.invokevirtual 139, 3) := by decide +kernel
theorem dX9_skip_7 : decode cX9_skip 7 = .ok (.ireturn, 1) := by decide +kernel
set_option maxRecDepth 20000 in
theorem ggX9_unskip_X9_skips : GoodIn wsX9_unskip wsX9_skips := goodIn_ca (goodIn_r _ [5, 6, 7, 8, 9, 4, 10, 11, 12, 13, 14, 15, 16, 17, 18, 19, 20, 21, 22, 23, 24, 25, 26, 27, 28, 29, 30, 31, 32, 33, 34, 35, 36, 37, 38, 39, 40, 41, 42, 43, 44, 45, 46, 47, 48, 49, 50, 51, 52, 53, 54, 55, 56, 57, 58, 59, 60, 61, 62, 63, 64, 65, 66, 67, 68, 69, 70, 71, 72, 73, 74, 75, 76, 77, 78, 79, 80, 81, 82, 83, 84, 85, 86, 87, 88, 89, 90] (by decide +kernel) (by decide +kernel)) (goodIn_sub (fun _ h => List.mem_cons_of_mem _ (List.mem_append_right _ h)) (by decide +kernel))
set_option maxRecDepth 20000 in
theorem gX9_unskip_X9_skips : GoodIn wsX9_unskip (wsV RX9 139 RX9 yX9_skips wsX9_skips) := goodIn_app (goodIn_of _ (by decide +kernel)) ggX9_unskip_X9_skips
theorem dX9_unskip_0 : decode cX9_unskip 0 = .ok (.aload_n 0, 1) := by decide +kernel
theorem dX9_unskip_1 : decode cX9_unskip 1 = .ok (.iload_n 1, 1) := by decide +kernel
theorem dX9_unskip_2 : decode cX9_unskip 2 = .ok (.iload_n 2, 1) := by decide +kernel
theorem dX9_unskip_3 : decode cX9_unskip 3 = .ok (.iconst 0, 1) := by decide +kernel
theorem dX9_unskip_4 : decode cX9_unskip 4 = .ok (.invokevirtual 139, 3) := by decide +kernel
theorem dX9_unskip_7 : decode cX9_unskip 7 = .ok (.ireturn, 1) := by decide +kernel
set_option maxRecDepth 20000 in
theorem ggX9_setFormat_X9_isLevel : GoodIn wsX9_setFormat wsX9_isLevel := goodIn_r _ [6, 7, 8, 5, 9] (by decide +kernel) (by decide +kernel)
set_option maxRecDepth 20000 in
theorem gX9_setFormat_X9_isLevel : GoodIn wsX9_setFormat (va_wsS RX9 136 yX9_isLevel wsX9_isLevel) := goodIn_app (goodIn_of _ (by decide +kernel)) ggX9_setFormat_X9_isLevel
set_option maxRecDepth 20000 in
theorem ggX9_setFormat_X9_fails : GoodIn wsX9_setFormat wsX9_fails := goodIn_r _ [13, 1, 14, 15, 16, 17, 18, 19, 20, 21, 22, 23, 24, 25, 26, 27, 28, 29, 30, 31, 32, 33, 34, 35] (by decide +kernel) (by decide +kernel)
set_option maxRecDepth 20000 in
theorem gX9_setFormat_X9_fails : GoodIn wsX9_setFormat (wsV RX9 119 RX9 yX9_fails wsX9_fails) := goodIn_app (goodIn_of _ (by decide +kernel)) ggX9_setFormat_X9_fails
theorem dX9_setFormat_0 : decode cX9_setFormat 0 = .ok (.aload_n 0, 1) := by decide +kernel
theorem dX9_setFormat_1 : decode cX9_setFormat 1 = .ok (.iconst 0, 1) := by decide +kernel
theorem dX9_setFormat_2 : decode cX9_setFormat 2 = .ok (.putfield 65, 3) := by decide +kernel
theorem dX9_setFormat_5 : decode cX9_setFormat 5 = .ok (.iload_n 1, 1) := by decide +kernel
theorem dX9_setFormat_6 : decode cX9_setFormat 6 = .ok (.invokestatic 136, 3) := by decide +kernel
theorem dX9_setFormat_9 : decode cX9_setFormat 9 = .ok (.ifCond .eq 27, 3) := by decide +kernel
theorem dX9_setFormat_12 : decode cX9_setFormat 12 = .ok (.iload_n 2, 1) := by decide +kernel
theorem dX9_setFormat_13 : decode cX9_setFormat 13 = .ok (.bipush 100, 2) := by decide +kernel
theorem dX9_setFormat_15 : decode cX9_setFormat 15 = .ok (.if_icmp .eq 28, 3) := by decide +kernel
theorem dX9_setFormat_18 : decode cX9_setFormat 18 = .ok (.iload_n 2, 1) := by decide +kernel
theorem dX9_setFormat_19 : decode cX9_setFormat 19 = .ok (.bipush 108, 2) := by decide +kernel
theorem dX9_setFormat_21 : decode cX9_setFormat 21 = .ok (.if_icmp .eq 22, 3) := by decide +kernel
theorem dX9_setFormat_24 : decode cX9_setFormat 24 = .ok (.iload_n 2, 1) := by decide +kernel
theorem dX9_setFormat_25 : decode cX9_setFormat 25 = .ok (.bipush 114, 2) := by decide +kernel
theorem dX9_setFormat_27 : decode cX9_setFormat 27 = .ok (.if_icmp .eq 16, 3) := by decide +kernel
theorem dX9_setFormat_30 : decode cX9_setFormat 30 = .ok (.iload_n 2, 1) := by decide +kernel
theorem dX9_setFormat_31 : decode cX9_setFormat 31 = .ok (.bipush 82, 2) := by decide +kernel
theorem dX9_setFormat_33 : decode cX9_setFormat 33 = .ok (.if_icmp .eq 10, 3) := by decide +kernel
theorem dX9_setFormat_36 : decode cX9_setFormat 36 = .ok (.aload_n 0, 1) := by decide +kernel
theorem dX9_setFormat_37 : decode cX9_setFormat 37 = .ok (.iconst 1, 1) := by decide +kernel
theorem dX9_setFormat_38 : decode cX9_setFormat 38 = .ok (.invokevirtual 119, 3) := by decide +kernel
theorem dX9_setFormat_41 : decode cX9_setFormat 41 = .ok (.i2c, 1) := by decide +kernel
theorem dX9_setFormat_42 : decode cX9_setFormat 42 = .ok (.ireturn, 1) := by decide +kernel
theorem dX9_setFormat_43 : decode cX9_setFormat 43 = .ok (.aload_n 0, 1) := by decide +kernel
theorem dX9_setFormat_44 : decode cX9_setFormat 44 = .ok (.getfield 46, 3) := by decide +kernel
theorem dX9_setFormat_47 : decode cX9_setFormat 47 = .ok (.iload_n 1, 1) := by decide +kernel
theorem dX9_setFormat_48 : decode cX9_setFormat 48 = .ok (.caload, 1) := by decide +kernel
theorem dX9_setFormat_49 : decode cX9_setFormat 49 = .ok (.istore_n 3, 1) := by decide +kernel
theorem dX9_setFormat_50 : decode cX9_setFormat 50 = .ok (.aload_n 0, 1) := by decide +kernel
theorem dX9_setFormat_51 : decode cX9_setFormat 51 = .ok (.getfield 46, 3) := by decide +kernel
theorem dX9_setFormat_54 : decode cX9_setFormat 54 = .ok (.iload_n 1, 1) := by decide +kernel
theorem dX9_setFormat_55 : decode cX9_setFormat 55 = .ok (.iload_n 2, 1) := by decide +kernel
theorem dX9_setFormat_56 : decode cX9_setFormat 56 = .ok (.castore, 1) := by decide +kernel
theorem dX9_setFormat_57 : decode cX9_setFormat 57 = .ok (.iload_n 3, 1) := by decide +kernel
theorem dX9_setFormat_58 : decode cX9_setFormat 58 = .ok (.ireturn, 1) := by decide +kernel
set_option maxRecDepth 20000 in
theorem ggX9_setGoingOn_X9_isLevel : GoodIn wsX9_setGoingOn wsX9_isLevel := goodIn_r _ [10, 11, 12, 9, 13] (by decide +kernel) (by decide +kernel)
set_option maxRecDepth 20000 in
theorem gX9_setGoingOn_X9_isLevel : GoodIn wsX9_setGoingOn (va_wsS RX9 136 yX9_isLevel wsX9_isLevel) := goodIn_app (goodIn_of _ (by decide +kernel)) ggX9_setGoingOn_X9_isLevel
set_option maxRecDepth 20000 in
theorem ggX9_setGoingOn_X9_isWrong : GoodIn wsX9_setGoingOn wsX9_isWrong := goodIn_r _ [17, 1, 65, 66, 67, 68, 69, 70, 71, 72, 73, 74, 75, 76, 77, 78, 79, 80, 81, 82, 83, 84, 85, 86] (by decide +kernel) (by decide +kernel)
set_option maxRecDepth 20000 in
theorem gX9_setGoingOn_X9_isWrong : GoodIn wsX9_setGoingOn (wsV RX9 143 RX9 yX9_isWrong wsX9_isWrong) := goodIn_app (goodIn_of _ (by decide +kernel)) ggX9_setGoingOn_X9_isWrong
set_option maxRecDepth 20000 in
theorem ggX9_setGoingOn_X9_settles : GoodIn wsX9_setGoingOn wsX9_settles := goodIn_ca (goodIn_r _ [21, 2, 22, 4, 23, 5, 3, 24, 25, 26, 9, 27, 28, 29, 30, 31, 32, 33, 34, 35, 36, 37, 38, 39, 40, 41, 42, 43, 44, 45, 46, 47, 48, 49, 50, 51, 6, 52, 53, 54, 55, 56, 57, 58, 59, 60, 61, 62, 63, 64, 65, 66, 67, 68, 69, 70, 71, 72, 73, 74, 75, 76, 77, 78, 79, 80, 81, 82, 83, 84, 85, 86] (by decide +kernel) (by decide +kernel)) (goodIn_sub (fun _ h => List.mem_cons_of_mem _ (List.mem_append_right _ h)) (by decide +kernel))
set_option maxRecDepth 20000 in
theorem gX9_setGoingOn_X9_settles : GoodIn wsX9_setGoingOn (wsV RX9 133 RX9 yX9_settles wsX9_settles) := goodIn_app (goodIn_of _ (by decide +kernel)) ggX9_setGoingOn_X9_settles
theorem dX9_setGoingOn_0 : decode cX9_setGoingOn 0 = .ok (.aload_n 0, 1) := by decide +kernel
theorem dX9_setGoingOn_1 : decode cX9_setGoingOn 1 = .ok (.iconst 0, 1) := by decide +kernel
theorem dX9_setGoingOn_2 : decode cX9_setGoingOn 2 = .ok (.putfield 65, 3) := by decide +kernel
theorem dX9_setGoingOn_5 : decode cX9_setGoingOn 5 = .ok (.iload_n 1, 1) := by decide +kernel
theorem dX9_setGoingOn_6 : decode cX9_setGoingOn 6 = .ok (.invokestatic 136, 3) := by decide +kernel
theorem dX9_setGoingOn_9 : decode cX9_setGoingOn 9 = .ok (.ifCond .ne 9, 3) := by decide +kernel
theorem dX9_setGoingOn_12 : decode cX9_setGoingOn 12 = .ok (.aload_n 0, 1) := by decide +kernel
theorem dX9_setGoingOn_13 : decode cX9_setGoingOn 13 = .ok (.iconst 1, 1) := by decide +kernel
theorem dX9_setGoingOn_14 : decode cX9_setGoingOn 14 = .ok (.invokevirtual 143, 3) := by decide +kernel
theorem dX9_setGoingOn_17 : decode cX9_setGoingOn 17 = .ok (.ireturn, 1) := by decide +kernel
theorem dX9_setGoingOn_18 : decode cX9_setGoingOn 18 = .ok (.iconst 0, 1) := by decide +kernel
theorem dX9_setGoingOn_19 : decode cX9_setGoingOn 19 = .ok (.istore_n 3, 1) := by decide +kernel
theorem dX9_setGoingOn_20 : decode cX9_setGoingOn 20 = .ok (.iload_n 3, 1) := by decide +kernel
theorem dX9_setGoingOn_21 : decode cX9_setGoingOn 21 = .ok (.aload_n 0, 1) := by decide +kernel
theorem dX9_setGoingOn_22 : decode cX9_setGoingOn 22 = .ok (.getfield 91, 3) := by decide +kernel
theorem dX9_setGoingOn_25 : decode cX9_setGoingOn 25 = .ok (.if_icmp .ge 44, 3) := by decide +kernel
theorem dX9_setGoingOn_28 : decode cX9_setGoingOn 28 = .ok (.aload_n 0, 1) := by decide +kernel
theorem dX9_setGoingOn_29 : decode cX9_setGoingOn 29 = .ok (.getfield 34, 3) := by decide +kernel
theorem dX9_setGoingOn_32 : decode cX9_setGoingOn 32 = .ok (.aload_n 0, 1) := by decide +kernel
theorem dX9_setGoingOn_33 : decode cX9_setGoingOn 33 = .ok (.getfield 31, 3) := by decide +kernel
theorem dX9_setGoingOn_36 : decode cX9_setGoingOn 36 = .ok (.iload_n 3, 1) := by decide +kernel
theorem dX9_setGoingOn_37 : decode cX9_setGoingOn 37 = .ok (.iaload, 1) := by decide +kernel
theorem dX9_setGoingOn_38 : decode cX9_setGoingOn 38 = .ok (.baload, 1) := by decide +kernel
theorem dX9_setGoingOn_39 : decode cX9_setGoingOn 39 = .ok (.ifCond .eq 24, 3) := by decide +kernel
theorem dX9_setGoingOn_42 : decode cX9_setGoingOn 42 = .ok (.aload_n 0, 1) := by decide +kernel
theorem dX9_setGoingOn_43 : decode cX9_setGoingOn 43 = .ok (.getfield 9, 3) := by decide +kernel
theorem dX9_setGoingOn_46 : decode cX9_setGoingOn 46 = .ok (.aload_n 0, 1) := by decide +kernel
theorem dX9_setGoingOn_47 : decode cX9_setGoingOn 47 = .ok (.getfield 31, 3) := by decide +kernel
theorem dX9_setGoingOn_50 : decode cX9_setGoingOn 50 = .ok (.iload_n 3, 1) := by decide +kernel
theorem dX9_setGoingOn_51 : decode cX9_setGoingOn 51 = .ok (.iaload, 1) := by decide +kernel
theorem dX9_setGoingOn_52 : decode cX9_setGoingOn 52 = .ok (.iaload, 1) := by decide +kernel
theorem dX9_setGoingOn_53 : decode cX9_setGoingOn 53 = .ok (.iload_n 1, 1) := by decide +kernel
theorem dX9_setGoingOn_54 : decode cX9_setGoingOn 54 = .ok (.if_icmp .ne 9, 3) := by decide +kernel
theorem dX9_setGoingOn_57 : decode cX9_setGoingOn 57 = .ok (.aload_n 0, 1) := by decide +kernel
theorem dX9_setGoingOn_58 : decode cX9_setGoingOn 58 = .ok (.iconst 2, 1) := by decide +kernel
theorem dX9_setGoingOn_59 : decode cX9_setGoingOn 59 = .ok (.invokevirtual 143, 3) := by decide +kernel
theorem dX9_setGoingOn_62 : decode cX9_setGoingOn 62 = .ok (.ireturn, 1) := by decide +kernel
theorem dX9_setGoingOn_63 : decode cX9_setGoingOn 63 = .ok (.iinc 3 1, 3) := by decide +kernel
theorem dX9_setGoingOn_66 : decode cX9_setGoingOn 66 = .ok (.goto (-46), 3) := by decide +kernel
theorem dX9_setGoingOn_69 : decode cX9_setGoingOn 69 = .ok (.aload_n 0, 1) := by decide +kernel
theorem dX9_setGoingOn_70 : decode cX9_setGoingOn 70 = .ok (.getfield 38, 3) := by decide +kernel
theorem dX9_setGoingOn_73 : decode cX9_setGoingOn 73 = .ok (.iload_n 1, 1) := by decide +kernel
theorem dX9_setGoingOn_74 : decode cX9_setGoingOn 74 = .ok (.baload, 1) := by decide +kernel
theorem dX9_setGoingOn_75 : decode cX9_setGoingOn 75 = .ok (.istore_n 3, 1) := by decide +kernel
theorem dX9_setGoingOn_76 : decode cX9_setGoingOn 76 = .ok (.aload_n 0, 1) := by decide +kernel
theorem dX9_setGoingOn_77 : decode cX9_setGoingOn 77 = .ok (.getfield 38, 3) := by decide +kernel
theorem dX9_setGoingOn_80 : decode cX9_setGoingOn 80 = .ok (.iload_n 1, 1) := by decide +kernel
theorem dX9_setGoingOn_81 : decode cX9_setGoingOn 81 = .ok (.iload_n 2, 1) := by decide +kernel
theorem dX9_setGoingOn_82 : decode cX9_setGoingOn 82 = .ok (.bastore, 1) := by decide +kernel
theorem dX9_setGoingOn_83 : decode cX9_setGoingOn 83 = .ok (.aload_n 0, 1) := by decide +kernel
theorem dX9_setGoingOn_84 : decode cX9_setGoingOn 84 = .ok (.invokevirtual 133, 3) := by decide +kernel
theorem dX9_setGoingOn_87 : decode cX9_setGoingOn 87 = .ok (.iload_n 3, 1) := by decide +kernel
theorem dX9_setGoingOn_88 : decode cX9_setGoingOn 88 = .ok (.ireturn, 1) := by decide +kernel
set_option maxRecDepth 20000 in
theorem ggX9_freeze_X9_groupOf : GoodIn wsX9_freeze wsX9_groupOf := goodIn_ca (goodIn_r _ [17, 18, 4, 7, 55, 56, 57, 58, 59, 60, 61, 62, 63, 64, 65, 66, 67, 68, 69, 70, 71, 72, 73, 74, 75, 76] (by decide +kernel) (by decide +kernel)) (goodIn_sub (fun _ h => List.mem_cons_of_mem _ (List.mem_append_right _ h)) (by decide +kernel))
set_option maxRecDepth 20000 in
theorem gX9_freeze_X9_groupOf : GoodIn wsX9_freeze (wsV RX9 83 RX9 yX9_groupOf wsX9_groupOf) := goodIn_app (goodIn_of _ (by decide +kernel)) ggX9_freeze_X9_groupOf
set_option maxRecDepth 20000 in
theorem ggX9_freeze_X9_settles : GoodIn wsX9_freeze wsX9_settles := goodIn_ca (goodIn_r _ [22, 2, 23, 3, 7, 4, 5, 24, 25, 26, 16, 27, 28, 29, 30, 31, 12, 32, 33, 34, 35, 36, 37, 6, 38, 39, 40, 41, 42, 43, 44, 45, 13, 14, 15, 17, 18, 46, 47, 48, 49, 50, 51, 52, 53, 9, 8, 10, 11, 54, 55, 56, 57, 58, 59, 60, 61, 62, 63, 64, 65, 66, 67, 68, 69, 70, 71, 72, 73, 74, 75, 76] (by decide +kernel) (by decide +kernel)) (goodIn_sub (fun _ h => List.mem_cons_of_mem _ (List.mem_append_right _ h)) (by decide +kernel))
set_option maxRecDepth 20000 in
theorem gX9_freeze_X9_settles : GoodIn wsX9_freeze (wsV RX9 133 RX9 yX9_settles wsX9_settles) := goodIn_app (goodIn_of _ (by decide +kernel)) ggX9_freeze_X9_settles
theorem dX9_freeze_0 : decode cX9_freeze 0 = .ok (.aload_n 0, 1) := by decide +kernel
theorem dX9_freeze_1 : decode cX9_freeze 1 = .ok (.iconst 0, 1) := by decide +kernel
theorem dX9_freeze_2 : decode cX9_freeze 2 = .ok (.putfield 65, 3) := by decide +kernel
theorem dX9_freeze_5 : decode cX9_freeze 5 = .ok (.iconst 0, 1) := by decide +kernel
theorem dX9_freeze_6 : decode cX9_freeze 6 = .ok (.istore_n 1, 1) := by decide +kernel
theorem dX9_freeze_7 : decode cX9_freeze 7 = .ok (.iconst 0, 1) := by decide +kernel
theorem dX9_freeze_8 : decode cX9_freeze 8 = .ok (.istore_n 2, 1) := by decide +kernel
theorem dX9_freeze_9 : decode cX9_freeze 9 = .ok (.iload_n 2, 1) := by decide +kernel
theorem dX9_freeze_10 : decode cX9_freeze 10 = .ok (.aload_n 0, 1) := by decide +kernel
theorem dX9_freeze_11 : decode cX9_freeze 11 = .ok (.getfield 91, 3) := by decide +kernel
theorem dX9_freeze_14 : decode cX9_freeze 14 = .ok (.if_icmp .ge 133, 3) := by decide +kernel
theorem dX9_freeze_17 : decode cX9_freeze 17 = .ok (.aload_n 0, 1) := by decide +kernel
theorem dX9_freeze_18 : decode cX9_freeze 18 = .ok (.getfield 31, 3) := by decide +kernel
theorem dX9_freeze_21 : decode cX9_freeze 21 = .ok (.iload_n 2, 1) := by decide +kernel
theorem dX9_freeze_22 : decode cX9_freeze 22 = .ok (.iaload, 1) := by decide +kernel
theorem dX9_freeze_23 : decode cX9_freeze 23 = .ok (.istore_n 3, 1) := by decide +kernel
theorem dX9_freeze_24 : decode cX9_freeze 24 = .ok (.aload_n 0, 1) := by decide +kernel
theorem dX9_freeze_25 : decode cX9_freeze 25 = .ok (.getfield 9, 3) := by decide +kernel
theorem dX9_freeze_28 : decode cX9_freeze 28 = .ok (.iload_n 3, 1) := by decide +kernel
theorem dX9_freeze_29 : decode cX9_freeze 29 = .ok (.iaload, 1) := by decide +kernel
theorem dX9_freeze_30 : decode cX9_freeze 30 = .ok (.ifCond .eq 111, 3) := by decide +kernel
theorem dX9_freeze_33 : decode cX9_freeze 33 = .ok (.aload_n 0, 1) := by decide +kernel
theorem dX9_freeze_34 : decode cX9_freeze 34 = .ok (.getfield 34, 3) := by decide +kernel
theorem dX9_freeze_37 : decode cX9_freeze 37 = .ok (.iload_n 3, 1) := by decide +kernel
theorem dX9_freeze_38 : decode cX9_freeze 38 = .ok (.baload, 1) := by decide +kernel
theorem dX9_freeze_39 : decode cX9_freeze 39 = .ok (.ifCond .ne 102, 3) := by decide +kernel
theorem dX9_freeze_42 : decode cX9_freeze 42 = .ok (.aload_n 0, 1) := by decide +kernel
theorem dX9_freeze_43 : decode cX9_freeze 43 = .ok (.getfield 25, 3) := by decide +kernel
theorem dX9_freeze_46 : decode cX9_freeze 46 = .ok (.iload_n 3, 1) := by decide +kernel
theorem dX9_freeze_47 : decode cX9_freeze 47 = .ok (.iaload, 1) := by decide +kernel
theorem dX9_freeze_48 : decode cX9_freeze 48 = .ok (.ifCond .gt 93, 3) := by decide +kernel
theorem dX9_freeze_51 : decode cX9_freeze 51 = .ok (.aload_n 0, 1) := by decide +kernel
theorem dX9_freeze_52 : decode cX9_freeze 52 = .ok (.getfield 19, 3) := by decide +kernel
theorem dX9_freeze_55 : decode cX9_freeze 55 = .ok (.iload_n 3, 1) := by decide +kernel
theorem dX9_freeze_56 : decode cX9_freeze 56 = .ok (.iaload, 1) := by decide +kernel
theorem dX9_freeze_57 : decode cX9_freeze 57 = .ok (.ifCond .lt 20, 3) := by decide +kernel
theorem dX9_freeze_60 : decode cX9_freeze 60 = .ok (.aload_n 0, 1) := by decide +kernel
theorem dX9_freeze_61 : decode cX9_freeze 61 = .ok (.getfield 34, 3) := by decide +kernel
theorem dX9_freeze_64 : decode cX9_freeze 64 = .ok (.aload_n 0, 1) := by decide +kernel
theorem dX9_freeze_65 : decode cX9_freeze 65 = .ok (.getfield 19, 3) := by decide +kernel
theorem dX9_freeze_68 : decode cX9_freeze 68 = .ok (.iload_n 3, 1) := by decide +kernel
theorem dX9_freeze_69 : decode cX9_freeze 69 = .ok (.iaload, 1) := by decide +kernel
theorem dX9_freeze_70 : decode cX9_freeze 70 = .ok (.baload, 1) := by decide +kernel
theorem dX9_freeze_71 : decode cX9_freeze 71 = .ok (.ifCond .ne 6, 3) := by decide +kernel
theorem dX9_freeze_74 : decode cX9_freeze 74 = .ok (.goto 67, 3) := by decide +kernel
theorem dX9_freeze_77 : decode cX9_freeze 77 = .ok (.aload_n 0, 1) := by decide +kernel
theorem dX9_freeze_78 : decode cX9_freeze 78 = .ok (.getfield 34, 3) := by decide +kernel
theorem dX9_freeze_81 : decode cX9_freeze 81 = .ok (.iload_n 3, 1) := by decide +kernel
theorem dX9_freeze_82 : decode cX9_freeze 82 = .ok (.iconst 1, 1) := by decide +kernel
theorem dX9_freeze_83 : decode cX9_freeze 83 = .ok (.bastore, 1) := by decide +kernel
theorem dX9_freeze_84 : decode cX9_freeze 84 = .ok (.aload_n 0, 1) := by decide +kernel
theorem dX9_freeze_85 : decode cX9_freeze 85 = .ok (.getfield 50, 3) := by decide +kernel
theorem dX9_freeze_88 : decode cX9_freeze 88 = .ok (.aload_n 0, 1) := by decide +kernel
theorem dX9_freeze_89 : decode cX9_freeze 89 = .ok (.getfield 94, 3) := by decide +kernel
theorem dX9_freeze_92 : decode cX9_freeze 92 = .ok (.aload_n 0, 1) := by decide +kernel
theorem dX9_freeze_93 : decode cX9_freeze 93 = .ok (.getfield 9, 3) := by decide +kernel
theorem dX9_freeze_96 : decode cX9_freeze 96 = .ok (.iload_n 3, 1) := by decide +kernel
theorem dX9_freeze_97 : decode cX9_freeze 97 = .ok (.iaload, 1) := by decide +kernel
theorem dX9_freeze_98 : decode cX9_freeze 98 = .ok (.iastore, 1) := by decide +kernel
theorem dX9_freeze_99 : decode cX9_freeze 99 = .ok (.aload_n 0, 1) := by decide +kernel
theorem dX9_freeze_100 : decode cX9_freeze 100 = .ok (.getfield 53, 3) := by decide +kernel
theorem dX9_freeze_103 : decode cX9_freeze 103 = .ok (.aload_n 0, 1) := by decide +kernel
theorem dX9_freeze_104 : decode cX9_freeze 104 = .ok (.getfield 94, 3) := by decide +kernel
theorem dX9_freeze_107 : decode cX9_freeze 107 = .ok (.aload_n 0, 1) := by decide +kernel
theorem dX9_freeze_108 : decode cX9_freeze 108 = .ok (.iload_n 3, 1) := by decide +kernel
theorem dX9_freeze_109 : decode cX9_freeze 109 = .ok (.invokevirtual 83, 3) := by decide +kernel
theorem dX9_freeze_112 : decode cX9_freeze 112 = .ok (.iastore, 1) := by decide +kernel
theorem dX9_freeze_113 : decode cX9_freeze 113 = .ok (.aload_n 0, 1) := by decide +kernel
theorem dX9_freeze_114 : decode cX9_freeze 114 = .ok (.getfield 56, 3) := by decide +kernel
theorem dX9_freeze_117 : decode cX9_freeze 117 = .ok (.aload_n 0, 1) := by decide +kernel
theorem dX9_freeze_118 : decode cX9_freeze 118 = .ok (.getfield 94, 3) := by decide +kernel
theorem dX9_freeze_121 : decode cX9_freeze 121 = .ok (.aload_n 0, 1) := by decide +kernel
theorem dX9_freeze_122 : decode cX9_freeze 122 = .ok (.getfield 22, 3) := by decide +kernel
theorem dX9_freeze_125 : decode cX9_freeze 125 = .ok (.iload_n 3, 1) := by decide +kernel
theorem dX9_freeze_126 : decode cX9_freeze 126 = .ok (.iaload, 1) := by decide +kernel
theorem dX9_freeze_127 : decode cX9_freeze 127 = .ok (.iastore, 1) := by decide +kernel
theorem dX9_freeze_128 : decode cX9_freeze 128 = .ok (.aload_n 0, 1) := by decide +kernel
theorem dX9_freeze_129 : decode cX9_freeze 129 = .ok (.dup, 1) := by decide +kernel
theorem dX9_freeze_130 : decode cX9_freeze 130 = .ok (.getfield 94, 3) := by decide +kernel
theorem dX9_freeze_133 : decode cX9_freeze 133 = .ok (.iconst 1, 1) := by decide +kernel
theorem dX9_freeze_134 : decode cX9_freeze 134 = .ok (.iadd, 1) := by decide +kernel
theorem dX9_freeze_135 : decode cX9_freeze 135 = .ok (.putfield 94, 3) := by decide +kernel
theorem dX9_freeze_138 : decode cX9_freeze 138 = .ok (.iinc 1 1, 3) := by decide +kernel
theorem dX9_freeze_141 : decode cX9_freeze 141 = .ok (.iinc 2 1, 3) := by decide +kernel
theorem dX9_freeze_144 : decode cX9_freeze 144 = .ok (.goto (-135), 3) := by decide +kernel
theorem dX9_freeze_147 : decode cX9_freeze 147 = .ok (.aload_n 0, 1) := by decide +kernel
theorem dX9_freeze_148 : decode cX9_freeze 148 = .ok (.invokevirtual 133, 3) := by decide +kernel
theorem dX9_freeze_151 : decode cX9_freeze 151 = .ok (.iload_n 1, 1) := by decide +kernel
theorem dX9_freeze_152 : decode cX9_freeze 152 = .ok (.ireturn, 1) := by decide +kernel
theorem dX9_size_0 : decode cX9_size 0 = .ok (.aload_n 0, 1) := by decide +kernel
theorem dX9_size_1 : decode cX9_size 1 = .ok (.iconst 0, 1) := by decide +kernel
theorem dX9_size_2 : decode cX9_size 2 = .ok (.putfield 65, 3) := by decide +kernel
theorem dX9_size_5 : decode cX9_size 5 = .ok (.aload_n 0, 1) := by decide +kernel
theorem dX9_size_6 : decode cX9_size 6 = .ok (.getfield 91, 3) := by decide +kernel
theorem dX9_size_9 : decode cX9_size 9 = .ok (.ireturn, 1) := by decide +kernel
set_option maxRecDepth 20000 in
theorem ggX9_paragraphAt_X9_isBetween : GoodIn wsX9_paragraphAt wsX9_isBetween := goodIn_r _ [7] (by decide +kernel) (by decide +kernel)
set_option maxRecDepth 20000 in
theorem gX9_paragraphAt_X9_isBetween : GoodIn wsX9_paragraphAt (va_wsS RX9 72 yX9_isBetween wsX9_isBetween) := goodIn_app (goodIn_of _ (by decide +kernel)) ggX9_paragraphAt_X9_isBetween
set_option maxRecDepth 20000 in
theorem ggX9_paragraphAt_X9_fails : GoodIn wsX9_paragraphAt wsX9_fails := goodIn_r _ [11, 1, 12, 13, 14, 15, 16, 17, 18, 19, 20, 21, 22, 23, 24, 25, 26, 27, 28, 29, 30, 31, 32, 33] (by decide +kernel) (by decide +kernel)
set_option maxRecDepth 20000 in
theorem gX9_paragraphAt_X9_fails : GoodIn wsX9_paragraphAt (wsV RX9 119 RX9 yX9_fails wsX9_fails) := goodIn_app (goodIn_of _ (by decide +kernel)) ggX9_paragraphAt_X9_fails
theorem dX9_paragraphAt_0 : decode cX9_paragraphAt 0 = .ok (.aload_n 0, 1) := by decide +kernel
theorem dX9_paragraphAt_1 : decode cX9_paragraphAt 1 = .ok (.iconst 0, 1) := by decide +kernel
theorem dX9_paragraphAt_2 : decode cX9_paragraphAt 2 = .ok (.putfield 65, 3) := by decide +kernel
theorem dX9_paragraphAt_5 : decode cX9_paragraphAt 5 = .ok (.iload_n 1, 1) := by decide +kernel
theorem dX9_paragraphAt_6 : decode cX9_paragraphAt 6 = .ok (.iconst 0, 1) := by decide +kernel
theorem dX9_paragraphAt_7 : decode cX9_paragraphAt 7 = .ok (.aload_n 0, 1) := by decide +kernel
theorem dX9_paragraphAt_8 : decode cX9_paragraphAt 8 = .ok (.getfield 91, 3) := by decide +kernel
theorem dX9_paragraphAt_11 : decode cX9_paragraphAt 11 = .ok (.iconst 1, 1) := by decide +kernel
theorem dX9_paragraphAt_12 : decode cX9_paragraphAt 12 = .ok (.isub, 1) := by decide +kernel
theorem dX9_paragraphAt_13 : decode cX9_paragraphAt 13 = .ok (.invokestatic 72, 3) := by decide +kernel
theorem dX9_paragraphAt_16 : decode cX9_paragraphAt 16 = .ok (.ifCond .eq 12, 3) := by decide +kernel
theorem dX9_paragraphAt_19 : decode cX9_paragraphAt 19 = .ok (.aload_n 0, 1) := by decide +kernel
theorem dX9_paragraphAt_20 : decode cX9_paragraphAt 20 = .ok (.getfield 31, 3) := by decide +kernel
theorem dX9_paragraphAt_23 : decode cX9_paragraphAt 23 = .ok (.iload_n 1, 1) := by decide +kernel
theorem dX9_paragraphAt_24 : decode cX9_paragraphAt 24 = .ok (.iaload, 1) := by decide +kernel
theorem dX9_paragraphAt_25 : decode cX9_paragraphAt 25 = .ok (.goto 8, 3) := by decide +kernel
theorem dX9_paragraphAt_28 : decode cX9_paragraphAt 28 = .ok (.aload_n 0, 1) := by decide +kernel
theorem dX9_paragraphAt_29 : decode cX9_paragraphAt 29 = .ok (.iconst 1, 1) := by decide +kernel
theorem dX9_paragraphAt_30 : decode cX9_paragraphAt 30 = .ok (.invokevirtual 119, 3) := by decide +kernel
theorem dX9_paragraphAt_33 : decode cX9_paragraphAt 33 = .ok (.ireturn, 1) := by decide +kernel
set_option maxRecDepth 20000 in
theorem ggX9_placeOf_X9_isGone : GoodIn wsX9_placeOf wsX9_isGone := goodIn_ca (goodIn_r _ [6, 7, 8, 9, 10, 5, 11, 12, 1, 13, 14, 15, 16, 17, 18, 19, 20, 21, 22, 23, 24, 25, 26, 27, 28, 29, 30, 31, 32, 33, 34, 35, 36, 37] (by decide +kernel) (by decide +kernel)) (goodIn_sub (fun _ h => List.mem_cons_of_mem _ (List.mem_append_right _ h)) (by decide +kernel))
set_option maxRecDepth 20000 in
theorem gX9_placeOf_X9_isGone : GoodIn wsX9_placeOf (wsV RX9 80 RX9 yX9_isGone wsX9_isGone) := goodIn_app (goodIn_of _ (by decide +kernel)) ggX9_placeOf_X9_isGone
theorem dX9_placeOf_0 : decode cX9_placeOf 0 = .ok (.aload_n 0, 1) := by decide +kernel
theorem dX9_placeOf_1 : decode cX9_placeOf 1 = .ok (.iload_n 1, 1) := by decide +kernel
theorem dX9_placeOf_2 : decode cX9_placeOf 2 = .ok (.invokevirtual 80, 3) := by decide +kernel
theorem dX9_placeOf_5 : decode cX9_placeOf 5 = .ok (.ifCond .eq 7, 3) := by decide +kernel
theorem dX9_placeOf_8 : decode cX9_placeOf 8 = .ok (.iconst 0, 1) := by decide +kernel
theorem dX9_placeOf_9 : decode cX9_placeOf 9 = .ok (.goto 9, 3) := by decide +kernel
theorem dX9_placeOf_12 : decode cX9_placeOf 12 = .ok (.aload_n 0, 1) := by decide +kernel
theorem dX9_placeOf_13 : decode cX9_placeOf 13 = .ok (.getfield 28, 3) := by decide +kernel
theorem dX9_placeOf_16 : decode cX9_placeOf 16 = .ok (.iload_n 1, 1) := by decide +kernel
theorem dX9_placeOf_17 : decode cX9_placeOf 17 = .ok (.iaload, 1) := by decide +kernel
theorem dX9_placeOf_18 : decode cX9_placeOf 18 = .ok (.ireturn, 1) := by decide +kernel
set_option maxRecDepth 20000 in
theorem ggX9_levelOf_X9_isGone : GoodIn wsX9_levelOf wsX9_isGone := goodIn_ca (goodIn_r _ [6, 7, 8, 9, 10, 5, 11, 12, 13, 14, 15, 16, 17, 18, 19, 20, 21, 22, 23, 24, 25, 26, 27, 28, 29, 30, 31, 32, 33, 34, 35, 36, 37, 38] (by decide +kernel) (by decide +kernel)) (goodIn_sub (fun _ h => List.mem_cons_of_mem _ (List.mem_append_right _ h)) (by decide +kernel))
set_option maxRecDepth 20000 in
theorem gX9_levelOf_X9_isGone : GoodIn wsX9_levelOf (wsV RX9 80 RX9 yX9_isGone wsX9_isGone) := goodIn_app (goodIn_of _ (by decide +kernel)) ggX9_levelOf_X9_isGone
theorem dX9_levelOf_0 : decode cX9_levelOf 0 = .ok (.aload_n 0, 1) := by decide +kernel
theorem dX9_levelOf_1 : decode cX9_levelOf 1 = .ok (.iload_n 1, 1) := by decide +kernel
theorem dX9_levelOf_2 : decode cX9_levelOf 2 = .ok (.invokevirtual 80, 3) := by decide +kernel
theorem dX9_levelOf_5 : decode cX9_levelOf 5 = .ok (.ifCond .eq 7, 3) := by decide +kernel
theorem dX9_levelOf_8 : decode cX9_levelOf 8 = .ok (.iconst 0, 1) := by decide +kernel
theorem dX9_levelOf_9 : decode cX9_levelOf 9 = .ok (.goto 9, 3) := by decide +kernel
theorem dX9_levelOf_12 : decode cX9_levelOf 12 = .ok (.aload_n 0, 1) := by decide +kernel
theorem dX9_levelOf_13 : decode cX9_levelOf 13 = .ok (.getfield 9, 3) := by decide +kernel
theorem dX9_levelOf_16 : decode cX9_levelOf 16 = .ok (.iload_n 1, 1) := by decide +kernel
theorem dX9_levelOf_17 : decode cX9_levelOf 17 = .ok (.iaload, 1) := by decide +kernel
theorem dX9_levelOf_18 : decode cX9_levelOf 18 = .ok (.ireturn, 1) := by decide +kernel
set_option maxRecDepth 20000 in
theorem ggX9_parentOf_X9_isPlain : GoodIn wsX9_parentOf wsX9_isPlain := goodIn_ca (goodIn_r _ [6, 7, 8, 9, 10, 11, 5, 12, 13, 14, 15, 16, 17, 18, 19, 20, 21, 22, 23, 24, 25, 26, 27, 28, 29, 30, 31, 32, 33, 34, 35, 36, 37, 38, 39, 40, 41, 42, 43] (by decide +kernel) (by decide +kernel)) (goodIn_sub (fun _ h => List.mem_cons_of_mem _ (List.mem_append_right _ h)) (by decide +kernel))
set_option maxRecDepth 20000 in
theorem gX9_parentOf_X9_isPlain : GoodIn wsX9_parentOf (wsV RX9 146 RX9 yX9_isPlain wsX9_isPlain) := goodIn_app (goodIn_of _ (by decide +kernel)) ggX9_parentOf_X9_isPlain
theorem dX9_parentOf_0 : decode cX9_parentOf 0 = .ok (.aload_n 0, 1) := by decide +kernel
theorem dX9_parentOf_1 : decode cX9_parentOf 1 = .ok (.iload_n 1, 1) := by decide +kernel
theorem dX9_parentOf_2 : decode cX9_parentOf 2 = .ok (.invokevirtual 146, 3) := by decide +kernel
theorem dX9_parentOf_5 : decode cX9_parentOf 5 = .ok (.ifCond .eq 7, 3) := by decide +kernel
theorem dX9_parentOf_8 : decode cX9_parentOf 8 = .ok (.iconst 0, 1) := by decide +kernel
theorem dX9_parentOf_9 : decode cX9_parentOf 9 = .ok (.goto 9, 3) := by decide +kernel
theorem dX9_parentOf_12 : decode cX9_parentOf 12 = .ok (.aload_n 0, 1) := by decide +kernel
theorem dX9_parentOf_13 : decode cX9_parentOf 13 = .ok (.getfield 19, 3) := by decide +kernel
theorem dX9_parentOf_16 : decode cX9_parentOf 16 = .ok (.iload_n 1, 1) := by decide +kernel
theorem dX9_parentOf_17 : decode cX9_parentOf 17 = .ok (.iaload, 1) := by decide +kernel
theorem dX9_parentOf_18 : decode cX9_parentOf 18 = .ok (.ireturn, 1) := by decide +kernel
theorem dX9_isAbove_0 : decode cX9_isAbove 0 = .ok (.aload_n 0, 1) := by decide +kernel
theorem dX9_isAbove_1 : decode cX9_isAbove 1 = .ok (.getfield 19, 3) := by decide +kernel
theorem dX9_isAbove_4 : decode cX9_isAbove 4 = .ok (.iload_n 2, 1) := by decide +kernel
theorem dX9_isAbove_5 : decode cX9_isAbove 5 = .ok (.iaload, 1) := by decide +kernel
theorem dX9_isAbove_6 : decode cX9_isAbove 6 = .ok (.istore_n 3, 1) := by decide +kernel
theorem dX9_isAbove_7 : decode cX9_isAbove 7 = .ok (.iload_n 3, 1) := by decide +kernel
theorem dX9_isAbove_8 : decode cX9_isAbove 8 = .ok (.ifCond .lt 20, 3) := by decide +kernel
theorem dX9_isAbove_11 : decode cX9_isAbove 11 = .ok (.iload_n 3, 1) := by decide +kernel
theorem dX9_isAbove_12 : decode cX9_isAbove 12 = .ok (.iload_n 1, 1) := by decide +kernel
theorem dX9_isAbove_13 : decode cX9_isAbove 13 = .ok (.if_icmp .ne 5, 3) := by decide +kernel
theorem dX9_isAbove_16 : decode cX9_isAbove 16 = .ok (.iconst 1, 1) := by decide +kernel
theorem dX9_isAbove_17 : decode cX9_isAbove 17 = .ok (.ireturn, 1) := by decide +kernel
theorem dX9_isAbove_18 : decode cX9_isAbove 18 = .ok (.aload_n 0, 1) := by decide +kernel
theorem dX9_isAbove_19 : decode cX9_isAbove 19 = .ok (.getfield 19, 3) := by decide +kernel
theorem dX9_isAbove_22 : decode cX9_isAbove 22 = .ok (.iload_n 3, 1) := by decide +kernel
theorem dX9_isAbove_23 : decode cX9_isAbove 23 = .ok (.iaload, 1) := by decide +kernel
theorem dX9_isAbove_24 : decode cX9_isAbove 24 = .ok (.istore_n 3, 1) := by decide +kernel
theorem dX9_isAbove_25 : decode cX9_isAbove 25 = .ok (.goto (-18), 3) := by decide +kernel
theorem dX9_isAbove_28 : decode cX9_isAbove 28 = .ok (.iconst 0, 1) := by decide +kernel
theorem dX9_isAbove_29 : decode cX9_isAbove 29 = .ok (.ireturn, 1) := by decide +kernel
set_option maxRecDepth 20000 in
theorem ggX9_below_X9_isGone : GoodIn wsX9_below wsX9_isGone := goodIn_ca (goodIn_r _ [7, 8, 9, 10, 11, 6, 12, 13, 14, 15, 16, 17, 23, 24, 25, 26, 27, 28, 29, 30, 31, 32, 33, 34, 35, 36, 37, 38, 39, 40, 41, 42, 43, 44] (by decide +kernel) (by decide +kernel)) (goodIn_sub (fun _ h => List.mem_cons_of_mem _ (List.mem_append_right _ h)) (by decide +kernel))
set_option maxRecDepth 20000 in
theorem gX9_below_X9_isGone : GoodIn wsX9_below (wsV RX9 80 RX9 yX9_isGone wsX9_isGone) := goodIn_app (goodIn_of _ (by decide +kernel)) ggX9_below_X9_isGone
set_option maxRecDepth 20000 in
theorem ggX9_below_X9_isAbove : GoodIn wsX9_below wsX9_isAbove := goodIn_ca (goodIn_r _ [21, 22, 23, 24, 25, 26, 27, 28, 29, 30, 31, 32, 33, 34, 35, 36, 37, 38, 39, 40, 41, 42, 43, 44] (by decide +kernel) (by decide +kernel)) (goodIn_sub (fun _ h => List.mem_cons_of_mem _ (List.mem_append_right _ h)) (by decide +kernel))
set_option maxRecDepth 20000 in
theorem gX9_below_X9_isAbove : GoodIn wsX9_below (wsV RX9 149 RX9 yX9_isAbove wsX9_isAbove) := goodIn_app (goodIn_of _ (by decide +kernel)) ggX9_below_X9_isAbove
theorem dX9_below_0 : decode cX9_below 0 = .ok (.aload_n 0, 1) := by decide +kernel
theorem dX9_below_1 : decode cX9_below 1 = .ok (.iload_n 1, 1) := by decide +kernel
theorem dX9_below_2 : decode cX9_below 2 = .ok (.invokevirtual 80, 3) := by decide +kernel
theorem dX9_below_5 : decode cX9_below 5 = .ok (.ifCond .eq 5, 3) := by decide +kernel
theorem dX9_below_8 : decode cX9_below 8 = .ok (.iconst 0, 1) := by decide +kernel
theorem dX9_below_9 : decode cX9_below 9 = .ok (.ireturn, 1) := by decide +kernel
theorem dX9_below_10 : decode cX9_below 10 = .ok (.iconst 0, 1) := by decide +kernel
theorem dX9_below_11 : decode cX9_below 11 = .ok (.istore_n 2, 1) := by decide +kernel
theorem dX9_below_12 : decode cX9_below 12 = .ok (.iconst 0, 1) := by decide +kernel
theorem dX9_below_13 : decode cX9_below 13 = .ok (.istore_n 3, 1) := by decide +kernel
theorem dX9_below_14 : decode cX9_below 14 = .ok (.iload_n 3, 1) := by decide +kernel
theorem dX9_below_15 : decode cX9_below 15 = .ok (.aload_n 0, 1) := by decide +kernel
theorem dX9_below_16 : decode cX9_below 16 = .ok (.getfield 91, 3) := by decide +kernel
theorem dX9_below_19 : decode cX9_below 19 = .ok (.if_icmp .ge 31, 3) := by decide +kernel
theorem dX9_below_22 : decode cX9_below 22 = .ok (.iload_n 2, 1) := by decide +kernel
theorem dX9_below_23 : decode cX9_below 23 = .ok (.aload_n 0, 1) := by decide +kernel
theorem dX9_below_24 : decode cX9_below 24 = .ok (.iload_n 1, 1) := by decide +kernel
theorem dX9_below_25 : decode cX9_below 25 = .ok (.aload_n 0, 1) := by decide +kernel
theorem dX9_below_26 : decode cX9_below 26 = .ok (.getfield 31, 3) := by decide +kernel
theorem dX9_below_29 : decode cX9_below 29 = .ok (.iload_n 3, 1) := by decide +kernel
theorem dX9_below_30 : decode cX9_below 30 = .ok (.iaload, 1) := by decide +kernel
theorem dX9_below_31 : decode cX9_below 31 = .ok (.invokevirtual 149, 3) := by decide +kernel
theorem dX9_below_34 : decode cX9_below 34 = .ok (.ifCond .eq 7, 3) := by decide +kernel
theorem dX9_below_37 : decode cX9_below 37 = .ok (.iconst 1, 1) := by decide +kernel
theorem dX9_below_38 : decode cX9_below 38 = .ok (.goto 4, 3) := by decide +kernel
theorem dX9_below_41 : decode cX9_below 41 = .ok (.iconst 0, 1) := by decide +kernel
theorem dX9_below_42 : decode cX9_below 42 = .ok (.iadd, 1) := by decide +kernel
theorem dX9_below_43 : decode cX9_below 43 = .ok (.istore_n 2, 1) := by decide +kernel
theorem dX9_below_44 : decode cX9_below 44 = .ok (.iinc 3 1, 3) := by decide +kernel
theorem dX9_below_47 : decode cX9_below 47 = .ok (.goto (-33), 3) := by decide +kernel
theorem dX9_below_50 : decode cX9_below 50 = .ok (.iload_n 2, 1) := by decide +kernel
theorem dX9_below_51 : decode cX9_below 51 = .ok (.ireturn, 1) := by decide +kernel
set_option maxRecDepth 20000 in
theorem ggX9_isFrozen_X9_isGone : GoodIn wsX9_isFrozen wsX9_isGone := goodIn_ca (goodIn_r _ [6, 7, 8, 9, 10, 5, 11, 12, 13, 14, 15, 16, 17, 18, 19, 20, 21, 22, 23, 24, 25, 26, 27, 28, 29, 30, 31, 32, 33, 34, 35, 36, 37, 38] (by decide +kernel) (by decide +kernel)) (goodIn_sub (fun _ h => List.mem_cons_of_mem _ (List.mem_append_right _ h)) (by decide +kernel))
set_option maxRecDepth 20000 in
theorem gX9_isFrozen_X9_isGone : GoodIn wsX9_isFrozen (wsV RX9 80 RX9 yX9_isGone wsX9_isGone) := goodIn_app (goodIn_of _ (by decide +kernel)) ggX9_isFrozen_X9_isGone
theorem dX9_isFrozen_0 : decode cX9_isFrozen 0 = .ok (.aload_n 0, 1) := by decide +kernel
theorem dX9_isFrozen_1 : decode cX9_isFrozen 1 = .ok (.iload_n 1, 1) := by decide +kernel
theorem dX9_isFrozen_2 : decode cX9_isFrozen 2 = .ok (.invokevirtual 80, 3) := by decide +kernel
theorem dX9_isFrozen_5 : decode cX9_isFrozen 5 = .ok (.ifCond .ne 16, 3) := by decide +kernel
theorem dX9_isFrozen_8 : decode cX9_isFrozen 8 = .ok (.aload_n 0, 1) := by decide +kernel
theorem dX9_isFrozen_9 : decode cX9_isFrozen 9 = .ok (.getfield 34, 3) := by decide +kernel
theorem dX9_isFrozen_12 : decode cX9_isFrozen 12 = .ok (.iload_n 1, 1) := by decide +kernel
theorem dX9_isFrozen_13 : decode cX9_isFrozen 13 = .ok (.baload, 1) := by decide +kernel
theorem dX9_isFrozen_14 : decode cX9_isFrozen 14 = .ok (.ifCond .eq 7, 3) := by decide +kernel
theorem dX9_isFrozen_17 : decode cX9_isFrozen 17 = .ok (.iconst 1, 1) := by decide +kernel
theorem dX9_isFrozen_18 : decode cX9_isFrozen 18 = .ok (.goto 4, 3) := by decide +kernel
theorem dX9_isFrozen_21 : decode cX9_isFrozen 21 = .ok (.iconst 0, 1) := by decide +kernel
theorem dX9_isFrozen_22 : decode cX9_isFrozen 22 = .ok (.ireturn, 1) := by decide +kernel
set_option maxRecDepth 20000 in
theorem ggX9_numberOf_X9_isPlain : GoodIn wsX9_numberOf wsX9_isPlain := goodIn_ca (goodIn_r _ [6, 7, 8, 9, 10, 11, 5, 12, 13, 14, 15, 16, 17, 18, 19, 20, 21, 22, 23, 24, 25, 26, 27, 28, 29, 30, 31, 32, 33, 34, 35, 36, 37, 38, 39, 40, 41, 42, 43] (by decide +kernel) (by decide +kernel)) (goodIn_sub (fun _ h => List.mem_cons_of_mem _ (List.mem_append_right _ h)) (by decide +kernel))
set_option maxRecDepth 20000 in
theorem gX9_numberOf_X9_isPlain : GoodIn wsX9_numberOf (wsV RX9 146 RX9 yX9_isPlain wsX9_isPlain) := goodIn_app (goodIn_of _ (by decide +kernel)) ggX9_numberOf_X9_isPlain
theorem dX9_numberOf_0 : decode cX9_numberOf 0 = .ok (.aload_n 0, 1) := by decide +kernel
theorem dX9_numberOf_1 : decode cX9_numberOf 1 = .ok (.iload_n 1, 1) := by decide +kernel
theorem dX9_numberOf_2 : decode cX9_numberOf 2 = .ok (.invokevirtual 146, 3) := by decide +kernel
theorem dX9_numberOf_5 : decode cX9_numberOf 5 = .ok (.ifCond .eq 7, 3) := by decide +kernel
theorem dX9_numberOf_8 : decode cX9_numberOf 8 = .ok (.iconst 0, 1) := by decide +kernel
theorem dX9_numberOf_9 : decode cX9_numberOf 9 = .ok (.goto 9, 3) := by decide +kernel
theorem dX9_numberOf_12 : decode cX9_numberOf 12 = .ok (.aload_n 0, 1) := by decide +kernel
theorem dX9_numberOf_13 : decode cX9_numberOf 13 = .ok (.getfield 22, 3) := by decide +kernel
theorem dX9_numberOf_16 : decode cX9_numberOf 16 = .ok (.iload_n 1, 1) := by decide +kernel
theorem dX9_numberOf_17 : decode cX9_numberOf 17 = .ok (.iaload, 1) := by decide +kernel
theorem dX9_numberOf_18 : decode cX9_numberOf 18 = .ok (.ireturn, 1) := by decide +kernel
set_option maxRecDepth 20000 in
theorem ggX9_lettersOf_X9_isPlain : GoodIn wsX9_lettersOf wsX9_isPlain := goodIn_ca (goodIn_r _ [6, 7, 8, 9, 10, 11, 5, 12, 13, 14, 15, 16, 17, 18, 19, 20, 21, 22, 23, 24, 25, 26, 27, 28, 29, 30, 31, 32, 33, 34, 35, 36, 37, 38, 39, 40, 41, 42, 43] (by decide +kernel) (by decide +kernel)) (goodIn_sub (fun _ h => List.mem_cons_of_mem _ (List.mem_append_right _ h)) (by decide +kernel))
set_option maxRecDepth 20000 in
theorem gX9_lettersOf_X9_isPlain : GoodIn wsX9_lettersOf (wsV RX9 146 RX9 yX9_isPlain wsX9_isPlain) := goodIn_app (goodIn_of _ (by decide +kernel)) ggX9_lettersOf_X9_isPlain
theorem dX9_lettersOf_0 : decode cX9_lettersOf 0 = .ok (.aload_n 0, 1) := by decide +kernel
theorem dX9_lettersOf_1 : decode cX9_lettersOf 1 = .ok (.iload_n 1, 1) := by decide +kernel
theorem dX9_lettersOf_2 : decode cX9_lettersOf 2 = .ok (.invokevirtual 146, 3) := by decide +kernel
theorem dX9_lettersOf_5 : decode cX9_lettersOf 5 = .ok (.ifCond .eq 7, 3) := by decide +kernel
theorem dX9_lettersOf_8 : decode cX9_lettersOf 8 = .ok (.iconst 0, 1) := by decide +kernel
theorem dX9_lettersOf_9 : decode cX9_lettersOf 9 = .ok (.goto 9, 3) := by decide +kernel
theorem dX9_lettersOf_12 : decode cX9_lettersOf 12 = .ok (.aload_n 0, 1) := by decide +kernel
theorem dX9_lettersOf_13 : decode cX9_lettersOf 13 = .ok (.getfield 25, 3) := by decide +kernel
theorem dX9_lettersOf_16 : decode cX9_lettersOf 16 = .ok (.iload_n 1, 1) := by decide +kernel
theorem dX9_lettersOf_17 : decode cX9_lettersOf 17 = .ok (.iaload, 1) := by decide +kernel
theorem dX9_lettersOf_18 : decode cX9_lettersOf 18 = .ok (.ireturn, 1) := by decide +kernel
set_option maxRecDepth 20000 in
theorem ggX9_numberByWalk_X9_numberOf : GoodIn wsX9_numberByWalk wsX9_numberOf := goodIn_ca (goodIn_r _ [5, 6, 7, 8, 9, 4, 10, 11, 12, 13, 14, 15, 16, 17, 18, 19, 20, 21, 22, 23, 24, 25, 26, 27, 28, 29, 30, 31, 32, 33, 34, 35, 36, 37, 38, 39, 40, 41, 42, 43, 44, 45, 46, 47] (by decide +kernel) (by decide +kernel)) (goodIn_sub (fun _ h => List.mem_cons_of_mem _ (List.mem_append_right _ h)) (by decide +kernel))
set_option maxRecDepth 20000 in
theorem gX9_numberByWalk_X9_numberOf : GoodIn wsX9_numberByWalk (wsV RX9 152 RX9 yX9_numberOf wsX9_numberOf) := goodIn_app (goodIn_of _ (by decide +kernel)) ggX9_numberByWalk_X9_numberOf
theorem dX9_numberByWalk_0 : decode cX9_numberByWalk 0 = .ok (.aload_n 0, 1) := by decide +kernel
theorem dX9_numberByWalk_1 : decode cX9_numberByWalk 1 = .ok (.iload_n 1, 1) := by decide +kernel
theorem dX9_numberByWalk_2 : decode cX9_numberByWalk 2 = .ok (.invokevirtual 152, 3) := by decide +kernel
theorem dX9_numberByWalk_5 : decode cX9_numberByWalk 5 = .ok (.ireturn, 1) := by decide +kernel
set_option maxRecDepth 20000 in
theorem ggX9_lettersByWalk_X9_lettersOf : GoodIn wsX9_lettersByWalk wsX9_lettersOf := goodIn_ca (goodIn_r _ [5, 6, 7, 8, 9, 4, 10, 11, 12, 13, 14, 15, 16, 17, 18, 19, 20, 21, 22, 23, 24, 25, 26, 27, 28, 29, 30, 31, 32, 33, 34, 35, 36, 37, 38, 39, 40, 41, 42, 43, 44, 45, 46, 47] (by decide +kernel) (by decide +kernel)) (goodIn_sub (fun _ h => List.mem_cons_of_mem _ (List.mem_append_right _ h)) (by decide +kernel))
set_option maxRecDepth 20000 in
theorem gX9_lettersByWalk_X9_lettersOf : GoodIn wsX9_lettersByWalk (wsV RX9 155 RX9 yX9_lettersOf wsX9_lettersOf) := goodIn_app (goodIn_of _ (by decide +kernel)) ggX9_lettersByWalk_X9_lettersOf
theorem dX9_lettersByWalk_0 : decode cX9_lettersByWalk 0 = .ok (.aload_n 0, 1) := by decide +kernel
theorem dX9_lettersByWalk_1 : decode cX9_lettersByWalk 1 = .ok (.iload_n 1, 1) := by decide +kernel
theorem dX9_lettersByWalk_2 : decode cX9_lettersByWalk 2 = .ok (.invokevirtual 155, 3) := by decide +kernel
theorem dX9_lettersByWalk_5 : decode cX9_lettersByWalk 5 = .ok (.ireturn, 1) := by decide +kernel
set_option maxRecDepth 20000 in
theorem ggX9_ahead_X9_isPlain : GoodIn wsX9_ahead wsX9_isPlain := goodIn_ca (goodIn_r _ [5, 6, 7, 8, 9, 10, 4, 11, 12, 13, 14, 15, 16, 17, 18, 19, 20, 36, 37, 38, 39, 40, 41, 42, 43, 44, 45, 46, 47, 48, 49, 50, 51, 52, 53, 54, 55, 56, 57] (by decide +kernel) (by decide +kernel)) (goodIn_sub (fun _ h => List.mem_cons_of_mem _ (List.mem_append_right _ h)) (by decide +kernel))
set_option maxRecDepth 20000 in
theorem gX9_ahead_X9_isPlain : GoodIn wsX9_ahead (wsV RX9 146 RX9 yX9_isPlain wsX9_isPlain) := goodIn_app (goodIn_of _ (by decide +kernel)) ggX9_ahead_X9_isPlain
set_option maxRecDepth 20000 in
theorem ggX9_ahead_X9_aheadOf : GoodIn wsX9_ahead wsX9_aheadOf := goodIn_ca (goodIn_r _ [24, 17, 25, 26, 27, 28, 4, 29, 6, 30, 31, 32, 33, 34, 35, 36, 37, 38, 39, 40, 41, 42, 43, 44, 45, 46, 47, 48, 49, 50, 51, 52, 53, 54, 55, 56, 57] (by decide +kernel) (by decide +kernel)) (goodIn_sub (fun _ h => List.mem_cons_of_mem _ (List.mem_append_right _ h)) (by decide +kernel))
set_option maxRecDepth 20000 in
theorem gX9_ahead_X9_aheadOf : GoodIn wsX9_ahead (wsV RX9 97 RX9 yX9_aheadOf wsX9_aheadOf) := goodIn_app (goodIn_of _ (by decide +kernel)) ggX9_ahead_X9_aheadOf
theorem dX9_ahead_0 : decode cX9_ahead 0 = .ok (.aload_n 0, 1) := by decide +kernel
theorem dX9_ahead_1 : decode cX9_ahead 1 = .ok (.iload_n 1, 1) := by decide +kernel
theorem dX9_ahead_2 : decode cX9_ahead 2 = .ok (.invokevirtual 146, 3) := by decide +kernel
theorem dX9_ahead_5 : decode cX9_ahead 5 = .ok (.ifCond .eq 7, 3) := by decide +kernel
theorem dX9_ahead_8 : decode cX9_ahead 8 = .ok (.iconst 0, 1) := by decide +kernel
theorem dX9_ahead_9 : decode cX9_ahead 9 = .ok (.goto 8, 3) := by decide +kernel
theorem dX9_ahead_12 : decode cX9_ahead 12 = .ok (.aload_n 0, 1) := by decide +kernel
theorem dX9_ahead_13 : decode cX9_ahead 13 = .ok (.iload_n 1, 1) := by decide +kernel
theorem dX9_ahead_14 : decode cX9_ahead 14 = .ok (.invokevirtual 97, 3) := by decide +kernel
theorem dX9_ahead_17 : decode cX9_ahead 17 = .ok (.ireturn, 1) := by decide +kernel
set_option maxRecDepth 20000 in
theorem ggX9_spells_X9_spells : GoodIn wsX9_spells wsX9_spells := goodIn_r _ [0, 1, 2, 3, 4, 5, 6, 7, 8, 9, 10, 11, 12, 13, 14, 15, 16, 17, 18, 19, 20, 21, 22, 23, 24, 25, 26, 27, 28, 29, 30, 31, 32, 33, 34, 35, 36, 37, 38, 39, 40, 41, 42, 43, 44, 45, 46, 47, 48, 49, 50, 51, 52, 53, 54, 55, 56, 57, 58, 59, 60, 61, 62, 63, 64, 65, 66, 67, 68, 69, 70, 71, 72, 73, 74, 75, 76, 77, 78, 79, 80, 81, 82, 83, 84, 85, 86, 87, 88, 89, 90, 91, 92, 93, 94, 95, 96, 97, 98, 99, 100, 101, 102, 103, 104, 105, 106, 107, 108, 109, 110, 111, 112, 113, 114, 115, 116, 117, 118, 119, 120, 121, 122, 123, 124] (by decide +kernel) (by decide +kernel)
set_option maxRecDepth 20000 in
theorem gX9_spells_X9_spells : GoodIn wsX9_spells (va_wsS RX9 158 yX9_spells wsX9_spells) := goodIn_app (goodIn_of _ (by decide +kernel)) ggX9_spells_X9_spells
theorem dX9_spells_0 : decode cX9_spells 0 = .ok (.iload_n 1, 1) := by decide +kernel
theorem dX9_spells_1 : decode cX9_spells 1 = .ok (.bipush 26, 2) := by decide +kernel
theorem dX9_spells_3 : decode cX9_spells 3 = .ok (.if_icmp .le 14, 3) := by decide +kernel
theorem dX9_spells_6 : decode cX9_spells 6 = .ok (.aload_n 0, 1) := by decide +kernel
theorem dX9_spells_7 : decode cX9_spells 7 = .ok (.iload_n 1, 1) := by decide +kernel
theorem dX9_spells_8 : decode cX9_spells 8 = .ok (.iconst 1, 1) := by decide +kernel
theorem dX9_spells_9 : decode cX9_spells 9 = .ok (.isub, 1) := by decide +kernel
theorem dX9_spells_10 : decode cX9_spells 10 = .ok (.bipush 26, 2) := by decide +kernel
theorem dX9_spells_12 : decode cX9_spells 12 = .ok (.idiv, 1) := by decide +kernel
theorem dX9_spells_13 : decode cX9_spells 13 = .ok (.iload_n 2, 1) := by decide +kernel
theorem dX9_spells_14 : decode cX9_spells 14 = .ok (.invokestatic 158, 3) := by decide +kernel
theorem dX9_spells_17 : decode cX9_spells 17 = .ok (.aload_n 0, 1) := by decide +kernel
theorem dX9_spells_18 : decode cX9_spells 18 = .ok (.iload_n 2, 1) := by decide +kernel
theorem dX9_spells_19 : decode cX9_spells 19 = .ok (.iload_n 1, 1) := by decide +kernel
theorem dX9_spells_20 : decode cX9_spells 20 = .ok (.iconst 1, 1) := by decide +kernel
theorem dX9_spells_21 : decode cX9_spells 21 = .ok (.isub, 1) := by decide +kernel
theorem dX9_spells_22 : decode cX9_spells 22 = .ok (.bipush 26, 2) := by decide +kernel
theorem dX9_spells_24 : decode cX9_spells 24 = .ok (.irem, 1) := by decide +kernel
theorem dX9_spells_25 : decode cX9_spells 25 = .ok (.iadd, 1) := by decide +kernel
theorem dX9_spells_26 : decode cX9_spells 26 = .ok (.i2c, 1) := by decide +kernel
theorem dX9_spells_27 : decode cX9_spells 27 = .ok (.invokevirtual 162, 3) := by decide +kernel
theorem dX9_spells_30 : decode cX9_spells 30 = .ok (.pop, 1) := by decide +kernel
theorem dX9_spells_31 : decode cX9_spells 31 = .ok (.return_, 1) := by decide +kernel
theorem dX9_romans_0 : decode cX9_romans 0 = .ok (.bipush 13, 2) := by decide +kernel
theorem dX9_romans_2 : decode cX9_romans 2 = .ok (.newarray .int, 2) := by decide +kernel
theorem dX9_romans_4 : decode cX9_romans 4 = .ok (.dup, 1) := by decide +kernel
theorem dX9_romans_5 : decode cX9_romans 5 = .ok (.iconst 0, 1) := by decide +kernel
theorem dX9_romans_6 : decode cX9_romans 6 = .ok (.sipush 1000, 3) := by decide +kernel
theorem dX9_romans_9 : decode cX9_romans 9 = .ok (.iastore, 1) := by decide +kernel
theorem dX9_romans_10 : decode cX9_romans 10 = .ok (.dup, 1) := by decide +kernel
theorem dX9_romans_11 : decode cX9_romans 11 = .ok (.iconst 1, 1) := by decide +kernel
theorem dX9_romans_12 : decode cX9_romans 12 = .ok (.sipush 900, 3) := by decide +kernel
theorem dX9_romans_15 : decode cX9_romans 15 = .ok (.iastore, 1) := by decide +kernel
theorem dX9_romans_16 : decode cX9_romans 16 = .ok (.dup, 1) := by decide +kernel
theorem dX9_romans_17 : decode cX9_romans 17 = .ok (.iconst 2, 1) := by decide +kernel
theorem dX9_romans_18 : decode cX9_romans 18 = .ok (.sipush 500, 3) := by decide +kernel
theorem dX9_romans_21 : decode cX9_romans 21 = .ok (.iastore, 1) := by decide +kernel
theorem dX9_romans_22 : decode cX9_romans 22 = .ok (.dup, 1) := by decide +kernel
theorem dX9_romans_23 : decode cX9_romans 23 = .ok (.iconst 3, 1) := by decide +kernel
theorem dX9_romans_24 : decode cX9_romans 24 = .ok (.sipush 400, 3) := by decide +kernel
theorem dX9_romans_27 : decode cX9_romans 27 = .ok (.iastore, 1) := by decide +kernel
theorem dX9_romans_28 : decode cX9_romans 28 = .ok (.dup, 1) := by decide +kernel
theorem dX9_romans_29 : decode cX9_romans 29 = .ok (.iconst 4, 1) := by decide +kernel
theorem dX9_romans_30 : decode cX9_romans 30 = .ok (.bipush 100, 2) := by decide +kernel
theorem dX9_romans_32 : decode cX9_romans 32 = .ok (.iastore, 1) := by decide +kernel
theorem dX9_romans_33 : decode cX9_romans 33 = .ok (.dup, 1) := by decide +kernel
theorem dX9_romans_34 : decode cX9_romans 34 = .ok (.iconst 5, 1) := by decide +kernel
theorem dX9_romans_35 : decode cX9_romans 35 = .ok (.bipush 90, 2) := by decide +kernel
theorem dX9_romans_37 : decode cX9_romans 37 = .ok (.iastore, 1) := by decide +kernel
theorem dX9_romans_38 : decode cX9_romans 38 = .ok (.dup, 1) := by decide +kernel
theorem dX9_romans_39 : decode cX9_romans 39 = .ok (.bipush 6, 2) := by decide +kernel
theorem dX9_romans_41 : decode cX9_romans 41 = .ok (.bipush 50, 2) := by decide +kernel
theorem dX9_romans_43 : decode cX9_romans 43 = .ok (.iastore, 1) := by decide +kernel
theorem dX9_romans_44 : decode cX9_romans 44 = .ok (.dup, 1) := by decide +kernel
theorem dX9_romans_45 : decode cX9_romans 45 = .ok (.bipush 7, 2) := by decide +kernel
theorem dX9_romans_47 : decode cX9_romans 47 = .ok (.bipush 40, 2) := by decide +kernel
theorem dX9_romans_49 : decode cX9_romans 49 = .ok (.iastore, 1) := by decide +kernel
theorem dX9_romans_50 : decode cX9_romans 50 = .ok (.dup, 1) := by decide +kernel
theorem dX9_romans_51 : decode cX9_romans 51 = .ok (.bipush 8, 2) := by decide +kernel
theorem dX9_romans_53 : decode cX9_romans 53 = .ok (.bipush 10, 2) := by decide +kernel
theorem dX9_romans_55 : decode cX9_romans 55 = .ok (.iastore, 1) := by decide +kernel
theorem dX9_romans_56 : decode cX9_romans 56 = .ok (.dup, 1) := by decide +kernel
theorem dX9_romans_57 : decode cX9_romans 57 = .ok (.bipush 9, 2) := by decide +kernel
theorem dX9_romans_59 : decode cX9_romans 59 = .ok (.bipush 9, 2) := by decide +kernel
theorem dX9_romans_61 : decode cX9_romans 61 = .ok (.iastore, 1) := by decide +kernel
theorem dX9_romans_62 : decode cX9_romans 62 = .ok (.dup, 1) := by decide +kernel
theorem dX9_romans_63 : decode cX9_romans 63 = .ok (.bipush 10, 2) := by decide +kernel
theorem dX9_romans_65 : decode cX9_romans 65 = .ok (.iconst 5, 1) := by decide +kernel
theorem dX9_romans_66 : decode cX9_romans 66 = .ok (.iastore, 1) := by decide +kernel
theorem dX9_romans_67 : decode cX9_romans 67 = .ok (.dup, 1) := by decide +kernel
theorem dX9_romans_68 : decode cX9_romans 68 = .ok (.bipush 11, 2) := by decide +kernel
theorem dX9_romans_70 : decode cX9_romans 70 = .ok (.iconst 4, 1) := by decide +kernel
theorem dX9_romans_71 : decode cX9_romans 71 = .ok (.iastore, 1) := by decide +kernel
theorem dX9_romans_72 : decode cX9_romans 72 = .ok (.dup, 1) := by decide +kernel
theorem dX9_romans_73 : decode cX9_romans 73 = .ok (.bipush 12, 2) := by decide +kernel
theorem dX9_romans_75 : decode cX9_romans 75 = .ok (.iconst 1, 1) := by decide +kernel
theorem dX9_romans_76 : decode cX9_romans 76 = .ok (.iastore, 1) := by decide +kernel
theorem dX9_romans_77 : decode cX9_romans 77 = .ok (.astore_n 3, 1) := by decide +kernel
theorem dX9_romans_78 : decode cX9_romans 78 = .ok (.bipush 13, 2) := by decide +kernel
theorem dX9_romans_80 : decode cX9_romans 80 = .ok (.anewarray 168, 3) := by decide +kernel
theorem dX9_romans_83 : decode cX9_romans 83 = .ok (.dup, 1) := by decide +kernel
theorem dX9_romans_84 : decode cX9_romans 84 = .ok (.iconst 0, 1) := by decide +kernel
theorem dX9_romans_85 : decode cX9_romans 85 = .ok (.ldc 170, 2) := by decide +kernel
theorem dX9_romans_87 : decode cX9_romans 87 = .ok (.aastore, 1) := by decide +kernel
theorem dX9_romans_88 : decode cX9_romans 88 = .ok (.dup, 1) := by decide +kernel
theorem dX9_romans_89 : decode cX9_romans 89 = .ok (.iconst 1, 1) := by decide +kernel
theorem dX9_romans_90 : decode cX9_romans 90 = .ok (.ldc 172, 2) := by decide +kernel
theorem dX9_romans_92 : decode cX9_romans 92 = .ok (.aastore, 1) := by decide +kernel
theorem dX9_romans_93 : decode cX9_romans 93 = .ok (.dup, 1) := by decide +kernel
theorem dX9_romans_94 : decode cX9_romans 94 = .ok (.iconst 2, 1) := by decide +kernel
theorem dX9_romans_95 : decode cX9_romans 95 = .ok (.ldc 174, 2) := by decide +kernel
theorem dX9_romans_97 : decode cX9_romans 97 = .ok (.aastore, 1) := by decide +kernel
theorem dX9_romans_98 : decode cX9_romans 98 = .ok (.dup, 1) := by decide +kernel
theorem dX9_romans_99 : decode cX9_romans 99 = .ok (.iconst 3, 1) := by decide +kernel
theorem dX9_romans_100 : decode cX9_romans 100 = .ok (.ldc 176, 2) := by decide +kernel
theorem dX9_romans_102 : decode cX9_romans 102 = .ok (.aastore, 1) := by decide +kernel
theorem dX9_romans_103 : decode cX9_romans 103 = .ok (.dup, 1) := by decide +kernel
theorem dX9_romans_104 : decode cX9_romans 104 = .ok (.iconst 4, 1) := by decide +kernel
theorem dX9_romans_105 : decode cX9_romans 105 = .ok (.ldc 178, 2) := by decide +kernel
theorem dX9_romans_107 : decode cX9_romans 107 = .ok (.aastore, 1) := by decide +kernel
theorem dX9_romans_108 : decode cX9_romans 108 = .ok (.dup, 1) := by decide +kernel
theorem dX9_romans_109 : decode cX9_romans 109 = .ok (.iconst 5, 1) := by decide +kernel
theorem dX9_romans_110 : decode cX9_romans 110 = .ok (.ldc 180, 2) := by decide +kernel
theorem dX9_romans_112 : decode cX9_romans 112 = .ok (.aastore, 1) := by decide +kernel
theorem dX9_romans_113 : decode cX9_romans 113 = .ok (.dup, 1) := by decide +kernel
theorem dX9_romans_114 : decode cX9_romans 114 = .ok (.bipush 6, 2) := by decide +kernel
theorem dX9_romans_116 : decode cX9_romans 116 = .ok (.ldc 182, 2) := by decide +kernel
theorem dX9_romans_118 : decode cX9_romans 118 = .ok (.aastore, 1) := by decide +kernel
theorem dX9_romans_119 : decode cX9_romans 119 = .ok (.dup, 1) := by decide +kernel
theorem dX9_romans_120 : decode cX9_romans 120 = .ok (.bipush 7, 2) := by decide +kernel
theorem dX9_romans_122 : decode cX9_romans 122 = .ok (.ldc 184, 2) := by decide +kernel
theorem dX9_romans_124 : decode cX9_romans 124 = .ok (.aastore, 1) := by decide +kernel
theorem dX9_romans_125 : decode cX9_romans 125 = .ok (.dup, 1) := by decide +kernel
theorem dX9_romans_126 : decode cX9_romans 126 = .ok (.bipush 8, 2) := by decide +kernel
theorem dX9_romans_128 : decode cX9_romans 128 = .ok (.ldc 186, 2) := by decide +kernel
theorem dX9_romans_130 : decode cX9_romans 130 = .ok (.aastore, 1) := by decide +kernel
theorem dX9_romans_131 : decode cX9_romans 131 = .ok (.dup, 1) := by decide +kernel
theorem dX9_romans_132 : decode cX9_romans 132 = .ok (.bipush 9, 2) := by decide +kernel
theorem dX9_romans_134 : decode cX9_romans 134 = .ok (.ldc 188, 2) := by decide +kernel
theorem dX9_romans_136 : decode cX9_romans 136 = .ok (.aastore, 1) := by decide +kernel
theorem dX9_romans_137 : decode cX9_romans 137 = .ok (.dup, 1) := by decide +kernel
theorem dX9_romans_138 : decode cX9_romans 138 = .ok (.bipush 10, 2) := by decide +kernel
theorem dX9_romans_140 : decode cX9_romans 140 = .ok (.ldc 190, 2) := by decide +kernel
theorem dX9_romans_142 : decode cX9_romans 142 = .ok (.aastore, 1) := by decide +kernel
theorem dX9_romans_143 : decode cX9_romans 143 = .ok (.dup, 1) := by decide +kernel
theorem dX9_romans_144 : decode cX9_romans 144 = .ok (.bipush 11, 2) := by decide +kernel
theorem dX9_romans_146 : decode cX9_romans 146 = .ok (.ldc 192, 2) := by decide +kernel
theorem dX9_romans_148 : decode cX9_romans 148 = .ok (.aastore, 1) := by decide +kernel
theorem dX9_romans_149 : decode cX9_romans 149 = .ok (.dup, 1) := by decide +kernel
theorem dX9_romans_150 : decode cX9_romans 150 = .ok (.bipush 12, 2) := by decide +kernel
theorem dX9_romans_152 : decode cX9_romans 152 = .ok (.ldc 194, 2) := by decide +kernel
theorem dX9_romans_154 : decode cX9_romans 154 = .ok (.aastore, 1) := by decide +kernel
theorem dX9_romans_155 : decode cX9_romans 155 = .ok (.astore 4, 2) := by decide +kernel
theorem dX9_romans_157 : decode cX9_romans 157 = .ok (.iload_n 1, 1) := by decide +kernel
theorem dX9_romans_158 : decode cX9_romans 158 = .ok (.istore 5, 2) := by decide +kernel
theorem dX9_romans_160 : decode cX9_romans 160 = .ok (.iconst 0, 1) := by decide +kernel
theorem dX9_romans_161 : decode cX9_romans 161 = .ok (.istore 6, 2) := by decide +kernel
theorem dX9_romans_163 : decode cX9_romans 163 = .ok (.iload 6, 2) := by decide +kernel
theorem dX9_romans_165 : decode cX9_romans 165 = .ok (.aload_n 3, 1) := by decide +kernel
theorem dX9_romans_166 : decode cX9_romans 166 = .ok (.arraylength, 1) := by decide +kernel
theorem dX9_romans_167 : decode cX9_romans 167 = .ok (.if_icmp .ge 79, 3) := by decide +kernel
theorem dX9_romans_170 : decode cX9_romans 170 = .ok (.iload 5, 2) := by decide +kernel
theorem dX9_romans_172 : decode cX9_romans 172 = .ok (.aload_n 3, 1) := by decide +kernel
theorem dX9_romans_173 : decode cX9_romans 173 = .ok (.iload 6, 2) := by decide +kernel
theorem dX9_romans_175 : decode cX9_romans 175 = .ok (.iaload, 1) := by decide +kernel
theorem dX9_romans_176 : decode cX9_romans 176 = .ok (.if_icmp .lt 64, 3) := by decide +kernel
theorem dX9_romans_179 : decode cX9_romans 179 = .ok (.iconst 0, 1) := by decide +kernel
theorem dX9_romans_180 : decode cX9_romans 180 = .ok (.istore 7, 2) := by decide +kernel
theorem dX9_romans_182 : decode cX9_romans 182 = .ok (.iload 7, 2) := by decide +kernel
theorem dX9_romans_184 : decode cX9_romans 184 = .ok (.aload 4, 2) := by decide +kernel
theorem dX9_romans_186 : decode cX9_romans 186 = .ok (.iload 6, 2) := by decide +kernel
theorem dX9_romans_188 : decode cX9_romans 188 = .ok (.aaload, 1) := by decide +kernel
theorem dX9_romans_189 : decode cX9_romans 189 = .ok (.invokevirtual 195, 3) := by decide +kernel
theorem dX9_romans_192 : decode cX9_romans 192 = .ok (.if_icmp .ge 36, 3) := by decide +kernel
theorem dX9_romans_195 : decode cX9_romans 195 = .ok (.aload_n 0, 1) := by decide +kernel
theorem dX9_romans_196 : decode cX9_romans 196 = .ok (.aload 4, 2) := by decide +kernel
theorem dX9_romans_198 : decode cX9_romans 198 = .ok (.iload 6, 2) := by decide +kernel
theorem dX9_romans_200 : decode cX9_romans 200 = .ok (.aaload, 1) := by decide +kernel
theorem dX9_romans_201 : decode cX9_romans 201 = .ok (.iload 7, 2) := by decide +kernel
theorem dX9_romans_203 : decode cX9_romans 203 = .ok (.invokevirtual 199, 3) := by decide +kernel
theorem dX9_romans_206 : decode cX9_romans 206 = .ok (.iload_n 2, 1) := by decide +kernel
theorem dX9_romans_207 : decode cX9_romans 207 = .ok (.ifCond .eq 8, 3) := by decide +kernel
theorem dX9_romans_210 : decode cX9_romans 210 = .ok (.bipush 32, 2) := by decide +kernel
theorem dX9_romans_212 : decode cX9_romans 212 = .ok (.goto 4, 3) := by decide +kernel
theorem dX9_romans_215 : decode cX9_romans 215 = .ok (.iconst 0, 1) := by decide +kernel
theorem dX9_romans_216 : decode cX9_romans 216 = .ok (.iadd, 1) := by decide +kernel
theorem dX9_romans_217 : decode cX9_romans 217 = .ok (.i2c, 1) := by decide +kernel
theorem dX9_romans_218 : decode cX9_romans 218 = .ok (.invokevirtual 162, 3) := by decide +kernel
theorem dX9_romans_221 : decode cX9_romans 221 = .ok (.pop, 1) := by decide +kernel
theorem dX9_romans_222 : decode cX9_romans 222 = .ok (.iinc 7 1, 3) := by decide +kernel
theorem dX9_romans_225 : decode cX9_romans 225 = .ok (.goto (-43), 3) := by decide +kernel
theorem dX9_romans_228 : decode cX9_romans 228 = .ok (.iload 5, 2) := by decide +kernel
theorem dX9_romans_230 : decode cX9_romans 230 = .ok (.aload_n 3, 1) := by decide +kernel
theorem dX9_romans_231 : decode cX9_romans 231 = .ok (.iload 6, 2) := by decide +kernel
theorem dX9_romans_233 : decode cX9_romans 233 = .ok (.iaload, 1) := by decide +kernel
theorem dX9_romans_234 : decode cX9_romans 234 = .ok (.isub, 1) := by decide +kernel
theorem dX9_romans_235 : decode cX9_romans 235 = .ok (.istore 5, 2) := by decide +kernel
theorem dX9_romans_237 : decode cX9_romans 237 = .ok (.goto (-67), 3) := by decide +kernel
theorem dX9_romans_240 : decode cX9_romans 240 = .ok (.iinc 6 1, 3) := by decide +kernel
theorem dX9_romans_243 : decode cX9_romans 243 = .ok (.goto (-80), 3) := by decide +kernel
theorem dX9_romans_246 : decode cX9_romans 246 = .ok (.return_, 1) := by decide +kernel
set_option maxRecDepth 20000 in
theorem ggX9_shows_X9_spells : GoodIn wsX9_shows wsX9_spells := goodIn_r _ [108, 105, 106, 107, 109, 110, 111, 8, 112, 113, 114, 12, 115, 14, 116, 16, 17, 22, 23, 24, 25, 26, 27, 28, 29, 30, 31, 32, 33, 34, 35, 36, 37, 38, 39, 40, 41, 42, 43, 44, 45, 46, 47, 48, 49, 50, 51, 52, 53, 54, 55, 56, 57, 58, 59, 60, 61, 62, 63, 64, 65, 66, 67, 68, 69, 117, 118, 119, 120, 121, 122, 123, 124, 125, 126, 127, 77, 128, 129, 130, 131, 132, 133, 134, 135, 136, 137, 138, 139, 140, 141, 83, 84, 85, 142, 143, 88, 144, 90, 145, 146, 93, 147, 100, 101, 102, 79, 103, 104, 148, 149, 150, 151, 152, 153, 154, 155, 156, 157, 158, 159, 216, 217, 218, 219] (by decide +kernel) (by decide +kernel)
set_option maxRecDepth 20000 in
theorem gX9_shows_X9_spells : GoodIn wsX9_shows (va_wsS RX9 158 yX9_spells wsX9_spells) := goodIn_app (goodIn_of _ (by decide +kernel)) ggX9_shows_X9_spells
set_option maxRecDepth 20000 in
theorem ggX9_shows_X9_romans : GoodIn wsX9_shows wsX9_romans := goodIn_ca (goodIn_r _ [162, 163, 164, 165, 166, 167, 88, 168, 169, 170, 171, 172, 173, 174, 175, 176, 177, 178, 179, 180, 181, 182, 183, 184, 185, 119, 186, 187, 155, 156, 90, 157, 158, 93, 159, 188, 189, 77, 190, 151, 152, 153, 83, 84, 85, 154, 191, 192, 193, 79, 103, 104, 109, 110, 111, 8, 112, 113, 114, 12, 115, 14, 116, 16, 17, 22, 23, 24, 25, 26, 27, 28, 29, 30, 31, 32, 33, 34, 35, 36, 37, 38, 39, 40, 41, 42, 43, 44, 45, 46, 47, 48, 49, 50, 51, 52, 53, 54, 55, 56, 57, 58, 59, 60, 61, 62, 63, 64, 65, 66, 67, 68, 69, 117, 118, 120, 121, 122, 123, 124, 125, 126, 127, 128, 129, 130, 131, 132, 133, 134, 135, 136, 137, 138, 139, 140, 141, 142, 143, 144, 145, 146, 147, 100, 101, 102, 148, 149, 150, 220, 221, 222, 223, 216, 217, 218, 219] (by decide +kernel) (by decide +kernel)) (goodIn_sub (fun _ h => List.mem_cons_of_mem _ (List.mem_append_right _ h)) (by decide +kernel))
set_option maxRecDepth 20000 in
theorem gX9_shows_X9_romans : GoodIn wsX9_shows (va_wsS RX9 206 yX9_romans wsX9_romans) := goodIn_app (goodIn_of _ (by decide +kernel)) ggX9_shows_X9_romans
theorem dX9_shows_0 : decode cX9_shows 0 = .ok (.aload_n 0, 1) := by decide +kernel
theorem dX9_shows_1 : decode cX9_shows 1 = .ok (.getfield 46, 3) := by decide +kernel
theorem dX9_shows_4 : decode cX9_shows 4 = .ok (.aload_n 0, 1) := by decide +kernel
theorem dX9_shows_5 : decode cX9_shows 5 = .ok (.getfield 9, 3) := by decide +kernel
theorem dX9_shows_8 : decode cX9_shows 8 = .ok (.iload_n 2, 1) := by decide +kernel
theorem dX9_shows_9 : decode cX9_shows 9 = .ok (.iaload, 1) := by decide +kernel
theorem dX9_shows_10 : decode cX9_shows 10 = .ok (.caload, 1) := by decide +kernel
theorem dX9_shows_11 : decode cX9_shows 11 = .ok (.istore_n 3, 1) := by decide +kernel
theorem dX9_shows_12 : decode cX9_shows 12 = .ok (.aload_n 0, 1) := by decide +kernel
theorem dX9_shows_13 : decode cX9_shows 13 = .ok (.getfield 22, 3) := by decide +kernel
theorem dX9_shows_16 : decode cX9_shows 16 = .ok (.iload_n 2, 1) := by decide +kernel
theorem dX9_shows_17 : decode cX9_shows 17 = .ok (.iaload, 1) := by decide +kernel
theorem dX9_shows_18 : decode cX9_shows 18 = .ok (.ifCond .eq 9, 3) := by decide +kernel
theorem dX9_shows_21 : decode cX9_shows 21 = .ok (.iload_n 3, 1) := by decide +kernel
theorem dX9_shows_22 : decode cX9_shows 22 = .ok (.bipush 100, 2) := by decide +kernel
theorem dX9_shows_24 : decode cX9_shows 24 = .ok (.if_icmp .ne 17, 3) := by decide +kernel
theorem dX9_shows_27 : decode cX9_shows 27 = .ok (.aload_n 1, 1) := by decide +kernel
theorem dX9_shows_28 : decode cX9_shows 28 = .ok (.aload_n 0, 1) := by decide +kernel
theorem dX9_shows_29 : decode cX9_shows 29 = .ok (.getfield 22, 3) := by decide +kernel
theorem dX9_shows_32 : decode cX9_shows 32 = .ok (.iload_n 2, 1) := by decide +kernel
theorem dX9_shows_33 : decode cX9_shows 33 = .ok (.iaload, 1) := by decide +kernel
theorem dX9_shows_34 : decode cX9_shows 34 = .ok (.invokevirtual 203, 3) := by decide +kernel
theorem dX9_shows_37 : decode cX9_shows 37 = .ok (.pop, 1) := by decide +kernel
theorem dX9_shows_38 : decode cX9_shows 38 = .ok (.goto 45, 3) := by decide +kernel
theorem dX9_shows_41 : decode cX9_shows 41 = .ok (.iload_n 3, 1) := by decide +kernel
theorem dX9_shows_42 : decode cX9_shows 42 = .ok (.bipush 108, 2) := by decide +kernel
theorem dX9_shows_44 : decode cX9_shows 44 = .ok (.if_icmp .ne 18, 3) := by decide +kernel
theorem dX9_shows_47 : decode cX9_shows 47 = .ok (.aload_n 1, 1) := by decide +kernel
theorem dX9_shows_48 : decode cX9_shows 48 = .ok (.aload_n 0, 1) := by decide +kernel
theorem dX9_shows_49 : decode cX9_shows 49 = .ok (.getfield 22, 3) := by decide +kernel
theorem dX9_shows_52 : decode cX9_shows 52 = .ok (.iload_n 2, 1) := by decide +kernel
theorem dX9_shows_53 : decode cX9_shows 53 = .ok (.iaload, 1) := by decide +kernel
theorem dX9_shows_54 : decode cX9_shows 54 = .ok (.bipush 97, 2) := by decide +kernel
theorem dX9_shows_56 : decode cX9_shows 56 = .ok (.invokestatic 158, 3) := by decide +kernel
theorem dX9_shows_59 : decode cX9_shows 59 = .ok (.goto 24, 3) := by decide +kernel
theorem dX9_shows_62 : decode cX9_shows 62 = .ok (.aload_n 1, 1) := by decide +kernel
theorem dX9_shows_63 : decode cX9_shows 63 = .ok (.aload_n 0, 1) := by decide +kernel
theorem dX9_shows_64 : decode cX9_shows 64 = .ok (.getfield 22, 3) := by decide +kernel
theorem dX9_shows_67 : decode cX9_shows 67 = .ok (.iload_n 2, 1) := by decide +kernel
theorem dX9_shows_68 : decode cX9_shows 68 = .ok (.iaload, 1) := by decide +kernel
theorem dX9_shows_69 : decode cX9_shows 69 = .ok (.iload_n 3, 1) := by decide +kernel
theorem dX9_shows_70 : decode cX9_shows 70 = .ok (.bipush 114, 2) := by decide +kernel
theorem dX9_shows_72 : decode cX9_shows 72 = .ok (.if_icmp .ne 7, 3) := by decide +kernel
theorem dX9_shows_75 : decode cX9_shows 75 = .ok (.iconst 1, 1) := by decide +kernel
theorem dX9_shows_76 : decode cX9_shows 76 = .ok (.goto 4, 3) := by decide +kernel
theorem dX9_shows_79 : decode cX9_shows 79 = .ok (.iconst 0, 1) := by decide +kernel
theorem dX9_shows_80 : decode cX9_shows 80 = .ok (.invokestatic 206, 3) := by decide +kernel
theorem dX9_shows_83 : decode cX9_shows 83 = .ok (.aload_n 0, 1) := by decide +kernel
theorem dX9_shows_84 : decode cX9_shows 84 = .ok (.getfield 25, 3) := by decide +kernel
theorem dX9_shows_87 : decode cX9_shows 87 = .ok (.iload_n 2, 1) := by decide +kernel
theorem dX9_shows_88 : decode cX9_shows 88 = .ok (.iaload, 1) := by decide +kernel
theorem dX9_shows_89 : decode cX9_shows 89 = .ok (.ifCond .le 15, 3) := by decide +kernel
theorem dX9_shows_92 : decode cX9_shows 92 = .ok (.aload_n 1, 1) := by decide +kernel
theorem dX9_shows_93 : decode cX9_shows 93 = .ok (.aload_n 0, 1) := by decide +kernel
theorem dX9_shows_94 : decode cX9_shows 94 = .ok (.getfield 25, 3) := by decide +kernel
theorem dX9_shows_97 : decode cX9_shows 97 = .ok (.iload_n 2, 1) := by decide +kernel
theorem dX9_shows_98 : decode cX9_shows 98 = .ok (.iaload, 1) := by decide +kernel
theorem dX9_shows_99 : decode cX9_shows 99 = .ok (.bipush 65, 2) := by decide +kernel
theorem dX9_shows_101 : decode cX9_shows 101 = .ok (.invokestatic 158, 3) := by decide +kernel
theorem dX9_shows_104 : decode cX9_shows 104 = .ok (.return_, 1) := by decide +kernel
set_option maxRecDepth 20000 in
theorem ggX9_labels_X9_labels : GoodIn wsX9_labels wsX9_labels := goodIn_ca (goodIn_r _ [0, 1, 2, 3, 4, 5, 6, 7, 8, 9, 10, 11, 12, 13, 14, 15, 16, 17, 18, 19, 20, 21, 22, 23, 24, 25, 26, 27, 28, 29, 30, 31, 32, 33, 34, 35, 36, 37, 38, 39, 40, 41, 42, 43, 44, 45, 46, 47, 48, 49, 50, 51, 52, 53, 54, 55, 56, 57, 58, 59, 60, 61, 62, 63, 64, 65, 66, 67, 68, 69, 70, 71, 72, 73, 74, 75, 76, 77, 78, 79, 80, 81, 82, 83, 84, 85, 86, 87, 88, 89, 90, 91, 92, 93, 94, 95, 96, 97, 98, 99, 100, 101, 102, 103, 104, 105, 106, 107, 108, 109, 110, 111, 112, 113, 114, 115, 116, 117, 118, 119, 120, 121, 122, 123, 124, 125, 126, 127, 128, 129, 130, 131, 132, 133, 134, 135, 136, 137, 138, 139, 140, 141, 142, 143, 144, 145, 146, 147, 148, 149, 150, 151, 152, 153, 154, 155, 156, 157, 158, 159, 160, 161, 162, 163, 164, 165, 166, 167, 168, 169, 170, 171, 172, 173, 174, 175, 176, 177, 178, 179, 180, 181, 182, 183, 184, 185, 186, 187, 188, 189, 190, 191, 192, 193, 194, 195, 196, 197, 198, 199, 200, 201, 202, 203, 204, 205, 206, 207, 208, 209, 210, 211, 212, 213, 214, 215, 216, 217, 218, 219, 220, 221, 222, 223, 224, 225, 226, 227, 228, 229, 230, 231, 232, 233, 234, 235, 236, 237, 238, 239, 240, 241, 242, 243] (by decide +kernel) (by decide +kernel)) (goodIn_sub (fun _ h => List.mem_cons_of_mem _ (List.mem_append_right _ h)) (by decide +kernel))
set_option maxRecDepth 20000 in
theorem gX9_labels_X9_labels : GoodIn wsX9_labels (wsV RX9 210 RX9 yX9_labels wsX9_labels) := goodIn_app (goodIn_of _ (by decide +kernel)) ggX9_labels_X9_labels
set_option maxRecDepth 20000 in
theorem ggX9_labels_X9_isAbove : GoodIn wsX9_labels wsX9_isAbove := goodIn_ca (goodIn_r _ [9, 1, 214, 215, 216, 217, 218, 219, 220, 221, 222, 223, 224, 225, 226, 227, 228, 229, 230, 231, 232, 233, 234, 235] (by decide +kernel) (by decide +kernel)) (goodIn_sub (fun _ h => List.mem_cons_of_mem _ (List.mem_append_right _ h)) (by decide +kernel))
set_option maxRecDepth 20000 in
theorem gX9_labels_X9_isAbove : GoodIn wsX9_labels (wsV RX9 149 RX9 yX9_isAbove wsX9_isAbove) := goodIn_app (goodIn_of _ (by decide +kernel)) ggX9_labels_X9_isAbove
set_option maxRecDepth 20000 in
theorem ggX9_labels_X9_shows : GoodIn wsX9_labels wsX9_shows := goodIn_ca (goodIn_r _ [138, 139, 140, 141, 142, 143, 144, 145, 13, 146, 147, 148, 17, 149, 19, 150, 21, 30, 151, 152, 153, 154, 31, 32, 33, 34, 35, 36, 37, 38, 39, 40, 41, 42, 43, 44, 45, 46, 47, 48, 49, 50, 51, 52, 53, 54, 55, 56, 57, 58, 59, 60, 61, 62, 63, 64, 65, 66, 67, 68, 69, 70, 71, 72, 73, 74, 75, 76, 77, 78, 155, 156, 157, 158, 159, 160, 161, 90, 162, 120, 163, 164, 165, 105, 106, 107, 166, 167, 110, 168, 112, 169, 170, 115, 171, 172, 173, 174, 175, 176, 117, 118, 119, 121, 122, 177, 178, 5, 179, 22, 23, 24, 25, 26, 27, 28, 29, 79, 80, 81, 82, 83, 84, 85, 86, 87, 88, 89, 91, 92, 93, 94, 95, 96, 97, 98, 99, 100, 101, 102, 103, 104, 108, 109, 111, 113, 114, 116, 123, 124, 125, 126, 127, 128, 129, 130, 131, 132, 133, 134, 180, 181, 182, 183, 184, 185, 186, 187, 188, 189, 190, 191, 192, 193, 194, 195, 196, 197, 198, 199, 200, 201, 202, 203, 204, 205, 206, 207, 208, 209, 210, 211, 212, 213, 214, 215, 216, 217, 218, 219, 220, 221, 222, 223, 224, 225, 226, 227, 228, 229, 230, 231, 232, 233, 234, 235, 236, 237, 238, 239, 240, 241, 242, 243] (by decide +kernel) (by decide +kernel)) (goodIn_sub (fun _ h => List.mem_cons_of_mem _ (List.mem_append_right _ h)) (by decide +kernel))
set_option maxRecDepth 20000 in
theorem gX9_labels_X9_shows : GoodIn wsX9_labels (wsV RX9 215 RX9 yX9_shows wsX9_shows) := goodIn_app (goodIn_of _ (by decide +kernel)) ggX9_labels_X9_shows
theorem dX9_labels_0 : decode cX9_labels 0 = .ok (.aload_n 0, 1) := by decide +kernel
theorem dX9_labels_1 : decode cX9_labels 1 = .ok (.getfield 19, 3) := by decide +kernel
theorem dX9_labels_4 : decode cX9_labels 4 = .ok (.iload_n 2, 1) := by decide +kernel
theorem dX9_labels_5 : decode cX9_labels 5 = .ok (.iaload, 1) := by decide +kernel
theorem dX9_labels_6 : decode cX9_labels 6 = .ok (.ifCond .lt 15, 3) := by decide +kernel
theorem dX9_labels_9 : decode cX9_labels 9 = .ok (.aload_n 0, 1) := by decide +kernel
theorem dX9_labels_10 : decode cX9_labels 10 = .ok (.aload_n 1, 1) := by decide +kernel
theorem dX9_labels_11 : decode cX9_labels 11 = .ok (.aload_n 0, 1) := by decide +kernel
theorem dX9_labels_12 : decode cX9_labels 12 = .ok (.getfield 19, 3) := by decide +kernel
theorem dX9_labels_15 : decode cX9_labels 15 = .ok (.iload_n 2, 1) := by decide +kernel
theorem dX9_labels_16 : decode cX9_labels 16 = .ok (.iaload, 1) := by decide +kernel
theorem dX9_labels_17 : decode cX9_labels 17 = .ok (.iload_n 3, 1) := by decide +kernel
theorem dX9_labels_18 : decode cX9_labels 18 = .ok (.invokevirtual 210, 3) := by decide +kernel
theorem dX9_labels_21 : decode cX9_labels 21 = .ok (.iload_n 3, 1) := by decide +kernel
theorem dX9_labels_22 : decode cX9_labels 22 = .ok (.ifCond .lt 18, 3) := by decide +kernel
theorem dX9_labels_25 : decode cX9_labels 25 = .ok (.iload_n 2, 1) := by decide +kernel
theorem dX9_labels_26 : decode cX9_labels 26 = .ok (.iload_n 3, 1) := by decide +kernel
theorem dX9_labels_27 : decode cX9_labels 27 = .ok (.if_icmp .eq 12, 3) := by decide +kernel
theorem dX9_labels_30 : decode cX9_labels 30 = .ok (.aload_n 0, 1) := by decide +kernel
theorem dX9_labels_31 : decode cX9_labels 31 = .ok (.iload_n 2, 1) := by decide +kernel
theorem dX9_labels_32 : decode cX9_labels 32 = .ok (.iload_n 3, 1) := by decide +kernel
theorem dX9_labels_33 : decode cX9_labels 33 = .ok (.invokevirtual 149, 3) := by decide +kernel
theorem dX9_labels_36 : decode cX9_labels 36 = .ok (.ifCond .eq 4, 3) := by decide +kernel
theorem dX9_labels_39 : decode cX9_labels 39 = .ok (.return_, 1) := by decide +kernel
theorem dX9_labels_40 : decode cX9_labels 40 = .ok (.aload_n 1, 1) := by decide +kernel
theorem dX9_labels_41 : decode cX9_labels 41 = .ok (.invokevirtual 214, 3) := by decide +kernel
theorem dX9_labels_44 : decode cX9_labels 44 = .ok (.ifCond .le 10, 3) := by decide +kernel
theorem dX9_labels_47 : decode cX9_labels 47 = .ok (.aload_n 1, 1) := by decide +kernel
theorem dX9_labels_48 : decode cX9_labels 48 = .ok (.bipush 46, 2) := by decide +kernel
theorem dX9_labels_50 : decode cX9_labels 50 = .ok (.invokevirtual 162, 3) := by decide +kernel
theorem dX9_labels_53 : decode cX9_labels 53 = .ok (.pop, 1) := by decide +kernel
theorem dX9_labels_54 : decode cX9_labels 54 = .ok (.aload_n 0, 1) := by decide +kernel
theorem dX9_labels_55 : decode cX9_labels 55 = .ok (.aload_n 1, 1) := by decide +kernel
theorem dX9_labels_56 : decode cX9_labels 56 = .ok (.iload_n 2, 1) := by decide +kernel
theorem dX9_labels_57 : decode cX9_labels 57 = .ok (.invokevirtual 215, 3) := by decide +kernel
theorem dX9_labels_60 : decode cX9_labels 60 = .ok (.return_, 1) := by decide +kernel
set_option maxRecDepth 20000 in
theorem ggX9_label_X9_labels : GoodIn wsX9_label wsX9_labels := goodIn_ca (goodIn_r _ [32, 5, 28, 29, 30, 31, 33, 34, 35, 36, 37, 38, 39, 3, 40, 41, 42, 43, 44, 11, 45, 46, 47, 48, 49, 50, 51, 52, 53, 54, 18, 55, 56, 57, 58, 59, 19, 60, 61, 62, 63, 64, 65, 66, 67, 68, 69, 70, 71, 72, 73, 74, 75, 76, 77, 78, 79, 80, 81, 82, 83, 84, 85, 86, 87, 17, 88, 89, 90, 91, 92, 93, 94, 95, 96, 97, 98, 99, 16, 100, 101, 102, 103, 104, 105, 106, 107, 108, 20, 21, 22, 23, 24, 25, 26, 27, 109, 110, 111, 112, 113, 114, 115, 116, 117, 118, 119, 120, 121, 122, 123, 124, 125, 126, 127, 128, 129, 130, 131, 132, 133, 134, 135, 136, 137, 138, 139, 140, 141, 142, 143, 144, 145, 146, 147, 148, 149, 150, 151, 152, 4, 153, 154, 155, 156, 157, 158, 159, 160, 161, 162, 163, 164, 165, 166, 167, 168, 169, 170, 171, 172, 173, 174, 175, 176, 177, 178, 179, 180, 181, 182, 183, 184, 185, 186, 187, 188, 189, 190, 191, 192, 193, 194, 195, 196, 197, 198, 199, 200, 201, 202, 203, 204, 205, 206, 207, 208, 209, 210, 211, 212, 213, 214, 215, 216, 217, 218, 219, 220, 221, 222, 223, 224, 225, 273, 274, 275, 276, 277, 278, 279, 280, 281, 282, 283, 284, 285, 286, 287, 288, 289, 290, 291, 292, 293, 294, 269, 270, 271, 272, 295, 296, 297, 298] (by decide +kernel) (by decide +kernel)) (goodIn_sub (fun _ h => List.mem_cons_of_mem _ (List.mem_append_right _ h)) (by decide +kernel))
set_option maxRecDepth 20000 in
theorem gX9_label_X9_labels : GoodIn wsX9_label (wsV RX9 210 RX9 yX9_labels wsX9_labels) := goodIn_app (goodIn_of _ (by decide +kernel)) ggX9_label_X9_labels
set_option maxRecDepth 20000 in
theorem ggX9_label_X9_shows : GoodIn wsX9_label wsX9_shows := goodIn_ca (goodIn_r _ [151, 152, 4, 153, 154, 155, 156, 157, 3, 158, 159, 160, 43, 161, 11, 162, 46, 18, 163, 164, 165, 166, 55, 56, 57, 58, 59, 19, 60, 61, 62, 63, 64, 65, 66, 67, 68, 69, 70, 71, 72, 73, 74, 75, 76, 77, 78, 79, 80, 81, 82, 83, 84, 85, 86, 87, 17, 88, 89, 90, 91, 92, 93, 94, 95, 96, 97, 98, 99, 16, 167, 168, 169, 170, 171, 172, 173, 22, 174, 133, 175, 176, 177, 118, 119, 120, 178, 179, 123, 180, 125, 181, 182, 128, 183, 184, 185, 186, 187, 188, 130, 131, 132, 134, 135, 189, 190, 31, 191, 47, 48, 49, 50, 51, 52, 53, 54, 100, 101, 102, 103, 104, 105, 106, 107, 108, 20, 21, 23, 24, 25, 26, 27, 109, 110, 111, 112, 113, 114, 115, 116, 117, 121, 122, 124, 126, 127, 129, 136, 137, 138, 139, 140, 141, 142, 143, 144, 145, 146, 147, 192, 193, 194, 195, 196, 197, 198, 199, 200, 201, 202, 203, 204, 205, 206, 207, 208, 209, 210, 211, 212, 213, 214, 215, 216, 217, 218, 219, 220, 221, 222, 223, 224, 225, 273, 274, 275, 276, 277, 278, 279, 280, 281, 282, 283, 284, 285, 286, 287, 288, 289, 290, 291, 292, 293, 294, 269, 270, 271, 272, 295, 296, 297, 298] (by decide +kernel) (by decide +kernel)) (goodIn_sub (fun _ h => List.mem_cons_of_mem _ (List.mem_append_right _ h)) (by decide +kernel))
set_option maxRecDepth 20000 in
theorem gX9_label_X9_shows : GoodIn wsX9_label (wsV RX9 215 RX9 yX9_shows wsX9_shows) := goodIn_app (goodIn_of _ (by decide +kernel)) ggX9_label_X9_shows
theorem dX9_label_0 : decode cX9_label 0 = .ok (.new 163, 3) := by decide +kernel
theorem dX9_label_3 : decode cX9_label 3 = .ok (.dup, 1) := by decide +kernel
theorem dX9_label_4 : decode cX9_label 4 = .ok (.invokespecial 219, 3) := by decide +kernel
theorem dX9_label_7 : decode cX9_label 7 = .ok (.astore_n 3, 1) := by decide +kernel
theorem dX9_label_8 : decode cX9_label 8 = .ok (.aload_n 0, 1) := by decide +kernel
theorem dX9_label_9 : decode cX9_label 9 = .ok (.getfield 9, 3) := by decide +kernel
theorem dX9_label_12 : decode cX9_label 12 = .ok (.iload_n 1, 1) := by decide +kernel
theorem dX9_label_13 : decode cX9_label 13 = .ok (.iaload, 1) := by decide +kernel
theorem dX9_label_14 : decode cX9_label 14 = .ok (.ifCond .ne 6, 3) := by decide +kernel
theorem dX9_label_17 : decode cX9_label 17 = .ok (.ldc 220, 2) := by decide +kernel
theorem dX9_label_19 : decode cX9_label 19 = .ok (.areturn, 1) := by decide +kernel
theorem dX9_label_20 : decode cX9_label 20 = .ok (.aload_n 0, 1) := by decide +kernel
theorem dX9_label_21 : decode cX9_label 21 = .ok (.getfield 19, 3) := by decide +kernel
theorem dX9_label_24 : decode cX9_label 24 = .ok (.iload_n 1, 1) := by decide +kernel
theorem dX9_label_25 : decode cX9_label 25 = .ok (.iaload, 1) := by decide +kernel
theorem dX9_label_26 : decode cX9_label 26 = .ok (.ifCond .lt 15, 3) := by decide +kernel
theorem dX9_label_29 : decode cX9_label 29 = .ok (.aload_n 0, 1) := by decide +kernel
theorem dX9_label_30 : decode cX9_label 30 = .ok (.aload_n 3, 1) := by decide +kernel
theorem dX9_label_31 : decode cX9_label 31 = .ok (.aload_n 0, 1) := by decide +kernel
theorem dX9_label_32 : decode cX9_label 32 = .ok (.getfield 19, 3) := by decide +kernel
theorem dX9_label_35 : decode cX9_label 35 = .ok (.iload_n 1, 1) := by decide +kernel
theorem dX9_label_36 : decode cX9_label 36 = .ok (.iaload, 1) := by decide +kernel
theorem dX9_label_37 : decode cX9_label 37 = .ok (.iload_n 2, 1) := by decide +kernel
theorem dX9_label_38 : decode cX9_label 38 = .ok (.invokevirtual 210, 3) := by decide +kernel
theorem dX9_label_41 : decode cX9_label 41 = .ok (.aload_n 3, 1) := by decide +kernel
theorem dX9_label_42 : decode cX9_label 42 = .ok (.invokevirtual 214, 3) := by decide +kernel
theorem dX9_label_45 : decode cX9_label 45 = .ok (.ifCond .le 10, 3) := by decide +kernel
theorem dX9_label_48 : decode cX9_label 48 = .ok (.aload_n 3, 1) := by decide +kernel
theorem dX9_label_49 : decode cX9_label 49 = .ok (.bipush 46, 2) := by decide +kernel
theorem dX9_label_51 : decode cX9_label 51 = .ok (.invokevirtual 162, 3) := by decide +kernel
theorem dX9_label_54 : decode cX9_label 54 = .ok (.pop, 1) := by decide +kernel
theorem dX9_label_55 : decode cX9_label 55 = .ok (.aload_n 0, 1) := by decide +kernel
theorem dX9_label_56 : decode cX9_label 56 = .ok (.aload_n 3, 1) := by decide +kernel
theorem dX9_label_57 : decode cX9_label 57 = .ok (.iload_n 1, 1) := by decide +kernel
theorem dX9_label_58 : decode cX9_label 58 = .ok (.invokevirtual 215, 3) := by decide +kernel
theorem dX9_label_61 : decode cX9_label 61 = .ok (.aload_n 3, 1) := by decide +kernel
theorem dX9_label_62 : decode cX9_label 62 = .ok (.invokevirtual 222, 3) := by decide +kernel
theorem dX9_label_65 : decode cX9_label 65 = .ok (.areturn, 1) := by decide +kernel
set_option maxRecDepth 20000 in
theorem ggX9_labelLength_X9_isPlain : GoodIn wsX9_labelLength wsX9_isPlain := goodIn_ca (goodIn_r _ [5, 6, 7, 8, 9, 10, 4, 11, 12, 13, 14, 15, 16, 17, 18, 19, 20, 291, 292, 293, 294, 295, 296, 297, 298, 299, 300, 301, 302, 303, 304, 305, 306, 307, 308, 309, 310, 311, 312] (by decide +kernel) (by decide +kernel)) (goodIn_sub (fun _ h => List.mem_cons_of_mem _ (List.mem_append_right _ h)) (by decide +kernel))
set_option maxRecDepth 20000 in
theorem gX9_labelLength_X9_isPlain : GoodIn wsX9_labelLength (wsV RX9 146 RX9 yX9_isPlain wsX9_isPlain) := goodIn_app (goodIn_of _ (by decide +kernel)) ggX9_labelLength_X9_isPlain
set_option maxRecDepth 20000 in
theorem ggX9_labelLength_X9_label : GoodIn wsX9_labelLength wsX9_label := goodIn_ca (goodIn_r _ [24, 25, 26, 27, 6, 28, 29, 30, 31, 32, 33, 34, 35, 36, 37, 38, 39, 40, 41, 42, 43, 44, 45, 46, 47, 48, 49, 50, 51, 52, 53, 4, 54, 55, 56, 57, 58, 59, 60, 61, 62, 63, 64, 65, 66, 67, 68, 69, 70, 71, 72, 73, 74, 75, 76, 77, 78, 79, 80, 81, 82, 83, 84, 85, 86, 87, 88, 89, 90, 91, 92, 93, 94, 95, 96, 97, 98, 99, 100, 101, 102, 103, 104, 105, 106, 107, 108, 109, 110, 111, 112, 113, 114, 115, 116, 117, 118, 119, 120, 121, 122, 123, 124, 125, 126, 127, 128, 129, 130, 131, 132, 133, 134, 135, 136, 137, 138, 139, 140, 141, 142, 143, 144, 145, 146, 147, 148, 149, 150, 151, 152, 153, 154, 155, 156, 157, 158, 159, 160, 161, 162, 163, 164, 165, 166, 167, 168, 169, 170, 171, 172, 173, 174, 175, 176, 177, 178, 179, 180, 181, 182, 183, 184, 185, 186, 187, 188, 189, 190, 191, 192, 193, 194, 195, 196, 197, 198, 199, 200, 201, 202, 203, 204, 205, 206, 207, 208, 209, 210, 211, 212, 213, 214, 215, 216, 217, 218, 219, 220, 221, 222, 223, 224, 225, 226, 227, 228, 229, 230, 231, 232, 233, 234, 235, 236, 237, 238, 239, 240, 241, 242, 243, 244, 245, 246, 247, 248, 249, 250, 251, 252, 253, 254, 255, 256, 257, 258, 259, 260, 261, 262, 263, 264, 265, 266, 267, 268, 269, 270, 271, 272, 273, 274, 275, 276, 277, 278, 279, 280, 281, 282, 283, 284, 285, 286, 287, 288, 289, 290, 313, 314, 315, 316, 291, 292, 293, 294, 295, 296, 297, 298, 299, 300, 301, 302, 303, 304, 305, 306, 307, 308, 309, 310, 311, 312, 317, 318, 319, 320] (by decide +kernel) (by decide +kernel)) (goodIn_sub (fun _ h => List.mem_cons_of_mem _ (List.mem_append_right _ h)) (by decide +kernel))
set_option maxRecDepth 20000 in
theorem gX9_labelLength_X9_label : GoodIn wsX9_labelLength (wsV RX9 226 RX9 yX9_label wsX9_label) := goodIn_app (goodIn_of _ (by decide +kernel)) ggX9_labelLength_X9_label
theorem dX9_labelLength_0 : decode cX9_labelLength 0 = .ok (.aload_n 0, 1) := by decide +kernel
theorem dX9_labelLength_1 : decode cX9_labelLength 1 = .ok (.iload_n 1, 1) := by decide +kernel
theorem dX9_labelLength_2 : decode cX9_labelLength 2 = .ok (.invokevirtual 146, 3) := by decide +kernel
theorem dX9_labelLength_5 : decode cX9_labelLength 5 = .ok (.ifCond .eq 7, 3) := by decide +kernel
theorem dX9_labelLength_8 : decode cX9_labelLength 8 = .ok (.iconst 0, 1) := by decide +kernel
theorem dX9_labelLength_9 : decode cX9_labelLength 9 = .ok (.goto 12, 3) := by decide +kernel
theorem dX9_labelLength_12 : decode cX9_labelLength 12 = .ok (.aload_n 0, 1) := by decide +kernel
theorem dX9_labelLength_13 : decode cX9_labelLength 13 = .ok (.iload_n 1, 1) := by decide +kernel
theorem dX9_labelLength_14 : decode cX9_labelLength 14 = .ok (.iconst (-1), 1) := by decide +kernel
theorem dX9_labelLength_15 : decode cX9_labelLength 15 = .ok (.invokevirtual 226, 3) := by decide +kernel
theorem dX9_labelLength_18 : decode cX9_labelLength 18 = .ok (.invokevirtual 195, 3) := by decide +kernel
theorem dX9_labelLength_21 : decode cX9_labelLength 21 = .ok (.ireturn, 1) := by decide +kernel
set_option maxRecDepth 20000 in
theorem ggX9_labelAt_X9_isPlain : GoodIn wsX9_labelAt wsX9_isPlain := goodIn_ca (goodIn_r _ [5, 6, 7, 8, 9, 10, 4, 11, 12, 13, 14, 15, 16, 17, 18, 19, 20, 295, 296, 297, 298, 299, 300, 301, 302, 303, 304, 305, 306, 307, 308, 309, 310, 311, 312, 313, 314, 315, 316] (by decide +kernel) (by decide +kernel)) (goodIn_sub (fun _ h => List.mem_cons_of_mem _ (List.mem_append_right _ h)) (by decide +kernel))
set_option maxRecDepth 20000 in
theorem gX9_labelAt_X9_isPlain : GoodIn wsX9_labelAt (wsV RX9 146 RX9 yX9_isPlain wsX9_isPlain) := goodIn_app (goodIn_of _ (by decide +kernel)) ggX9_labelAt_X9_isPlain
set_option maxRecDepth 20000 in
theorem ggX9_labelAt_X9_label : GoodIn wsX9_labelAt wsX9_label := goodIn_ca (goodIn_r _ [24, 25, 26, 27, 6, 28, 29, 30, 31, 32, 33, 34, 35, 36, 37, 38, 39, 40, 41, 42, 43, 44, 45, 46, 47, 48, 49, 50, 51, 52, 53, 4, 54, 55, 56, 57, 58, 59, 60, 61, 62, 63, 64, 65, 66, 67, 68, 69, 70, 71, 72, 73, 74, 75, 76, 77, 78, 79, 80, 81, 82, 83, 84, 85, 86, 87, 88, 89, 90, 91, 92, 93, 94, 95, 96, 97, 98, 99, 100, 101, 102, 103, 104, 105, 106, 107, 108, 109, 110, 111, 112, 113, 114, 115, 116, 117, 118, 119, 120, 121, 122, 123, 124, 125, 126, 127, 128, 129, 130, 131, 132, 133, 134, 135, 136, 137, 138, 139, 140, 141, 142, 143, 144, 145, 146, 147, 148, 149, 150, 151, 152, 153, 154, 155, 156, 157, 158, 159, 160, 161, 162, 163, 164, 165, 166, 167, 168, 169, 170, 171, 172, 173, 174, 175, 176, 177, 178, 179, 180, 181, 182, 183, 184, 185, 186, 187, 188, 189, 190, 191, 192, 193, 194, 195, 196, 197, 198, 199, 200, 201, 202, 203, 204, 205, 206, 207, 208, 209, 210, 211, 212, 213, 214, 215, 216, 217, 218, 219, 220, 221, 222, 223, 224, 225, 226, 227, 228, 229, 230, 231, 232, 233, 234, 235, 236, 237, 238, 239, 240, 241, 242, 243, 244, 245, 246, 247, 248, 249, 250, 251, 252, 253, 254, 255, 256, 257, 258, 259, 260, 261, 262, 263, 264, 265, 266, 267, 268, 269, 270, 271, 272, 273, 274, 275, 276, 277, 278, 279, 280, 281, 282, 283, 284, 285, 286, 287, 288, 289, 290, 317, 318, 319, 320, 295, 296, 297, 298, 299, 300, 301, 302, 303, 304, 305, 306, 307, 308, 309, 310, 311, 312, 313, 314, 315, 316, 321, 322, 323, 324] (by decide +kernel) (by decide +kernel)) (goodIn_sub (fun _ h => List.mem_cons_of_mem _ (List.mem_append_right _ h)) (by decide +kernel))
set_option maxRecDepth 20000 in
theorem gX9_labelAt_X9_label : GoodIn wsX9_labelAt (wsV RX9 226 RX9 yX9_label wsX9_label) := goodIn_app (goodIn_of _ (by decide +kernel)) ggX9_labelAt_X9_label
set_option maxRecDepth 20000 in
theorem ggX9_labelAt_X9_isBetween : GoodIn wsX9_labelAt wsX9_isBetween := goodIn_r _ [20] (by decide +kernel) (by decide +kernel)
set_option maxRecDepth 20000 in
theorem gX9_labelAt_X9_isBetween : GoodIn wsX9_labelAt (va_wsS RX9 72 yX9_isBetween wsX9_isBetween) := goodIn_app (goodIn_of _ (by decide +kernel)) ggX9_labelAt_X9_isBetween
set_option maxRecDepth 20000 in
theorem ggX9_labelAt_X9_fails : GoodIn wsX9_labelAt wsX9_fails := goodIn_r _ [294, 7, 295, 296, 297, 298, 299, 300, 301, 302, 303, 304, 305, 306, 307, 308, 309, 310, 311, 312, 313, 314, 315, 316] (by decide +kernel) (by decide +kernel)
set_option maxRecDepth 20000 in
theorem gX9_labelAt_X9_fails : GoodIn wsX9_labelAt (wsV RX9 119 RX9 yX9_fails wsX9_fails) := goodIn_app (goodIn_of _ (by decide +kernel)) ggX9_labelAt_X9_fails
theorem dX9_labelAt_0 : decode cX9_labelAt 0 = .ok (.aload_n 0, 1) := by decide +kernel
theorem dX9_labelAt_1 : decode cX9_labelAt 1 = .ok (.iload_n 1, 1) := by decide +kernel
theorem dX9_labelAt_2 : decode cX9_labelAt 2 = .ok (.invokevirtual 146, 3) := by decide +kernel
theorem dX9_labelAt_5 : decode cX9_labelAt 5 = .ok (.ifCond .eq 5, 3) := by decide +kernel
theorem dX9_labelAt_8 : decode cX9_labelAt 8 = .ok (.iconst 0, 1) := by decide +kernel
theorem dX9_labelAt_9 : decode cX9_labelAt 9 = .ok (.ireturn, 1) := by decide +kernel
theorem dX9_labelAt_10 : decode cX9_labelAt 10 = .ok (.aload_n 0, 1) := by decide +kernel
theorem dX9_labelAt_11 : decode cX9_labelAt 11 = .ok (.iload_n 1, 1) := by decide +kernel
theorem dX9_labelAt_12 : decode cX9_labelAt 12 = .ok (.iconst (-1), 1) := by decide +kernel
theorem dX9_labelAt_13 : decode cX9_labelAt 13 = .ok (.invokevirtual 226, 3) := by decide +kernel
theorem dX9_labelAt_16 : decode cX9_labelAt 16 = .ok (.astore_n 3, 1) := by decide +kernel
theorem dX9_labelAt_17 : decode cX9_labelAt 17 = .ok (.iload_n 2, 1) := by decide +kernel
theorem dX9_labelAt_18 : decode cX9_labelAt 18 = .ok (.iconst 0, 1) := by decide +kernel
theorem dX9_labelAt_19 : decode cX9_labelAt 19 = .ok (.aload_n 3, 1) := by decide +kernel
theorem dX9_labelAt_20 : decode cX9_labelAt 20 = .ok (.invokevirtual 195, 3) := by decide +kernel
theorem dX9_labelAt_23 : decode cX9_labelAt 23 = .ok (.iconst 1, 1) := by decide +kernel
theorem dX9_labelAt_24 : decode cX9_labelAt 24 = .ok (.isub, 1) := by decide +kernel
theorem dX9_labelAt_25 : decode cX9_labelAt 25 = .ok (.invokestatic 72, 3) := by decide +kernel
theorem dX9_labelAt_28 : decode cX9_labelAt 28 = .ok (.ifCond .eq 11, 3) := by decide +kernel
theorem dX9_labelAt_31 : decode cX9_labelAt 31 = .ok (.aload_n 3, 1) := by decide +kernel
theorem dX9_labelAt_32 : decode cX9_labelAt 32 = .ok (.iload_n 2, 1) := by decide +kernel
theorem dX9_labelAt_33 : decode cX9_labelAt 33 = .ok (.invokevirtual 199, 3) := by decide +kernel
theorem dX9_labelAt_36 : decode cX9_labelAt 36 = .ok (.goto 9, 3) := by decide +kernel
theorem dX9_labelAt_39 : decode cX9_labelAt 39 = .ok (.aload_n 0, 1) := by decide +kernel
theorem dX9_labelAt_40 : decode cX9_labelAt 40 = .ok (.iconst 3, 1) := by decide +kernel
theorem dX9_labelAt_41 : decode cX9_labelAt 41 = .ok (.invokevirtual 119, 3) := by decide +kernel
theorem dX9_labelAt_44 : decode cX9_labelAt 44 = .ok (.i2c, 1) := by decide +kernel
theorem dX9_labelAt_45 : decode cX9_labelAt 45 = .ok (.ireturn, 1) := by decide +kernel
set_option maxRecDepth 20000 in
theorem ggX9_find_X9_isLevel : GoodIn wsX9_find wsX9_isLevel := goodIn_r _ [10, 11, 12, 9, 13] (by decide +kernel) (by decide +kernel)
set_option maxRecDepth 20000 in
theorem gX9_find_X9_isLevel : GoodIn wsX9_find (va_wsS RX9 136 yX9_isLevel wsX9_isLevel) := goodIn_app (goodIn_of _ (by decide +kernel)) ggX9_find_X9_isLevel
set_option maxRecDepth 20000 in
theorem ggX9_find_X9_fails : GoodIn wsX9_find wsX9_fails := goodIn_r _ [17, 1, 18, 19, 20, 21, 22, 23, 24, 25, 26, 27, 28, 29, 30, 31, 32, 33, 34, 35, 36, 37, 38, 39] (by decide +kernel) (by decide +kernel)
set_option maxRecDepth 20000 in
theorem gX9_find_X9_fails : GoodIn wsX9_find (wsV RX9 119 RX9 yX9_fails wsX9_fails) := goodIn_app (goodIn_of _ (by decide +kernel)) ggX9_find_X9_fails
theorem dX9_find_0 : decode cX9_find 0 = .ok (.aload_n 0, 1) := by decide +kernel
theorem dX9_find_1 : decode cX9_find 1 = .ok (.iconst 0, 1) := by decide +kernel
theorem dX9_find_2 : decode cX9_find 2 = .ok (.putfield 65, 3) := by decide +kernel
theorem dX9_find_5 : decode cX9_find 5 = .ok (.iload_n 1, 1) := by decide +kernel
theorem dX9_find_6 : decode cX9_find 6 = .ok (.invokestatic 136, 3) := by decide +kernel
theorem dX9_find_9 : decode cX9_find 9 = .ok (.ifCond .ne 9, 3) := by decide +kernel
theorem dX9_find_12 : decode cX9_find 12 = .ok (.aload_n 0, 1) := by decide +kernel
theorem dX9_find_13 : decode cX9_find 13 = .ok (.iconst 1, 1) := by decide +kernel
theorem dX9_find_14 : decode cX9_find 14 = .ok (.invokevirtual 119, 3) := by decide +kernel
theorem dX9_find_17 : decode cX9_find 17 = .ok (.ireturn, 1) := by decide +kernel
theorem dX9_find_18 : decode cX9_find 18 = .ok (.iconst 0, 1) := by decide +kernel
theorem dX9_find_19 : decode cX9_find 19 = .ok (.istore_n 3, 1) := by decide +kernel
theorem dX9_find_20 : decode cX9_find 20 = .ok (.iload_n 3, 1) := by decide +kernel
theorem dX9_find_21 : decode cX9_find 21 = .ok (.aload_n 0, 1) := by decide +kernel
theorem dX9_find_22 : decode cX9_find 22 = .ok (.getfield 91, 3) := by decide +kernel
theorem dX9_find_25 : decode cX9_find 25 = .ok (.if_icmp .ge 52, 3) := by decide +kernel
theorem dX9_find_28 : decode cX9_find 28 = .ok (.aload_n 0, 1) := by decide +kernel
theorem dX9_find_29 : decode cX9_find 29 = .ok (.getfield 31, 3) := by decide +kernel
theorem dX9_find_32 : decode cX9_find 32 = .ok (.iload_n 3, 1) := by decide +kernel
theorem dX9_find_33 : decode cX9_find 33 = .ok (.iaload, 1) := by decide +kernel
theorem dX9_find_34 : decode cX9_find 34 = .ok (.istore 4, 2) := by decide +kernel
theorem dX9_find_36 : decode cX9_find 36 = .ok (.aload_n 0, 1) := by decide +kernel
theorem dX9_find_37 : decode cX9_find 37 = .ok (.getfield 9, 3) := by decide +kernel
theorem dX9_find_40 : decode cX9_find 40 = .ok (.iload 4, 2) := by decide +kernel
theorem dX9_find_42 : decode cX9_find 42 = .ok (.iaload, 1) := by decide +kernel
theorem dX9_find_43 : decode cX9_find 43 = .ok (.iload_n 1, 1) := by decide +kernel
theorem dX9_find_44 : decode cX9_find 44 = .ok (.if_icmp .ne 27, 3) := by decide +kernel
theorem dX9_find_47 : decode cX9_find 47 = .ok (.aload_n 0, 1) := by decide +kernel
theorem dX9_find_48 : decode cX9_find 48 = .ok (.getfield 22, 3) := by decide +kernel
theorem dX9_find_51 : decode cX9_find 51 = .ok (.iload 4, 2) := by decide +kernel
theorem dX9_find_53 : decode cX9_find 53 = .ok (.iaload, 1) := by decide +kernel
theorem dX9_find_54 : decode cX9_find 54 = .ok (.iload_n 2, 1) := by decide +kernel
theorem dX9_find_55 : decode cX9_find 55 = .ok (.if_icmp .ne 16, 3) := by decide +kernel
theorem dX9_find_58 : decode cX9_find 58 = .ok (.aload_n 0, 1) := by decide +kernel
theorem dX9_find_59 : decode cX9_find 59 = .ok (.getfield 25, 3) := by decide +kernel
theorem dX9_find_62 : decode cX9_find 62 = .ok (.iload 4, 2) := by decide +kernel
theorem dX9_find_64 : decode cX9_find 64 = .ok (.iaload, 1) := by decide +kernel
theorem dX9_find_65 : decode cX9_find 65 = .ok (.ifCond .ne 6, 3) := by decide +kernel
theorem dX9_find_68 : decode cX9_find 68 = .ok (.iload 4, 2) := by decide +kernel
theorem dX9_find_70 : decode cX9_find 70 = .ok (.ireturn, 1) := by decide +kernel
theorem dX9_find_71 : decode cX9_find 71 = .ok (.iinc 3 1, 3) := by decide +kernel
theorem dX9_find_74 : decode cX9_find 74 = .ok (.goto (-54), 3) := by decide +kernel
theorem dX9_find_77 : decode cX9_find 77 = .ok (.aload_n 0, 1) := by decide +kernel
theorem dX9_find_78 : decode cX9_find 78 = .ok (.iconst 2, 1) := by decide +kernel
theorem dX9_find_79 : decode cX9_find 79 = .ok (.invokevirtual 119, 3) := by decide +kernel
theorem dX9_find_82 : decode cX9_find 82 = .ok (.ireturn, 1) := by decide +kernel
set_option maxRecDepth 20000 in
theorem ggX9_isReference_X9_isBetween : GoodIn wsX9_isReference wsX9_isBetween := goodIn_r _ [5] (by decide +kernel) (by decide +kernel)
set_option maxRecDepth 20000 in
theorem gX9_isReference_X9_isBetween : GoodIn wsX9_isReference (va_wsS RX9 72 yX9_isBetween wsX9_isBetween) := goodIn_app (goodIn_of _ (by decide +kernel)) ggX9_isReference_X9_isBetween
theorem dX9_isReference_0 : decode cX9_isReference 0 = .ok (.iload_n 1, 1) := by decide +kernel
theorem dX9_isReference_1 : decode cX9_isReference 1 = .ok (.iconst 0, 1) := by decide +kernel
theorem dX9_isReference_2 : decode cX9_isReference 2 = .ok (.aload_n 0, 1) := by decide +kernel
theorem dX9_isReference_3 : decode cX9_isReference 3 = .ok (.getfield 230, 3) := by decide +kernel
theorem dX9_isReference_6 : decode cX9_isReference 6 = .ok (.iconst 1, 1) := by decide +kernel
theorem dX9_isReference_7 : decode cX9_isReference 7 = .ok (.isub, 1) := by decide +kernel
theorem dX9_isReference_8 : decode cX9_isReference 8 = .ok (.invokestatic 72, 3) := by decide +kernel
theorem dX9_isReference_11 : decode cX9_isReference 11 = .ok (.ireturn, 1) := by decide +kernel
set_option maxRecDepth 20000 in
theorem ggX9_isCut_X9_isThere : GoodIn wsX9_isCut wsX9_isThere := goodIn_ca (goodIn_r _ [7, 8, 9, 10, 11, 6, 12, 13, 14, 15, 16, 17, 18, 19, 20, 21, 22, 23, 24, 25, 26, 27, 28, 29, 30, 31, 32, 33, 34] (by decide +kernel) (by decide +kernel)) (goodIn_sub (fun _ h => List.mem_cons_of_mem _ (List.mem_append_right _ h)) (by decide +kernel))
set_option maxRecDepth 20000 in
theorem gX9_isCut_X9_isThere : GoodIn wsX9_isCut (wsV RX9 76 RX9 yX9_isThere wsX9_isThere) := goodIn_app (goodIn_of _ (by decide +kernel)) ggX9_isCut_X9_isThere
theorem dX9_isCut_0 : decode cX9_isCut 0 = .ok (.aload_n 0, 1) := by decide +kernel
theorem dX9_isCut_1 : decode cX9_isCut 1 = .ok (.aload_n 0, 1) := by decide +kernel
theorem dX9_isCut_2 : decode cX9_isCut 2 = .ok (.getfield 59, 3) := by decide +kernel
theorem dX9_isCut_5 : decode cX9_isCut 5 = .ok (.iload_n 1, 1) := by decide +kernel
theorem dX9_isCut_6 : decode cX9_isCut 6 = .ok (.iaload, 1) := by decide +kernel
theorem dX9_isCut_7 : decode cX9_isCut 7 = .ok (.invokevirtual 76, 3) := by decide +kernel
theorem dX9_isCut_10 : decode cX9_isCut 10 = .ok (.ifCond .eq 16, 3) := by decide +kernel
theorem dX9_isCut_13 : decode cX9_isCut 13 = .ok (.aload_n 0, 1) := by decide +kernel
theorem dX9_isCut_14 : decode cX9_isCut 14 = .ok (.aload_n 0, 1) := by decide +kernel
theorem dX9_isCut_15 : decode cX9_isCut 15 = .ok (.getfield 62, 3) := by decide +kernel
theorem dX9_isCut_18 : decode cX9_isCut 18 = .ok (.iload_n 1, 1) := by decide +kernel
theorem dX9_isCut_19 : decode cX9_isCut 19 = .ok (.iaload, 1) := by decide +kernel
theorem dX9_isCut_20 : decode cX9_isCut 20 = .ok (.invokevirtual 76, 3) := by decide +kernel
theorem dX9_isCut_23 : decode cX9_isCut 23 = .ok (.ifCond .ne 7, 3) := by decide +kernel
theorem dX9_isCut_26 : decode cX9_isCut 26 = .ok (.iconst 1, 1) := by decide +kernel
theorem dX9_isCut_27 : decode cX9_isCut 27 = .ok (.goto 4, 3) := by decide +kernel
theorem dX9_isCut_30 : decode cX9_isCut 30 = .ok (.iconst 0, 1) := by decide +kernel
theorem dX9_isCut_31 : decode cX9_isCut 31 = .ok (.ireturn, 1) := by decide +kernel
set_option maxRecDepth 20000 in
theorem ggX9_refer_X9_isThere : GoodIn wsX9_refer wsX9_isThere := goodIn_ca (goodIn_r _ [10, 11, 12, 13, 14, 9, 15, 20, 21, 22, 23, 24, 25, 26, 27, 28, 29, 30, 31, 32, 33, 34, 35, 36, 37, 38, 39, 40, 41] (by decide +kernel) (by decide +kernel)) (goodIn_sub (fun _ h => List.mem_cons_of_mem _ (List.mem_append_right _ h)) (by decide +kernel))
set_option maxRecDepth 20000 in
theorem gX9_refer_X9_isThere : GoodIn wsX9_refer (wsV RX9 76 RX9 yX9_isThere wsX9_isThere) := goodIn_app (goodIn_of _ (by decide +kernel)) ggX9_refer_X9_isThere
set_option maxRecDepth 20000 in
theorem ggX9_refer_X9_fails : GoodIn wsX9_refer wsX9_fails := goodIn_r _ [19, 1, 20, 21, 22, 23, 24, 25, 26, 27, 28, 29, 30, 31, 32, 33, 34, 35, 36, 37, 38, 39, 40, 41] (by decide +kernel) (by decide +kernel)
set_option maxRecDepth 20000 in
theorem gX9_refer_X9_fails : GoodIn wsX9_refer (wsV RX9 119 RX9 yX9_fails wsX9_fails) := goodIn_app (goodIn_of _ (by decide +kernel)) ggX9_refer_X9_fails
theorem dX9_refer_0 : decode cX9_refer 0 = .ok (.aload_n 0, 1) := by decide +kernel
theorem dX9_refer_1 : decode cX9_refer 1 = .ok (.iconst 0, 1) := by decide +kernel
theorem dX9_refer_2 : decode cX9_refer 2 = .ok (.putfield 65, 3) := by decide +kernel
theorem dX9_refer_5 : decode cX9_refer 5 = .ok (.aload_n 0, 1) := by decide +kernel
theorem dX9_refer_6 : decode cX9_refer 6 = .ok (.iload_n 1, 1) := by decide +kernel
theorem dX9_refer_7 : decode cX9_refer 7 = .ok (.invokevirtual 76, 3) := by decide +kernel
theorem dX9_refer_10 : decode cX9_refer 10 = .ok (.ifCond .eq 11, 3) := by decide +kernel
theorem dX9_refer_13 : decode cX9_refer 13 = .ok (.aload_n 0, 1) := by decide +kernel
theorem dX9_refer_14 : decode cX9_refer 14 = .ok (.iload_n 2, 1) := by decide +kernel
theorem dX9_refer_15 : decode cX9_refer 15 = .ok (.invokevirtual 76, 3) := by decide +kernel
theorem dX9_refer_18 : decode cX9_refer 18 = .ok (.ifCond .ne 9, 3) := by decide +kernel
theorem dX9_refer_21 : decode cX9_refer 21 = .ok (.aload_n 0, 1) := by decide +kernel
theorem dX9_refer_22 : decode cX9_refer 22 = .ok (.iconst 1, 1) := by decide +kernel
theorem dX9_refer_23 : decode cX9_refer 23 = .ok (.invokevirtual 119, 3) := by decide +kernel
theorem dX9_refer_26 : decode cX9_refer 26 = .ok (.ireturn, 1) := by decide +kernel
theorem dX9_refer_27 : decode cX9_refer 27 = .ok (.iload_n 1, 1) := by decide +kernel
theorem dX9_refer_28 : decode cX9_refer 28 = .ok (.iload_n 2, 1) := by decide +kernel
theorem dX9_refer_29 : decode cX9_refer 29 = .ok (.if_icmp .eq 12, 3) := by decide +kernel
theorem dX9_refer_32 : decode cX9_refer 32 = .ok (.aload_n 0, 1) := by decide +kernel
theorem dX9_refer_33 : decode cX9_refer 33 = .ok (.getfield 9, 3) := by decide +kernel
theorem dX9_refer_36 : decode cX9_refer 36 = .ok (.iload_n 2, 1) := by decide +kernel
theorem dX9_refer_37 : decode cX9_refer 37 = .ok (.iaload, 1) := by decide +kernel
theorem dX9_refer_38 : decode cX9_refer 38 = .ok (.ifCond .ne 9, 3) := by decide +kernel
theorem dX9_refer_41 : decode cX9_refer 41 = .ok (.aload_n 0, 1) := by decide +kernel
theorem dX9_refer_42 : decode cX9_refer 42 = .ok (.iconst 2, 1) := by decide +kernel
theorem dX9_refer_43 : decode cX9_refer 43 = .ok (.invokevirtual 119, 3) := by decide +kernel
theorem dX9_refer_46 : decode cX9_refer 46 = .ok (.ireturn, 1) := by decide +kernel
theorem dX9_refer_47 : decode cX9_refer 47 = .ok (.aload_n 0, 1) := by decide +kernel
theorem dX9_refer_48 : decode cX9_refer 48 = .ok (.getfield 230, 3) := by decide +kernel
theorem dX9_refer_51 : decode cX9_refer 51 = .ok (.bipush 30, 2) := by decide +kernel
theorem dX9_refer_53 : decode cX9_refer 53 = .ok (.if_icmp .ne 9, 3) := by decide +kernel
theorem dX9_refer_56 : decode cX9_refer 56 = .ok (.aload_n 0, 1) := by decide +kernel
theorem dX9_refer_57 : decode cX9_refer 57 = .ok (.iconst 3, 1) := by decide +kernel
theorem dX9_refer_58 : decode cX9_refer 58 = .ok (.invokevirtual 119, 3) := by decide +kernel
theorem dX9_refer_61 : decode cX9_refer 61 = .ok (.ireturn, 1) := by decide +kernel
theorem dX9_refer_62 : decode cX9_refer 62 = .ok (.aload_n 0, 1) := by decide +kernel
theorem dX9_refer_63 : decode cX9_refer 63 = .ok (.getfield 59, 3) := by decide +kernel
theorem dX9_refer_66 : decode cX9_refer 66 = .ok (.aload_n 0, 1) := by decide +kernel
theorem dX9_refer_67 : decode cX9_refer 67 = .ok (.getfield 230, 3) := by decide +kernel
theorem dX9_refer_70 : decode cX9_refer 70 = .ok (.iload_n 1, 1) := by decide +kernel
theorem dX9_refer_71 : decode cX9_refer 71 = .ok (.iastore, 1) := by decide +kernel
theorem dX9_refer_72 : decode cX9_refer 72 = .ok (.aload_n 0, 1) := by decide +kernel
theorem dX9_refer_73 : decode cX9_refer 73 = .ok (.getfield 62, 3) := by decide +kernel
theorem dX9_refer_76 : decode cX9_refer 76 = .ok (.aload_n 0, 1) := by decide +kernel
theorem dX9_refer_77 : decode cX9_refer 77 = .ok (.getfield 230, 3) := by decide +kernel
theorem dX9_refer_80 : decode cX9_refer 80 = .ok (.iload_n 2, 1) := by decide +kernel
theorem dX9_refer_81 : decode cX9_refer 81 = .ok (.iastore, 1) := by decide +kernel
theorem dX9_refer_82 : decode cX9_refer 82 = .ok (.aload_n 0, 1) := by decide +kernel
theorem dX9_refer_83 : decode cX9_refer 83 = .ok (.dup, 1) := by decide +kernel
theorem dX9_refer_84 : decode cX9_refer 84 = .ok (.getfield 230, 3) := by decide +kernel
theorem dX9_refer_87 : decode cX9_refer 87 = .ok (.iconst 1, 1) := by decide +kernel
theorem dX9_refer_88 : decode cX9_refer 88 = .ok (.iadd, 1) := by decide +kernel
theorem dX9_refer_89 : decode cX9_refer 89 = .ok (.putfield 230, 3) := by decide +kernel
theorem dX9_refer_92 : decode cX9_refer 92 = .ok (.aload_n 0, 1) := by decide +kernel
theorem dX9_refer_93 : decode cX9_refer 93 = .ok (.getfield 230, 3) := by decide +kernel
theorem dX9_refer_96 : decode cX9_refer 96 = .ok (.iconst 1, 1) := by decide +kernel
theorem dX9_refer_97 : decode cX9_refer 97 = .ok (.isub, 1) := by decide +kernel
theorem dX9_refer_98 : decode cX9_refer 98 = .ok (.ireturn, 1) := by decide +kernel
theorem dX9_references_0 : decode cX9_references 0 = .ok (.aload_n 0, 1) := by decide +kernel
theorem dX9_references_1 : decode cX9_references 1 = .ok (.iconst 0, 1) := by decide +kernel
theorem dX9_references_2 : decode cX9_references 2 = .ok (.putfield 65, 3) := by decide +kernel
theorem dX9_references_5 : decode cX9_references 5 = .ok (.aload_n 0, 1) := by decide +kernel
theorem dX9_references_6 : decode cX9_references 6 = .ok (.getfield 230, 3) := by decide +kernel
theorem dX9_references_9 : decode cX9_references 9 = .ok (.ireturn, 1) := by decide +kernel
set_option maxRecDepth 20000 in
theorem ggX9_targetOf_X9_isReference : GoodIn wsX9_targetOf wsX9_isReference := goodIn_r _ [7, 8, 9, 10, 6, 11, 16, 17, 18, 19, 20, 21, 22, 23, 24, 25, 26, 27, 28, 29, 30, 31, 32, 33, 34, 35, 36, 37] (by decide +kernel) (by decide +kernel)
set_option maxRecDepth 20000 in
theorem gX9_targetOf_X9_isReference : GoodIn wsX9_targetOf (wsV RX9 233 RX9 yX9_isReference wsX9_isReference) := goodIn_app (goodIn_of _ (by decide +kernel)) ggX9_targetOf_X9_isReference
set_option maxRecDepth 20000 in
theorem ggX9_targetOf_X9_fails : GoodIn wsX9_targetOf wsX9_fails := goodIn_r _ [15, 1, 16, 17, 18, 19, 20, 21, 22, 23, 24, 25, 26, 27, 28, 29, 30, 31, 32, 33, 34, 35, 36, 37] (by decide +kernel) (by decide +kernel)
set_option maxRecDepth 20000 in
theorem gX9_targetOf_X9_fails : GoodIn wsX9_targetOf (wsV RX9 119 RX9 yX9_fails wsX9_fails) := goodIn_app (goodIn_of _ (by decide +kernel)) ggX9_targetOf_X9_fails
theorem dX9_targetOf_0 : decode cX9_targetOf 0 = .ok (.aload_n 0, 1) := by decide +kernel
theorem dX9_targetOf_1 : decode cX9_targetOf 1 = .ok (.iconst 0, 1) := by decide +kernel
theorem dX9_targetOf_2 : decode cX9_targetOf 2 = .ok (.putfield 65, 3) := by decide +kernel
theorem dX9_targetOf_5 : decode cX9_targetOf 5 = .ok (.aload_n 0, 1) := by decide +kernel
theorem dX9_targetOf_6 : decode cX9_targetOf 6 = .ok (.iload_n 1, 1) := by decide +kernel
theorem dX9_targetOf_7 : decode cX9_targetOf 7 = .ok (.invokevirtual 233, 3) := by decide +kernel
theorem dX9_targetOf_10 : decode cX9_targetOf 10 = .ok (.ifCond .eq 12, 3) := by decide +kernel
theorem dX9_targetOf_13 : decode cX9_targetOf 13 = .ok (.aload_n 0, 1) := by decide +kernel
theorem dX9_targetOf_14 : decode cX9_targetOf 14 = .ok (.getfield 62, 3) := by decide +kernel
theorem dX9_targetOf_17 : decode cX9_targetOf 17 = .ok (.iload_n 1, 1) := by decide +kernel
theorem dX9_targetOf_18 : decode cX9_targetOf 18 = .ok (.iaload, 1) := by decide +kernel
theorem dX9_targetOf_19 : decode cX9_targetOf 19 = .ok (.goto 8, 3) := by decide +kernel
theorem dX9_targetOf_22 : decode cX9_targetOf 22 = .ok (.aload_n 0, 1) := by decide +kernel
theorem dX9_targetOf_23 : decode cX9_targetOf 23 = .ok (.iconst 1, 1) := by decide +kernel
theorem dX9_targetOf_24 : decode cX9_targetOf 24 = .ok (.invokevirtual 119, 3) := by decide +kernel
theorem dX9_targetOf_27 : decode cX9_targetOf 27 = .ok (.ireturn, 1) := by decide +kernel
set_option maxRecDepth 20000 in
theorem ggX9_isBroken_X9_isReference : GoodIn wsX9_isBroken wsX9_isReference := goodIn_r _ [6, 7, 8, 9, 5, 10, 27, 28, 29, 30, 31, 32, 33, 34, 35, 36, 37, 38, 39, 40, 41, 42, 43, 44, 45, 46, 47, 48] (by decide +kernel) (by decide +kernel)
set_option maxRecDepth 20000 in
theorem gX9_isBroken_X9_isReference : GoodIn wsX9_isBroken (wsV RX9 233 RX9 yX9_isReference wsX9_isReference) := goodIn_app (goodIn_of _ (by decide +kernel)) ggX9_isBroken_X9_isReference
set_option maxRecDepth 20000 in
theorem ggX9_isBroken_X9_isCut : GoodIn wsX9_isBroken wsX9_isCut := goodIn_ca (goodIn_r _ [14, 15, 16, 17, 18, 19, 5, 20, 21, 22, 8, 9, 10, 27, 28, 29, 30, 31, 32, 33, 34, 35, 36, 37, 38, 39, 40, 41, 42, 43, 44, 45, 46, 47, 48] (by decide +kernel) (by decide +kernel)) (goodIn_sub (fun _ h => List.mem_cons_of_mem _ (List.mem_append_right _ h)) (by decide +kernel))
set_option maxRecDepth 20000 in
theorem gX9_isBroken_X9_isCut : GoodIn wsX9_isBroken (wsV RX9 236 RX9 yX9_isCut wsX9_isCut) := goodIn_app (goodIn_of _ (by decide +kernel)) ggX9_isBroken_X9_isCut
set_option maxRecDepth 20000 in
theorem ggX9_isBroken_X9_isWrong : GoodIn wsX9_isBroken wsX9_isWrong := goodIn_r _ [26, 1, 27, 28, 29, 30, 31, 32, 33, 34, 35, 36, 37, 38, 39, 40, 41, 42, 43, 44, 45, 46, 47, 48] (by decide +kernel) (by decide +kernel)
set_option maxRecDepth 20000 in
theorem gX9_isBroken_X9_isWrong : GoodIn wsX9_isBroken (wsV RX9 143 RX9 yX9_isWrong wsX9_isWrong) := goodIn_app (goodIn_of _ (by decide +kernel)) ggX9_isBroken_X9_isWrong
theorem dX9_isBroken_0 : decode cX9_isBroken 0 = .ok (.aload_n 0, 1) := by decide +kernel
theorem dX9_isBroken_1 : decode cX9_isBroken 1 = .ok (.iconst 0, 1) := by decide +kernel
theorem dX9_isBroken_2 : decode cX9_isBroken 2 = .ok (.putfield 65, 3) := by decide +kernel
theorem dX9_isBroken_5 : decode cX9_isBroken 5 = .ok (.aload_n 0, 1) := by decide +kernel
theorem dX9_isBroken_6 : decode cX9_isBroken 6 = .ok (.iload_n 1, 1) := by decide +kernel
theorem dX9_isBroken_7 : decode cX9_isBroken 7 = .ok (.invokevirtual 233, 3) := by decide +kernel
theorem dX9_isBroken_10 : decode cX9_isBroken 10 = .ok (.ifCond .eq 11, 3) := by decide +kernel
theorem dX9_isBroken_13 : decode cX9_isBroken 13 = .ok (.aload_n 0, 1) := by decide +kernel
theorem dX9_isBroken_14 : decode cX9_isBroken 14 = .ok (.iload_n 1, 1) := by decide +kernel
theorem dX9_isBroken_15 : decode cX9_isBroken 15 = .ok (.invokevirtual 236, 3) := by decide +kernel
theorem dX9_isBroken_18 : decode cX9_isBroken 18 = .ok (.goto 8, 3) := by decide +kernel
theorem dX9_isBroken_21 : decode cX9_isBroken 21 = .ok (.aload_n 0, 1) := by decide +kernel
theorem dX9_isBroken_22 : decode cX9_isBroken 22 = .ok (.iconst 1, 1) := by decide +kernel
theorem dX9_isBroken_23 : decode cX9_isBroken 23 = .ok (.invokevirtual 143, 3) := by decide +kernel
theorem dX9_isBroken_26 : decode cX9_isBroken 26 = .ok (.ireturn, 1) := by decide +kernel
set_option maxRecDepth 20000 in
theorem ggX9_isVoid_X9_isReference : GoodIn wsX9_isVoid wsX9_isReference := goodIn_r _ [6, 7, 8, 9, 5, 10, 23, 24, 25, 26, 27, 28, 29, 30, 31, 32, 33, 34, 35, 36, 37, 38, 39, 40, 41, 42, 43, 44] (by decide +kernel) (by decide +kernel)
set_option maxRecDepth 20000 in
theorem gX9_isVoid_X9_isReference : GoodIn wsX9_isVoid (wsV RX9 233 RX9 yX9_isReference wsX9_isReference) := goodIn_app (goodIn_of _ (by decide +kernel)) ggX9_isVoid_X9_isReference
set_option maxRecDepth 20000 in
theorem ggX9_isVoid_X9_isCut : GoodIn wsX9_isVoid wsX9_isCut := goodIn_ca (goodIn_r _ [14, 15, 16, 17, 18, 19, 5, 20, 21, 22, 8, 9, 10, 23, 24, 25, 26, 27, 28, 29, 30, 31, 32, 33, 34, 35, 36, 37, 38, 39, 40, 41, 42, 43, 44] (by decide +kernel) (by decide +kernel)) (goodIn_sub (fun _ h => List.mem_cons_of_mem _ (List.mem_append_right _ h)) (by decide +kernel))
set_option maxRecDepth 20000 in
theorem gX9_isVoid_X9_isCut : GoodIn wsX9_isVoid (wsV RX9 236 RX9 yX9_isCut wsX9_isCut) := goodIn_app (goodIn_of _ (by decide +kernel)) ggX9_isVoid_X9_isCut
theorem dX9_isVoid_0 : decode cX9_isVoid 0 = .ok (.aload_n 0, 1) := by decide +kernel
theorem dX9_isVoid_1 : decode cX9_isVoid 1 = .ok (.aload_n 0, 1) := by decide +kernel
theorem dX9_isVoid_2 : decode cX9_isVoid 2 = .ok (.iload_n 1, 1) := by decide +kernel
theorem dX9_isVoid_3 : decode cX9_isVoid 3 = .ok (.invokevirtual 233, 3) := by decide +kernel
theorem dX9_isVoid_6 : decode cX9_isVoid 6 = .ok (.ifCond .ne 7, 3) := by decide +kernel
theorem dX9_isVoid_9 : decode cX9_isVoid 9 = .ok (.iconst 1, 1) := by decide +kernel
theorem dX9_isVoid_10 : decode cX9_isVoid 10 = .ok (.goto 16, 3) := by decide +kernel
theorem dX9_isVoid_13 : decode cX9_isVoid 13 = .ok (.aload_n 0, 1) := by decide +kernel
theorem dX9_isVoid_14 : decode cX9_isVoid 14 = .ok (.iload_n 1, 1) := by decide +kernel
theorem dX9_isVoid_15 : decode cX9_isVoid 15 = .ok (.invokevirtual 236, 3) := by decide +kernel
theorem dX9_isVoid_18 : decode cX9_isVoid 18 = .ok (.ifCond .eq 7, 3) := by decide +kernel
theorem dX9_isVoid_21 : decode cX9_isVoid 21 = .ok (.iconst 2, 1) := by decide +kernel
theorem dX9_isVoid_22 : decode cX9_isVoid 22 = .ok (.goto 4, 3) := by decide +kernel
theorem dX9_isVoid_25 : decode cX9_isVoid 25 = .ok (.iconst 0, 1) := by decide +kernel
theorem dX9_isVoid_26 : decode cX9_isVoid 26 = .ok (.putfield 65, 3) := by decide +kernel
theorem dX9_isVoid_29 : decode cX9_isVoid 29 = .ok (.aload_n 0, 1) := by decide +kernel
theorem dX9_isVoid_30 : decode cX9_isVoid 30 = .ok (.getfield 65, 3) := by decide +kernel
theorem dX9_isVoid_33 : decode cX9_isVoid 33 = .ok (.ifCond .le 7, 3) := by decide +kernel
theorem dX9_isVoid_36 : decode cX9_isVoid 36 = .ok (.iconst 1, 1) := by decide +kernel
theorem dX9_isVoid_37 : decode cX9_isVoid 37 = .ok (.goto 4, 3) := by decide +kernel
theorem dX9_isVoid_40 : decode cX9_isVoid 40 = .ok (.iconst 0, 1) := by decide +kernel
theorem dX9_isVoid_41 : decode cX9_isVoid 41 = .ok (.ireturn, 1) := by decide +kernel
set_option maxRecDepth 20000 in
theorem ggX9_referenceLength_X9_isVoid : GoodIn wsX9_referenceLength wsX9_isVoid := goodIn_ca (goodIn_r _ [7, 8, 9, 10, 11, 6, 12, 13, 14, 15, 16, 17, 18, 19, 20, 2, 1, 21, 22, 23, 24, 25, 26, 298, 299, 300, 301, 302, 303, 304, 305, 306, 307, 308, 309, 310, 311, 312, 313, 314, 315, 316, 317, 318, 319] (by decide +kernel) (by decide +kernel)) (goodIn_sub (fun _ h => List.mem_cons_of_mem _ (List.mem_append_right _ h)) (by decide +kernel))
set_option maxRecDepth 20000 in
theorem gX9_referenceLength_X9_isVoid : GoodIn wsX9_referenceLength (wsV RX9 239 RX9 yX9_isVoid wsX9_isVoid) := goodIn_app (goodIn_of _ (by decide +kernel)) ggX9_referenceLength_X9_isVoid
set_option maxRecDepth 20000 in
theorem ggX9_referenceLength_X9_label : GoodIn wsX9_referenceLength wsX9_label := goodIn_ca (goodIn_r _ [30, 31, 32, 33, 34, 35, 36, 37, 38, 39, 40, 41, 42, 43, 44, 45, 46, 47, 48, 49, 50, 51, 52, 53, 54, 55, 56, 57, 58, 59, 60, 6, 61, 62, 63, 64, 65, 66, 67, 68, 69, 70, 71, 72, 73, 74, 75, 76, 77, 78, 79, 80, 81, 82, 83, 84, 85, 86, 87, 88, 89, 90, 91, 92, 93, 94, 95, 96, 97, 98, 99, 100, 101, 102, 103, 104, 105, 106, 107, 108, 109, 110, 111, 112, 113, 114, 115, 116, 117, 118, 119, 120, 121, 122, 123, 124, 125, 126, 127, 128, 129, 130, 131, 132, 133, 134, 135, 136, 137, 138, 139, 140, 141, 142, 143, 144, 145, 146, 147, 148, 149, 150, 151, 152, 153, 154, 155, 156, 157, 158, 159, 160, 161, 162, 163, 164, 165, 166, 167, 168, 169, 170, 171, 172, 173, 174, 175, 176, 177, 178, 179, 180, 181, 182, 183, 184, 185, 186, 187, 188, 189, 190, 191, 192, 193, 194, 195, 196, 197, 198, 199, 200, 201, 202, 203, 204, 205, 206, 207, 208, 209, 210, 211, 212, 213, 214, 215, 216, 217, 218, 219, 220, 221, 222, 223, 224, 225, 226, 227, 228, 229, 230, 231, 232, 233, 234, 235, 236, 237, 238, 239, 240, 241, 242, 243, 244, 245, 246, 247, 248, 249, 250, 251, 252, 253, 254, 255, 256, 257, 258, 259, 260, 261, 262, 263, 264, 265, 266, 267, 268, 269, 270, 271, 272, 273, 274, 275, 276, 277, 278, 279, 280, 281, 282, 283, 284, 285, 286, 287, 288, 289, 290, 291, 292, 293, 294, 295, 296, 297, 320, 321, 322, 323, 298, 299, 300, 301, 302, 303, 304, 305, 306, 307, 308, 309, 310, 311, 312, 313, 314, 315, 316, 317, 318, 319, 324, 325, 326, 327] (by decide +kernel) (by decide +kernel)) (goodIn_sub (fun _ h => List.mem_cons_of_mem _ (List.mem_append_right _ h)) (by decide +kernel))
set_option maxRecDepth 20000 in
theorem gX9_referenceLength_X9_label : GoodIn wsX9_referenceLength (wsV RX9 226 RX9 yX9_label wsX9_label) := goodIn_app (goodIn_of _ (by decide +kernel)) ggX9_referenceLength_X9_label
theorem dX9_referenceLength_0 : decode cX9_referenceLength 0 = .ok (.aload_n 0, 1) := by decide +kernel
theorem dX9_referenceLength_1 : decode cX9_referenceLength 1 = .ok (.iload_n 1, 1) := by decide +kernel
theorem dX9_referenceLength_2 : decode cX9_referenceLength 2 = .ok (.invokevirtual 239, 3) := by decide +kernel
theorem dX9_referenceLength_5 : decode cX9_referenceLength 5 = .ok (.ifCond .eq 7, 3) := by decide +kernel
theorem dX9_referenceLength_8 : decode cX9_referenceLength 8 = .ok (.iconst 0, 1) := by decide +kernel
theorem dX9_referenceLength_9 : decode cX9_referenceLength 9 = .ok (.goto 22, 3) := by decide +kernel
theorem dX9_referenceLength_12 : decode cX9_referenceLength 12 = .ok (.aload_n 0, 1) := by decide +kernel
theorem dX9_referenceLength_13 : decode cX9_referenceLength 13 = .ok (.aload_n 0, 1) := by decide +kernel
theorem dX9_referenceLength_14 : decode cX9_referenceLength 14 = .ok (.getfield 62, 3) := by decide +kernel
theorem dX9_referenceLength_17 : decode cX9_referenceLength 17 = .ok (.iload_n 1, 1) := by decide +kernel
theorem dX9_referenceLength_18 : decode cX9_referenceLength 18 = .ok (.iaload, 1) := by decide +kernel
theorem dX9_referenceLength_19 : decode cX9_referenceLength 19 = .ok (.aload_n 0, 1) := by decide +kernel
theorem dX9_referenceLength_20 : decode cX9_referenceLength 20 = .ok (.getfield 59, 3) := by decide +kernel
theorem dX9_referenceLength_23 : decode cX9_referenceLength 23 = .ok (.iload_n 1, 1) := by decide +kernel
theorem dX9_referenceLength_24 : decode cX9_referenceLength 24 = .ok (.iaload, 1) := by decide +kernel
theorem dX9_referenceLength_25 : decode cX9_referenceLength 25 = .ok (.invokevirtual 226, 3) := by decide +kernel
theorem dX9_referenceLength_28 : decode cX9_referenceLength 28 = .ok (.invokevirtual 195, 3) := by decide +kernel
theorem dX9_referenceLength_31 : decode cX9_referenceLength 31 = .ok (.ireturn, 1) := by decide +kernel
set_option maxRecDepth 20000 in
theorem ggX9_referenceAt_X9_isVoid : GoodIn wsX9_referenceAt wsX9_isVoid := goodIn_ca (goodIn_r _ [7, 8, 9, 10, 11, 6, 12, 13, 14, 15, 16, 17, 18, 19, 20, 2, 1, 21, 22, 23, 24, 25, 26, 302, 303, 304, 305, 306, 307, 308, 309, 310, 311, 312, 313, 314, 315, 316, 317, 318, 319, 320, 321, 322, 323] (by decide +kernel) (by decide +kernel)) (goodIn_sub (fun _ h => List.mem_cons_of_mem _ (List.mem_append_right _ h)) (by decide +kernel))
set_option maxRecDepth 20000 in
theorem gX9_referenceAt_X9_isVoid : GoodIn wsX9_referenceAt (wsV RX9 239 RX9 yX9_isVoid wsX9_isVoid) := goodIn_app (goodIn_of _ (by decide +kernel)) ggX9_referenceAt_X9_isVoid
set_option maxRecDepth 20000 in
theorem ggX9_referenceAt_X9_label : GoodIn wsX9_referenceAt wsX9_label := goodIn_ca (goodIn_r _ [30, 31, 32, 33, 34, 35, 36, 37, 38, 39, 40, 41, 42, 43, 44, 45, 46, 47, 48, 49, 50, 51, 52, 53, 54, 55, 56, 57, 58, 59, 60, 6, 61, 62, 63, 64, 65, 66, 67, 68, 69, 70, 71, 72, 73, 74, 75, 76, 77, 78, 79, 80, 81, 82, 83, 84, 85, 86, 87, 88, 89, 90, 91, 92, 93, 94, 95, 96, 97, 98, 99, 100, 101, 102, 103, 104, 105, 106, 107, 108, 109, 110, 111, 112, 113, 114, 115, 116, 117, 118, 119, 120, 121, 122, 123, 124, 125, 126, 127, 128, 129, 130, 131, 132, 133, 134, 135, 136, 137, 138, 139, 140, 141, 142, 143, 144, 145, 146, 147, 148, 149, 150, 151, 152, 153, 154, 155, 156, 157, 158, 159, 160, 161, 162, 163, 164, 165, 166, 167, 168, 169, 170, 171, 172, 173, 174, 175, 176, 177, 178, 179, 180, 181, 182, 183, 184, 185, 186, 187, 188, 189, 190, 191, 192, 193, 194, 195, 196, 197, 198, 199, 200, 201, 202, 203, 204, 205, 206, 207, 208, 209, 210, 211, 212, 213, 214, 215, 216, 217, 218, 219, 220, 221, 222, 223, 224, 225, 226, 227, 228, 229, 230, 231, 232, 233, 234, 235, 236, 237, 238, 239, 240, 241, 242, 243, 244, 245, 246, 247, 248, 249, 250, 251, 252, 253, 254, 255, 256, 257, 258, 259, 260, 261, 262, 263, 264, 265, 266, 267, 268, 269, 270, 271, 272, 273, 274, 275, 276, 277, 278, 279, 280, 281, 282, 283, 284, 285, 286, 287, 288, 289, 290, 291, 292, 293, 294, 295, 296, 297, 324, 325, 326, 327, 302, 303, 304, 305, 306, 307, 308, 309, 310, 311, 312, 313, 314, 315, 316, 317, 318, 319, 320, 321, 322, 323, 328, 329, 330, 331] (by decide +kernel) (by decide +kernel)) (goodIn_sub (fun _ h => List.mem_cons_of_mem _ (List.mem_append_right _ h)) (by decide +kernel))
set_option maxRecDepth 20000 in
theorem gX9_referenceAt_X9_label : GoodIn wsX9_referenceAt (wsV RX9 226 RX9 yX9_label wsX9_label) := goodIn_app (goodIn_of _ (by decide +kernel)) ggX9_referenceAt_X9_label
set_option maxRecDepth 20000 in
theorem ggX9_referenceAt_X9_isBetween : GoodIn wsX9_referenceAt wsX9_isBetween := goodIn_r _ [16] (by decide +kernel) (by decide +kernel)
set_option maxRecDepth 20000 in
theorem gX9_referenceAt_X9_isBetween : GoodIn wsX9_referenceAt (va_wsS RX9 72 yX9_isBetween wsX9_isBetween) := goodIn_app (goodIn_of _ (by decide +kernel)) ggX9_referenceAt_X9_isBetween
set_option maxRecDepth 20000 in
theorem ggX9_referenceAt_X9_fails : GoodIn wsX9_referenceAt wsX9_fails := goodIn_r _ [301, 8, 302, 303, 304, 305, 306, 307, 308, 309, 310, 311, 312, 313, 314, 315, 316, 317, 318, 319, 320, 321, 322, 323] (by decide +kernel) (by decide +kernel)
set_option maxRecDepth 20000 in
theorem gX9_referenceAt_X9_fails : GoodIn wsX9_referenceAt (wsV RX9 119 RX9 yX9_fails wsX9_fails) := goodIn_app (goodIn_of _ (by decide +kernel)) ggX9_referenceAt_X9_fails
theorem dX9_referenceAt_0 : decode cX9_referenceAt 0 = .ok (.aload_n 0, 1) := by decide +kernel
theorem dX9_referenceAt_1 : decode cX9_referenceAt 1 = .ok (.iload_n 1, 1) := by decide +kernel
theorem dX9_referenceAt_2 : decode cX9_referenceAt 2 = .ok (.invokevirtual 239, 3) := by decide +kernel
theorem dX9_referenceAt_5 : decode cX9_referenceAt 5 = .ok (.ifCond .eq 5, 3) := by decide +kernel
theorem dX9_referenceAt_8 : decode cX9_referenceAt 8 = .ok (.iconst 0, 1) := by decide +kernel
theorem dX9_referenceAt_9 : decode cX9_referenceAt 9 = .ok (.ireturn, 1) := by decide +kernel
theorem dX9_referenceAt_10 : decode cX9_referenceAt 10 = .ok (.aload_n 0, 1) := by decide +kernel
theorem dX9_referenceAt_11 : decode cX9_referenceAt 11 = .ok (.aload_n 0, 1) := by decide +kernel
theorem dX9_referenceAt_12 : decode cX9_referenceAt 12 = .ok (.getfield 62, 3) := by decide +kernel
theorem dX9_referenceAt_15 : decode cX9_referenceAt 15 = .ok (.iload_n 1, 1) := by decide +kernel
theorem dX9_referenceAt_16 : decode cX9_referenceAt 16 = .ok (.iaload, 1) := by decide +kernel
theorem dX9_referenceAt_17 : decode cX9_referenceAt 17 = .ok (.aload_n 0, 1) := by decide +kernel
theorem dX9_referenceAt_18 : decode cX9_referenceAt 18 = .ok (.getfield 59, 3) := by decide +kernel
theorem dX9_referenceAt_21 : decode cX9_referenceAt 21 = .ok (.iload_n 1, 1) := by decide +kernel
theorem dX9_referenceAt_22 : decode cX9_referenceAt 22 = .ok (.iaload, 1) := by decide +kernel
theorem dX9_referenceAt_23 : decode cX9_referenceAt 23 = .ok (.invokevirtual 226, 3) := by decide +kernel
theorem dX9_referenceAt_26 : decode cX9_referenceAt 26 = .ok (.astore_n 3, 1) := by decide +kernel
theorem dX9_referenceAt_27 : decode cX9_referenceAt 27 = .ok (.iload_n 2, 1) := by decide +kernel
theorem dX9_referenceAt_28 : decode cX9_referenceAt 28 = .ok (.iconst 0, 1) := by decide +kernel
theorem dX9_referenceAt_29 : decode cX9_referenceAt 29 = .ok (.aload_n 3, 1) := by decide +kernel
theorem dX9_referenceAt_30 : decode cX9_referenceAt 30 = .ok (.invokevirtual 195, 3) := by decide +kernel
theorem dX9_referenceAt_33 : decode cX9_referenceAt 33 = .ok (.iconst 1, 1) := by decide +kernel
theorem dX9_referenceAt_34 : decode cX9_referenceAt 34 = .ok (.isub, 1) := by decide +kernel
theorem dX9_referenceAt_35 : decode cX9_referenceAt 35 = .ok (.invokestatic 72, 3) := by decide +kernel
theorem dX9_referenceAt_38 : decode cX9_referenceAt 38 = .ok (.ifCond .eq 11, 3) := by decide +kernel
theorem dX9_referenceAt_41 : decode cX9_referenceAt 41 = .ok (.aload_n 3, 1) := by decide +kernel
theorem dX9_referenceAt_42 : decode cX9_referenceAt 42 = .ok (.iload_n 2, 1) := by decide +kernel
theorem dX9_referenceAt_43 : decode cX9_referenceAt 43 = .ok (.invokevirtual 199, 3) := by decide +kernel
theorem dX9_referenceAt_46 : decode cX9_referenceAt 46 = .ok (.goto 9, 3) := by decide +kernel
theorem dX9_referenceAt_49 : decode cX9_referenceAt 49 = .ok (.aload_n 0, 1) := by decide +kernel
theorem dX9_referenceAt_50 : decode cX9_referenceAt 50 = .ok (.iconst 3, 1) := by decide +kernel
theorem dX9_referenceAt_51 : decode cX9_referenceAt 51 = .ok (.invokevirtual 119, 3) := by decide +kernel
theorem dX9_referenceAt_54 : decode cX9_referenceAt 54 = .ok (.i2c, 1) := by decide +kernel
theorem dX9_referenceAt_55 : decode cX9_referenceAt 55 = .ok (.ireturn, 1) := by decide +kernel
set_option maxRecDepth 20000 in
theorem ggX9_broken_X9_isCut : GoodIn wsX9_broken wsX9_isCut := goodIn_ca (goodIn_r _ [7, 8, 9, 10, 11, 12, 6, 13, 14, 15, 16, 17, 18, 19, 20, 21, 22, 23, 24, 25, 26, 27, 28, 29, 30, 31, 32, 33, 34, 35, 36, 37, 38, 39, 40] (by decide +kernel) (by decide +kernel)) (goodIn_sub (fun _ h => List.mem_cons_of_mem _ (List.mem_append_right _ h)) (by decide +kernel))
set_option maxRecDepth 20000 in
theorem gX9_broken_X9_isCut : GoodIn wsX9_broken (wsV RX9 236 RX9 yX9_isCut wsX9_isCut) := goodIn_app (goodIn_of _ (by decide +kernel)) ggX9_broken_X9_isCut
theorem dX9_broken_0 : decode cX9_broken 0 = .ok (.aload_n 0, 1) := by decide +kernel
theorem dX9_broken_1 : decode cX9_broken 1 = .ok (.iconst 0, 1) := by decide +kernel
theorem dX9_broken_2 : decode cX9_broken 2 = .ok (.putfield 65, 3) := by decide +kernel
theorem dX9_broken_5 : decode cX9_broken 5 = .ok (.iconst 0, 1) := by decide +kernel
theorem dX9_broken_6 : decode cX9_broken 6 = .ok (.istore_n 1, 1) := by decide +kernel
theorem dX9_broken_7 : decode cX9_broken 7 = .ok (.iconst 0, 1) := by decide +kernel
theorem dX9_broken_8 : decode cX9_broken 8 = .ok (.istore_n 2, 1) := by decide +kernel
theorem dX9_broken_9 : decode cX9_broken 9 = .ok (.iload_n 2, 1) := by decide +kernel
theorem dX9_broken_10 : decode cX9_broken 10 = .ok (.aload_n 0, 1) := by decide +kernel
theorem dX9_broken_11 : decode cX9_broken 11 = .ok (.getfield 230, 3) := by decide +kernel
theorem dX9_broken_14 : decode cX9_broken 14 = .ok (.if_icmp .ge 25, 3) := by decide +kernel
theorem dX9_broken_17 : decode cX9_broken 17 = .ok (.iload_n 1, 1) := by decide +kernel
theorem dX9_broken_18 : decode cX9_broken 18 = .ok (.aload_n 0, 1) := by decide +kernel
theorem dX9_broken_19 : decode cX9_broken 19 = .ok (.iload_n 2, 1) := by decide +kernel
theorem dX9_broken_20 : decode cX9_broken 20 = .ok (.invokevirtual 236, 3) := by decide +kernel
theorem dX9_broken_23 : decode cX9_broken 23 = .ok (.ifCond .eq 7, 3) := by decide +kernel
theorem dX9_broken_26 : decode cX9_broken 26 = .ok (.iconst 1, 1) := by decide +kernel
theorem dX9_broken_27 : decode cX9_broken 27 = .ok (.goto 4, 3) := by decide +kernel
theorem dX9_broken_30 : decode cX9_broken 30 = .ok (.iconst 0, 1) := by decide +kernel
theorem dX9_broken_31 : decode cX9_broken 31 = .ok (.iadd, 1) := by decide +kernel
theorem dX9_broken_32 : decode cX9_broken 32 = .ok (.istore_n 1, 1) := by decide +kernel
theorem dX9_broken_33 : decode cX9_broken 33 = .ok (.iinc 2 1, 3) := by decide +kernel
theorem dX9_broken_36 : decode cX9_broken 36 = .ok (.goto (-27), 3) := by decide +kernel
theorem dX9_broken_39 : decode cX9_broken 39 = .ok (.iload_n 1, 1) := by decide +kernel
theorem dX9_broken_40 : decode cX9_broken 40 = .ok (.ireturn, 1) := by decide +kernel
theorem dX9_used_0 : decode cX9_used 0 = .ok (.aload_n 0, 1) := by decide +kernel
theorem dX9_used_1 : decode cX9_used 1 = .ok (.iconst 0, 1) := by decide +kernel
theorem dX9_used_2 : decode cX9_used 2 = .ok (.putfield 65, 3) := by decide +kernel
theorem dX9_used_5 : decode cX9_used 5 = .ok (.aload_n 0, 1) := by decide +kernel
theorem dX9_used_6 : decode cX9_used 6 = .ok (.getfield 94, 3) := by decide +kernel
theorem dX9_used_9 : decode cX9_used 9 = .ok (.ireturn, 1) := by decide +kernel
theorem dX9_many_0 : decode cX9_many 0 = .ok (.iconst 0, 1) := by decide +kernel
theorem dX9_many_1 : decode cX9_many 1 = .ok (.istore_n 2, 1) := by decide +kernel
theorem dX9_many_2 : decode cX9_many 2 = .ok (.iconst 0, 1) := by decide +kernel
theorem dX9_many_3 : decode cX9_many 3 = .ok (.istore_n 3, 1) := by decide +kernel
theorem dX9_many_4 : decode cX9_many 4 = .ok (.iload_n 3, 1) := by decide +kernel
theorem dX9_many_5 : decode cX9_many 5 = .ok (.aload_n 0, 1) := by decide +kernel
theorem dX9_many_6 : decode cX9_many 6 = .ok (.getfield 91, 3) := by decide +kernel
theorem dX9_many_9 : decode cX9_many 9 = .ok (.if_icmp .ge 61, 3) := by decide +kernel
theorem dX9_many_12 : decode cX9_many 12 = .ok (.aload_n 0, 1) := by decide +kernel
theorem dX9_many_13 : decode cX9_many 13 = .ok (.getfield 31, 3) := by decide +kernel
theorem dX9_many_16 : decode cX9_many 16 = .ok (.iload_n 3, 1) := by decide +kernel
theorem dX9_many_17 : decode cX9_many 17 = .ok (.iaload, 1) := by decide +kernel
theorem dX9_many_18 : decode cX9_many 18 = .ok (.istore 4, 2) := by decide +kernel
theorem dX9_many_20 : decode cX9_many 20 = .ok (.iload_n 2, 1) := by decide +kernel
theorem dX9_many_21 : decode cX9_many 21 = .ok (.aload_n 0, 1) := by decide +kernel
theorem dX9_many_22 : decode cX9_many 22 = .ok (.getfield 9, 3) := by decide +kernel
theorem dX9_many_25 : decode cX9_many 25 = .ok (.iload 4, 2) := by decide +kernel
theorem dX9_many_27 : decode cX9_many 27 = .ok (.iaload, 1) := by decide +kernel
theorem dX9_many_28 : decode cX9_many 28 = .ok (.ifCond .ne 8, 3) := by decide +kernel
theorem dX9_many_31 : decode cX9_many 31 = .ok (.bipush 112, 2) := by decide +kernel
theorem dX9_many_33 : decode cX9_many 33 = .ok (.goto 20, 3) := by decide +kernel
theorem dX9_many_36 : decode cX9_many 36 = .ok (.aload_n 0, 1) := by decide +kernel
theorem dX9_many_37 : decode cX9_many 37 = .ok (.getfield 34, 3) := by decide +kernel
theorem dX9_many_40 : decode cX9_many 40 = .ok (.iload 4, 2) := by decide +kernel
theorem dX9_many_42 : decode cX9_many 42 = .ok (.baload, 1) := by decide +kernel
theorem dX9_many_43 : decode cX9_many 43 = .ok (.ifCond .eq 8, 3) := by decide +kernel
theorem dX9_many_46 : decode cX9_many 46 = .ok (.bipush 102, 2) := by decide +kernel
theorem dX9_many_48 : decode cX9_many 48 = .ok (.goto 5, 3) := by decide +kernel
theorem dX9_many_51 : decode cX9_many 51 = .ok (.bipush 111, 2) := by decide +kernel
theorem dX9_many_53 : decode cX9_many 53 = .ok (.iload_n 1, 1) := by decide +kernel
theorem dX9_many_54 : decode cX9_many 54 = .ok (.if_icmp .ne 7, 3) := by decide +kernel
theorem dX9_many_57 : decode cX9_many 57 = .ok (.iconst 1, 1) := by decide +kernel
theorem dX9_many_58 : decode cX9_many 58 = .ok (.goto 4, 3) := by decide +kernel
theorem dX9_many_61 : decode cX9_many 61 = .ok (.iconst 0, 1) := by decide +kernel
theorem dX9_many_62 : decode cX9_many 62 = .ok (.iadd, 1) := by decide +kernel
theorem dX9_many_63 : decode cX9_many 63 = .ok (.istore_n 2, 1) := by decide +kernel
theorem dX9_many_64 : decode cX9_many 64 = .ok (.iinc 3 1, 3) := by decide +kernel
theorem dX9_many_67 : decode cX9_many 67 = .ok (.goto (-63), 3) := by decide +kernel
theorem dX9_many_70 : decode cX9_many 70 = .ok (.iload_n 2, 1) := by decide +kernel
theorem dX9_many_71 : decode cX9_many 71 = .ok (.ireturn, 1) := by decide +kernel
set_option maxRecDepth 20000 in
theorem ggX9_count_X9_many : GoodIn wsX9_count wsX9_many := goodIn_ca (goodIn_r _ [6, 7, 8, 9, 10, 15, 16, 17, 18, 19, 20, 21, 22, 23, 24, 25, 26, 27, 28, 29, 30, 31, 32, 33, 34, 35, 36] (by decide +kernel) (by decide +kernel)) (goodIn_sub (fun _ h => List.mem_cons_of_mem _ (List.mem_append_right _ h)) (by decide +kernel))
set_option maxRecDepth 20000 in
theorem gX9_count_X9_many : GoodIn wsX9_count (wsV RX9 242 RX9 yX9_many wsX9_many) := goodIn_app (goodIn_of _ (by decide +kernel)) ggX9_count_X9_many
set_option maxRecDepth 20000 in
theorem ggX9_count_X9_fails : GoodIn wsX9_count wsX9_fails := goodIn_r _ [14, 1, 15, 16, 17, 18, 19, 20, 21, 22, 23, 24, 25, 26, 27, 28, 29, 30, 31, 32, 33, 34, 35, 36] (by decide +kernel) (by decide +kernel)
set_option maxRecDepth 20000 in
theorem gX9_count_X9_fails : GoodIn wsX9_count (wsV RX9 119 RX9 yX9_fails wsX9_fails) := goodIn_app (goodIn_of _ (by decide +kernel)) ggX9_count_X9_fails
theorem dX9_count_0 : decode cX9_count 0 = .ok (.aload_n 0, 1) := by decide +kernel
theorem dX9_count_1 : decode cX9_count 1 = .ok (.iconst 0, 1) := by decide +kernel
theorem dX9_count_2 : decode cX9_count 2 = .ok (.putfield 65, 3) := by decide +kernel
theorem dX9_count_5 : decode cX9_count 5 = .ok (.iload_n 1, 1) := by decide +kernel
theorem dX9_count_6 : decode cX9_count 6 = .ok (.bipush 112, 2) := by decide +kernel
theorem dX9_count_8 : decode cX9_count 8 = .ok (.if_icmp .eq 15, 3) := by decide +kernel
theorem dX9_count_11 : decode cX9_count 11 = .ok (.iload_n 1, 1) := by decide +kernel
theorem dX9_count_12 : decode cX9_count 12 = .ok (.bipush 102, 2) := by decide +kernel
theorem dX9_count_14 : decode cX9_count 14 = .ok (.if_icmp .eq 9, 3) := by decide +kernel
theorem dX9_count_17 : decode cX9_count 17 = .ok (.iload_n 1, 1) := by decide +kernel
theorem dX9_count_18 : decode cX9_count 18 = .ok (.bipush 111, 2) := by decide +kernel
theorem dX9_count_20 : decode cX9_count 20 = .ok (.if_icmp .ne 11, 3) := by decide +kernel
theorem dX9_count_23 : decode cX9_count 23 = .ok (.aload_n 0, 1) := by decide +kernel
theorem dX9_count_24 : decode cX9_count 24 = .ok (.iload_n 1, 1) := by decide +kernel
theorem dX9_count_25 : decode cX9_count 25 = .ok (.invokevirtual 242, 3) := by decide +kernel
theorem dX9_count_28 : decode cX9_count 28 = .ok (.goto 8, 3) := by decide +kernel
theorem dX9_count_31 : decode cX9_count 31 = .ok (.aload_n 0, 1) := by decide +kernel
theorem dX9_count_32 : decode cX9_count 32 = .ok (.iconst 1, 1) := by decide +kernel
theorem dX9_count_33 : decode cX9_count 33 = .ok (.invokevirtual 119, 3) := by decide +kernel
theorem dX9_count_36 : decode cX9_count 36 = .ok (.ireturn, 1) := by decide +kernel
theorem dX9_sum_0 : decode cX9_sum 0 = .ok (.aload_n 0, 1) := by decide +kernel
theorem dX9_sum_1 : decode cX9_sum 1 = .ok (.iconst 0, 1) := by decide +kernel
theorem dX9_sum_2 : decode cX9_sum 2 = .ok (.putfield 65, 3) := by decide +kernel
theorem dX9_sum_5 : decode cX9_sum 5 = .ok (.lconst 0, 1) := by decide +kernel
theorem dX9_sum_6 : decode cX9_sum 6 = .ok (.lstore_n 1, 1) := by decide +kernel
theorem dX9_sum_7 : decode cX9_sum 7 = .ok (.iconst 0, 1) := by decide +kernel
theorem dX9_sum_8 : decode cX9_sum 8 = .ok (.istore_n 3, 1) := by decide +kernel
theorem dX9_sum_9 : decode cX9_sum 9 = .ok (.iload_n 3, 1) := by decide +kernel
theorem dX9_sum_10 : decode cX9_sum 10 = .ok (.aload_n 0, 1) := by decide +kernel
theorem dX9_sum_11 : decode cX9_sum 11 = .ok (.getfield 91, 3) := by decide +kernel
theorem dX9_sum_14 : decode cX9_sum 14 = .ok (.if_icmp .ge 42, 3) := by decide +kernel
theorem dX9_sum_17 : decode cX9_sum 17 = .ok (.lload_n 1, 1) := by decide +kernel
theorem dX9_sum_18 : decode cX9_sum 18 = .ok (.aload_n 0, 1) := by decide +kernel
theorem dX9_sum_19 : decode cX9_sum 19 = .ok (.getfield 9, 3) := by decide +kernel
theorem dX9_sum_22 : decode cX9_sum 22 = .ok (.aload_n 0, 1) := by decide +kernel
theorem dX9_sum_23 : decode cX9_sum 23 = .ok (.getfield 31, 3) := by decide +kernel
theorem dX9_sum_26 : decode cX9_sum 26 = .ok (.iload_n 3, 1) := by decide +kernel
theorem dX9_sum_27 : decode cX9_sum 27 = .ok (.iaload, 1) := by decide +kernel
theorem dX9_sum_28 : decode cX9_sum 28 = .ok (.iaload, 1) := by decide +kernel
theorem dX9_sum_29 : decode cX9_sum 29 = .ok (.ifCond .ne 7, 3) := by decide +kernel
theorem dX9_sum_32 : decode cX9_sum 32 = .ok (.lconst 0, 1) := by decide +kernel
theorem dX9_sum_33 : decode cX9_sum 33 = .ok (.goto 15, 3) := by decide +kernel
theorem dX9_sum_36 : decode cX9_sum 36 = .ok (.aload_n 0, 1) := by decide +kernel
theorem dX9_sum_37 : decode cX9_sum 37 = .ok (.getfield 22, 3) := by decide +kernel
theorem dX9_sum_40 : decode cX9_sum 40 = .ok (.aload_n 0, 1) := by decide +kernel
theorem dX9_sum_41 : decode cX9_sum 41 = .ok (.getfield 31, 3) := by decide +kernel
theorem dX9_sum_44 : decode cX9_sum 44 = .ok (.iload_n 3, 1) := by decide +kernel
theorem dX9_sum_45 : decode cX9_sum 45 = .ok (.iaload, 1) := by decide +kernel
theorem dX9_sum_46 : decode cX9_sum 46 = .ok (.iaload, 1) := by decide +kernel
theorem dX9_sum_47 : decode cX9_sum 47 = .ok (.i2l, 1) := by decide +kernel
theorem dX9_sum_48 : decode cX9_sum 48 = .ok (.ladd, 1) := by decide +kernel
theorem dX9_sum_49 : decode cX9_sum 49 = .ok (.lstore_n 1, 1) := by decide +kernel
theorem dX9_sum_50 : decode cX9_sum 50 = .ok (.iinc 3 1, 3) := by decide +kernel
theorem dX9_sum_53 : decode cX9_sum 53 = .ok (.goto (-44), 3) := by decide +kernel
theorem dX9_sum_56 : decode cX9_sum 56 = .ok (.lload_n 1, 1) := by decide +kernel
theorem dX9_sum_57 : decode cX9_sum 57 = .ok (.lreturn, 1) := by decide +kernel
theorem dX9_isSame_0 : decode cX9_isSame 0 = .ok (.aload_n 0, 1) := by decide +kernel
theorem dX9_isSame_1 : decode cX9_isSame 1 = .ok (.invokevirtual 195, 3) := by decide +kernel
theorem dX9_isSame_4 : decode cX9_isSame 4 = .ok (.aload_n 1, 1) := by decide +kernel
theorem dX9_isSame_5 : decode cX9_isSame 5 = .ok (.invokevirtual 195, 3) := by decide +kernel
theorem dX9_isSame_8 : decode cX9_isSame 8 = .ok (.if_icmp .eq 5, 3) := by decide +kernel
theorem dX9_isSame_11 : decode cX9_isSame 11 = .ok (.iconst 0, 1) := by decide +kernel
theorem dX9_isSame_12 : decode cX9_isSame 12 = .ok (.ireturn, 1) := by decide +kernel
theorem dX9_isSame_13 : decode cX9_isSame 13 = .ok (.iconst 0, 1) := by decide +kernel
theorem dX9_isSame_14 : decode cX9_isSame 14 = .ok (.istore_n 2, 1) := by decide +kernel
theorem dX9_isSame_15 : decode cX9_isSame 15 = .ok (.iload_n 2, 1) := by decide +kernel
theorem dX9_isSame_16 : decode cX9_isSame 16 = .ok (.aload_n 0, 1) := by decide +kernel
theorem dX9_isSame_17 : decode cX9_isSame 17 = .ok (.invokevirtual 195, 3) := by decide +kernel
theorem dX9_isSame_20 : decode cX9_isSame 20 = .ok (.if_icmp .ge 24, 3) := by decide +kernel
theorem dX9_isSame_23 : decode cX9_isSame 23 = .ok (.aload_n 0, 1) := by decide +kernel
theorem dX9_isSame_24 : decode cX9_isSame 24 = .ok (.iload_n 2, 1) := by decide +kernel
theorem dX9_isSame_25 : decode cX9_isSame 25 = .ok (.invokevirtual 199, 3) := by decide +kernel
theorem dX9_isSame_28 : decode cX9_isSame 28 = .ok (.aload_n 1, 1) := by decide +kernel
theorem dX9_isSame_29 : decode cX9_isSame 29 = .ok (.iload_n 2, 1) := by decide +kernel
theorem dX9_isSame_30 : decode cX9_isSame 30 = .ok (.invokevirtual 199, 3) := by decide +kernel
theorem dX9_isSame_33 : decode cX9_isSame 33 = .ok (.if_icmp .eq 5, 3) := by decide +kernel
theorem dX9_isSame_36 : decode cX9_isSame 36 = .ok (.iconst 0, 1) := by decide +kernel
theorem dX9_isSame_37 : decode cX9_isSame 37 = .ok (.ireturn, 1) := by decide +kernel
theorem dX9_isSame_38 : decode cX9_isSame 38 = .ok (.iinc 2 1, 3) := by decide +kernel
theorem dX9_isSame_41 : decode cX9_isSame 41 = .ok (.goto (-26), 3) := by decide +kernel
theorem dX9_isSame_44 : decode cX9_isSame 44 = .ok (.iconst 1, 1) := by decide +kernel
theorem dX9_isSame_45 : decode cX9_isSame 45 = .ok (.ireturn, 1) := by decide +kernel
set_option maxRecDepth 20000 in
theorem ggX9_isUnique_X9_label : GoodIn wsX9_isUnique wsX9_label := goodIn_ca (goodIn_r _ [9, 10, 11, 12, 3, 13, 14, 15, 16, 17, 18, 19, 20, 21, 22, 23, 24, 25, 26, 27, 28, 29, 30, 31, 32, 33, 34, 35, 36, 37, 38, 8, 39, 40, 41, 42, 43, 44, 45, 46, 47, 48, 49, 50, 51, 52, 53, 54, 55, 56, 57, 58, 59, 60, 61, 62, 63, 64, 65, 66, 67, 68, 69, 70, 71, 72, 73, 74, 75, 76, 77, 78, 79, 80, 81, 82, 83, 84, 85, 86, 87, 88, 89, 90, 91, 92, 93, 94, 95, 96, 97, 98, 99, 100, 101, 102, 103, 104, 105, 106, 107, 108, 109, 110, 111, 112, 113, 114, 115, 116, 117, 118, 119, 120, 121, 122, 123, 124, 125, 126, 127, 128, 129, 130, 131, 132, 133, 134, 135, 136, 137, 138, 139, 140, 141, 142, 143, 144, 145, 146, 147, 148, 149, 150, 151, 152, 153, 154, 155, 156, 157, 158, 159, 160, 161, 162, 163, 164, 165, 166, 167, 168, 169, 170, 171, 172, 173, 174, 175, 176, 177, 178, 179, 180, 181, 182, 183, 184, 185, 186, 187, 188, 189, 190, 191, 192, 193, 194, 195, 196, 197, 198, 199, 200, 201, 202, 203, 204, 205, 206, 207, 208, 209, 210, 211, 212, 213, 214, 215, 216, 217, 218, 219, 220, 221, 222, 223, 224, 225, 226, 227, 228, 229, 230, 231, 232, 233, 234, 235, 236, 237, 238, 239, 240, 241, 242, 243, 244, 245, 246, 247, 248, 249, 250, 251, 252, 253, 254, 255, 256, 257, 258, 259, 260, 261, 262, 263, 264, 265, 266, 267, 268, 269, 270, 271, 272, 273, 274, 275, 301, 302, 303, 304, 279, 280, 281, 282, 283, 284, 285, 286, 287, 288, 289, 290, 291, 292, 293, 294, 295, 296, 297, 298, 299, 300, 305, 306, 307, 308] (by decide +kernel) (by decide +kernel)) (goodIn_sub (fun _ h => List.mem_cons_of_mem _ (List.mem_append_right _ h)) (by decide +kernel))
set_option maxRecDepth 20000 in
theorem gX9_isUnique_X9_label : GoodIn wsX9_isUnique (wsV RX9 226 RX9 yX9_label wsX9_label) := goodIn_app (goodIn_of _ (by decide +kernel)) ggX9_isUnique_X9_label
set_option maxRecDepth 20000 in
theorem ggX9_isUnique_X9_isSame : GoodIn wsX9_isUnique wsX9_isSame := goodIn_r _ [278, 204, 205, 206, 130, 207, 208, 209, 210, 211, 212, 213, 214, 215, 216, 217, 218, 219, 220, 221, 222, 223, 224, 109, 225, 226, 150, 151, 132, 152, 153, 135, 154, 227, 228, 30, 229, 146, 147, 148, 125, 126, 127, 149, 230, 231, 232, 140, 141, 142, 305, 306, 307, 308] (by decide +kernel) (by decide +kernel)
set_option maxRecDepth 20000 in
theorem gX9_isUnique_X9_isSame : GoodIn wsX9_isUnique (va_wsS RX9 246 yX9_isSame wsX9_isSame) := goodIn_app (goodIn_of _ (by decide +kernel)) ggX9_isUnique_X9_isSame
theorem dX9_isUnique_0 : decode cX9_isUnique 0 = .ok (.aload_n 0, 1) := by decide +kernel
theorem dX9_isUnique_1 : decode cX9_isUnique 1 = .ok (.iconst 0, 1) := by decide +kernel
theorem dX9_isUnique_2 : decode cX9_isUnique 2 = .ok (.putfield 65, 3) := by decide +kernel
theorem dX9_isUnique_5 : decode cX9_isUnique 5 = .ok (.iconst 0, 1) := by decide +kernel
theorem dX9_isUnique_6 : decode cX9_isUnique 6 = .ok (.istore_n 1, 1) := by decide +kernel
theorem dX9_isUnique_7 : decode cX9_isUnique 7 = .ok (.iload_n 1, 1) := by decide +kernel
theorem dX9_isUnique_8 : decode cX9_isUnique 8 = .ok (.aload_n 0, 1) := by decide +kernel
theorem dX9_isUnique_9 : decode cX9_isUnique 9 = .ok (.getfield 91, 3) := by decide +kernel
theorem dX9_isUnique_12 : decode cX9_isUnique 12 = .ok (.if_icmp .ge 91, 3) := by decide +kernel
theorem dX9_isUnique_15 : decode cX9_isUnique 15 = .ok (.iconst 0, 1) := by decide +kernel
theorem dX9_isUnique_16 : decode cX9_isUnique 16 = .ok (.istore_n 2, 1) := by decide +kernel
theorem dX9_isUnique_17 : decode cX9_isUnique 17 = .ok (.iload_n 2, 1) := by decide +kernel
theorem dX9_isUnique_18 : decode cX9_isUnique 18 = .ok (.iload_n 1, 1) := by decide +kernel
theorem dX9_isUnique_19 : decode cX9_isUnique 19 = .ok (.if_icmp .ge 78, 3) := by decide +kernel
theorem dX9_isUnique_22 : decode cX9_isUnique 22 = .ok (.aload_n 0, 1) := by decide +kernel
theorem dX9_isUnique_23 : decode cX9_isUnique 23 = .ok (.getfield 9, 3) := by decide +kernel
theorem dX9_isUnique_26 : decode cX9_isUnique 26 = .ok (.aload_n 0, 1) := by decide +kernel
theorem dX9_isUnique_27 : decode cX9_isUnique 27 = .ok (.getfield 31, 3) := by decide +kernel
theorem dX9_isUnique_30 : decode cX9_isUnique 30 = .ok (.iload_n 1, 1) := by decide +kernel
theorem dX9_isUnique_31 : decode cX9_isUnique 31 = .ok (.iaload, 1) := by decide +kernel
theorem dX9_isUnique_32 : decode cX9_isUnique 32 = .ok (.iaload, 1) := by decide +kernel
theorem dX9_isUnique_33 : decode cX9_isUnique 33 = .ok (.ifCond .le 58, 3) := by decide +kernel
theorem dX9_isUnique_36 : decode cX9_isUnique 36 = .ok (.aload_n 0, 1) := by decide +kernel
theorem dX9_isUnique_37 : decode cX9_isUnique 37 = .ok (.getfield 9, 3) := by decide +kernel
theorem dX9_isUnique_40 : decode cX9_isUnique 40 = .ok (.aload_n 0, 1) := by decide +kernel
theorem dX9_isUnique_41 : decode cX9_isUnique 41 = .ok (.getfield 31, 3) := by decide +kernel
theorem dX9_isUnique_44 : decode cX9_isUnique 44 = .ok (.iload_n 1, 1) := by decide +kernel
theorem dX9_isUnique_45 : decode cX9_isUnique 45 = .ok (.iaload, 1) := by decide +kernel
theorem dX9_isUnique_46 : decode cX9_isUnique 46 = .ok (.iaload, 1) := by decide +kernel
theorem dX9_isUnique_47 : decode cX9_isUnique 47 = .ok (.aload_n 0, 1) := by decide +kernel
theorem dX9_isUnique_48 : decode cX9_isUnique 48 = .ok (.getfield 9, 3) := by decide +kernel
theorem dX9_isUnique_51 : decode cX9_isUnique 51 = .ok (.aload_n 0, 1) := by decide +kernel
theorem dX9_isUnique_52 : decode cX9_isUnique 52 = .ok (.getfield 31, 3) := by decide +kernel
theorem dX9_isUnique_55 : decode cX9_isUnique 55 = .ok (.iload_n 2, 1) := by decide +kernel
theorem dX9_isUnique_56 : decode cX9_isUnique 56 = .ok (.iaload, 1) := by decide +kernel
theorem dX9_isUnique_57 : decode cX9_isUnique 57 = .ok (.iaload, 1) := by decide +kernel
theorem dX9_isUnique_58 : decode cX9_isUnique 58 = .ok (.if_icmp .ne 33, 3) := by decide +kernel
theorem dX9_isUnique_61 : decode cX9_isUnique 61 = .ok (.aload_n 0, 1) := by decide +kernel
theorem dX9_isUnique_62 : decode cX9_isUnique 62 = .ok (.aload_n 0, 1) := by decide +kernel
theorem dX9_isUnique_63 : decode cX9_isUnique 63 = .ok (.getfield 31, 3) := by decide +kernel
theorem dX9_isUnique_66 : decode cX9_isUnique 66 = .ok (.iload_n 1, 1) := by decide +kernel
theorem dX9_isUnique_67 : decode cX9_isUnique 67 = .ok (.iaload, 1) := by decide +kernel
theorem dX9_isUnique_68 : decode cX9_isUnique 68 = .ok (.iconst (-1), 1) := by decide +kernel
theorem dX9_isUnique_69 : decode cX9_isUnique 69 = .ok (.invokevirtual 226, 3) := by decide +kernel
theorem dX9_isUnique_72 : decode cX9_isUnique 72 = .ok (.aload_n 0, 1) := by decide +kernel
theorem dX9_isUnique_73 : decode cX9_isUnique 73 = .ok (.aload_n 0, 1) := by decide +kernel
theorem dX9_isUnique_74 : decode cX9_isUnique 74 = .ok (.getfield 31, 3) := by decide +kernel
theorem dX9_isUnique_77 : decode cX9_isUnique 77 = .ok (.iload_n 2, 1) := by decide +kernel
theorem dX9_isUnique_78 : decode cX9_isUnique 78 = .ok (.iaload, 1) := by decide +kernel
theorem dX9_isUnique_79 : decode cX9_isUnique 79 = .ok (.iconst (-1), 1) := by decide +kernel
theorem dX9_isUnique_80 : decode cX9_isUnique 80 = .ok (.invokevirtual 226, 3) := by decide +kernel
theorem dX9_isUnique_83 : decode cX9_isUnique 83 = .ok (.invokestatic 246, 3) := by decide +kernel
theorem dX9_isUnique_86 : decode cX9_isUnique 86 = .ok (.ifCond .eq 5, 3) := by decide +kernel
theorem dX9_isUnique_89 : decode cX9_isUnique 89 = .ok (.iconst 0, 1) := by decide +kernel
theorem dX9_isUnique_90 : decode cX9_isUnique 90 = .ok (.ireturn, 1) := by decide +kernel
theorem dX9_isUnique_91 : decode cX9_isUnique 91 = .ok (.iinc 2 1, 3) := by decide +kernel
theorem dX9_isUnique_94 : decode cX9_isUnique 94 = .ok (.goto (-77), 3) := by decide +kernel
theorem dX9_isUnique_97 : decode cX9_isUnique 97 = .ok (.iinc 1 1, 3) := by decide +kernel
theorem dX9_isUnique_100 : decode cX9_isUnique 100 = .ok (.goto (-93), 3) := by decide +kernel
theorem dX9_isUnique_103 : decode cX9_isUnique 103 = .ok (.iconst 1, 1) := by decide +kernel
theorem dX9_isUnique_104 : decode cX9_isUnique 104 = .ok (.ireturn, 1) := by decide +kernel
set_option maxRecDepth 20000 in
theorem ggX9_share_X9_many : GoodIn wsX9_share wsX9_many := goodIn_ca (goodIn_r _ [5, 6, 7, 8, 9, 15, 16, 17, 18, 19, 20, 21, 22, 23, 24, 25, 26, 27, 28, 29, 30, 31, 32, 33, 34, 35, 36] (by decide +kernel) (by decide +kernel)) (goodIn_sub (fun _ h => List.mem_cons_of_mem _ (List.mem_append_right _ h)) (by decide +kernel))
set_option maxRecDepth 20000 in
theorem gX9_share_X9_many : GoodIn wsX9_share (wsV RX9 242 RX9 yX9_many wsX9_many) := goodIn_app (goodIn_of _ (by decide +kernel)) ggX9_share_X9_many
set_option maxRecDepth 20000 in
theorem ggX9_share_X9_fails : GoodIn wsX9_share wsX9_fails := goodIn_r _ [13, 14, 15, 16, 17, 18, 19, 20, 21, 22, 23, 24, 25, 26, 27, 28, 29, 30, 31, 32, 33, 34, 35, 36] (by decide +kernel) (by decide +kernel)
set_option maxRecDepth 20000 in
theorem gX9_share_X9_fails : GoodIn wsX9_share (wsV RX9 119 RX9 yX9_fails wsX9_fails) := goodIn_app (goodIn_of _ (by decide +kernel)) ggX9_share_X9_fails
theorem dX9_share_0 : decode cX9_share 0 = .ok (.aload_n 0, 1) := by decide +kernel
theorem dX9_share_1 : decode cX9_share 1 = .ok (.bipush 102, 2) := by decide +kernel
theorem dX9_share_3 : decode cX9_share 3 = .ok (.invokevirtual 242, 3) := by decide +kernel
theorem dX9_share_6 : decode cX9_share 6 = .ok (.aload_n 0, 1) := by decide +kernel
theorem dX9_share_7 : decode cX9_share 7 = .ok (.bipush 111, 2) := by decide +kernel
theorem dX9_share_9 : decode cX9_share 9 = .ok (.invokevirtual 242, 3) := by decide +kernel
theorem dX9_share_12 : decode cX9_share 12 = .ok (.iadd, 1) := by decide +kernel
theorem dX9_share_13 : decode cX9_share 13 = .ok (.istore_n 1, 1) := by decide +kernel
theorem dX9_share_14 : decode cX9_share 14 = .ok (.iload_n 1, 1) := by decide +kernel
theorem dX9_share_15 : decode cX9_share 15 = .ok (.ifCond .ne 10, 3) := by decide +kernel
theorem dX9_share_18 : decode cX9_share 18 = .ok (.aload_n 0, 1) := by decide +kernel
theorem dX9_share_19 : decode cX9_share 19 = .ok (.iconst 1, 1) := by decide +kernel
theorem dX9_share_20 : decode cX9_share 20 = .ok (.invokevirtual 119, 3) := by decide +kernel
theorem dX9_share_23 : decode cX9_share 23 = .ok (.i2f, 1) := by decide +kernel
theorem dX9_share_24 : decode cX9_share 24 = .ok (.freturn, 1) := by decide +kernel
theorem dX9_share_25 : decode cX9_share 25 = .ok (.aload_n 0, 1) := by decide +kernel
theorem dX9_share_26 : decode cX9_share 26 = .ok (.bipush 102, 2) := by decide +kernel
theorem dX9_share_28 : decode cX9_share 28 = .ok (.invokevirtual 242, 3) := by decide +kernel
theorem dX9_share_31 : decode cX9_share 31 = .ok (.i2f, 1) := by decide +kernel
theorem dX9_share_32 : decode cX9_share 32 = .ok (.iload_n 1, 1) := by decide +kernel
theorem dX9_share_33 : decode cX9_share 33 = .ok (.i2f, 1) := by decide +kernel
theorem dX9_share_34 : decode cX9_share 34 = .ok (.fdiv, 1) := by decide +kernel
theorem dX9_share_35 : decode cX9_share 35 = .ok (.freturn, 1) := by decide +kernel
set_option maxRecDepth 20000 in
theorem ggX9_frozenShare_X9_share : GoodIn wsX9_frozenShare wsX9_share := goodIn_ca (goodIn_r _ [6, 7, 8, 9, 5, 10, 11, 12, 13, 14, 15, 16, 17, 18, 1, 19, 20, 21, 22, 23, 24, 25, 26, 27, 28, 29, 30, 31, 32, 33, 34, 35, 36, 37, 38, 39, 40] (by decide +kernel) (by decide +kernel)) (goodIn_sub (fun _ h => List.mem_cons_of_mem _ (List.mem_append_right _ h)) (by decide +kernel))
set_option maxRecDepth 20000 in
theorem gX9_frozenShare_X9_share : GoodIn wsX9_frozenShare (wsV RX9 250 RX9 yX9_share wsX9_share) := goodIn_app (goodIn_of _ (by decide +kernel)) ggX9_frozenShare_X9_share
theorem dX9_frozenShare_0 : decode cX9_frozenShare 0 = .ok (.aload_n 0, 1) := by decide +kernel
theorem dX9_frozenShare_1 : decode cX9_frozenShare 1 = .ok (.iconst 0, 1) := by decide +kernel
theorem dX9_frozenShare_2 : decode cX9_frozenShare 2 = .ok (.putfield 65, 3) := by decide +kernel
theorem dX9_frozenShare_5 : decode cX9_frozenShare 5 = .ok (.aload_n 0, 1) := by decide +kernel
theorem dX9_frozenShare_6 : decode cX9_frozenShare 6 = .ok (.invokevirtual 250, 3) := by decide +kernel
theorem dX9_frozenShare_9 : decode cX9_frozenShare 9 = .ok (.freturn, 1) := by decide +kernel
set_option maxRecDepth 20000 in
theorem ggX9_shareBits_X9_share : GoodIn wsX9_shareBits wsX9_share := goodIn_ca (goodIn_r _ [6, 7, 8, 9, 5, 10, 11, 12, 13, 14, 15, 16, 17, 18, 1, 31, 32, 33, 34, 35, 36, 37, 38, 39, 40, 41, 42, 43, 44, 45, 46, 47, 48, 49, 50, 51, 52] (by decide +kernel) (by decide +kernel)) (goodIn_sub (fun _ h => List.mem_cons_of_mem _ (List.mem_append_right _ h)) (by decide +kernel))
set_option maxRecDepth 20000 in
theorem gX9_shareBits_X9_share : GoodIn wsX9_shareBits (wsV RX9 250 RX9 yX9_share wsX9_share) := goodIn_app (goodIn_of _ (by decide +kernel)) ggX9_shareBits_X9_share
set_option maxRecDepth 20000 in
theorem ggX9_shareBits_Jxf58ca_floatToIntBits_5c35a : GoodIn wsX9_shareBits wsJxf58ca_floatToIntBits_5c35a := goodIn_r _ [22, 23, 24, 25, 26, 27, 28, 29, 21, 30] (by decide +kernel) (by decide +kernel)
set_option maxRecDepth 20000 in
theorem gX9_shareBits_Jxf58ca_floatToIntBits_5c35a : GoodIn wsX9_shareBits (va_wsS RX9 254 yJxf58ca_floatToIntBits_5c35a wsJxf58ca_floatToIntBits_5c35a) := goodIn_app (goodIn_of _ (by decide +kernel)) ggX9_shareBits_Jxf58ca_floatToIntBits_5c35a
theorem dX9_shareBits_0 : decode cX9_shareBits 0 = .ok (.aload_n 0, 1) := by decide +kernel
theorem dX9_shareBits_1 : decode cX9_shareBits 1 = .ok (.iconst 0, 1) := by decide +kernel
theorem dX9_shareBits_2 : decode cX9_shareBits 2 = .ok (.putfield 65, 3) := by decide +kernel
theorem dX9_shareBits_5 : decode cX9_shareBits 5 = .ok (.aload_n 0, 1) := by decide +kernel
theorem dX9_shareBits_6 : decode cX9_shareBits 6 = .ok (.invokevirtual 250, 3) := by decide +kernel
theorem dX9_shareBits_9 : decode cX9_shareBits 9 = .ok (.invokestatic 254, 3) := by decide +kernel
theorem dX9_shareBits_12 : decode cX9_shareBits 12 = .ok (.ireturn, 1) := by decide +kernel
set_option maxRecDepth 20000 in
theorem ggX9_meanNumber_X9_isLevel : GoodIn wsX9_meanNumber wsX9_isLevel := goodIn_r _ [9, 10, 11, 8, 12] (by decide +kernel) (by decide +kernel)
set_option maxRecDepth 20000 in
theorem gX9_meanNumber_X9_isLevel : GoodIn wsX9_meanNumber (va_wsS RX9 136 yX9_isLevel wsX9_isLevel) := goodIn_app (goodIn_of _ (by decide +kernel)) ggX9_meanNumber_X9_isLevel
set_option maxRecDepth 20000 in
theorem ggX9_meanNumber_X9_fails : GoodIn wsX9_meanNumber wsX9_fails := goodIn_r _ [16, 1, 17, 18, 19, 20, 21, 22, 23, 24, 25, 26, 27, 28, 29, 30, 31, 32, 33, 34, 35, 36, 37, 38] (by decide +kernel) (by decide +kernel)
set_option maxRecDepth 20000 in
theorem gX9_meanNumber_X9_fails : GoodIn wsX9_meanNumber (wsV RX9 119 RX9 yX9_fails wsX9_fails) := goodIn_app (goodIn_of _ (by decide +kernel)) ggX9_meanNumber_X9_fails
theorem dX9_meanNumber_0 : decode cX9_meanNumber 0 = .ok (.aload_n 0, 1) := by decide +kernel
theorem dX9_meanNumber_1 : decode cX9_meanNumber 1 = .ok (.iconst 0, 1) := by decide +kernel
theorem dX9_meanNumber_2 : decode cX9_meanNumber 2 = .ok (.putfield 65, 3) := by decide +kernel
theorem dX9_meanNumber_5 : decode cX9_meanNumber 5 = .ok (.iload_n 1, 1) := by decide +kernel
theorem dX9_meanNumber_6 : decode cX9_meanNumber 6 = .ok (.invokestatic 136, 3) := by decide +kernel
theorem dX9_meanNumber_9 : decode cX9_meanNumber 9 = .ok (.ifCond .ne 10, 3) := by decide +kernel
theorem dX9_meanNumber_12 : decode cX9_meanNumber 12 = .ok (.aload_n 0, 1) := by decide +kernel
theorem dX9_meanNumber_13 : decode cX9_meanNumber 13 = .ok (.iconst 1, 1) := by decide +kernel
theorem dX9_meanNumber_14 : decode cX9_meanNumber 14 = .ok (.invokevirtual 119, 3) := by decide +kernel
theorem dX9_meanNumber_17 : decode cX9_meanNumber 17 = .ok (.i2d, 1) := by decide +kernel
theorem dX9_meanNumber_18 : decode cX9_meanNumber 18 = .ok (.dreturn, 1) := by decide +kernel
theorem dX9_meanNumber_19 : decode cX9_meanNumber 19 = .ok (.iconst 0, 1) := by decide +kernel
theorem dX9_meanNumber_20 : decode cX9_meanNumber 20 = .ok (.istore_n 2, 1) := by decide +kernel
theorem dX9_meanNumber_21 : decode cX9_meanNumber 21 = .ok (.iconst 0, 1) := by decide +kernel
theorem dX9_meanNumber_22 : decode cX9_meanNumber 22 = .ok (.istore_n 3, 1) := by decide +kernel
theorem dX9_meanNumber_23 : decode cX9_meanNumber 23 = .ok (.iconst 0, 1) := by decide +kernel
theorem dX9_meanNumber_24 : decode cX9_meanNumber 24 = .ok (.istore 4, 2) := by decide +kernel
theorem dX9_meanNumber_26 : decode cX9_meanNumber 26 = .ok (.iload 4, 2) := by decide +kernel
theorem dX9_meanNumber_28 : decode cX9_meanNumber 28 = .ok (.aload_n 0, 1) := by decide +kernel
theorem dX9_meanNumber_29 : decode cX9_meanNumber 29 = .ok (.getfield 91, 3) := by decide +kernel
theorem dX9_meanNumber_32 : decode cX9_meanNumber 32 = .ok (.if_icmp .ge 46, 3) := by decide +kernel
theorem dX9_meanNumber_35 : decode cX9_meanNumber 35 = .ok (.aload_n 0, 1) := by decide +kernel
theorem dX9_meanNumber_36 : decode cX9_meanNumber 36 = .ok (.getfield 9, 3) := by decide +kernel
theorem dX9_meanNumber_39 : decode cX9_meanNumber 39 = .ok (.aload_n 0, 1) := by decide +kernel
theorem dX9_meanNumber_40 : decode cX9_meanNumber 40 = .ok (.getfield 31, 3) := by decide +kernel
theorem dX9_meanNumber_43 : decode cX9_meanNumber 43 = .ok (.iload 4, 2) := by decide +kernel
theorem dX9_meanNumber_45 : decode cX9_meanNumber 45 = .ok (.iaload, 1) := by decide +kernel
theorem dX9_meanNumber_46 : decode cX9_meanNumber 46 = .ok (.iaload, 1) := by decide +kernel
theorem dX9_meanNumber_47 : decode cX9_meanNumber 47 = .ok (.iload_n 1, 1) := by decide +kernel
theorem dX9_meanNumber_48 : decode cX9_meanNumber 48 = .ok (.if_icmp .eq 6, 3) := by decide +kernel
theorem dX9_meanNumber_51 : decode cX9_meanNumber 51 = .ok (.goto 21, 3) := by decide +kernel
theorem dX9_meanNumber_54 : decode cX9_meanNumber 54 = .ok (.iinc 2 1, 3) := by decide +kernel
theorem dX9_meanNumber_57 : decode cX9_meanNumber 57 = .ok (.iload_n 3, 1) := by decide +kernel
theorem dX9_meanNumber_58 : decode cX9_meanNumber 58 = .ok (.aload_n 0, 1) := by decide +kernel
theorem dX9_meanNumber_59 : decode cX9_meanNumber 59 = .ok (.getfield 22, 3) := by decide +kernel
theorem dX9_meanNumber_62 : decode cX9_meanNumber 62 = .ok (.aload_n 0, 1) := by decide +kernel
theorem dX9_meanNumber_63 : decode cX9_meanNumber 63 = .ok (.getfield 31, 3) := by decide +kernel
theorem dX9_meanNumber_66 : decode cX9_meanNumber 66 = .ok (.iload 4, 2) := by decide +kernel
theorem dX9_meanNumber_68 : decode cX9_meanNumber 68 = .ok (.iaload, 1) := by decide +kernel
theorem dX9_meanNumber_69 : decode cX9_meanNumber 69 = .ok (.iaload, 1) := by decide +kernel
theorem dX9_meanNumber_70 : decode cX9_meanNumber 70 = .ok (.iadd, 1) := by decide +kernel
theorem dX9_meanNumber_71 : decode cX9_meanNumber 71 = .ok (.istore_n 3, 1) := by decide +kernel
theorem dX9_meanNumber_72 : decode cX9_meanNumber 72 = .ok (.iinc 4 1, 3) := by decide +kernel
theorem dX9_meanNumber_75 : decode cX9_meanNumber 75 = .ok (.goto (-49), 3) := by decide +kernel
theorem dX9_meanNumber_78 : decode cX9_meanNumber 78 = .ok (.iload_n 2, 1) := by decide +kernel
theorem dX9_meanNumber_79 : decode cX9_meanNumber 79 = .ok (.ifCond .ne 12, 3) := by decide +kernel
theorem dX9_meanNumber_82 : decode cX9_meanNumber 82 = .ok (.aload_n 0, 1) := by decide +kernel
theorem dX9_meanNumber_83 : decode cX9_meanNumber 83 = .ok (.iconst 2, 1) := by decide +kernel
theorem dX9_meanNumber_84 : decode cX9_meanNumber 84 = .ok (.invokevirtual 119, 3) := by decide +kernel
theorem dX9_meanNumber_87 : decode cX9_meanNumber 87 = .ok (.i2d, 1) := by decide +kernel
theorem dX9_meanNumber_88 : decode cX9_meanNumber 88 = .ok (.goto 8, 3) := by decide +kernel
theorem dX9_meanNumber_91 : decode cX9_meanNumber 91 = .ok (.iload_n 3, 1) := by decide +kernel
theorem dX9_meanNumber_92 : decode cX9_meanNumber 92 = .ok (.i2d, 1) := by decide +kernel
theorem dX9_meanNumber_93 : decode cX9_meanNumber 93 = .ok (.iload_n 2, 1) := by decide +kernel
theorem dX9_meanNumber_94 : decode cX9_meanNumber 94 = .ok (.i2d, 1) := by decide +kernel
theorem dX9_meanNumber_95 : decode cX9_meanNumber 95 = .ok (.ddiv, 1) := by decide +kernel
theorem dX9_meanNumber_96 : decode cX9_meanNumber 96 = .ok (.dreturn, 1) := by decide +kernel
theorem dJxf58ca_isNaN_12338_0 : decode cJxf58ca_isNaN_12338 0 = .ok (.fload_n 0, 1) := by decide +kernel
theorem dJxf58ca_isNaN_12338_1 : decode cJxf58ca_isNaN_12338 1 = .ok (.fload_n 0, 1) := by decide +kernel
theorem dJxf58ca_isNaN_12338_2 : decode cJxf58ca_isNaN_12338 2 = .ok (.fcmp .l, 1) := by decide +kernel
theorem dJxf58ca_isNaN_12338_3 : decode cJxf58ca_isNaN_12338 3 = .ok (.ifCond .eq 7, 3) := by decide +kernel
theorem dJxf58ca_isNaN_12338_6 : decode cJxf58ca_isNaN_12338 6 = .ok (.iconst 1, 1) := by decide +kernel
theorem dJxf58ca_isNaN_12338_7 : decode cJxf58ca_isNaN_12338 7 = .ok (.goto 4, 3) := by decide +kernel
theorem dJxf58ca_isNaN_12338_10 : decode cJxf58ca_isNaN_12338 10 = .ok (.iconst 0, 1) := by decide +kernel
theorem dJxf58ca_isNaN_12338_11 : decode cJxf58ca_isNaN_12338 11 = .ok (.ireturn, 1) := by decide +kernel
set_option maxRecDepth 20000 in
theorem ggJxf58ca_floatToIntBits_5c35a_Jxf58ca_isNaN_12338 : GoodIn wsJxf58ca_floatToIntBits_5c35a wsJxf58ca_isNaN_12338 := goodIn_r _ [9] (by decide +kernel) (by decide +kernel)
set_option maxRecDepth 20000 in
theorem gJxf58ca_floatToIntBits_5c35a_Jxf58ca_isNaN_12338 : GoodIn wsJxf58ca_floatToIntBits_5c35a (va_wsS RJxf58ca 59 yJxf58ca_isNaN_12338 wsJxf58ca_isNaN_12338) := goodIn_app (goodIn_of _ (by decide +kernel)) ggJxf58ca_floatToIntBits_5c35a_Jxf58ca_isNaN_12338
theorem dJxf58ca_floatToIntBits_5c35a_0 : decode cJxf58ca_floatToIntBits_5c35a 0 = .ok (.fload_n 0, 1) := by decide +kernel
theorem dJxf58ca_floatToIntBits_5c35a_1 : decode cJxf58ca_floatToIntBits_5c35a 1 = .ok (.invokestatic 59, 3) := by decide +kernel
theorem dJxf58ca_floatToIntBits_5c35a_4 : decode cJxf58ca_floatToIntBits_5c35a 4 = .ok (.ifCond .ne 8, 3) := by decide +kernel
theorem dJxf58ca_floatToIntBits_5c35a_7 : decode cJxf58ca_floatToIntBits_5c35a 7 = .ok (.fload_n 0, 1) := by decide +kernel
theorem dJxf58ca_floatToIntBits_5c35a_8 : decode cJxf58ca_floatToIntBits_5c35a 8 = .ok (.invokestatic 74, 3) := by decide +kernel
theorem dJxf58ca_floatToIntBits_5c35a_11 : decode cJxf58ca_floatToIntBits_5c35a 11 = .ok (.ireturn, 1) := by decide +kernel
theorem dJxf58ca_floatToIntBits_5c35a_12 : decode cJxf58ca_floatToIntBits_5c35a 12 = .ok (.ldc 77, 2) := by decide +kernel
theorem dJxf58ca_floatToIntBits_5c35a_14 : decode cJxf58ca_floatToIntBits_5c35a 14 = .ok (.ireturn, 1) := by decide +kernel
set_option maxRecDepth 20000 in
theorem ggL_insert_X8_insert : GoodIn wsL_insert wsX8_insert := goodIn_ca (goodIn_ca (goodIn_ca (goodIn_ca (goodIn_r _ [8, 9, 10, 11, 12, 13, 14, 15, 16, 17, 18, 19, 20, 21, 22, 23, 24, 25, 26, 27, 28, 29, 30, 31, 32, 33, 34, 35, 36, 37, 38, 39, 40, 41, 42, 43, 44, 45, 46, 7, 47, 48, 49, 50, 51, 52, 53, 54, 55, 56, 57, 58, 59, 60, 61, 62, 63, 64, 65, 66, 67, 68, 69, 70, 71, 72, 73, 74, 75, 76, 77, 78, 79, 80, 81, 82, 83, 84, 85, 86, 87, 88, 89, 90, 91, 92, 93, 94, 95, 96, 97, 98, 99, 100, 101, 102, 103, 104, 105, 106, 107, 108, 109, 110, 111, 112, 113, 114, 115, 116, 117, 118, 119, 120, 121, 122, 123, 124, 125, 126, 127, 128, 129, 130, 131, 132, 133, 134, 135, 136, 137, 138, 139, 140, 141, 142, 143, 144, 145, 146, 147, 148, 149, 150, 151, 152, 153, 154, 155, 156, 157, 158, 159, 160, 161, 162, 163, 164, 165, 166, 167, 168, 169, 170, 171, 172, 173, 174, 175, 176, 177, 178, 179, 180, 181, 182, 183, 184, 185, 186, 187, 188, 189, 190, 191, 192, 193, 194, 195, 196, 197, 198, 199, 200, 201, 202, 203, 204, 205, 206, 207, 208, 209] (by decide +kernel) (by decide +kernel)) (goodIn_sub (fun _ h => List.mem_cons_of_mem _ (List.mem_append_left _ (List.mem_append_left _ (List.mem_append_right _ h)))) (by decide +kernel))) (goodIn_sub (fun _ h => List.mem_cons_of_mem _ (List.mem_append_left _ (List.mem_append_right _ h))) (by decide +kernel))) (goodIn_sub (fun _ h => List.mem_cons_of_mem _ (List.mem_append_right _ h)) (by decide +kernel))) (goodIn_sub (fun _ h => List.mem_cons_of_mem _ (List.mem_append_left _ (List.mem_append_left _ (List.mem_append_left _ (List.mem_append_right _ h))))) (by decide +kernel))
set_option maxRecDepth 20000 in
theorem gL_insert_X8_insert : GoodIn wsL_insert (wsV RL 7 RX8 yX8_insert wsX8_insert) := goodIn_app (goodIn_of _ (by decide +kernel)) ggL_insert_X8_insert
theorem dL_insert_0 : decode cL_insert 0 = .ok (.aload_n 3, 1) := by decide +kernel
theorem dL_insert_1 : decode cL_insert 1 = .ok (.iconst 0, 1) := by decide +kernel
theorem dL_insert_2 : decode cL_insert 2 = .ok (.aload_n 0, 1) := by decide +kernel
theorem dL_insert_3 : decode cL_insert 3 = .ok (.iload_n 1, 1) := by decide +kernel
theorem dL_insert_4 : decode cL_insert 4 = .ok (.iload_n 2, 1) := by decide +kernel
theorem dL_insert_5 : decode cL_insert 5 = .ok (.invokevirtual 7, 3) := by decide +kernel
theorem dL_insert_8 : decode cL_insert 8 = .ok (.i2l, 1) := by decide +kernel
theorem dL_insert_9 : decode cL_insert 9 = .ok (.lastore, 1) := by decide +kernel
theorem dL_insert_10 : decode cL_insert 10 = .ok (.goto 15, 3) := by decide +kernel
theorem dL_insert_13 : decode cL_insert 13 = .ok (.astore 4, 2) := by decide +kernel
theorem dL_insert_15 : decode cL_insert 15 = .ok (.iconst 1, 1) := by decide +kernel
theorem dL_insert_16 : decode cL_insert 16 = .ok (.ireturn, 1) := by decide +kernel
theorem dL_insert_17 : decode cL_insert 17 = .ok (.astore 4, 2) := by decide +kernel
theorem dL_insert_19 : decode cL_insert 19 = .ok (.iconst 2, 1) := by decide +kernel
theorem dL_insert_20 : decode cL_insert 20 = .ok (.ireturn, 1) := by decide +kernel
theorem dL_insert_21 : decode cL_insert 21 = .ok (.astore 4, 2) := by decide +kernel
theorem dL_insert_23 : decode cL_insert 23 = .ok (.iconst 3, 1) := by decide +kernel
theorem dL_insert_24 : decode cL_insert 24 = .ok (.ireturn, 1) := by decide +kernel
theorem dL_insert_25 : decode cL_insert 25 = .ok (.iconst 0, 1) := by decide +kernel
theorem dL_insert_26 : decode cL_insert 26 = .ok (.ireturn, 1) := by decide +kernel
set_option maxRecDepth 20000 in
theorem ggL_move_X8_move : GoodIn wsL_move wsX8_move := goodIn_ca (goodIn_ca (goodIn_ca (goodIn_ca (goodIn_r _ [8, 9, 10, 11, 12, 13, 14, 15, 16, 17, 7, 18, 19, 20, 21, 22, 23, 24, 25, 26, 27, 28, 29, 30, 31, 32, 33, 34, 35, 36, 37, 38, 39, 40, 41, 42, 43, 44, 45, 46, 47, 48, 49, 50, 51, 52, 53, 54, 55, 56, 57, 58, 59, 60, 61, 62, 63, 64, 65, 66, 67, 68, 69, 70, 71, 72, 73, 74, 75, 76, 77, 78, 79, 80, 81, 82, 83, 84, 85, 86, 87, 88, 89, 90, 91, 92, 93, 94, 95, 96, 97, 98, 99, 100, 101, 102, 103, 104, 105, 106, 107, 108, 109, 110, 111, 112, 113, 114, 115, 116, 117, 118, 119, 120, 121, 122, 123, 124, 125, 126, 127, 128, 129, 130, 131, 132, 133, 134, 135, 136, 137, 138, 139, 140, 141, 142, 143, 144, 145, 146, 147, 148, 149, 150, 151, 152, 153, 154, 155, 156, 157, 158, 159, 160, 161, 162, 163, 164, 165, 166, 167, 168, 169, 170, 171, 172, 173, 174, 175, 176, 177, 178, 179, 180, 181, 182, 183, 184, 185, 186, 187, 188, 189, 190, 191, 192, 193, 194, 195, 196, 197, 198, 199, 200, 201, 202, 203, 204, 205, 206, 207, 208, 209, 210, 211, 212, 213, 214, 215, 216, 217, 218, 219, 220, 221] (by decide +kernel) (by decide +kernel)) (goodIn_sub (fun _ h => List.mem_cons_of_mem _ (List.mem_append_left _ (List.mem_append_left _ (List.mem_append_right _ h)))) (by decide +kernel))) (goodIn_sub (fun _ h => List.mem_cons_of_mem _ (List.mem_append_left _ (List.mem_append_right _ h))) (by decide +kernel))) (goodIn_sub (fun _ h => List.mem_cons_of_mem _ (List.mem_append_right _ h)) (by decide +kernel))) (goodIn_sub (fun _ h => List.mem_cons_of_mem _ (List.mem_append_left _ (List.mem_append_left _ (List.mem_append_left _ (List.mem_append_right _ h))))) (by decide +kernel))
set_option maxRecDepth 20000 in
theorem gL_move_X8_move : GoodIn wsL_move (wsV RL 19 RX8 yX8_move wsX8_move) := goodIn_app (goodIn_of _ (by decide +kernel)) ggL_move_X8_move
theorem dL_move_0 : decode cL_move 0 = .ok (.aload_n 3, 1) := by decide +kernel
theorem dL_move_1 : decode cL_move 1 = .ok (.iconst 0, 1) := by decide +kernel
theorem dL_move_2 : decode cL_move 2 = .ok (.aload_n 0, 1) := by decide +kernel
theorem dL_move_3 : decode cL_move 3 = .ok (.iload_n 1, 1) := by decide +kernel
theorem dL_move_4 : decode cL_move 4 = .ok (.iload_n 2, 1) := by decide +kernel
theorem dL_move_5 : decode cL_move 5 = .ok (.invokevirtual 19, 3) := by decide +kernel
theorem dL_move_8 : decode cL_move 8 = .ok (.i2l, 1) := by decide +kernel
theorem dL_move_9 : decode cL_move 9 = .ok (.lastore, 1) := by decide +kernel
theorem dL_move_10 : decode cL_move 10 = .ok (.goto 15, 3) := by decide +kernel
theorem dL_move_13 : decode cL_move 13 = .ok (.astore 4, 2) := by decide +kernel
theorem dL_move_15 : decode cL_move 15 = .ok (.iconst 1, 1) := by decide +kernel
theorem dL_move_16 : decode cL_move 16 = .ok (.ireturn, 1) := by decide +kernel
theorem dL_move_17 : decode cL_move 17 = .ok (.astore 4, 2) := by decide +kernel
theorem dL_move_19 : decode cL_move 19 = .ok (.iconst 2, 1) := by decide +kernel
theorem dL_move_20 : decode cL_move 20 = .ok (.ireturn, 1) := by decide +kernel
theorem dL_move_21 : decode cL_move 21 = .ok (.astore 4, 2) := by decide +kernel
theorem dL_move_23 : decode cL_move 23 = .ok (.iconst 3, 1) := by decide +kernel
theorem dL_move_24 : decode cL_move 24 = .ok (.ireturn, 1) := by decide +kernel
theorem dL_move_25 : decode cL_move 25 = .ok (.iconst 0, 1) := by decide +kernel
theorem dL_move_26 : decode cL_move 26 = .ok (.ireturn, 1) := by decide +kernel
set_option maxRecDepth 20000 in
theorem ggL_setLevel_X8_setLevel : GoodIn wsL_setLevel wsX8_setLevel := goodIn_ca (goodIn_ca (goodIn_ca (goodIn_ca (goodIn_r _ [8, 9, 10, 11, 12, 13, 14, 15, 16, 17, 7, 18, 19, 20, 21, 22, 23, 24, 25, 26, 27, 28, 29, 30, 31, 32, 33, 34, 35, 36, 37, 38, 39, 40, 41, 42, 43, 44, 45, 46, 47, 48, 49, 50, 51, 52, 53, 54, 55, 56, 57, 58, 59, 60, 61, 62, 63, 64, 65, 66, 67, 68, 69, 70, 71, 72, 73, 74, 75, 76, 77, 78, 79, 80, 81, 82, 83, 84, 85, 86, 87, 88, 89, 90, 91, 92, 93, 94, 95, 96, 97, 98, 99, 100, 101, 102, 103, 104, 105, 106, 107, 108, 109, 110, 111, 112, 113, 114, 115, 116, 117, 118, 119, 120, 121, 122, 123, 124, 125, 126, 127, 128, 129, 130, 131, 132, 133, 134, 135, 136, 137, 138, 139, 140, 141, 142, 143, 144, 145, 146, 147, 148, 149, 150, 151, 152, 153, 154, 155, 156, 157, 158, 159, 160, 161, 162, 163, 164, 165, 166, 167, 168, 169, 170, 171, 172, 173, 174, 175, 176, 177, 178, 179, 180, 181, 182, 183, 184, 185, 186, 187, 188, 189, 190, 191, 192, 193, 194, 195, 196, 197, 198, 199, 200, 201, 202, 203, 204, 205, 206, 207, 208] (by decide +kernel) (by decide +kernel)) (goodIn_sub (fun _ h => List.mem_cons_of_mem _ (List.mem_append_left _ (List.mem_append_left _ (List.mem_append_right _ h)))) (by decide +kernel))) (goodIn_sub (fun _ h => List.mem_cons_of_mem _ (List.mem_append_left _ (List.mem_append_right _ h))) (by decide +kernel))) (goodIn_sub (fun _ h => List.mem_cons_of_mem _ (List.mem_append_right _ h)) (by decide +kernel))) (goodIn_sub (fun _ h => List.mem_cons_of_mem _ (List.mem_append_left _ (List.mem_append_left _ (List.mem_append_left _ (List.mem_append_right _ h))))) (by decide +kernel))
set_option maxRecDepth 20000 in
theorem gL_setLevel_X8_setLevel : GoodIn wsL_setLevel (wsV RL 24 RX8 yX8_setLevel wsX8_setLevel) := goodIn_app (goodIn_of _ (by decide +kernel)) ggL_setLevel_X8_setLevel
theorem dL_setLevel_0 : decode cL_setLevel 0 = .ok (.aload_n 3, 1) := by decide +kernel
theorem dL_setLevel_1 : decode cL_setLevel 1 = .ok (.iconst 0, 1) := by decide +kernel
theorem dL_setLevel_2 : decode cL_setLevel 2 = .ok (.aload_n 0, 1) := by decide +kernel
theorem dL_setLevel_3 : decode cL_setLevel 3 = .ok (.iload_n 1, 1) := by decide +kernel
theorem dL_setLevel_4 : decode cL_setLevel 4 = .ok (.iload_n 2, 1) := by decide +kernel
theorem dL_setLevel_5 : decode cL_setLevel 5 = .ok (.invokevirtual 24, 3) := by decide +kernel
theorem dL_setLevel_8 : decode cL_setLevel 8 = .ok (.i2l, 1) := by decide +kernel
theorem dL_setLevel_9 : decode cL_setLevel 9 = .ok (.lastore, 1) := by decide +kernel
theorem dL_setLevel_10 : decode cL_setLevel 10 = .ok (.goto 15, 3) := by decide +kernel
theorem dL_setLevel_13 : decode cL_setLevel 13 = .ok (.astore 4, 2) := by decide +kernel
theorem dL_setLevel_15 : decode cL_setLevel 15 = .ok (.iconst 1, 1) := by decide +kernel
theorem dL_setLevel_16 : decode cL_setLevel 16 = .ok (.ireturn, 1) := by decide +kernel
theorem dL_setLevel_17 : decode cL_setLevel 17 = .ok (.astore 4, 2) := by decide +kernel
theorem dL_setLevel_19 : decode cL_setLevel 19 = .ok (.iconst 2, 1) := by decide +kernel
theorem dL_setLevel_20 : decode cL_setLevel 20 = .ok (.ireturn, 1) := by decide +kernel
theorem dL_setLevel_21 : decode cL_setLevel 21 = .ok (.astore 4, 2) := by decide +kernel
theorem dL_setLevel_23 : decode cL_setLevel 23 = .ok (.iconst 3, 1) := by decide +kernel
theorem dL_setLevel_24 : decode cL_setLevel 24 = .ok (.ireturn, 1) := by decide +kernel
theorem dL_setLevel_25 : decode cL_setLevel 25 = .ok (.iconst 0, 1) := by decide +kernel
theorem dL_setLevel_26 : decode cL_setLevel 26 = .ok (.ireturn, 1) := by decide +kernel
set_option maxRecDepth 20000 in
theorem ggL_remove_X8_remove : GoodIn wsL_remove wsX8_remove := goodIn_ca (goodIn_ca (goodIn_ca (goodIn_r _ [7, 8, 9, 10, 11, 12, 13, 6, 14, 15, 16, 17, 18, 19, 20, 21, 22, 23, 24, 25, 26, 27, 28, 29, 30, 31, 32, 33, 34, 35, 36, 37, 38, 39, 40, 41, 42, 43, 44, 45, 46, 47, 48, 49, 50, 51, 52, 53, 54, 55, 56, 57, 58, 59, 60, 61, 62, 63, 64, 65, 66, 67, 68, 69, 70, 71, 72, 73, 74, 75, 76, 77, 78, 79, 80, 81, 82, 83, 84, 85, 86, 87, 88, 89, 90, 91, 92, 93, 94, 95, 96, 97, 98, 99, 100, 101, 102, 103, 104, 105, 106, 107, 108, 109, 110, 111, 112, 113, 114, 115, 116, 117, 118, 119, 120, 121, 122, 123, 124, 125, 126, 127, 128, 129, 130, 131, 132, 133, 134, 135, 136, 137, 138, 139, 140, 141, 142, 143, 144, 145, 146, 147, 148, 149, 150, 151, 152, 153, 154, 155, 156, 157, 158, 159, 160, 161, 162, 163, 164, 165, 166, 167, 168, 169, 170, 171, 172, 173, 174, 175, 176, 177, 178, 179, 180, 181, 182, 183, 184, 185, 186, 187, 188, 189, 190, 191, 192, 193, 194, 195, 196, 197, 198, 199, 200, 201, 202, 203, 204, 205, 206, 207, 208, 209, 210, 211, 212, 213, 214, 215] (by decide +kernel) (by decide +kernel)) (goodIn_sub (fun _ h => List.mem_cons_of_mem _ (List.mem_append_left _ (List.mem_append_right _ h))) (by decide +kernel))) (goodIn_sub (fun _ h => List.mem_cons_of_mem _ (List.mem_append_right _ h)) (by decide +kernel))) (goodIn_sub (fun _ h => List.mem_cons_of_mem _ (List.mem_append_left _ (List.mem_append_left _ (List.mem_append_right _ h)))) (by decide +kernel))
set_option maxRecDepth 20000 in
theorem gL_remove_X8_remove : GoodIn wsL_remove (wsV RL 27 RX8 yX8_remove wsX8_remove) := goodIn_app (goodIn_of _ (by decide +kernel)) ggL_remove_X8_remove
theorem dL_remove_0 : decode cL_remove 0 = .ok (.aload_n 2, 1) := by decide +kernel
theorem dL_remove_1 : decode cL_remove 1 = .ok (.iconst 0, 1) := by decide +kernel
theorem dL_remove_2 : decode cL_remove 2 = .ok (.aload_n 0, 1) := by decide +kernel
theorem dL_remove_3 : decode cL_remove 3 = .ok (.iload_n 1, 1) := by decide +kernel
theorem dL_remove_4 : decode cL_remove 4 = .ok (.invokevirtual 27, 3) := by decide +kernel
theorem dL_remove_7 : decode cL_remove 7 = .ok (.i2l, 1) := by decide +kernel
theorem dL_remove_8 : decode cL_remove 8 = .ok (.lastore, 1) := by decide +kernel
theorem dL_remove_9 : decode cL_remove 9 = .ok (.goto 9, 3) := by decide +kernel
theorem dL_remove_12 : decode cL_remove 12 = .ok (.astore_n 3, 1) := by decide +kernel
theorem dL_remove_13 : decode cL_remove 13 = .ok (.iconst 1, 1) := by decide +kernel
theorem dL_remove_14 : decode cL_remove 14 = .ok (.ireturn, 1) := by decide +kernel
theorem dL_remove_15 : decode cL_remove 15 = .ok (.astore_n 3, 1) := by decide +kernel
theorem dL_remove_16 : decode cL_remove 16 = .ok (.iconst 2, 1) := by decide +kernel
theorem dL_remove_17 : decode cL_remove 17 = .ok (.ireturn, 1) := by decide +kernel
theorem dL_remove_18 : decode cL_remove 18 = .ok (.iconst 0, 1) := by decide +kernel
theorem dL_remove_19 : decode cL_remove 19 = .ok (.ireturn, 1) := by decide +kernel
set_option maxRecDepth 20000 in
theorem ggL_startAt_X8_startAt : GoodIn wsL_startAt wsX8_startAt := goodIn_ca (goodIn_ca (goodIn_ca (goodIn_r _ [7, 8, 9, 10, 11, 12, 13, 6, 14, 15, 16, 17, 18, 19, 20, 21, 22, 23, 24, 25, 26, 27, 28, 29, 30, 31, 32, 33, 34, 35, 36, 37, 38, 39, 40, 41, 42, 43, 44, 45, 46, 47, 48, 49, 50, 51, 52, 53, 54, 55, 56, 57, 58, 59, 60, 61, 62, 63, 64, 65, 66, 67, 68, 69, 70, 71, 72, 73, 74, 75, 76, 77, 78, 79, 80, 81, 82, 83, 84, 85, 86, 87, 88, 89, 90, 91, 92, 93, 94, 95, 96, 97, 98, 99, 100, 101, 102, 103, 104, 105, 106, 107, 108, 109, 110, 111, 112, 113, 114, 115, 116, 117, 118, 119, 120, 121, 122, 123, 124, 125, 126, 127, 128, 129, 130, 131, 132, 133, 134, 135, 136, 137, 138, 139, 140, 141, 142, 143, 144, 145, 146, 147, 148, 149, 150, 151, 152, 153, 154, 155, 156, 157, 158, 159, 160, 161, 162, 163, 164, 165, 166, 167, 168, 169, 170, 171, 172, 173, 174, 175, 176, 177, 178, 179, 180, 181, 182] (by decide +kernel) (by decide +kernel)) (goodIn_sub (fun _ h => List.mem_cons_of_mem _ (List.mem_append_left _ (List.mem_append_right _ h))) (by decide +kernel))) (goodIn_sub (fun _ h => List.mem_cons_of_mem _ (List.mem_append_right _ h)) (by decide +kernel))) (goodIn_sub (fun _ h => List.mem_cons_of_mem _ (List.mem_append_left _ (List.mem_append_left _ (List.mem_append_right _ h)))) (by decide +kernel))
set_option maxRecDepth 20000 in
theorem gL_startAt_X8_startAt : GoodIn wsL_startAt (wsV RL 31 RX8 yX8_startAt wsX8_startAt) := goodIn_app (goodIn_of _ (by decide +kernel)) ggL_startAt_X8_startAt
theorem dL_startAt_0 : decode cL_startAt 0 = .ok (.aload_n 3, 1) := by decide +kernel
theorem dL_startAt_1 : decode cL_startAt 1 = .ok (.iconst 0, 1) := by decide +kernel
theorem dL_startAt_2 : decode cL_startAt 2 = .ok (.aload_n 0, 1) := by decide +kernel
theorem dL_startAt_3 : decode cL_startAt 3 = .ok (.iload_n 1, 1) := by decide +kernel
theorem dL_startAt_4 : decode cL_startAt 4 = .ok (.iload_n 2, 1) := by decide +kernel
theorem dL_startAt_5 : decode cL_startAt 5 = .ok (.invokevirtual 31, 3) := by decide +kernel
theorem dL_startAt_8 : decode cL_startAt 8 = .ok (.i2l, 1) := by decide +kernel
theorem dL_startAt_9 : decode cL_startAt 9 = .ok (.lastore, 1) := by decide +kernel
theorem dL_startAt_10 : decode cL_startAt 10 = .ok (.goto 11, 3) := by decide +kernel
theorem dL_startAt_13 : decode cL_startAt 13 = .ok (.astore 4, 2) := by decide +kernel
theorem dL_startAt_15 : decode cL_startAt 15 = .ok (.iconst 1, 1) := by decide +kernel
theorem dL_startAt_16 : decode cL_startAt 16 = .ok (.ireturn, 1) := by decide +kernel
theorem dL_startAt_17 : decode cL_startAt 17 = .ok (.astore 4, 2) := by decide +kernel
theorem dL_startAt_19 : decode cL_startAt 19 = .ok (.iconst 2, 1) := by decide +kernel
theorem dL_startAt_20 : decode cL_startAt 20 = .ok (.ireturn, 1) := by decide +kernel
theorem dL_startAt_21 : decode cL_startAt 21 = .ok (.iconst 0, 1) := by decide +kernel
theorem dL_startAt_22 : decode cL_startAt 22 = .ok (.ireturn, 1) := by decide +kernel
set_option maxRecDepth 20000 in
theorem ggL_reserve_X8_reserve : GoodIn wsL_reserve wsX8_reserve := goodIn_ca (goodIn_ca (goodIn_ca (goodIn_r _ [7, 8, 9, 10, 11, 12, 13, 6, 14, 15, 16, 17, 18, 19, 20, 21, 22, 23, 24, 25, 26, 27, 28, 29, 30, 31, 32, 33, 34, 35, 36, 37, 38, 39, 40, 41, 42, 43, 44, 45, 46, 47, 48, 49, 50, 51, 52, 53, 54, 55, 56, 57, 58, 59, 60, 61, 62, 63, 64, 65, 66, 67, 68, 69, 70, 71, 72, 73, 74, 75, 76, 77, 78, 79, 80, 81, 82, 83, 84, 85, 86, 87, 88, 89, 90, 91, 92, 93, 94, 95, 96, 97, 98, 99, 100, 101, 102, 103, 104, 105, 106, 107, 108, 109, 110, 111, 112, 113, 114, 115, 116, 117, 118, 119, 120, 121, 122, 123, 124, 125, 126, 127, 128, 129, 130, 131, 132, 133, 134, 135, 136, 137, 138, 139, 140, 141, 142, 143, 144, 145, 146, 147, 148, 149, 150, 151, 152, 153, 154, 155, 156, 157, 158, 159, 160, 161, 162, 163, 164, 165, 166, 167, 168, 169, 170, 171, 172, 173, 174, 175, 176, 177, 178, 179, 180, 181, 182] (by decide +kernel) (by decide +kernel)) (goodIn_sub (fun _ h => List.mem_cons_of_mem _ (List.mem_append_left _ (List.mem_append_right _ h))) (by decide +kernel))) (goodIn_sub (fun _ h => List.mem_cons_of_mem _ (List.mem_append_right _ h)) (by decide +kernel))) (goodIn_sub (fun _ h => List.mem_cons_of_mem _ (List.mem_append_left _ (List.mem_append_left _ (List.mem_append_right _ h)))) (by decide +kernel))
set_option maxRecDepth 20000 in
theorem gL_reserve_X8_reserve : GoodIn wsL_reserve (wsV RL 34 RX8 yX8_reserve wsX8_reserve) := goodIn_app (goodIn_of _ (by decide +kernel)) ggL_reserve_X8_reserve
theorem dL_reserve_0 : decode cL_reserve 0 = .ok (.aload_n 3, 1) := by decide +kernel
theorem dL_reserve_1 : decode cL_reserve 1 = .ok (.iconst 0, 1) := by decide +kernel
theorem dL_reserve_2 : decode cL_reserve 2 = .ok (.aload_n 0, 1) := by decide +kernel
theorem dL_reserve_3 : decode cL_reserve 3 = .ok (.iload_n 1, 1) := by decide +kernel
theorem dL_reserve_4 : decode cL_reserve 4 = .ok (.iload_n 2, 1) := by decide +kernel
theorem dL_reserve_5 : decode cL_reserve 5 = .ok (.invokevirtual 34, 3) := by decide +kernel
theorem dL_reserve_8 : decode cL_reserve 8 = .ok (.i2l, 1) := by decide +kernel
theorem dL_reserve_9 : decode cL_reserve 9 = .ok (.lastore, 1) := by decide +kernel
theorem dL_reserve_10 : decode cL_reserve 10 = .ok (.goto 11, 3) := by decide +kernel
theorem dL_reserve_13 : decode cL_reserve 13 = .ok (.astore 4, 2) := by decide +kernel
theorem dL_reserve_15 : decode cL_reserve 15 = .ok (.iconst 1, 1) := by decide +kernel
theorem dL_reserve_16 : decode cL_reserve 16 = .ok (.ireturn, 1) := by decide +kernel
theorem dL_reserve_17 : decode cL_reserve 17 = .ok (.astore 4, 2) := by decide +kernel
theorem dL_reserve_19 : decode cL_reserve 19 = .ok (.iconst 2, 1) := by decide +kernel
theorem dL_reserve_20 : decode cL_reserve 20 = .ok (.ireturn, 1) := by decide +kernel
theorem dL_reserve_21 : decode cL_reserve 21 = .ok (.iconst 0, 1) := by decide +kernel
theorem dL_reserve_22 : decode cL_reserve 22 = .ok (.ireturn, 1) := by decide +kernel
set_option maxRecDepth 20000 in
theorem ggL_skip_X8_skip : GoodIn wsL_skip wsX8_skip := goodIn_ca (goodIn_ca (goodIn_ca (goodIn_r _ [7, 8, 9, 10, 11, 12, 13, 14, 6, 15, 16, 17, 18, 19, 20, 21, 22, 23, 24, 25, 26, 27, 28, 29, 30, 31, 32, 33, 34, 35, 36, 37, 38, 39, 40, 41, 42, 43, 44, 45, 46, 47, 48, 49, 50, 51, 52, 53, 54, 55, 56, 57, 58, 59, 60, 61, 62, 63, 64, 65, 66, 67, 68, 69, 70, 71, 72, 73, 74, 75, 76, 77, 78, 79, 80, 81, 82, 83, 84, 85, 86, 87, 88, 89, 90, 91, 92, 93, 94, 95, 96, 97, 98, 99, 100, 101, 102, 103, 104, 105, 106, 107, 108, 109, 110, 111, 112, 113, 114, 115, 116, 117, 118, 119, 120, 121, 122, 123, 124, 125, 126, 127, 128, 129, 130, 131, 132, 133, 134, 135, 136, 137, 138, 139, 140, 141, 142, 143, 144, 145, 146, 147, 148, 149, 150, 151, 152, 153, 154, 155, 156, 157, 158, 159, 160, 161, 162, 163, 164, 165, 166, 167, 168, 169, 170, 171, 172, 173, 174, 175, 176, 177, 178, 179, 180, 181, 182, 183, 184, 185, 186, 187, 188] (by decide +kernel) (by decide +kernel)) (goodIn_sub (fun _ h => List.mem_cons_of_mem _ (List.mem_append_left _ (List.mem_append_right _ h))) (by decide +kernel))) (goodIn_sub (fun _ h => List.mem_cons_of_mem _ (List.mem_append_right _ h)) (by decide +kernel))) (goodIn_sub (fun _ h => List.mem_cons_of_mem _ (List.mem_append_left _ (List.mem_append_left _ (List.mem_append_right _ h)))) (by decide +kernel))
set_option maxRecDepth 20000 in
theorem gL_skip_X8_skip : GoodIn wsL_skip (wsV RL 37 RX8 yX8_skip wsX8_skip) := goodIn_app (goodIn_of _ (by decide +kernel)) ggL_skip_X8_skip
theorem dL_skip_0 : decode cL_skip 0 = .ok (.aload_n 3, 1) := by decide +kernel
theorem dL_skip_1 : decode cL_skip 1 = .ok (.iconst 0, 1) := by decide +kernel
theorem dL_skip_2 : decode cL_skip 2 = .ok (.aload_n 0, 1) := by decide +kernel
theorem dL_skip_3 : decode cL_skip 3 = .ok (.iload_n 1, 1) := by decide +kernel
theorem dL_skip_4 : decode cL_skip 4 = .ok (.iload_n 2, 1) := by decide +kernel
theorem dL_skip_5 : decode cL_skip 5 = .ok (.invokevirtual 37, 3) := by decide +kernel
theorem dL_skip_8 : decode cL_skip 8 = .ok (.i2l, 1) := by decide +kernel
theorem dL_skip_9 : decode cL_skip 9 = .ok (.lastore, 1) := by decide +kernel
theorem dL_skip_10 : decode cL_skip 10 = .ok (.goto 11, 3) := by decide +kernel
theorem dL_skip_13 : decode cL_skip 13 = .ok (.astore 4, 2) := by decide +kernel
theorem dL_skip_15 : decode cL_skip 15 = .ok (.iconst 1, 1) := by decide +kernel
theorem dL_skip_16 : decode cL_skip 16 = .ok (.ireturn, 1) := by decide +kernel
theorem dL_skip_17 : decode cL_skip 17 = .ok (.astore 4, 2) := by decide +kernel
theorem dL_skip_19 : decode cL_skip 19 = .ok (.iconst 2, 1) := by decide +kernel
theorem dL_skip_20 : decode cL_skip 20 = .ok (.ireturn, 1) := by decide +kernel
theorem dL_skip_21 : decode cL_skip 21 = .ok (.iconst 0, 1) := by decide +kernel
theorem dL_skip_22 : decode cL_skip 22 = .ok (.ireturn, 1) := by decide +kernel
set_option maxRecDepth 20000 in
theorem ggL_unskip_X8_unskip : GoodIn wsL_unskip wsX8_unskip := goodIn_ca (goodIn_ca (goodIn_ca (goodIn_r _ [7, 8, 9, 10, 11, 12, 13, 14, 6, 15, 16, 17, 18, 19, 20, 21, 22, 23, 24, 25, 26, 27, 28, 29, 30, 31, 32, 33, 34, 35, 36, 37, 38, 39, 40, 41, 42, 43, 44, 45, 46, 47, 48, 49, 50, 51, 52, 53, 54, 55, 56, 57, 58, 59, 60, 61, 62, 63, 64, 65, 66, 67, 68, 69, 70, 71, 72, 73, 74, 75, 76, 77, 78, 79, 80, 81, 82, 83, 84, 85, 86, 87, 88, 89, 90, 91, 92, 93, 94, 95, 96, 97, 98, 99, 100, 101, 102, 103, 104, 105, 106, 107, 108, 109, 110, 111, 112, 113, 114, 115, 116, 117, 118, 119, 120, 121, 122, 123, 124, 125, 126, 127, 128, 129, 130, 131, 132, 133, 134, 135, 136, 137, 138, 139, 140, 141, 142, 143, 144, 145, 146, 147, 148, 149, 150, 151, 152, 153, 154, 155, 156, 157, 158, 159, 160, 161, 162, 163, 164, 165, 166, 167, 168, 169, 170, 171, 172, 173, 174, 175, 176, 177, 178, 179, 180, 181, 182, 183, 184, 185, 186, 187, 188] (by decide +kernel) (by decide +kernel)) (goodIn_sub (fun _ h => List.mem_cons_of_mem _ (List.mem_append_left _ (List.mem_append_right _ h))) (by decide +kernel))) (goodIn_sub (fun _ h => List.mem_cons_of_mem _ (List.mem_append_right _ h)) (by decide +kernel))) (goodIn_sub (fun _ h => List.mem_cons_of_mem _ (List.mem_append_left _ (List.mem_append_left _ (List.mem_append_right _ h)))) (by decide +kernel))
set_option maxRecDepth 20000 in
theorem gL_unskip_X8_unskip : GoodIn wsL_unskip (wsV RL 40 RX8 yX8_unskip wsX8_unskip) := goodIn_app (goodIn_of _ (by decide +kernel)) ggL_unskip_X8_unskip
theorem dL_unskip_0 : decode cL_unskip 0 = .ok (.aload_n 3, 1) := by decide +kernel
theorem dL_unskip_1 : decode cL_unskip 1 = .ok (.iconst 0, 1) := by decide +kernel
theorem dL_unskip_2 : decode cL_unskip 2 = .ok (.aload_n 0, 1) := by decide +kernel
theorem dL_unskip_3 : decode cL_unskip 3 = .ok (.iload_n 1, 1) := by decide +kernel
theorem dL_unskip_4 : decode cL_unskip 4 = .ok (.iload_n 2, 1) := by decide +kernel
theorem dL_unskip_5 : decode cL_unskip 5 = .ok (.invokevirtual 40, 3) := by decide +kernel
theorem dL_unskip_8 : decode cL_unskip 8 = .ok (.i2l, 1) := by decide +kernel
theorem dL_unskip_9 : decode cL_unskip 9 = .ok (.lastore, 1) := by decide +kernel
theorem dL_unskip_10 : decode cL_unskip 10 = .ok (.goto 11, 3) := by decide +kernel
theorem dL_unskip_13 : decode cL_unskip 13 = .ok (.astore 4, 2) := by decide +kernel
theorem dL_unskip_15 : decode cL_unskip 15 = .ok (.iconst 1, 1) := by decide +kernel
theorem dL_unskip_16 : decode cL_unskip 16 = .ok (.ireturn, 1) := by decide +kernel
theorem dL_unskip_17 : decode cL_unskip 17 = .ok (.astore 4, 2) := by decide +kernel
theorem dL_unskip_19 : decode cL_unskip 19 = .ok (.iconst 2, 1) := by decide +kernel
theorem dL_unskip_20 : decode cL_unskip 20 = .ok (.ireturn, 1) := by decide +kernel
theorem dL_unskip_21 : decode cL_unskip 21 = .ok (.iconst 0, 1) := by decide +kernel
theorem dL_unskip_22 : decode cL_unskip 22 = .ok (.ireturn, 1) := by decide +kernel
set_option maxRecDepth 20000 in
theorem ggL_setFormat_X8_setFormat : GoodIn wsL_setFormat wsX8_setFormat := goodIn_ca (goodIn_ca (goodIn_r _ [6, 7, 8, 9, 10, 11, 12, 5, 13, 14, 15, 16, 17, 18, 19, 20, 21, 22, 23, 24, 25, 26, 27, 28, 29, 30, 31, 32, 33, 34, 35, 36, 37, 38, 39, 40, 41, 42, 43, 44] (by decide +kernel) (by decide +kernel)) (goodIn_sub (fun _ h => List.mem_cons_of_mem _ (List.mem_append_right _ h)) (by decide +kernel))) (goodIn_sub (fun _ h => List.mem_cons_of_mem _ (List.mem_append_left _ (List.mem_append_right _ h))) (by decide +kernel))
set_option maxRecDepth 20000 in
theorem gL_setFormat_X8_setFormat : GoodIn wsL_setFormat (wsV RL 43 RX8 yX8_setFormat wsX8_setFormat) := goodIn_app (goodIn_of _ (by decide +kernel)) ggL_setFormat_X8_setFormat
theorem dL_setFormat_0 : decode cL_setFormat 0 = .ok (.aload_n 3, 1) := by decide +kernel
theorem dL_setFormat_1 : decode cL_setFormat 1 = .ok (.iconst 0, 1) := by decide +kernel
theorem dL_setFormat_2 : decode cL_setFormat 2 = .ok (.aload_n 0, 1) := by decide +kernel
theorem dL_setFormat_3 : decode cL_setFormat 3 = .ok (.iload_n 1, 1) := by decide +kernel
theorem dL_setFormat_4 : decode cL_setFormat 4 = .ok (.iload_n 2, 1) := by decide +kernel
theorem dL_setFormat_5 : decode cL_setFormat 5 = .ok (.invokevirtual 43, 3) := by decide +kernel
theorem dL_setFormat_8 : decode cL_setFormat 8 = .ok (.i2l, 1) := by decide +kernel
theorem dL_setFormat_9 : decode cL_setFormat 9 = .ok (.lastore, 1) := by decide +kernel
theorem dL_setFormat_10 : decode cL_setFormat 10 = .ok (.goto 7, 3) := by decide +kernel
theorem dL_setFormat_13 : decode cL_setFormat 13 = .ok (.astore 4, 2) := by decide +kernel
theorem dL_setFormat_15 : decode cL_setFormat 15 = .ok (.iconst 1, 1) := by decide +kernel
theorem dL_setFormat_16 : decode cL_setFormat 16 = .ok (.ireturn, 1) := by decide +kernel
theorem dL_setFormat_17 : decode cL_setFormat 17 = .ok (.iconst 0, 1) := by decide +kernel
theorem dL_setFormat_18 : decode cL_setFormat 18 = .ok (.ireturn, 1) := by decide +kernel
set_option maxRecDepth 20000 in
theorem ggL_setGoingOn_X8_setGoingOn : GoodIn wsL_setGoingOn wsX8_setGoingOn := goodIn_ca (goodIn_ca (goodIn_ca (goodIn_r _ [7, 8, 9, 10, 11, 12, 13, 14, 6, 15, 16, 17, 18, 19, 20, 21, 22, 23, 24, 25, 26, 27, 28, 29, 30, 31, 32, 33, 34, 35, 36, 37, 38, 39, 40, 41, 42, 43, 44, 45, 46, 47, 48, 49, 50, 51, 52, 53, 54, 55, 56, 57, 58, 59, 60, 61, 62, 63, 64, 65, 66, 67, 68, 69, 70, 71, 72, 73, 74, 75, 76, 77, 78, 79, 80, 81, 82, 83, 84, 85, 86, 87, 88, 89, 90, 91, 92, 93, 94, 95, 96, 97, 98, 99, 100, 101, 102, 103, 104, 105, 106, 107, 108, 109, 110, 111, 112, 113, 114, 115, 116, 117, 118, 119, 120, 121, 122, 123, 124, 125, 126, 127, 128, 129, 130, 131, 132, 133, 134, 135, 136, 137, 138, 139, 140, 141, 142, 143, 144, 145, 146, 147, 148, 149, 150, 151, 152, 153, 154, 155, 156, 157, 158, 159, 160, 161, 162, 163, 164, 165, 166, 167, 168, 169, 170, 171, 172, 173, 174, 175, 176, 177, 178, 179, 180, 181, 182, 183, 184, 185, 186, 187, 188] (by decide +kernel) (by decide +kernel)) (goodIn_sub (fun _ h => List.mem_cons_of_mem _ (List.mem_append_left _ (List.mem_append_right _ h))) (by decide +kernel))) (goodIn_sub (fun _ h => List.mem_cons_of_mem _ (List.mem_append_right _ h)) (by decide +kernel))) (goodIn_sub (fun _ h => List.mem_cons_of_mem _ (List.mem_append_left _ (List.mem_append_left _ (List.mem_append_right _ h)))) (by decide +kernel))
set_option maxRecDepth 20000 in
theorem gL_setGoingOn_X8_setGoingOn : GoodIn wsL_setGoingOn (wsV RL 47 RX8 yX8_setGoingOn wsX8_setGoingOn) := goodIn_app (goodIn_of _ (by decide +kernel)) ggL_setGoingOn_X8_setGoingOn
theorem dL_setGoingOn_0 : decode cL_setGoingOn 0 = .ok (.aload_n 3, 1) := by decide +kernel
theorem dL_setGoingOn_1 : decode cL_setGoingOn 1 = .ok (.iconst 0, 1) := by decide +kernel
theorem dL_setGoingOn_2 : decode cL_setGoingOn 2 = .ok (.aload_n 0, 1) := by decide +kernel
theorem dL_setGoingOn_3 : decode cL_setGoingOn 3 = .ok (.iload_n 1, 1) := by decide +kernel
theorem dL_setGoingOn_4 : decode cL_setGoingOn 4 = .ok (.iload_n 2, 1) := by decide +kernel
theorem dL_setGoingOn_5 : decode cL_setGoingOn 5 = .ok (.invokevirtual 47, 3) := by decide +kernel
theorem dL_setGoingOn_8 : decode cL_setGoingOn 8 = .ok (.ifCond .eq 7, 3) := by decide +kernel
theorem dL_setGoingOn_11 : decode cL_setGoingOn 11 = .ok (.lconst 1, 1) := by decide +kernel
theorem dL_setGoingOn_12 : decode cL_setGoingOn 12 = .ok (.goto 4, 3) := by decide +kernel
theorem dL_setGoingOn_15 : decode cL_setGoingOn 15 = .ok (.lconst 0, 1) := by decide +kernel
theorem dL_setGoingOn_16 : decode cL_setGoingOn 16 = .ok (.lastore, 1) := by decide +kernel
theorem dL_setGoingOn_17 : decode cL_setGoingOn 17 = .ok (.goto 11, 3) := by decide +kernel
theorem dL_setGoingOn_20 : decode cL_setGoingOn 20 = .ok (.astore 4, 2) := by decide +kernel
theorem dL_setGoingOn_22 : decode cL_setGoingOn 22 = .ok (.iconst 1, 1) := by decide +kernel
theorem dL_setGoingOn_23 : decode cL_setGoingOn 23 = .ok (.ireturn, 1) := by decide +kernel
theorem dL_setGoingOn_24 : decode cL_setGoingOn 24 = .ok (.astore 4, 2) := by decide +kernel
theorem dL_setGoingOn_26 : decode cL_setGoingOn 26 = .ok (.iconst 2, 1) := by decide +kernel
theorem dL_setGoingOn_27 : decode cL_setGoingOn 27 = .ok (.ireturn, 1) := by decide +kernel
theorem dL_setGoingOn_28 : decode cL_setGoingOn 28 = .ok (.iconst 0, 1) := by decide +kernel
theorem dL_setGoingOn_29 : decode cL_setGoingOn 29 = .ok (.ireturn, 1) := by decide +kernel
set_option maxRecDepth 20000 in
theorem ggL_refer_X8_refer : GoodIn wsL_refer wsX8_refer := goodIn_ca (goodIn_ca (goodIn_ca (goodIn_ca (goodIn_r _ [8, 9, 10, 11, 12, 13, 14, 15, 16, 17, 7, 18, 19, 20, 21, 22, 23, 24, 25, 26, 27, 28, 29, 30, 31, 32, 33, 34, 35, 36, 37, 38, 39, 40, 41, 42, 43, 44, 45, 46, 47, 48, 49, 50, 51, 52, 53, 54, 55, 56, 57, 58, 59, 60, 61, 62, 63, 64, 65, 66, 67, 68] (by decide +kernel) (by decide +kernel)) (goodIn_sub (fun _ h => List.mem_cons_of_mem _ (List.mem_append_left _ (List.mem_append_left _ (List.mem_append_right _ h)))) (by decide +kernel))) (goodIn_sub (fun _ h => List.mem_cons_of_mem _ (List.mem_append_left _ (List.mem_append_right _ h))) (by decide +kernel))) (goodIn_sub (fun _ h => List.mem_cons_of_mem _ (List.mem_append_right _ h)) (by decide +kernel))) (goodIn_sub (fun _ h => List.mem_cons_of_mem _ (List.mem_append_left _ (List.mem_append_left _ (List.mem_append_left _ (List.mem_append_right _ h))))) (by decide +kernel))
set_option maxRecDepth 20000 in
theorem gL_refer_X8_refer : GoodIn wsL_refer (wsV RL 51 RX8 yX8_refer wsX8_refer) := goodIn_app (goodIn_of _ (by decide +kernel)) ggL_refer_X8_refer
theorem dL_refer_0 : decode cL_refer 0 = .ok (.aload_n 3, 1) := by decide +kernel
theorem dL_refer_1 : decode cL_refer 1 = .ok (.iconst 0, 1) := by decide +kernel
theorem dL_refer_2 : decode cL_refer 2 = .ok (.aload_n 0, 1) := by decide +kernel
theorem dL_refer_3 : decode cL_refer 3 = .ok (.iload_n 1, 1) := by decide +kernel
theorem dL_refer_4 : decode cL_refer 4 = .ok (.iload_n 2, 1) := by decide +kernel
theorem dL_refer_5 : decode cL_refer 5 = .ok (.invokevirtual 51, 3) := by decide +kernel
theorem dL_refer_8 : decode cL_refer 8 = .ok (.i2l, 1) := by decide +kernel
theorem dL_refer_9 : decode cL_refer 9 = .ok (.lastore, 1) := by decide +kernel
theorem dL_refer_10 : decode cL_refer 10 = .ok (.goto 15, 3) := by decide +kernel
theorem dL_refer_13 : decode cL_refer 13 = .ok (.astore 4, 2) := by decide +kernel
theorem dL_refer_15 : decode cL_refer 15 = .ok (.iconst 1, 1) := by decide +kernel
theorem dL_refer_16 : decode cL_refer 16 = .ok (.ireturn, 1) := by decide +kernel
theorem dL_refer_17 : decode cL_refer 17 = .ok (.astore 4, 2) := by decide +kernel
theorem dL_refer_19 : decode cL_refer 19 = .ok (.iconst 2, 1) := by decide +kernel
theorem dL_refer_20 : decode cL_refer 20 = .ok (.ireturn, 1) := by decide +kernel
theorem dL_refer_21 : decode cL_refer 21 = .ok (.astore 4, 2) := by decide +kernel
theorem dL_refer_23 : decode cL_refer 23 = .ok (.iconst 3, 1) := by decide +kernel
theorem dL_refer_24 : decode cL_refer 24 = .ok (.ireturn, 1) := by decide +kernel
theorem dL_refer_25 : decode cL_refer 25 = .ok (.iconst 0, 1) := by decide +kernel
theorem dL_refer_26 : decode cL_refer 26 = .ok (.ireturn, 1) := by decide +kernel
set_option maxRecDepth 20000 in
theorem ggL_paragraphAt_X8_paragraphAt : GoodIn wsL_paragraphAt wsX8_paragraphAt := goodIn_ca (goodIn_ca (goodIn_r _ [6, 7, 8, 9, 10, 11, 12, 13, 14, 15, 16, 17, 18, 19, 20, 21, 22, 23, 24, 25, 26, 27, 28, 29, 30, 31, 32, 33, 34, 35, 36, 37, 38] (by decide +kernel) (by decide +kernel)) (goodIn_sub (fun _ h => List.mem_cons_of_mem _ (List.mem_append_right _ h)) (by decide +kernel))) (goodIn_sub (fun _ h => List.mem_cons_of_mem _ (List.mem_append_left _ (List.mem_append_right _ h))) (by decide +kernel))
set_option maxRecDepth 20000 in
theorem gL_paragraphAt_X8_paragraphAt : GoodIn wsL_paragraphAt (wsV RL 54 RX8 yX8_paragraphAt wsX8_paragraphAt) := goodIn_app (goodIn_of _ (by decide +kernel)) ggL_paragraphAt_X8_paragraphAt
theorem dL_paragraphAt_0 : decode cL_paragraphAt 0 = .ok (.aload_n 2, 1) := by decide +kernel
theorem dL_paragraphAt_1 : decode cL_paragraphAt 1 = .ok (.iconst 0, 1) := by decide +kernel
theorem dL_paragraphAt_2 : decode cL_paragraphAt 2 = .ok (.aload_n 0, 1) := by decide +kernel
theorem dL_paragraphAt_3 : decode cL_paragraphAt 3 = .ok (.iload_n 1, 1) := by decide +kernel
theorem dL_paragraphAt_4 : decode cL_paragraphAt 4 = .ok (.invokevirtual 54, 3) := by decide +kernel
theorem dL_paragraphAt_7 : decode cL_paragraphAt 7 = .ok (.i2l, 1) := by decide +kernel
theorem dL_paragraphAt_8 : decode cL_paragraphAt 8 = .ok (.lastore, 1) := by decide +kernel
theorem dL_paragraphAt_9 : decode cL_paragraphAt 9 = .ok (.goto 6, 3) := by decide +kernel
theorem dL_paragraphAt_12 : decode cL_paragraphAt 12 = .ok (.astore_n 3, 1) := by decide +kernel
theorem dL_paragraphAt_13 : decode cL_paragraphAt 13 = .ok (.iconst 1, 1) := by decide +kernel
theorem dL_paragraphAt_14 : decode cL_paragraphAt 14 = .ok (.ireturn, 1) := by decide +kernel
theorem dL_paragraphAt_15 : decode cL_paragraphAt 15 = .ok (.iconst 0, 1) := by decide +kernel
theorem dL_paragraphAt_16 : decode cL_paragraphAt 16 = .ok (.ireturn, 1) := by decide +kernel
set_option maxRecDepth 20000 in
theorem ggL_placeOf_X8_placeOf : GoodIn wsL_placeOf wsX8_placeOf := goodIn_ca (goodIn_ca (goodIn_r _ [6, 7, 8, 9, 10, 5, 11, 12, 13, 14, 15, 16, 17, 18, 19, 20, 21, 22, 23, 24, 25, 26, 27, 28, 29, 30, 31, 32, 33, 34, 35, 36, 37, 38, 39, 40, 41] (by decide +kernel) (by decide +kernel)) (goodIn_sub (fun _ h => List.mem_cons_of_mem _ (List.mem_append_right _ h)) (by decide +kernel))) (goodIn_sub (fun _ h => List.mem_cons_of_mem _ (List.mem_append_left _ (List.mem_append_right _ h))) (by decide +kernel))
set_option maxRecDepth 20000 in
theorem gL_placeOf_X8_placeOf : GoodIn wsL_placeOf (wsV RL 59 RX8 yX8_placeOf wsX8_placeOf) := goodIn_app (goodIn_of _ (by decide +kernel)) ggL_placeOf_X8_placeOf
theorem dL_placeOf_0 : decode cL_placeOf 0 = .ok (.aload_n 2, 1) := by decide +kernel
theorem dL_placeOf_1 : decode cL_placeOf 1 = .ok (.iconst 0, 1) := by decide +kernel
theorem dL_placeOf_2 : decode cL_placeOf 2 = .ok (.aload_n 0, 1) := by decide +kernel
theorem dL_placeOf_3 : decode cL_placeOf 3 = .ok (.iload_n 1, 1) := by decide +kernel
theorem dL_placeOf_4 : decode cL_placeOf 4 = .ok (.invokevirtual 59, 3) := by decide +kernel
theorem dL_placeOf_7 : decode cL_placeOf 7 = .ok (.i2l, 1) := by decide +kernel
theorem dL_placeOf_8 : decode cL_placeOf 8 = .ok (.lastore, 1) := by decide +kernel
theorem dL_placeOf_9 : decode cL_placeOf 9 = .ok (.goto 6, 3) := by decide +kernel
theorem dL_placeOf_12 : decode cL_placeOf 12 = .ok (.astore_n 3, 1) := by decide +kernel
theorem dL_placeOf_13 : decode cL_placeOf 13 = .ok (.iconst 1, 1) := by decide +kernel
theorem dL_placeOf_14 : decode cL_placeOf 14 = .ok (.ireturn, 1) := by decide +kernel
theorem dL_placeOf_15 : decode cL_placeOf 15 = .ok (.iconst 0, 1) := by decide +kernel
theorem dL_placeOf_16 : decode cL_placeOf 16 = .ok (.ireturn, 1) := by decide +kernel
set_option maxRecDepth 20000 in
theorem ggL_levelOf_X8_levelOf : GoodIn wsL_levelOf wsX8_levelOf := goodIn_ca (goodIn_ca (goodIn_r _ [6, 7, 8, 9, 10, 5, 11, 12, 13, 14, 15, 16, 17, 18, 19, 20, 21, 22, 23, 24, 25, 26, 27, 28, 29, 30, 31, 32, 33, 34, 35, 36, 37, 38, 39, 40, 41, 42] (by decide +kernel) (by decide +kernel)) (goodIn_sub (fun _ h => List.mem_cons_of_mem _ (List.mem_append_right _ h)) (by decide +kernel))) (goodIn_sub (fun _ h => List.mem_cons_of_mem _ (List.mem_append_left _ (List.mem_append_right _ h))) (by decide +kernel))
set_option maxRecDepth 20000 in
theorem gL_levelOf_X8_levelOf : GoodIn wsL_levelOf (wsV RL 62 RX8 yX8_levelOf wsX8_levelOf) := goodIn_app (goodIn_of _ (by decide +kernel)) ggL_levelOf_X8_levelOf
theorem dL_levelOf_0 : decode cL_levelOf 0 = .ok (.aload_n 2, 1) := by decide +kernel
theorem dL_levelOf_1 : decode cL_levelOf 1 = .ok (.iconst 0, 1) := by decide +kernel
theorem dL_levelOf_2 : decode cL_levelOf 2 = .ok (.aload_n 0, 1) := by decide +kernel
theorem dL_levelOf_3 : decode cL_levelOf 3 = .ok (.iload_n 1, 1) := by decide +kernel
theorem dL_levelOf_4 : decode cL_levelOf 4 = .ok (.invokevirtual 62, 3) := by decide +kernel
theorem dL_levelOf_7 : decode cL_levelOf 7 = .ok (.i2l, 1) := by decide +kernel
theorem dL_levelOf_8 : decode cL_levelOf 8 = .ok (.lastore, 1) := by decide +kernel
theorem dL_levelOf_9 : decode cL_levelOf 9 = .ok (.goto 6, 3) := by decide +kernel
theorem dL_levelOf_12 : decode cL_levelOf 12 = .ok (.astore_n 3, 1) := by decide +kernel
theorem dL_levelOf_13 : decode cL_levelOf 13 = .ok (.iconst 1, 1) := by decide +kernel
theorem dL_levelOf_14 : decode cL_levelOf 14 = .ok (.ireturn, 1) := by decide +kernel
theorem dL_levelOf_15 : decode cL_levelOf 15 = .ok (.iconst 0, 1) := by decide +kernel
theorem dL_levelOf_16 : decode cL_levelOf 16 = .ok (.ireturn, 1) := by decide +kernel
set_option maxRecDepth 20000 in
theorem ggL_parentOf_X8_parentOf : GoodIn wsL_parentOf wsX8_parentOf := goodIn_ca (goodIn_ca (goodIn_ca (goodIn_r _ [7, 8, 9, 10, 11, 6, 12, 13, 14, 15, 16, 17, 18, 19, 20, 21, 22, 23, 24, 25, 26, 27, 28, 29, 30, 31, 32, 33, 34, 35, 36, 37, 38, 39, 40, 41, 42, 43, 44, 45, 46, 47, 48, 49, 50, 51, 52, 53, 54] (by decide +kernel) (by decide +kernel)) (goodIn_sub (fun _ h => List.mem_cons_of_mem _ (List.mem_append_left _ (List.mem_append_right _ h))) (by decide +kernel))) (goodIn_sub (fun _ h => List.mem_cons_of_mem _ (List.mem_append_right _ h)) (by decide +kernel))) (goodIn_sub (fun _ h => List.mem_cons_of_mem _ (List.mem_append_left _ (List.mem_append_left _ (List.mem_append_right _ h)))) (by decide +kernel))
set_option maxRecDepth 20000 in
theorem gL_parentOf_X8_parentOf : GoodIn wsL_parentOf (wsV RL 65 RX8 yX8_parentOf wsX8_parentOf) := goodIn_app (goodIn_of _ (by decide +kernel)) ggL_parentOf_X8_parentOf
theorem dL_parentOf_0 : decode cL_parentOf 0 = .ok (.aload_n 2, 1) := by decide +kernel
theorem dL_parentOf_1 : decode cL_parentOf 1 = .ok (.iconst 0, 1) := by decide +kernel
theorem dL_parentOf_2 : decode cL_parentOf 2 = .ok (.aload_n 0, 1) := by decide +kernel
theorem dL_parentOf_3 : decode cL_parentOf 3 = .ok (.iload_n 1, 1) := by decide +kernel
theorem dL_parentOf_4 : decode cL_parentOf 4 = .ok (.invokevirtual 65, 3) := by decide +kernel
theorem dL_parentOf_7 : decode cL_parentOf 7 = .ok (.i2l, 1) := by decide +kernel
theorem dL_parentOf_8 : decode cL_parentOf 8 = .ok (.lastore, 1) := by decide +kernel
theorem dL_parentOf_9 : decode cL_parentOf 9 = .ok (.goto 9, 3) := by decide +kernel
theorem dL_parentOf_12 : decode cL_parentOf 12 = .ok (.astore_n 3, 1) := by decide +kernel
theorem dL_parentOf_13 : decode cL_parentOf 13 = .ok (.iconst 1, 1) := by decide +kernel
theorem dL_parentOf_14 : decode cL_parentOf 14 = .ok (.ireturn, 1) := by decide +kernel
theorem dL_parentOf_15 : decode cL_parentOf 15 = .ok (.astore_n 3, 1) := by decide +kernel
theorem dL_parentOf_16 : decode cL_parentOf 16 = .ok (.iconst 2, 1) := by decide +kernel
theorem dL_parentOf_17 : decode cL_parentOf 17 = .ok (.ireturn, 1) := by decide +kernel
theorem dL_parentOf_18 : decode cL_parentOf 18 = .ok (.iconst 0, 1) := by decide +kernel
theorem dL_parentOf_19 : decode cL_parentOf 19 = .ok (.ireturn, 1) := by decide +kernel
set_option maxRecDepth 20000 in
theorem ggL_below_X8_below : GoodIn wsL_below wsX8_below := goodIn_ca (goodIn_ca (goodIn_r _ [6, 7, 8, 9, 10, 5, 11, 12, 13, 14, 15, 16, 17, 18, 19, 20, 21, 22, 23, 24, 25, 26, 27, 28, 29, 30, 31, 32, 33, 34, 35, 36, 37, 38, 39, 40, 41, 42, 43, 44, 45, 46, 47, 48, 49, 50, 51, 52, 53, 54, 55, 56] (by decide +kernel) (by decide +kernel)) (goodIn_sub (fun _ h => List.mem_cons_of_mem _ (List.mem_append_right _ h)) (by decide +kernel))) (goodIn_sub (fun _ h => List.mem_cons_of_mem _ (List.mem_append_left _ (List.mem_append_right _ h))) (by decide +kernel))
set_option maxRecDepth 20000 in
theorem gL_below_X8_below : GoodIn wsL_below (wsV RL 68 RX8 yX8_below wsX8_below) := goodIn_app (goodIn_of _ (by decide +kernel)) ggL_below_X8_below
theorem dL_below_0 : decode cL_below 0 = .ok (.aload_n 2, 1) := by decide +kernel
theorem dL_below_1 : decode cL_below 1 = .ok (.iconst 0, 1) := by decide +kernel
theorem dL_below_2 : decode cL_below 2 = .ok (.aload_n 0, 1) := by decide +kernel
theorem dL_below_3 : decode cL_below 3 = .ok (.iload_n 1, 1) := by decide +kernel
theorem dL_below_4 : decode cL_below 4 = .ok (.invokevirtual 68, 3) := by decide +kernel
theorem dL_below_7 : decode cL_below 7 = .ok (.i2l, 1) := by decide +kernel
theorem dL_below_8 : decode cL_below 8 = .ok (.lastore, 1) := by decide +kernel
theorem dL_below_9 : decode cL_below 9 = .ok (.goto 6, 3) := by decide +kernel
theorem dL_below_12 : decode cL_below 12 = .ok (.astore_n 3, 1) := by decide +kernel
theorem dL_below_13 : decode cL_below 13 = .ok (.iconst 1, 1) := by decide +kernel
theorem dL_below_14 : decode cL_below 14 = .ok (.ireturn, 1) := by decide +kernel
theorem dL_below_15 : decode cL_below 15 = .ok (.iconst 0, 1) := by decide +kernel
theorem dL_below_16 : decode cL_below 16 = .ok (.ireturn, 1) := by decide +kernel
set_option maxRecDepth 20000 in
theorem ggL_isFrozen_X8_isFrozen : GoodIn wsL_isFrozen wsX8_isFrozen := goodIn_ca (goodIn_ca (goodIn_r _ [6, 7, 8, 9, 10, 5, 11, 12, 13, 14, 15, 16, 17, 18, 19, 20, 21, 22, 23, 24, 25, 26, 27, 28, 29, 30, 31, 32, 33, 34, 35, 36, 37, 38, 39, 40, 41, 42, 43, 44, 45, 46, 47, 48, 49, 50, 51, 52, 53, 54, 55, 56, 57, 58] (by decide +kernel) (by decide +kernel)) (goodIn_sub (fun _ h => List.mem_cons_of_mem _ (List.mem_append_right _ h)) (by decide +kernel))) (goodIn_sub (fun _ h => List.mem_cons_of_mem _ (List.mem_append_left _ (List.mem_append_right _ h))) (by decide +kernel))
set_option maxRecDepth 20000 in
theorem gL_isFrozen_X8_isFrozen : GoodIn wsL_isFrozen (wsV RL 71 RX8 yX8_isFrozen wsX8_isFrozen) := goodIn_app (goodIn_of _ (by decide +kernel)) ggL_isFrozen_X8_isFrozen
theorem dL_isFrozen_0 : decode cL_isFrozen 0 = .ok (.aload_n 2, 1) := by decide +kernel
theorem dL_isFrozen_1 : decode cL_isFrozen 1 = .ok (.iconst 0, 1) := by decide +kernel
theorem dL_isFrozen_2 : decode cL_isFrozen 2 = .ok (.aload_n 0, 1) := by decide +kernel
theorem dL_isFrozen_3 : decode cL_isFrozen 3 = .ok (.iload_n 1, 1) := by decide +kernel
theorem dL_isFrozen_4 : decode cL_isFrozen 4 = .ok (.invokevirtual 71, 3) := by decide +kernel
theorem dL_isFrozen_7 : decode cL_isFrozen 7 = .ok (.ifCond .eq 7, 3) := by decide +kernel
theorem dL_isFrozen_10 : decode cL_isFrozen 10 = .ok (.lconst 1, 1) := by decide +kernel
theorem dL_isFrozen_11 : decode cL_isFrozen 11 = .ok (.goto 4, 3) := by decide +kernel
theorem dL_isFrozen_14 : decode cL_isFrozen 14 = .ok (.lconst 0, 1) := by decide +kernel
theorem dL_isFrozen_15 : decode cL_isFrozen 15 = .ok (.lastore, 1) := by decide +kernel
theorem dL_isFrozen_16 : decode cL_isFrozen 16 = .ok (.goto 6, 3) := by decide +kernel
theorem dL_isFrozen_19 : decode cL_isFrozen 19 = .ok (.astore_n 3, 1) := by decide +kernel
theorem dL_isFrozen_20 : decode cL_isFrozen 20 = .ok (.iconst 1, 1) := by decide +kernel
theorem dL_isFrozen_21 : decode cL_isFrozen 21 = .ok (.ireturn, 1) := by decide +kernel
theorem dL_isFrozen_22 : decode cL_isFrozen 22 = .ok (.iconst 0, 1) := by decide +kernel
theorem dL_isFrozen_23 : decode cL_isFrozen 23 = .ok (.ireturn, 1) := by decide +kernel
set_option maxRecDepth 20000 in
theorem ggL_numberOf_X8_numberOf : GoodIn wsL_numberOf wsX8_numberOf := goodIn_ca (goodIn_ca (goodIn_ca (goodIn_r _ [7, 8, 9, 10, 11, 6, 12, 13, 14, 15, 16, 17, 18, 19, 20, 21, 22, 23, 24, 25, 26, 27, 28, 29, 30, 31, 32, 33, 34, 35, 36, 37, 38, 39, 40, 41, 42, 43, 44, 45, 46, 47, 48, 49, 50, 51, 52, 53, 54, 55, 56, 57, 58, 59, 60, 61, 62, 63, 64, 65, 66, 67, 68, 69, 70] (by decide +kernel) (by decide +kernel)) (goodIn_sub (fun _ h => List.mem_cons_of_mem _ (List.mem_append_left _ (List.mem_append_right _ h))) (by decide +kernel))) (goodIn_sub (fun _ h => List.mem_cons_of_mem _ (List.mem_append_right _ h)) (by decide +kernel))) (goodIn_sub (fun _ h => List.mem_cons_of_mem _ (List.mem_append_left _ (List.mem_append_left _ (List.mem_append_right _ h)))) (by decide +kernel))
set_option maxRecDepth 20000 in
theorem gL_numberOf_X8_numberOf : GoodIn wsL_numberOf (wsV RL 75 RX8 yX8_numberOf wsX8_numberOf) := goodIn_app (goodIn_of _ (by decide +kernel)) ggL_numberOf_X8_numberOf
theorem dL_numberOf_0 : decode cL_numberOf 0 = .ok (.aload_n 2, 1) := by decide +kernel
theorem dL_numberOf_1 : decode cL_numberOf 1 = .ok (.iconst 0, 1) := by decide +kernel
theorem dL_numberOf_2 : decode cL_numberOf 2 = .ok (.aload_n 0, 1) := by decide +kernel
theorem dL_numberOf_3 : decode cL_numberOf 3 = .ok (.iload_n 1, 1) := by decide +kernel
theorem dL_numberOf_4 : decode cL_numberOf 4 = .ok (.invokevirtual 75, 3) := by decide +kernel
theorem dL_numberOf_7 : decode cL_numberOf 7 = .ok (.i2l, 1) := by decide +kernel
theorem dL_numberOf_8 : decode cL_numberOf 8 = .ok (.lastore, 1) := by decide +kernel
theorem dL_numberOf_9 : decode cL_numberOf 9 = .ok (.goto 9, 3) := by decide +kernel
theorem dL_numberOf_12 : decode cL_numberOf 12 = .ok (.astore_n 3, 1) := by decide +kernel
theorem dL_numberOf_13 : decode cL_numberOf 13 = .ok (.iconst 1, 1) := by decide +kernel
theorem dL_numberOf_14 : decode cL_numberOf 14 = .ok (.ireturn, 1) := by decide +kernel
theorem dL_numberOf_15 : decode cL_numberOf 15 = .ok (.astore_n 3, 1) := by decide +kernel
theorem dL_numberOf_16 : decode cL_numberOf 16 = .ok (.iconst 2, 1) := by decide +kernel
theorem dL_numberOf_17 : decode cL_numberOf 17 = .ok (.ireturn, 1) := by decide +kernel
theorem dL_numberOf_18 : decode cL_numberOf 18 = .ok (.iconst 0, 1) := by decide +kernel
theorem dL_numberOf_19 : decode cL_numberOf 19 = .ok (.ireturn, 1) := by decide +kernel
set_option maxRecDepth 20000 in
theorem ggL_lettersOf_X8_lettersOf : GoodIn wsL_lettersOf wsX8_lettersOf := goodIn_ca (goodIn_ca (goodIn_ca (goodIn_r _ [7, 8, 9, 10, 11, 6, 12, 13, 14, 15, 16, 17, 18, 19, 20, 21, 22, 23, 24, 25, 26, 27, 28, 29, 30, 31, 32, 33, 34, 35, 36, 37, 38, 39, 40, 41, 42, 43, 44, 45, 46, 47, 48, 49, 50, 51, 52, 53, 54, 55, 56, 57, 58, 59, 60, 61, 62, 63, 64, 65, 66, 67, 68, 69, 70] (by decide +kernel) (by decide +kernel)) (goodIn_sub (fun _ h => List.mem_cons_of_mem _ (List.mem_append_left _ (List.mem_append_right _ h))) (by decide +kernel))) (goodIn_sub (fun _ h => List.mem_cons_of_mem _ (List.mem_append_right _ h)) (by decide +kernel))) (goodIn_sub (fun _ h => List.mem_cons_of_mem _ (List.mem_append_left _ (List.mem_append_left _ (List.mem_append_right _ h)))) (by decide +kernel))
set_option maxRecDepth 20000 in
theorem gL_lettersOf_X8_lettersOf : GoodIn wsL_lettersOf (wsV RL 78 RX8 yX8_lettersOf wsX8_lettersOf) := goodIn_app (goodIn_of _ (by decide +kernel)) ggL_lettersOf_X8_lettersOf
theorem dL_lettersOf_0 : decode cL_lettersOf 0 = .ok (.aload_n 2, 1) := by decide +kernel
theorem dL_lettersOf_1 : decode cL_lettersOf 1 = .ok (.iconst 0, 1) := by decide +kernel
theorem dL_lettersOf_2 : decode cL_lettersOf 2 = .ok (.aload_n 0, 1) := by decide +kernel
theorem dL_lettersOf_3 : decode cL_lettersOf 3 = .ok (.iload_n 1, 1) := by decide +kernel
theorem dL_lettersOf_4 : decode cL_lettersOf 4 = .ok (.invokevirtual 78, 3) := by decide +kernel
theorem dL_lettersOf_7 : decode cL_lettersOf 7 = .ok (.i2l, 1) := by decide +kernel
theorem dL_lettersOf_8 : decode cL_lettersOf 8 = .ok (.lastore, 1) := by decide +kernel
theorem dL_lettersOf_9 : decode cL_lettersOf 9 = .ok (.goto 9, 3) := by decide +kernel
theorem dL_lettersOf_12 : decode cL_lettersOf 12 = .ok (.astore_n 3, 1) := by decide +kernel
theorem dL_lettersOf_13 : decode cL_lettersOf 13 = .ok (.iconst 1, 1) := by decide +kernel
theorem dL_lettersOf_14 : decode cL_lettersOf 14 = .ok (.ireturn, 1) := by decide +kernel
theorem dL_lettersOf_15 : decode cL_lettersOf 15 = .ok (.astore_n 3, 1) := by decide +kernel
theorem dL_lettersOf_16 : decode cL_lettersOf 16 = .ok (.iconst 2, 1) := by decide +kernel
theorem dL_lettersOf_17 : decode cL_lettersOf 17 = .ok (.ireturn, 1) := by decide +kernel
theorem dL_lettersOf_18 : decode cL_lettersOf 18 = .ok (.iconst 0, 1) := by decide +kernel
theorem dL_lettersOf_19 : decode cL_lettersOf 19 = .ok (.ireturn, 1) := by decide +kernel
set_option maxRecDepth 20000 in
theorem ggL_numberByWalk_X8_numberByWalk : GoodIn wsL_numberByWalk wsX8_numberByWalk := goodIn_ca (goodIn_ca (goodIn_ca (goodIn_r _ [7, 8, 9, 10, 11, 6, 12, 13, 14, 15, 16, 17, 18, 19, 20, 21, 22, 23, 24, 25, 26, 27, 28, 29, 30, 31, 32, 33, 34, 35, 36, 37, 38, 39, 40, 41, 42, 43, 44, 45, 46, 47, 48, 49, 50, 51, 52, 53, 54, 55, 56, 57, 58, 59, 60, 61, 62, 63, 64, 65, 66, 67, 68, 69, 70, 71, 72, 73, 74, 75, 76, 77, 78, 79, 80, 81, 82, 83, 84, 85, 86, 87, 88, 89, 90, 91, 92, 93, 94, 95, 96, 97, 98, 99, 100, 101, 102, 103, 104, 105, 106, 107, 108, 109, 110, 111, 112, 113, 114, 115, 116, 117, 118, 119, 120, 121, 122, 123, 124, 125, 126, 127, 128, 129, 130, 131, 132, 133, 134, 135, 136, 137, 138, 139, 140, 141, 142, 143, 144, 145, 146, 147, 148, 149, 150, 151, 152, 153, 154, 155, 156, 157, 158, 159, 160, 161, 162, 163, 164] (by decide +kernel) (by decide +kernel)) (goodIn_sub (fun _ h => List.mem_cons_of_mem _ (List.mem_append_left _ (List.mem_append_right _ h))) (by decide +kernel))) (goodIn_sub (fun _ h => List.mem_cons_of_mem _ (List.mem_append_right _ h)) (by decide +kernel))) (goodIn_sub (fun _ h => List.mem_cons_of_mem _ (List.mem_append_left _ (List.mem_append_left _ (List.mem_append_right _ h)))) (by decide +kernel))
set_option maxRecDepth 20000 in
theorem gL_numberByWalk_X8_numberByWalk : GoodIn wsL_numberByWalk (wsV RL 81 RX8 yX8_numberByWalk wsX8_numberByWalk) := goodIn_app (goodIn_of _ (by decide +kernel)) ggL_numberByWalk_X8_numberByWalk
theorem dL_numberByWalk_0 : decode cL_numberByWalk 0 = .ok (.aload_n 2, 1) := by decide +kernel
theorem dL_numberByWalk_1 : decode cL_numberByWalk 1 = .ok (.iconst 0, 1) := by decide +kernel
theorem dL_numberByWalk_2 : decode cL_numberByWalk 2 = .ok (.aload_n 0, 1) := by decide +kernel
theorem dL_numberByWalk_3 : decode cL_numberByWalk 3 = .ok (.iload_n 1, 1) := by decide +kernel
theorem dL_numberByWalk_4 : decode cL_numberByWalk 4 = .ok (.invokevirtual 81, 3) := by decide +kernel
theorem dL_numberByWalk_7 : decode cL_numberByWalk 7 = .ok (.i2l, 1) := by decide +kernel
theorem dL_numberByWalk_8 : decode cL_numberByWalk 8 = .ok (.lastore, 1) := by decide +kernel
theorem dL_numberByWalk_9 : decode cL_numberByWalk 9 = .ok (.goto 9, 3) := by decide +kernel
theorem dL_numberByWalk_12 : decode cL_numberByWalk 12 = .ok (.astore_n 3, 1) := by decide +kernel
theorem dL_numberByWalk_13 : decode cL_numberByWalk 13 = .ok (.iconst 1, 1) := by decide +kernel
theorem dL_numberByWalk_14 : decode cL_numberByWalk 14 = .ok (.ireturn, 1) := by decide +kernel
theorem dL_numberByWalk_15 : decode cL_numberByWalk 15 = .ok (.astore_n 3, 1) := by decide +kernel
theorem dL_numberByWalk_16 : decode cL_numberByWalk 16 = .ok (.iconst 2, 1) := by decide +kernel
theorem dL_numberByWalk_17 : decode cL_numberByWalk 17 = .ok (.ireturn, 1) := by decide +kernel
theorem dL_numberByWalk_18 : decode cL_numberByWalk 18 = .ok (.iconst 0, 1) := by decide +kernel
theorem dL_numberByWalk_19 : decode cL_numberByWalk 19 = .ok (.ireturn, 1) := by decide +kernel
set_option maxRecDepth 20000 in
theorem ggL_lettersByWalk_X8_lettersByWalk : GoodIn wsL_lettersByWalk wsX8_lettersByWalk := goodIn_ca (goodIn_ca (goodIn_ca (goodIn_r _ [7, 8, 9, 10, 11, 6, 12, 13, 14, 15, 16, 17, 18, 19, 20, 21, 22, 23, 24, 25, 26, 27, 28, 29, 30, 31, 32, 33, 34, 35, 36, 37, 38, 39, 40, 41, 42, 43, 44, 45, 46, 47, 48, 49, 50, 51, 52, 53, 54, 55, 56, 57, 58, 59, 60, 61, 62, 63, 64, 65, 66, 67, 68, 69, 70, 71, 72, 73, 74, 75, 76, 77, 78, 79, 80, 81, 82, 83, 84, 85, 86, 87, 88, 89, 90, 91, 92, 93, 94, 95, 96, 97, 98, 99, 100, 101, 102, 103, 104, 105, 106, 107, 108, 109, 110, 111, 112, 113, 114, 115, 116, 117, 118, 119, 120, 121, 122, 123, 124, 125, 126, 127, 128, 129, 130, 131, 132, 133, 134, 135, 136, 137, 138, 139, 140, 141, 142, 143, 144, 145, 146, 147, 148, 149, 150, 151, 152, 153, 154, 155, 156, 157, 158, 159, 160, 161, 162, 163, 164] (by decide +kernel) (by decide +kernel)) (goodIn_sub (fun _ h => List.mem_cons_of_mem _ (List.mem_append_left _ (List.mem_append_right _ h))) (by decide +kernel))) (goodIn_sub (fun _ h => List.mem_cons_of_mem _ (List.mem_append_right _ h)) (by decide +kernel))) (goodIn_sub (fun _ h => List.mem_cons_of_mem _ (List.mem_append_left _ (List.mem_append_left _ (List.mem_append_right _ h)))) (by decide +kernel))
set_option maxRecDepth 20000 in
theorem gL_lettersByWalk_X8_lettersByWalk : GoodIn wsL_lettersByWalk (wsV RL 84 RX8 yX8_lettersByWalk wsX8_lettersByWalk) := goodIn_app (goodIn_of _ (by decide +kernel)) ggL_lettersByWalk_X8_lettersByWalk
theorem dL_lettersByWalk_0 : decode cL_lettersByWalk 0 = .ok (.aload_n 2, 1) := by decide +kernel
theorem dL_lettersByWalk_1 : decode cL_lettersByWalk 1 = .ok (.iconst 0, 1) := by decide +kernel
theorem dL_lettersByWalk_2 : decode cL_lettersByWalk 2 = .ok (.aload_n 0, 1) := by decide +kernel
theorem dL_lettersByWalk_3 : decode cL_lettersByWalk 3 = .ok (.iload_n 1, 1) := by decide +kernel
theorem dL_lettersByWalk_4 : decode cL_lettersByWalk 4 = .ok (.invokevirtual 84, 3) := by decide +kernel
theorem dL_lettersByWalk_7 : decode cL_lettersByWalk 7 = .ok (.i2l, 1) := by decide +kernel
theorem dL_lettersByWalk_8 : decode cL_lettersByWalk 8 = .ok (.lastore, 1) := by decide +kernel
theorem dL_lettersByWalk_9 : decode cL_lettersByWalk 9 = .ok (.goto 9, 3) := by decide +kernel
theorem dL_lettersByWalk_12 : decode cL_lettersByWalk 12 = .ok (.astore_n 3, 1) := by decide +kernel
theorem dL_lettersByWalk_13 : decode cL_lettersByWalk 13 = .ok (.iconst 1, 1) := by decide +kernel
theorem dL_lettersByWalk_14 : decode cL_lettersByWalk 14 = .ok (.ireturn, 1) := by decide +kernel
theorem dL_lettersByWalk_15 : decode cL_lettersByWalk 15 = .ok (.astore_n 3, 1) := by decide +kernel
theorem dL_lettersByWalk_16 : decode cL_lettersByWalk 16 = .ok (.iconst 2, 1) := by decide +kernel
theorem dL_lettersByWalk_17 : decode cL_lettersByWalk 17 = .ok (.ireturn, 1) := by decide +kernel
theorem dL_lettersByWalk_18 : decode cL_lettersByWalk 18 = .ok (.iconst 0, 1) := by decide +kernel
theorem dL_lettersByWalk_19 : decode cL_lettersByWalk 19 = .ok (.ireturn, 1) := by decide +kernel
set_option maxRecDepth 20000 in
theorem ggL_ahead_X8_ahead : GoodIn wsL_ahead wsX8_ahead := goodIn_ca (goodIn_ca (goodIn_ca (goodIn_r _ [7, 8, 9, 10, 11, 6, 12, 13, 14, 15, 16, 17, 18, 19, 20, 21, 22, 23, 24, 25, 26, 27, 28, 29, 30, 31, 32, 33, 34, 35, 36, 37, 38, 39, 40, 41, 42, 43, 44, 45, 46, 47, 48, 49, 50, 51, 52, 53, 54, 55, 56, 57, 58, 59, 60, 61, 62, 63, 64, 65, 66, 67, 68, 69, 70, 71, 72, 73, 74, 75, 76, 77, 78, 79, 80] (by decide +kernel) (by decide +kernel)) (goodIn_sub (fun _ h => List.mem_cons_of_mem _ (List.mem_append_left _ (List.mem_append_right _ h))) (by decide +kernel))) (goodIn_sub (fun _ h => List.mem_cons_of_mem _ (List.mem_append_right _ h)) (by decide +kernel))) (goodIn_sub (fun _ h => List.mem_cons_of_mem _ (List.mem_append_left _ (List.mem_append_left _ (List.mem_append_right _ h)))) (by decide +kernel))
set_option maxRecDepth 20000 in
theorem gL_ahead_X8_ahead : GoodIn wsL_ahead (wsV RL 87 RX8 yX8_ahead wsX8_ahead) := goodIn_app (goodIn_of _ (by decide +kernel)) ggL_ahead_X8_ahead
theorem dL_ahead_0 : decode cL_ahead 0 = .ok (.aload_n 2, 1) := by decide +kernel
theorem dL_ahead_1 : decode cL_ahead 1 = .ok (.iconst 0, 1) := by decide +kernel
theorem dL_ahead_2 : decode cL_ahead 2 = .ok (.aload_n 0, 1) := by decide +kernel
theorem dL_ahead_3 : decode cL_ahead 3 = .ok (.iload_n 1, 1) := by decide +kernel
theorem dL_ahead_4 : decode cL_ahead 4 = .ok (.invokevirtual 87, 3) := by decide +kernel
theorem dL_ahead_7 : decode cL_ahead 7 = .ok (.i2l, 1) := by decide +kernel
theorem dL_ahead_8 : decode cL_ahead 8 = .ok (.lastore, 1) := by decide +kernel
theorem dL_ahead_9 : decode cL_ahead 9 = .ok (.goto 9, 3) := by decide +kernel
theorem dL_ahead_12 : decode cL_ahead 12 = .ok (.astore_n 3, 1) := by decide +kernel
theorem dL_ahead_13 : decode cL_ahead 13 = .ok (.iconst 1, 1) := by decide +kernel
theorem dL_ahead_14 : decode cL_ahead 14 = .ok (.ireturn, 1) := by decide +kernel
theorem dL_ahead_15 : decode cL_ahead 15 = .ok (.astore_n 3, 1) := by decide +kernel
theorem dL_ahead_16 : decode cL_ahead 16 = .ok (.iconst 2, 1) := by decide +kernel
theorem dL_ahead_17 : decode cL_ahead 17 = .ok (.ireturn, 1) := by decide +kernel
theorem dL_ahead_18 : decode cL_ahead 18 = .ok (.iconst 0, 1) := by decide +kernel
theorem dL_ahead_19 : decode cL_ahead 19 = .ok (.ireturn, 1) := by decide +kernel
set_option maxRecDepth 20000 in
theorem ggL_labelLength_X8_labelLength : GoodIn wsL_labelLength wsX8_labelLength := goodIn_ca (goodIn_ca (goodIn_ca (goodIn_r _ [7, 8, 9, 10, 11, 6, 12, 13, 14, 15, 16, 17, 18, 19, 20, 21, 22, 23, 24, 25, 26, 27, 28, 29, 30, 31, 32, 33, 34, 35, 36, 37, 38, 39, 40, 41, 42, 43, 44, 45, 46, 47, 48, 49, 50, 51, 52, 53, 54, 55, 56, 57, 58, 59, 60, 61, 62, 63, 64, 65, 66, 67, 68, 69, 70, 71, 72, 73, 74, 75, 76, 77, 78, 79, 80, 81, 82, 83, 84, 85, 86, 87, 88, 89, 90, 91, 92, 93, 94, 95, 96, 97, 98, 99, 100, 101, 102, 103, 104, 105, 106, 107, 108, 109, 110, 111, 112, 113, 114, 115, 116, 117, 118, 119, 120, 121, 122, 123, 124, 125, 126, 127, 128, 129, 130, 131, 132, 133, 134, 135, 136, 137, 138, 139, 140, 141, 142, 143, 144, 145, 146, 147, 148, 149, 150, 151, 152, 153, 154, 155, 156, 157, 158, 159, 160, 161, 162, 163, 164, 165, 166, 167, 168, 169, 170, 171, 172, 173, 174, 175, 176, 177, 178, 179, 180, 181] (by decide +kernel) (by decide +kernel)) (goodIn_sub (fun _ h => List.mem_cons_of_mem _ (List.mem_append_left _ (List.mem_append_right _ h))) (by decide +kernel))) (goodIn_sub (fun _ h => List.mem_cons_of_mem _ (List.mem_append_right _ h)) (by decide +kernel))) (goodIn_sub (fun _ h => List.mem_cons_of_mem _ (List.mem_append_left _ (List.mem_append_left _ (List.mem_append_right _ h)))) (by decide +kernel))
set_option maxRecDepth 20000 in
theorem gL_labelLength_X8_labelLength : GoodIn wsL_labelLength (wsV RL 90 RX8 yX8_labelLength wsX8_labelLength) := goodIn_app (goodIn_of _ (by decide +kernel)) ggL_labelLength_X8_labelLength
theorem dL_labelLength_0 : decode cL_labelLength 0 = .ok (.aload_n 2, 1) := by decide +kernel
theorem dL_labelLength_1 : decode cL_labelLength 1 = .ok (.iconst 0, 1) := by decide +kernel
theorem dL_labelLength_2 : decode cL_labelLength 2 = .ok (.aload_n 0, 1) := by decide +kernel
theorem dL_labelLength_3 : decode cL_labelLength 3 = .ok (.iload_n 1, 1) := by decide +kernel
theorem dL_labelLength_4 : decode cL_labelLength 4 = .ok (.invokevirtual 90, 3) := by decide +kernel
theorem dL_labelLength_7 : decode cL_labelLength 7 = .ok (.i2l, 1) := by decide +kernel
theorem dL_labelLength_8 : decode cL_labelLength 8 = .ok (.lastore, 1) := by decide +kernel
theorem dL_labelLength_9 : decode cL_labelLength 9 = .ok (.goto 9, 3) := by decide +kernel
theorem dL_labelLength_12 : decode cL_labelLength 12 = .ok (.astore_n 3, 1) := by decide +kernel
theorem dL_labelLength_13 : decode cL_labelLength 13 = .ok (.iconst 1, 1) := by decide +kernel
theorem dL_labelLength_14 : decode cL_labelLength 14 = .ok (.ireturn, 1) := by decide +kernel
theorem dL_labelLength_15 : decode cL_labelLength 15 = .ok (.astore_n 3, 1) := by decide +kernel
theorem dL_labelLength_16 : decode cL_labelLength 16 = .ok (.iconst 2, 1) := by decide +kernel
theorem dL_labelLength_17 : decode cL_labelLength 17 = .ok (.ireturn, 1) := by decide +kernel
theorem dL_labelLength_18 : decode cL_labelLength 18 = .ok (.iconst 0, 1) := by decide +kernel
theorem dL_labelLength_19 : decode cL_labelLength 19 = .ok (.ireturn, 1) := by decide +kernel
set_option maxRecDepth 20000 in
theorem ggL_labelAt_X8_labelAt : GoodIn wsL_labelAt wsX8_labelAt := goodIn_ca (goodIn_ca (goodIn_ca (goodIn_ca (goodIn_r _ [8, 9, 10, 11, 12, 7, 13, 14, 15, 16, 17, 18, 19, 20, 21, 22, 23, 24, 25, 26, 27, 28, 29, 30, 31, 32, 33, 34, 35, 36, 37, 38, 39, 40, 41, 42, 43, 44, 45, 46, 47, 48, 49, 50, 51, 52, 53, 54, 55, 56, 57, 58, 59, 60, 61, 62, 63, 64, 65, 66, 67, 68, 69, 70, 71, 72, 73, 74, 75, 76, 77, 78, 79, 80, 81, 82, 83, 84, 85, 86, 87, 88, 89, 90, 91, 92, 93, 94, 95, 96, 97, 98, 99, 100, 101, 102, 103, 104, 105, 106, 107, 108, 109, 110, 111, 112, 113, 114, 115, 116, 117, 118, 119, 120, 121, 122, 123, 124, 125, 126, 127, 128, 129, 130, 131, 132, 133, 134, 135, 136, 137, 138, 139, 140, 141, 142, 143, 144, 145, 146, 147, 148, 149, 150, 151, 152, 153, 154, 155, 156, 157, 158, 159, 160, 161, 162, 163, 164, 165, 166, 167, 168, 169, 170, 171, 172, 173, 174, 175, 176, 177, 178, 179, 180, 181, 182, 183, 184, 185, 186, 187, 188, 189, 190, 191, 192, 193] (by decide +kernel) (by decide +kernel)) (goodIn_sub (fun _ h => List.mem_cons_of_mem _ (List.mem_append_left _ (List.mem_append_left _ (List.mem_append_right _ h)))) (by decide +kernel))) (goodIn_sub (fun _ h => List.mem_cons_of_mem _ (List.mem_append_left _ (List.mem_append_right _ h))) (by decide +kernel))) (goodIn_sub (fun _ h => List.mem_cons_of_mem _ (List.mem_append_left _ (List.mem_append_left _ (List.mem_append_left _ (List.mem_append_right _ h))))) (by decide +kernel))) (goodIn_sub (fun _ h => List.mem_cons_of_mem _ (List.mem_append_right _ h)) (by decide +kernel))
set_option maxRecDepth 20000 in
theorem gL_labelAt_X8_labelAt : GoodIn wsL_labelAt (wsV RL 93 RX8 yX8_labelAt wsX8_labelAt) := goodIn_app (goodIn_of _ (by decide +kernel)) ggL_labelAt_X8_labelAt
theorem dL_labelAt_0 : decode cL_labelAt 0 = .ok (.aload_n 3, 1) := by decide +kernel
theorem dL_labelAt_1 : decode cL_labelAt 1 = .ok (.iconst 0, 1) := by decide +kernel
theorem dL_labelAt_2 : decode cL_labelAt 2 = .ok (.aload_n 0, 1) := by decide +kernel
theorem dL_labelAt_3 : decode cL_labelAt 3 = .ok (.iload_n 1, 1) := by decide +kernel
theorem dL_labelAt_4 : decode cL_labelAt 4 = .ok (.iload_n 2, 1) := by decide +kernel
theorem dL_labelAt_5 : decode cL_labelAt 5 = .ok (.invokevirtual 93, 3) := by decide +kernel
theorem dL_labelAt_8 : decode cL_labelAt 8 = .ok (.i2l, 1) := by decide +kernel
theorem dL_labelAt_9 : decode cL_labelAt 9 = .ok (.lastore, 1) := by decide +kernel
theorem dL_labelAt_10 : decode cL_labelAt 10 = .ok (.goto 15, 3) := by decide +kernel
theorem dL_labelAt_13 : decode cL_labelAt 13 = .ok (.astore 4, 2) := by decide +kernel
theorem dL_labelAt_15 : decode cL_labelAt 15 = .ok (.iconst 1, 1) := by decide +kernel
theorem dL_labelAt_16 : decode cL_labelAt 16 = .ok (.ireturn, 1) := by decide +kernel
theorem dL_labelAt_17 : decode cL_labelAt 17 = .ok (.astore 4, 2) := by decide +kernel
theorem dL_labelAt_19 : decode cL_labelAt 19 = .ok (.iconst 2, 1) := by decide +kernel
theorem dL_labelAt_20 : decode cL_labelAt 20 = .ok (.ireturn, 1) := by decide +kernel
theorem dL_labelAt_21 : decode cL_labelAt 21 = .ok (.astore 4, 2) := by decide +kernel
theorem dL_labelAt_23 : decode cL_labelAt 23 = .ok (.iconst 3, 1) := by decide +kernel
theorem dL_labelAt_24 : decode cL_labelAt 24 = .ok (.ireturn, 1) := by decide +kernel
theorem dL_labelAt_25 : decode cL_labelAt 25 = .ok (.iconst 0, 1) := by decide +kernel
theorem dL_labelAt_26 : decode cL_labelAt 26 = .ok (.ireturn, 1) := by decide +kernel
set_option maxRecDepth 20000 in
theorem ggL_find_X8_find : GoodIn wsL_find wsX8_find := goodIn_ca (goodIn_ca (goodIn_ca (goodIn_r _ [7, 8, 9, 10, 11, 12, 13, 14, 6, 15, 16, 17, 18, 19, 20, 21, 22, 23, 24, 25, 26, 27, 28, 29, 30, 31, 32, 33, 34, 35, 36, 37, 38, 39, 40, 41, 42, 43, 44, 45, 46, 47, 48, 49, 50, 51, 52, 53, 54, 55, 56, 57, 58, 59, 60, 61, 62, 63, 64, 65, 66, 67, 68, 69, 70, 71, 72, 73, 74, 75, 76] (by decide +kernel) (by decide +kernel)) (goodIn_sub (fun _ h => List.mem_cons_of_mem _ (List.mem_append_left _ (List.mem_append_right _ h))) (by decide +kernel))) (goodIn_sub (fun _ h => List.mem_cons_of_mem _ (List.mem_append_right _ h)) (by decide +kernel))) (goodIn_sub (fun _ h => List.mem_cons_of_mem _ (List.mem_append_left _ (List.mem_append_left _ (List.mem_append_right _ h)))) (by decide +kernel))
set_option maxRecDepth 20000 in
theorem gL_find_X8_find : GoodIn wsL_find (wsV RL 97 RX8 yX8_find wsX8_find) := goodIn_app (goodIn_of _ (by decide +kernel)) ggL_find_X8_find
theorem dL_find_0 : decode cL_find 0 = .ok (.aload_n 3, 1) := by decide +kernel
theorem dL_find_1 : decode cL_find 1 = .ok (.iconst 0, 1) := by decide +kernel
theorem dL_find_2 : decode cL_find 2 = .ok (.aload_n 0, 1) := by decide +kernel
theorem dL_find_3 : decode cL_find 3 = .ok (.iload_n 1, 1) := by decide +kernel
theorem dL_find_4 : decode cL_find 4 = .ok (.iload_n 2, 1) := by decide +kernel
theorem dL_find_5 : decode cL_find 5 = .ok (.invokevirtual 97, 3) := by decide +kernel
theorem dL_find_8 : decode cL_find 8 = .ok (.i2l, 1) := by decide +kernel
theorem dL_find_9 : decode cL_find 9 = .ok (.lastore, 1) := by decide +kernel
theorem dL_find_10 : decode cL_find 10 = .ok (.goto 11, 3) := by decide +kernel
theorem dL_find_13 : decode cL_find 13 = .ok (.astore 4, 2) := by decide +kernel
theorem dL_find_15 : decode cL_find 15 = .ok (.iconst 1, 1) := by decide +kernel
theorem dL_find_16 : decode cL_find 16 = .ok (.ireturn, 1) := by decide +kernel
theorem dL_find_17 : decode cL_find 17 = .ok (.astore 4, 2) := by decide +kernel
theorem dL_find_19 : decode cL_find 19 = .ok (.iconst 2, 1) := by decide +kernel
theorem dL_find_20 : decode cL_find 20 = .ok (.ireturn, 1) := by decide +kernel
theorem dL_find_21 : decode cL_find 21 = .ok (.iconst 0, 1) := by decide +kernel
theorem dL_find_22 : decode cL_find 22 = .ok (.ireturn, 1) := by decide +kernel
set_option maxRecDepth 20000 in
theorem ggL_targetOf_X8_targetOf : GoodIn wsL_targetOf wsX8_targetOf := goodIn_ca (goodIn_ca (goodIn_r _ [6, 7, 8, 9, 10, 5, 11, 12, 13, 14, 15, 16, 17, 18, 19, 20, 21, 22, 23, 24, 25, 26, 27, 28, 29, 30, 31, 32, 33, 34, 35, 36, 37, 38, 39, 40] (by decide +kernel) (by decide +kernel)) (goodIn_sub (fun _ h => List.mem_cons_of_mem _ (List.mem_append_right _ h)) (by decide +kernel))) (goodIn_sub (fun _ h => List.mem_cons_of_mem _ (List.mem_append_left _ (List.mem_append_right _ h))) (by decide +kernel))
set_option maxRecDepth 20000 in
theorem gL_targetOf_X8_targetOf : GoodIn wsL_targetOf (wsV RL 100 RX8 yX8_targetOf wsX8_targetOf) := goodIn_app (goodIn_of _ (by decide +kernel)) ggL_targetOf_X8_targetOf
theorem dL_targetOf_0 : decode cL_targetOf 0 = .ok (.aload_n 2, 1) := by decide +kernel
theorem dL_targetOf_1 : decode cL_targetOf 1 = .ok (.iconst 0, 1) := by decide +kernel
theorem dL_targetOf_2 : decode cL_targetOf 2 = .ok (.aload_n 0, 1) := by decide +kernel
theorem dL_targetOf_3 : decode cL_targetOf 3 = .ok (.iload_n 1, 1) := by decide +kernel
theorem dL_targetOf_4 : decode cL_targetOf 4 = .ok (.invokevirtual 100, 3) := by decide +kernel
theorem dL_targetOf_7 : decode cL_targetOf 7 = .ok (.i2l, 1) := by decide +kernel
theorem dL_targetOf_8 : decode cL_targetOf 8 = .ok (.lastore, 1) := by decide +kernel
theorem dL_targetOf_9 : decode cL_targetOf 9 = .ok (.goto 6, 3) := by decide +kernel
theorem dL_targetOf_12 : decode cL_targetOf 12 = .ok (.astore_n 3, 1) := by decide +kernel
theorem dL_targetOf_13 : decode cL_targetOf 13 = .ok (.iconst 1, 1) := by decide +kernel
theorem dL_targetOf_14 : decode cL_targetOf 14 = .ok (.ireturn, 1) := by decide +kernel
theorem dL_targetOf_15 : decode cL_targetOf 15 = .ok (.iconst 0, 1) := by decide +kernel
theorem dL_targetOf_16 : decode cL_targetOf 16 = .ok (.ireturn, 1) := by decide +kernel
set_option maxRecDepth 20000 in
theorem ggL_isBroken_X8_isBroken : GoodIn wsL_isBroken wsX8_isBroken := goodIn_ca (goodIn_ca (goodIn_r _ [6, 7, 8, 9, 5, 10, 11, 12, 13, 14, 15, 16, 17, 18, 19, 20, 21, 22, 23, 24, 25, 26, 27, 28, 29, 30, 31, 32, 33, 34, 35, 36, 37, 38, 39, 40, 41, 42, 43, 44, 45, 46, 47, 48, 49, 50, 51, 52, 53, 54, 55, 56, 57, 58, 59, 60, 61, 62] (by decide +kernel) (by decide +kernel)) (goodIn_sub (fun _ h => List.mem_cons_of_mem _ (List.mem_append_right _ h)) (by decide +kernel))) (goodIn_sub (fun _ h => List.mem_cons_of_mem _ (List.mem_append_left _ (List.mem_append_right _ h))) (by decide +kernel))
set_option maxRecDepth 20000 in
theorem gL_isBroken_X8_isBroken : GoodIn wsL_isBroken (wsV RL 103 RX8 yX8_isBroken wsX8_isBroken) := goodIn_app (goodIn_of _ (by decide +kernel)) ggL_isBroken_X8_isBroken
theorem dL_isBroken_0 : decode cL_isBroken 0 = .ok (.aload_n 2, 1) := by decide +kernel
theorem dL_isBroken_1 : decode cL_isBroken 1 = .ok (.iconst 0, 1) := by decide +kernel
theorem dL_isBroken_2 : decode cL_isBroken 2 = .ok (.aload_n 0, 1) := by decide +kernel
theorem dL_isBroken_3 : decode cL_isBroken 3 = .ok (.iload_n 1, 1) := by decide +kernel
theorem dL_isBroken_4 : decode cL_isBroken 4 = .ok (.invokevirtual 103, 3) := by decide +kernel
theorem dL_isBroken_7 : decode cL_isBroken 7 = .ok (.ifCond .eq 7, 3) := by decide +kernel
theorem dL_isBroken_10 : decode cL_isBroken 10 = .ok (.lconst 1, 1) := by decide +kernel
theorem dL_isBroken_11 : decode cL_isBroken 11 = .ok (.goto 4, 3) := by decide +kernel
theorem dL_isBroken_14 : decode cL_isBroken 14 = .ok (.lconst 0, 1) := by decide +kernel
theorem dL_isBroken_15 : decode cL_isBroken 15 = .ok (.lastore, 1) := by decide +kernel
theorem dL_isBroken_16 : decode cL_isBroken 16 = .ok (.goto 6, 3) := by decide +kernel
theorem dL_isBroken_19 : decode cL_isBroken 19 = .ok (.astore_n 3, 1) := by decide +kernel
theorem dL_isBroken_20 : decode cL_isBroken 20 = .ok (.iconst 1, 1) := by decide +kernel
theorem dL_isBroken_21 : decode cL_isBroken 21 = .ok (.ireturn, 1) := by decide +kernel
theorem dL_isBroken_22 : decode cL_isBroken 22 = .ok (.iconst 0, 1) := by decide +kernel
theorem dL_isBroken_23 : decode cL_isBroken 23 = .ok (.ireturn, 1) := by decide +kernel
set_option maxRecDepth 20000 in
theorem ggL_referenceLength_X8_referenceLength : GoodIn wsL_referenceLength wsX8_referenceLength := goodIn_ca (goodIn_ca (goodIn_ca (goodIn_r _ [7, 8, 9, 10, 11, 12, 6, 13, 14, 15, 16, 17, 18, 19, 20, 21, 22, 23, 24, 25, 26, 27, 28, 29, 30, 31, 32, 33, 34, 35, 36, 37, 38, 39, 40, 41, 42, 43, 44, 45, 46, 47, 48, 49, 50, 51, 52, 53, 54, 55, 56, 57, 58, 59, 60, 61, 62, 63, 64, 65, 66, 67, 68, 69, 70, 71, 72, 73, 74, 75, 76, 77, 78, 79, 80, 81, 82, 83, 84, 85, 86, 87, 88, 89, 90, 91, 92, 93, 94, 95, 96, 97, 98, 99, 100, 101, 102, 103, 104, 105, 106, 107, 108, 109, 110, 111, 112, 113, 114, 115, 116, 117, 118, 119, 120, 121, 122, 123, 124, 125, 126, 127, 128, 129, 130, 131, 132, 133, 134, 135, 136, 137, 138, 139, 140, 141, 142, 143, 144, 145, 146, 147, 148, 149, 150, 151, 152, 153, 154, 155, 156, 157, 158, 159, 160, 161, 162, 163, 164, 165, 166, 167, 168, 169, 170, 171, 172, 173, 174, 175, 176, 177, 178, 179, 180, 181, 182, 183, 184, 185, 186, 187, 188, 189, 190, 191, 192, 193, 194, 195, 196, 197, 198, 199, 200, 201, 202, 203, 204, 205, 206] (by decide +kernel) (by decide +kernel)) (goodIn_sub (fun _ h => List.mem_cons_of_mem _ (List.mem_append_left _ (List.mem_append_right _ h))) (by decide +kernel))) (goodIn_sub (fun _ h => List.mem_cons_of_mem _ (List.mem_append_right _ h)) (by decide +kernel))) (goodIn_sub (fun _ h => List.mem_cons_of_mem _ (List.mem_append_left _ (List.mem_append_left _ (List.mem_append_right _ h)))) (by decide +kernel))
set_option maxRecDepth 20000 in
theorem gL_referenceLength_X8_referenceLength : GoodIn wsL_referenceLength (wsV RL 106 RX8 yX8_referenceLength wsX8_referenceLength) := goodIn_app (goodIn_of _ (by decide +kernel)) ggL_referenceLength_X8_referenceLength
theorem dL_referenceLength_0 : decode cL_referenceLength 0 = .ok (.aload_n 2, 1) := by decide +kernel
theorem dL_referenceLength_1 : decode cL_referenceLength 1 = .ok (.iconst 0, 1) := by decide +kernel
theorem dL_referenceLength_2 : decode cL_referenceLength 2 = .ok (.aload_n 0, 1) := by decide +kernel
theorem dL_referenceLength_3 : decode cL_referenceLength 3 = .ok (.iload_n 1, 1) := by decide +kernel
theorem dL_referenceLength_4 : decode cL_referenceLength 4 = .ok (.invokevirtual 106, 3) := by decide +kernel
theorem dL_referenceLength_7 : decode cL_referenceLength 7 = .ok (.i2l, 1) := by decide +kernel
theorem dL_referenceLength_8 : decode cL_referenceLength 8 = .ok (.lastore, 1) := by decide +kernel
theorem dL_referenceLength_9 : decode cL_referenceLength 9 = .ok (.goto 9, 3) := by decide +kernel
theorem dL_referenceLength_12 : decode cL_referenceLength 12 = .ok (.astore_n 3, 1) := by decide +kernel
theorem dL_referenceLength_13 : decode cL_referenceLength 13 = .ok (.iconst 1, 1) := by decide +kernel
theorem dL_referenceLength_14 : decode cL_referenceLength 14 = .ok (.ireturn, 1) := by decide +kernel
theorem dL_referenceLength_15 : decode cL_referenceLength 15 = .ok (.astore_n 3, 1) := by decide +kernel
theorem dL_referenceLength_16 : decode cL_referenceLength 16 = .ok (.iconst 2, 1) := by decide +kernel
theorem dL_referenceLength_17 : decode cL_referenceLength 17 = .ok (.ireturn, 1) := by decide +kernel
theorem dL_referenceLength_18 : decode cL_referenceLength 18 = .ok (.iconst 0, 1) := by decide +kernel
theorem dL_referenceLength_19 : decode cL_referenceLength 19 = .ok (.ireturn, 1) := by decide +kernel
set_option maxRecDepth 20000 in
theorem ggL_referenceAt_X8_referenceAt : GoodIn wsL_referenceAt wsX8_referenceAt := goodIn_ca (goodIn_ca (goodIn_ca (goodIn_ca (goodIn_r _ [8, 9, 10, 11, 12, 13, 7, 14, 15, 16, 17, 18, 19, 20, 21, 22, 23, 24, 25, 26, 27, 28, 29, 30, 31, 32, 33, 34, 35, 36, 37, 38, 39, 40, 41, 42, 43, 44, 45, 46, 47, 48, 49, 50, 51, 52, 53, 54, 55, 56, 57, 58, 59, 60, 61, 62, 63, 64, 65, 66, 67, 68, 69, 70, 71, 72, 73, 74, 75, 76, 77, 78, 79, 80, 81, 82, 83, 84, 85, 86, 87, 88, 89, 90, 91, 92, 93, 94, 95, 96, 97, 98, 99, 100, 101, 102, 103, 104, 105, 106, 107, 108, 109, 110, 111, 112, 113, 114, 115, 116, 117, 118, 119, 120, 121, 122, 123, 124, 125, 126, 127, 128, 129, 130, 131, 132, 133, 134, 135, 136, 137, 138, 139, 140, 141, 142, 143, 144, 145, 146, 147, 148, 149, 150, 151, 152, 153, 154, 155, 156, 157, 158, 159, 160, 161, 162, 163, 164, 165, 166, 167, 168, 169, 170, 171, 172, 173, 174, 175, 176, 177, 178, 179, 180, 181, 182, 183, 184, 185, 186, 187, 188, 189, 190, 191, 192, 193, 194, 195, 196, 197, 198, 199, 200, 201, 202, 203, 204, 205, 206, 207, 208, 209, 210, 211, 212, 213, 214, 215, 216, 217, 218] (by decide +kernel) (by decide +kernel)) (goodIn_sub (fun _ h => List.mem_cons_of_mem _ (List.mem_append_left _ (List.mem_append_left _ (List.mem_append_right _ h)))) (by decide +kernel))) (goodIn_sub (fun _ h => List.mem_cons_of_mem _ (List.mem_append_left _ (List.mem_append_right _ h))) (by decide +kernel))) (goodIn_sub (fun _ h => List.mem_cons_of_mem _ (List.mem_append_left _ (List.mem_append_left _ (List.mem_append_left _ (List.mem_append_right _ h))))) (by decide +kernel))) (goodIn_sub (fun _ h => List.mem_cons_of_mem _ (List.mem_append_right _ h)) (by decide +kernel))
set_option maxRecDepth 20000 in
theorem gL_referenceAt_X8_referenceAt : GoodIn wsL_referenceAt (wsV RL 109 RX8 yX8_referenceAt wsX8_referenceAt) := goodIn_app (goodIn_of _ (by decide +kernel)) ggL_referenceAt_X8_referenceAt
theorem dL_referenceAt_0 : decode cL_referenceAt 0 = .ok (.aload_n 3, 1) := by decide +kernel
theorem dL_referenceAt_1 : decode cL_referenceAt 1 = .ok (.iconst 0, 1) := by decide +kernel
theorem dL_referenceAt_2 : decode cL_referenceAt 2 = .ok (.aload_n 0, 1) := by decide +kernel
theorem dL_referenceAt_3 : decode cL_referenceAt 3 = .ok (.iload_n 1, 1) := by decide +kernel
theorem dL_referenceAt_4 : decode cL_referenceAt 4 = .ok (.iload_n 2, 1) := by decide +kernel
theorem dL_referenceAt_5 : decode cL_referenceAt 5 = .ok (.invokevirtual 109, 3) := by decide +kernel
theorem dL_referenceAt_8 : decode cL_referenceAt 8 = .ok (.i2l, 1) := by decide +kernel
theorem dL_referenceAt_9 : decode cL_referenceAt 9 = .ok (.lastore, 1) := by decide +kernel
theorem dL_referenceAt_10 : decode cL_referenceAt 10 = .ok (.goto 15, 3) := by decide +kernel
theorem dL_referenceAt_13 : decode cL_referenceAt 13 = .ok (.astore 4, 2) := by decide +kernel
theorem dL_referenceAt_15 : decode cL_referenceAt 15 = .ok (.iconst 1, 1) := by decide +kernel
theorem dL_referenceAt_16 : decode cL_referenceAt 16 = .ok (.ireturn, 1) := by decide +kernel
theorem dL_referenceAt_17 : decode cL_referenceAt 17 = .ok (.astore 4, 2) := by decide +kernel
theorem dL_referenceAt_19 : decode cL_referenceAt 19 = .ok (.iconst 2, 1) := by decide +kernel
theorem dL_referenceAt_20 : decode cL_referenceAt 20 = .ok (.ireturn, 1) := by decide +kernel
theorem dL_referenceAt_21 : decode cL_referenceAt 21 = .ok (.astore 4, 2) := by decide +kernel
theorem dL_referenceAt_23 : decode cL_referenceAt 23 = .ok (.iconst 3, 1) := by decide +kernel
theorem dL_referenceAt_24 : decode cL_referenceAt 24 = .ok (.ireturn, 1) := by decide +kernel
theorem dL_referenceAt_25 : decode cL_referenceAt 25 = .ok (.iconst 0, 1) := by decide +kernel
theorem dL_referenceAt_26 : decode cL_referenceAt 26 = .ok (.ireturn, 1) := by decide +kernel
set_option maxRecDepth 20000 in
theorem ggL_count_X8_count : GoodIn wsL_count wsX8_count := goodIn_ca (goodIn_ca (goodIn_r _ [6, 7, 8, 9, 10, 11, 5, 12, 13, 14, 15, 16, 17, 18, 19, 20, 21, 22, 23, 24, 25, 26, 27, 28, 29, 30, 31, 32, 33, 34, 35, 36, 37, 38, 39, 40, 41, 42, 43, 44, 45, 46, 47, 48, 49, 50, 51, 52, 53, 54, 55, 56, 57, 58, 59, 60, 61, 62, 63, 64, 65, 66, 67, 68, 69, 70, 71, 72] (by decide +kernel) (by decide +kernel)) (goodIn_sub (fun _ h => List.mem_cons_of_mem _ (List.mem_append_right _ h)) (by decide +kernel))) (goodIn_sub (fun _ h => List.mem_cons_of_mem _ (List.mem_append_left _ (List.mem_append_right _ h))) (by decide +kernel))
set_option maxRecDepth 20000 in
theorem gL_count_X8_count : GoodIn wsL_count (wsV RL 112 RX8 yX8_count wsX8_count) := goodIn_app (goodIn_of _ (by decide +kernel)) ggL_count_X8_count
theorem dL_count_0 : decode cL_count 0 = .ok (.aload_n 2, 1) := by decide +kernel
theorem dL_count_1 : decode cL_count 1 = .ok (.iconst 0, 1) := by decide +kernel
theorem dL_count_2 : decode cL_count 2 = .ok (.aload_n 0, 1) := by decide +kernel
theorem dL_count_3 : decode cL_count 3 = .ok (.iload_n 1, 1) := by decide +kernel
theorem dL_count_4 : decode cL_count 4 = .ok (.invokevirtual 112, 3) := by decide +kernel
theorem dL_count_7 : decode cL_count 7 = .ok (.i2l, 1) := by decide +kernel
theorem dL_count_8 : decode cL_count 8 = .ok (.lastore, 1) := by decide +kernel
theorem dL_count_9 : decode cL_count 9 = .ok (.goto 6, 3) := by decide +kernel
theorem dL_count_12 : decode cL_count 12 = .ok (.astore_n 3, 1) := by decide +kernel
theorem dL_count_13 : decode cL_count 13 = .ok (.iconst 1, 1) := by decide +kernel
theorem dL_count_14 : decode cL_count 14 = .ok (.ireturn, 1) := by decide +kernel
theorem dL_count_15 : decode cL_count 15 = .ok (.iconst 0, 1) := by decide +kernel
theorem dL_count_16 : decode cL_count 16 = .ok (.ireturn, 1) := by decide +kernel
set_option maxRecDepth 20000 in
theorem ggL_frozenShare_X8_frozenShare : GoodIn wsL_frozenShare wsX8_frozenShare := goodIn_ca (goodIn_ca (goodIn_r _ [6, 7, 8, 9, 5, 10, 11, 12, 13, 14, 15, 16, 17, 18, 19, 20, 21, 22, 23, 24, 25, 26, 27, 28, 29, 30, 31, 32, 33, 34, 35, 36, 37, 38, 39, 40, 41, 42, 43, 44, 45, 46, 47, 48, 49, 50, 51, 52, 53, 54, 55, 56, 57, 58, 59, 60, 61, 62, 63, 64, 65, 66, 67, 68, 69, 70, 71, 72, 73, 74, 75, 76, 77, 78, 79, 80, 81, 82, 83, 84] (by decide +kernel) (by decide +kernel)) (goodIn_sub (fun _ h => List.mem_cons_of_mem _ (List.mem_append_right _ h)) (by decide +kernel))) (goodIn_sub (fun _ h => List.mem_cons_of_mem _ (List.mem_append_left _ (List.mem_append_right _ h))) (by decide +kernel))
set_option maxRecDepth 20000 in
theorem gL_frozenShare_X8_frozenShare : GoodIn wsL_frozenShare (wsV RL 116 RX8 yX8_frozenShare wsX8_frozenShare) := goodIn_app (goodIn_of _ (by decide +kernel)) ggL_frozenShare_X8_frozenShare
theorem dL_frozenShare_0 : decode cL_frozenShare 0 = .ok (.aload_n 1, 1) := by decide +kernel
theorem dL_frozenShare_1 : decode cL_frozenShare 1 = .ok (.iconst 0, 1) := by decide +kernel
theorem dL_frozenShare_2 : decode cL_frozenShare 2 = .ok (.aload_n 0, 1) := by decide +kernel
theorem dL_frozenShare_3 : decode cL_frozenShare 3 = .ok (.invokevirtual 116, 3) := by decide +kernel
theorem dL_frozenShare_6 : decode cL_frozenShare 6 = .ok (.f2d, 1) := by decide +kernel
theorem dL_frozenShare_7 : decode cL_frozenShare 7 = .ok (.dastore, 1) := by decide +kernel
theorem dL_frozenShare_8 : decode cL_frozenShare 8 = .ok (.goto 6, 3) := by decide +kernel
theorem dL_frozenShare_11 : decode cL_frozenShare 11 = .ok (.astore_n 2, 1) := by decide +kernel
theorem dL_frozenShare_12 : decode cL_frozenShare 12 = .ok (.iconst 1, 1) := by decide +kernel
theorem dL_frozenShare_13 : decode cL_frozenShare 13 = .ok (.ireturn, 1) := by decide +kernel
theorem dL_frozenShare_14 : decode cL_frozenShare 14 = .ok (.iconst 0, 1) := by decide +kernel
theorem dL_frozenShare_15 : decode cL_frozenShare 15 = .ok (.ireturn, 1) := by decide +kernel
set_option maxRecDepth 20000 in
theorem ggL_shareBits_X8_shareBits : GoodIn wsL_shareBits wsX8_shareBits := goodIn_ca (goodIn_ca (goodIn_r _ [6, 7, 8, 9, 5, 10, 11, 12, 13, 14, 15, 16, 17, 18, 19, 20, 21, 22, 23, 24, 25, 26, 27, 28, 29, 30, 31, 32, 33, 34, 35, 36, 37, 38, 39, 40, 41, 42, 43, 44, 45, 46, 47, 48, 49, 50, 51, 52, 53, 54, 55, 56, 57, 58, 59, 60, 61, 62, 63, 64, 65, 66, 67, 68, 69, 70, 71, 72, 73, 74, 75, 76, 77, 78, 79, 80, 81, 82, 83, 84, 85, 86, 87, 88] (by decide +kernel) (by decide +kernel)) (goodIn_sub (fun _ h => List.mem_cons_of_mem _ (List.mem_append_right _ h)) (by decide +kernel))) (goodIn_sub (fun _ h => List.mem_cons_of_mem _ (List.mem_append_left _ (List.mem_append_right _ h))) (by decide +kernel))
set_option maxRecDepth 20000 in
theorem gL_shareBits_X8_shareBits : GoodIn wsL_shareBits (wsV RL 122 RX8 yX8_shareBits wsX8_shareBits) := goodIn_app (goodIn_of _ (by decide +kernel)) ggL_shareBits_X8_shareBits
theorem dL_shareBits_0 : decode cL_shareBits 0 = .ok (.aload_n 1, 1) := by decide +kernel
theorem dL_shareBits_1 : decode cL_shareBits 1 = .ok (.iconst 0, 1) := by decide +kernel
theorem dL_shareBits_2 : decode cL_shareBits 2 = .ok (.aload_n 0, 1) := by decide +kernel
theorem dL_shareBits_3 : decode cL_shareBits 3 = .ok (.invokevirtual 122, 3) := by decide +kernel
theorem dL_shareBits_6 : decode cL_shareBits 6 = .ok (.i2l, 1) := by decide +kernel
theorem dL_shareBits_7 : decode cL_shareBits 7 = .ok (.lastore, 1) := by decide +kernel
theorem dL_shareBits_8 : decode cL_shareBits 8 = .ok (.goto 6, 3) := by decide +kernel
theorem dL_shareBits_11 : decode cL_shareBits 11 = .ok (.astore_n 2, 1) := by decide +kernel
theorem dL_shareBits_12 : decode cL_shareBits 12 = .ok (.iconst 1, 1) := by decide +kernel
theorem dL_shareBits_13 : decode cL_shareBits 13 = .ok (.ireturn, 1) := by decide +kernel
theorem dL_shareBits_14 : decode cL_shareBits 14 = .ok (.iconst 0, 1) := by decide +kernel
theorem dL_shareBits_15 : decode cL_shareBits 15 = .ok (.ireturn, 1) := by decide +kernel
set_option maxRecDepth 20000 in
theorem ggL_meanNumber_X8_meanNumber : GoodIn wsL_meanNumber wsX8_meanNumber := goodIn_ca (goodIn_ca (goodIn_ca (goodIn_r _ [7, 8, 9, 10, 11, 12, 6, 13, 14, 15, 16, 17, 18, 19, 20, 21, 22, 23, 24, 25, 26, 27, 28, 29, 30, 31, 32, 33, 34, 35, 36, 37, 38, 39, 40, 41, 42, 43, 44, 45, 46, 47, 48, 49, 50, 51, 52, 53, 54, 55, 56, 57, 58, 59, 60, 61, 62, 63, 64, 65, 66, 67, 68, 69, 70, 71, 72, 73, 74, 75, 76, 77, 78, 79] (by decide +kernel) (by decide +kernel)) (goodIn_sub (fun _ h => List.mem_cons_of_mem _ (List.mem_append_left _ (List.mem_append_right _ h))) (by decide +kernel))) (goodIn_sub (fun _ h => List.mem_cons_of_mem _ (List.mem_append_right _ h)) (by decide +kernel))) (goodIn_sub (fun _ h => List.mem_cons_of_mem _ (List.mem_append_left _ (List.mem_append_left _ (List.mem_append_right _ h)))) (by decide +kernel))
set_option maxRecDepth 20000 in
theorem gL_meanNumber_X8_meanNumber : GoodIn wsL_meanNumber (wsV RL 126 RX8 yX8_meanNumber wsX8_meanNumber) := goodIn_app (goodIn_of _ (by decide +kernel)) ggL_meanNumber_X8_meanNumber
theorem dL_meanNumber_0 : decode cL_meanNumber 0 = .ok (.aload_n 2, 1) := by decide +kernel
theorem dL_meanNumber_1 : decode cL_meanNumber 1 = .ok (.iconst 0, 1) := by decide +kernel
theorem dL_meanNumber_2 : decode cL_meanNumber 2 = .ok (.aload_n 0, 1) := by decide +kernel
theorem dL_meanNumber_3 : decode cL_meanNumber 3 = .ok (.iload_n 1, 1) := by decide +kernel
theorem dL_meanNumber_4 : decode cL_meanNumber 4 = .ok (.invokevirtual 126, 3) := by decide +kernel
theorem dL_meanNumber_7 : decode cL_meanNumber 7 = .ok (.dastore, 1) := by decide +kernel
theorem dL_meanNumber_8 : decode cL_meanNumber 8 = .ok (.goto 9, 3) := by decide +kernel
theorem dL_meanNumber_11 : decode cL_meanNumber 11 = .ok (.astore_n 3, 1) := by decide +kernel
theorem dL_meanNumber_12 : decode cL_meanNumber 12 = .ok (.iconst 1, 1) := by decide +kernel
theorem dL_meanNumber_13 : decode cL_meanNumber 13 = .ok (.ireturn, 1) := by decide +kernel
theorem dL_meanNumber_14 : decode cL_meanNumber 14 = .ok (.astore_n 3, 1) := by decide +kernel
theorem dL_meanNumber_15 : decode cL_meanNumber 15 = .ok (.iconst 2, 1) := by decide +kernel
theorem dL_meanNumber_16 : decode cL_meanNumber 16 = .ok (.ireturn, 1) := by decide +kernel
theorem dL_meanNumber_17 : decode cL_meanNumber 17 = .ok (.iconst 0, 1) := by decide +kernel
theorem dL_meanNumber_18 : decode cL_meanNumber 18 = .ok (.ireturn, 1) := by decide +kernel
set_option maxRecDepth 20000 in
theorem ggL_law_X8_init : GoodIn wsL_law wsX8_init := goodIn_ca (goodIn_r _ [10, 11, 12, 13, 14, 15, 16, 17, 18, 19, 20, 21, 22, 23, 24, 25, 26, 27, 28, 29, 30, 31, 32, 33, 34, 35, 36, 37, 38, 39, 40, 41, 42, 43, 44, 45, 46, 47, 48, 49, 50, 51, 52, 53, 54, 55, 56, 57, 58, 59, 60, 61, 62, 63, 64, 65, 66, 67, 68, 69, 70, 71, 72, 73, 74, 75, 76, 77, 78, 79, 80, 81, 82, 83, 84, 85, 86, 87, 88, 89, 90, 91, 92, 93, 94, 95, 96, 97, 98, 99, 100, 101, 102, 103, 104, 105, 106, 107, 108, 109, 110, 111, 112, 113, 114, 115, 116, 117, 1401, 1402, 1403, 1404, 1405, 1373, 1374, 1375, 1376, 1377, 1378, 1406, 1407, 1408, 1409, 1410, 1411, 1412, 1413, 1414, 1415, 1416, 1417, 1418, 1419, 1420, 1421, 1422, 1423, 1424, 1425, 1426, 1427, 1428, 1429, 1430, 1431, 1432, 1433, 1434, 1435, 1436, 1437] (by decide +kernel) (by decide +kernel)) (goodIn_sub (fun _ h => List.mem_append_left _ (List.mem_append_left _ (List.mem_append_left _ (List.mem_append_left _ (List.mem_append_left _ (List.mem_append_left _ (List.mem_append_right _ h))))))) (by decide +kernel))
set_option maxRecDepth 20000 in
theorem gL_law_X8_init : GoodIn wsL_law (wsX8_init) := ggL_law_X8_init
set_option maxRecDepth 20000 in
theorem ggL_law_X9_init : GoodIn wsL_law wsX9_init := goodIn_ca (goodIn_r _ [120, 121, 12, 13, 48, 122, 123, 124, 125, 126, 127, 128, 129, 130, 131, 132, 133, 134, 108, 135, 136, 137, 138, 139, 140, 1379, 1380, 1381, 1382, 1383, 1384, 1385, 1386, 1387, 1388, 1389, 1390, 1391, 1392, 1393, 1394, 1395, 1396, 1397, 1398, 1399, 1400] (by decide +kernel) (by decide +kernel)) (goodIn_sub (fun _ h => List.mem_append_left _ (List.mem_append_left _ (List.mem_append_left _ (List.mem_append_left _ (List.mem_append_left _ (List.mem_append_left _ (List.mem_append_right _ h))))))) (by decide +kernel))
set_option maxRecDepth 20000 in
theorem gL_law_X9_init : GoodIn wsL_law (wsX9_init) := ggL_law_X9_init
set_option maxRecDepth 20000 in
theorem ggL_law_L_insert : GoodIn wsL_law wsL_insert := goodIn_ca (goodIn_ca (goodIn_ca (goodIn_ca (goodIn_r _ [144, 145, 146, 147, 148, 149, 150, 2, 151, 152, 153, 154, 155, 156, 157, 17, 158, 159, 160, 161, 16, 162, 163, 164, 165, 166, 167, 40, 42, 168, 169, 170, 39, 171, 49, 172, 173, 174, 175, 41, 176, 61, 62, 63, 177, 178, 179, 180, 25, 181, 182, 183, 184, 185, 186, 187, 24, 188, 77, 189, 190, 191, 192, 193, 194, 195, 196, 197, 198, 199, 200, 201, 43, 202, 203, 204, 205, 206, 207, 208, 209, 210, 211, 212, 213, 214, 215, 216, 217, 218, 219, 220, 221, 222, 81, 223, 224, 225, 226, 82, 73, 227, 228, 229, 230, 231, 232, 20, 233, 56, 234, 235, 236, 237, 238, 239, 240, 241, 242, 243, 244, 245, 76, 75, 74, 246, 247, 248, 249, 250, 251, 252, 253, 254, 255, 256, 257, 258, 259, 260, 261, 262, 263, 264, 265, 266, 71, 267, 268, 269, 270, 79, 271, 272, 273, 274, 78, 275, 276, 277, 278, 57, 279, 280, 281, 282, 283, 284, 70, 285, 286, 88, 87, 287, 288, 289, 290, 291, 1373, 1374, 1375, 1376, 1377, 1378, 1401, 1402, 1403, 1404, 1405, 1432, 1410, 1411, 1412, 1413, 1414, 1415, 1416, 1417, 1418, 1419, 1420, 1421, 1422, 1406, 1407, 1408, 1409, 1433, 1434, 1435] (by decide +kernel) (by decide +kernel)) (goodIn_sub (fun _ h => List.mem_append_left _ (List.mem_append_left _ (List.mem_append_left _ (List.mem_append_left _ (List.mem_append_left _ (List.mem_append_left _ (List.mem_append_right _ h))))))) (by decide +kernel))) (goodIn_sub (fun _ h => List.mem_append_left _ (List.mem_append_left _ (List.mem_append_left _ (List.mem_append_left _ (List.mem_append_left _ (List.mem_append_right _ h)))))) (by decide +kernel))) (goodIn_sub (fun _ h => List.mem_append_left _ (List.mem_append_left _ (List.mem_append_left _ (List.mem_append_left _ (List.mem_append_right _ h))))) (by decide +kernel))) (goodIn_sub (fun _ h => List.mem_append_left _ (List.mem_append_left _ (List.mem_append_left _ (List.mem_append_right _ h)))) (by decide +kernel))
set_option maxRecDepth 20000 in
theorem gL_law_L_insert : GoodIn wsL_law (va_wsS RL 134 yL_insert wsL_insert) := goodIn_app (goodIn_of _ (by decide +kernel)) ggL_law_L_insert
set_option maxRecDepth 20000 in
theorem ggL_law_X9_insert : GoodIn wsL_law wsX9_insert := goodIn_ca (goodIn_r _ [295, 296, 297, 298, 122, 299, 300, 5, 301, 302, 303, 304, 305, 306, 307, 308, 309, 129, 310, 311, 312, 313, 131, 125, 314, 315, 316, 317, 318, 319, 320, 321, 322, 323, 324, 325, 128, 326, 327, 328, 329, 126, 123, 124, 330, 264, 265, 266, 127, 331, 332, 333, 334, 335, 336, 337, 338, 339, 340, 341, 342, 132, 343, 344, 345, 346, 347, 348, 349, 350, 351, 136, 137, 138, 134, 1379, 1380, 1381, 1382, 1383, 1384, 1385, 1386, 1387, 1388, 1389, 1390, 1391, 1392, 1393, 1394, 1395, 1396, 1397, 1398, 1399, 1400] (by decide +kernel) (by decide +kernel)) (goodIn_sub (fun _ h => List.mem_append_left _ (List.mem_append_left _ (List.mem_append_left _ (List.mem_append_left _ (List.mem_append_left _ (List.mem_append_left _ (List.mem_append_right _ h))))))) (by decide +kernel))
set_option maxRecDepth 20000 in
theorem gL_law_X9_insert : GoodIn wsL_law (wsV RL 139 RX9 yX9_insert wsX9_insert) := goodIn_app (goodIn_of _ (by decide +kernel)) ggL_law_X9_insert
set_option maxRecDepth 20000 in
theorem ggL_law_X9_thrown : GoodIn wsL_law wsX9_thrown := goodIn_r _ [355, 296, 1379, 1380, 1381, 1382, 1383, 1384, 1385, 1386, 1387, 1388, 1389, 1390, 1391, 1392, 1393, 1394, 1395, 1396, 1397, 1398, 1399, 1400] (by decide +kernel) (by decide +kernel)
set_option maxRecDepth 20000 in
theorem gL_law_X9_thrown : GoodIn wsL_law (wsV RL 140 RX9 yX9_thrown wsX9_thrown) := goodIn_app (goodIn_of _ (by decide +kernel)) ggL_law_X9_thrown
set_option maxRecDepth 20000 in
theorem ggL_law_L_move : GoodIn wsL_law wsL_move := goodIn_ca (goodIn_ca (goodIn_ca (goodIn_ca (goodIn_r _ [358, 359, 145, 147, 360, 361, 362, 2, 363, 152, 153, 156, 157, 17, 25, 364, 365, 366, 367, 368, 369, 370, 371, 372, 16, 373, 41, 168, 169, 170, 39, 171, 49, 159, 160, 161, 162, 163, 185, 186, 187, 24, 188, 77, 189, 374, 207, 208, 209, 375, 376, 377, 378, 379, 203, 204, 205, 40, 206, 172, 173, 174, 175, 176, 61, 62, 63, 194, 195, 196, 197, 42, 380, 165, 166, 167, 177, 178, 179, 180, 181, 182, 183, 184, 190, 191, 192, 193, 198, 199, 200, 201, 43, 210, 211, 212, 213, 214, 215, 216, 217, 218, 219, 220, 221, 222, 81, 223, 224, 225, 226, 82, 73, 227, 228, 229, 230, 231, 232, 20, 233, 56, 234, 235, 236, 237, 238, 239, 240, 241, 242, 243, 244, 245, 76, 75, 74, 246, 247, 248, 249, 250, 251, 252, 253, 254, 255, 256, 257, 258, 259, 260, 261, 262, 263, 264, 265, 266, 71, 267, 268, 269, 270, 79, 271, 272, 273, 274, 78, 275, 276, 277, 278, 57, 279, 280, 281, 282, 283, 284, 70, 285, 286, 88, 87, 287, 288, 289, 290, 291, 1373, 1374, 1375, 1376, 1377, 1378, 1401, 1402, 1403, 1404, 1405, 1432, 1410, 1411, 1412, 1413, 1414, 1415, 1416, 1417, 1418, 1419, 1420, 1421, 1422, 1406, 1407, 1408, 1409, 1433, 1434, 1435] (by decide +kernel) (by decide +kernel)) (goodIn_sub (fun _ h => List.mem_append_left _ (List.mem_append_left _ (List.mem_append_left _ (List.mem_append_left _ (List.mem_append_left _ (List.mem_append_left _ (List.mem_append_right _ h))))))) (by decide +kernel))) (goodIn_sub (fun _ h => List.mem_append_left _ (List.mem_append_left _ (List.mem_append_left _ (List.mem_append_left _ (List.mem_append_left _ (List.mem_append_right _ h)))))) (by decide +kernel))) (goodIn_sub (fun _ h => List.mem_append_left _ (List.mem_append_left _ (List.mem_append_left _ (List.mem_append_right _ h)))) (by decide +kernel))) (goodIn_sub (fun _ h => List.mem_append_left _ (List.mem_append_left _ (List.mem_append_right _ h))) (by decide +kernel))
set_option maxRecDepth 20000 in
theorem gL_law_L_move : GoodIn wsL_law (va_wsS RL 143 yL_move wsL_move) := goodIn_app (goodIn_of _ (by decide +kernel)) ggL_law_L_move
set_option maxRecDepth 20000 in
theorem ggL_law_X9_move : GoodIn wsL_law wsX9_move := goodIn_ca (goodIn_r _ [384, 297, 131, 128, 385, 386, 387, 5, 388, 296, 389, 390, 391, 392, 298, 299, 300, 301, 302, 303, 304, 305, 318, 319, 320, 321, 129, 306, 307, 308, 309, 310, 311, 312, 313, 125, 314, 315, 316, 317, 122, 322, 323, 324, 325, 326, 327, 328, 329, 126, 123, 124, 330, 264, 265, 266, 127, 331, 332, 333, 334, 335, 336, 337, 338, 339, 340, 341, 342, 132, 343, 344, 345, 346, 347, 348, 349, 350, 351, 136, 137, 138, 134, 1379, 1380, 1381, 1382, 1383, 1384, 1385, 1386, 1387, 1388, 1389, 1390, 1391, 1392, 1393, 1394, 1395, 1396, 1397, 1398, 1399, 1400] (by decide +kernel) (by decide +kernel)) (goodIn_sub (fun _ h => List.mem_append_left _ (List.mem_append_left _ (List.mem_append_left _ (List.mem_append_left _ (List.mem_append_left _ (List.mem_append_left _ (List.mem_append_right _ h))))))) (by decide +kernel))
set_option maxRecDepth 20000 in
theorem gL_law_X9_move : GoodIn wsL_law (wsV RL 145 RX9 yX9_move wsX9_move) := goodIn_app (goodIn_of _ (by decide +kernel)) ggL_law_X9_move
set_option maxRecDepth 20000 in
theorem ggL_law_L_setLevel : GoodIn wsL_law wsL_setLevel := goodIn_ca (goodIn_ca (goodIn_ca (goodIn_ca (goodIn_r _ [395, 359, 145, 147, 396, 397, 398, 2, 399, 152, 153, 156, 157, 25, 17, 364, 365, 366, 367, 368, 369, 370, 371, 372, 16, 373, 41, 168, 169, 170, 39, 171, 49, 185, 186, 187, 24, 188, 77, 189, 400, 195, 196, 197, 42, 401, 402, 403, 404, 176, 61, 62, 63, 177, 178, 179, 180, 159, 160, 161, 162, 163, 181, 182, 183, 184, 40, 190, 191, 192, 193, 194, 198, 199, 200, 201, 43, 210, 211, 212, 213, 214, 215, 216, 217, 218, 219, 220, 221, 222, 81, 223, 224, 225, 226, 82, 73, 227, 228, 229, 230, 231, 232, 20, 233, 56, 234, 235, 236, 237, 238, 239, 240, 241, 242, 243, 244, 245, 76, 75, 74, 246, 247, 248, 249, 250, 207, 208, 209, 251, 252, 253, 254, 255, 256, 257, 258, 259, 260, 261, 262, 263, 264, 265, 266, 71, 267, 268, 269, 270, 79, 271, 272, 273, 274, 78, 275, 276, 277, 278, 57, 279, 280, 281, 282, 283, 284, 70, 285, 286, 88, 87, 287, 288, 289, 290, 291, 1373, 1374, 1375, 1376, 1377, 1378, 1401, 1402, 1403, 1404, 1405, 1432, 1410, 1411, 1412, 1413, 1414, 1415, 1416, 1417, 1418, 1419, 1420, 1421, 1422, 1406, 1407, 1408, 1409, 1433, 1434, 1435] (by decide +kernel) (by decide +kernel)) (goodIn_sub (fun _ h => List.mem_append_left _ (List.mem_append_left _ (List.mem_append_left _ (List.mem_append_left _ (List.mem_append_left _ (List.mem_append_left _ (List.mem_append_right _ h))))))) (by decide +kernel))) (goodIn_sub (fun _ h => List.mem_append_left _ (List.mem_append_left _ (List.mem_append_left _ (List.mem_append_left _ (List.mem_append_left _ (List.mem_append_right _ h)))))) (by decide +kernel))) (goodIn_sub (fun _ h => List.mem_append_left _ (List.mem_append_left _ (List.mem_append_left _ (List.mem_append_right _ h)))) (by decide +kernel))) (goodIn_sub (fun _ h => List.mem_append_left _ (List.mem_append_left _ (List.mem_append_right _ h))) (by decide +kernel))
set_option maxRecDepth 20000 in
theorem gL_law_L_setLevel : GoodIn wsL_law (va_wsS RL 146 yL_setLevel wsL_setLevel) := goodIn_app (goodIn_of _ (by decide +kernel)) ggL_law_L_setLevel
set_option maxRecDepth 20000 in
theorem ggL_law_X9_setLevel : GoodIn wsL_law wsX9_setLevel := goodIn_ca (goodIn_r _ [408, 131, 122, 385, 386, 387, 5, 388, 296, 389, 390, 391, 392, 298, 128, 299, 300, 301, 302, 303, 304, 305, 310, 311, 312, 313, 297, 129, 125, 314, 315, 316, 317, 322, 323, 324, 325, 326, 327, 328, 329, 126, 123, 124, 330, 264, 265, 266, 127, 331, 332, 333, 334, 335, 336, 337, 338, 339, 340, 341, 342, 132, 343, 344, 345, 346, 347, 348, 349, 350, 351, 136, 137, 138, 134, 1379, 1380, 1381, 1382, 1383, 1384, 1385, 1386, 1387, 1388, 1389, 1390, 1391, 1392, 1393, 1394, 1395, 1396, 1397, 1398, 1399, 1400] (by decide +kernel) (by decide +kernel)) (goodIn_sub (fun _ h => List.mem_append_left _ (List.mem_append_left _ (List.mem_append_left _ (List.mem_append_left _ (List.mem_append_left _ (List.mem_append_left _ (List.mem_append_right _ h))))))) (by decide +kernel))
set_option maxRecDepth 20000 in
theorem gL_law_X9_setLevel : GoodIn wsL_law (wsV RL 148 RX9 yX9_setLevel wsX9_setLevel) := goodIn_app (goodIn_of _ (by decide +kernel)) ggL_law_X9_setLevel
set_option maxRecDepth 20000 in
theorem ggL_law_L_remove : GoodIn wsL_law wsL_remove := goodIn_ca (goodIn_ca (goodIn_ca (goodIn_r _ [411, 359, 147, 412, 413, 414, 2, 415, 156, 157, 17, 364, 365, 366, 367, 368, 369, 370, 371, 372, 16, 373, 41, 168, 169, 170, 39, 171, 49, 374, 207, 208, 209, 202, 203, 204, 205, 163, 40, 206, 172, 173, 174, 175, 176, 61, 62, 63, 177, 178, 179, 180, 25, 159, 160, 161, 162, 181, 182, 183, 184, 185, 186, 187, 24, 188, 77, 189, 190, 191, 192, 193, 194, 195, 196, 197, 42, 198, 199, 200, 201, 43, 400, 164, 165, 166, 167, 210, 211, 212, 213, 214, 215, 216, 217, 218, 219, 220, 221, 222, 81, 223, 224, 225, 226, 82, 73, 227, 228, 229, 230, 231, 232, 20, 233, 56, 234, 235, 236, 237, 238, 239, 240, 241, 242, 243, 244, 245, 76, 75, 74, 246, 247, 248, 249, 250, 251, 252, 253, 254, 255, 256, 257, 258, 259, 260, 261, 262, 263, 264, 265, 266, 71, 267, 268, 269, 270, 79, 271, 272, 273, 274, 78, 275, 276, 277, 278, 57, 279, 280, 281, 282, 283, 284, 70, 285, 286, 88, 87, 287, 288, 289, 290, 291, 1373, 1374, 1375, 1376, 1377, 1378, 1401, 1402, 1403, 1404, 1405, 1432, 1410, 1411, 1412, 1413, 1414, 1415, 1416, 1417, 1418, 1419, 1420, 1421, 1422, 1406, 1407, 1408, 1409, 1433, 1434, 1435] (by decide +kernel) (by decide +kernel)) (goodIn_sub (fun _ h => List.mem_append_left _ (List.mem_append_left _ (List.mem_append_left _ (List.mem_append_left _ (List.mem_append_left _ (List.mem_append_left _ (List.mem_append_right _ h))))))) (by decide +kernel))) (goodIn_sub (fun _ h => List.mem_append_left _ (List.mem_append_left _ (List.mem_append_left _ (List.mem_append_right _ h)))) (by decide +kernel))) (goodIn_sub (fun _ h => List.mem_append_left _ (List.mem_append_left _ (List.mem_append_right _ h))) (by decide +kernel))
set_option maxRecDepth 20000 in
theorem gL_law_L_remove : GoodIn wsL_law (va_wsS RL 149 yL_remove wsL_remove) := goodIn_app (goodIn_of _ (by decide +kernel)) ggL_law_L_remove
set_option maxRecDepth 20000 in
theorem ggL_law_X9_remove : GoodIn wsL_law wsX9_remove := goodIn_ca (goodIn_r _ [419, 128, 297, 385, 386, 387, 5, 388, 296, 389, 390, 391, 392, 298, 299, 300, 301, 318, 319, 320, 321, 129, 310, 311, 312, 313, 131, 125, 314, 315, 316, 317, 122, 306, 307, 308, 309, 302, 303, 304, 305, 322, 323, 324, 325, 326, 327, 328, 329, 126, 123, 124, 330, 264, 265, 266, 127, 331, 332, 333, 334, 335, 336, 337, 338, 339, 340, 341, 342, 132, 343, 344, 345, 346, 347, 348, 349, 350, 351, 136, 137, 138, 134, 1379, 1380, 1381, 1382, 1383, 1384, 1385, 1386, 1387, 1388, 1389, 1390, 1391, 1392, 1393, 1394, 1395, 1396, 1397, 1398, 1399, 1400] (by decide +kernel) (by decide +kernel)) (goodIn_sub (fun _ h => List.mem_append_left _ (List.mem_append_left _ (List.mem_append_left _ (List.mem_append_left _ (List.mem_append_left _ (List.mem_append_left _ (List.mem_append_right _ h))))))) (by decide +kernel))
set_option maxRecDepth 20000 in
theorem gL_law_X9_remove : GoodIn wsL_law (wsV RL 152 RX9 yX9_remove wsX9_remove) := goodIn_app (goodIn_of _ (by decide +kernel)) ggL_law_X9_remove
set_option maxRecDepth 20000 in
theorem ggL_law_L_startAt : GoodIn wsL_law wsL_startAt := goodIn_ca (goodIn_ca (goodIn_ca (goodIn_r _ [422, 359, 145, 423, 424, 425, 2, 426, 152, 153, 25, 364, 365, 366, 367, 368, 369, 17, 370, 371, 372, 16, 373, 41, 168, 169, 170, 39, 171, 49, 427, 272, 273, 24, 274, 78, 189, 428, 429, 430, 431, 236, 61, 62, 63, 219, 220, 221, 222, 81, 223, 224, 225, 226, 82, 73, 227, 160, 161, 162, 163, 228, 182, 183, 184, 40, 229, 195, 196, 197, 42, 230, 231, 232, 20, 233, 56, 234, 235, 199, 200, 201, 43, 237, 238, 239, 240, 241, 186, 187, 188, 77, 242, 243, 244, 245, 76, 75, 74, 246, 247, 248, 249, 250, 207, 208, 209, 251, 252, 253, 254, 255, 256, 257, 258, 259, 260, 261, 262, 263, 264, 265, 266, 71, 267, 268, 269, 270, 79, 271, 275, 276, 277, 278, 57, 279, 280, 281, 282, 283, 284, 70, 285, 286, 88, 87, 287, 288, 289, 290, 291, 1373, 1374, 1375, 1376, 1377, 1378, 1401, 1402, 1403, 1404, 1405, 1432, 1410, 1411, 1412, 1413, 1414, 1415, 1416, 1417, 1418, 1419, 1420, 1421, 1422, 1406, 1407, 1408, 1409, 1433, 1434, 1435] (by decide +kernel) (by decide +kernel)) (goodIn_sub (fun _ h => List.mem_append_left _ (List.mem_append_left _ (List.mem_append_left _ (List.mem_append_left _ (List.mem_append_left _ (List.mem_append_left _ (List.mem_append_right _ h))))))) (by decide +kernel))) (goodIn_sub (fun _ h => List.mem_append_left _ (List.mem_append_left _ (List.mem_append_left _ (List.mem_append_left _ (List.mem_append_left _ (List.mem_append_right _ h)))))) (by decide +kernel))) (goodIn_sub (fun _ h => List.mem_append_left _ (List.mem_append_left _ (List.mem_append_right _ h))) (by decide +kernel))
set_option maxRecDepth 20000 in
theorem gL_law_L_startAt : GoodIn wsL_law (va_wsS RL 153 yL_startAt wsL_startAt) := goodIn_app (goodIn_of _ (by decide +kernel)) ggL_law_L_startAt
set_option maxRecDepth 20000 in
theorem ggL_law_X9_startAt : GoodIn wsL_law wsX9_startAt := goodIn_ca (goodIn_r _ [435, 123, 385, 386, 387, 5, 388, 296, 389, 390, 391, 392, 298, 128, 299, 300, 301, 302, 303, 304, 305, 322, 323, 324, 325, 297, 129, 125, 122, 131, 314, 315, 316, 317, 326, 327, 328, 329, 126, 124, 330, 264, 265, 266, 127, 331, 332, 333, 334, 335, 336, 337, 338, 339, 340, 341, 342, 132, 343, 344, 345, 346, 347, 348, 349, 350, 351, 136, 137, 138, 134, 1379, 1380, 1381, 1382, 1383, 1384, 1385, 1386, 1387, 1388, 1389, 1390, 1391, 1392, 1393, 1394, 1395, 1396, 1397, 1398, 1399, 1400] (by decide +kernel) (by decide +kernel)) (goodIn_sub (fun _ h => List.mem_append_left _ (List.mem_append_left _ (List.mem_append_left _ (List.mem_append_left _ (List.mem_append_left _ (List.mem_append_left _ (List.mem_append_right _ h))))))) (by decide +kernel))
set_option maxRecDepth 20000 in
theorem gL_law_X9_startAt : GoodIn wsL_law (wsV RL 155 RX9 yX9_startAt wsX9_startAt) := goodIn_app (goodIn_of _ (by decide +kernel)) ggL_law_X9_startAt
set_option maxRecDepth 20000 in
theorem ggL_law_L_reserve : GoodIn wsL_law wsL_reserve := goodIn_ca (goodIn_ca (goodIn_ca (goodIn_r _ [438, 359, 145, 439, 440, 441, 2, 442, 152, 153, 25, 364, 365, 366, 367, 368, 369, 17, 370, 371, 372, 16, 373, 41, 168, 169, 170, 39, 171, 49, 443, 268, 269, 24, 270, 79, 189, 444, 445, 446, 447, 236, 61, 62, 63, 219, 220, 221, 222, 81, 223, 224, 225, 226, 82, 73, 227, 160, 161, 162, 163, 228, 182, 183, 184, 40, 229, 195, 196, 197, 42, 230, 231, 232, 20, 233, 56, 234, 235, 199, 200, 201, 43, 237, 238, 239, 240, 241, 186, 187, 188, 77, 242, 243, 244, 245, 76, 75, 74, 246, 247, 248, 249, 250, 207, 208, 209, 251, 252, 253, 254, 255, 256, 257, 258, 259, 260, 261, 262, 263, 264, 265, 266, 71, 267, 271, 272, 273, 274, 78, 275, 276, 277, 278, 57, 279, 280, 281, 282, 283, 284, 70, 285, 286, 88, 87, 287, 288, 289, 290, 291, 1373, 1374, 1375, 1376, 1377, 1378, 1401, 1402, 1403, 1404, 1405, 1432, 1410, 1411, 1412, 1413, 1414, 1415, 1416, 1417, 1418, 1419, 1420, 1421, 1422, 1406, 1407, 1408, 1409, 1433, 1434, 1435] (by decide +kernel) (by decide +kernel)) (goodIn_sub (fun _ h => List.mem_append_left _ (List.mem_append_left _ (List.mem_append_left _ (List.mem_append_left _ (List.mem_append_left _ (List.mem_append_left _ (List.mem_append_right _ h))))))) (by decide +kernel))) (goodIn_sub (fun _ h => List.mem_append_left _ (List.mem_append_left _ (List.mem_append_left _ (List.mem_append_left _ (List.mem_append_left _ (List.mem_append_right _ h)))))) (by decide +kernel))) (goodIn_sub (fun _ h => List.mem_append_left _ (List.mem_append_left _ (List.mem_append_right _ h))) (by decide +kernel))
set_option maxRecDepth 20000 in
theorem gL_law_L_reserve : GoodIn wsL_law (va_wsS RL 156 yL_reserve wsL_reserve) := goodIn_app (goodIn_of _ (by decide +kernel)) ggL_law_L_reserve
set_option maxRecDepth 20000 in
theorem ggL_law_X9_reserve : GoodIn wsL_law wsX9_reserve := goodIn_ca (goodIn_r _ [451, 124, 385, 386, 387, 5, 388, 296, 389, 390, 391, 392, 298, 128, 299, 300, 301, 302, 303, 304, 305, 322, 323, 324, 325, 297, 129, 125, 122, 131, 314, 315, 316, 317, 326, 327, 328, 329, 126, 123, 330, 264, 265, 266, 127, 331, 332, 333, 334, 335, 336, 337, 338, 339, 340, 341, 342, 132, 343, 344, 345, 346, 347, 348, 349, 350, 351, 136, 137, 138, 134, 1379, 1380, 1381, 1382, 1383, 1384, 1385, 1386, 1387, 1388, 1389, 1390, 1391, 1392, 1393, 1394, 1395, 1396, 1397, 1398, 1399, 1400] (by decide +kernel) (by decide +kernel)) (goodIn_sub (fun _ h => List.mem_append_left _ (List.mem_append_left _ (List.mem_append_left _ (List.mem_append_left _ (List.mem_append_left _ (List.mem_append_left _ (List.mem_append_right _ h))))))) (by decide +kernel))
set_option maxRecDepth 20000 in
theorem gL_law_X9_reserve : GoodIn wsL_law (wsV RL 158 RX9 yX9_reserve wsX9_reserve) := goodIn_app (goodIn_of _ (by decide +kernel)) ggL_law_X9_reserve
set_option maxRecDepth 20000 in
theorem ggL_law_L_skip : GoodIn wsL_law wsL_skip := goodIn_ca (goodIn_ca (goodIn_ca (goodIn_r _ [454, 145, 146, 455, 456, 457, 2, 458, 154, 155, 21, 25, 459, 460, 461, 462, 152, 153, 463, 464, 465, 466, 467, 276, 277, 20, 278, 57, 279, 280, 281, 234, 169, 170, 39, 171, 49, 468, 469, 470, 471, 58, 60, 61, 62, 63, 219, 220, 221, 24, 222, 81, 223, 224, 225, 226, 82, 73, 227, 160, 161, 16, 162, 163, 228, 182, 183, 184, 40, 168, 229, 195, 196, 197, 42, 230, 231, 232, 233, 56, 235, 199, 200, 201, 43, 236, 237, 238, 239, 240, 241, 186, 187, 188, 77, 189, 242, 243, 244, 245, 76, 75, 74, 246, 247, 248, 249, 250, 207, 208, 209, 41, 251, 252, 253, 254, 255, 256, 257, 258, 259, 260, 261, 262, 263, 264, 265, 266, 71, 267, 268, 269, 270, 79, 271, 272, 273, 274, 78, 275, 282, 283, 284, 70, 285, 286, 88, 87, 287, 288, 289, 290, 291, 472, 473, 474, 475, 1373, 1374, 1375, 1376, 1377, 1378, 1406, 1407, 1408, 1409, 1432, 1410, 1411, 1412, 1413, 1414, 1415, 1416, 1417, 1418, 1419, 1420, 1421, 1422, 1401, 1402, 1403, 1404, 1405, 1433, 1434, 1435] (by decide +kernel) (by decide +kernel)) (goodIn_sub (fun _ h => List.mem_append_left _ (List.mem_append_left _ (List.mem_append_left _ (List.mem_append_left _ (List.mem_append_left _ (List.mem_append_left _ (List.mem_append_right _ h))))))) (by decide +kernel))) (goodIn_sub (fun _ h => List.mem_append_left _ (List.mem_append_left _ (List.mem_append_left _ (List.mem_append_left _ (List.mem_append_right _ h))))) (by decide +kernel))) (goodIn_sub (fun _ h => List.mem_append_left _ (List.mem_append_left _ (List.mem_append_left _ (List.mem_append_left _ (List.mem_append_left _ (List.mem_append_right _ h)))))) (by decide +kernel))
set_option maxRecDepth 20000 in
theorem gL_law_L_skip : GoodIn wsL_law (va_wsS RL 159 yL_skip wsL_skip) := goodIn_app (goodIn_of _ (by decide +kernel)) ggL_law_L_skip
set_option maxRecDepth 20000 in
theorem ggL_law_X9_skip : GoodIn wsL_law wsX9_skip := goodIn_ca (goodIn_r _ [479, 480, 481, 482, 5, 483, 296, 134, 484, 485, 486, 299, 300, 301, 302, 303, 304, 305, 322, 323, 324, 325, 297, 128, 129, 125, 122, 131, 314, 315, 316, 317, 326, 327, 328, 329, 126, 123, 124, 330, 264, 265, 266, 127, 331, 332, 333, 334, 335, 336, 337, 338, 339, 340, 341, 342, 132, 343, 344, 345, 346, 347, 348, 349, 350, 351, 136, 137, 138, 1379, 1380, 1381, 1382, 1383, 1384, 1385, 1386, 1387, 1388, 1389, 1390, 1391, 1392, 1393, 1394, 1395, 1396, 1397, 1398, 1399, 1400] (by decide +kernel) (by decide +kernel)) (goodIn_sub (fun _ h => List.mem_append_left _ (List.mem_append_left _ (List.mem_append_left _ (List.mem_append_left _ (List.mem_append_left _ (List.mem_append_left _ (List.mem_append_right _ h))))))) (by decide +kernel))
set_option maxRecDepth 20000 in
theorem gL_law_X9_skip : GoodIn wsL_law (wsV RL 161 RX9 yX9_skip wsX9_skip) := goodIn_app (goodIn_of _ (by decide +kernel)) ggL_law_X9_skip
set_option maxRecDepth 20000 in
theorem ggL_law_L_unskip : GoodIn wsL_law wsL_unskip := goodIn_ca (goodIn_ca (goodIn_ca (goodIn_r _ [489, 145, 146, 490, 491, 492, 2, 493, 154, 155, 21, 25, 459, 460, 461, 462, 152, 153, 463, 464, 465, 466, 467, 276, 277, 20, 278, 57, 279, 280, 281, 234, 169, 170, 39, 171, 49, 468, 469, 470, 471, 58, 60, 61, 62, 63, 219, 220, 221, 24, 222, 81, 223, 224, 225, 226, 82, 73, 227, 160, 161, 16, 162, 163, 228, 182, 183, 184, 40, 168, 229, 195, 196, 197, 42, 230, 231, 232, 233, 56, 235, 199, 200, 201, 43, 236, 237, 238, 239, 240, 241, 186, 187, 188, 77, 189, 242, 243, 244, 245, 76, 75, 74, 246, 247, 248, 249, 250, 207, 208, 209, 41, 251, 252, 253, 254, 255, 256, 257, 258, 259, 260, 261, 262, 263, 264, 265, 266, 71, 267, 268, 269, 270, 79, 271, 272, 273, 274, 78, 275, 282, 283, 284, 70, 285, 286, 88, 87, 287, 288, 289, 290, 291, 472, 473, 474, 475, 1373, 1374, 1375, 1376, 1377, 1378, 1406, 1407, 1408, 1409, 1432, 1410, 1411, 1412, 1413, 1414, 1415, 1416, 1417, 1418, 1419, 1420, 1421, 1422, 1401, 1402, 1403, 1404, 1405, 1433, 1434, 1435] (by decide +kernel) (by decide +kernel)) (goodIn_sub (fun _ h => List.mem_append_left _ (List.mem_append_left _ (List.mem_append_left _ (List.mem_append_left _ (List.mem_append_left _ (List.mem_append_left _ (List.mem_append_right _ h))))))) (by decide +kernel))) (goodIn_sub (fun _ h => List.mem_append_left _ (List.mem_append_left _ (List.mem_append_left _ (List.mem_append_left _ (List.mem_append_right _ h))))) (by decide +kernel))) (goodIn_sub (fun _ h => List.mem_append_left _ (List.mem_append_left _ (List.mem_append_left _ (List.mem_append_left _ (List.mem_append_left _ (List.mem_append_right _ h)))))) (by decide +kernel))
set_option maxRecDepth 20000 in
theorem gL_law_L_unskip : GoodIn wsL_law (va_wsS RL 162 yL_unskip wsL_unskip) := goodIn_app (goodIn_of _ (by decide +kernel)) ggL_law_L_unskip
set_option maxRecDepth 20000 in
theorem ggL_law_X9_unskip : GoodIn wsL_law wsX9_unskip := goodIn_ca (goodIn_r _ [497, 480, 481, 482, 5, 483, 296, 134, 484, 485, 486, 299, 300, 301, 302, 303, 304, 305, 322, 323, 324, 325, 297, 128, 129, 125, 122, 131, 314, 315, 316, 317, 326, 327, 328, 329, 126, 123, 124, 330, 264, 265, 266, 127, 331, 332, 333, 334, 335, 336, 337, 338, 339, 340, 341, 342, 132, 343, 344, 345, 346, 347, 348, 349, 350, 351, 136, 137, 138, 1379, 1380, 1381, 1382, 1383, 1384, 1385, 1386, 1387, 1388, 1389, 1390, 1391, 1392, 1393, 1394, 1395, 1396, 1397, 1398, 1399, 1400] (by decide +kernel) (by decide +kernel)) (goodIn_sub (fun _ h => List.mem_append_left _ (List.mem_append_left _ (List.mem_append_left _ (List.mem_append_left _ (List.mem_append_left _ (List.mem_append_left _ (List.mem_append_right _ h))))))) (by decide +kernel))
set_option maxRecDepth 20000 in
theorem gL_law_X9_unskip : GoodIn wsL_law (wsV RL 164 RX9 yX9_unskip wsX9_unskip) := goodIn_app (goodIn_of _ (by decide +kernel)) ggL_law_X9_unskip
set_option maxRecDepth 20000 in
theorem ggL_law_L_setFormat : GoodIn wsL_law wsL_setFormat := goodIn_ca (goodIn_ca (goodIn_r _ [500, 145, 501, 502, 503, 2, 504, 152, 153, 21, 463, 464, 465, 466, 505, 506, 507, 20, 508, 55, 234, 169, 170, 39, 171, 49, 509, 510, 511, 512, 60, 61, 62, 63, 1373, 1374, 1375, 1376, 1377, 1378, 1406, 1407, 1408, 1409, 1432] (by decide +kernel) (by decide +kernel)) (goodIn_sub (fun _ h => List.mem_append_left _ (List.mem_append_left _ (List.mem_append_left _ (List.mem_append_left _ (List.mem_append_left _ (List.mem_append_left _ (List.mem_append_right _ h))))))) (by decide +kernel))) (goodIn_sub (fun _ h => List.mem_append_left _ (List.mem_append_left _ (List.mem_append_left _ (List.mem_append_left _ (List.mem_append_left _ (List.mem_append_right _ h)))))) (by decide +kernel))
set_option maxRecDepth 20000 in
theorem gL_law_L_setFormat : GoodIn wsL_law (va_wsS RL 165 yL_setFormat wsL_setFormat) := goodIn_app (goodIn_of _ (by decide +kernel)) ggL_law_L_setFormat
set_option maxRecDepth 20000 in
theorem ggL_law_X9_setFormat : GoodIn wsL_law wsX9_setFormat := goodIn_ca (goodIn_r _ [516, 296, 135, 484, 485, 5, 486, 299, 300, 301, 302, 303, 304, 305, 1379, 1380, 1381, 1382, 1383, 1384, 1385, 1386, 1387, 1388, 1389, 1390, 1391, 1392, 1393, 1394, 1395, 1396, 1397, 1398, 1399, 1400] (by decide +kernel) (by decide +kernel)) (goodIn_sub (fun _ h => List.mem_append_left _ (List.mem_append_left _ (List.mem_append_left _ (List.mem_append_left _ (List.mem_append_left _ (List.mem_append_left _ (List.mem_append_right _ h))))))) (by decide +kernel))
set_option maxRecDepth 20000 in
theorem gL_law_X9_setFormat : GoodIn wsL_law (wsV RL 168 RX9 yX9_setFormat wsX9_setFormat) := goodIn_app (goodIn_of _ (by decide +kernel)) ggL_law_X9_setFormat
set_option maxRecDepth 20000 in
theorem ggL_law_L_setGoingOn : GoodIn wsL_law wsL_setGoingOn := goodIn_ca (goodIn_ca (goodIn_ca (goodIn_r _ [519, 145, 147, 520, 521, 522, 2, 523, 156, 157, 21, 25, 463, 464, 465, 466, 152, 153, 524, 525, 526, 527, 17, 159, 160, 161, 16, 162, 163, 181, 182, 183, 184, 40, 168, 169, 170, 39, 171, 49, 400, 195, 196, 197, 42, 185, 186, 187, 24, 188, 77, 189, 528, 231, 232, 20, 233, 56, 234, 529, 530, 531, 532, 60, 61, 62, 63, 219, 220, 221, 222, 81, 223, 224, 225, 226, 82, 73, 227, 228, 229, 230, 235, 199, 200, 201, 43, 236, 237, 238, 239, 240, 241, 242, 243, 244, 245, 76, 75, 74, 246, 247, 248, 249, 250, 207, 208, 209, 41, 251, 252, 253, 254, 255, 256, 257, 258, 259, 260, 261, 262, 263, 264, 265, 266, 71, 267, 268, 269, 270, 79, 271, 272, 273, 274, 78, 275, 276, 277, 278, 57, 279, 280, 281, 282, 283, 284, 70, 285, 286, 88, 87, 287, 288, 289, 290, 291, 1373, 1374, 1375, 1376, 1377, 1378, 1401, 1402, 1403, 1404, 1405, 1432, 1410, 1411, 1412, 1413, 1414, 1415, 1416, 1417, 1418, 1419, 1420, 1421, 1422, 1406, 1407, 1408, 1409, 1433, 1434, 1435] (by decide +kernel) (by decide +kernel)) (goodIn_sub (fun _ h => List.mem_append_left _ (List.mem_append_left _ (List.mem_append_left _ (List.mem_append_left _ (List.mem_append_left _ (List.mem_append_left _ (List.mem_append_right _ h))))))) (by decide +kernel))) (goodIn_sub (fun _ h => List.mem_append_left _ (List.mem_append_left _ (List.mem_append_left _ (List.mem_append_right _ h)))) (by decide +kernel))) (goodIn_sub (fun _ h => List.mem_append_left _ (List.mem_append_left _ (List.mem_append_left _ (List.mem_append_left _ (List.mem_append_left _ (List.mem_append_right _ h)))))) (by decide +kernel))
set_option maxRecDepth 20000 in
theorem gL_law_L_setGoingOn : GoodIn wsL_law (va_wsS RL 169 yL_setGoingOn wsL_setGoingOn) := goodIn_app (goodIn_of _ (by decide +kernel)) ggL_law_L_setGoingOn
set_option maxRecDepth 20000 in
theorem ggL_law_X9_setGoingOn : GoodIn wsL_law wsX9_setGoingOn := goodIn_ca (goodIn_r _ [536, 296, 297, 131, 129, 122, 132, 484, 485, 5, 486, 299, 300, 301, 537, 538, 539, 540, 322, 323, 324, 325, 128, 125, 314, 315, 316, 317, 326, 327, 328, 329, 126, 123, 124, 330, 264, 265, 266, 127, 331, 332, 333, 334, 335, 336, 337, 338, 339, 340, 341, 342, 343, 344, 345, 346, 347, 348, 349, 350, 351, 136, 137, 138, 134, 1379, 1380, 1381, 1382, 1383, 1384, 1385, 1386, 1387, 1388, 1389, 1390, 1391, 1392, 1393, 1394, 1395, 1396, 1397, 1398, 1399, 1400] (by decide +kernel) (by decide +kernel)) (goodIn_sub (fun _ h => List.mem_append_left _ (List.mem_append_left _ (List.mem_append_left _ (List.mem_append_left _ (List.mem_append_left _ (List.mem_append_left _ (List.mem_append_right _ h))))))) (by decide +kernel))
set_option maxRecDepth 20000 in
theorem gL_law_X9_setGoingOn : GoodIn wsL_law (wsV RL 172 RX9 yX9_setGoingOn wsX9_setGoingOn) := goodIn_app (goodIn_of _ (by decide +kernel)) ggL_law_X9_setGoingOn
set_option maxRecDepth 20000 in
theorem ggL_law_X8_freeze : GoodIn wsL_law wsX8_freeze := goodIn_ca (goodIn_r _ [544, 25, 545, 546, 547, 24, 548, 81, 77, 71, 73, 227, 160, 161, 16, 162, 163, 228, 182, 183, 184, 40, 168, 169, 170, 39, 171, 49, 549, 550, 551, 552, 237, 238, 239, 240, 42, 241, 186, 187, 188, 189, 288, 289, 290, 291, 75, 235, 199, 200, 201, 43, 236, 61, 62, 63, 255, 256, 257, 258, 74, 553, 554, 555, 70, 556, 286, 87, 88, 557, 283, 284, 285, 287, 558, 559, 220, 221, 222, 223, 224, 225, 226, 82, 229, 195, 196, 197, 230, 231, 232, 20, 233, 56, 234, 242, 243, 244, 245, 76, 246, 247, 248, 249, 250, 207, 208, 209, 41, 251, 252, 253, 254, 259, 260, 261, 262, 263, 264, 265, 266, 267, 268, 269, 270, 79, 271, 272, 273, 274, 78, 275, 276, 277, 278, 57, 279, 280, 281, 282, 1373, 1374, 1375, 1376, 1377, 1378, 1410, 1411, 1412, 1413, 1414, 1415, 1416, 1417, 1418, 1419, 1420, 1421, 1422, 1401, 1402, 1403, 1404, 1405, 1432, 1433, 1434, 1435, 1406, 1407, 1408, 1409] (by decide +kernel) (by decide +kernel)) (goodIn_sub (fun _ h => List.mem_append_left _ (List.mem_append_left _ (List.mem_append_left _ (List.mem_append_left _ (List.mem_append_left _ (List.mem_append_left _ (List.mem_append_right _ h))))))) (by decide +kernel))
set_option maxRecDepth 20000 in
theorem gL_law_X8_freeze : GoodIn wsL_law (wsV RL 173 RX8 yX8_freeze wsX8_freeze) := goodIn_app (goodIn_of _ (by decide +kernel)) ggL_law_X8_freeze
set_option maxRecDepth 20000 in
theorem ggL_law_X9_freeze : GoodIn wsL_law wsX9_freeze := goodIn_ca (goodIn_r _ [563, 296, 297, 129, 122, 131, 127, 125, 136, 351, 137, 138, 126, 339, 340, 341, 5, 342, 132, 322, 323, 324, 325, 128, 314, 315, 316, 317, 326, 327, 328, 329, 123, 124, 330, 264, 265, 266, 331, 332, 333, 334, 335, 336, 337, 338, 343, 344, 345, 346, 347, 348, 349, 350, 134, 1379, 1380, 1381, 1382, 1383, 1384, 1385, 1386, 1387, 1388, 1389, 1390, 1391, 1392, 1393, 1394, 1395, 1396, 1397, 1398, 1399, 1400] (by decide +kernel) (by decide +kernel)) (goodIn_sub (fun _ h => List.mem_append_left _ (List.mem_append_left _ (List.mem_append_left _ (List.mem_append_left _ (List.mem_append_left _ (List.mem_append_left _ (List.mem_append_right _ h))))))) (by decide +kernel))
set_option maxRecDepth 20000 in
theorem gL_law_X9_freeze : GoodIn wsL_law (wsV RL 176 RX9 yX9_freeze wsX9_freeze) := goodIn_app (goodIn_of _ (by decide +kernel)) ggL_law_X9_freeze
set_option maxRecDepth 20000 in
theorem ggL_law_L_refer : GoodIn wsL_law wsL_refer := goodIn_ca (goodIn_ca (goodIn_ca (goodIn_ca (goodIn_r _ [566, 359, 145, 146, 567, 568, 569, 2, 570, 152, 153, 154, 155, 17, 33, 364, 365, 366, 367, 368, 369, 370, 371, 372, 16, 373, 41, 168, 169, 170, 39, 171, 49, 571, 238, 239, 240, 42, 572, 573, 574, 32, 575, 576, 577, 578, 579, 580, 115, 116, 581, 61, 62, 63, 1373, 1374, 1375, 1376, 1377, 1378, 1401, 1402, 1403, 1404, 1405, 1432, 1429, 1430, 1431] (by decide +kernel) (by decide +kernel)) (goodIn_sub (fun _ h => List.mem_append_left _ (List.mem_append_left _ (List.mem_append_left _ (List.mem_append_left _ (List.mem_append_left _ (List.mem_append_left _ (List.mem_append_right _ h))))))) (by decide +kernel))) (goodIn_sub (fun _ h => List.mem_append_left _ (List.mem_append_left _ (List.mem_append_left _ (List.mem_append_left _ (List.mem_append_left _ (List.mem_append_right _ h)))))) (by decide +kernel))) (goodIn_sub (fun _ h => List.mem_append_left _ (List.mem_append_left _ (List.mem_append_left _ (List.mem_append_left _ (List.mem_append_right _ h))))) (by decide +kernel))) (goodIn_sub (fun _ h => List.mem_append_left _ (List.mem_append_left _ (List.mem_append_right _ h))) (by decide +kernel))
set_option maxRecDepth 20000 in
theorem gL_law_L_refer : GoodIn wsL_law (va_wsS RL 177 yL_refer wsL_refer) := goodIn_app (goodIn_of _ (by decide +kernel)) ggL_law_L_refer
set_option maxRecDepth 20000 in
theorem ggL_law_X9_refer : GoodIn wsL_law wsX9_refer := goodIn_ca (goodIn_r _ [585, 296, 122, 586, 139, 140, 389, 390, 391, 5, 392, 298, 128, 299, 300, 301, 302, 303, 304, 305, 1379, 1380, 1381, 1382, 1383, 1384, 1385, 1386, 1387, 1388, 1389, 1390, 1391, 1392, 1393, 1394, 1395, 1396, 1397, 1398, 1399, 1400] (by decide +kernel) (by decide +kernel)) (goodIn_sub (fun _ h => List.mem_append_left _ (List.mem_append_left _ (List.mem_append_left _ (List.mem_append_left _ (List.mem_append_left _ (List.mem_append_left _ (List.mem_append_right _ h))))))) (by decide +kernel))
set_option maxRecDepth 20000 in
theorem gL_law_X9_refer : GoodIn wsL_law (wsV RL 179 RX9 yX9_refer wsX9_refer) := goodIn_app (goodIn_of _ (by decide +kernel)) ggL_law_X9_refer
set_option maxRecDepth 20000 in
theorem ggL_law_X8_size : GoodIn wsL_law wsX8_size := goodIn_r _ [590, 17, 159, 160, 161, 16, 162, 163, 1373, 1374, 1375, 1376, 1377, 1378, 1401, 1402, 1403, 1404, 1405] (by decide +kernel) (by decide +kernel)
set_option maxRecDepth 20000 in
theorem gL_law_X8_size : GoodIn wsL_law (wsV RL 180 RX8 yX8_size wsX8_size) := goodIn_app (goodIn_of _ (by decide +kernel)) ggL_law_X8_size
set_option maxRecDepth 20000 in
theorem ggL_law_X9_size : GoodIn wsL_law wsX9_size := goodIn_r _ [594, 296, 297, 1379, 1380, 1381, 1382, 1383, 1384, 1385, 1386, 1387, 1388, 1389, 1390, 1391, 1392, 1393, 1394, 1395, 1396, 1397, 1398, 1399, 1400] (by decide +kernel) (by decide +kernel)
set_option maxRecDepth 20000 in
theorem gL_law_X9_size : GoodIn wsL_law (wsV RL 183 RX9 yX9_size wsX9_size) := goodIn_app (goodIn_of _ (by decide +kernel)) ggL_law_X9_size
set_option maxRecDepth 20000 in
theorem ggL_law_L_paragraphAt : GoodIn wsL_law wsL_paragraphAt := goodIn_ca (goodIn_ca (goodIn_r _ [597, 598, 599, 600, 601, 2, 602, 603, 604, 17, 159, 160, 161, 16, 162, 163, 181, 182, 183, 184, 40, 168, 169, 170, 39, 171, 49, 1373, 1374, 1375, 1376, 1377, 1378, 1401, 1402, 1403, 1404, 1405, 1432] (by decide +kernel) (by decide +kernel)) (goodIn_sub (fun _ h => List.mem_append_left _ (List.mem_append_left _ (List.mem_append_left _ (List.mem_append_left _ (List.mem_append_left _ (List.mem_append_left _ (List.mem_append_right _ h))))))) (by decide +kernel))) (goodIn_sub (fun _ h => List.mem_append_left _ (List.mem_append_right _ h)) (by decide +kernel))
set_option maxRecDepth 20000 in
theorem gL_law_L_paragraphAt : GoodIn wsL_law (va_wsS RL 184 yL_paragraphAt wsL_paragraphAt) := goodIn_app (goodIn_of _ (by decide +kernel)) ggL_law_L_paragraphAt
set_option maxRecDepth 20000 in
theorem ggL_law_X9_paragraphAt : GoodIn wsL_law wsX9_paragraphAt := goodIn_ca (goodIn_r _ [608, 296, 297, 129, 299, 300, 5, 301, 302, 303, 304, 305, 1379, 1380, 1381, 1382, 1383, 1384, 1385, 1386, 1387, 1388, 1389, 1390, 1391, 1392, 1393, 1394, 1395, 1396, 1397, 1398, 1399, 1400] (by decide +kernel) (by decide +kernel)) (goodIn_sub (fun _ h => List.mem_append_left _ (List.mem_append_left _ (List.mem_append_left _ (List.mem_append_left _ (List.mem_append_left _ (List.mem_append_left _ (List.mem_append_right _ h))))))) (by decide +kernel))
set_option maxRecDepth 20000 in
theorem gL_law_X9_paragraphAt : GoodIn wsL_law (wsV RL 186 RX9 yX9_paragraphAt wsX9_paragraphAt) := goodIn_app (goodIn_of _ (by decide +kernel)) ggL_law_X9_paragraphAt
set_option maxRecDepth 20000 in
theorem ggL_law_L_placeOf : GoodIn wsL_law wsL_placeOf := goodIn_ca (goodIn_ca (goodIn_r _ [611, 359, 612, 613, 614, 2, 615, 17, 364, 365, 366, 367, 368, 369, 370, 371, 372, 16, 373, 41, 168, 169, 170, 39, 171, 49, 374, 207, 208, 209, 1373, 1374, 1375, 1376, 1377, 1378, 1401, 1402, 1403, 1404, 1405, 1432] (by decide +kernel) (by decide +kernel)) (goodIn_sub (fun _ h => List.mem_append_left _ (List.mem_append_left _ (List.mem_append_left _ (List.mem_append_left _ (List.mem_append_left _ (List.mem_append_left _ (List.mem_append_right _ h))))))) (by decide +kernel))) (goodIn_sub (fun _ h => List.mem_append_left _ (List.mem_append_left _ (List.mem_append_right _ h))) (by decide +kernel))
set_option maxRecDepth 20000 in
theorem gL_law_L_placeOf : GoodIn wsL_law (va_wsS RL 187 yL_placeOf wsL_placeOf) := goodIn_app (goodIn_of _ (by decide +kernel)) ggL_law_L_placeOf
set_option maxRecDepth 20000 in
theorem ggL_law_X9_placeOf : GoodIn wsL_law wsX9_placeOf := goodIn_ca (goodIn_r _ [619, 128, 385, 386, 387, 5, 388, 296, 389, 390, 391, 392, 298, 299, 300, 301, 1379, 1380, 1381, 1382, 1383, 1384, 1385, 1386, 1387, 1388, 1389, 1390, 1391, 1392, 1393, 1394, 1395, 1396, 1397, 1398, 1399, 1400] (by decide +kernel) (by decide +kernel)) (goodIn_sub (fun _ h => List.mem_append_left _ (List.mem_append_left _ (List.mem_append_left _ (List.mem_append_left _ (List.mem_append_left _ (List.mem_append_left _ (List.mem_append_right _ h))))))) (by decide +kernel))
set_option maxRecDepth 20000 in
theorem gL_law_X9_placeOf : GoodIn wsL_law (wsV RL 189 RX9 yX9_placeOf wsX9_placeOf) := goodIn_app (goodIn_of _ (by decide +kernel)) ggL_law_X9_placeOf
set_option maxRecDepth 20000 in
theorem ggL_law_L_levelOf : GoodIn wsL_law wsL_levelOf := goodIn_ca (goodIn_ca (goodIn_r _ [622, 359, 623, 624, 625, 2, 626, 17, 364, 365, 366, 367, 368, 369, 370, 371, 372, 16, 373, 41, 168, 169, 170, 39, 171, 49, 400, 195, 196, 197, 42, 1373, 1374, 1375, 1376, 1377, 1378, 1401, 1402, 1403, 1404, 1405, 1432] (by decide +kernel) (by decide +kernel)) (goodIn_sub (fun _ h => List.mem_append_left _ (List.mem_append_left _ (List.mem_append_left _ (List.mem_append_left _ (List.mem_append_left _ (List.mem_append_left _ (List.mem_append_right _ h))))))) (by decide +kernel))) (goodIn_sub (fun _ h => List.mem_append_left _ (List.mem_append_left _ (List.mem_append_right _ h))) (by decide +kernel))
set_option maxRecDepth 20000 in
theorem gL_law_L_levelOf : GoodIn wsL_law (va_wsS RL 190 yL_levelOf wsL_levelOf) := goodIn_app (goodIn_of _ (by decide +kernel)) ggL_law_L_levelOf
set_option maxRecDepth 20000 in
theorem ggL_law_X9_levelOf : GoodIn wsL_law wsX9_levelOf := goodIn_ca (goodIn_r _ [630, 122, 385, 386, 387, 5, 388, 296, 389, 390, 391, 392, 298, 128, 299, 300, 301, 1379, 1380, 1381, 1382, 1383, 1384, 1385, 1386, 1387, 1388, 1389, 1390, 1391, 1392, 1393, 1394, 1395, 1396, 1397, 1398, 1399, 1400] (by decide +kernel) (by decide +kernel)) (goodIn_sub (fun _ h => List.mem_append_left _ (List.mem_append_left _ (List.mem_append_left _ (List.mem_append_left _ (List.mem_append_left _ (List.mem_append_left _ (List.mem_append_right _ h))))))) (by decide +kernel))
set_option maxRecDepth 20000 in
theorem gL_law_X9_levelOf : GoodIn wsL_law (wsV RL 192 RX9 yX9_levelOf wsX9_levelOf) := goodIn_app (goodIn_of _ (by decide +kernel)) ggL_law_X9_levelOf
set_option maxRecDepth 20000 in
theorem ggL_law_L_parentOf : GoodIn wsL_law wsL_parentOf := goodIn_ca (goodIn_ca (goodIn_ca (goodIn_r _ [633, 359, 146, 634, 635, 636, 2, 637, 17, 638, 639, 640, 641, 154, 155, 364, 365, 366, 367, 368, 369, 370, 371, 372, 16, 373, 41, 168, 169, 170, 39, 171, 49, 571, 238, 239, 240, 42, 198, 199, 200, 201, 43, 1373, 1374, 1375, 1376, 1377, 1378, 1401, 1402, 1403, 1404, 1405, 1432] (by decide +kernel) (by decide +kernel)) (goodIn_sub (fun _ h => List.mem_append_left _ (List.mem_append_left _ (List.mem_append_left _ (List.mem_append_left _ (List.mem_append_left _ (List.mem_append_left _ (List.mem_append_right _ h))))))) (by decide +kernel))) (goodIn_sub (fun _ h => List.mem_append_left _ (List.mem_append_left _ (List.mem_append_left _ (List.mem_append_left _ (List.mem_append_right _ h))))) (by decide +kernel))) (goodIn_sub (fun _ h => List.mem_append_left _ (List.mem_append_left _ (List.mem_append_right _ h))) (by decide +kernel))
set_option maxRecDepth 20000 in
theorem gL_law_L_parentOf : GoodIn wsL_law (va_wsS RL 193 yL_parentOf wsL_parentOf) := goodIn_app (goodIn_of _ (by decide +kernel)) ggL_law_L_parentOf
set_option maxRecDepth 20000 in
theorem ggL_law_X9_parentOf : GoodIn wsL_law wsX9_parentOf := goodIn_ca (goodIn_r _ [645, 125, 646, 647, 648, 5, 649, 122, 296, 385, 386, 387, 388, 389, 390, 391, 392, 298, 128, 299, 300, 301, 1379, 1380, 1381, 1382, 1383, 1384, 1385, 1386, 1387, 1388, 1389, 1390, 1391, 1392, 1393, 1394, 1395, 1396, 1397, 1398, 1399, 1400] (by decide +kernel) (by decide +kernel)) (goodIn_sub (fun _ h => List.mem_append_left _ (List.mem_append_left _ (List.mem_append_left _ (List.mem_append_left _ (List.mem_append_left _ (List.mem_append_left _ (List.mem_append_right _ h))))))) (by decide +kernel))
set_option maxRecDepth 20000 in
theorem gL_law_X9_parentOf : GoodIn wsL_law (wsV RL 195 RX9 yX9_parentOf wsX9_parentOf) := goodIn_app (goodIn_of _ (by decide +kernel)) ggL_law_X9_parentOf
set_option maxRecDepth 20000 in
theorem ggL_law_L_below : GoodIn wsL_law wsL_below := goodIn_ca (goodIn_ca (goodIn_r _ [652, 359, 653, 654, 655, 2, 656, 17, 364, 365, 366, 367, 368, 369, 370, 371, 372, 16, 373, 41, 168, 169, 170, 39, 171, 49, 159, 160, 161, 162, 163, 181, 182, 183, 184, 40, 657, 658, 659, 660, 661, 199, 200, 201, 43, 1373, 1374, 1375, 1376, 1377, 1378, 1401, 1402, 1403, 1404, 1405, 1432] (by decide +kernel) (by decide +kernel)) (goodIn_sub (fun _ h => List.mem_append_left _ (List.mem_append_left _ (List.mem_append_left _ (List.mem_append_left _ (List.mem_append_left _ (List.mem_append_left _ (List.mem_append_right _ h))))))) (by decide +kernel))) (goodIn_sub (fun _ h => List.mem_append_left _ (List.mem_append_left _ (List.mem_append_right _ h))) (by decide +kernel))
set_option maxRecDepth 20000 in
theorem gL_law_L_below : GoodIn wsL_law (va_wsS RL 196 yL_below wsL_below) := goodIn_app (goodIn_of _ (by decide +kernel)) ggL_law_L_below
set_option maxRecDepth 20000 in
theorem ggL_law_X9_below : GoodIn wsL_law wsX9_below := goodIn_ca (goodIn_r _ [665, 297, 129, 385, 386, 387, 5, 388, 296, 389, 390, 391, 392, 298, 128, 299, 300, 301, 666, 667, 668, 669, 125, 1379, 1380, 1381, 1382, 1383, 1384, 1385, 1386, 1387, 1388, 1389, 1390, 1391, 1392, 1393, 1394, 1395, 1396, 1397, 1398, 1399, 1400] (by decide +kernel) (by decide +kernel)) (goodIn_sub (fun _ h => List.mem_append_left _ (List.mem_append_left _ (List.mem_append_left _ (List.mem_append_left _ (List.mem_append_left _ (List.mem_append_left _ (List.mem_append_right _ h))))))) (by decide +kernel))
set_option maxRecDepth 20000 in
theorem gL_law_X9_below : GoodIn wsL_law (wsV RL 198 RX9 yX9_below wsX9_below) := goodIn_app (goodIn_of _ (by decide +kernel)) ggL_law_X9_below
set_option maxRecDepth 20000 in
theorem ggL_law_L_isFrozen : GoodIn wsL_law wsL_isFrozen := goodIn_ca (goodIn_ca (goodIn_r _ [672, 359, 673, 674, 675, 2, 676, 25, 364, 365, 366, 367, 368, 369, 17, 370, 371, 372, 16, 373, 41, 168, 169, 170, 39, 171, 49, 185, 186, 187, 24, 188, 77, 189, 1373, 1374, 1375, 1376, 1377, 1378, 1401, 1402, 1403, 1404, 1405, 1432, 1410, 1411, 1412, 1413, 1414, 1415, 1416, 1417, 1418, 1419, 1420, 1421, 1422] (by decide +kernel) (by decide +kernel)) (goodIn_sub (fun _ h => List.mem_append_left _ (List.mem_append_left _ (List.mem_append_left _ (List.mem_append_left _ (List.mem_append_left _ (List.mem_append_left _ (List.mem_append_right _ h))))))) (by decide +kernel))) (goodIn_sub (fun _ h => List.mem_append_left _ (List.mem_append_left _ (List.mem_append_right _ h))) (by decide +kernel))
set_option maxRecDepth 20000 in
theorem gL_law_L_isFrozen : GoodIn wsL_law (va_wsS RL 199 yL_isFrozen wsL_isFrozen) := goodIn_app (goodIn_of _ (by decide +kernel)) ggL_law_L_isFrozen
set_option maxRecDepth 20000 in
theorem ggL_law_X9_isFrozen : GoodIn wsL_law wsX9_isFrozen := goodIn_ca (goodIn_r _ [680, 131, 385, 386, 387, 5, 388, 296, 389, 390, 391, 392, 298, 128, 299, 300, 301, 1379, 1380, 1381, 1382, 1383, 1384, 1385, 1386, 1387, 1388, 1389, 1390, 1391, 1392, 1393, 1394, 1395, 1396, 1397, 1398, 1399, 1400] (by decide +kernel) (by decide +kernel)) (goodIn_sub (fun _ h => List.mem_append_left _ (List.mem_append_left _ (List.mem_append_left _ (List.mem_append_left _ (List.mem_append_left _ (List.mem_append_left _ (List.mem_append_right _ h))))))) (by decide +kernel))
set_option maxRecDepth 20000 in
theorem gL_law_X9_isFrozen : GoodIn wsL_law (wsV RL 201 RX9 yX9_isFrozen wsX9_isFrozen) := goodIn_app (goodIn_of _ (by decide +kernel)) ggL_law_X9_isFrozen
set_option maxRecDepth 20000 in
theorem ggL_law_L_numberOf : GoodIn wsL_law wsL_numberOf := goodIn_ca (goodIn_ca (goodIn_ca (goodIn_r _ [683, 359, 146, 684, 685, 686, 2, 687, 25, 638, 639, 640, 641, 154, 155, 17, 364, 365, 366, 367, 368, 369, 370, 371, 372, 16, 373, 41, 168, 169, 170, 39, 171, 49, 571, 238, 239, 240, 42, 688, 256, 257, 24, 258, 74, 189, 1373, 1374, 1375, 1376, 1377, 1378, 1401, 1402, 1403, 1404, 1405, 1432, 1410, 1411, 1412, 1413, 1414, 1415, 1416, 1417, 1418, 1419, 1420, 1421, 1422] (by decide +kernel) (by decide +kernel)) (goodIn_sub (fun _ h => List.mem_append_left _ (List.mem_append_left _ (List.mem_append_left _ (List.mem_append_left _ (List.mem_append_left _ (List.mem_append_left _ (List.mem_append_right _ h))))))) (by decide +kernel))) (goodIn_sub (fun _ h => List.mem_append_left _ (List.mem_append_left _ (List.mem_append_left _ (List.mem_append_left _ (List.mem_append_right _ h))))) (by decide +kernel))) (goodIn_sub (fun _ h => List.mem_append_left _ (List.mem_append_left _ (List.mem_append_right _ h))) (by decide +kernel))
set_option maxRecDepth 20000 in
theorem gL_law_L_numberOf : GoodIn wsL_law (va_wsS RL 202 yL_numberOf wsL_numberOf) := goodIn_app (goodIn_of _ (by decide +kernel)) ggL_law_L_numberOf
set_option maxRecDepth 20000 in
theorem ggL_law_X9_numberOf : GoodIn wsL_law wsX9_numberOf := goodIn_ca (goodIn_r _ [692, 126, 646, 647, 648, 5, 649, 122, 296, 385, 386, 387, 388, 389, 390, 391, 392, 298, 128, 299, 300, 301, 1379, 1380, 1381, 1382, 1383, 1384, 1385, 1386, 1387, 1388, 1389, 1390, 1391, 1392, 1393, 1394, 1395, 1396, 1397, 1398, 1399, 1400] (by decide +kernel) (by decide +kernel)) (goodIn_sub (fun _ h => List.mem_append_left _ (List.mem_append_left _ (List.mem_append_left _ (List.mem_append_left _ (List.mem_append_left _ (List.mem_append_left _ (List.mem_append_right _ h))))))) (by decide +kernel))
set_option maxRecDepth 20000 in
theorem gL_law_X9_numberOf : GoodIn wsL_law (wsV RL 204 RX9 yX9_numberOf wsX9_numberOf) := goodIn_app (goodIn_of _ (by decide +kernel)) ggL_law_X9_numberOf
set_option maxRecDepth 20000 in
theorem ggL_law_L_lettersOf : GoodIn wsL_law wsL_lettersOf := goodIn_ca (goodIn_ca (goodIn_ca (goodIn_r _ [695, 359, 146, 696, 697, 698, 2, 699, 25, 638, 639, 640, 641, 154, 155, 17, 364, 365, 366, 367, 368, 369, 370, 371, 372, 16, 373, 41, 168, 169, 170, 39, 171, 49, 571, 238, 239, 240, 42, 700, 289, 290, 24, 291, 75, 189, 1373, 1374, 1375, 1376, 1377, 1378, 1401, 1402, 1403, 1404, 1405, 1432, 1410, 1411, 1412, 1413, 1414, 1415, 1416, 1417, 1418, 1419, 1420, 1421, 1422] (by decide +kernel) (by decide +kernel)) (goodIn_sub (fun _ h => List.mem_append_left _ (List.mem_append_left _ (List.mem_append_left _ (List.mem_append_left _ (List.mem_append_left _ (List.mem_append_left _ (List.mem_append_right _ h))))))) (by decide +kernel))) (goodIn_sub (fun _ h => List.mem_append_left _ (List.mem_append_left _ (List.mem_append_left _ (List.mem_append_left _ (List.mem_append_right _ h))))) (by decide +kernel))) (goodIn_sub (fun _ h => List.mem_append_left _ (List.mem_append_left _ (List.mem_append_right _ h))) (by decide +kernel))
set_option maxRecDepth 20000 in
theorem gL_law_L_lettersOf : GoodIn wsL_law (va_wsS RL 205 yL_lettersOf wsL_lettersOf) := goodIn_app (goodIn_of _ (by decide +kernel)) ggL_law_L_lettersOf
set_option maxRecDepth 20000 in
theorem ggL_law_X9_lettersOf : GoodIn wsL_law wsX9_lettersOf := goodIn_ca (goodIn_r _ [704, 127, 646, 647, 648, 5, 649, 122, 296, 385, 386, 387, 388, 389, 390, 391, 392, 298, 128, 299, 300, 301, 1379, 1380, 1381, 1382, 1383, 1384, 1385, 1386, 1387, 1388, 1389, 1390, 1391, 1392, 1393, 1394, 1395, 1396, 1397, 1398, 1399, 1400] (by decide +kernel) (by decide +kernel)) (goodIn_sub (fun _ h => List.mem_append_left _ (List.mem_append_left _ (List.mem_append_left _ (List.mem_append_left _ (List.mem_append_left _ (List.mem_append_left _ (List.mem_append_right _ h))))))) (by decide +kernel))
set_option maxRecDepth 20000 in
theorem gL_law_X9_lettersOf : GoodIn wsL_law (wsV RL 207 RX9 yX9_lettersOf wsX9_lettersOf) := goodIn_app (goodIn_of _ (by decide +kernel)) ggL_law_X9_lettersOf
set_option maxRecDepth 20000 in
theorem ggL_law_L_numberByWalk : GoodIn wsL_law wsL_numberByWalk := goodIn_ca (goodIn_ca (goodIn_ca (goodIn_r _ [707, 359, 146, 708, 709, 710, 2, 711, 25, 638, 639, 640, 641, 154, 155, 17, 364, 365, 366, 367, 368, 369, 370, 371, 372, 16, 373, 41, 168, 169, 170, 39, 171, 49, 571, 238, 239, 240, 42, 712, 713, 714, 24, 715, 80, 716, 717, 241, 186, 187, 188, 77, 189, 236, 61, 62, 63, 246, 247, 248, 249, 81, 73, 250, 207, 208, 209, 228, 182, 183, 184, 40, 251, 252, 253, 254, 227, 160, 161, 162, 163, 255, 256, 257, 258, 74, 259, 260, 261, 262, 263, 264, 265, 266, 82, 71, 267, 268, 269, 270, 79, 271, 272, 273, 274, 78, 229, 195, 196, 197, 275, 276, 277, 20, 278, 57, 279, 280, 281, 234, 282, 283, 284, 70, 285, 286, 88, 87, 287, 718, 719, 720, 721, 1373, 1374, 1375, 1376, 1377, 1378, 1401, 1402, 1403, 1404, 1405, 1432, 1410, 1411, 1412, 1413, 1414, 1415, 1416, 1417, 1418, 1419, 1420, 1421, 1422, 1406, 1407, 1408, 1409, 1433, 1434, 1435] (by decide +kernel) (by decide +kernel)) (goodIn_sub (fun _ h => List.mem_append_left _ (List.mem_append_left _ (List.mem_append_left _ (List.mem_append_left _ (List.mem_append_left _ (List.mem_append_left _ (List.mem_append_right _ h))))))) (by decide +kernel))) (goodIn_sub (fun _ h => List.mem_append_left _ (List.mem_append_left _ (List.mem_append_left _ (List.mem_append_left _ (List.mem_append_right _ h))))) (by decide +kernel))) (goodIn_sub (fun _ h => List.mem_append_left _ (List.mem_append_left _ (List.mem_append_right _ h))) (by decide +kernel))
set_option maxRecDepth 20000 in
theorem gL_law_L_numberByWalk : GoodIn wsL_law (va_wsS RL 208 yL_numberByWalk wsL_numberByWalk) := goodIn_app (goodIn_of _ (by decide +kernel)) ggL_law_L_numberByWalk
set_option maxRecDepth 20000 in
theorem ggL_law_X9_numberByWalk : GoodIn wsL_law wsX9_numberByWalk := goodIn_ca (goodIn_r _ [725, 726, 690, 691, 5, 692, 126, 646, 647, 648, 649, 122, 296, 385, 386, 387, 388, 389, 390, 391, 392, 298, 128, 299, 300, 301, 1379, 1380, 1381, 1382, 1383, 1384, 1385, 1386, 1387, 1388, 1389, 1390, 1391, 1392, 1393, 1394, 1395, 1396, 1397, 1398, 1399, 1400] (by decide +kernel) (by decide +kernel)) (goodIn_sub (fun _ h => List.mem_append_left _ (List.mem_append_left _ (List.mem_append_left _ (List.mem_append_left _ (List.mem_append_left _ (List.mem_append_left _ (List.mem_append_right _ h))))))) (by decide +kernel))
set_option maxRecDepth 20000 in
theorem gL_law_X9_numberByWalk : GoodIn wsL_law (wsV RL 210 RX9 yX9_numberByWalk wsX9_numberByWalk) := goodIn_app (goodIn_of _ (by decide +kernel)) ggL_law_X9_numberByWalk
set_option maxRecDepth 20000 in
theorem ggL_law_L_lettersByWalk : GoodIn wsL_law wsL_lettersByWalk := goodIn_ca (goodIn_ca (goodIn_ca (goodIn_r _ [729, 359, 146, 730, 731, 732, 2, 733, 25, 638, 639, 640, 641, 154, 155, 17, 364, 365, 366, 367, 368, 369, 370, 371, 372, 16, 373, 41, 168, 169, 170, 39, 171, 49, 571, 238, 239, 240, 42, 712, 713, 714, 24, 715, 80, 716, 717, 241, 186, 187, 188, 77, 189, 236, 61, 62, 63, 246, 247, 248, 249, 81, 73, 250, 207, 208, 209, 228, 182, 183, 184, 40, 251, 252, 253, 254, 227, 160, 161, 162, 163, 255, 256, 257, 258, 74, 259, 260, 261, 262, 263, 264, 265, 266, 82, 71, 267, 268, 269, 270, 79, 271, 272, 273, 274, 78, 229, 195, 196, 197, 275, 276, 277, 20, 278, 57, 279, 280, 281, 234, 282, 283, 284, 70, 285, 286, 88, 87, 287, 734, 735, 736, 737, 1373, 1374, 1375, 1376, 1377, 1378, 1401, 1402, 1403, 1404, 1405, 1432, 1410, 1411, 1412, 1413, 1414, 1415, 1416, 1417, 1418, 1419, 1420, 1421, 1422, 1406, 1407, 1408, 1409, 1433, 1434, 1435] (by decide +kernel) (by decide +kernel)) (goodIn_sub (fun _ h => List.mem_append_left _ (List.mem_append_left _ (List.mem_append_left _ (List.mem_append_left _ (List.mem_append_left _ (List.mem_append_left _ (List.mem_append_right _ h))))))) (by decide +kernel))) (goodIn_sub (fun _ h => List.mem_append_left _ (List.mem_append_left _ (List.mem_append_left _ (List.mem_append_left _ (List.mem_append_right _ h))))) (by decide +kernel))) (goodIn_sub (fun _ h => List.mem_append_left _ (List.mem_append_left _ (List.mem_append_right _ h))) (by decide +kernel))
set_option maxRecDepth 20000 in
theorem gL_law_L_lettersByWalk : GoodIn wsL_law (va_wsS RL 211 yL_lettersByWalk wsL_lettersByWalk) := goodIn_app (goodIn_of _ (by decide +kernel)) ggL_law_L_lettersByWalk
set_option maxRecDepth 20000 in
theorem ggL_law_X9_lettersByWalk : GoodIn wsL_law wsX9_lettersByWalk := goodIn_ca (goodIn_r _ [741, 742, 702, 703, 5, 704, 127, 646, 647, 648, 649, 122, 296, 385, 386, 387, 388, 389, 390, 391, 392, 298, 128, 299, 300, 301, 1379, 1380, 1381, 1382, 1383, 1384, 1385, 1386, 1387, 1388, 1389, 1390, 1391, 1392, 1393, 1394, 1395, 1396, 1397, 1398, 1399, 1400] (by decide +kernel) (by decide +kernel)) (goodIn_sub (fun _ h => List.mem_append_left _ (List.mem_append_left _ (List.mem_append_left _ (List.mem_append_left _ (List.mem_append_left _ (List.mem_append_left _ (List.mem_append_right _ h))))))) (by decide +kernel))
set_option maxRecDepth 20000 in
theorem gL_law_X9_lettersByWalk : GoodIn wsL_law (wsV RL 213 RX9 yX9_lettersByWalk wsX9_lettersByWalk) := goodIn_app (goodIn_of _ (by decide +kernel)) ggL_law_X9_lettersByWalk
set_option maxRecDepth 20000 in
theorem ggL_law_L_ahead : GoodIn wsL_law wsL_ahead := goodIn_ca (goodIn_ca (goodIn_ca (goodIn_r _ [745, 359, 146, 746, 747, 748, 2, 749, 25, 638, 639, 640, 641, 154, 155, 17, 364, 365, 366, 367, 368, 369, 370, 371, 372, 16, 373, 41, 168, 169, 170, 39, 171, 49, 571, 238, 239, 240, 42, 750, 247, 248, 24, 249, 81, 73, 250, 207, 208, 209, 228, 182, 183, 184, 40, 189, 1373, 1374, 1375, 1376, 1377, 1378, 1401, 1402, 1403, 1404, 1405, 1432, 1410, 1411, 1412, 1413, 1414, 1415, 1416, 1417, 1418, 1419, 1420, 1421, 1422] (by decide +kernel) (by decide +kernel)) (goodIn_sub (fun _ h => List.mem_append_left _ (List.mem_append_left _ (List.mem_append_left _ (List.mem_append_left _ (List.mem_append_left _ (List.mem_append_left _ (List.mem_append_right _ h))))))) (by decide +kernel))) (goodIn_sub (fun _ h => List.mem_append_left _ (List.mem_append_left _ (List.mem_append_left _ (List.mem_append_left _ (List.mem_append_right _ h))))) (by decide +kernel))) (goodIn_sub (fun _ h => List.mem_append_left _ (List.mem_append_left _ (List.mem_append_right _ h))) (by decide +kernel))
set_option maxRecDepth 20000 in
theorem gL_law_L_ahead : GoodIn wsL_law (va_wsS RL 214 yL_ahead wsL_ahead) := goodIn_app (goodIn_of _ (by decide +kernel)) ggL_law_L_ahead
set_option maxRecDepth 20000 in
theorem ggL_law_X9_ahead : GoodIn wsL_law wsX9_ahead := goodIn_ca (goodIn_r _ [754, 646, 647, 648, 5, 649, 122, 296, 385, 386, 387, 388, 389, 390, 391, 392, 298, 128, 299, 300, 301, 331, 332, 333, 334, 129, 335, 336, 337, 338, 339, 340, 341, 342, 132, 125, 1379, 1380, 1381, 1382, 1383, 1384, 1385, 1386, 1387, 1388, 1389, 1390, 1391, 1392, 1393, 1394, 1395, 1396, 1397, 1398, 1399, 1400] (by decide +kernel) (by decide +kernel)) (goodIn_sub (fun _ h => List.mem_append_left _ (List.mem_append_left _ (List.mem_append_left _ (List.mem_append_left _ (List.mem_append_left _ (List.mem_append_left _ (List.mem_append_right _ h))))))) (by decide +kernel))
set_option maxRecDepth 20000 in
theorem gL_law_X9_ahead : GoodIn wsL_law (wsV RL 216 RX9 yX9_ahead wsX9_ahead) := goodIn_app (goodIn_of _ (by decide +kernel)) ggL_law_X9_ahead
set_option maxRecDepth 20000 in
theorem ggL_law_L_labelLength : GoodIn wsL_law wsL_labelLength := goodIn_ca (goodIn_ca (goodIn_ca (goodIn_r _ [757, 359, 146, 758, 759, 760, 2, 761, 29, 638, 639, 640, 641, 154, 155, 17, 364, 365, 366, 367, 368, 369, 370, 371, 372, 16, 373, 41, 168, 169, 170, 39, 171, 49, 571, 238, 239, 240, 42, 762, 763, 764, 28, 765, 98, 766, 767, 768, 769, 102, 104, 103, 770, 771, 772, 97, 773, 774, 775, 776, 777, 778, 661, 199, 200, 201, 43, 779, 780, 781, 782, 783, 658, 659, 660, 784, 785, 786, 787, 788, 789, 790, 791, 109, 792, 256, 257, 24, 258, 74, 189, 793, 195, 196, 197, 794, 506, 507, 20, 508, 55, 234, 795, 796, 797, 798, 799, 800, 801, 802, 803, 804, 805, 806, 807, 808, 809, 810, 811, 812, 813, 814, 815, 816, 817, 818, 819, 820, 821, 822, 823, 824, 825, 826, 827, 828, 289, 290, 291, 75, 829, 830, 831, 832, 833, 1373, 1374, 1375, 1376, 1377, 1378, 1401, 1402, 1403, 1404, 1405, 1432, 1423, 1424, 1425, 1426, 1427, 1428, 1436, 1437, 1410, 1411, 1412, 1413, 1414, 1415, 1416, 1417, 1418, 1419, 1420, 1421, 1422, 1406, 1407, 1408, 1409] (by decide +kernel) (by decide +kernel)) (goodIn_sub (fun _ h => List.mem_append_left _ (List.mem_append_left _ (List.mem_append_left _ (List.mem_append_left _ (List.mem_append_left _ (List.mem_append_left _ (List.mem_append_right _ h))))))) (by decide +kernel))) (goodIn_sub (fun _ h => List.mem_append_left _ (List.mem_append_left _ (List.mem_append_left _ (List.mem_append_left _ (List.mem_append_right _ h))))) (by decide +kernel))) (goodIn_sub (fun _ h => List.mem_append_left _ (List.mem_append_left _ (List.mem_append_right _ h))) (by decide +kernel))
set_option maxRecDepth 20000 in
theorem gL_law_L_labelLength : GoodIn wsL_law (va_wsS RL 217 yL_labelLength wsL_labelLength) := goodIn_app (goodIn_of _ (by decide +kernel)) ggL_law_L_labelLength
set_option maxRecDepth 20000 in
theorem ggL_law_X9_labelLength : GoodIn wsL_law wsX9_labelLength := goodIn_ca (goodIn_r _ [837, 646, 647, 648, 5, 649, 122, 296, 385, 386, 387, 388, 389, 390, 391, 392, 298, 128, 299, 300, 301, 838, 839, 840, 841, 842, 843, 844, 125, 845, 846, 847, 848, 849, 850, 851, 852, 12, 13, 853, 854, 855, 856, 857, 858, 859, 860, 861, 862, 863, 864, 865, 866, 867, 868, 666, 667, 668, 669, 869, 870, 871, 872, 873, 874, 875, 876, 877, 878, 879, 880, 881, 882, 883, 884, 885, 886, 887, 888, 889, 890, 891, 892, 893, 894, 895, 896, 897, 898, 899, 900, 901, 902, 264, 265, 266, 903, 904, 905, 906, 907, 908, 909, 910, 911, 912, 913, 914, 915, 916, 917, 918, 919, 920, 921, 922, 923, 924, 925, 926, 927, 928, 929, 930, 931, 932, 933, 934, 935, 936, 937, 938, 939, 940, 941, 942, 943, 944, 945, 946, 947, 948, 949, 950, 951, 952, 953, 954, 955, 956, 957, 958, 959, 960, 961, 962, 963, 964, 965, 966, 967, 968, 969, 970, 971, 972, 973, 974, 975, 976, 977, 978, 979, 980, 135, 126, 127, 981, 982, 983, 984, 985, 986, 987, 988, 989, 990, 991, 992, 993, 994, 995, 996, 997, 998, 999, 1000, 1001, 1002, 1003, 1004, 1005, 1006, 1007, 1008, 1009, 1010, 1011, 1012, 1013, 1014, 1015, 1016, 1017, 1018, 1019, 1020, 48, 1021, 1022, 1023, 1024, 1025, 1026, 1027, 1028, 1029, 1030, 1031, 1032, 1033, 1034, 1035, 1036, 1037, 1038, 1039, 1040, 1041, 1042, 1043, 1044, 1045, 1046, 1047, 1048, 1049, 1050, 1051, 1052, 1053, 1054, 1055, 1056, 1057, 1058, 1059, 1060, 1061, 1062, 1063, 1064, 1065, 1066, 1067, 1068, 1069, 1070, 1071, 1072, 1073, 1074, 1075, 1076, 1077, 1078, 1079, 1080, 1081, 1082, 1083, 1084, 1085, 1086, 1087, 1088, 1089, 1090, 1091, 1092, 1093, 1379, 1380, 1381, 1382, 1383, 1384, 1385, 1386, 1387, 1388, 1389, 1390, 1391, 1392, 1393, 1394, 1395, 1396, 1397, 1398, 1399, 1400, 1438, 1439, 1440, 1441, 1442, 1443, 1444, 1445] (by decide +kernel) (by decide +kernel)) (goodIn_sub (fun _ h => List.mem_append_left _ (List.mem_append_left _ (List.mem_append_left _ (List.mem_append_left _ (List.mem_append_left _ (List.mem_append_left _ (List.mem_append_right _ h))))))) (by decide +kernel))
set_option maxRecDepth 20000 in
theorem gL_law_X9_labelLength : GoodIn wsL_law (wsV RL 219 RX9 yX9_labelLength wsX9_labelLength) := goodIn_app (goodIn_of _ (by decide +kernel)) ggL_law_X9_labelLength
set_option maxRecDepth 20000 in
theorem ggL_law_L_labelAt : GoodIn wsL_law wsL_labelAt := goodIn_ca (goodIn_ca (goodIn_ca (goodIn_ca (goodIn_r _ [1096, 359, 146, 598, 1097, 1098, 1099, 2, 1100, 29, 638, 639, 640, 641, 154, 155, 17, 364, 365, 366, 367, 368, 369, 370, 371, 372, 16, 373, 41, 168, 169, 170, 39, 171, 49, 571, 238, 239, 240, 42, 762, 763, 764, 28, 765, 98, 766, 767, 768, 769, 102, 104, 103, 770, 771, 772, 97, 773, 774, 775, 776, 777, 778, 661, 199, 200, 201, 43, 779, 780, 781, 782, 783, 658, 659, 660, 784, 785, 786, 787, 788, 789, 790, 791, 109, 792, 256, 257, 24, 258, 74, 189, 793, 195, 196, 197, 794, 506, 507, 20, 508, 55, 234, 795, 796, 797, 798, 799, 800, 801, 802, 803, 804, 805, 806, 807, 808, 809, 810, 811, 812, 813, 814, 815, 816, 817, 818, 819, 820, 821, 822, 823, 824, 825, 826, 827, 828, 289, 290, 291, 75, 829, 1101, 1102, 1103, 1104, 603, 604, 830, 831, 832, 833, 1105, 1106, 1107, 1108, 1109, 1373, 1374, 1375, 1376, 1377, 1378, 1401, 1402, 1403, 1404, 1405, 1432, 1423, 1424, 1425, 1426, 1427, 1428, 1436, 1437, 1410, 1411, 1412, 1413, 1414, 1415, 1416, 1417, 1418, 1419, 1420, 1421, 1422, 1406, 1407, 1408, 1409] (by decide +kernel) (by decide +kernel)) (goodIn_sub (fun _ h => List.mem_append_left _ (List.mem_append_left _ (List.mem_append_left _ (List.mem_append_left _ (List.mem_append_left _ (List.mem_append_left _ (List.mem_append_right _ h))))))) (by decide +kernel))) (goodIn_sub (fun _ h => List.mem_append_left _ (List.mem_append_left _ (List.mem_append_left _ (List.mem_append_left _ (List.mem_append_right _ h))))) (by decide +kernel))) (goodIn_sub (fun _ h => List.mem_append_left _ (List.mem_append_left _ (List.mem_append_right _ h))) (by decide +kernel))) (goodIn_sub (fun _ h => List.mem_append_left _ (List.mem_append_right _ h)) (by decide +kernel))
set_option maxRecDepth 20000 in
theorem gL_law_L_labelAt : GoodIn wsL_law (va_wsS RL 220 yL_labelAt wsL_labelAt) := goodIn_app (goodIn_of _ (by decide +kernel)) ggL_law_L_labelAt
set_option maxRecDepth 20000 in
theorem ggL_law_X9_labelAt : GoodIn wsL_law wsX9_labelAt := goodIn_ca (goodIn_r _ [1113, 646, 647, 648, 5, 649, 122, 296, 385, 386, 387, 388, 389, 390, 391, 392, 298, 128, 299, 300, 301, 838, 839, 840, 841, 842, 843, 844, 125, 845, 846, 847, 848, 849, 850, 851, 852, 12, 13, 853, 854, 855, 856, 857, 858, 859, 860, 861, 862, 863, 864, 865, 866, 867, 868, 666, 667, 668, 669, 869, 870, 871, 872, 873, 874, 875, 876, 877, 878, 879, 880, 881, 882, 883, 884, 885, 886, 887, 888, 889, 890, 891, 892, 893, 894, 895, 896, 897, 898, 899, 900, 901, 902, 264, 265, 266, 903, 904, 905, 906, 907, 908, 909, 910, 911, 912, 913, 914, 915, 916, 917, 918, 919, 920, 921, 922, 923, 924, 925, 926, 927, 928, 929, 930, 931, 932, 933, 934, 935, 936, 937, 938, 939, 940, 941, 942, 943, 944, 945, 946, 947, 948, 949, 950, 951, 952, 953, 954, 955, 956, 957, 958, 959, 960, 961, 962, 963, 964, 965, 966, 967, 968, 969, 970, 971, 972, 973, 974, 975, 976, 977, 978, 979, 980, 135, 126, 127, 981, 982, 983, 984, 985, 986, 987, 988, 989, 990, 991, 992, 993, 994, 995, 996, 997, 998, 999, 1000, 1001, 1002, 1003, 1004, 1005, 1006, 1007, 1008, 1009, 1010, 1011, 1012, 1013, 1014, 1015, 1016, 1017, 1018, 1019, 1020, 48, 1021, 1022, 1023, 1024, 1025, 1026, 1027, 1028, 1029, 1030, 1031, 1032, 1033, 1034, 1035, 1036, 1037, 1038, 1039, 1040, 1041, 1042, 1043, 1044, 1045, 1046, 1047, 1048, 1049, 1050, 1051, 1052, 1053, 1054, 1055, 1056, 1057, 1058, 1059, 1060, 1061, 1062, 1063, 1064, 1065, 1066, 1067, 1068, 1069, 1070, 1071, 1072, 1073, 1074, 1075, 1076, 1077, 1078, 1079, 1080, 1081, 1082, 1083, 1084, 1085, 1086, 1087, 1088, 1089, 1090, 1091, 1092, 1093, 302, 303, 304, 305, 1379, 1380, 1381, 1382, 1383, 1384, 1385, 1386, 1387, 1388, 1389, 1390, 1391, 1392, 1393, 1394, 1395, 1396, 1397, 1398, 1399, 1400, 1438, 1439, 1440, 1441, 1442, 1443, 1444, 1445] (by decide +kernel) (by decide +kernel)) (goodIn_sub (fun _ h => List.mem_append_left _ (List.mem_append_left _ (List.mem_append_left _ (List.mem_append_left _ (List.mem_append_left _ (List.mem_append_left _ (List.mem_append_right _ h))))))) (by decide +kernel))
set_option maxRecDepth 20000 in
theorem gL_law_X9_labelAt : GoodIn wsL_law (wsV RL 222 RX9 yX9_labelAt wsX9_labelAt) := goodIn_app (goodIn_of _ (by decide +kernel)) ggL_law_X9_labelAt
set_option maxRecDepth 20000 in
theorem ggL_law_L_find : GoodIn wsL_law wsL_find := goodIn_ca (goodIn_ca (goodIn_ca (goodIn_r _ [1116, 145, 359, 1117, 1118, 1119, 2, 1120, 368, 369, 17, 25, 463, 464, 465, 466, 152, 153, 159, 160, 161, 16, 162, 163, 181, 182, 183, 184, 40, 168, 169, 170, 39, 171, 49, 400, 195, 196, 197, 42, 688, 256, 257, 24, 258, 74, 189, 700, 289, 290, 291, 75, 1373, 1374, 1375, 1376, 1377, 1378, 1401, 1402, 1403, 1404, 1405, 1432, 1410, 1411, 1412, 1413, 1414, 1415, 1416, 1417, 1418, 1419, 1420, 1421, 1422] (by decide +kernel) (by decide +kernel)) (goodIn_sub (fun _ h => List.mem_append_left _ (List.mem_append_left _ (List.mem_append_left _ (List.mem_append_left _ (List.mem_append_left _ (List.mem_append_left _ (List.mem_append_right _ h))))))) (by decide +kernel))) (goodIn_sub (fun _ h => List.mem_append_left _ (List.mem_append_left _ (List.mem_append_right _ h))) (by decide +kernel))) (goodIn_sub (fun _ h => List.mem_append_left _ (List.mem_append_left _ (List.mem_append_left _ (List.mem_append_left _ (List.mem_append_left _ (List.mem_append_right _ h)))))) (by decide +kernel))
set_option maxRecDepth 20000 in
theorem gL_law_L_find : GoodIn wsL_law (va_wsS RL 223 yL_find wsL_find) := goodIn_app (goodIn_of _ (by decide +kernel)) ggL_law_L_find
set_option maxRecDepth 20000 in
theorem ggL_law_X9_find : GoodIn wsL_law wsX9_find := goodIn_ca (goodIn_r _ [1124, 296, 297, 129, 122, 126, 127, 484, 485, 5, 486, 299, 300, 301, 302, 303, 304, 305, 1379, 1380, 1381, 1382, 1383, 1384, 1385, 1386, 1387, 1388, 1389, 1390, 1391, 1392, 1393, 1394, 1395, 1396, 1397, 1398, 1399, 1400] (by decide +kernel) (by decide +kernel)) (goodIn_sub (fun _ h => List.mem_append_left _ (List.mem_append_left _ (List.mem_append_left _ (List.mem_append_left _ (List.mem_append_left _ (List.mem_append_left _ (List.mem_append_right _ h))))))) (by decide +kernel))
set_option maxRecDepth 20000 in
theorem gL_law_X9_find : GoodIn wsL_law (wsV RL 225 RX9 yX9_find wsX9_find) := goodIn_app (goodIn_of _ (by decide +kernel)) ggL_law_X9_find
set_option maxRecDepth 20000 in
theorem ggL_law_X8_references : GoodIn wsL_law wsX8_references := goodIn_r _ [1128, 33, 572, 573, 574, 32, 575, 576, 1373, 1374, 1375, 1376, 1377, 1378, 1429, 1430, 1431] (by decide +kernel) (by decide +kernel)
set_option maxRecDepth 20000 in
theorem gL_law_X8_references : GoodIn wsL_law (wsV RL 226 RX8 yX8_references wsX8_references) := goodIn_app (goodIn_of _ (by decide +kernel)) ggL_law_X8_references
set_option maxRecDepth 20000 in
theorem ggL_law_X9_references : GoodIn wsL_law wsX9_references := goodIn_r _ [1132, 296, 586, 1379, 1380, 1381, 1382, 1383, 1384, 1385, 1386, 1387, 1388, 1389, 1390, 1391, 1392, 1393, 1394, 1395, 1396, 1397, 1398, 1399, 1400] (by decide +kernel) (by decide +kernel)
set_option maxRecDepth 20000 in
theorem gL_law_X9_references : GoodIn wsL_law (wsV RL 229 RX9 yX9_references wsX9_references) := goodIn_app (goodIn_of _ (by decide +kernel)) ggL_law_X9_references
set_option maxRecDepth 20000 in
theorem ggL_law_L_targetOf : GoodIn wsL_law wsL_targetOf := goodIn_ca (goodIn_ca (goodIn_r _ [1135, 359, 1136, 1137, 1138, 2, 1139, 33, 1140, 1141, 1142, 1143, 368, 369, 572, 573, 574, 32, 575, 576, 1144, 1145, 1146, 1147, 116, 1148, 169, 170, 39, 171, 49, 1373, 1374, 1375, 1376, 1377, 1378, 1429, 1430, 1431, 1432] (by decide +kernel) (by decide +kernel)) (goodIn_sub (fun _ h => List.mem_append_left _ (List.mem_append_left _ (List.mem_append_left _ (List.mem_append_left _ (List.mem_append_left _ (List.mem_append_left _ (List.mem_append_right _ h))))))) (by decide +kernel))) (goodIn_sub (fun _ h => List.mem_append_left _ (List.mem_append_left _ (List.mem_append_right _ h))) (by decide +kernel))
set_option maxRecDepth 20000 in
theorem gL_law_L_targetOf : GoodIn wsL_law (va_wsS RL 230 yL_targetOf wsL_targetOf) := goodIn_app (goodIn_of _ (by decide +kernel)) ggL_law_L_targetOf
set_option maxRecDepth 20000 in
theorem ggL_law_X9_targetOf : GoodIn wsL_law wsX9_targetOf := goodIn_ca (goodIn_r _ [1152, 296, 140, 1153, 1154, 1155, 5, 1156, 586, 299, 300, 301, 302, 303, 304, 305, 1379, 1380, 1381, 1382, 1383, 1384, 1385, 1386, 1387, 1388, 1389, 1390, 1391, 1392, 1393, 1394, 1395, 1396, 1397, 1398, 1399, 1400] (by decide +kernel) (by decide +kernel)) (goodIn_sub (fun _ h => List.mem_append_left _ (List.mem_append_left _ (List.mem_append_left _ (List.mem_append_left _ (List.mem_append_left _ (List.mem_append_left _ (List.mem_append_right _ h))))))) (by decide +kernel))
set_option maxRecDepth 20000 in
theorem gL_law_X9_targetOf : GoodIn wsL_law (wsV RL 232 RX9 yX9_targetOf wsX9_targetOf) := goodIn_app (goodIn_of _ (by decide +kernel)) ggL_law_X9_targetOf
set_option maxRecDepth 20000 in
theorem ggL_law_L_isBroken : GoodIn wsL_law wsL_isBroken := goodIn_ca (goodIn_ca (goodIn_r _ [1159, 359, 1160, 1161, 1162, 2, 1163, 1140, 1141, 1142, 1143, 368, 369, 33, 572, 573, 574, 32, 575, 576, 1164, 1165, 1166, 1167, 17, 1168, 1169, 1170, 1171, 115, 1148, 169, 170, 39, 171, 49, 370, 371, 372, 16, 373, 41, 168, 1144, 1145, 1146, 1147, 116, 1373, 1374, 1375, 1376, 1377, 1378, 1429, 1430, 1431, 1432, 1401, 1402, 1403, 1404, 1405] (by decide +kernel) (by decide +kernel)) (goodIn_sub (fun _ h => List.mem_append_left _ (List.mem_append_left _ (List.mem_append_left _ (List.mem_append_left _ (List.mem_append_left _ (List.mem_append_left _ (List.mem_append_right _ h))))))) (by decide +kernel))) (goodIn_sub (fun _ h => List.mem_append_left _ (List.mem_append_left _ (List.mem_append_right _ h))) (by decide +kernel))
set_option maxRecDepth 20000 in
theorem gL_law_L_isBroken : GoodIn wsL_law (va_wsS RL 233 yL_isBroken wsL_isBroken) := goodIn_app (goodIn_of _ (by decide +kernel)) ggL_law_L_isBroken
set_option maxRecDepth 20000 in
theorem ggL_law_X9_isBroken : GoodIn wsL_law wsX9_isBroken := goodIn_ca (goodIn_r _ [1175, 296, 1153, 1154, 1155, 5, 1156, 586, 299, 300, 301, 1176, 1177, 1178, 1179, 139, 140, 389, 390, 391, 392, 298, 128, 537, 538, 539, 540, 1379, 1380, 1381, 1382, 1383, 1384, 1385, 1386, 1387, 1388, 1389, 1390, 1391, 1392, 1393, 1394, 1395, 1396, 1397, 1398, 1399, 1400] (by decide +kernel) (by decide +kernel)) (goodIn_sub (fun _ h => List.mem_append_left _ (List.mem_append_left _ (List.mem_append_left _ (List.mem_append_left _ (List.mem_append_left _ (List.mem_append_left _ (List.mem_append_right _ h))))))) (by decide +kernel))
set_option maxRecDepth 20000 in
theorem gL_law_X9_isBroken : GoodIn wsL_law (wsV RL 235 RX9 yX9_isBroken wsX9_isBroken) := goodIn_app (goodIn_of _ (by decide +kernel)) ggL_law_X9_isBroken
set_option maxRecDepth 20000 in
theorem ggL_law_L_referenceLength : GoodIn wsL_law wsL_referenceLength := goodIn_ca (goodIn_ca (goodIn_ca (goodIn_r _ [1182, 359, 146, 1183, 1184, 1185, 2, 1186, 29, 33, 1187, 1188, 1189, 1190, 154, 155, 1140, 1141, 1142, 1143, 368, 369, 572, 573, 574, 32, 575, 576, 1164, 1165, 1166, 1167, 17, 1168, 1169, 1170, 1171, 115, 1148, 169, 170, 39, 171, 49, 370, 371, 372, 16, 373, 41, 168, 1144, 1145, 1146, 1147, 116, 1191, 1192, 1193, 28, 1194, 102, 98, 1195, 238, 239, 240, 42, 770, 771, 772, 97, 773, 774, 766, 767, 768, 769, 104, 103, 775, 776, 777, 778, 661, 199, 200, 201, 43, 779, 780, 781, 782, 783, 658, 659, 660, 784, 785, 786, 787, 788, 789, 790, 791, 109, 792, 256, 257, 24, 258, 74, 189, 793, 195, 196, 197, 794, 506, 507, 20, 508, 55, 234, 795, 796, 797, 798, 799, 800, 801, 802, 803, 804, 805, 806, 807, 808, 809, 810, 811, 812, 813, 814, 815, 816, 817, 818, 819, 820, 821, 822, 823, 824, 825, 826, 827, 828, 289, 290, 291, 75, 829, 830, 831, 832, 833, 1373, 1374, 1375, 1376, 1377, 1378, 1429, 1430, 1431, 1432, 1401, 1402, 1403, 1404, 1405, 1423, 1424, 1425, 1426, 1427, 1428, 1436, 1437, 1410, 1411, 1412, 1413, 1414, 1415, 1416, 1417, 1418, 1419, 1420, 1421, 1422, 1406, 1407, 1408, 1409] (by decide +kernel) (by decide +kernel)) (goodIn_sub (fun _ h => List.mem_append_left _ (List.mem_append_left _ (List.mem_append_left _ (List.mem_append_left _ (List.mem_append_left _ (List.mem_append_left _ (List.mem_append_right _ h))))))) (by decide +kernel))) (goodIn_sub (fun _ h => List.mem_append_left _ (List.mem_append_left _ (List.mem_append_left _ (List.mem_append_left _ (List.mem_append_right _ h))))) (by decide +kernel))) (goodIn_sub (fun _ h => List.mem_append_left _ (List.mem_append_left _ (List.mem_append_right _ h))) (by decide +kernel))
set_option maxRecDepth 20000 in
theorem gL_law_L_referenceLength : GoodIn wsL_law (va_wsS RL 236 yL_referenceLength wsL_referenceLength) := goodIn_app (goodIn_of _ (by decide +kernel)) ggL_law_L_referenceLength
set_option maxRecDepth 20000 in
theorem ggL_law_X9_referenceLength : GoodIn wsL_law wsX9_referenceLength := goodIn_ca (goodIn_r _ [1199, 140, 139, 1200, 1201, 1202, 5, 1203, 296, 1153, 1154, 1155, 1156, 586, 299, 300, 301, 1176, 1177, 1178, 1179, 389, 390, 391, 392, 298, 128, 838, 839, 840, 841, 842, 843, 844, 122, 125, 845, 846, 847, 848, 849, 850, 851, 852, 12, 13, 853, 854, 855, 856, 857, 858, 859, 860, 861, 862, 863, 864, 865, 866, 867, 868, 666, 667, 668, 669, 869, 870, 871, 872, 873, 874, 875, 876, 877, 878, 879, 880, 881, 882, 883, 884, 885, 886, 887, 888, 889, 890, 891, 892, 893, 894, 895, 896, 897, 898, 899, 900, 901, 902, 264, 265, 266, 903, 904, 905, 906, 907, 908, 909, 910, 911, 912, 913, 914, 915, 916, 917, 918, 919, 920, 921, 922, 923, 924, 925, 926, 927, 928, 929, 930, 931, 932, 933, 934, 935, 936, 937, 938, 939, 940, 941, 942, 943, 944, 945, 946, 947, 948, 949, 950, 951, 952, 953, 954, 955, 956, 957, 958, 959, 960, 961, 962, 963, 964, 965, 966, 967, 968, 969, 970, 971, 972, 973, 974, 975, 976, 977, 978, 979, 980, 135, 126, 127, 981, 982, 983, 984, 985, 986, 987, 988, 989, 990, 991, 992, 993, 994, 995, 996, 997, 998, 999, 1000, 1001, 1002, 1003, 1004, 1005, 1006, 1007, 1008, 1009, 1010, 1011, 1012, 1013, 1014, 1015, 1016, 1017, 1018, 1019, 1020, 48, 1021, 1022, 1023, 1024, 1025, 1026, 1027, 1028, 1029, 1030, 1031, 1032, 1033, 1034, 1035, 1036, 1037, 1038, 1039, 1040, 1041, 1042, 1043, 1044, 1045, 1046, 1047, 1048, 1049, 1050, 1051, 1052, 1053, 1054, 1055, 1056, 1057, 1058, 1059, 1060, 1061, 1062, 1063, 1064, 1065, 1066, 1067, 1068, 1069, 1070, 1071, 1072, 1073, 1074, 1075, 1076, 1077, 1078, 1079, 1080, 1081, 1082, 1083, 1084, 1085, 1086, 1087, 1088, 1089, 1090, 1091, 1092, 1093, 1379, 1380, 1381, 1382, 1383, 1384, 1385, 1386, 1387, 1388, 1389, 1390, 1391, 1392, 1393, 1394, 1395, 1396, 1397, 1398, 1399, 1400, 1438, 1439, 1440, 1441, 1442, 1443, 1444, 1445] (by decide +kernel) (by decide +kernel)) (goodIn_sub (fun _ h => List.mem_append_left _ (List.mem_append_left _ (List.mem_append_left _ (List.mem_append_left _ (List.mem_append_left _ (List.mem_append_left _ (List.mem_append_right _ h))))))) (by decide +kernel))
set_option maxRecDepth 20000 in
theorem gL_law_X9_referenceLength : GoodIn wsL_law (wsV RL 238 RX9 yX9_referenceLength wsX9_referenceLength) := goodIn_app (goodIn_of _ (by decide +kernel)) ggL_law_X9_referenceLength
set_option maxRecDepth 20000 in
theorem ggL_law_L_referenceAt : GoodIn wsL_law wsL_referenceAt := goodIn_ca (goodIn_ca (goodIn_ca (goodIn_ca (goodIn_r _ [1206, 359, 146, 598, 1207, 1208, 1209, 2, 1210, 29, 33, 1187, 1188, 1189, 1190, 154, 155, 1140, 1141, 1142, 1143, 368, 369, 572, 573, 574, 32, 575, 576, 1164, 1165, 1166, 1167, 17, 1168, 1169, 1170, 1171, 115, 1148, 169, 170, 39, 171, 49, 370, 371, 372, 16, 373, 41, 168, 1144, 1145, 1146, 1147, 116, 1191, 1192, 1193, 28, 1194, 102, 98, 1195, 238, 239, 240, 42, 770, 771, 772, 97, 773, 774, 766, 767, 768, 769, 104, 103, 775, 776, 777, 778, 661, 199, 200, 201, 43, 779, 780, 781, 782, 783, 658, 659, 660, 784, 785, 786, 787, 788, 789, 790, 791, 109, 792, 256, 257, 24, 258, 74, 189, 793, 195, 196, 197, 794, 506, 507, 20, 508, 55, 234, 795, 796, 797, 798, 799, 800, 801, 802, 803, 804, 805, 806, 807, 808, 809, 810, 811, 812, 813, 814, 815, 816, 817, 818, 819, 820, 821, 822, 823, 824, 825, 826, 827, 828, 289, 290, 291, 75, 829, 1101, 1102, 1103, 1104, 603, 604, 830, 831, 832, 833, 1105, 1106, 1107, 1108, 1109, 1373, 1374, 1375, 1376, 1377, 1378, 1429, 1430, 1431, 1432, 1401, 1402, 1403, 1404, 1405, 1423, 1424, 1425, 1426, 1427, 1428, 1436, 1437, 1410, 1411, 1412, 1413, 1414, 1415, 1416, 1417, 1418, 1419, 1420, 1421, 1422, 1406, 1407, 1408, 1409] (by decide +kernel) (by decide +kernel)) (goodIn_sub (fun _ h => List.mem_append_left _ (List.mem_append_left _ (List.mem_append_left _ (List.mem_append_left _ (List.mem_append_left _ (List.mem_append_left _ (List.mem_append_right _ h))))))) (by decide +kernel))) (goodIn_sub (fun _ h => List.mem_append_left _ (List.mem_append_left _ (List.mem_append_left _ (List.mem_append_left _ (List.mem_append_right _ h))))) (by decide +kernel))) (goodIn_sub (fun _ h => List.mem_append_left _ (List.mem_append_left _ (List.mem_append_right _ h))) (by decide +kernel))) (goodIn_sub (fun _ h => List.mem_append_left _ (List.mem_append_right _ h)) (by decide +kernel))
set_option maxRecDepth 20000 in
theorem gL_law_L_referenceAt : GoodIn wsL_law (va_wsS RL 239 yL_referenceAt wsL_referenceAt) := goodIn_app (goodIn_of _ (by decide +kernel)) ggL_law_L_referenceAt
set_option maxRecDepth 20000 in
theorem ggL_law_X9_referenceAt : GoodIn wsL_law wsX9_referenceAt := goodIn_ca (goodIn_r _ [1214, 140, 139, 1200, 1201, 1202, 5, 1203, 296, 1153, 1154, 1155, 1156, 586, 299, 300, 301, 1176, 1177, 1178, 1179, 389, 390, 391, 392, 298, 128, 838, 839, 840, 841, 842, 843, 844, 122, 125, 845, 846, 847, 848, 849, 850, 851, 852, 12, 13, 853, 854, 855, 856, 857, 858, 859, 860, 861, 862, 863, 864, 865, 866, 867, 868, 666, 667, 668, 669, 869, 870, 871, 872, 873, 874, 875, 876, 877, 878, 879, 880, 881, 882, 883, 884, 885, 886, 887, 888, 889, 890, 891, 892, 893, 894, 895, 896, 897, 898, 899, 900, 901, 902, 264, 265, 266, 903, 904, 905, 906, 907, 908, 909, 910, 911, 912, 913, 914, 915, 916, 917, 918, 919, 920, 921, 922, 923, 924, 925, 926, 927, 928, 929, 930, 931, 932, 933, 934, 935, 936, 937, 938, 939, 940, 941, 942, 943, 944, 945, 946, 947, 948, 949, 950, 951, 952, 953, 954, 955, 956, 957, 958, 959, 960, 961, 962, 963, 964, 965, 966, 967, 968, 969, 970, 971, 972, 973, 974, 975, 976, 977, 978, 979, 980, 135, 126, 127, 981, 982, 983, 984, 985, 986, 987, 988, 989, 990, 991, 992, 993, 994, 995, 996, 997, 998, 999, 1000, 1001, 1002, 1003, 1004, 1005, 1006, 1007, 1008, 1009, 1010, 1011, 1012, 1013, 1014, 1015, 1016, 1017, 1018, 1019, 1020, 48, 1021, 1022, 1023, 1024, 1025, 1026, 1027, 1028, 1029, 1030, 1031, 1032, 1033, 1034, 1035, 1036, 1037, 1038, 1039, 1040, 1041, 1042, 1043, 1044, 1045, 1046, 1047, 1048, 1049, 1050, 1051, 1052, 1053, 1054, 1055, 1056, 1057, 1058, 1059, 1060, 1061, 1062, 1063, 1064, 1065, 1066, 1067, 1068, 1069, 1070, 1071, 1072, 1073, 1074, 1075, 1076, 1077, 1078, 1079, 1080, 1081, 1082, 1083, 1084, 1085, 1086, 1087, 1088, 1089, 1090, 1091, 1092, 1093, 302, 303, 304, 305, 1379, 1380, 1381, 1382, 1383, 1384, 1385, 1386, 1387, 1388, 1389, 1390, 1391, 1392, 1393, 1394, 1395, 1396, 1397, 1398, 1399, 1400, 1438, 1439, 1440, 1441, 1442, 1443, 1444, 1445] (by decide +kernel) (by decide +kernel)) (goodIn_sub (fun _ h => List.mem_append_left _ (List.mem_append_left _ (List.mem_append_left _ (List.mem_append_left _ (List.mem_append_left _ (List.mem_append_left _ (List.mem_append_right _ h))))))) (by decide +kernel))
set_option maxRecDepth 20000 in
theorem gL_law_X9_referenceAt : GoodIn wsL_law (wsV RL 241 RX9 yX9_referenceAt wsX9_referenceAt) := goodIn_app (goodIn_of _ (by decide +kernel)) ggL_law_X9_referenceAt
set_option maxRecDepth 20000 in
theorem ggL_law_X8_broken : GoodIn wsL_law wsX8_broken := goodIn_ca (goodIn_r _ [1218, 33, 572, 573, 574, 32, 575, 576, 1164, 1165, 1166, 2, 1167, 17, 1168, 1169, 1170, 1171, 115, 1148, 169, 170, 39, 171, 49, 370, 371, 372, 16, 373, 41, 168, 1144, 1145, 1146, 1147, 116, 1373, 1374, 1375, 1376, 1377, 1378, 1429, 1430, 1431, 1432, 1401, 1402, 1403, 1404, 1405] (by decide +kernel) (by decide +kernel)) (goodIn_sub (fun _ h => List.mem_append_left _ (List.mem_append_left _ (List.mem_append_left _ (List.mem_append_left _ (List.mem_append_left _ (List.mem_append_left _ (List.mem_append_right _ h))))))) (by decide +kernel))
set_option maxRecDepth 20000 in
theorem gL_law_X8_broken : GoodIn wsL_law (wsV RL 242 RX8 yX8_broken wsX8_broken) := goodIn_app (goodIn_of _ (by decide +kernel)) ggL_law_X8_broken
set_option maxRecDepth 20000 in
theorem ggL_law_X9_broken : GoodIn wsL_law wsX9_broken := goodIn_ca (goodIn_r _ [1222, 296, 586, 1176, 1177, 1178, 5, 1179, 139, 140, 389, 390, 391, 392, 298, 128, 299, 300, 301, 1379, 1380, 1381, 1382, 1383, 1384, 1385, 1386, 1387, 1388, 1389, 1390, 1391, 1392, 1393, 1394, 1395, 1396, 1397, 1398, 1399, 1400] (by decide +kernel) (by decide +kernel)) (goodIn_sub (fun _ h => List.mem_append_left _ (List.mem_append_left _ (List.mem_append_left _ (List.mem_append_left _ (List.mem_append_left _ (List.mem_append_left _ (List.mem_append_right _ h))))))) (by decide +kernel))
set_option maxRecDepth 20000 in
theorem gL_law_X9_broken : GoodIn wsL_law (wsV RL 245 RX9 yX9_broken wsX9_broken) := goodIn_app (goodIn_of _ (by decide +kernel)) ggL_law_X9_broken
set_option maxRecDepth 20000 in
theorem ggL_law_X8_used : GoodIn wsL_law wsX8_used := goodIn_r _ [1226, 25, 1227, 1228, 1229, 24, 1230, 71, 1231, 1232, 1233, 70, 1234, 286, 1373, 1374, 1375, 1376, 1377, 1378, 1410, 1411, 1412, 1413, 1414, 1415, 1416, 1417, 1418, 1419, 1420, 1421, 1422, 1433, 1434, 1435] (by decide +kernel) (by decide +kernel)
set_option maxRecDepth 20000 in
theorem gL_law_X8_used : GoodIn wsL_law (wsV RL 246 RX8 yX8_used wsX8_used) := goodIn_app (goodIn_of _ (by decide +kernel)) ggL_law_X8_used
set_option maxRecDepth 20000 in
theorem ggL_law_X9_used : GoodIn wsL_law wsX9_used := goodIn_r _ [1238, 296, 351, 1379, 1380, 1381, 1382, 1383, 1384, 1385, 1386, 1387, 1388, 1389, 1390, 1391, 1392, 1393, 1394, 1395, 1396, 1397, 1398, 1399, 1400] (by decide +kernel) (by decide +kernel)
set_option maxRecDepth 20000 in
theorem gL_law_X9_used : GoodIn wsL_law (wsV RL 249 RX9 yX9_used wsX9_used) := goodIn_app (goodIn_of _ (by decide +kernel)) ggL_law_X9_used
set_option maxRecDepth 20000 in
theorem ggL_law_L_count : GoodIn wsL_law wsL_count := goodIn_ca (goodIn_ca (goodIn_r _ [1241, 145, 1242, 1243, 1244, 2, 1245, 152, 153, 1246, 1247, 1248, 1249, 17, 159, 160, 161, 16, 162, 163, 181, 182, 183, 184, 40, 168, 169, 170, 39, 171, 49, 1250, 1251, 1252, 1253, 25, 571, 238, 239, 240, 42, 185, 186, 187, 24, 188, 77, 189, 1373, 1374, 1375, 1376, 1377, 1378, 1401, 1402, 1403, 1404, 1405, 1432, 1410, 1411, 1412, 1413, 1414, 1415, 1416, 1417, 1418, 1419, 1420, 1421, 1422] (by decide +kernel) (by decide +kernel)) (goodIn_sub (fun _ h => List.mem_append_left _ (List.mem_append_left _ (List.mem_append_left _ (List.mem_append_left _ (List.mem_append_left _ (List.mem_append_left _ (List.mem_append_right _ h))))))) (by decide +kernel))) (goodIn_sub (fun _ h => List.mem_append_left _ (List.mem_append_left _ (List.mem_append_left _ (List.mem_append_left _ (List.mem_append_left _ (List.mem_append_right _ h)))))) (by decide +kernel))
set_option maxRecDepth 20000 in
theorem gL_law_L_count : GoodIn wsL_law (va_wsS RL 250 yL_count wsL_count) := goodIn_app (goodIn_of _ (by decide +kernel)) ggL_law_L_count
set_option maxRecDepth 20000 in
theorem ggL_law_X9_count : GoodIn wsL_law wsX9_count := goodIn_ca (goodIn_r _ [1257, 296, 1258, 1259, 1260, 5, 1261, 297, 129, 122, 131, 302, 303, 304, 305, 1379, 1380, 1381, 1382, 1383, 1384, 1385, 1386, 1387, 1388, 1389, 1390, 1391, 1392, 1393, 1394, 1395, 1396, 1397, 1398, 1399, 1400] (by decide +kernel) (by decide +kernel)) (goodIn_sub (fun _ h => List.mem_append_left _ (List.mem_append_left _ (List.mem_append_left _ (List.mem_append_left _ (List.mem_append_left _ (List.mem_append_left _ (List.mem_append_right _ h))))))) (by decide +kernel))
set_option maxRecDepth 20000 in
theorem gL_law_X9_count : GoodIn wsL_law (wsV RL 253 RX9 yX9_count wsX9_count) := goodIn_app (goodIn_of _ (by decide +kernel)) ggL_law_X9_count
set_option maxRecDepth 20000 in
theorem ggL_law_X8_sum : GoodIn wsL_law wsX8_sum := goodIn_ca (goodIn_r _ [1265, 1266, 1267, 1268, 2, 1269, 17, 25, 159, 160, 161, 16, 162, 163, 181, 182, 183, 184, 40, 168, 169, 170, 39, 171, 49, 400, 195, 196, 197, 42, 688, 256, 257, 24, 258, 74, 189, 1373, 1374, 1375, 1376, 1377, 1378, 1401, 1402, 1403, 1404, 1405, 1432, 1410, 1411, 1412, 1413, 1414, 1415, 1416, 1417, 1418, 1419, 1420, 1421, 1422] (by decide +kernel) (by decide +kernel)) (goodIn_sub (fun _ h => List.mem_append_left _ (List.mem_append_left _ (List.mem_append_left _ (List.mem_append_left _ (List.mem_append_left _ (List.mem_append_left _ (List.mem_append_right _ h))))))) (by decide +kernel))
set_option maxRecDepth 20000 in
theorem gL_law_X8_sum : GoodIn wsL_law (wsV RL 254 RX8 yX8_sum wsX8_sum) := goodIn_app (goodIn_of _ (by decide +kernel)) ggL_law_X8_sum
set_option maxRecDepth 20000 in
theorem ggL_law_X9_sum : GoodIn wsL_law wsX9_sum := goodIn_ca (goodIn_r _ [1273, 296, 297, 122, 129, 126, 1379, 1380, 1381, 1382, 1383, 1384, 1385, 1386, 1387, 1388, 1389, 1390, 1391, 1392, 1393, 1394, 1395, 1396, 1397, 1398, 1399, 1400] (by decide +kernel) (by decide +kernel)) (goodIn_sub (fun _ h => List.mem_append_left _ (List.mem_append_left _ (List.mem_append_left _ (List.mem_append_left _ (List.mem_append_left _ (List.mem_append_left _ (List.mem_append_right _ h))))))) (by decide +kernel))
set_option maxRecDepth 20000 in
theorem gL_law_X9_sum : GoodIn wsL_law (wsV RL 258 RX9 yX9_sum wsX9_sum) := goodIn_app (goodIn_of _ (by decide +kernel)) ggL_law_X9_sum
set_option maxRecDepth 20000 in
theorem ggL_law_X8_isUnique : GoodIn wsL_law wsX8_isUnique := goodIn_ca (goodIn_r _ [1277, 17, 29, 159, 160, 161, 16, 162, 163, 1278, 1279, 1280, 28, 1281, 102, 98, 101, 99, 1282, 182, 183, 184, 40, 168, 169, 170, 39, 171, 49, 1195, 238, 239, 240, 42, 766, 767, 768, 769, 104, 103, 770, 771, 772, 97, 773, 774, 775, 776, 777, 778, 661, 199, 200, 201, 43, 779, 780, 781, 782, 783, 658, 659, 660, 784, 785, 786, 787, 788, 789, 790, 791, 109, 792, 256, 257, 24, 258, 74, 189, 793, 195, 196, 197, 794, 506, 507, 20, 508, 55, 234, 795, 796, 797, 798, 799, 800, 801, 802, 803, 804, 805, 806, 807, 808, 809, 810, 811, 812, 813, 814, 815, 816, 817, 818, 819, 820, 821, 822, 823, 824, 825, 826, 827, 828, 289, 290, 291, 75, 829, 1283, 1284, 1285, 1286, 1287, 61, 62, 63, 1288, 1289, 1290, 1291, 1292, 1293, 1373, 1374, 1375, 1376, 1377, 1378, 1401, 1402, 1403, 1404, 1405, 1423, 1424, 1425, 1426, 1427, 1428, 1432, 1436, 1437, 1410, 1411, 1412, 1413, 1414, 1415, 1416, 1417, 1418, 1419, 1420, 1421, 1422, 1406, 1407, 1408, 1409] (by decide +kernel) (by decide +kernel)) (goodIn_sub (fun _ h => List.mem_append_left _ (List.mem_append_left _ (List.mem_append_left _ (List.mem_append_left _ (List.mem_append_left _ (List.mem_append_left _ (List.mem_append_right _ h))))))) (by decide +kernel))
set_option maxRecDepth 20000 in
theorem gL_law_X8_isUnique : GoodIn wsL_law (wsV RL 259 RX8 yX8_isUnique wsX8_isUnique) := goodIn_app (goodIn_of _ (by decide +kernel)) ggL_law_X8_isUnique
set_option maxRecDepth 20000 in
theorem ggL_law_X9_isUnique : GoodIn wsL_law wsX9_isUnique := goodIn_ca (goodIn_r _ [1297, 296, 297, 122, 129, 838, 839, 840, 5, 841, 842, 843, 844, 125, 845, 846, 847, 848, 849, 850, 851, 852, 12, 13, 853, 854, 855, 856, 857, 858, 859, 860, 861, 862, 863, 864, 865, 866, 867, 868, 666, 667, 668, 669, 869, 870, 871, 872, 873, 874, 875, 876, 877, 878, 879, 880, 881, 882, 883, 884, 885, 886, 887, 888, 889, 890, 891, 892, 893, 894, 895, 896, 897, 898, 899, 900, 901, 902, 264, 265, 266, 903, 904, 905, 906, 907, 908, 909, 910, 911, 912, 913, 914, 915, 916, 917, 918, 919, 920, 921, 922, 923, 924, 925, 926, 927, 928, 929, 930, 931, 932, 933, 934, 935, 936, 937, 938, 939, 940, 941, 942, 943, 944, 945, 946, 947, 948, 949, 950, 951, 952, 953, 954, 955, 956, 957, 958, 959, 960, 961, 962, 963, 964, 965, 966, 967, 968, 969, 970, 971, 972, 973, 974, 975, 976, 977, 978, 979, 980, 135, 126, 127, 981, 982, 983, 984, 985, 986, 987, 988, 989, 990, 991, 992, 993, 994, 995, 996, 997, 998, 999, 1000, 1001, 1002, 1003, 1004, 1005, 1006, 1007, 1008, 1009, 1010, 1011, 1012, 1013, 1014, 1015, 1016, 1017, 1018, 1019, 1020, 48, 1021, 1022, 1023, 1024, 1025, 1026, 1027, 1028, 1029, 1030, 1031, 1032, 1033, 1034, 1035, 1036, 1037, 1038, 1039, 1040, 1041, 1042, 1043, 1044, 1045, 1046, 1047, 1048, 1049, 1050, 1051, 1052, 1053, 1054, 1055, 1056, 1057, 1058, 1059, 1060, 1061, 1062, 1063, 1064, 1065, 1066, 1067, 1068, 1069, 1070, 1071, 1072, 1073, 1074, 1075, 1076, 1077, 1078, 1079, 1080, 1081, 1082, 1083, 1084, 1085, 1086, 1087, 1088, 1089, 1090, 1091, 1092, 1093, 1298, 1299, 1300, 1379, 1380, 1381, 1382, 1383, 1384, 1385, 1386, 1387, 1388, 1389, 1390, 1391, 1392, 1393, 1394, 1395, 1396, 1397, 1398, 1399, 1400, 1438, 1439, 1440, 1441, 1442, 1443, 1444, 1445] (by decide +kernel) (by decide +kernel)) (goodIn_sub (fun _ h => List.mem_append_left _ (List.mem_append_left _ (List.mem_append_left _ (List.mem_append_left _ (List.mem_append_left _ (List.mem_append_left _ (List.mem_append_right _ h))))))) (by decide +kernel))
set_option maxRecDepth 20000 in
theorem gL_law_X9_isUnique : GoodIn wsL_law (wsV RL 263 RX9 yX9_isUnique wsX9_isUnique) := goodIn_app (goodIn_of _ (by decide +kernel)) ggL_law_X9_isUnique
set_option maxRecDepth 20000 in
theorem ggL_law_L_frozenShare : GoodIn wsL_law wsL_frozenShare := goodIn_ca (goodIn_ca (goodIn_r _ [1303, 1304, 1305, 1306, 1307, 2, 1308, 1309, 1310, 1311, 1312, 1313, 1314, 1315, 1316, 1317, 1318, 17, 159, 160, 161, 16, 162, 163, 1246, 1247, 1248, 1249, 181, 182, 183, 184, 40, 168, 169, 170, 39, 171, 49, 1250, 1251, 1252, 1253, 25, 571, 238, 239, 240, 42, 185, 186, 187, 24, 188, 77, 189, 1319, 1320, 1321, 1322, 1373, 1374, 1375, 1376, 1377, 1378, 1401, 1402, 1403, 1404, 1405, 1432, 1410, 1411, 1412, 1413, 1414, 1415, 1416, 1417, 1418, 1419, 1420, 1421, 1422] (by decide +kernel) (by decide +kernel)) (goodIn_sub (fun _ h => List.mem_append_left _ (List.mem_append_left _ (List.mem_append_left _ (List.mem_append_left _ (List.mem_append_left _ (List.mem_append_left _ (List.mem_append_right _ h))))))) (by decide +kernel))) (goodIn_sub (fun _ h => List.mem_append_right _ h) (by decide +kernel))
set_option maxRecDepth 20000 in
theorem gL_law_L_frozenShare : GoodIn wsL_law (va_wsS RL 264 yL_frozenShare wsL_frozenShare) := goodIn_app (goodIn_of _ (by decide +kernel)) ggL_law_L_frozenShare
set_option maxRecDepth 20000 in
theorem ggL_law_X9_frozenShare : GoodIn wsL_law wsX9_frozenShare := goodIn_ca (goodIn_r _ [1326, 296, 1327, 1328, 1329, 5, 1330, 1258, 1259, 1260, 1261, 297, 129, 122, 131, 302, 303, 304, 305, 1379, 1380, 1381, 1382, 1383, 1384, 1385, 1386, 1387, 1388, 1389, 1390, 1391, 1392, 1393, 1394, 1395, 1396, 1397, 1398, 1399, 1400] (by decide +kernel) (by decide +kernel)) (goodIn_sub (fun _ h => List.mem_append_left _ (List.mem_append_left _ (List.mem_append_left _ (List.mem_append_left _ (List.mem_append_left _ (List.mem_append_left _ (List.mem_append_right _ h))))))) (by decide +kernel))
set_option maxRecDepth 20000 in
theorem gL_law_X9_frozenShare : GoodIn wsL_law (wsV RL 267 RX9 yX9_frozenShare wsX9_frozenShare) := goodIn_app (goodIn_of _ (by decide +kernel)) ggL_law_X9_frozenShare
set_option maxRecDepth 20000 in
theorem ggL_law_L_shareBits : GoodIn wsL_law wsL_shareBits := goodIn_ca (goodIn_ca (goodIn_r _ [1333, 1304, 1334, 1335, 1336, 2, 1337, 1309, 1310, 1311, 1312, 1313, 1314, 1315, 1316, 1317, 1318, 17, 159, 160, 161, 16, 162, 163, 1246, 1247, 1248, 1249, 181, 182, 183, 184, 40, 168, 169, 170, 39, 171, 49, 1250, 1251, 1252, 1253, 25, 571, 238, 239, 240, 42, 185, 186, 187, 24, 188, 77, 189, 1319, 1320, 1321, 1322, 1338, 1339, 1340, 1341, 1373, 1374, 1375, 1376, 1377, 1378, 1401, 1402, 1403, 1404, 1405, 1432, 1410, 1411, 1412, 1413, 1414, 1415, 1416, 1417, 1418, 1419, 1420, 1421, 1422] (by decide +kernel) (by decide +kernel)) (goodIn_sub (fun _ h => List.mem_append_left _ (List.mem_append_left _ (List.mem_append_left _ (List.mem_append_left _ (List.mem_append_left _ (List.mem_append_left _ (List.mem_append_right _ h))))))) (by decide +kernel))) (goodIn_sub (fun _ h => List.mem_append_right _ h) (by decide +kernel))
set_option maxRecDepth 20000 in
theorem gL_law_L_shareBits : GoodIn wsL_law (va_wsS RL 268 yL_shareBits wsL_shareBits) := goodIn_app (goodIn_of _ (by decide +kernel)) ggL_law_L_shareBits
set_option maxRecDepth 20000 in
theorem ggL_law_X9_shareBits : GoodIn wsL_law wsX9_shareBits := goodIn_ca (goodIn_r _ [1345, 296, 1327, 1328, 1329, 5, 1330, 1258, 1259, 1260, 1261, 297, 129, 122, 131, 302, 303, 304, 305, 1346, 1347, 1348, 1349, 1350, 1351, 1352, 1353, 1354, 1355, 1356, 1357, 1379, 1380, 1381, 1382, 1383, 1384, 1385, 1386, 1387, 1388, 1389, 1390, 1391, 1392, 1393, 1394, 1395, 1396, 1397, 1398, 1399, 1400] (by decide +kernel) (by decide +kernel)) (goodIn_sub (fun _ h => List.mem_append_left _ (List.mem_append_left _ (List.mem_append_left _ (List.mem_append_left _ (List.mem_append_left _ (List.mem_append_left _ (List.mem_append_right _ h))))))) (by decide +kernel))
set_option maxRecDepth 20000 in
theorem gL_law_X9_shareBits : GoodIn wsL_law (wsV RL 271 RX9 yX9_shareBits wsX9_shareBits) := goodIn_app (goodIn_of _ (by decide +kernel)) ggL_law_X9_shareBits
set_option maxRecDepth 20000 in
theorem ggL_law_L_meanNumber : GoodIn wsL_law wsL_meanNumber := goodIn_ca (goodIn_ca (goodIn_ca (goodIn_r _ [1360, 145, 1304, 1361, 1362, 1363, 2, 1364, 1313, 1314, 463, 464, 465, 466, 152, 153, 1365, 1366, 1367, 1368, 17, 159, 160, 161, 16, 162, 163, 181, 182, 183, 184, 40, 168, 169, 170, 39, 171, 49, 400, 195, 196, 197, 42, 1266, 1267, 1268, 1269, 25, 688, 256, 257, 24, 258, 74, 189, 1373, 1374, 1375, 1376, 1377, 1378, 1401, 1402, 1403, 1404, 1405, 1432, 1410, 1411, 1412, 1413, 1414, 1415, 1416, 1417, 1418, 1419, 1420, 1421, 1422] (by decide +kernel) (by decide +kernel)) (goodIn_sub (fun _ h => List.mem_append_left _ (List.mem_append_left _ (List.mem_append_left _ (List.mem_append_left _ (List.mem_append_left _ (List.mem_append_left _ (List.mem_append_right _ h))))))) (by decide +kernel))) (goodIn_sub (fun _ h => List.mem_append_right _ h) (by decide +kernel))) (goodIn_sub (fun _ h => List.mem_append_left _ (List.mem_append_left _ (List.mem_append_left _ (List.mem_append_left _ (List.mem_append_left _ (List.mem_append_right _ h)))))) (by decide +kernel))
set_option maxRecDepth 20000 in
theorem gL_law_L_meanNumber : GoodIn wsL_law (va_wsS RL 272 yL_meanNumber wsL_meanNumber) := goodIn_app (goodIn_of _ (by decide +kernel)) ggL_law_L_meanNumber
set_option maxRecDepth 20000 in
theorem ggL_law_X9_meanNumber : GoodIn wsL_law wsX9_meanNumber := goodIn_ca (goodIn_r _ [1372, 296, 297, 122, 129, 126, 484, 485, 5, 486, 299, 300, 301, 302, 303, 304, 305, 1379, 1380, 1381, 1382, 1383, 1384, 1385, 1386, 1387, 1388, 1389, 1390, 1391, 1392, 1393, 1394, 1395, 1396, 1397, 1398, 1399, 1400] (by decide +kernel) (by decide +kernel)) (goodIn_sub (fun _ h => List.mem_append_left _ (List.mem_append_left _ (List.mem_append_left _ (List.mem_append_left _ (List.mem_append_left _ (List.mem_append_left _ (List.mem_append_right _ h))))))) (by decide +kernel))
set_option maxRecDepth 20000 in
theorem gL_law_X9_meanNumber : GoodIn wsL_law (wsV RL 275 RX9 yX9_meanNumber wsX9_meanNumber) := goodIn_app (goodIn_of _ (by decide +kernel)) ggL_law_X9_meanNumber
theorem dL_law_0 : decode cL_law 0 = .ok (.new 8, 3) := by decide +kernel
theorem dL_law_3 : decode cL_law 3 = .ok (.dup, 1) := by decide +kernel
theorem dL_law_4 : decode cL_law 4 = .ok (.invokespecial 130, 3) := by decide +kernel
theorem dL_law_7 : decode cL_law 7 = .ok (.astore_n 1, 1) := by decide +kernel
theorem dL_law_8 : decode cL_law 8 = .ok (.new 131, 3) := by decide +kernel
theorem dL_law_11 : decode cL_law 11 = .ok (.dup, 1) := by decide +kernel
theorem dL_law_12 : decode cL_law 12 = .ok (.invokespecial 133, 3) := by decide +kernel
theorem dL_law_15 : decode cL_law 15 = .ok (.astore_n 2, 1) := by decide +kernel
theorem dL_law_16 : decode cL_law 16 = .ok (.iconst 1, 1) := by decide +kernel
theorem dL_law_17 : decode cL_law 17 = .ok (.newarray .long, 2) := by decide +kernel
theorem dL_law_19 : decode cL_law 19 = .ok (.astore_n 3, 1) := by decide +kernel
theorem dL_law_20 : decode cL_law 20 = .ok (.iconst 1, 1) := by decide +kernel
theorem dL_law_21 : decode cL_law 21 = .ok (.newarray .double, 2) := by decide +kernel
theorem dL_law_23 : decode cL_law 23 = .ok (.astore 4, 2) := by decide +kernel
theorem dL_law_25 : decode cL_law 25 = .ok (.iconst 0, 1) := by decide +kernel
theorem dL_law_26 : decode cL_law 26 = .ok (.istore 5, 2) := by decide +kernel
theorem dL_law_28 : decode cL_law 28 = .ok (.iload 5, 2) := by decide +kernel
theorem dL_law_30 : decode cL_law 30 = .ok (.aload_n 0, 1) := by decide +kernel
theorem dL_law_31 : decode cL_law 31 = .ok (.arraylength, 1) := by decide +kernel
theorem dL_law_32 : decode cL_law 32 = .ok (.iconst 3, 1) := by decide +kernel
theorem dL_law_33 : decode cL_law 33 = .ok (.isub, 1) := by decide +kernel
theorem dL_law_34 : decode cL_law 34 = .ok (.if_icmp .gt 2348, 3) := by decide +kernel
theorem dL_law_37 : decode cL_law 37 = .ok (.aload_n 0, 1) := by decide +kernel
theorem dL_law_38 : decode cL_law 38 = .ok (.iload 5, 2) := by decide +kernel
theorem dL_law_40 : decode cL_law 40 = .ok (.iaload, 1) := by decide +kernel
theorem dL_law_41 : decode cL_law 41 = .ok (.bipush 63, 2) := by decide +kernel
theorem dL_law_43 : decode cL_law 43 = .ok (.iand, 1) := by decide +kernel
theorem dL_law_44 : decode cL_law 44 = .ok (.tableswitch 2332 0 39 #[176, 244, 312, 380, 436, 504, 572, 640, 708, 778, 869, 882, 950, 963, 1019, 1075, 1131, 1187, 1243, 1306, 1362, 1418, 1474, 1530, 1586, 1642, 1710, 1778, 1791, 1847, 1910, 1966, 2034, 2047, 2060, 2118, 2132, 2145, 2211, 2255], 176) := by decide +kernel
theorem dL_law_220 : decode cL_law 220 = .ok (.aload_n 1, 1) := by decide +kernel
theorem dL_law_221 : decode cL_law 221 = .ok (.aload_n 0, 1) := by decide +kernel
theorem dL_law_222 : decode cL_law 222 = .ok (.iload 5, 2) := by decide +kernel
theorem dL_law_224 : decode cL_law 224 = .ok (.iconst 1, 1) := by decide +kernel
theorem dL_law_225 : decode cL_law 225 = .ok (.iadd, 1) := by decide +kernel
theorem dL_law_226 : decode cL_law 226 = .ok (.iaload, 1) := by decide +kernel
theorem dL_law_227 : decode cL_law 227 = .ok (.aload_n 0, 1) := by decide +kernel
theorem dL_law_228 : decode cL_law 228 = .ok (.iload 5, 2) := by decide +kernel
theorem dL_law_230 : decode cL_law 230 = .ok (.iconst 2, 1) := by decide +kernel
theorem dL_law_231 : decode cL_law 231 = .ok (.iadd, 1) := by decide +kernel
theorem dL_law_232 : decode cL_law 232 = .ok (.iaload, 1) := by decide +kernel
theorem dL_law_233 : decode cL_law 233 = .ok (.aload_n 3, 1) := by decide +kernel
theorem dL_law_234 : decode cL_law 234 = .ok (.invokestatic 134, 3) := by decide +kernel
theorem dL_law_237 : decode cL_law 237 = .ok (.istore 6, 2) := by decide +kernel
theorem dL_law_239 : decode cL_law 239 = .ok (.aload_n 2, 1) := by decide +kernel
theorem dL_law_240 : decode cL_law 240 = .ok (.aload_n 0, 1) := by decide +kernel
theorem dL_law_241 : decode cL_law 241 = .ok (.iload 5, 2) := by decide +kernel
theorem dL_law_243 : decode cL_law 243 = .ok (.iconst 1, 1) := by decide +kernel
theorem dL_law_244 : decode cL_law 244 = .ok (.iadd, 1) := by decide +kernel
theorem dL_law_245 : decode cL_law 245 = .ok (.iaload, 1) := by decide +kernel
theorem dL_law_246 : decode cL_law 246 = .ok (.aload_n 0, 1) := by decide +kernel
theorem dL_law_247 : decode cL_law 247 = .ok (.iload 5, 2) := by decide +kernel
theorem dL_law_249 : decode cL_law 249 = .ok (.iconst 2, 1) := by decide +kernel
theorem dL_law_250 : decode cL_law 250 = .ok (.iadd, 1) := by decide +kernel
theorem dL_law_251 : decode cL_law 251 = .ok (.iaload, 1) := by decide +kernel
theorem dL_law_252 : decode cL_law 252 = .ok (.invokevirtual 139, 3) := by decide +kernel
theorem dL_law_255 : decode cL_law 255 = .ok (.istore 7, 2) := by decide +kernel
theorem dL_law_257 : decode cL_law 257 = .ok (.aload_n 2, 1) := by decide +kernel
theorem dL_law_258 : decode cL_law 258 = .ok (.invokevirtual 140, 3) := by decide +kernel
theorem dL_law_261 : decode cL_law 261 = .ok (.iload 6, 2) := by decide +kernel
theorem dL_law_263 : decode cL_law 263 = .ok (.if_icmp .eq 5, 3) := by decide +kernel
theorem dL_law_266 : decode cL_law 266 = .ok (.iconst 0, 1) := by decide +kernel
theorem dL_law_267 : decode cL_law 267 = .ok (.ireturn, 1) := by decide +kernel
theorem dL_law_268 : decode cL_law 268 = .ok (.iload 6, 2) := by decide +kernel
theorem dL_law_270 : decode cL_law 270 = .ok (.ifCond .ne 15, 3) := by decide +kernel
theorem dL_law_273 : decode cL_law 273 = .ok (.aload_n 3, 1) := by decide +kernel
theorem dL_law_274 : decode cL_law 274 = .ok (.iconst 0, 1) := by decide +kernel
theorem dL_law_275 : decode cL_law 275 = .ok (.laload, 1) := by decide +kernel
theorem dL_law_276 : decode cL_law 276 = .ok (.iload 7, 2) := by decide +kernel
theorem dL_law_278 : decode cL_law 278 = .ok (.i2l, 1) := by decide +kernel
theorem dL_law_279 : decode cL_law 279 = .ok (.lcmp, 1) := by decide +kernel
theorem dL_law_280 : decode cL_law 280 = .ok (.ifCond .eq 5, 3) := by decide +kernel
theorem dL_law_283 : decode cL_law 283 = .ok (.iconst 0, 1) := by decide +kernel
theorem dL_law_284 : decode cL_law 284 = .ok (.ireturn, 1) := by decide +kernel
theorem dL_law_285 : decode cL_law 285 = .ok (.goto 2091, 3) := by decide +kernel
theorem dL_law_288 : decode cL_law 288 = .ok (.aload_n 1, 1) := by decide +kernel
theorem dL_law_289 : decode cL_law 289 = .ok (.aload_n 0, 1) := by decide +kernel
theorem dL_law_290 : decode cL_law 290 = .ok (.iload 5, 2) := by decide +kernel
theorem dL_law_292 : decode cL_law 292 = .ok (.iconst 1, 1) := by decide +kernel
theorem dL_law_293 : decode cL_law 293 = .ok (.iadd, 1) := by decide +kernel
theorem dL_law_294 : decode cL_law 294 = .ok (.iaload, 1) := by decide +kernel
theorem dL_law_295 : decode cL_law 295 = .ok (.aload_n 0, 1) := by decide +kernel
theorem dL_law_296 : decode cL_law 296 = .ok (.iload 5, 2) := by decide +kernel
theorem dL_law_298 : decode cL_law 298 = .ok (.iconst 2, 1) := by decide +kernel
theorem dL_law_299 : decode cL_law 299 = .ok (.iadd, 1) := by decide +kernel
theorem dL_law_300 : decode cL_law 300 = .ok (.iaload, 1) := by decide +kernel
theorem dL_law_301 : decode cL_law 301 = .ok (.aload_n 3, 1) := by decide +kernel
theorem dL_law_302 : decode cL_law 302 = .ok (.invokestatic 143, 3) := by decide +kernel
theorem dL_law_305 : decode cL_law 305 = .ok (.istore 6, 2) := by decide +kernel
theorem dL_law_307 : decode cL_law 307 = .ok (.aload_n 2, 1) := by decide +kernel
theorem dL_law_308 : decode cL_law 308 = .ok (.aload_n 0, 1) := by decide +kernel
theorem dL_law_309 : decode cL_law 309 = .ok (.iload 5, 2) := by decide +kernel
theorem dL_law_311 : decode cL_law 311 = .ok (.iconst 1, 1) := by decide +kernel
theorem dL_law_312 : decode cL_law 312 = .ok (.iadd, 1) := by decide +kernel
theorem dL_law_313 : decode cL_law 313 = .ok (.iaload, 1) := by decide +kernel
theorem dL_law_314 : decode cL_law 314 = .ok (.aload_n 0, 1) := by decide +kernel
theorem dL_law_315 : decode cL_law 315 = .ok (.iload 5, 2) := by decide +kernel
theorem dL_law_317 : decode cL_law 317 = .ok (.iconst 2, 1) := by decide +kernel
theorem dL_law_318 : decode cL_law 318 = .ok (.iadd, 1) := by decide +kernel
theorem dL_law_319 : decode cL_law 319 = .ok (.iaload, 1) := by decide +kernel
theorem dL_law_320 : decode cL_law 320 = .ok (.invokevirtual 145, 3) := by decide +kernel
theorem dL_law_323 : decode cL_law 323 = .ok (.istore 7, 2) := by decide +kernel
theorem dL_law_325 : decode cL_law 325 = .ok (.aload_n 2, 1) := by decide +kernel
theorem dL_law_326 : decode cL_law 326 = .ok (.invokevirtual 140, 3) := by decide +kernel
theorem dL_law_329 : decode cL_law 329 = .ok (.iload 6, 2) := by decide +kernel
theorem dL_law_331 : decode cL_law 331 = .ok (.if_icmp .eq 5, 3) := by decide +kernel
theorem dL_law_334 : decode cL_law 334 = .ok (.iconst 0, 1) := by decide +kernel
theorem dL_law_335 : decode cL_law 335 = .ok (.ireturn, 1) := by decide +kernel
theorem dL_law_336 : decode cL_law 336 = .ok (.iload 6, 2) := by decide +kernel
theorem dL_law_338 : decode cL_law 338 = .ok (.ifCond .ne 15, 3) := by decide +kernel
theorem dL_law_341 : decode cL_law 341 = .ok (.aload_n 3, 1) := by decide +kernel
theorem dL_law_342 : decode cL_law 342 = .ok (.iconst 0, 1) := by decide +kernel
theorem dL_law_343 : decode cL_law 343 = .ok (.laload, 1) := by decide +kernel
theorem dL_law_344 : decode cL_law 344 = .ok (.iload 7, 2) := by decide +kernel
theorem dL_law_346 : decode cL_law 346 = .ok (.i2l, 1) := by decide +kernel
theorem dL_law_347 : decode cL_law 347 = .ok (.lcmp, 1) := by decide +kernel
theorem dL_law_348 : decode cL_law 348 = .ok (.ifCond .eq 5, 3) := by decide +kernel
theorem dL_law_351 : decode cL_law 351 = .ok (.iconst 0, 1) := by decide +kernel
theorem dL_law_352 : decode cL_law 352 = .ok (.ireturn, 1) := by decide +kernel
theorem dL_law_353 : decode cL_law 353 = .ok (.goto 2023, 3) := by decide +kernel
theorem dL_law_356 : decode cL_law 356 = .ok (.aload_n 1, 1) := by decide +kernel
theorem dL_law_357 : decode cL_law 357 = .ok (.aload_n 0, 1) := by decide +kernel
theorem dL_law_358 : decode cL_law 358 = .ok (.iload 5, 2) := by decide +kernel
theorem dL_law_360 : decode cL_law 360 = .ok (.iconst 1, 1) := by decide +kernel
theorem dL_law_361 : decode cL_law 361 = .ok (.iadd, 1) := by decide +kernel
theorem dL_law_362 : decode cL_law 362 = .ok (.iaload, 1) := by decide +kernel
theorem dL_law_363 : decode cL_law 363 = .ok (.aload_n 0, 1) := by decide +kernel
theorem dL_law_364 : decode cL_law 364 = .ok (.iload 5, 2) := by decide +kernel
theorem dL_law_366 : decode cL_law 366 = .ok (.iconst 2, 1) := by decide +kernel
theorem dL_law_367 : decode cL_law 367 = .ok (.iadd, 1) := by decide +kernel
theorem dL_law_368 : decode cL_law 368 = .ok (.iaload, 1) := by decide +kernel
theorem dL_law_369 : decode cL_law 369 = .ok (.aload_n 3, 1) := by decide +kernel
theorem dL_law_370 : decode cL_law 370 = .ok (.invokestatic 146, 3) := by decide +kernel
theorem dL_law_373 : decode cL_law 373 = .ok (.istore 6, 2) := by decide +kernel
theorem dL_law_375 : decode cL_law 375 = .ok (.aload_n 2, 1) := by decide +kernel
theorem dL_law_376 : decode cL_law 376 = .ok (.aload_n 0, 1) := by decide +kernel
theorem dL_law_377 : decode cL_law 377 = .ok (.iload 5, 2) := by decide +kernel
theorem dL_law_379 : decode cL_law 379 = .ok (.iconst 1, 1) := by decide +kernel
theorem dL_law_380 : decode cL_law 380 = .ok (.iadd, 1) := by decide +kernel
theorem dL_law_381 : decode cL_law 381 = .ok (.iaload, 1) := by decide +kernel
theorem dL_law_382 : decode cL_law 382 = .ok (.aload_n 0, 1) := by decide +kernel
theorem dL_law_383 : decode cL_law 383 = .ok (.iload 5, 2) := by decide +kernel
theorem dL_law_385 : decode cL_law 385 = .ok (.iconst 2, 1) := by decide +kernel
theorem dL_law_386 : decode cL_law 386 = .ok (.iadd, 1) := by decide +kernel
theorem dL_law_387 : decode cL_law 387 = .ok (.iaload, 1) := by decide +kernel
theorem dL_law_388 : decode cL_law 388 = .ok (.invokevirtual 148, 3) := by decide +kernel
theorem dL_law_391 : decode cL_law 391 = .ok (.istore 7, 2) := by decide +kernel
theorem dL_law_393 : decode cL_law 393 = .ok (.aload_n 2, 1) := by decide +kernel
theorem dL_law_394 : decode cL_law 394 = .ok (.invokevirtual 140, 3) := by decide +kernel
theorem dL_law_397 : decode cL_law 397 = .ok (.iload 6, 2) := by decide +kernel
theorem dL_law_399 : decode cL_law 399 = .ok (.if_icmp .eq 5, 3) := by decide +kernel
theorem dL_law_402 : decode cL_law 402 = .ok (.iconst 0, 1) := by decide +kernel
theorem dL_law_403 : decode cL_law 403 = .ok (.ireturn, 1) := by decide +kernel
theorem dL_law_404 : decode cL_law 404 = .ok (.iload 6, 2) := by decide +kernel
theorem dL_law_406 : decode cL_law 406 = .ok (.ifCond .ne 15, 3) := by decide +kernel
theorem dL_law_409 : decode cL_law 409 = .ok (.aload_n 3, 1) := by decide +kernel
theorem dL_law_410 : decode cL_law 410 = .ok (.iconst 0, 1) := by decide +kernel
theorem dL_law_411 : decode cL_law 411 = .ok (.laload, 1) := by decide +kernel
theorem dL_law_412 : decode cL_law 412 = .ok (.iload 7, 2) := by decide +kernel
theorem dL_law_414 : decode cL_law 414 = .ok (.i2l, 1) := by decide +kernel
theorem dL_law_415 : decode cL_law 415 = .ok (.lcmp, 1) := by decide +kernel
theorem dL_law_416 : decode cL_law 416 = .ok (.ifCond .eq 5, 3) := by decide +kernel
theorem dL_law_419 : decode cL_law 419 = .ok (.iconst 0, 1) := by decide +kernel
theorem dL_law_420 : decode cL_law 420 = .ok (.ireturn, 1) := by decide +kernel
theorem dL_law_421 : decode cL_law 421 = .ok (.goto 1955, 3) := by decide +kernel
theorem dL_law_424 : decode cL_law 424 = .ok (.aload_n 1, 1) := by decide +kernel
theorem dL_law_425 : decode cL_law 425 = .ok (.aload_n 0, 1) := by decide +kernel
theorem dL_law_426 : decode cL_law 426 = .ok (.iload 5, 2) := by decide +kernel
theorem dL_law_428 : decode cL_law 428 = .ok (.iconst 1, 1) := by decide +kernel
theorem dL_law_429 : decode cL_law 429 = .ok (.iadd, 1) := by decide +kernel
theorem dL_law_430 : decode cL_law 430 = .ok (.iaload, 1) := by decide +kernel
theorem dL_law_431 : decode cL_law 431 = .ok (.aload_n 3, 1) := by decide +kernel
theorem dL_law_432 : decode cL_law 432 = .ok (.invokestatic 149, 3) := by decide +kernel
theorem dL_law_435 : decode cL_law 435 = .ok (.istore 6, 2) := by decide +kernel
theorem dL_law_437 : decode cL_law 437 = .ok (.aload_n 2, 1) := by decide +kernel
theorem dL_law_438 : decode cL_law 438 = .ok (.aload_n 0, 1) := by decide +kernel
theorem dL_law_439 : decode cL_law 439 = .ok (.iload 5, 2) := by decide +kernel
theorem dL_law_441 : decode cL_law 441 = .ok (.iconst 1, 1) := by decide +kernel
theorem dL_law_442 : decode cL_law 442 = .ok (.iadd, 1) := by decide +kernel
theorem dL_law_443 : decode cL_law 443 = .ok (.iaload, 1) := by decide +kernel
theorem dL_law_444 : decode cL_law 444 = .ok (.invokevirtual 152, 3) := by decide +kernel
theorem dL_law_447 : decode cL_law 447 = .ok (.istore 7, 2) := by decide +kernel
theorem dL_law_449 : decode cL_law 449 = .ok (.aload_n 2, 1) := by decide +kernel
theorem dL_law_450 : decode cL_law 450 = .ok (.invokevirtual 140, 3) := by decide +kernel
theorem dL_law_453 : decode cL_law 453 = .ok (.iload 6, 2) := by decide +kernel
theorem dL_law_455 : decode cL_law 455 = .ok (.if_icmp .eq 5, 3) := by decide +kernel
theorem dL_law_458 : decode cL_law 458 = .ok (.iconst 0, 1) := by decide +kernel
theorem dL_law_459 : decode cL_law 459 = .ok (.ireturn, 1) := by decide +kernel
theorem dL_law_460 : decode cL_law 460 = .ok (.iload 6, 2) := by decide +kernel
theorem dL_law_462 : decode cL_law 462 = .ok (.ifCond .ne 15, 3) := by decide +kernel
theorem dL_law_465 : decode cL_law 465 = .ok (.aload_n 3, 1) := by decide +kernel
theorem dL_law_466 : decode cL_law 466 = .ok (.iconst 0, 1) := by decide +kernel
theorem dL_law_467 : decode cL_law 467 = .ok (.laload, 1) := by decide +kernel
theorem dL_law_468 : decode cL_law 468 = .ok (.iload 7, 2) := by decide +kernel
theorem dL_law_470 : decode cL_law 470 = .ok (.i2l, 1) := by decide +kernel
theorem dL_law_471 : decode cL_law 471 = .ok (.lcmp, 1) := by decide +kernel
theorem dL_law_472 : decode cL_law 472 = .ok (.ifCond .eq 5, 3) := by decide +kernel
theorem dL_law_475 : decode cL_law 475 = .ok (.iconst 0, 1) := by decide +kernel
theorem dL_law_476 : decode cL_law 476 = .ok (.ireturn, 1) := by decide +kernel
theorem dL_law_477 : decode cL_law 477 = .ok (.goto 1899, 3) := by decide +kernel
theorem dL_law_480 : decode cL_law 480 = .ok (.aload_n 1, 1) := by decide +kernel
theorem dL_law_481 : decode cL_law 481 = .ok (.aload_n 0, 1) := by decide +kernel
theorem dL_law_482 : decode cL_law 482 = .ok (.iload 5, 2) := by decide +kernel
theorem dL_law_484 : decode cL_law 484 = .ok (.iconst 1, 1) := by decide +kernel
theorem dL_law_485 : decode cL_law 485 = .ok (.iadd, 1) := by decide +kernel
theorem dL_law_486 : decode cL_law 486 = .ok (.iaload, 1) := by decide +kernel
theorem dL_law_487 : decode cL_law 487 = .ok (.aload_n 0, 1) := by decide +kernel
theorem dL_law_488 : decode cL_law 488 = .ok (.iload 5, 2) := by decide +kernel
theorem dL_law_490 : decode cL_law 490 = .ok (.iconst 2, 1) := by decide +kernel
theorem dL_law_491 : decode cL_law 491 = .ok (.iadd, 1) := by decide +kernel
theorem dL_law_492 : decode cL_law 492 = .ok (.iaload, 1) := by decide +kernel
theorem dL_law_493 : decode cL_law 493 = .ok (.aload_n 3, 1) := by decide +kernel
theorem dL_law_494 : decode cL_law 494 = .ok (.invokestatic 153, 3) := by decide +kernel
theorem dL_law_497 : decode cL_law 497 = .ok (.istore 6, 2) := by decide +kernel
theorem dL_law_499 : decode cL_law 499 = .ok (.aload_n 2, 1) := by decide +kernel
theorem dL_law_500 : decode cL_law 500 = .ok (.aload_n 0, 1) := by decide +kernel
theorem dL_law_501 : decode cL_law 501 = .ok (.iload 5, 2) := by decide +kernel
theorem dL_law_503 : decode cL_law 503 = .ok (.iconst 1, 1) := by decide +kernel
theorem dL_law_504 : decode cL_law 504 = .ok (.iadd, 1) := by decide +kernel
theorem dL_law_505 : decode cL_law 505 = .ok (.iaload, 1) := by decide +kernel
theorem dL_law_506 : decode cL_law 506 = .ok (.aload_n 0, 1) := by decide +kernel
theorem dL_law_507 : decode cL_law 507 = .ok (.iload 5, 2) := by decide +kernel
theorem dL_law_509 : decode cL_law 509 = .ok (.iconst 2, 1) := by decide +kernel
theorem dL_law_510 : decode cL_law 510 = .ok (.iadd, 1) := by decide +kernel
theorem dL_law_511 : decode cL_law 511 = .ok (.iaload, 1) := by decide +kernel
theorem dL_law_512 : decode cL_law 512 = .ok (.invokevirtual 155, 3) := by decide +kernel
theorem dL_law_515 : decode cL_law 515 = .ok (.istore 7, 2) := by decide +kernel
theorem dL_law_517 : decode cL_law 517 = .ok (.aload_n 2, 1) := by decide +kernel
theorem dL_law_518 : decode cL_law 518 = .ok (.invokevirtual 140, 3) := by decide +kernel
theorem dL_law_521 : decode cL_law 521 = .ok (.iload 6, 2) := by decide +kernel
theorem dL_law_523 : decode cL_law 523 = .ok (.if_icmp .eq 5, 3) := by decide +kernel
theorem dL_law_526 : decode cL_law 526 = .ok (.iconst 0, 1) := by decide +kernel
theorem dL_law_527 : decode cL_law 527 = .ok (.ireturn, 1) := by decide +kernel
theorem dL_law_528 : decode cL_law 528 = .ok (.iload 6, 2) := by decide +kernel
theorem dL_law_530 : decode cL_law 530 = .ok (.ifCond .ne 15, 3) := by decide +kernel
theorem dL_law_533 : decode cL_law 533 = .ok (.aload_n 3, 1) := by decide +kernel
theorem dL_law_534 : decode cL_law 534 = .ok (.iconst 0, 1) := by decide +kernel
theorem dL_law_535 : decode cL_law 535 = .ok (.laload, 1) := by decide +kernel
theorem dL_law_536 : decode cL_law 536 = .ok (.iload 7, 2) := by decide +kernel
theorem dL_law_538 : decode cL_law 538 = .ok (.i2l, 1) := by decide +kernel
theorem dL_law_539 : decode cL_law 539 = .ok (.lcmp, 1) := by decide +kernel
theorem dL_law_540 : decode cL_law 540 = .ok (.ifCond .eq 5, 3) := by decide +kernel
theorem dL_law_543 : decode cL_law 543 = .ok (.iconst 0, 1) := by decide +kernel
theorem dL_law_544 : decode cL_law 544 = .ok (.ireturn, 1) := by decide +kernel
theorem dL_law_545 : decode cL_law 545 = .ok (.goto 1831, 3) := by decide +kernel
theorem dL_law_548 : decode cL_law 548 = .ok (.aload_n 1, 1) := by decide +kernel
theorem dL_law_549 : decode cL_law 549 = .ok (.aload_n 0, 1) := by decide +kernel
theorem dL_law_550 : decode cL_law 550 = .ok (.iload 5, 2) := by decide +kernel
theorem dL_law_552 : decode cL_law 552 = .ok (.iconst 1, 1) := by decide +kernel
theorem dL_law_553 : decode cL_law 553 = .ok (.iadd, 1) := by decide +kernel
theorem dL_law_554 : decode cL_law 554 = .ok (.iaload, 1) := by decide +kernel
theorem dL_law_555 : decode cL_law 555 = .ok (.aload_n 0, 1) := by decide +kernel
theorem dL_law_556 : decode cL_law 556 = .ok (.iload 5, 2) := by decide +kernel
theorem dL_law_558 : decode cL_law 558 = .ok (.iconst 2, 1) := by decide +kernel
theorem dL_law_559 : decode cL_law 559 = .ok (.iadd, 1) := by decide +kernel
theorem dL_law_560 : decode cL_law 560 = .ok (.iaload, 1) := by decide +kernel
theorem dL_law_561 : decode cL_law 561 = .ok (.aload_n 3, 1) := by decide +kernel
theorem dL_law_562 : decode cL_law 562 = .ok (.invokestatic 156, 3) := by decide +kernel
theorem dL_law_565 : decode cL_law 565 = .ok (.istore 6, 2) := by decide +kernel
theorem dL_law_567 : decode cL_law 567 = .ok (.aload_n 2, 1) := by decide +kernel
theorem dL_law_568 : decode cL_law 568 = .ok (.aload_n 0, 1) := by decide +kernel
theorem dL_law_569 : decode cL_law 569 = .ok (.iload 5, 2) := by decide +kernel
theorem dL_law_571 : decode cL_law 571 = .ok (.iconst 1, 1) := by decide +kernel
theorem dL_law_572 : decode cL_law 572 = .ok (.iadd, 1) := by decide +kernel
theorem dL_law_573 : decode cL_law 573 = .ok (.iaload, 1) := by decide +kernel
theorem dL_law_574 : decode cL_law 574 = .ok (.aload_n 0, 1) := by decide +kernel
theorem dL_law_575 : decode cL_law 575 = .ok (.iload 5, 2) := by decide +kernel
theorem dL_law_577 : decode cL_law 577 = .ok (.iconst 2, 1) := by decide +kernel
theorem dL_law_578 : decode cL_law 578 = .ok (.iadd, 1) := by decide +kernel
theorem dL_law_579 : decode cL_law 579 = .ok (.iaload, 1) := by decide +kernel
theorem dL_law_580 : decode cL_law 580 = .ok (.invokevirtual 158, 3) := by decide +kernel
theorem dL_law_583 : decode cL_law 583 = .ok (.istore 7, 2) := by decide +kernel
theorem dL_law_585 : decode cL_law 585 = .ok (.aload_n 2, 1) := by decide +kernel
theorem dL_law_586 : decode cL_law 586 = .ok (.invokevirtual 140, 3) := by decide +kernel
theorem dL_law_589 : decode cL_law 589 = .ok (.iload 6, 2) := by decide +kernel
theorem dL_law_591 : decode cL_law 591 = .ok (.if_icmp .eq 5, 3) := by decide +kernel
theorem dL_law_594 : decode cL_law 594 = .ok (.iconst 0, 1) := by decide +kernel
theorem dL_law_595 : decode cL_law 595 = .ok (.ireturn, 1) := by decide +kernel
theorem dL_law_596 : decode cL_law 596 = .ok (.iload 6, 2) := by decide +kernel
theorem dL_law_598 : decode cL_law 598 = .ok (.ifCond .ne 15, 3) := by decide +kernel
theorem dL_law_601 : decode cL_law 601 = .ok (.aload_n 3, 1) := by decide +kernel
theorem dL_law_602 : decode cL_law 602 = .ok (.iconst 0, 1) := by decide +kernel
theorem dL_law_603 : decode cL_law 603 = .ok (.laload, 1) := by decide +kernel
theorem dL_law_604 : decode cL_law 604 = .ok (.iload 7, 2) := by decide +kernel
theorem dL_law_606 : decode cL_law 606 = .ok (.i2l, 1) := by decide +kernel
theorem dL_law_607 : decode cL_law 607 = .ok (.lcmp, 1) := by decide +kernel
theorem dL_law_608 : decode cL_law 608 = .ok (.ifCond .eq 5, 3) := by decide +kernel
theorem dL_law_611 : decode cL_law 611 = .ok (.iconst 0, 1) := by decide +kernel
theorem dL_law_612 : decode cL_law 612 = .ok (.ireturn, 1) := by decide +kernel
theorem dL_law_613 : decode cL_law 613 = .ok (.goto 1763, 3) := by decide +kernel
theorem dL_law_616 : decode cL_law 616 = .ok (.aload_n 1, 1) := by decide +kernel
theorem dL_law_617 : decode cL_law 617 = .ok (.aload_n 0, 1) := by decide +kernel
theorem dL_law_618 : decode cL_law 618 = .ok (.iload 5, 2) := by decide +kernel
theorem dL_law_620 : decode cL_law 620 = .ok (.iconst 1, 1) := by decide +kernel
theorem dL_law_621 : decode cL_law 621 = .ok (.iadd, 1) := by decide +kernel
theorem dL_law_622 : decode cL_law 622 = .ok (.iaload, 1) := by decide +kernel
theorem dL_law_623 : decode cL_law 623 = .ok (.aload_n 0, 1) := by decide +kernel
theorem dL_law_624 : decode cL_law 624 = .ok (.iload 5, 2) := by decide +kernel
theorem dL_law_626 : decode cL_law 626 = .ok (.iconst 2, 1) := by decide +kernel
theorem dL_law_627 : decode cL_law 627 = .ok (.iadd, 1) := by decide +kernel
theorem dL_law_628 : decode cL_law 628 = .ok (.iaload, 1) := by decide +kernel
theorem dL_law_629 : decode cL_law 629 = .ok (.aload_n 3, 1) := by decide +kernel
theorem dL_law_630 : decode cL_law 630 = .ok (.invokestatic 159, 3) := by decide +kernel
theorem dL_law_633 : decode cL_law 633 = .ok (.istore 6, 2) := by decide +kernel
theorem dL_law_635 : decode cL_law 635 = .ok (.aload_n 2, 1) := by decide +kernel
theorem dL_law_636 : decode cL_law 636 = .ok (.aload_n 0, 1) := by decide +kernel
theorem dL_law_637 : decode cL_law 637 = .ok (.iload 5, 2) := by decide +kernel
theorem dL_law_639 : decode cL_law 639 = .ok (.iconst 1, 1) := by decide +kernel
theorem dL_law_640 : decode cL_law 640 = .ok (.iadd, 1) := by decide +kernel
theorem dL_law_641 : decode cL_law 641 = .ok (.iaload, 1) := by decide +kernel
theorem dL_law_642 : decode cL_law 642 = .ok (.aload_n 0, 1) := by decide +kernel
theorem dL_law_643 : decode cL_law 643 = .ok (.iload 5, 2) := by decide +kernel
theorem dL_law_645 : decode cL_law 645 = .ok (.iconst 2, 1) := by decide +kernel
theorem dL_law_646 : decode cL_law 646 = .ok (.iadd, 1) := by decide +kernel
theorem dL_law_647 : decode cL_law 647 = .ok (.iaload, 1) := by decide +kernel
theorem dL_law_648 : decode cL_law 648 = .ok (.invokevirtual 161, 3) := by decide +kernel
theorem dL_law_651 : decode cL_law 651 = .ok (.istore 7, 2) := by decide +kernel
theorem dL_law_653 : decode cL_law 653 = .ok (.aload_n 2, 1) := by decide +kernel
theorem dL_law_654 : decode cL_law 654 = .ok (.invokevirtual 140, 3) := by decide +kernel
theorem dL_law_657 : decode cL_law 657 = .ok (.iload 6, 2) := by decide +kernel
theorem dL_law_659 : decode cL_law 659 = .ok (.if_icmp .eq 5, 3) := by decide +kernel
theorem dL_law_662 : decode cL_law 662 = .ok (.iconst 0, 1) := by decide +kernel
theorem dL_law_663 : decode cL_law 663 = .ok (.ireturn, 1) := by decide +kernel
theorem dL_law_664 : decode cL_law 664 = .ok (.iload 6, 2) := by decide +kernel
theorem dL_law_666 : decode cL_law 666 = .ok (.ifCond .ne 15, 3) := by decide +kernel
theorem dL_law_669 : decode cL_law 669 = .ok (.aload_n 3, 1) := by decide +kernel
theorem dL_law_670 : decode cL_law 670 = .ok (.iconst 0, 1) := by decide +kernel
theorem dL_law_671 : decode cL_law 671 = .ok (.laload, 1) := by decide +kernel
theorem dL_law_672 : decode cL_law 672 = .ok (.iload 7, 2) := by decide +kernel
theorem dL_law_674 : decode cL_law 674 = .ok (.i2l, 1) := by decide +kernel
theorem dL_law_675 : decode cL_law 675 = .ok (.lcmp, 1) := by decide +kernel
theorem dL_law_676 : decode cL_law 676 = .ok (.ifCond .eq 5, 3) := by decide +kernel
theorem dL_law_679 : decode cL_law 679 = .ok (.iconst 0, 1) := by decide +kernel
theorem dL_law_680 : decode cL_law 680 = .ok (.ireturn, 1) := by decide +kernel
theorem dL_law_681 : decode cL_law 681 = .ok (.goto 1695, 3) := by decide +kernel
theorem dL_law_684 : decode cL_law 684 = .ok (.aload_n 1, 1) := by decide +kernel
theorem dL_law_685 : decode cL_law 685 = .ok (.aload_n 0, 1) := by decide +kernel
theorem dL_law_686 : decode cL_law 686 = .ok (.iload 5, 2) := by decide +kernel
theorem dL_law_688 : decode cL_law 688 = .ok (.iconst 1, 1) := by decide +kernel
theorem dL_law_689 : decode cL_law 689 = .ok (.iadd, 1) := by decide +kernel
theorem dL_law_690 : decode cL_law 690 = .ok (.iaload, 1) := by decide +kernel
theorem dL_law_691 : decode cL_law 691 = .ok (.aload_n 0, 1) := by decide +kernel
theorem dL_law_692 : decode cL_law 692 = .ok (.iload 5, 2) := by decide +kernel
theorem dL_law_694 : decode cL_law 694 = .ok (.iconst 2, 1) := by decide +kernel
theorem dL_law_695 : decode cL_law 695 = .ok (.iadd, 1) := by decide +kernel
theorem dL_law_696 : decode cL_law 696 = .ok (.iaload, 1) := by decide +kernel
theorem dL_law_697 : decode cL_law 697 = .ok (.aload_n 3, 1) := by decide +kernel
theorem dL_law_698 : decode cL_law 698 = .ok (.invokestatic 162, 3) := by decide +kernel
theorem dL_law_701 : decode cL_law 701 = .ok (.istore 6, 2) := by decide +kernel
theorem dL_law_703 : decode cL_law 703 = .ok (.aload_n 2, 1) := by decide +kernel
theorem dL_law_704 : decode cL_law 704 = .ok (.aload_n 0, 1) := by decide +kernel
theorem dL_law_705 : decode cL_law 705 = .ok (.iload 5, 2) := by decide +kernel
theorem dL_law_707 : decode cL_law 707 = .ok (.iconst 1, 1) := by decide +kernel
theorem dL_law_708 : decode cL_law 708 = .ok (.iadd, 1) := by decide +kernel
theorem dL_law_709 : decode cL_law 709 = .ok (.iaload, 1) := by decide +kernel
theorem dL_law_710 : decode cL_law 710 = .ok (.aload_n 0, 1) := by decide +kernel
theorem dL_law_711 : decode cL_law 711 = .ok (.iload 5, 2) := by decide +kernel
theorem dL_law_713 : decode cL_law 713 = .ok (.iconst 2, 1) := by decide +kernel
theorem dL_law_714 : decode cL_law 714 = .ok (.iadd, 1) := by decide +kernel
theorem dL_law_715 : decode cL_law 715 = .ok (.iaload, 1) := by decide +kernel
theorem dL_law_716 : decode cL_law 716 = .ok (.invokevirtual 164, 3) := by decide +kernel
theorem dL_law_719 : decode cL_law 719 = .ok (.istore 7, 2) := by decide +kernel
theorem dL_law_721 : decode cL_law 721 = .ok (.aload_n 2, 1) := by decide +kernel
theorem dL_law_722 : decode cL_law 722 = .ok (.invokevirtual 140, 3) := by decide +kernel
theorem dL_law_725 : decode cL_law 725 = .ok (.iload 6, 2) := by decide +kernel
theorem dL_law_727 : decode cL_law 727 = .ok (.if_icmp .eq 5, 3) := by decide +kernel
theorem dL_law_730 : decode cL_law 730 = .ok (.iconst 0, 1) := by decide +kernel
theorem dL_law_731 : decode cL_law 731 = .ok (.ireturn, 1) := by decide +kernel
theorem dL_law_732 : decode cL_law 732 = .ok (.iload 6, 2) := by decide +kernel
theorem dL_law_734 : decode cL_law 734 = .ok (.ifCond .ne 15, 3) := by decide +kernel
theorem dL_law_737 : decode cL_law 737 = .ok (.aload_n 3, 1) := by decide +kernel
theorem dL_law_738 : decode cL_law 738 = .ok (.iconst 0, 1) := by decide +kernel
theorem dL_law_739 : decode cL_law 739 = .ok (.laload, 1) := by decide +kernel
theorem dL_law_740 : decode cL_law 740 = .ok (.iload 7, 2) := by decide +kernel
theorem dL_law_742 : decode cL_law 742 = .ok (.i2l, 1) := by decide +kernel
theorem dL_law_743 : decode cL_law 743 = .ok (.lcmp, 1) := by decide +kernel
theorem dL_law_744 : decode cL_law 744 = .ok (.ifCond .eq 5, 3) := by decide +kernel
theorem dL_law_747 : decode cL_law 747 = .ok (.iconst 0, 1) := by decide +kernel
theorem dL_law_748 : decode cL_law 748 = .ok (.ireturn, 1) := by decide +kernel
theorem dL_law_749 : decode cL_law 749 = .ok (.goto 1627, 3) := by decide +kernel
theorem dL_law_752 : decode cL_law 752 = .ok (.aload_n 1, 1) := by decide +kernel
theorem dL_law_753 : decode cL_law 753 = .ok (.aload_n 0, 1) := by decide +kernel
theorem dL_law_754 : decode cL_law 754 = .ok (.iload 5, 2) := by decide +kernel
theorem dL_law_756 : decode cL_law 756 = .ok (.iconst 1, 1) := by decide +kernel
theorem dL_law_757 : decode cL_law 757 = .ok (.iadd, 1) := by decide +kernel
theorem dL_law_758 : decode cL_law 758 = .ok (.iaload, 1) := by decide +kernel
theorem dL_law_759 : decode cL_law 759 = .ok (.aload_n 0, 1) := by decide +kernel
theorem dL_law_760 : decode cL_law 760 = .ok (.iload 5, 2) := by decide +kernel
theorem dL_law_762 : decode cL_law 762 = .ok (.iconst 2, 1) := by decide +kernel
theorem dL_law_763 : decode cL_law 763 = .ok (.iadd, 1) := by decide +kernel
theorem dL_law_764 : decode cL_law 764 = .ok (.iaload, 1) := by decide +kernel
theorem dL_law_765 : decode cL_law 765 = .ok (.i2c, 1) := by decide +kernel
theorem dL_law_766 : decode cL_law 766 = .ok (.aload_n 3, 1) := by decide +kernel
theorem dL_law_767 : decode cL_law 767 = .ok (.invokestatic 165, 3) := by decide +kernel
theorem dL_law_770 : decode cL_law 770 = .ok (.istore 6, 2) := by decide +kernel
theorem dL_law_772 : decode cL_law 772 = .ok (.aload_n 2, 1) := by decide +kernel
theorem dL_law_773 : decode cL_law 773 = .ok (.aload_n 0, 1) := by decide +kernel
theorem dL_law_774 : decode cL_law 774 = .ok (.iload 5, 2) := by decide +kernel
theorem dL_law_776 : decode cL_law 776 = .ok (.iconst 1, 1) := by decide +kernel
theorem dL_law_777 : decode cL_law 777 = .ok (.iadd, 1) := by decide +kernel
theorem dL_law_778 : decode cL_law 778 = .ok (.iaload, 1) := by decide +kernel
theorem dL_law_779 : decode cL_law 779 = .ok (.aload_n 0, 1) := by decide +kernel
theorem dL_law_780 : decode cL_law 780 = .ok (.iload 5, 2) := by decide +kernel
theorem dL_law_782 : decode cL_law 782 = .ok (.iconst 2, 1) := by decide +kernel
theorem dL_law_783 : decode cL_law 783 = .ok (.iadd, 1) := by decide +kernel
theorem dL_law_784 : decode cL_law 784 = .ok (.iaload, 1) := by decide +kernel
theorem dL_law_785 : decode cL_law 785 = .ok (.i2c, 1) := by decide +kernel
theorem dL_law_786 : decode cL_law 786 = .ok (.invokevirtual 168, 3) := by decide +kernel
theorem dL_law_789 : decode cL_law 789 = .ok (.istore 7, 2) := by decide +kernel
theorem dL_law_791 : decode cL_law 791 = .ok (.aload_n 2, 1) := by decide +kernel
theorem dL_law_792 : decode cL_law 792 = .ok (.invokevirtual 140, 3) := by decide +kernel
theorem dL_law_795 : decode cL_law 795 = .ok (.iload 6, 2) := by decide +kernel
theorem dL_law_797 : decode cL_law 797 = .ok (.if_icmp .eq 5, 3) := by decide +kernel
theorem dL_law_800 : decode cL_law 800 = .ok (.iconst 0, 1) := by decide +kernel
theorem dL_law_801 : decode cL_law 801 = .ok (.ireturn, 1) := by decide +kernel
theorem dL_law_802 : decode cL_law 802 = .ok (.iload 6, 2) := by decide +kernel
theorem dL_law_804 : decode cL_law 804 = .ok (.ifCond .ne 15, 3) := by decide +kernel
theorem dL_law_807 : decode cL_law 807 = .ok (.aload_n 3, 1) := by decide +kernel
theorem dL_law_808 : decode cL_law 808 = .ok (.iconst 0, 1) := by decide +kernel
theorem dL_law_809 : decode cL_law 809 = .ok (.laload, 1) := by decide +kernel
theorem dL_law_810 : decode cL_law 810 = .ok (.iload 7, 2) := by decide +kernel
theorem dL_law_812 : decode cL_law 812 = .ok (.i2l, 1) := by decide +kernel
theorem dL_law_813 : decode cL_law 813 = .ok (.lcmp, 1) := by decide +kernel
theorem dL_law_814 : decode cL_law 814 = .ok (.ifCond .eq 5, 3) := by decide +kernel
theorem dL_law_817 : decode cL_law 817 = .ok (.iconst 0, 1) := by decide +kernel
theorem dL_law_818 : decode cL_law 818 = .ok (.ireturn, 1) := by decide +kernel
theorem dL_law_819 : decode cL_law 819 = .ok (.goto 1557, 3) := by decide +kernel
theorem dL_law_822 : decode cL_law 822 = .ok (.aload_n 1, 1) := by decide +kernel
theorem dL_law_823 : decode cL_law 823 = .ok (.aload_n 0, 1) := by decide +kernel
theorem dL_law_824 : decode cL_law 824 = .ok (.iload 5, 2) := by decide +kernel
theorem dL_law_826 : decode cL_law 826 = .ok (.iconst 1, 1) := by decide +kernel
theorem dL_law_827 : decode cL_law 827 = .ok (.iadd, 1) := by decide +kernel
theorem dL_law_828 : decode cL_law 828 = .ok (.iaload, 1) := by decide +kernel
theorem dL_law_829 : decode cL_law 829 = .ok (.aload_n 0, 1) := by decide +kernel
theorem dL_law_830 : decode cL_law 830 = .ok (.iload 5, 2) := by decide +kernel
theorem dL_law_832 : decode cL_law 832 = .ok (.iconst 2, 1) := by decide +kernel
theorem dL_law_833 : decode cL_law 833 = .ok (.iadd, 1) := by decide +kernel
theorem dL_law_834 : decode cL_law 834 = .ok (.iaload, 1) := by decide +kernel
theorem dL_law_835 : decode cL_law 835 = .ok (.ifCond .eq 7, 3) := by decide +kernel
theorem dL_law_838 : decode cL_law 838 = .ok (.iconst 1, 1) := by decide +kernel
theorem dL_law_839 : decode cL_law 839 = .ok (.goto 4, 3) := by decide +kernel
theorem dL_law_842 : decode cL_law 842 = .ok (.iconst 0, 1) := by decide +kernel
theorem dL_law_843 : decode cL_law 843 = .ok (.aload_n 3, 1) := by decide +kernel
theorem dL_law_844 : decode cL_law 844 = .ok (.invokestatic 169, 3) := by decide +kernel
theorem dL_law_847 : decode cL_law 847 = .ok (.istore 6, 2) := by decide +kernel
theorem dL_law_849 : decode cL_law 849 = .ok (.aload_n 2, 1) := by decide +kernel
theorem dL_law_850 : decode cL_law 850 = .ok (.aload_n 0, 1) := by decide +kernel
theorem dL_law_851 : decode cL_law 851 = .ok (.iload 5, 2) := by decide +kernel
theorem dL_law_853 : decode cL_law 853 = .ok (.iconst 1, 1) := by decide +kernel
theorem dL_law_854 : decode cL_law 854 = .ok (.iadd, 1) := by decide +kernel
theorem dL_law_855 : decode cL_law 855 = .ok (.iaload, 1) := by decide +kernel
theorem dL_law_856 : decode cL_law 856 = .ok (.aload_n 0, 1) := by decide +kernel
theorem dL_law_857 : decode cL_law 857 = .ok (.iload 5, 2) := by decide +kernel
theorem dL_law_859 : decode cL_law 859 = .ok (.iconst 2, 1) := by decide +kernel
theorem dL_law_860 : decode cL_law 860 = .ok (.iadd, 1) := by decide +kernel
theorem dL_law_861 : decode cL_law 861 = .ok (.iaload, 1) := by decide +kernel
theorem dL_law_862 : decode cL_law 862 = .ok (.ifCond .eq 7, 3) := by decide +kernel
theorem dL_law_865 : decode cL_law 865 = .ok (.iconst 1, 1) := by decide +kernel
theorem dL_law_866 : decode cL_law 866 = .ok (.goto 4, 3) := by decide +kernel
theorem dL_law_869 : decode cL_law 869 = .ok (.iconst 0, 1) := by decide +kernel
theorem dL_law_870 : decode cL_law 870 = .ok (.invokevirtual 172, 3) := by decide +kernel
theorem dL_law_873 : decode cL_law 873 = .ok (.istore 7, 2) := by decide +kernel
theorem dL_law_875 : decode cL_law 875 = .ok (.aload_n 2, 1) := by decide +kernel
theorem dL_law_876 : decode cL_law 876 = .ok (.invokevirtual 140, 3) := by decide +kernel
theorem dL_law_879 : decode cL_law 879 = .ok (.iload 6, 2) := by decide +kernel
theorem dL_law_881 : decode cL_law 881 = .ok (.if_icmp .eq 5, 3) := by decide +kernel
theorem dL_law_884 : decode cL_law 884 = .ok (.iconst 0, 1) := by decide +kernel
theorem dL_law_885 : decode cL_law 885 = .ok (.ireturn, 1) := by decide +kernel
theorem dL_law_886 : decode cL_law 886 = .ok (.iload 6, 2) := by decide +kernel
theorem dL_law_888 : decode cL_law 888 = .ok (.ifCond .ne 22, 3) := by decide +kernel
theorem dL_law_891 : decode cL_law 891 = .ok (.aload_n 3, 1) := by decide +kernel
theorem dL_law_892 : decode cL_law 892 = .ok (.iconst 0, 1) := by decide +kernel
theorem dL_law_893 : decode cL_law 893 = .ok (.laload, 1) := by decide +kernel
theorem dL_law_894 : decode cL_law 894 = .ok (.iload 7, 2) := by decide +kernel
theorem dL_law_896 : decode cL_law 896 = .ok (.ifCond .eq 7, 3) := by decide +kernel
theorem dL_law_899 : decode cL_law 899 = .ok (.lconst 1, 1) := by decide +kernel
theorem dL_law_900 : decode cL_law 900 = .ok (.goto 4, 3) := by decide +kernel
theorem dL_law_903 : decode cL_law 903 = .ok (.lconst 0, 1) := by decide +kernel
theorem dL_law_904 : decode cL_law 904 = .ok (.lcmp, 1) := by decide +kernel
theorem dL_law_905 : decode cL_law 905 = .ok (.ifCond .eq 5, 3) := by decide +kernel
theorem dL_law_908 : decode cL_law 908 = .ok (.iconst 0, 1) := by decide +kernel
theorem dL_law_909 : decode cL_law 909 = .ok (.ireturn, 1) := by decide +kernel
theorem dL_law_910 : decode cL_law 910 = .ok (.goto 1466, 3) := by decide +kernel
theorem dL_law_913 : decode cL_law 913 = .ok (.aload_n 1, 1) := by decide +kernel
theorem dL_law_914 : decode cL_law 914 = .ok (.invokevirtual 173, 3) := by decide +kernel
theorem dL_law_917 : decode cL_law 917 = .ok (.aload_n 2, 1) := by decide +kernel
theorem dL_law_918 : decode cL_law 918 = .ok (.invokevirtual 176, 3) := by decide +kernel
theorem dL_law_921 : decode cL_law 921 = .ok (.if_icmp .eq 1455, 3) := by decide +kernel
theorem dL_law_924 : decode cL_law 924 = .ok (.iconst 0, 1) := by decide +kernel
theorem dL_law_925 : decode cL_law 925 = .ok (.ireturn, 1) := by decide +kernel
theorem dL_law_926 : decode cL_law 926 = .ok (.aload_n 1, 1) := by decide +kernel
theorem dL_law_927 : decode cL_law 927 = .ok (.aload_n 0, 1) := by decide +kernel
theorem dL_law_928 : decode cL_law 928 = .ok (.iload 5, 2) := by decide +kernel
theorem dL_law_930 : decode cL_law 930 = .ok (.iconst 1, 1) := by decide +kernel
theorem dL_law_931 : decode cL_law 931 = .ok (.iadd, 1) := by decide +kernel
theorem dL_law_932 : decode cL_law 932 = .ok (.iaload, 1) := by decide +kernel
theorem dL_law_933 : decode cL_law 933 = .ok (.aload_n 0, 1) := by decide +kernel
theorem dL_law_934 : decode cL_law 934 = .ok (.iload 5, 2) := by decide +kernel
theorem dL_law_936 : decode cL_law 936 = .ok (.iconst 2, 1) := by decide +kernel
theorem dL_law_937 : decode cL_law 937 = .ok (.iadd, 1) := by decide +kernel
theorem dL_law_938 : decode cL_law 938 = .ok (.iaload, 1) := by decide +kernel
theorem dL_law_939 : decode cL_law 939 = .ok (.aload_n 3, 1) := by decide +kernel
theorem dL_law_940 : decode cL_law 940 = .ok (.invokestatic 177, 3) := by decide +kernel
theorem dL_law_943 : decode cL_law 943 = .ok (.istore 6, 2) := by decide +kernel
theorem dL_law_945 : decode cL_law 945 = .ok (.aload_n 2, 1) := by decide +kernel
theorem dL_law_946 : decode cL_law 946 = .ok (.aload_n 0, 1) := by decide +kernel
theorem dL_law_947 : decode cL_law 947 = .ok (.iload 5, 2) := by decide +kernel
theorem dL_law_949 : decode cL_law 949 = .ok (.iconst 1, 1) := by decide +kernel
theorem dL_law_950 : decode cL_law 950 = .ok (.iadd, 1) := by decide +kernel
theorem dL_law_951 : decode cL_law 951 = .ok (.iaload, 1) := by decide +kernel
theorem dL_law_952 : decode cL_law 952 = .ok (.aload_n 0, 1) := by decide +kernel
theorem dL_law_953 : decode cL_law 953 = .ok (.iload 5, 2) := by decide +kernel
theorem dL_law_955 : decode cL_law 955 = .ok (.iconst 2, 1) := by decide +kernel
theorem dL_law_956 : decode cL_law 956 = .ok (.iadd, 1) := by decide +kernel
theorem dL_law_957 : decode cL_law 957 = .ok (.iaload, 1) := by decide +kernel
theorem dL_law_958 : decode cL_law 958 = .ok (.invokevirtual 179, 3) := by decide +kernel
theorem dL_law_961 : decode cL_law 961 = .ok (.istore 7, 2) := by decide +kernel
theorem dL_law_963 : decode cL_law 963 = .ok (.aload_n 2, 1) := by decide +kernel
theorem dL_law_964 : decode cL_law 964 = .ok (.invokevirtual 140, 3) := by decide +kernel
theorem dL_law_967 : decode cL_law 967 = .ok (.iload 6, 2) := by decide +kernel
theorem dL_law_969 : decode cL_law 969 = .ok (.if_icmp .eq 5, 3) := by decide +kernel
theorem dL_law_972 : decode cL_law 972 = .ok (.iconst 0, 1) := by decide +kernel
theorem dL_law_973 : decode cL_law 973 = .ok (.ireturn, 1) := by decide +kernel
theorem dL_law_974 : decode cL_law 974 = .ok (.iload 6, 2) := by decide +kernel
theorem dL_law_976 : decode cL_law 976 = .ok (.ifCond .ne 15, 3) := by decide +kernel
theorem dL_law_979 : decode cL_law 979 = .ok (.aload_n 3, 1) := by decide +kernel
theorem dL_law_980 : decode cL_law 980 = .ok (.iconst 0, 1) := by decide +kernel
theorem dL_law_981 : decode cL_law 981 = .ok (.laload, 1) := by decide +kernel
theorem dL_law_982 : decode cL_law 982 = .ok (.iload 7, 2) := by decide +kernel
theorem dL_law_984 : decode cL_law 984 = .ok (.i2l, 1) := by decide +kernel
theorem dL_law_985 : decode cL_law 985 = .ok (.lcmp, 1) := by decide +kernel
theorem dL_law_986 : decode cL_law 986 = .ok (.ifCond .eq 5, 3) := by decide +kernel
theorem dL_law_989 : decode cL_law 989 = .ok (.iconst 0, 1) := by decide +kernel
theorem dL_law_990 : decode cL_law 990 = .ok (.ireturn, 1) := by decide +kernel
theorem dL_law_991 : decode cL_law 991 = .ok (.goto 1385, 3) := by decide +kernel
theorem dL_law_994 : decode cL_law 994 = .ok (.aload_n 1, 1) := by decide +kernel
theorem dL_law_995 : decode cL_law 995 = .ok (.invokevirtual 180, 3) := by decide +kernel
theorem dL_law_998 : decode cL_law 998 = .ok (.aload_n 2, 1) := by decide +kernel
theorem dL_law_999 : decode cL_law 999 = .ok (.invokevirtual 183, 3) := by decide +kernel
theorem dL_law_1002 : decode cL_law 1002 = .ok (.if_icmp .eq 1374, 3) := by decide +kernel
theorem dL_law_1005 : decode cL_law 1005 = .ok (.iconst 0, 1) := by decide +kernel
theorem dL_law_1006 : decode cL_law 1006 = .ok (.ireturn, 1) := by decide +kernel
theorem dL_law_1007 : decode cL_law 1007 = .ok (.aload_n 1, 1) := by decide +kernel
theorem dL_law_1008 : decode cL_law 1008 = .ok (.aload_n 0, 1) := by decide +kernel
theorem dL_law_1009 : decode cL_law 1009 = .ok (.iload 5, 2) := by decide +kernel
theorem dL_law_1011 : decode cL_law 1011 = .ok (.iconst 1, 1) := by decide +kernel
theorem dL_law_1012 : decode cL_law 1012 = .ok (.iadd, 1) := by decide +kernel
theorem dL_law_1013 : decode cL_law 1013 = .ok (.iaload, 1) := by decide +kernel
theorem dL_law_1014 : decode cL_law 1014 = .ok (.aload_n 3, 1) := by decide +kernel
theorem dL_law_1015 : decode cL_law 1015 = .ok (.invokestatic 184, 3) := by decide +kernel
theorem dL_law_1018 : decode cL_law 1018 = .ok (.istore 6, 2) := by decide +kernel
theorem dL_law_1020 : decode cL_law 1020 = .ok (.aload_n 2, 1) := by decide +kernel
theorem dL_law_1021 : decode cL_law 1021 = .ok (.aload_n 0, 1) := by decide +kernel
theorem dL_law_1022 : decode cL_law 1022 = .ok (.iload 5, 2) := by decide +kernel
theorem dL_law_1024 : decode cL_law 1024 = .ok (.iconst 1, 1) := by decide +kernel
theorem dL_law_1025 : decode cL_law 1025 = .ok (.iadd, 1) := by decide +kernel
theorem dL_law_1026 : decode cL_law 1026 = .ok (.iaload, 1) := by decide +kernel
theorem dL_law_1027 : decode cL_law 1027 = .ok (.invokevirtual 186, 3) := by decide +kernel
theorem dL_law_1030 : decode cL_law 1030 = .ok (.istore 7, 2) := by decide +kernel
theorem dL_law_1032 : decode cL_law 1032 = .ok (.aload_n 2, 1) := by decide +kernel
theorem dL_law_1033 : decode cL_law 1033 = .ok (.invokevirtual 140, 3) := by decide +kernel
theorem dL_law_1036 : decode cL_law 1036 = .ok (.iload 6, 2) := by decide +kernel
theorem dL_law_1038 : decode cL_law 1038 = .ok (.if_icmp .eq 5, 3) := by decide +kernel
theorem dL_law_1041 : decode cL_law 1041 = .ok (.iconst 0, 1) := by decide +kernel
theorem dL_law_1042 : decode cL_law 1042 = .ok (.ireturn, 1) := by decide +kernel
theorem dL_law_1043 : decode cL_law 1043 = .ok (.iload 6, 2) := by decide +kernel
theorem dL_law_1045 : decode cL_law 1045 = .ok (.ifCond .ne 15, 3) := by decide +kernel
theorem dL_law_1048 : decode cL_law 1048 = .ok (.aload_n 3, 1) := by decide +kernel
theorem dL_law_1049 : decode cL_law 1049 = .ok (.iconst 0, 1) := by decide +kernel
theorem dL_law_1050 : decode cL_law 1050 = .ok (.laload, 1) := by decide +kernel
theorem dL_law_1051 : decode cL_law 1051 = .ok (.iload 7, 2) := by decide +kernel
theorem dL_law_1053 : decode cL_law 1053 = .ok (.i2l, 1) := by decide +kernel
theorem dL_law_1054 : decode cL_law 1054 = .ok (.lcmp, 1) := by decide +kernel
theorem dL_law_1055 : decode cL_law 1055 = .ok (.ifCond .eq 5, 3) := by decide +kernel
theorem dL_law_1058 : decode cL_law 1058 = .ok (.iconst 0, 1) := by decide +kernel
theorem dL_law_1059 : decode cL_law 1059 = .ok (.ireturn, 1) := by decide +kernel
theorem dL_law_1060 : decode cL_law 1060 = .ok (.goto 1316, 3) := by decide +kernel
theorem dL_law_1063 : decode cL_law 1063 = .ok (.aload_n 1, 1) := by decide +kernel
theorem dL_law_1064 : decode cL_law 1064 = .ok (.aload_n 0, 1) := by decide +kernel
theorem dL_law_1065 : decode cL_law 1065 = .ok (.iload 5, 2) := by decide +kernel
theorem dL_law_1067 : decode cL_law 1067 = .ok (.iconst 1, 1) := by decide +kernel
theorem dL_law_1068 : decode cL_law 1068 = .ok (.iadd, 1) := by decide +kernel
theorem dL_law_1069 : decode cL_law 1069 = .ok (.iaload, 1) := by decide +kernel
theorem dL_law_1070 : decode cL_law 1070 = .ok (.aload_n 3, 1) := by decide +kernel
theorem dL_law_1071 : decode cL_law 1071 = .ok (.invokestatic 187, 3) := by decide +kernel
theorem dL_law_1074 : decode cL_law 1074 = .ok (.istore 6, 2) := by decide +kernel
theorem dL_law_1076 : decode cL_law 1076 = .ok (.aload_n 2, 1) := by decide +kernel
theorem dL_law_1077 : decode cL_law 1077 = .ok (.aload_n 0, 1) := by decide +kernel
theorem dL_law_1078 : decode cL_law 1078 = .ok (.iload 5, 2) := by decide +kernel
theorem dL_law_1080 : decode cL_law 1080 = .ok (.iconst 1, 1) := by decide +kernel
theorem dL_law_1081 : decode cL_law 1081 = .ok (.iadd, 1) := by decide +kernel
theorem dL_law_1082 : decode cL_law 1082 = .ok (.iaload, 1) := by decide +kernel
theorem dL_law_1083 : decode cL_law 1083 = .ok (.invokevirtual 189, 3) := by decide +kernel
theorem dL_law_1086 : decode cL_law 1086 = .ok (.istore 7, 2) := by decide +kernel
theorem dL_law_1088 : decode cL_law 1088 = .ok (.aload_n 2, 1) := by decide +kernel
theorem dL_law_1089 : decode cL_law 1089 = .ok (.invokevirtual 140, 3) := by decide +kernel
theorem dL_law_1092 : decode cL_law 1092 = .ok (.iload 6, 2) := by decide +kernel
theorem dL_law_1094 : decode cL_law 1094 = .ok (.if_icmp .eq 5, 3) := by decide +kernel
theorem dL_law_1097 : decode cL_law 1097 = .ok (.iconst 0, 1) := by decide +kernel
theorem dL_law_1098 : decode cL_law 1098 = .ok (.ireturn, 1) := by decide +kernel
theorem dL_law_1099 : decode cL_law 1099 = .ok (.iload 6, 2) := by decide +kernel
theorem dL_law_1101 : decode cL_law 1101 = .ok (.ifCond .ne 15, 3) := by decide +kernel
theorem dL_law_1104 : decode cL_law 1104 = .ok (.aload_n 3, 1) := by decide +kernel
theorem dL_law_1105 : decode cL_law 1105 = .ok (.iconst 0, 1) := by decide +kernel
theorem dL_law_1106 : decode cL_law 1106 = .ok (.laload, 1) := by decide +kernel
theorem dL_law_1107 : decode cL_law 1107 = .ok (.iload 7, 2) := by decide +kernel
theorem dL_law_1109 : decode cL_law 1109 = .ok (.i2l, 1) := by decide +kernel
theorem dL_law_1110 : decode cL_law 1110 = .ok (.lcmp, 1) := by decide +kernel
theorem dL_law_1111 : decode cL_law 1111 = .ok (.ifCond .eq 5, 3) := by decide +kernel
theorem dL_law_1114 : decode cL_law 1114 = .ok (.iconst 0, 1) := by decide +kernel
theorem dL_law_1115 : decode cL_law 1115 = .ok (.ireturn, 1) := by decide +kernel
theorem dL_law_1116 : decode cL_law 1116 = .ok (.goto 1260, 3) := by decide +kernel
theorem dL_law_1119 : decode cL_law 1119 = .ok (.aload_n 1, 1) := by decide +kernel
theorem dL_law_1120 : decode cL_law 1120 = .ok (.aload_n 0, 1) := by decide +kernel
theorem dL_law_1121 : decode cL_law 1121 = .ok (.iload 5, 2) := by decide +kernel
theorem dL_law_1123 : decode cL_law 1123 = .ok (.iconst 1, 1) := by decide +kernel
theorem dL_law_1124 : decode cL_law 1124 = .ok (.iadd, 1) := by decide +kernel
theorem dL_law_1125 : decode cL_law 1125 = .ok (.iaload, 1) := by decide +kernel
theorem dL_law_1126 : decode cL_law 1126 = .ok (.aload_n 3, 1) := by decide +kernel
theorem dL_law_1127 : decode cL_law 1127 = .ok (.invokestatic 190, 3) := by decide +kernel
theorem dL_law_1130 : decode cL_law 1130 = .ok (.istore 6, 2) := by decide +kernel
theorem dL_law_1132 : decode cL_law 1132 = .ok (.aload_n 2, 1) := by decide +kernel
theorem dL_law_1133 : decode cL_law 1133 = .ok (.aload_n 0, 1) := by decide +kernel
theorem dL_law_1134 : decode cL_law 1134 = .ok (.iload 5, 2) := by decide +kernel
theorem dL_law_1136 : decode cL_law 1136 = .ok (.iconst 1, 1) := by decide +kernel
theorem dL_law_1137 : decode cL_law 1137 = .ok (.iadd, 1) := by decide +kernel
theorem dL_law_1138 : decode cL_law 1138 = .ok (.iaload, 1) := by decide +kernel
theorem dL_law_1139 : decode cL_law 1139 = .ok (.invokevirtual 192, 3) := by decide +kernel
theorem dL_law_1142 : decode cL_law 1142 = .ok (.istore 7, 2) := by decide +kernel
theorem dL_law_1144 : decode cL_law 1144 = .ok (.aload_n 2, 1) := by decide +kernel
theorem dL_law_1145 : decode cL_law 1145 = .ok (.invokevirtual 140, 3) := by decide +kernel
theorem dL_law_1148 : decode cL_law 1148 = .ok (.iload 6, 2) := by decide +kernel
theorem dL_law_1150 : decode cL_law 1150 = .ok (.if_icmp .eq 5, 3) := by decide +kernel
theorem dL_law_1153 : decode cL_law 1153 = .ok (.iconst 0, 1) := by decide +kernel
theorem dL_law_1154 : decode cL_law 1154 = .ok (.ireturn, 1) := by decide +kernel
theorem dL_law_1155 : decode cL_law 1155 = .ok (.iload 6, 2) := by decide +kernel
theorem dL_law_1157 : decode cL_law 1157 = .ok (.ifCond .ne 15, 3) := by decide +kernel
theorem dL_law_1160 : decode cL_law 1160 = .ok (.aload_n 3, 1) := by decide +kernel
theorem dL_law_1161 : decode cL_law 1161 = .ok (.iconst 0, 1) := by decide +kernel
theorem dL_law_1162 : decode cL_law 1162 = .ok (.laload, 1) := by decide +kernel
theorem dL_law_1163 : decode cL_law 1163 = .ok (.iload 7, 2) := by decide +kernel
theorem dL_law_1165 : decode cL_law 1165 = .ok (.i2l, 1) := by decide +kernel
theorem dL_law_1166 : decode cL_law 1166 = .ok (.lcmp, 1) := by decide +kernel
theorem dL_law_1167 : decode cL_law 1167 = .ok (.ifCond .eq 5, 3) := by decide +kernel
theorem dL_law_1170 : decode cL_law 1170 = .ok (.iconst 0, 1) := by decide +kernel
theorem dL_law_1171 : decode cL_law 1171 = .ok (.ireturn, 1) := by decide +kernel
theorem dL_law_1172 : decode cL_law 1172 = .ok (.goto 1204, 3) := by decide +kernel
theorem dL_law_1175 : decode cL_law 1175 = .ok (.aload_n 1, 1) := by decide +kernel
theorem dL_law_1176 : decode cL_law 1176 = .ok (.aload_n 0, 1) := by decide +kernel
theorem dL_law_1177 : decode cL_law 1177 = .ok (.iload 5, 2) := by decide +kernel
theorem dL_law_1179 : decode cL_law 1179 = .ok (.iconst 1, 1) := by decide +kernel
theorem dL_law_1180 : decode cL_law 1180 = .ok (.iadd, 1) := by decide +kernel
theorem dL_law_1181 : decode cL_law 1181 = .ok (.iaload, 1) := by decide +kernel
theorem dL_law_1182 : decode cL_law 1182 = .ok (.aload_n 3, 1) := by decide +kernel
theorem dL_law_1183 : decode cL_law 1183 = .ok (.invokestatic 193, 3) := by decide +kernel
theorem dL_law_1186 : decode cL_law 1186 = .ok (.istore 6, 2) := by decide +kernel
theorem dL_law_1188 : decode cL_law 1188 = .ok (.aload_n 2, 1) := by decide +kernel
theorem dL_law_1189 : decode cL_law 1189 = .ok (.aload_n 0, 1) := by decide +kernel
theorem dL_law_1190 : decode cL_law 1190 = .ok (.iload 5, 2) := by decide +kernel
theorem dL_law_1192 : decode cL_law 1192 = .ok (.iconst 1, 1) := by decide +kernel
theorem dL_law_1193 : decode cL_law 1193 = .ok (.iadd, 1) := by decide +kernel
theorem dL_law_1194 : decode cL_law 1194 = .ok (.iaload, 1) := by decide +kernel
theorem dL_law_1195 : decode cL_law 1195 = .ok (.invokevirtual 195, 3) := by decide +kernel
theorem dL_law_1198 : decode cL_law 1198 = .ok (.istore 7, 2) := by decide +kernel
theorem dL_law_1200 : decode cL_law 1200 = .ok (.aload_n 2, 1) := by decide +kernel
theorem dL_law_1201 : decode cL_law 1201 = .ok (.invokevirtual 140, 3) := by decide +kernel
theorem dL_law_1204 : decode cL_law 1204 = .ok (.iload 6, 2) := by decide +kernel
theorem dL_law_1206 : decode cL_law 1206 = .ok (.if_icmp .eq 5, 3) := by decide +kernel
theorem dL_law_1209 : decode cL_law 1209 = .ok (.iconst 0, 1) := by decide +kernel
theorem dL_law_1210 : decode cL_law 1210 = .ok (.ireturn, 1) := by decide +kernel
theorem dL_law_1211 : decode cL_law 1211 = .ok (.iload 6, 2) := by decide +kernel
theorem dL_law_1213 : decode cL_law 1213 = .ok (.ifCond .ne 15, 3) := by decide +kernel
theorem dL_law_1216 : decode cL_law 1216 = .ok (.aload_n 3, 1) := by decide +kernel
theorem dL_law_1217 : decode cL_law 1217 = .ok (.iconst 0, 1) := by decide +kernel
theorem dL_law_1218 : decode cL_law 1218 = .ok (.laload, 1) := by decide +kernel
theorem dL_law_1219 : decode cL_law 1219 = .ok (.iload 7, 2) := by decide +kernel
theorem dL_law_1221 : decode cL_law 1221 = .ok (.i2l, 1) := by decide +kernel
theorem dL_law_1222 : decode cL_law 1222 = .ok (.lcmp, 1) := by decide +kernel
theorem dL_law_1223 : decode cL_law 1223 = .ok (.ifCond .eq 5, 3) := by decide +kernel
theorem dL_law_1226 : decode cL_law 1226 = .ok (.iconst 0, 1) := by decide +kernel
theorem dL_law_1227 : decode cL_law 1227 = .ok (.ireturn, 1) := by decide +kernel
theorem dL_law_1228 : decode cL_law 1228 = .ok (.goto 1148, 3) := by decide +kernel
theorem dL_law_1231 : decode cL_law 1231 = .ok (.aload_n 1, 1) := by decide +kernel
theorem dL_law_1232 : decode cL_law 1232 = .ok (.aload_n 0, 1) := by decide +kernel
theorem dL_law_1233 : decode cL_law 1233 = .ok (.iload 5, 2) := by decide +kernel
theorem dL_law_1235 : decode cL_law 1235 = .ok (.iconst 1, 1) := by decide +kernel
theorem dL_law_1236 : decode cL_law 1236 = .ok (.iadd, 1) := by decide +kernel
theorem dL_law_1237 : decode cL_law 1237 = .ok (.iaload, 1) := by decide +kernel
theorem dL_law_1238 : decode cL_law 1238 = .ok (.aload_n 3, 1) := by decide +kernel
theorem dL_law_1239 : decode cL_law 1239 = .ok (.invokestatic 196, 3) := by decide +kernel
theorem dL_law_1242 : decode cL_law 1242 = .ok (.istore 6, 2) := by decide +kernel
theorem dL_law_1244 : decode cL_law 1244 = .ok (.aload_n 2, 1) := by decide +kernel
theorem dL_law_1245 : decode cL_law 1245 = .ok (.aload_n 0, 1) := by decide +kernel
theorem dL_law_1246 : decode cL_law 1246 = .ok (.iload 5, 2) := by decide +kernel
theorem dL_law_1248 : decode cL_law 1248 = .ok (.iconst 1, 1) := by decide +kernel
theorem dL_law_1249 : decode cL_law 1249 = .ok (.iadd, 1) := by decide +kernel
theorem dL_law_1250 : decode cL_law 1250 = .ok (.iaload, 1) := by decide +kernel
theorem dL_law_1251 : decode cL_law 1251 = .ok (.invokevirtual 198, 3) := by decide +kernel
theorem dL_law_1254 : decode cL_law 1254 = .ok (.istore 7, 2) := by decide +kernel
theorem dL_law_1256 : decode cL_law 1256 = .ok (.aload_n 2, 1) := by decide +kernel
theorem dL_law_1257 : decode cL_law 1257 = .ok (.invokevirtual 140, 3) := by decide +kernel
theorem dL_law_1260 : decode cL_law 1260 = .ok (.iload 6, 2) := by decide +kernel
theorem dL_law_1262 : decode cL_law 1262 = .ok (.if_icmp .eq 5, 3) := by decide +kernel
theorem dL_law_1265 : decode cL_law 1265 = .ok (.iconst 0, 1) := by decide +kernel
theorem dL_law_1266 : decode cL_law 1266 = .ok (.ireturn, 1) := by decide +kernel
theorem dL_law_1267 : decode cL_law 1267 = .ok (.iload 6, 2) := by decide +kernel
theorem dL_law_1269 : decode cL_law 1269 = .ok (.ifCond .ne 15, 3) := by decide +kernel
theorem dL_law_1272 : decode cL_law 1272 = .ok (.aload_n 3, 1) := by decide +kernel
theorem dL_law_1273 : decode cL_law 1273 = .ok (.iconst 0, 1) := by decide +kernel
theorem dL_law_1274 : decode cL_law 1274 = .ok (.laload, 1) := by decide +kernel
theorem dL_law_1275 : decode cL_law 1275 = .ok (.iload 7, 2) := by decide +kernel
theorem dL_law_1277 : decode cL_law 1277 = .ok (.i2l, 1) := by decide +kernel
theorem dL_law_1278 : decode cL_law 1278 = .ok (.lcmp, 1) := by decide +kernel
theorem dL_law_1279 : decode cL_law 1279 = .ok (.ifCond .eq 5, 3) := by decide +kernel
theorem dL_law_1282 : decode cL_law 1282 = .ok (.iconst 0, 1) := by decide +kernel
theorem dL_law_1283 : decode cL_law 1283 = .ok (.ireturn, 1) := by decide +kernel
theorem dL_law_1284 : decode cL_law 1284 = .ok (.goto 1092, 3) := by decide +kernel
theorem dL_law_1287 : decode cL_law 1287 = .ok (.aload_n 1, 1) := by decide +kernel
theorem dL_law_1288 : decode cL_law 1288 = .ok (.aload_n 0, 1) := by decide +kernel
theorem dL_law_1289 : decode cL_law 1289 = .ok (.iload 5, 2) := by decide +kernel
theorem dL_law_1291 : decode cL_law 1291 = .ok (.iconst 1, 1) := by decide +kernel
theorem dL_law_1292 : decode cL_law 1292 = .ok (.iadd, 1) := by decide +kernel
theorem dL_law_1293 : decode cL_law 1293 = .ok (.iaload, 1) := by decide +kernel
theorem dL_law_1294 : decode cL_law 1294 = .ok (.aload_n 3, 1) := by decide +kernel
theorem dL_law_1295 : decode cL_law 1295 = .ok (.invokestatic 199, 3) := by decide +kernel
theorem dL_law_1298 : decode cL_law 1298 = .ok (.istore 6, 2) := by decide +kernel
theorem dL_law_1300 : decode cL_law 1300 = .ok (.aload_n 2, 1) := by decide +kernel
theorem dL_law_1301 : decode cL_law 1301 = .ok (.aload_n 0, 1) := by decide +kernel
theorem dL_law_1302 : decode cL_law 1302 = .ok (.iload 5, 2) := by decide +kernel
theorem dL_law_1304 : decode cL_law 1304 = .ok (.iconst 1, 1) := by decide +kernel
theorem dL_law_1305 : decode cL_law 1305 = .ok (.iadd, 1) := by decide +kernel
theorem dL_law_1306 : decode cL_law 1306 = .ok (.iaload, 1) := by decide +kernel
theorem dL_law_1307 : decode cL_law 1307 = .ok (.invokevirtual 201, 3) := by decide +kernel
theorem dL_law_1310 : decode cL_law 1310 = .ok (.istore 7, 2) := by decide +kernel
theorem dL_law_1312 : decode cL_law 1312 = .ok (.aload_n 2, 1) := by decide +kernel
theorem dL_law_1313 : decode cL_law 1313 = .ok (.invokevirtual 140, 3) := by decide +kernel
theorem dL_law_1316 : decode cL_law 1316 = .ok (.iload 6, 2) := by decide +kernel
theorem dL_law_1318 : decode cL_law 1318 = .ok (.if_icmp .eq 5, 3) := by decide +kernel
theorem dL_law_1321 : decode cL_law 1321 = .ok (.iconst 0, 1) := by decide +kernel
theorem dL_law_1322 : decode cL_law 1322 = .ok (.ireturn, 1) := by decide +kernel
theorem dL_law_1323 : decode cL_law 1323 = .ok (.iload 6, 2) := by decide +kernel
theorem dL_law_1325 : decode cL_law 1325 = .ok (.ifCond .ne 22, 3) := by decide +kernel
theorem dL_law_1328 : decode cL_law 1328 = .ok (.aload_n 3, 1) := by decide +kernel
theorem dL_law_1329 : decode cL_law 1329 = .ok (.iconst 0, 1) := by decide +kernel
theorem dL_law_1330 : decode cL_law 1330 = .ok (.laload, 1) := by decide +kernel
theorem dL_law_1331 : decode cL_law 1331 = .ok (.iload 7, 2) := by decide +kernel
theorem dL_law_1333 : decode cL_law 1333 = .ok (.ifCond .eq 7, 3) := by decide +kernel
theorem dL_law_1336 : decode cL_law 1336 = .ok (.lconst 1, 1) := by decide +kernel
theorem dL_law_1337 : decode cL_law 1337 = .ok (.goto 4, 3) := by decide +kernel
theorem dL_law_1340 : decode cL_law 1340 = .ok (.lconst 0, 1) := by decide +kernel
theorem dL_law_1341 : decode cL_law 1341 = .ok (.lcmp, 1) := by decide +kernel
theorem dL_law_1342 : decode cL_law 1342 = .ok (.ifCond .eq 5, 3) := by decide +kernel
theorem dL_law_1345 : decode cL_law 1345 = .ok (.iconst 0, 1) := by decide +kernel
theorem dL_law_1346 : decode cL_law 1346 = .ok (.ireturn, 1) := by decide +kernel
theorem dL_law_1347 : decode cL_law 1347 = .ok (.goto 1029, 3) := by decide +kernel
theorem dL_law_1350 : decode cL_law 1350 = .ok (.aload_n 1, 1) := by decide +kernel
theorem dL_law_1351 : decode cL_law 1351 = .ok (.aload_n 0, 1) := by decide +kernel
theorem dL_law_1352 : decode cL_law 1352 = .ok (.iload 5, 2) := by decide +kernel
theorem dL_law_1354 : decode cL_law 1354 = .ok (.iconst 1, 1) := by decide +kernel
theorem dL_law_1355 : decode cL_law 1355 = .ok (.iadd, 1) := by decide +kernel
theorem dL_law_1356 : decode cL_law 1356 = .ok (.iaload, 1) := by decide +kernel
theorem dL_law_1357 : decode cL_law 1357 = .ok (.aload_n 3, 1) := by decide +kernel
theorem dL_law_1358 : decode cL_law 1358 = .ok (.invokestatic 202, 3) := by decide +kernel
theorem dL_law_1361 : decode cL_law 1361 = .ok (.istore 6, 2) := by decide +kernel
theorem dL_law_1363 : decode cL_law 1363 = .ok (.aload_n 2, 1) := by decide +kernel
theorem dL_law_1364 : decode cL_law 1364 = .ok (.aload_n 0, 1) := by decide +kernel
theorem dL_law_1365 : decode cL_law 1365 = .ok (.iload 5, 2) := by decide +kernel
theorem dL_law_1367 : decode cL_law 1367 = .ok (.iconst 1, 1) := by decide +kernel
theorem dL_law_1368 : decode cL_law 1368 = .ok (.iadd, 1) := by decide +kernel
theorem dL_law_1369 : decode cL_law 1369 = .ok (.iaload, 1) := by decide +kernel
theorem dL_law_1370 : decode cL_law 1370 = .ok (.invokevirtual 204, 3) := by decide +kernel
theorem dL_law_1373 : decode cL_law 1373 = .ok (.istore 7, 2) := by decide +kernel
theorem dL_law_1375 : decode cL_law 1375 = .ok (.aload_n 2, 1) := by decide +kernel
theorem dL_law_1376 : decode cL_law 1376 = .ok (.invokevirtual 140, 3) := by decide +kernel
theorem dL_law_1379 : decode cL_law 1379 = .ok (.iload 6, 2) := by decide +kernel
theorem dL_law_1381 : decode cL_law 1381 = .ok (.if_icmp .eq 5, 3) := by decide +kernel
theorem dL_law_1384 : decode cL_law 1384 = .ok (.iconst 0, 1) := by decide +kernel
theorem dL_law_1385 : decode cL_law 1385 = .ok (.ireturn, 1) := by decide +kernel
theorem dL_law_1386 : decode cL_law 1386 = .ok (.iload 6, 2) := by decide +kernel
theorem dL_law_1388 : decode cL_law 1388 = .ok (.ifCond .ne 15, 3) := by decide +kernel
theorem dL_law_1391 : decode cL_law 1391 = .ok (.aload_n 3, 1) := by decide +kernel
theorem dL_law_1392 : decode cL_law 1392 = .ok (.iconst 0, 1) := by decide +kernel
theorem dL_law_1393 : decode cL_law 1393 = .ok (.laload, 1) := by decide +kernel
theorem dL_law_1394 : decode cL_law 1394 = .ok (.iload 7, 2) := by decide +kernel
theorem dL_law_1396 : decode cL_law 1396 = .ok (.i2l, 1) := by decide +kernel
theorem dL_law_1397 : decode cL_law 1397 = .ok (.lcmp, 1) := by decide +kernel
theorem dL_law_1398 : decode cL_law 1398 = .ok (.ifCond .eq 5, 3) := by decide +kernel
theorem dL_law_1401 : decode cL_law 1401 = .ok (.iconst 0, 1) := by decide +kernel
theorem dL_law_1402 : decode cL_law 1402 = .ok (.ireturn, 1) := by decide +kernel
theorem dL_law_1403 : decode cL_law 1403 = .ok (.goto 973, 3) := by decide +kernel
theorem dL_law_1406 : decode cL_law 1406 = .ok (.aload_n 1, 1) := by decide +kernel
theorem dL_law_1407 : decode cL_law 1407 = .ok (.aload_n 0, 1) := by decide +kernel
theorem dL_law_1408 : decode cL_law 1408 = .ok (.iload 5, 2) := by decide +kernel
theorem dL_law_1410 : decode cL_law 1410 = .ok (.iconst 1, 1) := by decide +kernel
theorem dL_law_1411 : decode cL_law 1411 = .ok (.iadd, 1) := by decide +kernel
theorem dL_law_1412 : decode cL_law 1412 = .ok (.iaload, 1) := by decide +kernel
theorem dL_law_1413 : decode cL_law 1413 = .ok (.aload_n 3, 1) := by decide +kernel
theorem dL_law_1414 : decode cL_law 1414 = .ok (.invokestatic 205, 3) := by decide +kernel
theorem dL_law_1417 : decode cL_law 1417 = .ok (.istore 6, 2) := by decide +kernel
theorem dL_law_1419 : decode cL_law 1419 = .ok (.aload_n 2, 1) := by decide +kernel
theorem dL_law_1420 : decode cL_law 1420 = .ok (.aload_n 0, 1) := by decide +kernel
theorem dL_law_1421 : decode cL_law 1421 = .ok (.iload 5, 2) := by decide +kernel
theorem dL_law_1423 : decode cL_law 1423 = .ok (.iconst 1, 1) := by decide +kernel
theorem dL_law_1424 : decode cL_law 1424 = .ok (.iadd, 1) := by decide +kernel
theorem dL_law_1425 : decode cL_law 1425 = .ok (.iaload, 1) := by decide +kernel
theorem dL_law_1426 : decode cL_law 1426 = .ok (.invokevirtual 207, 3) := by decide +kernel
theorem dL_law_1429 : decode cL_law 1429 = .ok (.istore 7, 2) := by decide +kernel
theorem dL_law_1431 : decode cL_law 1431 = .ok (.aload_n 2, 1) := by decide +kernel
theorem dL_law_1432 : decode cL_law 1432 = .ok (.invokevirtual 140, 3) := by decide +kernel
theorem dL_law_1435 : decode cL_law 1435 = .ok (.iload 6, 2) := by decide +kernel
theorem dL_law_1437 : decode cL_law 1437 = .ok (.if_icmp .eq 5, 3) := by decide +kernel
theorem dL_law_1440 : decode cL_law 1440 = .ok (.iconst 0, 1) := by decide +kernel
theorem dL_law_1441 : decode cL_law 1441 = .ok (.ireturn, 1) := by decide +kernel
theorem dL_law_1442 : decode cL_law 1442 = .ok (.iload 6, 2) := by decide +kernel
theorem dL_law_1444 : decode cL_law 1444 = .ok (.ifCond .ne 15, 3) := by decide +kernel
theorem dL_law_1447 : decode cL_law 1447 = .ok (.aload_n 3, 1) := by decide +kernel
theorem dL_law_1448 : decode cL_law 1448 = .ok (.iconst 0, 1) := by decide +kernel
theorem dL_law_1449 : decode cL_law 1449 = .ok (.laload, 1) := by decide +kernel
theorem dL_law_1450 : decode cL_law 1450 = .ok (.iload 7, 2) := by decide +kernel
theorem dL_law_1452 : decode cL_law 1452 = .ok (.i2l, 1) := by decide +kernel
theorem dL_law_1453 : decode cL_law 1453 = .ok (.lcmp, 1) := by decide +kernel
theorem dL_law_1454 : decode cL_law 1454 = .ok (.ifCond .eq 5, 3) := by decide +kernel
theorem dL_law_1457 : decode cL_law 1457 = .ok (.iconst 0, 1) := by decide +kernel
theorem dL_law_1458 : decode cL_law 1458 = .ok (.ireturn, 1) := by decide +kernel
theorem dL_law_1459 : decode cL_law 1459 = .ok (.goto 917, 3) := by decide +kernel
theorem dL_law_1462 : decode cL_law 1462 = .ok (.aload_n 1, 1) := by decide +kernel
theorem dL_law_1463 : decode cL_law 1463 = .ok (.aload_n 0, 1) := by decide +kernel
theorem dL_law_1464 : decode cL_law 1464 = .ok (.iload 5, 2) := by decide +kernel
theorem dL_law_1466 : decode cL_law 1466 = .ok (.iconst 1, 1) := by decide +kernel
theorem dL_law_1467 : decode cL_law 1467 = .ok (.iadd, 1) := by decide +kernel
theorem dL_law_1468 : decode cL_law 1468 = .ok (.iaload, 1) := by decide +kernel
theorem dL_law_1469 : decode cL_law 1469 = .ok (.aload_n 3, 1) := by decide +kernel
theorem dL_law_1470 : decode cL_law 1470 = .ok (.invokestatic 208, 3) := by decide +kernel
theorem dL_law_1473 : decode cL_law 1473 = .ok (.istore 6, 2) := by decide +kernel
theorem dL_law_1475 : decode cL_law 1475 = .ok (.aload_n 2, 1) := by decide +kernel
theorem dL_law_1476 : decode cL_law 1476 = .ok (.aload_n 0, 1) := by decide +kernel
theorem dL_law_1477 : decode cL_law 1477 = .ok (.iload 5, 2) := by decide +kernel
theorem dL_law_1479 : decode cL_law 1479 = .ok (.iconst 1, 1) := by decide +kernel
theorem dL_law_1480 : decode cL_law 1480 = .ok (.iadd, 1) := by decide +kernel
theorem dL_law_1481 : decode cL_law 1481 = .ok (.iaload, 1) := by decide +kernel
theorem dL_law_1482 : decode cL_law 1482 = .ok (.invokevirtual 210, 3) := by decide +kernel
theorem dL_law_1485 : decode cL_law 1485 = .ok (.istore 7, 2) := by decide +kernel
theorem dL_law_1487 : decode cL_law 1487 = .ok (.aload_n 2, 1) := by decide +kernel
theorem dL_law_1488 : decode cL_law 1488 = .ok (.invokevirtual 140, 3) := by decide +kernel
theorem dL_law_1491 : decode cL_law 1491 = .ok (.iload 6, 2) := by decide +kernel
theorem dL_law_1493 : decode cL_law 1493 = .ok (.if_icmp .eq 5, 3) := by decide +kernel
theorem dL_law_1496 : decode cL_law 1496 = .ok (.iconst 0, 1) := by decide +kernel
theorem dL_law_1497 : decode cL_law 1497 = .ok (.ireturn, 1) := by decide +kernel
theorem dL_law_1498 : decode cL_law 1498 = .ok (.iload 6, 2) := by decide +kernel
theorem dL_law_1500 : decode cL_law 1500 = .ok (.ifCond .ne 15, 3) := by decide +kernel
theorem dL_law_1503 : decode cL_law 1503 = .ok (.aload_n 3, 1) := by decide +kernel
theorem dL_law_1504 : decode cL_law 1504 = .ok (.iconst 0, 1) := by decide +kernel
theorem dL_law_1505 : decode cL_law 1505 = .ok (.laload, 1) := by decide +kernel
theorem dL_law_1506 : decode cL_law 1506 = .ok (.iload 7, 2) := by decide +kernel
theorem dL_law_1508 : decode cL_law 1508 = .ok (.i2l, 1) := by decide +kernel
theorem dL_law_1509 : decode cL_law 1509 = .ok (.lcmp, 1) := by decide +kernel
theorem dL_law_1510 : decode cL_law 1510 = .ok (.ifCond .eq 5, 3) := by decide +kernel
theorem dL_law_1513 : decode cL_law 1513 = .ok (.iconst 0, 1) := by decide +kernel
theorem dL_law_1514 : decode cL_law 1514 = .ok (.ireturn, 1) := by decide +kernel
theorem dL_law_1515 : decode cL_law 1515 = .ok (.goto 861, 3) := by decide +kernel
theorem dL_law_1518 : decode cL_law 1518 = .ok (.aload_n 1, 1) := by decide +kernel
theorem dL_law_1519 : decode cL_law 1519 = .ok (.aload_n 0, 1) := by decide +kernel
theorem dL_law_1520 : decode cL_law 1520 = .ok (.iload 5, 2) := by decide +kernel
theorem dL_law_1522 : decode cL_law 1522 = .ok (.iconst 1, 1) := by decide +kernel
theorem dL_law_1523 : decode cL_law 1523 = .ok (.iadd, 1) := by decide +kernel
theorem dL_law_1524 : decode cL_law 1524 = .ok (.iaload, 1) := by decide +kernel
theorem dL_law_1525 : decode cL_law 1525 = .ok (.aload_n 3, 1) := by decide +kernel
theorem dL_law_1526 : decode cL_law 1526 = .ok (.invokestatic 211, 3) := by decide +kernel
theorem dL_law_1529 : decode cL_law 1529 = .ok (.istore 6, 2) := by decide +kernel
theorem dL_law_1531 : decode cL_law 1531 = .ok (.aload_n 2, 1) := by decide +kernel
theorem dL_law_1532 : decode cL_law 1532 = .ok (.aload_n 0, 1) := by decide +kernel
theorem dL_law_1533 : decode cL_law 1533 = .ok (.iload 5, 2) := by decide +kernel
theorem dL_law_1535 : decode cL_law 1535 = .ok (.iconst 1, 1) := by decide +kernel
theorem dL_law_1536 : decode cL_law 1536 = .ok (.iadd, 1) := by decide +kernel
theorem dL_law_1537 : decode cL_law 1537 = .ok (.iaload, 1) := by decide +kernel
theorem dL_law_1538 : decode cL_law 1538 = .ok (.invokevirtual 213, 3) := by decide +kernel
theorem dL_law_1541 : decode cL_law 1541 = .ok (.istore 7, 2) := by decide +kernel
theorem dL_law_1543 : decode cL_law 1543 = .ok (.aload_n 2, 1) := by decide +kernel
theorem dL_law_1544 : decode cL_law 1544 = .ok (.invokevirtual 140, 3) := by decide +kernel
theorem dL_law_1547 : decode cL_law 1547 = .ok (.iload 6, 2) := by decide +kernel
theorem dL_law_1549 : decode cL_law 1549 = .ok (.if_icmp .eq 5, 3) := by decide +kernel
theorem dL_law_1552 : decode cL_law 1552 = .ok (.iconst 0, 1) := by decide +kernel
theorem dL_law_1553 : decode cL_law 1553 = .ok (.ireturn, 1) := by decide +kernel
theorem dL_law_1554 : decode cL_law 1554 = .ok (.iload 6, 2) := by decide +kernel
theorem dL_law_1556 : decode cL_law 1556 = .ok (.ifCond .ne 15, 3) := by decide +kernel
theorem dL_law_1559 : decode cL_law 1559 = .ok (.aload_n 3, 1) := by decide +kernel
theorem dL_law_1560 : decode cL_law 1560 = .ok (.iconst 0, 1) := by decide +kernel
theorem dL_law_1561 : decode cL_law 1561 = .ok (.laload, 1) := by decide +kernel
theorem dL_law_1562 : decode cL_law 1562 = .ok (.iload 7, 2) := by decide +kernel
theorem dL_law_1564 : decode cL_law 1564 = .ok (.i2l, 1) := by decide +kernel
theorem dL_law_1565 : decode cL_law 1565 = .ok (.lcmp, 1) := by decide +kernel
theorem dL_law_1566 : decode cL_law 1566 = .ok (.ifCond .eq 5, 3) := by decide +kernel
theorem dL_law_1569 : decode cL_law 1569 = .ok (.iconst 0, 1) := by decide +kernel
theorem dL_law_1570 : decode cL_law 1570 = .ok (.ireturn, 1) := by decide +kernel
theorem dL_law_1571 : decode cL_law 1571 = .ok (.goto 805, 3) := by decide +kernel
theorem dL_law_1574 : decode cL_law 1574 = .ok (.aload_n 1, 1) := by decide +kernel
theorem dL_law_1575 : decode cL_law 1575 = .ok (.aload_n 0, 1) := by decide +kernel
theorem dL_law_1576 : decode cL_law 1576 = .ok (.iload 5, 2) := by decide +kernel
theorem dL_law_1578 : decode cL_law 1578 = .ok (.iconst 1, 1) := by decide +kernel
theorem dL_law_1579 : decode cL_law 1579 = .ok (.iadd, 1) := by decide +kernel
theorem dL_law_1580 : decode cL_law 1580 = .ok (.iaload, 1) := by decide +kernel
theorem dL_law_1581 : decode cL_law 1581 = .ok (.aload_n 3, 1) := by decide +kernel
theorem dL_law_1582 : decode cL_law 1582 = .ok (.invokestatic 214, 3) := by decide +kernel
theorem dL_law_1585 : decode cL_law 1585 = .ok (.istore 6, 2) := by decide +kernel
theorem dL_law_1587 : decode cL_law 1587 = .ok (.aload_n 2, 1) := by decide +kernel
theorem dL_law_1588 : decode cL_law 1588 = .ok (.aload_n 0, 1) := by decide +kernel
theorem dL_law_1589 : decode cL_law 1589 = .ok (.iload 5, 2) := by decide +kernel
theorem dL_law_1591 : decode cL_law 1591 = .ok (.iconst 1, 1) := by decide +kernel
theorem dL_law_1592 : decode cL_law 1592 = .ok (.iadd, 1) := by decide +kernel
theorem dL_law_1593 : decode cL_law 1593 = .ok (.iaload, 1) := by decide +kernel
theorem dL_law_1594 : decode cL_law 1594 = .ok (.invokevirtual 216, 3) := by decide +kernel
theorem dL_law_1597 : decode cL_law 1597 = .ok (.istore 7, 2) := by decide +kernel
theorem dL_law_1599 : decode cL_law 1599 = .ok (.aload_n 2, 1) := by decide +kernel
theorem dL_law_1600 : decode cL_law 1600 = .ok (.invokevirtual 140, 3) := by decide +kernel
theorem dL_law_1603 : decode cL_law 1603 = .ok (.iload 6, 2) := by decide +kernel
theorem dL_law_1605 : decode cL_law 1605 = .ok (.if_icmp .eq 5, 3) := by decide +kernel
theorem dL_law_1608 : decode cL_law 1608 = .ok (.iconst 0, 1) := by decide +kernel
theorem dL_law_1609 : decode cL_law 1609 = .ok (.ireturn, 1) := by decide +kernel
theorem dL_law_1610 : decode cL_law 1610 = .ok (.iload 6, 2) := by decide +kernel
theorem dL_law_1612 : decode cL_law 1612 = .ok (.ifCond .ne 15, 3) := by decide +kernel
theorem dL_law_1615 : decode cL_law 1615 = .ok (.aload_n 3, 1) := by decide +kernel
theorem dL_law_1616 : decode cL_law 1616 = .ok (.iconst 0, 1) := by decide +kernel
theorem dL_law_1617 : decode cL_law 1617 = .ok (.laload, 1) := by decide +kernel
theorem dL_law_1618 : decode cL_law 1618 = .ok (.iload 7, 2) := by decide +kernel
theorem dL_law_1620 : decode cL_law 1620 = .ok (.i2l, 1) := by decide +kernel
theorem dL_law_1621 : decode cL_law 1621 = .ok (.lcmp, 1) := by decide +kernel
theorem dL_law_1622 : decode cL_law 1622 = .ok (.ifCond .eq 5, 3) := by decide +kernel
theorem dL_law_1625 : decode cL_law 1625 = .ok (.iconst 0, 1) := by decide +kernel
theorem dL_law_1626 : decode cL_law 1626 = .ok (.ireturn, 1) := by decide +kernel
theorem dL_law_1627 : decode cL_law 1627 = .ok (.goto 749, 3) := by decide +kernel
theorem dL_law_1630 : decode cL_law 1630 = .ok (.aload_n 1, 1) := by decide +kernel
theorem dL_law_1631 : decode cL_law 1631 = .ok (.aload_n 0, 1) := by decide +kernel
theorem dL_law_1632 : decode cL_law 1632 = .ok (.iload 5, 2) := by decide +kernel
theorem dL_law_1634 : decode cL_law 1634 = .ok (.iconst 1, 1) := by decide +kernel
theorem dL_law_1635 : decode cL_law 1635 = .ok (.iadd, 1) := by decide +kernel
theorem dL_law_1636 : decode cL_law 1636 = .ok (.iaload, 1) := by decide +kernel
theorem dL_law_1637 : decode cL_law 1637 = .ok (.aload_n 3, 1) := by decide +kernel
theorem dL_law_1638 : decode cL_law 1638 = .ok (.invokestatic 217, 3) := by decide +kernel
theorem dL_law_1641 : decode cL_law 1641 = .ok (.istore 6, 2) := by decide +kernel
theorem dL_law_1643 : decode cL_law 1643 = .ok (.aload_n 2, 1) := by decide +kernel
theorem dL_law_1644 : decode cL_law 1644 = .ok (.aload_n 0, 1) := by decide +kernel
theorem dL_law_1645 : decode cL_law 1645 = .ok (.iload 5, 2) := by decide +kernel
theorem dL_law_1647 : decode cL_law 1647 = .ok (.iconst 1, 1) := by decide +kernel
theorem dL_law_1648 : decode cL_law 1648 = .ok (.iadd, 1) := by decide +kernel
theorem dL_law_1649 : decode cL_law 1649 = .ok (.iaload, 1) := by decide +kernel
theorem dL_law_1650 : decode cL_law 1650 = .ok (.invokevirtual 219, 3) := by decide +kernel
theorem dL_law_1653 : decode cL_law 1653 = .ok (.istore 7, 2) := by decide +kernel
theorem dL_law_1655 : decode cL_law 1655 = .ok (.aload_n 2, 1) := by decide +kernel
theorem dL_law_1656 : decode cL_law 1656 = .ok (.invokevirtual 140, 3) := by decide +kernel
theorem dL_law_1659 : decode cL_law 1659 = .ok (.iload 6, 2) := by decide +kernel
theorem dL_law_1661 : decode cL_law 1661 = .ok (.if_icmp .eq 5, 3) := by decide +kernel
theorem dL_law_1664 : decode cL_law 1664 = .ok (.iconst 0, 1) := by decide +kernel
theorem dL_law_1665 : decode cL_law 1665 = .ok (.ireturn, 1) := by decide +kernel
theorem dL_law_1666 : decode cL_law 1666 = .ok (.iload 6, 2) := by decide +kernel
theorem dL_law_1668 : decode cL_law 1668 = .ok (.ifCond .ne 15, 3) := by decide +kernel
theorem dL_law_1671 : decode cL_law 1671 = .ok (.aload_n 3, 1) := by decide +kernel
theorem dL_law_1672 : decode cL_law 1672 = .ok (.iconst 0, 1) := by decide +kernel
theorem dL_law_1673 : decode cL_law 1673 = .ok (.laload, 1) := by decide +kernel
theorem dL_law_1674 : decode cL_law 1674 = .ok (.iload 7, 2) := by decide +kernel
theorem dL_law_1676 : decode cL_law 1676 = .ok (.i2l, 1) := by decide +kernel
theorem dL_law_1677 : decode cL_law 1677 = .ok (.lcmp, 1) := by decide +kernel
theorem dL_law_1678 : decode cL_law 1678 = .ok (.ifCond .eq 5, 3) := by decide +kernel
theorem dL_law_1681 : decode cL_law 1681 = .ok (.iconst 0, 1) := by decide +kernel
theorem dL_law_1682 : decode cL_law 1682 = .ok (.ireturn, 1) := by decide +kernel
theorem dL_law_1683 : decode cL_law 1683 = .ok (.goto 693, 3) := by decide +kernel
theorem dL_law_1686 : decode cL_law 1686 = .ok (.aload_n 1, 1) := by decide +kernel
theorem dL_law_1687 : decode cL_law 1687 = .ok (.aload_n 0, 1) := by decide +kernel
theorem dL_law_1688 : decode cL_law 1688 = .ok (.iload 5, 2) := by decide +kernel
theorem dL_law_1690 : decode cL_law 1690 = .ok (.iconst 1, 1) := by decide +kernel
theorem dL_law_1691 : decode cL_law 1691 = .ok (.iadd, 1) := by decide +kernel
theorem dL_law_1692 : decode cL_law 1692 = .ok (.iaload, 1) := by decide +kernel
theorem dL_law_1693 : decode cL_law 1693 = .ok (.aload_n 0, 1) := by decide +kernel
theorem dL_law_1694 : decode cL_law 1694 = .ok (.iload 5, 2) := by decide +kernel
theorem dL_law_1696 : decode cL_law 1696 = .ok (.iconst 2, 1) := by decide +kernel
theorem dL_law_1697 : decode cL_law 1697 = .ok (.iadd, 1) := by decide +kernel
theorem dL_law_1698 : decode cL_law 1698 = .ok (.iaload, 1) := by decide +kernel
theorem dL_law_1699 : decode cL_law 1699 = .ok (.aload_n 3, 1) := by decide +kernel
theorem dL_law_1700 : decode cL_law 1700 = .ok (.invokestatic 220, 3) := by decide +kernel
theorem dL_law_1703 : decode cL_law 1703 = .ok (.istore 6, 2) := by decide +kernel
theorem dL_law_1705 : decode cL_law 1705 = .ok (.aload_n 2, 1) := by decide +kernel
theorem dL_law_1706 : decode cL_law 1706 = .ok (.aload_n 0, 1) := by decide +kernel
theorem dL_law_1707 : decode cL_law 1707 = .ok (.iload 5, 2) := by decide +kernel
theorem dL_law_1709 : decode cL_law 1709 = .ok (.iconst 1, 1) := by decide +kernel
theorem dL_law_1710 : decode cL_law 1710 = .ok (.iadd, 1) := by decide +kernel
theorem dL_law_1711 : decode cL_law 1711 = .ok (.iaload, 1) := by decide +kernel
theorem dL_law_1712 : decode cL_law 1712 = .ok (.aload_n 0, 1) := by decide +kernel
theorem dL_law_1713 : decode cL_law 1713 = .ok (.iload 5, 2) := by decide +kernel
theorem dL_law_1715 : decode cL_law 1715 = .ok (.iconst 2, 1) := by decide +kernel
theorem dL_law_1716 : decode cL_law 1716 = .ok (.iadd, 1) := by decide +kernel
theorem dL_law_1717 : decode cL_law 1717 = .ok (.iaload, 1) := by decide +kernel
theorem dL_law_1718 : decode cL_law 1718 = .ok (.invokevirtual 222, 3) := by decide +kernel
theorem dL_law_1721 : decode cL_law 1721 = .ok (.istore 7, 2) := by decide +kernel
theorem dL_law_1723 : decode cL_law 1723 = .ok (.aload_n 2, 1) := by decide +kernel
theorem dL_law_1724 : decode cL_law 1724 = .ok (.invokevirtual 140, 3) := by decide +kernel
theorem dL_law_1727 : decode cL_law 1727 = .ok (.iload 6, 2) := by decide +kernel
theorem dL_law_1729 : decode cL_law 1729 = .ok (.if_icmp .eq 5, 3) := by decide +kernel
theorem dL_law_1732 : decode cL_law 1732 = .ok (.iconst 0, 1) := by decide +kernel
theorem dL_law_1733 : decode cL_law 1733 = .ok (.ireturn, 1) := by decide +kernel
theorem dL_law_1734 : decode cL_law 1734 = .ok (.iload 6, 2) := by decide +kernel
theorem dL_law_1736 : decode cL_law 1736 = .ok (.ifCond .ne 15, 3) := by decide +kernel
theorem dL_law_1739 : decode cL_law 1739 = .ok (.aload_n 3, 1) := by decide +kernel
theorem dL_law_1740 : decode cL_law 1740 = .ok (.iconst 0, 1) := by decide +kernel
theorem dL_law_1741 : decode cL_law 1741 = .ok (.laload, 1) := by decide +kernel
theorem dL_law_1742 : decode cL_law 1742 = .ok (.iload 7, 2) := by decide +kernel
theorem dL_law_1744 : decode cL_law 1744 = .ok (.i2l, 1) := by decide +kernel
theorem dL_law_1745 : decode cL_law 1745 = .ok (.lcmp, 1) := by decide +kernel
theorem dL_law_1746 : decode cL_law 1746 = .ok (.ifCond .eq 5, 3) := by decide +kernel
theorem dL_law_1749 : decode cL_law 1749 = .ok (.iconst 0, 1) := by decide +kernel
theorem dL_law_1750 : decode cL_law 1750 = .ok (.ireturn, 1) := by decide +kernel
theorem dL_law_1751 : decode cL_law 1751 = .ok (.goto 625, 3) := by decide +kernel
theorem dL_law_1754 : decode cL_law 1754 = .ok (.aload_n 1, 1) := by decide +kernel
theorem dL_law_1755 : decode cL_law 1755 = .ok (.aload_n 0, 1) := by decide +kernel
theorem dL_law_1756 : decode cL_law 1756 = .ok (.iload 5, 2) := by decide +kernel
theorem dL_law_1758 : decode cL_law 1758 = .ok (.iconst 1, 1) := by decide +kernel
theorem dL_law_1759 : decode cL_law 1759 = .ok (.iadd, 1) := by decide +kernel
theorem dL_law_1760 : decode cL_law 1760 = .ok (.iaload, 1) := by decide +kernel
theorem dL_law_1761 : decode cL_law 1761 = .ok (.aload_n 0, 1) := by decide +kernel
theorem dL_law_1762 : decode cL_law 1762 = .ok (.iload 5, 2) := by decide +kernel
theorem dL_law_1764 : decode cL_law 1764 = .ok (.iconst 2, 1) := by decide +kernel
theorem dL_law_1765 : decode cL_law 1765 = .ok (.iadd, 1) := by decide +kernel
theorem dL_law_1766 : decode cL_law 1766 = .ok (.iaload, 1) := by decide +kernel
theorem dL_law_1767 : decode cL_law 1767 = .ok (.aload_n 3, 1) := by decide +kernel
theorem dL_law_1768 : decode cL_law 1768 = .ok (.invokestatic 223, 3) := by decide +kernel
theorem dL_law_1771 : decode cL_law 1771 = .ok (.istore 6, 2) := by decide +kernel
theorem dL_law_1773 : decode cL_law 1773 = .ok (.aload_n 2, 1) := by decide +kernel
theorem dL_law_1774 : decode cL_law 1774 = .ok (.aload_n 0, 1) := by decide +kernel
theorem dL_law_1775 : decode cL_law 1775 = .ok (.iload 5, 2) := by decide +kernel
theorem dL_law_1777 : decode cL_law 1777 = .ok (.iconst 1, 1) := by decide +kernel
theorem dL_law_1778 : decode cL_law 1778 = .ok (.iadd, 1) := by decide +kernel
theorem dL_law_1779 : decode cL_law 1779 = .ok (.iaload, 1) := by decide +kernel
theorem dL_law_1780 : decode cL_law 1780 = .ok (.aload_n 0, 1) := by decide +kernel
theorem dL_law_1781 : decode cL_law 1781 = .ok (.iload 5, 2) := by decide +kernel
theorem dL_law_1783 : decode cL_law 1783 = .ok (.iconst 2, 1) := by decide +kernel
theorem dL_law_1784 : decode cL_law 1784 = .ok (.iadd, 1) := by decide +kernel
theorem dL_law_1785 : decode cL_law 1785 = .ok (.iaload, 1) := by decide +kernel
theorem dL_law_1786 : decode cL_law 1786 = .ok (.invokevirtual 225, 3) := by decide +kernel
theorem dL_law_1789 : decode cL_law 1789 = .ok (.istore 7, 2) := by decide +kernel
theorem dL_law_1791 : decode cL_law 1791 = .ok (.aload_n 2, 1) := by decide +kernel
theorem dL_law_1792 : decode cL_law 1792 = .ok (.invokevirtual 140, 3) := by decide +kernel
theorem dL_law_1795 : decode cL_law 1795 = .ok (.iload 6, 2) := by decide +kernel
theorem dL_law_1797 : decode cL_law 1797 = .ok (.if_icmp .eq 5, 3) := by decide +kernel
theorem dL_law_1800 : decode cL_law 1800 = .ok (.iconst 0, 1) := by decide +kernel
theorem dL_law_1801 : decode cL_law 1801 = .ok (.ireturn, 1) := by decide +kernel
theorem dL_law_1802 : decode cL_law 1802 = .ok (.iload 6, 2) := by decide +kernel
theorem dL_law_1804 : decode cL_law 1804 = .ok (.ifCond .ne 15, 3) := by decide +kernel
theorem dL_law_1807 : decode cL_law 1807 = .ok (.aload_n 3, 1) := by decide +kernel
theorem dL_law_1808 : decode cL_law 1808 = .ok (.iconst 0, 1) := by decide +kernel
theorem dL_law_1809 : decode cL_law 1809 = .ok (.laload, 1) := by decide +kernel
theorem dL_law_1810 : decode cL_law 1810 = .ok (.iload 7, 2) := by decide +kernel
theorem dL_law_1812 : decode cL_law 1812 = .ok (.i2l, 1) := by decide +kernel
theorem dL_law_1813 : decode cL_law 1813 = .ok (.lcmp, 1) := by decide +kernel
theorem dL_law_1814 : decode cL_law 1814 = .ok (.ifCond .eq 5, 3) := by decide +kernel
theorem dL_law_1817 : decode cL_law 1817 = .ok (.iconst 0, 1) := by decide +kernel
theorem dL_law_1818 : decode cL_law 1818 = .ok (.ireturn, 1) := by decide +kernel
theorem dL_law_1819 : decode cL_law 1819 = .ok (.goto 557, 3) := by decide +kernel
theorem dL_law_1822 : decode cL_law 1822 = .ok (.aload_n 1, 1) := by decide +kernel
theorem dL_law_1823 : decode cL_law 1823 = .ok (.invokevirtual 226, 3) := by decide +kernel
theorem dL_law_1826 : decode cL_law 1826 = .ok (.aload_n 2, 1) := by decide +kernel
theorem dL_law_1827 : decode cL_law 1827 = .ok (.invokevirtual 229, 3) := by decide +kernel
theorem dL_law_1830 : decode cL_law 1830 = .ok (.if_icmp .eq 546, 3) := by decide +kernel
theorem dL_law_1833 : decode cL_law 1833 = .ok (.iconst 0, 1) := by decide +kernel
theorem dL_law_1834 : decode cL_law 1834 = .ok (.ireturn, 1) := by decide +kernel
theorem dL_law_1835 : decode cL_law 1835 = .ok (.aload_n 1, 1) := by decide +kernel
theorem dL_law_1836 : decode cL_law 1836 = .ok (.aload_n 0, 1) := by decide +kernel
theorem dL_law_1837 : decode cL_law 1837 = .ok (.iload 5, 2) := by decide +kernel
theorem dL_law_1839 : decode cL_law 1839 = .ok (.iconst 1, 1) := by decide +kernel
theorem dL_law_1840 : decode cL_law 1840 = .ok (.iadd, 1) := by decide +kernel
theorem dL_law_1841 : decode cL_law 1841 = .ok (.iaload, 1) := by decide +kernel
theorem dL_law_1842 : decode cL_law 1842 = .ok (.aload_n 3, 1) := by decide +kernel
theorem dL_law_1843 : decode cL_law 1843 = .ok (.invokestatic 230, 3) := by decide +kernel
theorem dL_law_1846 : decode cL_law 1846 = .ok (.istore 6, 2) := by decide +kernel
theorem dL_law_1848 : decode cL_law 1848 = .ok (.aload_n 2, 1) := by decide +kernel
theorem dL_law_1849 : decode cL_law 1849 = .ok (.aload_n 0, 1) := by decide +kernel
theorem dL_law_1850 : decode cL_law 1850 = .ok (.iload 5, 2) := by decide +kernel
theorem dL_law_1852 : decode cL_law 1852 = .ok (.iconst 1, 1) := by decide +kernel
theorem dL_law_1853 : decode cL_law 1853 = .ok (.iadd, 1) := by decide +kernel
theorem dL_law_1854 : decode cL_law 1854 = .ok (.iaload, 1) := by decide +kernel
theorem dL_law_1855 : decode cL_law 1855 = .ok (.invokevirtual 232, 3) := by decide +kernel
theorem dL_law_1858 : decode cL_law 1858 = .ok (.istore 7, 2) := by decide +kernel
theorem dL_law_1860 : decode cL_law 1860 = .ok (.aload_n 2, 1) := by decide +kernel
theorem dL_law_1861 : decode cL_law 1861 = .ok (.invokevirtual 140, 3) := by decide +kernel
theorem dL_law_1864 : decode cL_law 1864 = .ok (.iload 6, 2) := by decide +kernel
theorem dL_law_1866 : decode cL_law 1866 = .ok (.if_icmp .eq 5, 3) := by decide +kernel
theorem dL_law_1869 : decode cL_law 1869 = .ok (.iconst 0, 1) := by decide +kernel
theorem dL_law_1870 : decode cL_law 1870 = .ok (.ireturn, 1) := by decide +kernel
theorem dL_law_1871 : decode cL_law 1871 = .ok (.iload 6, 2) := by decide +kernel
theorem dL_law_1873 : decode cL_law 1873 = .ok (.ifCond .ne 15, 3) := by decide +kernel
theorem dL_law_1876 : decode cL_law 1876 = .ok (.aload_n 3, 1) := by decide +kernel
theorem dL_law_1877 : decode cL_law 1877 = .ok (.iconst 0, 1) := by decide +kernel
theorem dL_law_1878 : decode cL_law 1878 = .ok (.laload, 1) := by decide +kernel
theorem dL_law_1879 : decode cL_law 1879 = .ok (.iload 7, 2) := by decide +kernel
theorem dL_law_1881 : decode cL_law 1881 = .ok (.i2l, 1) := by decide +kernel
theorem dL_law_1882 : decode cL_law 1882 = .ok (.lcmp, 1) := by decide +kernel
theorem dL_law_1883 : decode cL_law 1883 = .ok (.ifCond .eq 5, 3) := by decide +kernel
theorem dL_law_1886 : decode cL_law 1886 = .ok (.iconst 0, 1) := by decide +kernel
theorem dL_law_1887 : decode cL_law 1887 = .ok (.ireturn, 1) := by decide +kernel
theorem dL_law_1888 : decode cL_law 1888 = .ok (.goto 488, 3) := by decide +kernel
theorem dL_law_1891 : decode cL_law 1891 = .ok (.aload_n 1, 1) := by decide +kernel
theorem dL_law_1892 : decode cL_law 1892 = .ok (.aload_n 0, 1) := by decide +kernel
theorem dL_law_1893 : decode cL_law 1893 = .ok (.iload 5, 2) := by decide +kernel
theorem dL_law_1895 : decode cL_law 1895 = .ok (.iconst 1, 1) := by decide +kernel
theorem dL_law_1896 : decode cL_law 1896 = .ok (.iadd, 1) := by decide +kernel
theorem dL_law_1897 : decode cL_law 1897 = .ok (.iaload, 1) := by decide +kernel
theorem dL_law_1898 : decode cL_law 1898 = .ok (.aload_n 3, 1) := by decide +kernel
theorem dL_law_1899 : decode cL_law 1899 = .ok (.invokestatic 233, 3) := by decide +kernel
theorem dL_law_1902 : decode cL_law 1902 = .ok (.istore 6, 2) := by decide +kernel
theorem dL_law_1904 : decode cL_law 1904 = .ok (.aload_n 2, 1) := by decide +kernel
theorem dL_law_1905 : decode cL_law 1905 = .ok (.aload_n 0, 1) := by decide +kernel
theorem dL_law_1906 : decode cL_law 1906 = .ok (.iload 5, 2) := by decide +kernel
theorem dL_law_1908 : decode cL_law 1908 = .ok (.iconst 1, 1) := by decide +kernel
theorem dL_law_1909 : decode cL_law 1909 = .ok (.iadd, 1) := by decide +kernel
theorem dL_law_1910 : decode cL_law 1910 = .ok (.iaload, 1) := by decide +kernel
theorem dL_law_1911 : decode cL_law 1911 = .ok (.invokevirtual 235, 3) := by decide +kernel
theorem dL_law_1914 : decode cL_law 1914 = .ok (.istore 7, 2) := by decide +kernel
theorem dL_law_1916 : decode cL_law 1916 = .ok (.aload_n 2, 1) := by decide +kernel
theorem dL_law_1917 : decode cL_law 1917 = .ok (.invokevirtual 140, 3) := by decide +kernel
theorem dL_law_1920 : decode cL_law 1920 = .ok (.iload 6, 2) := by decide +kernel
theorem dL_law_1922 : decode cL_law 1922 = .ok (.if_icmp .eq 5, 3) := by decide +kernel
theorem dL_law_1925 : decode cL_law 1925 = .ok (.iconst 0, 1) := by decide +kernel
theorem dL_law_1926 : decode cL_law 1926 = .ok (.ireturn, 1) := by decide +kernel
theorem dL_law_1927 : decode cL_law 1927 = .ok (.iload 6, 2) := by decide +kernel
theorem dL_law_1929 : decode cL_law 1929 = .ok (.ifCond .ne 22, 3) := by decide +kernel
theorem dL_law_1932 : decode cL_law 1932 = .ok (.aload_n 3, 1) := by decide +kernel
theorem dL_law_1933 : decode cL_law 1933 = .ok (.iconst 0, 1) := by decide +kernel
theorem dL_law_1934 : decode cL_law 1934 = .ok (.laload, 1) := by decide +kernel
theorem dL_law_1935 : decode cL_law 1935 = .ok (.iload 7, 2) := by decide +kernel
theorem dL_law_1937 : decode cL_law 1937 = .ok (.ifCond .eq 7, 3) := by decide +kernel
theorem dL_law_1940 : decode cL_law 1940 = .ok (.lconst 1, 1) := by decide +kernel
theorem dL_law_1941 : decode cL_law 1941 = .ok (.goto 4, 3) := by decide +kernel
theorem dL_law_1944 : decode cL_law 1944 = .ok (.lconst 0, 1) := by decide +kernel
theorem dL_law_1945 : decode cL_law 1945 = .ok (.lcmp, 1) := by decide +kernel
theorem dL_law_1946 : decode cL_law 1946 = .ok (.ifCond .eq 5, 3) := by decide +kernel
theorem dL_law_1949 : decode cL_law 1949 = .ok (.iconst 0, 1) := by decide +kernel
theorem dL_law_1950 : decode cL_law 1950 = .ok (.ireturn, 1) := by decide +kernel
theorem dL_law_1951 : decode cL_law 1951 = .ok (.goto 425, 3) := by decide +kernel
theorem dL_law_1954 : decode cL_law 1954 = .ok (.aload_n 1, 1) := by decide +kernel
theorem dL_law_1955 : decode cL_law 1955 = .ok (.aload_n 0, 1) := by decide +kernel
theorem dL_law_1956 : decode cL_law 1956 = .ok (.iload 5, 2) := by decide +kernel
theorem dL_law_1958 : decode cL_law 1958 = .ok (.iconst 1, 1) := by decide +kernel
theorem dL_law_1959 : decode cL_law 1959 = .ok (.iadd, 1) := by decide +kernel
theorem dL_law_1960 : decode cL_law 1960 = .ok (.iaload, 1) := by decide +kernel
theorem dL_law_1961 : decode cL_law 1961 = .ok (.aload_n 3, 1) := by decide +kernel
theorem dL_law_1962 : decode cL_law 1962 = .ok (.invokestatic 236, 3) := by decide +kernel
theorem dL_law_1965 : decode cL_law 1965 = .ok (.istore 6, 2) := by decide +kernel
theorem dL_law_1967 : decode cL_law 1967 = .ok (.aload_n 2, 1) := by decide +kernel
theorem dL_law_1968 : decode cL_law 1968 = .ok (.aload_n 0, 1) := by decide +kernel
theorem dL_law_1969 : decode cL_law 1969 = .ok (.iload 5, 2) := by decide +kernel
theorem dL_law_1971 : decode cL_law 1971 = .ok (.iconst 1, 1) := by decide +kernel
theorem dL_law_1972 : decode cL_law 1972 = .ok (.iadd, 1) := by decide +kernel
theorem dL_law_1973 : decode cL_law 1973 = .ok (.iaload, 1) := by decide +kernel
theorem dL_law_1974 : decode cL_law 1974 = .ok (.invokevirtual 238, 3) := by decide +kernel
theorem dL_law_1977 : decode cL_law 1977 = .ok (.istore 7, 2) := by decide +kernel
theorem dL_law_1979 : decode cL_law 1979 = .ok (.aload_n 2, 1) := by decide +kernel
theorem dL_law_1980 : decode cL_law 1980 = .ok (.invokevirtual 140, 3) := by decide +kernel
theorem dL_law_1983 : decode cL_law 1983 = .ok (.iload 6, 2) := by decide +kernel
theorem dL_law_1985 : decode cL_law 1985 = .ok (.if_icmp .eq 5, 3) := by decide +kernel
theorem dL_law_1988 : decode cL_law 1988 = .ok (.iconst 0, 1) := by decide +kernel
theorem dL_law_1989 : decode cL_law 1989 = .ok (.ireturn, 1) := by decide +kernel
theorem dL_law_1990 : decode cL_law 1990 = .ok (.iload 6, 2) := by decide +kernel
theorem dL_law_1992 : decode cL_law 1992 = .ok (.ifCond .ne 15, 3) := by decide +kernel
theorem dL_law_1995 : decode cL_law 1995 = .ok (.aload_n 3, 1) := by decide +kernel
theorem dL_law_1996 : decode cL_law 1996 = .ok (.iconst 0, 1) := by decide +kernel
theorem dL_law_1997 : decode cL_law 1997 = .ok (.laload, 1) := by decide +kernel
theorem dL_law_1998 : decode cL_law 1998 = .ok (.iload 7, 2) := by decide +kernel
theorem dL_law_2000 : decode cL_law 2000 = .ok (.i2l, 1) := by decide +kernel
theorem dL_law_2001 : decode cL_law 2001 = .ok (.lcmp, 1) := by decide +kernel
theorem dL_law_2002 : decode cL_law 2002 = .ok (.ifCond .eq 5, 3) := by decide +kernel
theorem dL_law_2005 : decode cL_law 2005 = .ok (.iconst 0, 1) := by decide +kernel
theorem dL_law_2006 : decode cL_law 2006 = .ok (.ireturn, 1) := by decide +kernel
theorem dL_law_2007 : decode cL_law 2007 = .ok (.goto 369, 3) := by decide +kernel
theorem dL_law_2010 : decode cL_law 2010 = .ok (.aload_n 1, 1) := by decide +kernel
theorem dL_law_2011 : decode cL_law 2011 = .ok (.aload_n 0, 1) := by decide +kernel
theorem dL_law_2012 : decode cL_law 2012 = .ok (.iload 5, 2) := by decide +kernel
theorem dL_law_2014 : decode cL_law 2014 = .ok (.iconst 1, 1) := by decide +kernel
theorem dL_law_2015 : decode cL_law 2015 = .ok (.iadd, 1) := by decide +kernel
theorem dL_law_2016 : decode cL_law 2016 = .ok (.iaload, 1) := by decide +kernel
theorem dL_law_2017 : decode cL_law 2017 = .ok (.aload_n 0, 1) := by decide +kernel
theorem dL_law_2018 : decode cL_law 2018 = .ok (.iload 5, 2) := by decide +kernel
theorem dL_law_2020 : decode cL_law 2020 = .ok (.iconst 2, 1) := by decide +kernel
theorem dL_law_2021 : decode cL_law 2021 = .ok (.iadd, 1) := by decide +kernel
theorem dL_law_2022 : decode cL_law 2022 = .ok (.iaload, 1) := by decide +kernel
theorem dL_law_2023 : decode cL_law 2023 = .ok (.aload_n 3, 1) := by decide +kernel
theorem dL_law_2024 : decode cL_law 2024 = .ok (.invokestatic 239, 3) := by decide +kernel
theorem dL_law_2027 : decode cL_law 2027 = .ok (.istore 6, 2) := by decide +kernel
theorem dL_law_2029 : decode cL_law 2029 = .ok (.aload_n 2, 1) := by decide +kernel
theorem dL_law_2030 : decode cL_law 2030 = .ok (.aload_n 0, 1) := by decide +kernel
theorem dL_law_2031 : decode cL_law 2031 = .ok (.iload 5, 2) := by decide +kernel
theorem dL_law_2033 : decode cL_law 2033 = .ok (.iconst 1, 1) := by decide +kernel
theorem dL_law_2034 : decode cL_law 2034 = .ok (.iadd, 1) := by decide +kernel
theorem dL_law_2035 : decode cL_law 2035 = .ok (.iaload, 1) := by decide +kernel
theorem dL_law_2036 : decode cL_law 2036 = .ok (.aload_n 0, 1) := by decide +kernel
theorem dL_law_2037 : decode cL_law 2037 = .ok (.iload 5, 2) := by decide +kernel
theorem dL_law_2039 : decode cL_law 2039 = .ok (.iconst 2, 1) := by decide +kernel
theorem dL_law_2040 : decode cL_law 2040 = .ok (.iadd, 1) := by decide +kernel
theorem dL_law_2041 : decode cL_law 2041 = .ok (.iaload, 1) := by decide +kernel
theorem dL_law_2042 : decode cL_law 2042 = .ok (.invokevirtual 241, 3) := by decide +kernel
theorem dL_law_2045 : decode cL_law 2045 = .ok (.istore 7, 2) := by decide +kernel
theorem dL_law_2047 : decode cL_law 2047 = .ok (.aload_n 2, 1) := by decide +kernel
theorem dL_law_2048 : decode cL_law 2048 = .ok (.invokevirtual 140, 3) := by decide +kernel
theorem dL_law_2051 : decode cL_law 2051 = .ok (.iload 6, 2) := by decide +kernel
theorem dL_law_2053 : decode cL_law 2053 = .ok (.if_icmp .eq 5, 3) := by decide +kernel
theorem dL_law_2056 : decode cL_law 2056 = .ok (.iconst 0, 1) := by decide +kernel
theorem dL_law_2057 : decode cL_law 2057 = .ok (.ireturn, 1) := by decide +kernel
theorem dL_law_2058 : decode cL_law 2058 = .ok (.iload 6, 2) := by decide +kernel
theorem dL_law_2060 : decode cL_law 2060 = .ok (.ifCond .ne 15, 3) := by decide +kernel
theorem dL_law_2063 : decode cL_law 2063 = .ok (.aload_n 3, 1) := by decide +kernel
theorem dL_law_2064 : decode cL_law 2064 = .ok (.iconst 0, 1) := by decide +kernel
theorem dL_law_2065 : decode cL_law 2065 = .ok (.laload, 1) := by decide +kernel
theorem dL_law_2066 : decode cL_law 2066 = .ok (.iload 7, 2) := by decide +kernel
theorem dL_law_2068 : decode cL_law 2068 = .ok (.i2l, 1) := by decide +kernel
theorem dL_law_2069 : decode cL_law 2069 = .ok (.lcmp, 1) := by decide +kernel
theorem dL_law_2070 : decode cL_law 2070 = .ok (.ifCond .eq 5, 3) := by decide +kernel
theorem dL_law_2073 : decode cL_law 2073 = .ok (.iconst 0, 1) := by decide +kernel
theorem dL_law_2074 : decode cL_law 2074 = .ok (.ireturn, 1) := by decide +kernel
theorem dL_law_2075 : decode cL_law 2075 = .ok (.goto 301, 3) := by decide +kernel
theorem dL_law_2078 : decode cL_law 2078 = .ok (.aload_n 1, 1) := by decide +kernel
theorem dL_law_2079 : decode cL_law 2079 = .ok (.invokevirtual 242, 3) := by decide +kernel
theorem dL_law_2082 : decode cL_law 2082 = .ok (.aload_n 2, 1) := by decide +kernel
theorem dL_law_2083 : decode cL_law 2083 = .ok (.invokevirtual 245, 3) := by decide +kernel
theorem dL_law_2086 : decode cL_law 2086 = .ok (.if_icmp .eq 290, 3) := by decide +kernel
theorem dL_law_2089 : decode cL_law 2089 = .ok (.iconst 0, 1) := by decide +kernel
theorem dL_law_2090 : decode cL_law 2090 = .ok (.ireturn, 1) := by decide +kernel
theorem dL_law_2091 : decode cL_law 2091 = .ok (.aload_n 1, 1) := by decide +kernel
theorem dL_law_2092 : decode cL_law 2092 = .ok (.invokevirtual 246, 3) := by decide +kernel
theorem dL_law_2095 : decode cL_law 2095 = .ok (.aload_n 2, 1) := by decide +kernel
theorem dL_law_2096 : decode cL_law 2096 = .ok (.invokevirtual 249, 3) := by decide +kernel
theorem dL_law_2099 : decode cL_law 2099 = .ok (.if_icmp .eq 277, 3) := by decide +kernel
theorem dL_law_2102 : decode cL_law 2102 = .ok (.iconst 0, 1) := by decide +kernel
theorem dL_law_2103 : decode cL_law 2103 = .ok (.ireturn, 1) := by decide +kernel
theorem dL_law_2104 : decode cL_law 2104 = .ok (.aload_n 1, 1) := by decide +kernel
theorem dL_law_2105 : decode cL_law 2105 = .ok (.aload_n 0, 1) := by decide +kernel
theorem dL_law_2106 : decode cL_law 2106 = .ok (.iload 5, 2) := by decide +kernel
theorem dL_law_2108 : decode cL_law 2108 = .ok (.iconst 1, 1) := by decide +kernel
theorem dL_law_2109 : decode cL_law 2109 = .ok (.iadd, 1) := by decide +kernel
theorem dL_law_2110 : decode cL_law 2110 = .ok (.iaload, 1) := by decide +kernel
theorem dL_law_2111 : decode cL_law 2111 = .ok (.i2c, 1) := by decide +kernel
theorem dL_law_2112 : decode cL_law 2112 = .ok (.aload_n 3, 1) := by decide +kernel
theorem dL_law_2113 : decode cL_law 2113 = .ok (.invokestatic 250, 3) := by decide +kernel
theorem dL_law_2116 : decode cL_law 2116 = .ok (.istore 6, 2) := by decide +kernel
theorem dL_law_2118 : decode cL_law 2118 = .ok (.aload_n 2, 1) := by decide +kernel
theorem dL_law_2119 : decode cL_law 2119 = .ok (.aload_n 0, 1) := by decide +kernel
theorem dL_law_2120 : decode cL_law 2120 = .ok (.iload 5, 2) := by decide +kernel
theorem dL_law_2122 : decode cL_law 2122 = .ok (.iconst 1, 1) := by decide +kernel
theorem dL_law_2123 : decode cL_law 2123 = .ok (.iadd, 1) := by decide +kernel
theorem dL_law_2124 : decode cL_law 2124 = .ok (.iaload, 1) := by decide +kernel
theorem dL_law_2125 : decode cL_law 2125 = .ok (.i2c, 1) := by decide +kernel
theorem dL_law_2126 : decode cL_law 2126 = .ok (.invokevirtual 253, 3) := by decide +kernel
theorem dL_law_2129 : decode cL_law 2129 = .ok (.istore 7, 2) := by decide +kernel
theorem dL_law_2131 : decode cL_law 2131 = .ok (.aload_n 2, 1) := by decide +kernel
theorem dL_law_2132 : decode cL_law 2132 = .ok (.invokevirtual 140, 3) := by decide +kernel
theorem dL_law_2135 : decode cL_law 2135 = .ok (.iload 6, 2) := by decide +kernel
theorem dL_law_2137 : decode cL_law 2137 = .ok (.if_icmp .eq 5, 3) := by decide +kernel
theorem dL_law_2140 : decode cL_law 2140 = .ok (.iconst 0, 1) := by decide +kernel
theorem dL_law_2141 : decode cL_law 2141 = .ok (.ireturn, 1) := by decide +kernel
theorem dL_law_2142 : decode cL_law 2142 = .ok (.iload 6, 2) := by decide +kernel
theorem dL_law_2144 : decode cL_law 2144 = .ok (.ifCond .ne 15, 3) := by decide +kernel
theorem dL_law_2147 : decode cL_law 2147 = .ok (.aload_n 3, 1) := by decide +kernel
theorem dL_law_2148 : decode cL_law 2148 = .ok (.iconst 0, 1) := by decide +kernel
theorem dL_law_2149 : decode cL_law 2149 = .ok (.laload, 1) := by decide +kernel
theorem dL_law_2150 : decode cL_law 2150 = .ok (.iload 7, 2) := by decide +kernel
theorem dL_law_2152 : decode cL_law 2152 = .ok (.i2l, 1) := by decide +kernel
theorem dL_law_2153 : decode cL_law 2153 = .ok (.lcmp, 1) := by decide +kernel
theorem dL_law_2154 : decode cL_law 2154 = .ok (.ifCond .eq 5, 3) := by decide +kernel
theorem dL_law_2157 : decode cL_law 2157 = .ok (.iconst 0, 1) := by decide +kernel
theorem dL_law_2158 : decode cL_law 2158 = .ok (.ireturn, 1) := by decide +kernel
theorem dL_law_2159 : decode cL_law 2159 = .ok (.goto 217, 3) := by decide +kernel
theorem dL_law_2162 : decode cL_law 2162 = .ok (.aload_n 1, 1) := by decide +kernel
theorem dL_law_2163 : decode cL_law 2163 = .ok (.invokevirtual 254, 3) := by decide +kernel
theorem dL_law_2166 : decode cL_law 2166 = .ok (.aload_n 2, 1) := by decide +kernel
theorem dL_law_2167 : decode cL_law 2167 = .ok (.invokevirtual 258, 3) := by decide +kernel
theorem dL_law_2170 : decode cL_law 2170 = .ok (.lcmp, 1) := by decide +kernel
theorem dL_law_2171 : decode cL_law 2171 = .ok (.ifCond .eq 205, 3) := by decide +kernel
theorem dL_law_2174 : decode cL_law 2174 = .ok (.iconst 0, 1) := by decide +kernel
theorem dL_law_2175 : decode cL_law 2175 = .ok (.ireturn, 1) := by decide +kernel
theorem dL_law_2176 : decode cL_law 2176 = .ok (.aload_n 1, 1) := by decide +kernel
theorem dL_law_2177 : decode cL_law 2177 = .ok (.invokevirtual 259, 3) := by decide +kernel
theorem dL_law_2180 : decode cL_law 2180 = .ok (.aload_n 2, 1) := by decide +kernel
theorem dL_law_2181 : decode cL_law 2181 = .ok (.invokevirtual 263, 3) := by decide +kernel
theorem dL_law_2184 : decode cL_law 2184 = .ok (.if_icmp .eq 192, 3) := by decide +kernel
theorem dL_law_2187 : decode cL_law 2187 = .ok (.iconst 0, 1) := by decide +kernel
theorem dL_law_2188 : decode cL_law 2188 = .ok (.ireturn, 1) := by decide +kernel
theorem dL_law_2189 : decode cL_law 2189 = .ok (.aload_n 1, 1) := by decide +kernel
theorem dL_law_2190 : decode cL_law 2190 = .ok (.aload 4, 2) := by decide +kernel
theorem dL_law_2192 : decode cL_law 2192 = .ok (.invokestatic 264, 3) := by decide +kernel
theorem dL_law_2195 : decode cL_law 2195 = .ok (.istore 6, 2) := by decide +kernel
theorem dL_law_2197 : decode cL_law 2197 = .ok (.aload_n 2, 1) := by decide +kernel
theorem dL_law_2198 : decode cL_law 2198 = .ok (.invokevirtual 267, 3) := by decide +kernel
theorem dL_law_2201 : decode cL_law 2201 = .ok (.fstore 7, 2) := by decide +kernel
theorem dL_law_2203 : decode cL_law 2203 = .ok (.aload_n 2, 1) := by decide +kernel
theorem dL_law_2204 : decode cL_law 2204 = .ok (.invokevirtual 140, 3) := by decide +kernel
theorem dL_law_2207 : decode cL_law 2207 = .ok (.iload 6, 2) := by decide +kernel
theorem dL_law_2209 : decode cL_law 2209 = .ok (.if_icmp .eq 5, 3) := by decide +kernel
theorem dL_law_2212 : decode cL_law 2212 = .ok (.iconst 0, 1) := by decide +kernel
theorem dL_law_2213 : decode cL_law 2213 = .ok (.ireturn, 1) := by decide +kernel
theorem dL_law_2214 : decode cL_law 2214 = .ok (.iload 6, 2) := by decide +kernel
theorem dL_law_2216 : decode cL_law 2216 = .ok (.ifCond .ne 36, 3) := by decide +kernel
theorem dL_law_2219 : decode cL_law 2219 = .ok (.aload 4, 2) := by decide +kernel
theorem dL_law_2221 : decode cL_law 2221 = .ok (.iconst 0, 1) := by decide +kernel
theorem dL_law_2222 : decode cL_law 2222 = .ok (.daload, 1) := by decide +kernel
theorem dL_law_2223 : decode cL_law 2223 = .ok (.fload 7, 2) := by decide +kernel
theorem dL_law_2225 : decode cL_law 2225 = .ok (.f2d, 1) := by decide +kernel
theorem dL_law_2226 : decode cL_law 2226 = .ok (.dcmp .l, 1) := by decide +kernel
theorem dL_law_2227 : decode cL_law 2227 = .ok (.ifCond .eq 25, 3) := by decide +kernel
theorem dL_law_2230 : decode cL_law 2230 = .ok (.aload 4, 2) := by decide +kernel
theorem dL_law_2232 : decode cL_law 2232 = .ok (.iconst 0, 1) := by decide +kernel
theorem dL_law_2233 : decode cL_law 2233 = .ok (.daload, 1) := by decide +kernel
theorem dL_law_2234 : decode cL_law 2234 = .ok (.aload 4, 2) := by decide +kernel
theorem dL_law_2236 : decode cL_law 2236 = .ok (.iconst 0, 1) := by decide +kernel
theorem dL_law_2237 : decode cL_law 2237 = .ok (.daload, 1) := by decide +kernel
theorem dL_law_2238 : decode cL_law 2238 = .ok (.dcmp .l, 1) := by decide +kernel
theorem dL_law_2239 : decode cL_law 2239 = .ok (.ifCond .eq 11, 3) := by decide +kernel
theorem dL_law_2242 : decode cL_law 2242 = .ok (.fload 7, 2) := by decide +kernel
theorem dL_law_2244 : decode cL_law 2244 = .ok (.fload 7, 2) := by decide +kernel
theorem dL_law_2246 : decode cL_law 2246 = .ok (.fcmp .l, 1) := by decide +kernel
theorem dL_law_2247 : decode cL_law 2247 = .ok (.ifCond .ne 5, 3) := by decide +kernel
theorem dL_law_2250 : decode cL_law 2250 = .ok (.iconst 0, 1) := by decide +kernel
theorem dL_law_2251 : decode cL_law 2251 = .ok (.ireturn, 1) := by decide +kernel
theorem dL_law_2252 : decode cL_law 2252 = .ok (.goto 124, 3) := by decide +kernel
theorem dL_law_2255 : decode cL_law 2255 = .ok (.aload_n 1, 1) := by decide +kernel
theorem dL_law_2256 : decode cL_law 2256 = .ok (.aload_n 3, 1) := by decide +kernel
theorem dL_law_2257 : decode cL_law 2257 = .ok (.invokestatic 268, 3) := by decide +kernel
theorem dL_law_2260 : decode cL_law 2260 = .ok (.istore 6, 2) := by decide +kernel
theorem dL_law_2262 : decode cL_law 2262 = .ok (.aload_n 2, 1) := by decide +kernel
theorem dL_law_2263 : decode cL_law 2263 = .ok (.invokevirtual 271, 3) := by decide +kernel
theorem dL_law_2266 : decode cL_law 2266 = .ok (.istore 7, 2) := by decide +kernel
theorem dL_law_2268 : decode cL_law 2268 = .ok (.aload_n 2, 1) := by decide +kernel
theorem dL_law_2269 : decode cL_law 2269 = .ok (.invokevirtual 140, 3) := by decide +kernel
theorem dL_law_2272 : decode cL_law 2272 = .ok (.iload 6, 2) := by decide +kernel
theorem dL_law_2274 : decode cL_law 2274 = .ok (.if_icmp .eq 5, 3) := by decide +kernel
theorem dL_law_2277 : decode cL_law 2277 = .ok (.iconst 0, 1) := by decide +kernel
theorem dL_law_2278 : decode cL_law 2278 = .ok (.ireturn, 1) := by decide +kernel
theorem dL_law_2279 : decode cL_law 2279 = .ok (.iload 6, 2) := by decide +kernel
theorem dL_law_2281 : decode cL_law 2281 = .ok (.ifCond .ne 15, 3) := by decide +kernel
theorem dL_law_2284 : decode cL_law 2284 = .ok (.aload_n 3, 1) := by decide +kernel
theorem dL_law_2285 : decode cL_law 2285 = .ok (.iconst 0, 1) := by decide +kernel
theorem dL_law_2286 : decode cL_law 2286 = .ok (.laload, 1) := by decide +kernel
theorem dL_law_2287 : decode cL_law 2287 = .ok (.iload 7, 2) := by decide +kernel
theorem dL_law_2289 : decode cL_law 2289 = .ok (.i2l, 1) := by decide +kernel
theorem dL_law_2290 : decode cL_law 2290 = .ok (.lcmp, 1) := by decide +kernel
theorem dL_law_2291 : decode cL_law 2291 = .ok (.ifCond .eq 5, 3) := by decide +kernel
theorem dL_law_2294 : decode cL_law 2294 = .ok (.iconst 0, 1) := by decide +kernel
theorem dL_law_2295 : decode cL_law 2295 = .ok (.ireturn, 1) := by decide +kernel
theorem dL_law_2296 : decode cL_law 2296 = .ok (.goto 80, 3) := by decide +kernel
theorem dL_law_2299 : decode cL_law 2299 = .ok (.aload_n 1, 1) := by decide +kernel
theorem dL_law_2300 : decode cL_law 2300 = .ok (.aload_n 0, 1) := by decide +kernel
theorem dL_law_2301 : decode cL_law 2301 = .ok (.iload 5, 2) := by decide +kernel
theorem dL_law_2303 : decode cL_law 2303 = .ok (.iconst 1, 1) := by decide +kernel
theorem dL_law_2304 : decode cL_law 2304 = .ok (.iadd, 1) := by decide +kernel
theorem dL_law_2305 : decode cL_law 2305 = .ok (.iaload, 1) := by decide +kernel
theorem dL_law_2306 : decode cL_law 2306 = .ok (.aload 4, 2) := by decide +kernel
theorem dL_law_2308 : decode cL_law 2308 = .ok (.invokestatic 272, 3) := by decide +kernel
theorem dL_law_2311 : decode cL_law 2311 = .ok (.istore 6, 2) := by decide +kernel
theorem dL_law_2313 : decode cL_law 2313 = .ok (.aload_n 2, 1) := by decide +kernel
theorem dL_law_2314 : decode cL_law 2314 = .ok (.aload_n 0, 1) := by decide +kernel
theorem dL_law_2315 : decode cL_law 2315 = .ok (.iload 5, 2) := by decide +kernel
theorem dL_law_2317 : decode cL_law 2317 = .ok (.iconst 1, 1) := by decide +kernel
theorem dL_law_2318 : decode cL_law 2318 = .ok (.iadd, 1) := by decide +kernel
theorem dL_law_2319 : decode cL_law 2319 = .ok (.iaload, 1) := by decide +kernel
theorem dL_law_2320 : decode cL_law 2320 = .ok (.invokevirtual 275, 3) := by decide +kernel
theorem dL_law_2323 : decode cL_law 2323 = .ok (.dstore 7, 2) := by decide +kernel
theorem dL_law_2325 : decode cL_law 2325 = .ok (.aload_n 2, 1) := by decide +kernel
theorem dL_law_2326 : decode cL_law 2326 = .ok (.invokevirtual 140, 3) := by decide +kernel
theorem dL_law_2329 : decode cL_law 2329 = .ok (.iload 6, 2) := by decide +kernel
theorem dL_law_2331 : decode cL_law 2331 = .ok (.if_icmp .eq 5, 3) := by decide +kernel
theorem dL_law_2334 : decode cL_law 2334 = .ok (.iconst 0, 1) := by decide +kernel
theorem dL_law_2335 : decode cL_law 2335 = .ok (.ireturn, 1) := by decide +kernel
theorem dL_law_2336 : decode cL_law 2336 = .ok (.iload 6, 2) := by decide +kernel
theorem dL_law_2338 : decode cL_law 2338 = .ok (.ifCond .ne 35, 3) := by decide +kernel
theorem dL_law_2341 : decode cL_law 2341 = .ok (.aload 4, 2) := by decide +kernel
theorem dL_law_2343 : decode cL_law 2343 = .ok (.iconst 0, 1) := by decide +kernel
theorem dL_law_2344 : decode cL_law 2344 = .ok (.daload, 1) := by decide +kernel
theorem dL_law_2345 : decode cL_law 2345 = .ok (.dload 7, 2) := by decide +kernel
theorem dL_law_2347 : decode cL_law 2347 = .ok (.dcmp .l, 1) := by decide +kernel
theorem dL_law_2348 : decode cL_law 2348 = .ok (.ifCond .eq 25, 3) := by decide +kernel
theorem dL_law_2351 : decode cL_law 2351 = .ok (.aload 4, 2) := by decide +kernel
theorem dL_law_2353 : decode cL_law 2353 = .ok (.iconst 0, 1) := by decide +kernel
theorem dL_law_2354 : decode cL_law 2354 = .ok (.daload, 1) := by decide +kernel
theorem dL_law_2355 : decode cL_law 2355 = .ok (.aload 4, 2) := by decide +kernel
theorem dL_law_2357 : decode cL_law 2357 = .ok (.iconst 0, 1) := by decide +kernel
theorem dL_law_2358 : decode cL_law 2358 = .ok (.daload, 1) := by decide +kernel
theorem dL_law_2359 : decode cL_law 2359 = .ok (.dcmp .l, 1) := by decide +kernel
theorem dL_law_2360 : decode cL_law 2360 = .ok (.ifCond .eq 11, 3) := by decide +kernel
theorem dL_law_2363 : decode cL_law 2363 = .ok (.dload 7, 2) := by decide +kernel
theorem dL_law_2365 : decode cL_law 2365 = .ok (.dload 7, 2) := by decide +kernel
theorem dL_law_2367 : decode cL_law 2367 = .ok (.dcmp .l, 1) := by decide +kernel
theorem dL_law_2368 : decode cL_law 2368 = .ok (.ifCond .ne 5, 3) := by decide +kernel
theorem dL_law_2371 : decode cL_law 2371 = .ok (.iconst 0, 1) := by decide +kernel
theorem dL_law_2372 : decode cL_law 2372 = .ok (.ireturn, 1) := by decide +kernel
theorem dL_law_2373 : decode cL_law 2373 = .ok (.goto 3, 3) := by decide +kernel
theorem dL_law_2376 : decode cL_law 2376 = .ok (.iinc 5 3, 3) := by decide +kernel
theorem dL_law_2379 : decode cL_law 2379 = .ok (.goto (-2351), 3) := by decide +kernel
theorem dL_law_2382 : decode cL_law 2382 = .ok (.iconst 1, 1) := by decide +kernel
theorem dL_law_2383 : decode cL_law 2383 = .ok (.ireturn, 1) := by decide +kernel
