set_option maxRecDepth 20000 in
theorem ggX0_init_X6_init : GoodIn wsX0_init wsX6_init := goodIn_r _ [17, 18, 2, 3, 19, 20, 27, 28] (by decide +kernel) (by decide +kernel)
set_option maxRecDepth 20000 in
theorem gX0_init_X6_init_n11 : GoodIn wsX0_init (wsX6_init) := ggX0_init_X6_init
set_option maxRecDepth 20000 in
theorem ggX0_init_X4_init : GoodIn wsX0_init wsX4_init := goodIn_r _ [23, 24, 2, 3, 25, 26, 35] (by decide +kernel) (by decide +kernel)
set_option maxRecDepth 20000 in
theorem gX0_init_X4_init : GoodIn wsX0_init (wsX4_init) := ggX0_init_X4_init
theorem dX0_init_0 : decode cX0_init 0 = .ok (.aload_n 0, 1) := by decide +kernel
theorem dX0_init_1 : decode cX0_init 1 = .ok (.invokespecial 3, 3) := by decide +kernel
theorem dX0_init_4 : decode cX0_init 4 = .ok (.aload_n 0, 1) := by decide +kernel
theorem dX0_init_5 : decode cX0_init 5 = .ok (.new 9, 3) := by decide +kernel
theorem dX0_init_8 : decode cX0_init 8 = .ok (.dup, 1) := by decide +kernel
theorem dX0_init_9 : decode cX0_init 9 = .ok (.invokespecial 11, 3) := by decide +kernel
theorem dX0_init_12 : decode cX0_init 12 = .ok (.putfield 12, 3) := by decide +kernel
theorem dX0_init_15 : decode cX0_init 15 = .ok (.aload_n 0, 1) := by decide +kernel
theorem dX0_init_16 : decode cX0_init 16 = .ok (.new 9, 3) := by decide +kernel
theorem dX0_init_19 : decode cX0_init 19 = .ok (.dup, 1) := by decide +kernel
theorem dX0_init_20 : decode cX0_init 20 = .ok (.invokespecial 11, 3) := by decide +kernel
theorem dX0_init_23 : decode cX0_init 23 = .ok (.putfield 18, 3) := by decide +kernel
theorem dX0_init_26 : decode cX0_init 26 = .ok (.aload_n 0, 1) := by decide +kernel
theorem dX0_init_27 : decode cX0_init 27 = .ok (.new 21, 3) := by decide +kernel
theorem dX0_init_30 : decode cX0_init 30 = .ok (.dup, 1) := by decide +kernel
theorem dX0_init_31 : decode cX0_init 31 = .ok (.bipush 60, 2) := by decide +kernel
theorem dX0_init_33 : decode cX0_init 33 = .ok (.invokespecial 23, 3) := by decide +kernel
theorem dX0_init_36 : decode cX0_init 36 = .ok (.putfield 26, 3) := by decide +kernel
theorem dX0_init_39 : decode cX0_init 39 = .ok (.aload_n 0, 1) := by decide +kernel
theorem dX0_init_40 : decode cX0_init 40 = .ok (.aload_n 1, 1) := by decide +kernel
theorem dX0_init_41 : decode cX0_init 41 = .ok (.putfield 30, 3) := by decide +kernel
theorem dX0_init_44 : decode cX0_init 44 = .ok (.aload_n 0, 1) := by decide +kernel
theorem dX0_init_45 : decode cX0_init 45 = .ok (.aload_n 2, 1) := by decide +kernel
theorem dX0_init_46 : decode cX0_init 46 = .ok (.putfield 34, 3) := by decide +kernel
theorem dX0_init_49 : decode cX0_init 49 = .ok (.aload_n 0, 1) := by decide +kernel
theorem dX0_init_50 : decode cX0_init 50 = .ok (.aload_n 3, 1) := by decide +kernel
theorem dX0_init_51 : decode cX0_init 51 = .ok (.putfield 38, 3) := by decide +kernel
theorem dX0_init_54 : decode cX0_init 54 = .ok (.return_, 1) := by decide +kernel
set_option maxRecDepth 20000 in
theorem ggX0_length_X6_length : GoodIn wsX0_length wsX6_length := goodIn_r _ [6, 7, 14, 15] (by decide +kernel) (by decide +kernel)
set_option maxRecDepth 20000 in
theorem gX0_length_X6_length : GoodIn wsX0_length (wsV RX0 42 RX6 yX6_length wsX6_length) := goodIn_app (goodIn_of _ (by decide +kernel)) ggX0_length_X6_length
theorem dX0_length_0 : decode cX0_length 0 = .ok (.aload_n 0, 1) := by decide +kernel
theorem dX0_length_1 : decode cX0_length 1 = .ok (.getfield 12, 3) := by decide +kernel
theorem dX0_length_4 : decode cX0_length 4 = .ok (.invokevirtual 42, 3) := by decide +kernel
theorem dX0_length_7 : decode cX0_length 7 = .ok (.ireturn, 1) := by decide +kernel
set_option maxRecDepth 20000 in
theorem ggX0_signAt_X6_signAt : GoodIn wsX0_signAt wsX6_signAt := goodIn_ca (goodIn_r _ [6, 7, 14, 15] (by decide +kernel) (by decide +kernel)) (goodIn_sub (fun _ h => List.mem_cons_of_mem _ (List.mem_append_right _ h)) (by decide +kernel))
set_option maxRecDepth 20000 in
theorem gX0_signAt_X6_signAt : GoodIn wsX0_signAt (wsV RX0 46 RX6 yX6_signAt wsX6_signAt) := goodIn_app (goodIn_of _ (by decide +kernel)) ggX0_signAt_X6_signAt
theorem dX0_signAt_0 : decode cX0_signAt 0 = .ok (.aload_n 0, 1) := by decide +kernel
theorem dX0_signAt_1 : decode cX0_signAt 1 = .ok (.getfield 12, 3) := by decide +kernel
theorem dX0_signAt_4 : decode cX0_signAt 4 = .ok (.iload_n 1, 1) := by decide +kernel
theorem dX0_signAt_5 : decode cX0_signAt 5 = .ok (.invokevirtual 46, 3) := by decide +kernel
theorem dX0_signAt_8 : decode cX0_signAt 8 = .ok (.ireturn, 1) := by decide +kernel
set_option maxRecDepth 20000 in
theorem ggX0_writeLabel_X0_write : GoodIn wsX0_writeLabel wsX0_write := goodIn_ca (goodIn_r _ [6, 7, 8, 9, 10, 11, 12, 13, 14, 15, 16, 17, 18, 19, 20, 21, 22, 23, 24, 25, 26, 27, 28, 29, 30, 31, 32, 33, 34, 5, 35, 36, 37, 38, 39, 40, 41, 42, 43, 44, 45, 46, 47, 48, 49, 50, 51, 52, 53, 54, 55, 56, 57, 58, 59, 60, 61, 62, 63, 64, 65, 66, 67, 68, 69, 70, 71, 72, 73, 74, 75, 76, 77, 78, 79, 80, 81, 82, 83, 84, 85, 86, 87, 88, 89, 90, 91, 92, 93, 94, 95, 96, 97, 98, 99, 100, 101, 102, 103, 104, 105, 106, 107, 108, 109, 110, 111, 112, 113, 114, 115, 116, 117, 118, 119, 120, 121, 122, 123, 124, 125, 126, 127, 128, 129, 130, 131, 132, 133, 134, 135, 136, 137] (by decide +kernel) (by decide +kernel)) (goodIn_sub (fun _ h => List.mem_cons_of_mem _ (List.mem_append_right _ h)) (by decide +kernel))
set_option maxRecDepth 20000 in
theorem gX0_writeLabel_X0_write : GoodIn wsX0_writeLabel (wsV RX0 50 RX0 yX0_write wsX0_write) := goodIn_app (goodIn_of _ (by decide +kernel)) ggX0_writeLabel_X0_write
theorem dX0_writeLabel_0 : decode cX0_writeLabel 0 = .ok (.aload_n 0, 1) := by decide +kernel
theorem dX0_writeLabel_1 : decode cX0_writeLabel 1 = .ok (.aload_n 0, 1) := by decide +kernel
theorem dX0_writeLabel_2 : decode cX0_writeLabel 2 = .ok (.getfield 12, 3) := by decide +kernel
theorem dX0_writeLabel_5 : decode cX0_writeLabel 5 = .ok (.iload_n 1, 1) := by decide +kernel
theorem dX0_writeLabel_6 : decode cX0_writeLabel 6 = .ok (.iconst (-1), 1) := by decide +kernel
theorem dX0_writeLabel_7 : decode cX0_writeLabel 7 = .ok (.invokevirtual 50, 3) := by decide +kernel
theorem dX0_writeLabel_10 : decode cX0_writeLabel 10 = .ok (.return_, 1) := by decide +kernel
set_option maxRecDepth 20000 in
theorem ggX0_writeReference_X5_isPlain : GoodIn wsX0_writeReference wsX5_isPlain := goodIn_ca (goodIn_r _ [7, 8, 9, 10, 11, 12, 13, 14, 117, 118, 119, 120, 121, 122] (by decide +kernel) (by decide +kernel)) (goodIn_sub (fun _ h => List.mem_cons_of_mem _ (List.mem_append_right _ h)) (by decide +kernel))
set_option maxRecDepth 20000 in
theorem gX0_writeReference_X5_isPlain : GoodIn wsX0_writeReference (wsV RX0 54 RX5 yX5_isPlain wsX5_isPlain) := goodIn_app (goodIn_of _ (by decide +kernel)) ggX0_writeReference_X5_isPlain
set_option maxRecDepth 20000 in
theorem ggX0_writeReference_X6_clear : GoodIn wsX0_writeReference wsX6_clear := goodIn_r _ [19, 20, 123, 124] (by decide +kernel) (by decide +kernel)
set_option maxRecDepth 20000 in
theorem gX0_writeReference_X6_clear : GoodIn wsX0_writeReference (wsV RX0 60 RX6 yX6_clear wsX6_clear) := goodIn_app (goodIn_of _ (by decide +kernel)) ggX0_writeReference_X6_clear
set_option maxRecDepth 20000 in
theorem ggX0_writeReference_X0_write : GoodIn wsX0_writeReference wsX0_write := goodIn_ca (goodIn_r _ [25, 1, 26, 27, 15, 16, 17, 18, 19, 20, 28, 29, 30, 6, 31, 32, 33, 34, 35, 36, 9, 10, 11, 12, 13, 14, 37, 38, 39, 24, 40, 41, 42, 43, 44, 45, 46, 47, 48, 49, 50, 51, 52, 53, 54, 55, 56, 57, 58, 59, 60, 61, 62, 63, 64, 8, 65, 66, 67, 68, 69, 70, 71, 72, 73, 74, 75, 76, 77, 78, 79, 80, 81, 82, 83, 84, 85, 86, 87, 88, 89, 90, 91, 92, 93, 94, 95, 96, 97, 98, 99, 100, 101, 102, 103, 104, 105, 106, 107, 108, 109, 110, 111, 112, 113, 114, 115, 116, 123, 124, 117, 118, 119, 120, 121, 122, 125, 126, 127, 128, 129, 130, 131, 132, 133, 134, 135, 136, 137, 138, 139, 140, 141] (by decide +kernel) (by decide +kernel)) (goodIn_sub (fun _ h => List.mem_cons_of_mem _ (List.mem_append_right _ h)) (by decide +kernel))
set_option maxRecDepth 20000 in
theorem gX0_writeReference_X0_write : GoodIn wsX0_writeReference (wsV RX0 50 RX0 yX0_write wsX0_write) := goodIn_app (goodIn_of _ (by decide +kernel)) ggX0_writeReference_X0_write
theorem dX0_writeReference_0 : decode cX0_writeReference 0 = .ok (.aload_n 0, 1) := by decide +kernel
theorem dX0_writeReference_1 : decode cX0_writeReference 1 = .ok (.getfield 30, 3) := by decide +kernel
theorem dX0_writeReference_4 : decode cX0_writeReference 4 = .ok (.iload_n 2, 1) := by decide +kernel
theorem dX0_writeReference_5 : decode cX0_writeReference 5 = .ok (.invokevirtual 54, 3) := by decide +kernel
theorem dX0_writeReference_8 : decode cX0_writeReference 8 = .ok (.ifCond .eq 11, 3) := by decide +kernel
theorem dX0_writeReference_11 : decode cX0_writeReference 11 = .ok (.aload_n 0, 1) := by decide +kernel
theorem dX0_writeReference_12 : decode cX0_writeReference 12 = .ok (.getfield 12, 3) := by decide +kernel
theorem dX0_writeReference_15 : decode cX0_writeReference 15 = .ok (.invokevirtual 60, 3) := by decide +kernel
theorem dX0_writeReference_18 : decode cX0_writeReference 18 = .ok (.return_, 1) := by decide +kernel
theorem dX0_writeReference_19 : decode cX0_writeReference 19 = .ok (.aload_n 0, 1) := by decide +kernel
theorem dX0_writeReference_20 : decode cX0_writeReference 20 = .ok (.aload_n 0, 1) := by decide +kernel
theorem dX0_writeReference_21 : decode cX0_writeReference 21 = .ok (.getfield 12, 3) := by decide +kernel
theorem dX0_writeReference_24 : decode cX0_writeReference 24 = .ok (.iload_n 2, 1) := by decide +kernel
theorem dX0_writeReference_25 : decode cX0_writeReference 25 = .ok (.iload_n 1, 1) := by decide +kernel
theorem dX0_writeReference_26 : decode cX0_writeReference 26 = .ok (.invokevirtual 50, 3) := by decide +kernel
theorem dX0_writeReference_29 : decode cX0_writeReference 29 = .ok (.return_, 1) := by decide +kernel
set_option maxRecDepth 20000 in
theorem ggX0_hasTwinAhead_X5_nameAt : GoodIn wsX0_hasTwinAhead wsX5_nameAt := goodIn_ca (goodIn_r _ [9, 10, 11, 12, 13, 14, 15, 16, 138, 139, 140, 141, 142, 143] (by decide +kernel) (by decide +kernel)) (goodIn_sub (fun _ h => List.mem_cons_of_mem _ (List.mem_append_right _ h)) (by decide +kernel))
set_option maxRecDepth 20000 in
theorem gX0_hasTwinAhead_X5_nameAt : GoodIn wsX0_hasTwinAhead (wsV RX0 63 RX5 yX5_nameAt wsX5_nameAt) := goodIn_app (goodIn_of _ (by decide +kernel)) ggX0_hasTwinAhead_X5_nameAt
set_option maxRecDepth 20000 in
theorem ggX0_hasTwinAhead_X5_isPlain : GoodIn wsX0_hasTwinAhead wsX5_isPlain := goodIn_ca (goodIn_r _ [20, 21, 11, 12, 13, 14, 15, 16, 138, 139, 140, 141, 142, 143] (by decide +kernel) (by decide +kernel)) (goodIn_sub (fun _ h => List.mem_cons_of_mem _ (List.mem_append_right _ h)) (by decide +kernel))
set_option maxRecDepth 20000 in
theorem gX0_hasTwinAhead_X5_isPlain : GoodIn wsX0_hasTwinAhead (wsV RX0 54 RX5 yX5_isPlain wsX5_isPlain) := goodIn_app (goodIn_of _ (by decide +kernel)) ggX0_hasTwinAhead_X5_isPlain
set_option maxRecDepth 20000 in
theorem ggX0_hasTwinAhead_X0_write : GoodIn wsX0_hasTwinAhead wsX0_write := goodIn_ca (goodIn_r _ [26, 1, 27, 28, 29, 30, 31, 32, 33, 34, 35, 36, 37, 8, 38, 39, 40, 41, 42, 43, 11, 12, 13, 14, 15, 16, 44, 45, 46, 25, 47, 48, 49, 50, 51, 52, 53, 54, 55, 56, 57, 58, 59, 60, 61, 62, 63, 64, 65, 66, 67, 68, 69, 70, 71, 21, 72, 73, 74, 75, 76, 77, 78, 79, 80, 81, 82, 83, 84, 85, 86, 87, 88, 89, 90, 91, 92, 93, 94, 95, 96, 97, 98, 99, 100, 101, 102, 103, 104, 105, 106, 107, 108, 109, 110, 111, 112, 113, 114, 115, 116, 117, 132, 133, 134, 135, 136, 137, 144, 145, 138, 139, 140, 141, 142, 143, 146, 147, 148, 149, 150, 151, 152, 153, 154, 155, 156, 157, 158, 159, 160, 161, 162] (by decide +kernel) (by decide +kernel)) (goodIn_sub (fun _ h => List.mem_cons_of_mem _ (List.mem_append_right _ h)) (by decide +kernel))
set_option maxRecDepth 20000 in
theorem gX0_hasTwinAhead_X0_write : GoodIn wsX0_hasTwinAhead (wsV RX0 50 RX0 yX0_write wsX0_write) := goodIn_app (goodIn_of _ (by decide +kernel)) ggX0_hasTwinAhead_X0_write
set_option maxRecDepth 20000 in
theorem ggX0_hasTwinAhead_X6_fingerprint : GoodIn wsX0_hasTwinAhead wsX6_fingerprint := goodIn_ca (goodIn_r _ [121, 34, 92, 93, 94, 32, 95, 60, 144, 145] (by decide +kernel) (by decide +kernel)) (goodIn_sub (fun _ h => List.mem_cons_of_mem _ (List.mem_append_right _ h)) (by decide +kernel))
set_option maxRecDepth 20000 in
theorem gX0_hasTwinAhead_X6_fingerprint : GoodIn wsX0_hasTwinAhead (wsV RX0 67 RX6 yX6_fingerprint wsX6_fingerprint) := goodIn_app (goodIn_of _ (by decide +kernel)) ggX0_hasTwinAhead_X6_fingerprint
set_option maxRecDepth 20000 in
theorem ggX0_hasTwinAhead_X4_put : GoodIn wsX0_hasTwinAhead wsX4_put := goodIn_ca (goodIn_r _ [125, 16, 143] (by decide +kernel) (by decide +kernel)) (goodIn_sub (fun _ h => List.mem_cons_of_mem _ (List.mem_append_right _ h)) (by decide +kernel))
set_option maxRecDepth 20000 in
theorem gX0_hasTwinAhead_X4_put : GoodIn wsX0_hasTwinAhead (wsV RX0 70 RX4 yX4_put wsX4_put) := goodIn_app (goodIn_of _ (by decide +kernel)) ggX0_hasTwinAhead_X4_put
set_option maxRecDepth 20000 in
theorem ggX0_hasTwinAhead_X5_level : GoodIn wsX0_hasTwinAhead wsX5_level := goodIn_ca (goodIn_r _ [71, 21, 11, 12, 13, 14, 15, 16, 138, 139, 140, 141, 142, 143] (by decide +kernel) (by decide +kernel)) (goodIn_sub (fun _ h => List.mem_cons_of_mem _ (List.mem_append_right _ h)) (by decide +kernel))
set_option maxRecDepth 20000 in
theorem gX0_hasTwinAhead_X5_level : GoodIn wsX0_hasTwinAhead (wsV RX0 74 RX5 yX5_level wsX5_level) := goodIn_app (goodIn_of _ (by decide +kernel)) ggX0_hasTwinAhead_X5_level
set_option maxRecDepth 20000 in
theorem ggX0_hasTwinAhead_X4_at : GoodIn wsX0_hasTwinAhead wsX4_at := goodIn_ca (goodIn_r _ [15, 16, 143] (by decide +kernel) (by decide +kernel)) (goodIn_sub (fun _ h => List.mem_cons_of_mem _ (List.mem_append_right _ h)) (by decide +kernel))
set_option maxRecDepth 20000 in
theorem gX0_hasTwinAhead_X4_at : GoodIn wsX0_hasTwinAhead (wsV RX0 77 RX4 yX4_at wsX4_at) := goodIn_app (goodIn_of _ (by decide +kernel)) ggX0_hasTwinAhead_X4_at
set_option maxRecDepth 20000 in
theorem ggX0_hasTwinAhead_X6_isSameAs : GoodIn wsX0_hasTwinAhead wsX6_isSameAs := goodIn_ca (goodIn_r _ [130, 34, 131, 53, 54, 32, 55, 92, 93, 94, 95, 60, 144, 145] (by decide +kernel) (by decide +kernel)) (goodIn_sub (fun _ h => List.mem_cons_of_mem _ (List.mem_append_right _ h)) (by decide +kernel))
set_option maxRecDepth 20000 in
theorem gX0_hasTwinAhead_X6_isSameAs : GoodIn wsX0_hasTwinAhead (wsV RX0 80 RX6 yX6_isSameAs wsX6_isSameAs) := goodIn_app (goodIn_of _ (by decide +kernel)) ggX0_hasTwinAhead_X6_isSameAs
theorem dX0_hasTwinAhead_0 : decode cX0_hasTwinAhead 0 = .ok (.aload_n 0, 1) := by decide +kernel
theorem dX0_hasTwinAhead_1 : decode cX0_hasTwinAhead 1 = .ok (.getfield 30, 3) := by decide +kernel
theorem dX0_hasTwinAhead_4 : decode cX0_hasTwinAhead 4 = .ok (.iload_n 1, 1) := by decide +kernel
theorem dX0_hasTwinAhead_5 : decode cX0_hasTwinAhead 5 = .ok (.invokevirtual 63, 3) := by decide +kernel
theorem dX0_hasTwinAhead_8 : decode cX0_hasTwinAhead 8 = .ok (.istore_n 2, 1) := by decide +kernel
theorem dX0_hasTwinAhead_9 : decode cX0_hasTwinAhead 9 = .ok (.aload_n 0, 1) := by decide +kernel
theorem dX0_hasTwinAhead_10 : decode cX0_hasTwinAhead 10 = .ok (.getfield 30, 3) := by decide +kernel
theorem dX0_hasTwinAhead_13 : decode cX0_hasTwinAhead 13 = .ok (.iload_n 2, 1) := by decide +kernel
theorem dX0_hasTwinAhead_14 : decode cX0_hasTwinAhead 14 = .ok (.invokevirtual 54, 3) := by decide +kernel
theorem dX0_hasTwinAhead_17 : decode cX0_hasTwinAhead 17 = .ok (.ifCond .eq 5, 3) := by decide +kernel
theorem dX0_hasTwinAhead_20 : decode cX0_hasTwinAhead 20 = .ok (.iconst 0, 1) := by decide +kernel
theorem dX0_hasTwinAhead_21 : decode cX0_hasTwinAhead 21 = .ok (.ireturn, 1) := by decide +kernel
theorem dX0_hasTwinAhead_22 : decode cX0_hasTwinAhead 22 = .ok (.aload_n 0, 1) := by decide +kernel
theorem dX0_hasTwinAhead_23 : decode cX0_hasTwinAhead 23 = .ok (.aload_n 0, 1) := by decide +kernel
theorem dX0_hasTwinAhead_24 : decode cX0_hasTwinAhead 24 = .ok (.getfield 12, 3) := by decide +kernel
theorem dX0_hasTwinAhead_27 : decode cX0_hasTwinAhead 27 = .ok (.iload_n 2, 1) := by decide +kernel
theorem dX0_hasTwinAhead_28 : decode cX0_hasTwinAhead 28 = .ok (.iconst (-1), 1) := by decide +kernel
theorem dX0_hasTwinAhead_29 : decode cX0_hasTwinAhead 29 = .ok (.invokevirtual 50, 3) := by decide +kernel
theorem dX0_hasTwinAhead_32 : decode cX0_hasTwinAhead 32 = .ok (.aload_n 0, 1) := by decide +kernel
theorem dX0_hasTwinAhead_33 : decode cX0_hasTwinAhead 33 = .ok (.getfield 26, 3) := by decide +kernel
theorem dX0_hasTwinAhead_36 : decode cX0_hasTwinAhead 36 = .ok (.iload_n 2, 1) := by decide +kernel
theorem dX0_hasTwinAhead_37 : decode cX0_hasTwinAhead 37 = .ok (.aload_n 0, 1) := by decide +kernel
theorem dX0_hasTwinAhead_38 : decode cX0_hasTwinAhead 38 = .ok (.getfield 12, 3) := by decide +kernel
theorem dX0_hasTwinAhead_41 : decode cX0_hasTwinAhead 41 = .ok (.invokevirtual 67, 3) := by decide +kernel
theorem dX0_hasTwinAhead_44 : decode cX0_hasTwinAhead 44 = .ok (.invokevirtual 70, 3) := by decide +kernel
theorem dX0_hasTwinAhead_47 : decode cX0_hasTwinAhead 47 = .ok (.iconst 0, 1) := by decide +kernel
theorem dX0_hasTwinAhead_48 : decode cX0_hasTwinAhead 48 = .ok (.istore_n 3, 1) := by decide +kernel
theorem dX0_hasTwinAhead_49 : decode cX0_hasTwinAhead 49 = .ok (.iload_n 3, 1) := by decide +kernel
theorem dX0_hasTwinAhead_50 : decode cX0_hasTwinAhead 50 = .ok (.iload_n 1, 1) := by decide +kernel
theorem dX0_hasTwinAhead_51 : decode cX0_hasTwinAhead 51 = .ok (.if_icmp .ge 86, 3) := by decide +kernel
theorem dX0_hasTwinAhead_54 : decode cX0_hasTwinAhead 54 = .ok (.aload_n 0, 1) := by decide +kernel
theorem dX0_hasTwinAhead_55 : decode cX0_hasTwinAhead 55 = .ok (.getfield 30, 3) := by decide +kernel
theorem dX0_hasTwinAhead_58 : decode cX0_hasTwinAhead 58 = .ok (.iload_n 3, 1) := by decide +kernel
theorem dX0_hasTwinAhead_59 : decode cX0_hasTwinAhead 59 = .ok (.invokevirtual 63, 3) := by decide +kernel
theorem dX0_hasTwinAhead_62 : decode cX0_hasTwinAhead 62 = .ok (.istore 4, 2) := by decide +kernel
theorem dX0_hasTwinAhead_64 : decode cX0_hasTwinAhead 64 = .ok (.aload_n 0, 1) := by decide +kernel
theorem dX0_hasTwinAhead_65 : decode cX0_hasTwinAhead 65 = .ok (.getfield 30, 3) := by decide +kernel
theorem dX0_hasTwinAhead_68 : decode cX0_hasTwinAhead 68 = .ok (.iload 4, 2) := by decide +kernel
theorem dX0_hasTwinAhead_70 : decode cX0_hasTwinAhead 70 = .ok (.invokevirtual 74, 3) := by decide +kernel
theorem dX0_hasTwinAhead_73 : decode cX0_hasTwinAhead 73 = .ok (.aload_n 0, 1) := by decide +kernel
theorem dX0_hasTwinAhead_74 : decode cX0_hasTwinAhead 74 = .ok (.getfield 30, 3) := by decide +kernel
theorem dX0_hasTwinAhead_77 : decode cX0_hasTwinAhead 77 = .ok (.iload_n 2, 1) := by decide +kernel
theorem dX0_hasTwinAhead_78 : decode cX0_hasTwinAhead 78 = .ok (.invokevirtual 74, 3) := by decide +kernel
theorem dX0_hasTwinAhead_81 : decode cX0_hasTwinAhead 81 = .ok (.if_icmp .ne 50, 3) := by decide +kernel
theorem dX0_hasTwinAhead_84 : decode cX0_hasTwinAhead 84 = .ok (.aload_n 0, 1) := by decide +kernel
theorem dX0_hasTwinAhead_85 : decode cX0_hasTwinAhead 85 = .ok (.getfield 26, 3) := by decide +kernel
theorem dX0_hasTwinAhead_88 : decode cX0_hasTwinAhead 88 = .ok (.iload 4, 2) := by decide +kernel
theorem dX0_hasTwinAhead_90 : decode cX0_hasTwinAhead 90 = .ok (.invokevirtual 77, 3) := by decide +kernel
theorem dX0_hasTwinAhead_93 : decode cX0_hasTwinAhead 93 = .ok (.aload_n 0, 1) := by decide +kernel
theorem dX0_hasTwinAhead_94 : decode cX0_hasTwinAhead 94 = .ok (.getfield 26, 3) := by decide +kernel
theorem dX0_hasTwinAhead_97 : decode cX0_hasTwinAhead 97 = .ok (.iload_n 2, 1) := by decide +kernel
theorem dX0_hasTwinAhead_98 : decode cX0_hasTwinAhead 98 = .ok (.invokevirtual 77, 3) := by decide +kernel
theorem dX0_hasTwinAhead_101 : decode cX0_hasTwinAhead 101 = .ok (.if_icmp .ne 30, 3) := by decide +kernel
theorem dX0_hasTwinAhead_104 : decode cX0_hasTwinAhead 104 = .ok (.aload_n 0, 1) := by decide +kernel
theorem dX0_hasTwinAhead_105 : decode cX0_hasTwinAhead 105 = .ok (.aload_n 0, 1) := by decide +kernel
theorem dX0_hasTwinAhead_106 : decode cX0_hasTwinAhead 106 = .ok (.getfield 18, 3) := by decide +kernel
theorem dX0_hasTwinAhead_109 : decode cX0_hasTwinAhead 109 = .ok (.iload 4, 2) := by decide +kernel
theorem dX0_hasTwinAhead_111 : decode cX0_hasTwinAhead 111 = .ok (.iconst (-1), 1) := by decide +kernel
theorem dX0_hasTwinAhead_112 : decode cX0_hasTwinAhead 112 = .ok (.invokevirtual 50, 3) := by decide +kernel
theorem dX0_hasTwinAhead_115 : decode cX0_hasTwinAhead 115 = .ok (.aload_n 0, 1) := by decide +kernel
theorem dX0_hasTwinAhead_116 : decode cX0_hasTwinAhead 116 = .ok (.getfield 12, 3) := by decide +kernel
theorem dX0_hasTwinAhead_119 : decode cX0_hasTwinAhead 119 = .ok (.aload_n 0, 1) := by decide +kernel
theorem dX0_hasTwinAhead_120 : decode cX0_hasTwinAhead 120 = .ok (.getfield 18, 3) := by decide +kernel
theorem dX0_hasTwinAhead_123 : decode cX0_hasTwinAhead 123 = .ok (.invokevirtual 80, 3) := by decide +kernel
theorem dX0_hasTwinAhead_126 : decode cX0_hasTwinAhead 126 = .ok (.ifCond .eq 5, 3) := by decide +kernel
theorem dX0_hasTwinAhead_129 : decode cX0_hasTwinAhead 129 = .ok (.iconst 1, 1) := by decide +kernel
theorem dX0_hasTwinAhead_130 : decode cX0_hasTwinAhead 130 = .ok (.ireturn, 1) := by decide +kernel
theorem dX0_hasTwinAhead_131 : decode cX0_hasTwinAhead 131 = .ok (.iinc 3 1, 3) := by decide +kernel
theorem dX0_hasTwinAhead_134 : decode cX0_hasTwinAhead 134 = .ok (.goto (-85), 3) := by decide +kernel
theorem dX0_hasTwinAhead_137 : decode cX0_hasTwinAhead 137 = .ok (.iconst 0, 1) := by decide +kernel
theorem dX0_hasTwinAhead_138 : decode cX0_hasTwinAhead 138 = .ok (.ireturn, 1) := by decide +kernel
set_option maxRecDepth 20000 in
theorem ggX0_write_X6_clear : GoodIn wsX0_write wsX6_clear := goodIn_r _ [8, 9, 108, 109] (by decide +kernel) (by decide +kernel)
set_option maxRecDepth 20000 in
theorem gX0_write_X6_clear : GoodIn wsX0_write (wsV RX0 60 RX6 yX6_clear wsX6_clear) := goodIn_app (goodIn_of _ (by decide +kernel)) ggX0_write_X6_clear
set_option maxRecDepth 20000 in
theorem ggX0_write_X5_ancestor : GoodIn wsX0_write wsX5_ancestor := goodIn_ca (goodIn_r _ [14, 15, 16, 17, 13, 18, 19, 20, 21, 22, 23, 24, 25, 110, 111, 112, 113, 114, 115] (by decide +kernel) (by decide +kernel)) (goodIn_sub (fun _ h => List.mem_cons_of_mem _ (List.mem_append_right _ h)) (by decide +kernel))
set_option maxRecDepth 20000 in
theorem gX0_write_X5_ancestor : GoodIn wsX0_write (wsV RX0 84 RX5 yX5_ancestor wsX5_ancestor) := goodIn_app (goodIn_of _ (by decide +kernel)) ggX0_write_X5_ancestor
set_option maxRecDepth 20000 in
theorem ggX0_write_X0_isShared : GoodIn wsX0_write wsX0_isShared := goodIn_ca (goodIn_r _ [30, 1, 31, 32, 33, 13, 34, 15, 16, 17, 18, 19, 20, 21, 22, 23, 24, 25, 102, 103, 104, 105, 106, 107, 110, 111, 112, 113, 114, 115] (by decide +kernel) (by decide +kernel)) (goodIn_sub (fun _ h => List.mem_cons_of_mem _ (List.mem_append_right _ h)) (by decide +kernel))
set_option maxRecDepth 20000 in
theorem gX0_write_X0_isShared : GoodIn wsX0_write (wsV RX0 88 RX0 yX0_isShared wsX0_isShared) := goodIn_app (goodIn_of _ (by decide +kernel)) ggX0_write_X0_isShared
set_option maxRecDepth 20000 in
theorem ggX0_write_X6_length : GoodIn wsX0_write wsX6_length := goodIn_r _ [38, 9, 108, 109] (by decide +kernel) (by decide +kernel)
set_option maxRecDepth 20000 in
theorem gX0_write_X6_length : GoodIn wsX0_write (wsV RX0 42 RX6 yX6_length wsX6_length) := goodIn_app (goodIn_of _ (by decide +kernel)) ggX0_write_X6_length
set_option maxRecDepth 20000 in
theorem ggX0_write_X6_append : GoodIn wsX0_write wsX6_append := goodIn_ca (goodIn_r _ [42, 9, 43, 108, 109] (by decide +kernel) (by decide +kernel)) (goodIn_sub (fun _ h => List.mem_cons_of_mem _ (List.mem_append_right _ h)) (by decide +kernel))
set_option maxRecDepth 20000 in
theorem gX0_write_X6_append : GoodIn wsX0_write (wsV RX0 92 RX6 yX6_append wsX6_append) := goodIn_app (goodIn_of _ (by decide +kernel)) ggX0_write_X6_append
set_option maxRecDepth 20000 in
theorem ggX0_write_X3_number : GoodIn wsX0_write wsX3_number := goodIn_ca (goodIn_r _ [48, 49, 50, 21, 22, 23, 24, 25, 116, 117, 118, 119, 120, 121, 122, 123, 124, 125, 126, 127, 128, 115] (by decide +kernel) (by decide +kernel)) (goodIn_sub (fun _ h => List.mem_cons_of_mem _ (List.mem_append_right _ h)) (by decide +kernel))
set_option maxRecDepth 20000 in
theorem gX0_write_X3_number : GoodIn wsX0_write (wsV RX0 96 RX3 yX3_number wsX3_number) := goodIn_app (goodIn_of _ (by decide +kernel)) ggX0_write_X3_number
set_option maxRecDepth 20000 in
theorem ggX0_write_X5_level : GoodIn wsX0_write wsX5_level := goodIn_ca (goodIn_r _ [54, 55, 20, 21, 22, 23, 24, 25, 110, 111, 112, 113, 114, 115] (by decide +kernel) (by decide +kernel)) (goodIn_sub (fun _ h => List.mem_cons_of_mem _ (List.mem_append_right _ h)) (by decide +kernel))
set_option maxRecDepth 20000 in
theorem gX0_write_X5_level : GoodIn wsX0_write (wsV RX0 74 RX5 yX5_level wsX5_level) := goodIn_app (goodIn_of _ (by decide +kernel)) ggX0_write_X5_level
set_option maxRecDepth 20000 in
theorem ggX0_write_X1_format : GoodIn wsX0_write wsX1_format := goodIn_ca (goodIn_r _ [60, 61, 62, 21, 22, 23, 24, 25, 129, 130, 131, 132, 115] (by decide +kernel) (by decide +kernel)) (goodIn_sub (fun _ h => List.mem_cons_of_mem _ (List.mem_append_right _ h)) (by decide +kernel))
set_option maxRecDepth 20000 in
theorem gX0_write_X1_format : GoodIn wsX0_write (wsV RX0 101 RX1 yX1_format wsX1_format) := goodIn_app (goodIn_of _ (by decide +kernel)) ggX0_write_X1_format
set_option maxRecDepth 20000 in
theorem ggX0_write_X6_appendNumber : GoodIn wsX0_write wsX6_appendNumber := goodIn_ca (goodIn_r _ [66, 67, 40, 41, 7, 42, 9, 43, 68, 69, 70, 71, 72, 73, 74, 75, 76, 77, 78, 79, 80, 81, 82, 83, 84, 85, 86, 87, 88, 89, 90, 91, 92, 93, 94, 95, 108, 109] (by decide +kernel) (by decide +kernel)) (goodIn_sub (fun _ h => List.mem_cons_of_mem _ (List.mem_append_right _ h)) (by decide +kernel))
set_option maxRecDepth 20000 in
theorem gX0_write_X6_appendNumber : GoodIn wsX0_write (wsV RX0 106 RX6 yX6_appendNumber wsX6_appendNumber) := goodIn_app (goodIn_of _ (by decide +kernel)) ggX0_write_X6_appendNumber
set_option maxRecDepth 20000 in
theorem ggX0_write_X3_letters : GoodIn wsX0_write wsX3_letters := goodIn_ca (goodIn_r _ [99, 100, 50, 21, 22, 23, 24, 25, 116, 117, 118, 119, 120, 121, 122, 123, 124, 125, 126, 127, 128, 115] (by decide +kernel) (by decide +kernel)) (goodIn_sub (fun _ h => List.mem_cons_of_mem _ (List.mem_append_right _ h)) (by decide +kernel))
set_option maxRecDepth 20000 in
theorem gX0_write_X3_letters : GoodIn wsX0_write (wsV RX0 110 RX3 yX3_letters wsX3_letters) := goodIn_app (goodIn_of _ (by decide +kernel)) ggX0_write_X3_letters
set_option maxRecDepth 20000 in
theorem ggX0_write_X6_appendLetters : GoodIn wsX0_write wsX6_appendLetters := goodIn_ca (goodIn_r _ [71, 9, 67, 40, 41, 7, 42, 43, 72, 73, 74, 75, 76, 77, 78, 79, 80, 81, 82, 83, 108, 109] (by decide +kernel) (by decide +kernel)) (goodIn_sub (fun _ h => List.mem_cons_of_mem _ (List.mem_append_right _ h)) (by decide +kernel))
set_option maxRecDepth 20000 in
theorem gX0_write_X6_appendLetters : GoodIn wsX0_write (wsV RX0 113 RX6 yX6_appendLetters wsX6_appendLetters) := goodIn_app (goodIn_of _ (by decide +kernel)) ggX0_write_X6_appendLetters
theorem dX0_write_0 : decode cX0_write 0 = .ok (.aload_n 1, 1) := by decide +kernel
theorem dX0_write_1 : decode cX0_write 1 = .ok (.ifnonnull 4, 3) := by decide +kernel
theorem dX0_write_4 : decode cX0_write 4 = .ok (.return_, 1) := by decide +kernel
theorem dX0_write_5 : decode cX0_write 5 = .ok (.aload_n 1, 1) := by decide +kernel
theorem dX0_write_6 : decode cX0_write 6 = .ok (.invokevirtual 60, 3) := by decide +kernel
theorem dX0_write_9 : decode cX0_write 9 = .ok (.iconst 3, 1) := by decide +kernel
theorem dX0_write_10 : decode cX0_write 10 = .ok (.istore 4, 2) := by decide +kernel
theorem dX0_write_12 : decode cX0_write 12 = .ok (.iload 4, 2) := by decide +kernel
theorem dX0_write_14 : decode cX0_write 14 = .ok (.ifCond .lt 111, 3) := by decide +kernel
theorem dX0_write_17 : decode cX0_write 17 = .ok (.aload_n 0, 1) := by decide +kernel
theorem dX0_write_18 : decode cX0_write 18 = .ok (.getfield 30, 3) := by decide +kernel
theorem dX0_write_21 : decode cX0_write 21 = .ok (.iload_n 2, 1) := by decide +kernel
theorem dX0_write_22 : decode cX0_write 22 = .ok (.iload 4, 2) := by decide +kernel
theorem dX0_write_24 : decode cX0_write 24 = .ok (.invokevirtual 84, 3) := by decide +kernel
theorem dX0_write_27 : decode cX0_write 27 = .ok (.istore 5, 2) := by decide +kernel
theorem dX0_write_29 : decode cX0_write 29 = .ok (.iload 4, 2) := by decide +kernel
theorem dX0_write_31 : decode cX0_write 31 = .ok (.ifCond .eq 19, 3) := by decide +kernel
theorem dX0_write_34 : decode cX0_write 34 = .ok (.iload 5, 2) := by decide +kernel
theorem dX0_write_36 : decode cX0_write 36 = .ok (.iconst (-1), 1) := by decide +kernel
theorem dX0_write_37 : decode cX0_write 37 = .ok (.if_icmp .eq 17, 3) := by decide +kernel
theorem dX0_write_40 : decode cX0_write 40 = .ok (.aload_n 0, 1) := by decide +kernel
theorem dX0_write_41 : decode cX0_write 41 = .ok (.iload 5, 2) := by decide +kernel
theorem dX0_write_43 : decode cX0_write 43 = .ok (.iload_n 3, 1) := by decide +kernel
theorem dX0_write_44 : decode cX0_write 44 = .ok (.invokevirtual 88, 3) := by decide +kernel
theorem dX0_write_47 : decode cX0_write 47 = .ok (.ifCond .ne 7, 3) := by decide +kernel
theorem dX0_write_50 : decode cX0_write 50 = .ok (.iconst 1, 1) := by decide +kernel
theorem dX0_write_51 : decode cX0_write 51 = .ok (.goto 4, 3) := by decide +kernel
theorem dX0_write_54 : decode cX0_write 54 = .ok (.iconst 0, 1) := by decide +kernel
theorem dX0_write_55 : decode cX0_write 55 = .ok (.istore 6, 2) := by decide +kernel
theorem dX0_write_57 : decode cX0_write 57 = .ok (.iload 6, 2) := by decide +kernel
theorem dX0_write_59 : decode cX0_write 59 = .ok (.ifCond .eq 60, 3) := by decide +kernel
theorem dX0_write_62 : decode cX0_write 62 = .ok (.aload_n 1, 1) := by decide +kernel
theorem dX0_write_63 : decode cX0_write 63 = .ok (.invokevirtual 42, 3) := by decide +kernel
theorem dX0_write_66 : decode cX0_write 66 = .ok (.ifCond .le 9, 3) := by decide +kernel
theorem dX0_write_69 : decode cX0_write 69 = .ok (.aload_n 1, 1) := by decide +kernel
theorem dX0_write_70 : decode cX0_write 70 = .ok (.bipush 46, 2) := by decide +kernel
theorem dX0_write_72 : decode cX0_write 72 = .ok (.invokevirtual 92, 3) := by decide +kernel
theorem dX0_write_75 : decode cX0_write 75 = .ok (.aload_n 1, 1) := by decide +kernel
theorem dX0_write_76 : decode cX0_write 76 = .ok (.aload_n 0, 1) := by decide +kernel
theorem dX0_write_77 : decode cX0_write 77 = .ok (.getfield 38, 3) := by decide +kernel
theorem dX0_write_80 : decode cX0_write 80 = .ok (.iload 5, 2) := by decide +kernel
theorem dX0_write_82 : decode cX0_write 82 = .ok (.invokevirtual 96, 3) := by decide +kernel
theorem dX0_write_85 : decode cX0_write 85 = .ok (.aload_n 0, 1) := by decide +kernel
theorem dX0_write_86 : decode cX0_write 86 = .ok (.getfield 34, 3) := by decide +kernel
theorem dX0_write_89 : decode cX0_write 89 = .ok (.aload_n 0, 1) := by decide +kernel
theorem dX0_write_90 : decode cX0_write 90 = .ok (.getfield 30, 3) := by decide +kernel
theorem dX0_write_93 : decode cX0_write 93 = .ok (.iload 5, 2) := by decide +kernel
theorem dX0_write_95 : decode cX0_write 95 = .ok (.invokevirtual 74, 3) := by decide +kernel
theorem dX0_write_98 : decode cX0_write 98 = .ok (.invokevirtual 101, 3) := by decide +kernel
theorem dX0_write_101 : decode cX0_write 101 = .ok (.invokevirtual 106, 3) := by decide +kernel
theorem dX0_write_104 : decode cX0_write 104 = .ok (.aload_n 1, 1) := by decide +kernel
theorem dX0_write_105 : decode cX0_write 105 = .ok (.aload_n 0, 1) := by decide +kernel
theorem dX0_write_106 : decode cX0_write 106 = .ok (.getfield 38, 3) := by decide +kernel
theorem dX0_write_109 : decode cX0_write 109 = .ok (.iload 5, 2) := by decide +kernel
theorem dX0_write_111 : decode cX0_write 111 = .ok (.invokevirtual 110, 3) := by decide +kernel
theorem dX0_write_114 : decode cX0_write 114 = .ok (.bipush 65, 2) := by decide +kernel
theorem dX0_write_116 : decode cX0_write 116 = .ok (.invokevirtual 113, 3) := by decide +kernel
theorem dX0_write_119 : decode cX0_write 119 = .ok (.iinc 4 (-1), 3) := by decide +kernel
theorem dX0_write_122 : decode cX0_write 122 = .ok (.goto (-110), 3) := by decide +kernel
theorem dX0_write_125 : decode cX0_write 125 = .ok (.return_, 1) := by decide +kernel
set_option maxRecDepth 20000 in
theorem ggX0_isShared_X5_isAbove : GoodIn wsX0_isShared wsX5_isAbove := goodIn_ca (goodIn_r _ [6, 7, 8, 9, 5, 10, 11, 12, 13, 14, 15, 16, 17, 24, 25, 26, 27, 28, 29] (by decide +kernel) (by decide +kernel)) (goodIn_sub (fun _ h => List.mem_cons_of_mem _ (List.mem_append_right _ h)) (by decide +kernel))
set_option maxRecDepth 20000 in
theorem gX0_isShared_X5_isAbove : GoodIn wsX0_isShared (wsV RX0 116 RX5 yX5_isAbove wsX5_isAbove) := goodIn_app (goodIn_of _ (by decide +kernel)) ggX0_isShared_X5_isAbove
theorem dX0_isShared_0 : decode cX0_isShared 0 = .ok (.iload_n 1, 1) := by decide +kernel
theorem dX0_isShared_1 : decode cX0_isShared 1 = .ok (.iload_n 2, 1) := by decide +kernel
theorem dX0_isShared_2 : decode cX0_isShared 2 = .ok (.if_icmp .eq 15, 3) := by decide +kernel
theorem dX0_isShared_5 : decode cX0_isShared 5 = .ok (.aload_n 0, 1) := by decide +kernel
theorem dX0_isShared_6 : decode cX0_isShared 6 = .ok (.getfield 30, 3) := by decide +kernel
theorem dX0_isShared_9 : decode cX0_isShared 9 = .ok (.iload_n 1, 1) := by decide +kernel
theorem dX0_isShared_10 : decode cX0_isShared 10 = .ok (.iload_n 2, 1) := by decide +kernel
theorem dX0_isShared_11 : decode cX0_isShared 11 = .ok (.invokevirtual 116, 3) := by decide +kernel
theorem dX0_isShared_14 : decode cX0_isShared 14 = .ok (.ifCond .eq 7, 3) := by decide +kernel
theorem dX0_isShared_17 : decode cX0_isShared 17 = .ok (.iconst 1, 1) := by decide +kernel
theorem dX0_isShared_18 : decode cX0_isShared 18 = .ok (.goto 4, 3) := by decide +kernel
theorem dX0_isShared_21 : decode cX0_isShared 21 = .ok (.iconst 0, 1) := by decide +kernel
theorem dX0_isShared_22 : decode cX0_isShared 22 = .ok (.ireturn, 1) := by decide +kernel
set_option maxRecDepth 20000 in
theorem ggX1_init_X4_init : GoodIn wsX1_init wsX4_init := goodIn_r _ [13, 14, 2, 3, 15, 16, 21] (by decide +kernel) (by decide +kernel)
set_option maxRecDepth 20000 in
theorem gX1_init_X4_init : GoodIn wsX1_init (wsX4_init) := ggX1_init_X4_init
set_option maxRecDepth 20000 in
theorem ggX1_init_X4_put : GoodIn wsX1_init wsX4_put := goodIn_ca (goodIn_r _ [20, 16, 21] (by decide +kernel) (by decide +kernel)) (goodIn_sub (fun _ h => List.mem_cons_of_mem _ (List.mem_append_right _ h)) (by decide +kernel))
set_option maxRecDepth 20000 in
theorem gX1_init_X4_put : GoodIn wsX1_init (wsV RX1 29 RX4 yX4_put wsX4_put) := goodIn_app (goodIn_of _ (by decide +kernel)) ggX1_init_X4_put
theorem dX1_init_0 : decode cX1_init 0 = .ok (.aload_n 0, 1) := by decide +kernel
theorem dX1_init_1 : decode cX1_init 1 = .ok (.invokespecial 3, 3) := by decide +kernel
theorem dX1_init_4 : decode cX1_init 4 = .ok (.aload_n 0, 1) := by decide +kernel
theorem dX1_init_5 : decode cX1_init 5 = .ok (.new 9, 3) := by decide +kernel
theorem dX1_init_8 : decode cX1_init 8 = .ok (.dup, 1) := by decide +kernel
theorem dX1_init_9 : decode cX1_init 9 = .ok (.iconst 5, 1) := by decide +kernel
theorem dX1_init_10 : decode cX1_init 10 = .ok (.invokespecial 11, 3) := by decide +kernel
theorem dX1_init_13 : decode cX1_init 13 = .ok (.putfield 14, 3) := by decide +kernel
theorem dX1_init_16 : decode cX1_init 16 = .ok (.aload_n 0, 1) := by decide +kernel
theorem dX1_init_17 : decode cX1_init 17 = .ok (.new 9, 3) := by decide +kernel
theorem dX1_init_20 : decode cX1_init 20 = .ok (.dup, 1) := by decide +kernel
theorem dX1_init_21 : decode cX1_init 21 = .ok (.iconst 5, 1) := by decide +kernel
theorem dX1_init_22 : decode cX1_init 22 = .ok (.invokespecial 11, 3) := by decide +kernel
theorem dX1_init_25 : decode cX1_init 25 = .ok (.putfield 20, 3) := by decide +kernel
theorem dX1_init_28 : decode cX1_init 28 = .ok (.aload_n 0, 1) := by decide +kernel
theorem dX1_init_29 : decode cX1_init 29 = .ok (.new 9, 3) := by decide +kernel
theorem dX1_init_32 : decode cX1_init 32 = .ok (.dup, 1) := by decide +kernel
theorem dX1_init_33 : decode cX1_init 33 = .ok (.sipush 500, 3) := by decide +kernel
theorem dX1_init_36 : decode cX1_init 36 = .ok (.invokespecial 11, 3) := by decide +kernel
theorem dX1_init_39 : decode cX1_init 39 = .ok (.putfield 23, 3) := by decide +kernel
theorem dX1_init_42 : decode cX1_init 42 = .ok (.aload_n 0, 1) := by decide +kernel
theorem dX1_init_43 : decode cX1_init 43 = .ok (.new 9, 3) := by decide +kernel
theorem dX1_init_46 : decode cX1_init 46 = .ok (.dup, 1) := by decide +kernel
theorem dX1_init_47 : decode cX1_init 47 = .ok (.iconst 5, 1) := by decide +kernel
theorem dX1_init_48 : decode cX1_init 48 = .ok (.invokespecial 11, 3) := by decide +kernel
theorem dX1_init_51 : decode cX1_init 51 = .ok (.putfield 26, 3) := by decide +kernel
theorem dX1_init_54 : decode cX1_init 54 = .ok (.iconst 1, 1) := by decide +kernel
theorem dX1_init_55 : decode cX1_init 55 = .ok (.istore_n 1, 1) := by decide +kernel
theorem dX1_init_56 : decode cX1_init 56 = .ok (.iload_n 1, 1) := by decide +kernel
theorem dX1_init_57 : decode cX1_init 57 = .ok (.iconst 4, 1) := by decide +kernel
theorem dX1_init_58 : decode cX1_init 58 = .ok (.if_icmp .gt 19, 3) := by decide +kernel
theorem dX1_init_61 : decode cX1_init 61 = .ok (.aload_n 0, 1) := by decide +kernel
theorem dX1_init_62 : decode cX1_init 62 = .ok (.getfield 14, 3) := by decide +kernel
theorem dX1_init_65 : decode cX1_init 65 = .ok (.iload_n 1, 1) := by decide +kernel
theorem dX1_init_66 : decode cX1_init 66 = .ok (.bipush 100, 2) := by decide +kernel
theorem dX1_init_68 : decode cX1_init 68 = .ok (.invokevirtual 29, 3) := by decide +kernel
theorem dX1_init_71 : decode cX1_init 71 = .ok (.iinc 1 1, 3) := by decide +kernel
theorem dX1_init_74 : decode cX1_init 74 = .ok (.goto (-18), 3) := by decide +kernel
theorem dX1_init_77 : decode cX1_init 77 = .ok (.return_, 1) := by decide +kernel
set_option maxRecDepth 20000 in
theorem ggX1_format_X4_at : GoodIn wsX1_format wsX4_at := goodIn_ca (goodIn_r _ [6, 7, 12] (by decide +kernel) (by decide +kernel)) (goodIn_sub (fun _ h => List.mem_cons_of_mem _ (List.mem_append_right _ h)) (by decide +kernel))
set_option maxRecDepth 20000 in
theorem gX1_format_X4_at : GoodIn wsX1_format (wsV RX1 33 RX4 yX4_at wsX4_at) := goodIn_app (goodIn_of _ (by decide +kernel)) ggX1_format_X4_at
theorem dX1_format_0 : decode cX1_format 0 = .ok (.aload_n 0, 1) := by decide +kernel
theorem dX1_format_1 : decode cX1_format 1 = .ok (.getfield 14, 3) := by decide +kernel
theorem dX1_format_4 : decode cX1_format 4 = .ok (.iload_n 1, 1) := by decide +kernel
theorem dX1_format_5 : decode cX1_format 5 = .ok (.invokevirtual 33, 3) := by decide +kernel
theorem dX1_format_8 : decode cX1_format 8 = .ok (.i2c, 1) := by decide +kernel
theorem dX1_format_9 : decode cX1_format 9 = .ok (.ireturn, 1) := by decide +kernel
set_option maxRecDepth 20000 in
theorem ggX1_putFormat_X4_put : GoodIn wsX1_putFormat wsX4_put := goodIn_ca (goodIn_r _ [6, 7, 12] (by decide +kernel) (by decide +kernel)) (goodIn_sub (fun _ h => List.mem_cons_of_mem _ (List.mem_append_right _ h)) (by decide +kernel))
set_option maxRecDepth 20000 in
theorem gX1_putFormat_X4_put : GoodIn wsX1_putFormat (wsV RX1 29 RX4 yX4_put wsX4_put) := goodIn_app (goodIn_of _ (by decide +kernel)) ggX1_putFormat_X4_put
theorem dX1_putFormat_0 : decode cX1_putFormat 0 = .ok (.aload_n 0, 1) := by decide +kernel
theorem dX1_putFormat_1 : decode cX1_putFormat 1 = .ok (.getfield 14, 3) := by decide +kernel
theorem dX1_putFormat_4 : decode cX1_putFormat 4 = .ok (.iload_n 1, 1) := by decide +kernel
theorem dX1_putFormat_5 : decode cX1_putFormat 5 = .ok (.iload_n 2, 1) := by decide +kernel
theorem dX1_putFormat_6 : decode cX1_putFormat 6 = .ok (.invokevirtual 29, 3) := by decide +kernel
theorem dX1_putFormat_9 : decode cX1_putFormat 9 = .ok (.return_, 1) := by decide +kernel
set_option maxRecDepth 20000 in
theorem ggX1_goesOn_X4_at : GoodIn wsX1_goesOn wsX4_at := goodIn_ca (goodIn_r _ [6, 7, 12] (by decide +kernel) (by decide +kernel)) (goodIn_sub (fun _ h => List.mem_cons_of_mem _ (List.mem_append_right _ h)) (by decide +kernel))
set_option maxRecDepth 20000 in
theorem gX1_goesOn_X4_at : GoodIn wsX1_goesOn (wsV RX1 33 RX4 yX4_at wsX4_at) := goodIn_app (goodIn_of _ (by decide +kernel)) ggX1_goesOn_X4_at
theorem dX1_goesOn_0 : decode cX1_goesOn 0 = .ok (.aload_n 0, 1) := by decide +kernel
theorem dX1_goesOn_1 : decode cX1_goesOn 1 = .ok (.getfield 20, 3) := by decide +kernel
theorem dX1_goesOn_4 : decode cX1_goesOn 4 = .ok (.iload_n 1, 1) := by decide +kernel
theorem dX1_goesOn_5 : decode cX1_goesOn 5 = .ok (.invokevirtual 33, 3) := by decide +kernel
theorem dX1_goesOn_8 : decode cX1_goesOn 8 = .ok (.ifCond .eq 7, 3) := by decide +kernel
theorem dX1_goesOn_11 : decode cX1_goesOn 11 = .ok (.iconst 1, 1) := by decide +kernel
theorem dX1_goesOn_12 : decode cX1_goesOn 12 = .ok (.goto 4, 3) := by decide +kernel
theorem dX1_goesOn_15 : decode cX1_goesOn 15 = .ok (.iconst 0, 1) := by decide +kernel
theorem dX1_goesOn_16 : decode cX1_goesOn 16 = .ok (.ireturn, 1) := by decide +kernel
set_option maxRecDepth 20000 in
theorem ggX1_putGoingOn_X4_put : GoodIn wsX1_putGoingOn wsX4_put := goodIn_ca (goodIn_r _ [6, 7, 12] (by decide +kernel) (by decide +kernel)) (goodIn_sub (fun _ h => List.mem_cons_of_mem _ (List.mem_append_right _ h)) (by decide +kernel))
set_option maxRecDepth 20000 in
theorem gX1_putGoingOn_X4_put : GoodIn wsX1_putGoingOn (wsV RX1 29 RX4 yX4_put wsX4_put) := goodIn_app (goodIn_of _ (by decide +kernel)) ggX1_putGoingOn_X4_put
theorem dX1_putGoingOn_0 : decode cX1_putGoingOn 0 = .ok (.aload_n 0, 1) := by decide +kernel
theorem dX1_putGoingOn_1 : decode cX1_putGoingOn 1 = .ok (.getfield 20, 3) := by decide +kernel
theorem dX1_putGoingOn_4 : decode cX1_putGoingOn 4 = .ok (.iload_n 1, 1) := by decide +kernel
theorem dX1_putGoingOn_5 : decode cX1_putGoingOn 5 = .ok (.iload_n 2, 1) := by decide +kernel
theorem dX1_putGoingOn_6 : decode cX1_putGoingOn 6 = .ok (.ifCond .eq 7, 3) := by decide +kernel
theorem dX1_putGoingOn_9 : decode cX1_putGoingOn 9 = .ok (.iconst 1, 1) := by decide +kernel
theorem dX1_putGoingOn_10 : decode cX1_putGoingOn 10 = .ok (.goto 4, 3) := by decide +kernel
theorem dX1_putGoingOn_13 : decode cX1_putGoingOn 13 = .ok (.iconst 0, 1) := by decide +kernel
theorem dX1_putGoingOn_14 : decode cX1_putGoingOn 14 = .ok (.invokevirtual 29, 3) := by decide +kernel
theorem dX1_putGoingOn_17 : decode cX1_putGoingOn 17 = .ok (.return_, 1) := by decide +kernel
set_option maxRecDepth 20000 in
theorem ggX1_isSkipped_X1_cell : GoodIn wsX1_isSkipped wsX1_cell := goodIn_r _ [5] (by decide +kernel) (by decide +kernel)
set_option maxRecDepth 20000 in
theorem gX1_isSkipped_X1_cell : GoodIn wsX1_isSkipped (va_wsS RX1 37 yX1_cell wsX1_cell) := goodIn_app (goodIn_of _ (by decide +kernel)) ggX1_isSkipped_X1_cell
set_option maxRecDepth 20000 in
theorem ggX1_isSkipped_X4_at : GoodIn wsX1_isSkipped wsX4_at := goodIn_ca (goodIn_r _ [10, 11, 16] (by decide +kernel) (by decide +kernel)) (goodIn_sub (fun _ h => List.mem_cons_of_mem _ (List.mem_append_right _ h)) (by decide +kernel))
set_option maxRecDepth 20000 in
theorem gX1_isSkipped_X4_at : GoodIn wsX1_isSkipped (wsV RX1 33 RX4 yX4_at wsX4_at) := goodIn_app (goodIn_of _ (by decide +kernel)) ggX1_isSkipped_X4_at
theorem dX1_isSkipped_0 : decode cX1_isSkipped 0 = .ok (.iload_n 2, 1) := by decide +kernel
theorem dX1_isSkipped_1 : decode cX1_isSkipped 1 = .ok (.bipush 99, 2) := by decide +kernel
theorem dX1_isSkipped_3 : decode cX1_isSkipped 3 = .ok (.if_icmp .gt 22, 3) := by decide +kernel
theorem dX1_isSkipped_6 : decode cX1_isSkipped 6 = .ok (.aload_n 0, 1) := by decide +kernel
theorem dX1_isSkipped_7 : decode cX1_isSkipped 7 = .ok (.getfield 23, 3) := by decide +kernel
theorem dX1_isSkipped_10 : decode cX1_isSkipped 10 = .ok (.iload_n 1, 1) := by decide +kernel
theorem dX1_isSkipped_11 : decode cX1_isSkipped 11 = .ok (.iload_n 2, 1) := by decide +kernel
theorem dX1_isSkipped_12 : decode cX1_isSkipped 12 = .ok (.invokestatic 37, 3) := by decide +kernel
theorem dX1_isSkipped_15 : decode cX1_isSkipped 15 = .ok (.invokevirtual 33, 3) := by decide +kernel
theorem dX1_isSkipped_18 : decode cX1_isSkipped 18 = .ok (.ifCond .eq 7, 3) := by decide +kernel
theorem dX1_isSkipped_21 : decode cX1_isSkipped 21 = .ok (.iconst 1, 1) := by decide +kernel
theorem dX1_isSkipped_22 : decode cX1_isSkipped 22 = .ok (.goto 4, 3) := by decide +kernel
theorem dX1_isSkipped_25 : decode cX1_isSkipped 25 = .ok (.iconst 0, 1) := by decide +kernel
theorem dX1_isSkipped_26 : decode cX1_isSkipped 26 = .ok (.ireturn, 1) := by decide +kernel
set_option maxRecDepth 20000 in
theorem ggX1_putSkipped_X1_cell : GoodIn wsX1_putSkipped wsX1_cell := goodIn_r _ [6] (by decide +kernel) (by decide +kernel)
set_option maxRecDepth 20000 in
theorem gX1_putSkipped_X1_cell : GoodIn wsX1_putSkipped (va_wsS RX1 37 yX1_cell wsX1_cell) := goodIn_app (goodIn_of _ (by decide +kernel)) ggX1_putSkipped_X1_cell
set_option maxRecDepth 20000 in
theorem ggX1_putSkipped_X4_put : GoodIn wsX1_putSkipped wsX4_put := goodIn_ca (goodIn_r _ [11, 12, 21] (by decide +kernel) (by decide +kernel)) (goodIn_sub (fun _ h => List.mem_cons_of_mem _ (List.mem_append_right _ h)) (by decide +kernel))
set_option maxRecDepth 20000 in
theorem gX1_putSkipped_X4_put : GoodIn wsX1_putSkipped (wsV RX1 29 RX4 yX4_put wsX4_put) := goodIn_app (goodIn_of _ (by decide +kernel)) ggX1_putSkipped_X4_put
set_option maxRecDepth 20000 in
theorem ggX1_putSkipped_X4_at : GoodIn wsX1_putSkipped wsX4_at := goodIn_ca (goodIn_r _ [16, 12, 21] (by decide +kernel) (by decide +kernel)) (goodIn_sub (fun _ h => List.mem_cons_of_mem _ (List.mem_append_right _ h)) (by decide +kernel))
set_option maxRecDepth 20000 in
theorem gX1_putSkipped_X4_at : GoodIn wsX1_putSkipped (wsV RX1 33 RX4 yX4_at wsX4_at) := goodIn_app (goodIn_of _ (by decide +kernel)) ggX1_putSkipped_X4_at
theorem dX1_putSkipped_0 : decode cX1_putSkipped 0 = .ok (.aload_n 0, 1) := by decide +kernel
theorem dX1_putSkipped_1 : decode cX1_putSkipped 1 = .ok (.getfield 23, 3) := by decide +kernel
theorem dX1_putSkipped_4 : decode cX1_putSkipped 4 = .ok (.iload_n 1, 1) := by decide +kernel
theorem dX1_putSkipped_5 : decode cX1_putSkipped 5 = .ok (.iload_n 2, 1) := by decide +kernel
theorem dX1_putSkipped_6 : decode cX1_putSkipped 6 = .ok (.invokestatic 37, 3) := by decide +kernel
theorem dX1_putSkipped_9 : decode cX1_putSkipped 9 = .ok (.iload_n 3, 1) := by decide +kernel
theorem dX1_putSkipped_10 : decode cX1_putSkipped 10 = .ok (.ifCond .eq 7, 3) := by decide +kernel
theorem dX1_putSkipped_13 : decode cX1_putSkipped 13 = .ok (.iconst 1, 1) := by decide +kernel
theorem dX1_putSkipped_14 : decode cX1_putSkipped 14 = .ok (.goto 4, 3) := by decide +kernel
theorem dX1_putSkipped_17 : decode cX1_putSkipped 17 = .ok (.iconst 0, 1) := by decide +kernel
theorem dX1_putSkipped_18 : decode cX1_putSkipped 18 = .ok (.invokevirtual 29, 3) := by decide +kernel
theorem dX1_putSkipped_21 : decode cX1_putSkipped 21 = .ok (.aload_n 0, 1) := by decide +kernel
theorem dX1_putSkipped_22 : decode cX1_putSkipped 22 = .ok (.getfield 26, 3) := by decide +kernel
theorem dX1_putSkipped_25 : decode cX1_putSkipped 25 = .ok (.iload_n 1, 1) := by decide +kernel
theorem dX1_putSkipped_26 : decode cX1_putSkipped 26 = .ok (.aload_n 0, 1) := by decide +kernel
theorem dX1_putSkipped_27 : decode cX1_putSkipped 27 = .ok (.getfield 26, 3) := by decide +kernel
theorem dX1_putSkipped_30 : decode cX1_putSkipped 30 = .ok (.iload_n 1, 1) := by decide +kernel
theorem dX1_putSkipped_31 : decode cX1_putSkipped 31 = .ok (.invokevirtual 33, 3) := by decide +kernel
theorem dX1_putSkipped_34 : decode cX1_putSkipped 34 = .ok (.iload_n 3, 1) := by decide +kernel
theorem dX1_putSkipped_35 : decode cX1_putSkipped 35 = .ok (.ifCond .eq 7, 3) := by decide +kernel
theorem dX1_putSkipped_38 : decode cX1_putSkipped 38 = .ok (.iconst 1, 1) := by decide +kernel
theorem dX1_putSkipped_39 : decode cX1_putSkipped 39 = .ok (.goto 4, 3) := by decide +kernel
theorem dX1_putSkipped_42 : decode cX1_putSkipped 42 = .ok (.iconst (-1), 1) := by decide +kernel
theorem dX1_putSkipped_43 : decode cX1_putSkipped 43 = .ok (.iadd, 1) := by decide +kernel
theorem dX1_putSkipped_44 : decode cX1_putSkipped 44 = .ok (.invokevirtual 29, 3) := by decide +kernel
theorem dX1_putSkipped_47 : decode cX1_putSkipped 47 = .ok (.return_, 1) := by decide +kernel
set_option maxRecDepth 20000 in
theorem ggX1_skippedAmount_X4_at : GoodIn wsX1_skippedAmount wsX4_at := goodIn_ca (goodIn_r _ [6, 7, 12] (by decide +kernel) (by decide +kernel)) (goodIn_sub (fun _ h => List.mem_cons_of_mem _ (List.mem_append_right _ h)) (by decide +kernel))
set_option maxRecDepth 20000 in
theorem gX1_skippedAmount_X4_at : GoodIn wsX1_skippedAmount (wsV RX1 33 RX4 yX4_at wsX4_at) := goodIn_app (goodIn_of _ (by decide +kernel)) ggX1_skippedAmount_X4_at
theorem dX1_skippedAmount_0 : decode cX1_skippedAmount 0 = .ok (.aload_n 0, 1) := by decide +kernel
theorem dX1_skippedAmount_1 : decode cX1_skippedAmount 1 = .ok (.getfield 26, 3) := by decide +kernel
theorem dX1_skippedAmount_4 : decode cX1_skippedAmount 4 = .ok (.iload_n 1, 1) := by decide +kernel
theorem dX1_skippedAmount_5 : decode cX1_skippedAmount 5 = .ok (.invokevirtual 33, 3) := by decide +kernel
theorem dX1_skippedAmount_8 : decode cX1_skippedAmount 8 = .ok (.ireturn, 1) := by decide +kernel
theorem dX1_cell_0 : decode cX1_cell 0 = .ok (.iload_n 0, 1) := by decide +kernel
theorem dX1_cell_1 : decode cX1_cell 1 = .ok (.bipush 100, 2) := by decide +kernel
theorem dX1_cell_3 : decode cX1_cell 3 = .ok (.imul, 1) := by decide +kernel
theorem dX1_cell_4 : decode cX1_cell 4 = .ok (.iload_n 1, 1) := by decide +kernel
theorem dX1_cell_5 : decode cX1_cell 5 = .ok (.iadd, 1) := by decide +kernel
theorem dX1_cell_6 : decode cX1_cell 6 = .ok (.ireturn, 1) := by decide +kernel
set_option maxRecDepth 20000 in
theorem ggX2_init_X4_init : GoodIn wsX2_init wsX4_init := goodIn_r _ [11, 12, 2, 3, 13, 14, 15] (by decide +kernel) (by decide +kernel)
set_option maxRecDepth 20000 in
theorem gX2_init_X4_init : GoodIn wsX2_init (wsX4_init) := ggX2_init_X4_init
theorem dX2_init_0 : decode cX2_init 0 = .ok (.aload_n 0, 1) := by decide +kernel
theorem dX2_init_1 : decode cX2_init 1 = .ok (.invokespecial 3, 3) := by decide +kernel
theorem dX2_init_4 : decode cX2_init 4 = .ok (.aload_n 0, 1) := by decide +kernel
theorem dX2_init_5 : decode cX2_init 5 = .ok (.new 9, 3) := by decide +kernel
theorem dX2_init_8 : decode cX2_init 8 = .ok (.dup, 1) := by decide +kernel
theorem dX2_init_9 : decode cX2_init 9 = .ok (.bipush 30, 2) := by decide +kernel
theorem dX2_init_11 : decode cX2_init 11 = .ok (.invokespecial 11, 3) := by decide +kernel
theorem dX2_init_14 : decode cX2_init 14 = .ok (.putfield 14, 3) := by decide +kernel
theorem dX2_init_17 : decode cX2_init 17 = .ok (.aload_n 0, 1) := by decide +kernel
theorem dX2_init_18 : decode cX2_init 18 = .ok (.new 9, 3) := by decide +kernel
theorem dX2_init_21 : decode cX2_init 21 = .ok (.dup, 1) := by decide +kernel
theorem dX2_init_22 : decode cX2_init 22 = .ok (.bipush 30, 2) := by decide +kernel
theorem dX2_init_24 : decode cX2_init 24 = .ok (.invokespecial 11, 3) := by decide +kernel
theorem dX2_init_27 : decode cX2_init 27 = .ok (.putfield 20, 3) := by decide +kernel
theorem dX2_init_30 : decode cX2_init 30 = .ok (.return_, 1) := by decide +kernel
theorem dX2_amount_0 : decode cX2_amount 0 = .ok (.aload_n 0, 1) := by decide +kernel
theorem dX2_amount_1 : decode cX2_amount 1 = .ok (.getfield 23, 3) := by decide +kernel
theorem dX2_amount_4 : decode cX2_amount 4 = .ok (.ireturn, 1) := by decide +kernel
set_option maxRecDepth 20000 in
theorem ggX2_source_X4_at : GoodIn wsX2_source wsX4_at := goodIn_ca (goodIn_r _ [6, 7, 11] (by decide +kernel) (by decide +kernel)) (goodIn_sub (fun _ h => List.mem_cons_of_mem _ (List.mem_append_right _ h)) (by decide +kernel))
set_option maxRecDepth 20000 in
theorem gX2_source_X4_at : GoodIn wsX2_source (wsV RX2 27 RX4 yX4_at wsX4_at) := goodIn_app (goodIn_of _ (by decide +kernel)) ggX2_source_X4_at
theorem dX2_source_0 : decode cX2_source 0 = .ok (.aload_n 0, 1) := by decide +kernel
theorem dX2_source_1 : decode cX2_source 1 = .ok (.getfield 14, 3) := by decide +kernel
theorem dX2_source_4 : decode cX2_source 4 = .ok (.iload_n 1, 1) := by decide +kernel
theorem dX2_source_5 : decode cX2_source 5 = .ok (.invokevirtual 27, 3) := by decide +kernel
theorem dX2_source_8 : decode cX2_source 8 = .ok (.ireturn, 1) := by decide +kernel
set_option maxRecDepth 20000 in
theorem ggX2_target_X4_at : GoodIn wsX2_target wsX4_at := goodIn_ca (goodIn_r _ [6, 7, 11] (by decide +kernel) (by decide +kernel)) (goodIn_sub (fun _ h => List.mem_cons_of_mem _ (List.mem_append_right _ h)) (by decide +kernel))
set_option maxRecDepth 20000 in
theorem gX2_target_X4_at : GoodIn wsX2_target (wsV RX2 27 RX4 yX4_at wsX4_at) := goodIn_app (goodIn_of _ (by decide +kernel)) ggX2_target_X4_at
theorem dX2_target_0 : decode cX2_target 0 = .ok (.aload_n 0, 1) := by decide +kernel
theorem dX2_target_1 : decode cX2_target 1 = .ok (.getfield 20, 3) := by decide +kernel
theorem dX2_target_4 : decode cX2_target 4 = .ok (.iload_n 1, 1) := by decide +kernel
theorem dX2_target_5 : decode cX2_target 5 = .ok (.invokevirtual 27, 3) := by decide +kernel
theorem dX2_target_8 : decode cX2_target 8 = .ok (.ireturn, 1) := by decide +kernel
set_option maxRecDepth 20000 in
theorem ggX2_append_X4_put : GoodIn wsX2_append wsX4_put := goodIn_ca (goodIn_r _ [8, 9, 13] (by decide +kernel) (by decide +kernel)) (goodIn_sub (fun _ h => List.mem_cons_of_mem _ (List.mem_append_right _ h)) (by decide +kernel))
set_option maxRecDepth 20000 in
theorem gX2_append_X4_put : GoodIn wsX2_append (wsV RX2 31 RX4 yX4_put wsX4_put) := goodIn_app (goodIn_of _ (by decide +kernel)) ggX2_append_X4_put
theorem dX2_append_0 : decode cX2_append 0 = .ok (.aload_n 0, 1) := by decide +kernel
theorem dX2_append_1 : decode cX2_append 1 = .ok (.getfield 23, 3) := by decide +kernel
theorem dX2_append_4 : decode cX2_append 4 = .ok (.istore_n 3, 1) := by decide +kernel
theorem dX2_append_5 : decode cX2_append 5 = .ok (.aload_n 0, 1) := by decide +kernel
theorem dX2_append_6 : decode cX2_append 6 = .ok (.getfield 14, 3) := by decide +kernel
theorem dX2_append_9 : decode cX2_append 9 = .ok (.iload_n 3, 1) := by decide +kernel
theorem dX2_append_10 : decode cX2_append 10 = .ok (.iload_n 1, 1) := by decide +kernel
theorem dX2_append_11 : decode cX2_append 11 = .ok (.invokevirtual 31, 3) := by decide +kernel
theorem dX2_append_14 : decode cX2_append 14 = .ok (.aload_n 0, 1) := by decide +kernel
theorem dX2_append_15 : decode cX2_append 15 = .ok (.getfield 20, 3) := by decide +kernel
theorem dX2_append_18 : decode cX2_append 18 = .ok (.iload_n 3, 1) := by decide +kernel
theorem dX2_append_19 : decode cX2_append 19 = .ok (.iload_n 2, 1) := by decide +kernel
theorem dX2_append_20 : decode cX2_append 20 = .ok (.invokevirtual 31, 3) := by decide +kernel
theorem dX2_append_23 : decode cX2_append 23 = .ok (.aload_n 0, 1) := by decide +kernel
theorem dX2_append_24 : decode cX2_append 24 = .ok (.dup, 1) := by decide +kernel
theorem dX2_append_25 : decode cX2_append 25 = .ok (.getfield 23, 3) := by decide +kernel
theorem dX2_append_28 : decode cX2_append 28 = .ok (.iconst 1, 1) := by decide +kernel
theorem dX2_append_29 : decode cX2_append 29 = .ok (.iadd, 1) := by decide +kernel
theorem dX2_append_30 : decode cX2_append 30 = .ok (.putfield 23, 3) := by decide +kernel
theorem dX2_append_33 : decode cX2_append 33 = .ok (.iload_n 3, 1) := by decide +kernel
theorem dX2_append_34 : decode cX2_append 34 = .ok (.ireturn, 1) := by decide +kernel
set_option maxRecDepth 20000 in
theorem ggX3_init_X7_init : GoodIn wsX3_init wsX7_init := goodIn_r _ [22, 23, 2, 3, 24, 9, 10, 25, 26, 27, 28, 29, 30, 31, 32, 50, 34, 35, 36] (by decide +kernel) (by decide +kernel)
set_option maxRecDepth 20000 in
theorem gX3_init_X7_init_n11 : GoodIn wsX3_init (wsX7_init) := ggX3_init_X7_init
set_option maxRecDepth 20000 in
theorem ggX3_init_X4_init : GoodIn wsX3_init wsX4_init := goodIn_r _ [29, 30, 2, 3, 31, 32, 50] (by decide +kernel) (by decide +kernel)
set_option maxRecDepth 20000 in
theorem gX3_init_X4_init : GoodIn wsX3_init (wsX4_init) := ggX3_init_X4_init
theorem dX3_init_0 : decode cX3_init 0 = .ok (.aload_n 0, 1) := by decide +kernel
theorem dX3_init_1 : decode cX3_init 1 = .ok (.invokespecial 3, 3) := by decide +kernel
theorem dX3_init_4 : decode cX3_init 4 = .ok (.aload_n 0, 1) := by decide +kernel
theorem dX3_init_5 : decode cX3_init 5 = .ok (.new 9, 3) := by decide +kernel
theorem dX3_init_8 : decode cX3_init 8 = .ok (.dup, 1) := by decide +kernel
theorem dX3_init_9 : decode cX3_init 9 = .ok (.invokespecial 11, 3) := by decide +kernel
theorem dX3_init_12 : decode cX3_init 12 = .ok (.putfield 12, 3) := by decide +kernel
theorem dX3_init_15 : decode cX3_init 15 = .ok (.aload_n 0, 1) := by decide +kernel
theorem dX3_init_16 : decode cX3_init 16 = .ok (.new 18, 3) := by decide +kernel
theorem dX3_init_19 : decode cX3_init 19 = .ok (.dup, 1) := by decide +kernel
theorem dX3_init_20 : decode cX3_init 20 = .ok (.bipush 60, 2) := by decide +kernel
theorem dX3_init_22 : decode cX3_init 22 = .ok (.invokespecial 20, 3) := by decide +kernel
theorem dX3_init_25 : decode cX3_init 25 = .ok (.putfield 23, 3) := by decide +kernel
theorem dX3_init_28 : decode cX3_init 28 = .ok (.aload_n 0, 1) := by decide +kernel
theorem dX3_init_29 : decode cX3_init 29 = .ok (.new 18, 3) := by decide +kernel
theorem dX3_init_32 : decode cX3_init 32 = .ok (.dup, 1) := by decide +kernel
theorem dX3_init_33 : decode cX3_init 33 = .ok (.bipush 60, 2) := by decide +kernel
theorem dX3_init_35 : decode cX3_init 35 = .ok (.invokespecial 20, 3) := by decide +kernel
theorem dX3_init_38 : decode cX3_init 38 = .ok (.putfield 27, 3) := by decide +kernel
theorem dX3_init_41 : decode cX3_init 41 = .ok (.aload_n 0, 1) := by decide +kernel
theorem dX3_init_42 : decode cX3_init 42 = .ok (.new 18, 3) := by decide +kernel
theorem dX3_init_45 : decode cX3_init 45 = .ok (.dup, 1) := by decide +kernel
theorem dX3_init_46 : decode cX3_init 46 = .ok (.bipush 60, 2) := by decide +kernel
theorem dX3_init_48 : decode cX3_init 48 = .ok (.invokespecial 20, 3) := by decide +kernel
theorem dX3_init_51 : decode cX3_init 51 = .ok (.putfield 30, 3) := by decide +kernel
theorem dX3_init_54 : decode cX3_init 54 = .ok (.aload_n 0, 1) := by decide +kernel
theorem dX3_init_55 : decode cX3_init 55 = .ok (.new 18, 3) := by decide +kernel
theorem dX3_init_58 : decode cX3_init 58 = .ok (.dup, 1) := by decide +kernel
theorem dX3_init_59 : decode cX3_init 59 = .ok (.bipush 60, 2) := by decide +kernel
theorem dX3_init_61 : decode cX3_init 61 = .ok (.invokespecial 20, 3) := by decide +kernel
theorem dX3_init_64 : decode cX3_init 64 = .ok (.putfield 33, 3) := by decide +kernel
theorem dX3_init_67 : decode cX3_init 67 = .ok (.aload_n 0, 1) := by decide +kernel
theorem dX3_init_68 : decode cX3_init 68 = .ok (.new 18, 3) := by decide +kernel
theorem dX3_init_71 : decode cX3_init 71 = .ok (.dup, 1) := by decide +kernel
theorem dX3_init_72 : decode cX3_init 72 = .ok (.bipush 60, 2) := by decide +kernel
theorem dX3_init_74 : decode cX3_init 74 = .ok (.invokespecial 20, 3) := by decide +kernel
theorem dX3_init_77 : decode cX3_init 77 = .ok (.putfield 36, 3) := by decide +kernel
theorem dX3_init_80 : decode cX3_init 80 = .ok (.aload_n 0, 1) := by decide +kernel
theorem dX3_init_81 : decode cX3_init 81 = .ok (.new 18, 3) := by decide +kernel
theorem dX3_init_84 : decode cX3_init 84 = .ok (.dup, 1) := by decide +kernel
theorem dX3_init_85 : decode cX3_init 85 = .ok (.bipush 60, 2) := by decide +kernel
theorem dX3_init_87 : decode cX3_init 87 = .ok (.invokespecial 20, 3) := by decide +kernel
theorem dX3_init_90 : decode cX3_init 90 = .ok (.putfield 39, 3) := by decide +kernel
theorem dX3_init_93 : decode cX3_init 93 = .ok (.aload_n 0, 1) := by decide +kernel
theorem dX3_init_94 : decode cX3_init 94 = .ok (.new 18, 3) := by decide +kernel
theorem dX3_init_97 : decode cX3_init 97 = .ok (.dup, 1) := by decide +kernel
theorem dX3_init_98 : decode cX3_init 98 = .ok (.bipush 60, 2) := by decide +kernel
theorem dX3_init_100 : decode cX3_init 100 = .ok (.invokespecial 20, 3) := by decide +kernel
theorem dX3_init_103 : decode cX3_init 103 = .ok (.putfield 42, 3) := by decide +kernel
theorem dX3_init_106 : decode cX3_init 106 = .ok (.aload_n 0, 1) := by decide +kernel
theorem dX3_init_107 : decode cX3_init 107 = .ok (.new 18, 3) := by decide +kernel
theorem dX3_init_110 : decode cX3_init 110 = .ok (.dup, 1) := by decide +kernel
theorem dX3_init_111 : decode cX3_init 111 = .ok (.bipush 60, 2) := by decide +kernel
theorem dX3_init_113 : decode cX3_init 113 = .ok (.invokespecial 20, 3) := by decide +kernel
theorem dX3_init_116 : decode cX3_init 116 = .ok (.putfield 45, 3) := by decide +kernel
theorem dX3_init_119 : decode cX3_init 119 = .ok (.aload_n 0, 1) := by decide +kernel
theorem dX3_init_120 : decode cX3_init 120 = .ok (.aload_n 1, 1) := by decide +kernel
theorem dX3_init_121 : decode cX3_init 121 = .ok (.putfield 48, 3) := by decide +kernel
theorem dX3_init_124 : decode cX3_init 124 = .ok (.aload_n 0, 1) := by decide +kernel
theorem dX3_init_125 : decode cX3_init 125 = .ok (.aload_n 2, 1) := by decide +kernel
theorem dX3_init_126 : decode cX3_init 126 = .ok (.putfield 52, 3) := by decide +kernel
theorem dX3_init_129 : decode cX3_init 129 = .ok (.return_, 1) := by decide +kernel
set_option maxRecDepth 20000 in
theorem ggX3_number_X4_at : GoodIn wsX3_number wsX4_at := goodIn_ca (goodIn_r _ [6, 7, 21] (by decide +kernel) (by decide +kernel)) (goodIn_sub (fun _ h => List.mem_cons_of_mem _ (List.mem_append_right _ h)) (by decide +kernel))
set_option maxRecDepth 20000 in
theorem gX3_number_X4_at : GoodIn wsX3_number (wsV RX3 56 RX4 yX4_at wsX4_at) := goodIn_app (goodIn_of _ (by decide +kernel)) ggX3_number_X4_at
theorem dX3_number_0 : decode cX3_number 0 = .ok (.aload_n 0, 1) := by decide +kernel
theorem dX3_number_1 : decode cX3_number 1 = .ok (.getfield 27, 3) := by decide +kernel
theorem dX3_number_4 : decode cX3_number 4 = .ok (.iload_n 1, 1) := by decide +kernel
theorem dX3_number_5 : decode cX3_number 5 = .ok (.invokevirtual 56, 3) := by decide +kernel
theorem dX3_number_8 : decode cX3_number 8 = .ok (.ireturn, 1) := by decide +kernel
set_option maxRecDepth 20000 in
theorem ggX3_letters_X4_at : GoodIn wsX3_letters wsX4_at := goodIn_ca (goodIn_r _ [6, 7, 21] (by decide +kernel) (by decide +kernel)) (goodIn_sub (fun _ h => List.mem_cons_of_mem _ (List.mem_append_right _ h)) (by decide +kernel))
set_option maxRecDepth 20000 in
theorem gX3_letters_X4_at : GoodIn wsX3_letters (wsV RX3 56 RX4 yX4_at wsX4_at) := goodIn_app (goodIn_of _ (by decide +kernel)) ggX3_letters_X4_at
theorem dX3_letters_0 : decode cX3_letters 0 = .ok (.aload_n 0, 1) := by decide +kernel
theorem dX3_letters_1 : decode cX3_letters 1 = .ok (.getfield 30, 3) := by decide +kernel
theorem dX3_letters_4 : decode cX3_letters 4 = .ok (.iload_n 1, 1) := by decide +kernel
theorem dX3_letters_5 : decode cX3_letters 5 = .ok (.invokevirtual 56, 3) := by decide +kernel
theorem dX3_letters_8 : decode cX3_letters 8 = .ok (.ireturn, 1) := by decide +kernel
set_option maxRecDepth 20000 in
theorem ggX3_isFixed_X4_at : GoodIn wsX3_isFixed wsX4_at := goodIn_ca (goodIn_r _ [6, 7, 21] (by decide +kernel) (by decide +kernel)) (goodIn_sub (fun _ h => List.mem_cons_of_mem _ (List.mem_append_right _ h)) (by decide +kernel))
set_option maxRecDepth 20000 in
theorem gX3_isFixed_X4_at : GoodIn wsX3_isFixed (wsV RX3 56 RX4 yX4_at wsX4_at) := goodIn_app (goodIn_of _ (by decide +kernel)) ggX3_isFixed_X4_at
theorem dX3_isFixed_0 : decode cX3_isFixed 0 = .ok (.aload_n 0, 1) := by decide +kernel
theorem dX3_isFixed_1 : decode cX3_isFixed 1 = .ok (.getfield 36, 3) := by decide +kernel
theorem dX3_isFixed_4 : decode cX3_isFixed 4 = .ok (.iload_n 1, 1) := by decide +kernel
theorem dX3_isFixed_5 : decode cX3_isFixed 5 = .ok (.invokevirtual 56, 3) := by decide +kernel
theorem dX3_isFixed_8 : decode cX3_isFixed 8 = .ok (.ifCond .eq 7, 3) := by decide +kernel
theorem dX3_isFixed_11 : decode cX3_isFixed 11 = .ok (.iconst 1, 1) := by decide +kernel
theorem dX3_isFixed_12 : decode cX3_isFixed 12 = .ok (.goto 4, 3) := by decide +kernel
theorem dX3_isFixed_15 : decode cX3_isFixed 15 = .ok (.iconst 0, 1) := by decide +kernel
theorem dX3_isFixed_16 : decode cX3_isFixed 16 = .ok (.ireturn, 1) := by decide +kernel
set_option maxRecDepth 20000 in
theorem ggX3_start_X4_at : GoodIn wsX3_start wsX4_at := goodIn_ca (goodIn_r _ [6, 7, 21] (by decide +kernel) (by decide +kernel)) (goodIn_sub (fun _ h => List.mem_cons_of_mem _ (List.mem_append_right _ h)) (by decide +kernel))
set_option maxRecDepth 20000 in
theorem gX3_start_X4_at : GoodIn wsX3_start (wsV RX3 56 RX4 yX4_at wsX4_at) := goodIn_app (goodIn_of _ (by decide +kernel)) ggX3_start_X4_at
theorem dX3_start_0 : decode cX3_start 0 = .ok (.aload_n 0, 1) := by decide +kernel
theorem dX3_start_1 : decode cX3_start 1 = .ok (.getfield 39, 3) := by decide +kernel
theorem dX3_start_4 : decode cX3_start 4 = .ok (.iload_n 1, 1) := by decide +kernel
theorem dX3_start_5 : decode cX3_start 5 = .ok (.invokevirtual 56, 3) := by decide +kernel
theorem dX3_start_8 : decode cX3_start 8 = .ok (.ireturn, 1) := by decide +kernel
set_option maxRecDepth 20000 in
theorem ggX3_putStart_X4_put : GoodIn wsX3_putStart wsX4_put := goodIn_ca (goodIn_r _ [6, 7, 21] (by decide +kernel) (by decide +kernel)) (goodIn_sub (fun _ h => List.mem_cons_of_mem _ (List.mem_append_right _ h)) (by decide +kernel))
set_option maxRecDepth 20000 in
theorem gX3_putStart_X4_put : GoodIn wsX3_putStart (wsV RX3 60 RX4 yX4_put wsX4_put) := goodIn_app (goodIn_of _ (by decide +kernel)) ggX3_putStart_X4_put
theorem dX3_putStart_0 : decode cX3_putStart 0 = .ok (.aload_n 0, 1) := by decide +kernel
theorem dX3_putStart_1 : decode cX3_putStart 1 = .ok (.getfield 39, 3) := by decide +kernel
theorem dX3_putStart_4 : decode cX3_putStart 4 = .ok (.iload_n 1, 1) := by decide +kernel
theorem dX3_putStart_5 : decode cX3_putStart 5 = .ok (.iload_n 2, 1) := by decide +kernel
theorem dX3_putStart_6 : decode cX3_putStart 6 = .ok (.invokevirtual 60, 3) := by decide +kernel
theorem dX3_putStart_9 : decode cX3_putStart 9 = .ok (.return_, 1) := by decide +kernel
set_option maxRecDepth 20000 in
theorem ggX3_reserved_X4_at : GoodIn wsX3_reserved wsX4_at := goodIn_ca (goodIn_r _ [6, 7, 21] (by decide +kernel) (by decide +kernel)) (goodIn_sub (fun _ h => List.mem_cons_of_mem _ (List.mem_append_right _ h)) (by decide +kernel))
set_option maxRecDepth 20000 in
theorem gX3_reserved_X4_at : GoodIn wsX3_reserved (wsV RX3 56 RX4 yX4_at wsX4_at) := goodIn_app (goodIn_of _ (by decide +kernel)) ggX3_reserved_X4_at
theorem dX3_reserved_0 : decode cX3_reserved 0 = .ok (.aload_n 0, 1) := by decide +kernel
theorem dX3_reserved_1 : decode cX3_reserved 1 = .ok (.getfield 42, 3) := by decide +kernel
theorem dX3_reserved_4 : decode cX3_reserved 4 = .ok (.iload_n 1, 1) := by decide +kernel
theorem dX3_reserved_5 : decode cX3_reserved 5 = .ok (.invokevirtual 56, 3) := by decide +kernel
theorem dX3_reserved_8 : decode cX3_reserved 8 = .ok (.ireturn, 1) := by decide +kernel
set_option maxRecDepth 20000 in
theorem ggX3_putReserved_X4_put : GoodIn wsX3_putReserved wsX4_put := goodIn_ca (goodIn_r _ [6, 7, 21] (by decide +kernel) (by decide +kernel)) (goodIn_sub (fun _ h => List.mem_cons_of_mem _ (List.mem_append_right _ h)) (by decide +kernel))
set_option maxRecDepth 20000 in
theorem gX3_putReserved_X4_put : GoodIn wsX3_putReserved (wsV RX3 60 RX4 yX4_put wsX4_put) := goodIn_app (goodIn_of _ (by decide +kernel)) ggX3_putReserved_X4_put
theorem dX3_putReserved_0 : decode cX3_putReserved 0 = .ok (.aload_n 0, 1) := by decide +kernel
theorem dX3_putReserved_1 : decode cX3_putReserved 1 = .ok (.getfield 42, 3) := by decide +kernel
theorem dX3_putReserved_4 : decode cX3_putReserved 4 = .ok (.iload_n 1, 1) := by decide +kernel
theorem dX3_putReserved_5 : decode cX3_putReserved 5 = .ok (.iload_n 2, 1) := by decide +kernel
theorem dX3_putReserved_6 : decode cX3_putReserved 6 = .ok (.invokevirtual 60, 3) := by decide +kernel
theorem dX3_putReserved_9 : decode cX3_putReserved 9 = .ok (.return_, 1) := by decide +kernel
set_option maxRecDepth 20000 in
theorem ggX3_usedAmount_X7_amount : GoodIn wsX3_usedAmount wsX7_amount := goodIn_r _ [6, 7, 21, 22, 23] (by decide +kernel) (by decide +kernel)
set_option maxRecDepth 20000 in
theorem gX3_usedAmount_X7_amount : GoodIn wsX3_usedAmount (wsV RX3 64 RX7 yX7_amount wsX7_amount) := goodIn_app (goodIn_of _ (by decide +kernel)) ggX3_usedAmount_X7_amount
theorem dX3_usedAmount_0 : decode cX3_usedAmount 0 = .ok (.aload_n 0, 1) := by decide +kernel
theorem dX3_usedAmount_1 : decode cX3_usedAmount 1 = .ok (.getfield 12, 3) := by decide +kernel
theorem dX3_usedAmount_4 : decode cX3_usedAmount 4 = .ok (.invokevirtual 64, 3) := by decide +kernel
theorem dX3_usedAmount_7 : decode cX3_usedAmount 7 = .ok (.ireturn, 1) := by decide +kernel
theorem dX3_walkedNumber_0 : decode cX3_walkedNumber 0 = .ok (.aload_n 0, 1) := by decide +kernel
theorem dX3_walkedNumber_1 : decode cX3_walkedNumber 1 = .ok (.getfield 68, 3) := by decide +kernel
theorem dX3_walkedNumber_4 : decode cX3_walkedNumber 4 = .ok (.ireturn, 1) := by decide +kernel
theorem dX3_walkedLetters_0 : decode cX3_walkedLetters 0 = .ok (.aload_n 0, 1) := by decide +kernel
theorem dX3_walkedLetters_1 : decode cX3_walkedLetters 1 = .ok (.getfield 72, 3) := by decide +kernel
theorem dX3_walkedLetters_4 : decode cX3_walkedLetters 4 = .ok (.ireturn, 1) := by decide +kernel
set_option maxRecDepth 20000 in
theorem ggX3_fix_X5_amount : GoodIn wsX3_fix wsX5_amount := goodIn_r _ [9, 10, 148, 149, 150, 151, 152] (by decide +kernel) (by decide +kernel)
set_option maxRecDepth 20000 in
theorem gX3_fix_X5_amount : GoodIn wsX3_fix (wsV RX3 75 RX5 yX5_amount wsX5_amount) := goodIn_app (goodIn_of _ (by decide +kernel)) ggX3_fix_X5_amount
set_option maxRecDepth 20000 in
theorem ggX3_fix_X5_nameAt : GoodIn wsX3_fix wsX5_nameAt := goodIn_ca (goodIn_r _ [14, 15, 16, 17, 18, 19, 20, 21, 148, 149, 150, 151, 152, 153] (by decide +kernel) (by decide +kernel)) (goodIn_sub (fun _ h => List.mem_cons_of_mem _ (List.mem_append_right _ h)) (by decide +kernel))
set_option maxRecDepth 20000 in
theorem gX3_fix_X5_nameAt : GoodIn wsX3_fix (wsV RX3 78 RX5 yX5_nameAt wsX5_nameAt) := goodIn_app (goodIn_of _ (by decide +kernel)) ggX3_fix_X5_nameAt
set_option maxRecDepth 20000 in
theorem ggX3_fix_X3_mayBeFixed : GoodIn wsX3_fix wsX3_mayBeFixed := goodIn_ca (goodIn_r _ [26, 1, 27, 28, 29, 8, 30, 31, 16, 17, 18, 19, 20, 21, 32, 33, 34, 25, 35, 2, 36, 37, 38, 39, 40, 41, 42, 43, 44, 45, 46, 135, 136, 137, 138, 139, 140, 141, 142, 143, 144, 145, 146, 147, 148, 149, 150, 151, 152, 153] (by decide +kernel) (by decide +kernel)) (goodIn_sub (fun _ h => List.mem_cons_of_mem _ (List.mem_append_right _ h)) (by decide +kernel))
set_option maxRecDepth 20000 in
theorem gX3_fix_X3_mayBeFixed : GoodIn wsX3_fix (wsV RX3 81 RX3 yX3_mayBeFixed wsX3_mayBeFixed) := goodIn_app (goodIn_of _ (by decide +kernel)) ggX3_fix_X3_mayBeFixed
set_option maxRecDepth 20000 in
theorem ggX3_fix_X4_put : GoodIn wsX3_fix wsX4_put := goodIn_ca (goodIn_r _ [50, 21, 153] (by decide +kernel) (by decide +kernel)) (goodIn_sub (fun _ h => List.mem_cons_of_mem _ (List.mem_append_right _ h)) (by decide +kernel))
set_option maxRecDepth 20000 in
theorem gX3_fix_X4_put : GoodIn wsX3_fix (wsV RX3 60 RX4 yX4_put wsX4_put) := goodIn_app (goodIn_of _ (by decide +kernel)) ggX3_fix_X4_put
set_option maxRecDepth 20000 in
theorem ggX3_fix_X4_at : GoodIn wsX3_fix wsX4_at := goodIn_ca (goodIn_r _ [20, 21, 153] (by decide +kernel) (by decide +kernel)) (goodIn_sub (fun _ h => List.mem_cons_of_mem _ (List.mem_append_right _ h)) (by decide +kernel))
set_option maxRecDepth 20000 in
theorem gX3_fix_X4_at : GoodIn wsX3_fix (wsV RX3 56 RX4 yX4_at wsX4_at) := goodIn_app (goodIn_of _ (by decide +kernel)) ggX3_fix_X4_at
set_option maxRecDepth 20000 in
theorem ggX3_fix_X3_number : GoodIn wsX3_fix wsX3_number := goodIn_ca (goodIn_r _ [54, 55, 36, 17, 18, 19, 20, 21, 135, 136, 137, 138, 139, 140, 141, 142, 143, 144, 145, 146, 147, 153] (by decide +kernel) (by decide +kernel)) (goodIn_sub (fun _ h => List.mem_cons_of_mem _ (List.mem_append_right _ h)) (by decide +kernel))
set_option maxRecDepth 20000 in
theorem gX3_fix_X3_number : GoodIn wsX3_fix (wsV RX3 85 RX3 yX3_number wsX3_number) := goodIn_app (goodIn_of _ (by decide +kernel)) ggX3_fix_X3_number
set_option maxRecDepth 20000 in
theorem ggX3_fix_X7_include : GoodIn wsX3_fix wsX7_include := goodIn_ca (goodIn_r _ [60, 61, 62, 63, 64, 65, 66, 59, 67, 68, 17, 18, 19, 20, 21, 69, 48, 49, 50, 154, 155, 156, 153] (by decide +kernel) (by decide +kernel)) (goodIn_sub (fun _ h => List.mem_cons_of_mem _ (List.mem_append_right _ h)) (by decide +kernel))
set_option maxRecDepth 20000 in
theorem gX3_fix_X7_include : GoodIn wsX3_fix (wsV RX3 88 RX7 yX7_include wsX7_include) := goodIn_app (goodIn_of _ (by decide +kernel)) ggX3_fix_X7_include
set_option maxRecDepth 20000 in
theorem ggX3_fix_X3_renumber : GoodIn wsX3_fix wsX3_renumber := goodIn_ca (goodIn_r _ [73, 1, 74, 75, 76, 25, 77, 78, 4, 5, 6, 7, 8, 9, 10, 11, 12, 13, 14, 15, 16, 17, 18, 19, 20, 21, 79, 80, 81, 82, 31, 83, 84, 85, 86, 87, 88, 89, 42, 43, 44, 45, 46, 47, 48, 49, 50, 27, 28, 29, 30, 32, 33, 34, 35, 2, 36, 90, 91, 92, 93, 94, 41, 55, 95, 96, 97, 98, 99, 100, 101, 102, 103, 104, 105, 106, 107, 51, 52, 53, 54, 108, 109, 110, 111, 112, 113, 114, 115, 3, 116, 117, 118, 119, 120, 121, 122, 123, 124, 125, 126, 127, 128, 129, 130, 131, 132, 133, 134, 65, 66, 59, 67, 61, 63, 62, 68, 37, 38, 39, 40, 135, 136, 137, 138, 139, 140, 141, 142, 143, 144, 145, 146, 147, 148, 149, 150, 151, 152, 153, 157, 158, 159, 160, 154, 155, 156] (by decide +kernel) (by decide +kernel)) (goodIn_sub (fun _ h => List.mem_cons_of_mem _ (List.mem_append_right _ h)) (by decide +kernel))
set_option maxRecDepth 20000 in
theorem gX3_fix_X3_renumber : GoodIn wsX3_fix (wsV RX3 91 RX3 yX3_renumber wsX3_renumber) := goodIn_app (goodIn_of _ (by decide +kernel)) ggX3_fix_X3_renumber
theorem dX3_fix_0 : decode cX3_fix 0 = .ok (.iconst 0, 1) := by decide +kernel
theorem dX3_fix_1 : decode cX3_fix 1 = .ok (.istore_n 1, 1) := by decide +kernel
theorem dX3_fix_2 : decode cX3_fix 2 = .ok (.iconst 0, 1) := by decide +kernel
theorem dX3_fix_3 : decode cX3_fix 3 = .ok (.istore_n 2, 1) := by decide +kernel
theorem dX3_fix_4 : decode cX3_fix 4 = .ok (.iload_n 2, 1) := by decide +kernel
theorem dX3_fix_5 : decode cX3_fix 5 = .ok (.aload_n 0, 1) := by decide +kernel
theorem dX3_fix_6 : decode cX3_fix 6 = .ok (.getfield 48, 3) := by decide +kernel
theorem dX3_fix_9 : decode cX3_fix 9 = .ok (.invokevirtual 75, 3) := by decide +kernel
theorem dX3_fix_12 : decode cX3_fix 12 = .ok (.if_icmp .ge 58, 3) := by decide +kernel
theorem dX3_fix_15 : decode cX3_fix 15 = .ok (.aload_n 0, 1) := by decide +kernel
theorem dX3_fix_16 : decode cX3_fix 16 = .ok (.getfield 48, 3) := by decide +kernel
theorem dX3_fix_19 : decode cX3_fix 19 = .ok (.iload_n 2, 1) := by decide +kernel
theorem dX3_fix_20 : decode cX3_fix 20 = .ok (.invokevirtual 78, 3) := by decide +kernel
theorem dX3_fix_23 : decode cX3_fix 23 = .ok (.istore_n 3, 1) := by decide +kernel
theorem dX3_fix_24 : decode cX3_fix 24 = .ok (.aload_n 0, 1) := by decide +kernel
theorem dX3_fix_25 : decode cX3_fix 25 = .ok (.iload_n 3, 1) := by decide +kernel
theorem dX3_fix_26 : decode cX3_fix 26 = .ok (.invokevirtual 81, 3) := by decide +kernel
theorem dX3_fix_29 : decode cX3_fix 29 = .ok (.ifCond .eq 35, 3) := by decide +kernel
theorem dX3_fix_32 : decode cX3_fix 32 = .ok (.aload_n 0, 1) := by decide +kernel
theorem dX3_fix_33 : decode cX3_fix 33 = .ok (.getfield 36, 3) := by decide +kernel
theorem dX3_fix_36 : decode cX3_fix 36 = .ok (.iload_n 3, 1) := by decide +kernel
theorem dX3_fix_37 : decode cX3_fix 37 = .ok (.iconst 1, 1) := by decide +kernel
theorem dX3_fix_38 : decode cX3_fix 38 = .ok (.invokevirtual 60, 3) := by decide +kernel
theorem dX3_fix_41 : decode cX3_fix 41 = .ok (.aload_n 0, 1) := by decide +kernel
theorem dX3_fix_42 : decode cX3_fix 42 = .ok (.getfield 12, 3) := by decide +kernel
theorem dX3_fix_45 : decode cX3_fix 45 = .ok (.aload_n 0, 1) := by decide +kernel
theorem dX3_fix_46 : decode cX3_fix 46 = .ok (.getfield 23, 3) := by decide +kernel
theorem dX3_fix_49 : decode cX3_fix 49 = .ok (.iload_n 3, 1) := by decide +kernel
theorem dX3_fix_50 : decode cX3_fix 50 = .ok (.invokevirtual 56, 3) := by decide +kernel
theorem dX3_fix_53 : decode cX3_fix 53 = .ok (.aload_n 0, 1) := by decide +kernel
theorem dX3_fix_54 : decode cX3_fix 54 = .ok (.iload_n 3, 1) := by decide +kernel
theorem dX3_fix_55 : decode cX3_fix 55 = .ok (.invokevirtual 85, 3) := by decide +kernel
theorem dX3_fix_58 : decode cX3_fix 58 = .ok (.invokevirtual 88, 3) := by decide +kernel
theorem dX3_fix_61 : decode cX3_fix 61 = .ok (.iinc 1 1, 3) := by decide +kernel
theorem dX3_fix_64 : decode cX3_fix 64 = .ok (.iinc 2 1, 3) := by decide +kernel
theorem dX3_fix_67 : decode cX3_fix 67 = .ok (.goto (-63), 3) := by decide +kernel
theorem dX3_fix_70 : decode cX3_fix 70 = .ok (.aload_n 0, 1) := by decide +kernel
theorem dX3_fix_71 : decode cX3_fix 71 = .ok (.invokevirtual 91, 3) := by decide +kernel
theorem dX3_fix_74 : decode cX3_fix 74 = .ok (.iload_n 1, 1) := by decide +kernel
theorem dX3_fix_75 : decode cX3_fix 75 = .ok (.ireturn, 1) := by decide +kernel
set_option maxRecDepth 20000 in
theorem ggX3_mayBeFixed_X5_isPlain : GoodIn wsX3_mayBeFixed wsX5_isPlain := goodIn_ca (goodIn_r _ [6, 7, 8, 9, 10, 11, 12, 13, 44, 45, 46, 47, 48, 49] (by decide +kernel) (by decide +kernel)) (goodIn_sub (fun _ h => List.mem_cons_of_mem _ (List.mem_append_right _ h)) (by decide +kernel))
set_option maxRecDepth 20000 in
theorem gX3_mayBeFixed_X5_isPlain : GoodIn wsX3_mayBeFixed (wsV RX3 94 RX5 yX5_isPlain wsX5_isPlain) := goodIn_app (goodIn_of _ (by decide +kernel)) ggX3_mayBeFixed_X5_isPlain
set_option maxRecDepth 20000 in
theorem ggX3_mayBeFixed_X3_isFixed : GoodIn wsX3_mayBeFixed wsX3_isFixed := goodIn_ca (goodIn_r _ [18, 19, 20, 9, 10, 11, 12, 13, 31, 32, 33, 34, 35, 36, 37, 38, 39, 40, 41, 42, 43, 49] (by decide +kernel) (by decide +kernel)) (goodIn_sub (fun _ h => List.mem_cons_of_mem _ (List.mem_append_right _ h)) (by decide +kernel))
set_option maxRecDepth 20000 in
theorem gX3_mayBeFixed_X3_isFixed : GoodIn wsX3_mayBeFixed (wsV RX3 97 RX3 yX3_isFixed wsX3_isFixed) := goodIn_app (goodIn_of _ (by decide +kernel)) ggX3_mayBeFixed_X3_isFixed
set_option maxRecDepth 20000 in
theorem ggX3_mayBeFixed_X3_letters : GoodIn wsX3_mayBeFixed wsX3_letters := goodIn_ca (goodIn_r _ [24, 25, 20, 9, 10, 11, 12, 13, 31, 32, 33, 34, 35, 36, 37, 38, 39, 40, 41, 42, 43, 49] (by decide +kernel) (by decide +kernel)) (goodIn_sub (fun _ h => List.mem_cons_of_mem _ (List.mem_append_right _ h)) (by decide +kernel))
set_option maxRecDepth 20000 in
theorem gX3_mayBeFixed_X3_letters : GoodIn wsX3_mayBeFixed (wsV RX3 100 RX3 yX3_letters wsX3_letters) := goodIn_app (goodIn_of _ (by decide +kernel)) ggX3_mayBeFixed_X3_letters
set_option maxRecDepth 20000 in
theorem ggX3_mayBeFixed_X5_parent : GoodIn wsX3_mayBeFixed wsX5_parent := goodIn_ca (goodIn_r _ [29, 30, 8, 9, 10, 11, 12, 13, 44, 45, 46, 47, 48, 49] (by decide +kernel) (by decide +kernel)) (goodIn_sub (fun _ h => List.mem_cons_of_mem _ (List.mem_append_right _ h)) (by decide +kernel))
set_option maxRecDepth 20000 in
theorem gX3_mayBeFixed_X5_parent : GoodIn wsX3_mayBeFixed (wsV RX3 103 RX5 yX5_parent wsX5_parent) := goodIn_app (goodIn_of _ (by decide +kernel)) ggX3_mayBeFixed_X5_parent
theorem dX3_mayBeFixed_0 : decode cX3_mayBeFixed 0 = .ok (.aload_n 0, 1) := by decide +kernel
theorem dX3_mayBeFixed_1 : decode cX3_mayBeFixed 1 = .ok (.getfield 48, 3) := by decide +kernel
theorem dX3_mayBeFixed_4 : decode cX3_mayBeFixed 4 = .ok (.iload_n 1, 1) := by decide +kernel
theorem dX3_mayBeFixed_5 : decode cX3_mayBeFixed 5 = .ok (.invokevirtual 94, 3) := by decide +kernel
theorem dX3_mayBeFixed_8 : decode cX3_mayBeFixed 8 = .ok (.ifCond .ne 19, 3) := by decide +kernel
theorem dX3_mayBeFixed_11 : decode cX3_mayBeFixed 11 = .ok (.aload_n 0, 1) := by decide +kernel
theorem dX3_mayBeFixed_12 : decode cX3_mayBeFixed 12 = .ok (.iload_n 1, 1) := by decide +kernel
theorem dX3_mayBeFixed_13 : decode cX3_mayBeFixed 13 = .ok (.invokevirtual 97, 3) := by decide +kernel
theorem dX3_mayBeFixed_16 : decode cX3_mayBeFixed 16 = .ok (.ifCond .ne 11, 3) := by decide +kernel
theorem dX3_mayBeFixed_19 : decode cX3_mayBeFixed 19 = .ok (.aload_n 0, 1) := by decide +kernel
theorem dX3_mayBeFixed_20 : decode cX3_mayBeFixed 20 = .ok (.iload_n 1, 1) := by decide +kernel
theorem dX3_mayBeFixed_21 : decode cX3_mayBeFixed 21 = .ok (.invokevirtual 100, 3) := by decide +kernel
theorem dX3_mayBeFixed_24 : decode cX3_mayBeFixed 24 = .ok (.ifCond .eq 5, 3) := by decide +kernel
theorem dX3_mayBeFixed_27 : decode cX3_mayBeFixed 27 = .ok (.iconst 0, 1) := by decide +kernel
theorem dX3_mayBeFixed_28 : decode cX3_mayBeFixed 28 = .ok (.ireturn, 1) := by decide +kernel
theorem dX3_mayBeFixed_29 : decode cX3_mayBeFixed 29 = .ok (.aload_n 0, 1) := by decide +kernel
theorem dX3_mayBeFixed_30 : decode cX3_mayBeFixed 30 = .ok (.getfield 48, 3) := by decide +kernel
theorem dX3_mayBeFixed_33 : decode cX3_mayBeFixed 33 = .ok (.iload_n 1, 1) := by decide +kernel
theorem dX3_mayBeFixed_34 : decode cX3_mayBeFixed 34 = .ok (.invokevirtual 103, 3) := by decide +kernel
theorem dX3_mayBeFixed_37 : decode cX3_mayBeFixed 37 = .ok (.istore_n 2, 1) := by decide +kernel
theorem dX3_mayBeFixed_38 : decode cX3_mayBeFixed 38 = .ok (.iload_n 2, 1) := by decide +kernel
theorem dX3_mayBeFixed_39 : decode cX3_mayBeFixed 39 = .ok (.iconst (-1), 1) := by decide +kernel
theorem dX3_mayBeFixed_40 : decode cX3_mayBeFixed 40 = .ok (.if_icmp .eq 11, 3) := by decide +kernel
theorem dX3_mayBeFixed_43 : decode cX3_mayBeFixed 43 = .ok (.aload_n 0, 1) := by decide +kernel
theorem dX3_mayBeFixed_44 : decode cX3_mayBeFixed 44 = .ok (.iload_n 2, 1) := by decide +kernel
theorem dX3_mayBeFixed_45 : decode cX3_mayBeFixed 45 = .ok (.invokevirtual 97, 3) := by decide +kernel
theorem dX3_mayBeFixed_48 : decode cX3_mayBeFixed 48 = .ok (.ifCond .eq 7, 3) := by decide +kernel
theorem dX3_mayBeFixed_51 : decode cX3_mayBeFixed 51 = .ok (.iconst 1, 1) := by decide +kernel
theorem dX3_mayBeFixed_52 : decode cX3_mayBeFixed 52 = .ok (.goto 4, 3) := by decide +kernel
theorem dX3_mayBeFixed_55 : decode cX3_mayBeFixed 55 = .ok (.iconst 0, 1) := by decide +kernel
theorem dX3_mayBeFixed_56 : decode cX3_mayBeFixed 56 = .ok (.ireturn, 1) := by decide +kernel
set_option maxRecDepth 20000 in
theorem ggX3_renumber_X3_findGroups : GoodIn wsX3_renumber wsX3_findGroups := goodIn_ca (goodIn_r _ [6, 1, 7, 8, 9, 10, 11, 12, 13, 14, 15, 16, 17, 18, 19, 20, 21, 22, 23, 24, 25, 26, 27, 28, 29, 30, 31, 32, 33, 34, 35, 36, 37, 38, 39, 40, 41, 42, 43, 44, 45, 46, 121, 122, 123, 124, 125, 126, 127, 128, 129, 130, 131, 132, 133, 134, 135, 136, 137, 138, 139, 140, 141, 142, 143] (by decide +kernel) (by decide +kernel)) (goodIn_sub (fun _ h => List.mem_cons_of_mem _ (List.mem_append_right _ h)) (by decide +kernel))
set_option maxRecDepth 20000 in
theorem gX3_renumber_X3_findGroups : GoodIn wsX3_renumber (wsV RX3 106 RX3 yX3_findGroups wsX3_findGroups) := goodIn_app (goodIn_of _ (by decide +kernel)) ggX3_renumber_X3_findGroups
set_option maxRecDepth 20000 in
theorem ggX3_renumber_X5_amount : GoodIn wsX3_renumber wsX5_amount := goodIn_r _ [13, 14, 134, 135, 136, 137, 138] (by decide +kernel) (by decide +kernel)
set_option maxRecDepth 20000 in
theorem gX3_renumber_X5_amount : GoodIn wsX3_renumber (wsV RX3 75 RX5 yX5_amount wsX5_amount) := goodIn_app (goodIn_of _ (by decide +kernel)) ggX3_renumber_X5_amount
set_option maxRecDepth 20000 in
theorem ggX3_renumber_X5_nameAt : GoodIn wsX3_renumber wsX5_nameAt := goodIn_ca (goodIn_r _ [18, 19, 20, 21, 22, 23, 24, 25, 134, 135, 136, 137, 138, 139] (by decide +kernel) (by decide +kernel)) (goodIn_sub (fun _ h => List.mem_cons_of_mem _ (List.mem_append_right _ h)) (by decide +kernel))
set_option maxRecDepth 20000 in
theorem gX3_renumber_X5_nameAt : GoodIn wsX3_renumber (wsV RX3 78 RX5 yX5_nameAt wsX5_nameAt) := goodIn_app (goodIn_of _ (by decide +kernel)) ggX3_renumber_X5_nameAt
set_option maxRecDepth 20000 in
theorem ggX3_renumber_X5_isPlain : GoodIn wsX3_renumber wsX5_isPlain := goodIn_ca (goodIn_r _ [50, 30, 20, 21, 22, 23, 24, 25, 134, 135, 136, 137, 138, 139] (by decide +kernel) (by decide +kernel)) (goodIn_sub (fun _ h => List.mem_cons_of_mem _ (List.mem_append_right _ h)) (by decide +kernel))
set_option maxRecDepth 20000 in
theorem gX3_renumber_X5_isPlain : GoodIn wsX3_renumber (wsV RX3 94 RX5 yX5_isPlain wsX5_isPlain) := goodIn_app (goodIn_of _ (by decide +kernel)) ggX3_renumber_X5_isPlain
set_option maxRecDepth 20000 in
theorem ggX3_renumber_X3_isFixed : GoodIn wsX3_renumber wsX3_isFixed := goodIn_ca (goodIn_r _ [54, 55, 56, 21, 22, 23, 24, 25, 121, 122, 123, 124, 125, 126, 127, 128, 129, 130, 131, 132, 133, 139] (by decide +kernel) (by decide +kernel)) (goodIn_sub (fun _ h => List.mem_cons_of_mem _ (List.mem_append_right _ h)) (by decide +kernel))
set_option maxRecDepth 20000 in
theorem gX3_renumber_X3_isFixed : GoodIn wsX3_renumber (wsV RX3 97 RX3 yX3_isFixed wsX3_isFixed) := goodIn_app (goodIn_of _ (by decide +kernel)) ggX3_renumber_X3_isFixed
set_option maxRecDepth 20000 in
theorem ggX3_renumber_X3_settle : GoodIn wsX3_renumber wsX3_settle := goodIn_ca (goodIn_r _ [60, 61, 62, 63, 64, 65, 66, 5, 67, 1, 8, 68, 69, 70, 12, 71, 72, 20, 21, 22, 23, 24, 25, 15, 16, 17, 18, 19, 56, 51, 52, 53, 54, 55, 73, 74, 75, 76, 9, 10, 11, 13, 14, 77, 78, 79, 80, 81, 82, 83, 84, 85, 86, 87, 88, 7, 89, 90, 91, 92, 93, 94, 95, 96, 97, 98, 99, 26, 27, 28, 29, 30, 100, 101, 102, 34, 103, 104, 105, 106, 107, 37, 108, 109, 110, 111, 112, 113, 114, 115, 116, 43, 44, 45, 46, 117, 118, 119, 120, 121, 122, 123, 124, 125, 126, 127, 128, 129, 130, 131, 132, 133, 134, 135, 136, 137, 138, 139, 140, 141, 142, 143, 144, 145, 146] (by decide +kernel) (by decide +kernel)) (goodIn_sub (fun _ h => List.mem_cons_of_mem _ (List.mem_append_right _ h)) (by decide +kernel))
set_option maxRecDepth 20000 in
theorem gX3_renumber_X3_settle : GoodIn wsX3_renumber (wsV RX3 109 RX3 yX3_settle wsX3_settle) := goodIn_app (goodIn_of _ (by decide +kernel)) ggX3_renumber_X3_settle
theorem dX3_renumber_0 : decode cX3_renumber 0 = .ok (.aload_n 0, 1) := by decide +kernel
theorem dX3_renumber_1 : decode cX3_renumber 1 = .ok (.invokevirtual 106, 3) := by decide +kernel
theorem dX3_renumber_4 : decode cX3_renumber 4 = .ok (.iconst 0, 1) := by decide +kernel
theorem dX3_renumber_5 : decode cX3_renumber 5 = .ok (.istore_n 1, 1) := by decide +kernel
theorem dX3_renumber_6 : decode cX3_renumber 6 = .ok (.iload_n 1, 1) := by decide +kernel
theorem dX3_renumber_7 : decode cX3_renumber 7 = .ok (.aload_n 0, 1) := by decide +kernel
theorem dX3_renumber_8 : decode cX3_renumber 8 = .ok (.getfield 48, 3) := by decide +kernel
theorem dX3_renumber_11 : decode cX3_renumber 11 = .ok (.invokevirtual 75, 3) := by decide +kernel
theorem dX3_renumber_14 : decode cX3_renumber 14 = .ok (.if_icmp .ge 42, 3) := by decide +kernel
theorem dX3_renumber_17 : decode cX3_renumber 17 = .ok (.aload_n 0, 1) := by decide +kernel
theorem dX3_renumber_18 : decode cX3_renumber 18 = .ok (.getfield 48, 3) := by decide +kernel
theorem dX3_renumber_21 : decode cX3_renumber 21 = .ok (.iload_n 1, 1) := by decide +kernel
theorem dX3_renumber_22 : decode cX3_renumber 22 = .ok (.invokevirtual 78, 3) := by decide +kernel
theorem dX3_renumber_25 : decode cX3_renumber 25 = .ok (.istore_n 2, 1) := by decide +kernel
theorem dX3_renumber_26 : decode cX3_renumber 26 = .ok (.aload_n 0, 1) := by decide +kernel
theorem dX3_renumber_27 : decode cX3_renumber 27 = .ok (.getfield 48, 3) := by decide +kernel
theorem dX3_renumber_30 : decode cX3_renumber 30 = .ok (.iload_n 2, 1) := by decide +kernel
theorem dX3_renumber_31 : decode cX3_renumber 31 = .ok (.invokevirtual 94, 3) := by decide +kernel
theorem dX3_renumber_34 : decode cX3_renumber 34 = .ok (.ifCond .ne 16, 3) := by decide +kernel
theorem dX3_renumber_37 : decode cX3_renumber 37 = .ok (.aload_n 0, 1) := by decide +kernel
theorem dX3_renumber_38 : decode cX3_renumber 38 = .ok (.iload_n 2, 1) := by decide +kernel
theorem dX3_renumber_39 : decode cX3_renumber 39 = .ok (.invokevirtual 97, 3) := by decide +kernel
theorem dX3_renumber_42 : decode cX3_renumber 42 = .ok (.ifCond .ne 8, 3) := by decide +kernel
theorem dX3_renumber_45 : decode cX3_renumber 45 = .ok (.aload_n 0, 1) := by decide +kernel
theorem dX3_renumber_46 : decode cX3_renumber 46 = .ok (.iload_n 2, 1) := by decide +kernel
theorem dX3_renumber_47 : decode cX3_renumber 47 = .ok (.invokevirtual 109, 3) := by decide +kernel
theorem dX3_renumber_50 : decode cX3_renumber 50 = .ok (.iinc 1 1, 3) := by decide +kernel
theorem dX3_renumber_53 : decode cX3_renumber 53 = .ok (.goto (-47), 3) := by decide +kernel
theorem dX3_renumber_56 : decode cX3_renumber 56 = .ok (.return_, 1) := by decide +kernel
set_option maxRecDepth 20000 in
theorem ggX3_findGroups_X5_amount : GoodIn wsX3_findGroups wsX5_amount := goodIn_r _ [8, 9, 55, 56, 57, 58, 59] (by decide +kernel) (by decide +kernel)
set_option maxRecDepth 20000 in
theorem gX3_findGroups_X5_amount : GoodIn wsX3_findGroups (wsV RX3 75 RX5 yX5_amount wsX5_amount) := goodIn_app (goodIn_of _ (by decide +kernel)) ggX3_findGroups_X5_amount
set_option maxRecDepth 20000 in
theorem ggX3_findGroups_X5_nameAt : GoodIn wsX3_findGroups wsX5_nameAt := goodIn_ca (goodIn_r _ [13, 14, 15, 16, 17, 18, 19, 20, 55, 56, 57, 58, 59, 60] (by decide +kernel) (by decide +kernel)) (goodIn_sub (fun _ h => List.mem_cons_of_mem _ (List.mem_append_right _ h)) (by decide +kernel))
set_option maxRecDepth 20000 in
theorem gX3_findGroups_X5_nameAt : GoodIn wsX3_findGroups (wsV RX3 78 RX5 yX5_nameAt wsX5_nameAt) := goodIn_app (goodIn_of _ (by decide +kernel)) ggX3_findGroups_X5_nameAt
set_option maxRecDepth 20000 in
theorem ggX3_findGroups_X5_level : GoodIn wsX3_findGroups wsX5_level := goodIn_ca (goodIn_r _ [24, 25, 15, 16, 17, 18, 19, 20, 55, 56, 57, 58, 59, 60] (by decide +kernel) (by decide +kernel)) (goodIn_sub (fun _ h => List.mem_cons_of_mem _ (List.mem_append_right _ h)) (by decide +kernel))
set_option maxRecDepth 20000 in
theorem gX3_findGroups_X5_level : GoodIn wsX3_findGroups (wsV RX3 112 RX5 yX5_level wsX5_level) := goodIn_app (goodIn_of _ (by decide +kernel)) ggX3_findGroups_X5_level
set_option maxRecDepth 20000 in
theorem ggX3_findGroups_X1_goesOn : GoodIn wsX3_findGroups wsX1_goesOn := goodIn_ca (goodIn_r _ [30, 31, 32, 16, 17, 18, 19, 20, 61, 62, 63, 64, 60] (by decide +kernel) (by decide +kernel)) (goodIn_sub (fun _ h => List.mem_cons_of_mem _ (List.mem_append_right _ h)) (by decide +kernel))
set_option maxRecDepth 20000 in
theorem gX3_findGroups_X1_goesOn : GoodIn wsX3_findGroups (wsV RX3 115 RX1 yX1_goesOn wsX1_goesOn) := goodIn_app (goodIn_of _ (by decide +kernel)) ggX3_findGroups_X1_goesOn
set_option maxRecDepth 20000 in
theorem ggX3_findGroups_X5_parent : GoodIn wsX3_findGroups wsX5_parent := goodIn_ca (goodIn_r _ [36, 37, 15, 16, 17, 18, 19, 20, 55, 56, 57, 58, 59, 60] (by decide +kernel) (by decide +kernel)) (goodIn_sub (fun _ h => List.mem_cons_of_mem _ (List.mem_append_right _ h)) (by decide +kernel))
set_option maxRecDepth 20000 in
theorem gX3_findGroups_X5_parent : GoodIn wsX3_findGroups (wsV RX3 103 RX5 yX5_parent wsX5_parent) := goodIn_app (goodIn_of _ (by decide +kernel)) ggX3_findGroups_X5_parent
set_option maxRecDepth 20000 in
theorem ggX3_findGroups_X4_put : GoodIn wsX3_findGroups wsX4_put := goodIn_ca (goodIn_r _ [41, 20, 60] (by decide +kernel) (by decide +kernel)) (goodIn_sub (fun _ h => List.mem_cons_of_mem _ (List.mem_append_right _ h)) (by decide +kernel))
set_option maxRecDepth 20000 in
theorem gX3_findGroups_X4_put : GoodIn wsX3_findGroups (wsV RX3 60 RX4 yX4_put wsX4_put) := goodIn_app (goodIn_of _ (by decide +kernel)) ggX3_findGroups_X4_put
theorem dX3_findGroups_0 : decode cX3_findGroups 0 = .ok (.iconst 0, 1) := by decide +kernel
theorem dX3_findGroups_1 : decode cX3_findGroups 1 = .ok (.istore_n 1, 1) := by decide +kernel
theorem dX3_findGroups_2 : decode cX3_findGroups 2 = .ok (.iload_n 1, 1) := by decide +kernel
theorem dX3_findGroups_3 : decode cX3_findGroups 3 = .ok (.aload_n 0, 1) := by decide +kernel
theorem dX3_findGroups_4 : decode cX3_findGroups 4 = .ok (.getfield 48, 3) := by decide +kernel
theorem dX3_findGroups_7 : decode cX3_findGroups 7 = .ok (.invokevirtual 75, 3) := by decide +kernel
theorem dX3_findGroups_10 : decode cX3_findGroups 10 = .ok (.if_icmp .ge 69, 3) := by decide +kernel
theorem dX3_findGroups_13 : decode cX3_findGroups 13 = .ok (.aload_n 0, 1) := by decide +kernel
theorem dX3_findGroups_14 : decode cX3_findGroups 14 = .ok (.getfield 48, 3) := by decide +kernel
theorem dX3_findGroups_17 : decode cX3_findGroups 17 = .ok (.iload_n 1, 1) := by decide +kernel
theorem dX3_findGroups_18 : decode cX3_findGroups 18 = .ok (.invokevirtual 78, 3) := by decide +kernel
theorem dX3_findGroups_21 : decode cX3_findGroups 21 = .ok (.istore_n 2, 1) := by decide +kernel
theorem dX3_findGroups_22 : decode cX3_findGroups 22 = .ok (.aload_n 0, 1) := by decide +kernel
theorem dX3_findGroups_23 : decode cX3_findGroups 23 = .ok (.getfield 48, 3) := by decide +kernel
theorem dX3_findGroups_26 : decode cX3_findGroups 26 = .ok (.iload_n 2, 1) := by decide +kernel
theorem dX3_findGroups_27 : decode cX3_findGroups 27 = .ok (.invokevirtual 112, 3) := by decide +kernel
theorem dX3_findGroups_30 : decode cX3_findGroups 30 = .ok (.istore_n 3, 1) := by decide +kernel
theorem dX3_findGroups_31 : decode cX3_findGroups 31 = .ok (.aload_n 0, 1) := by decide +kernel
theorem dX3_findGroups_32 : decode cX3_findGroups 32 = .ok (.getfield 52, 3) := by decide +kernel
theorem dX3_findGroups_35 : decode cX3_findGroups 35 = .ok (.iload_n 3, 1) := by decide +kernel
theorem dX3_findGroups_36 : decode cX3_findGroups 36 = .ok (.invokevirtual 115, 3) := by decide +kernel
theorem dX3_findGroups_39 : decode cX3_findGroups 39 = .ok (.ifCond .eq 7, 3) := by decide +kernel
theorem dX3_findGroups_42 : decode cX3_findGroups 42 = .ok (.iconst 0, 1) := by decide +kernel
theorem dX3_findGroups_43 : decode cX3_findGroups 43 = .ok (.goto 13, 3) := by decide +kernel
theorem dX3_findGroups_46 : decode cX3_findGroups 46 = .ok (.aload_n 0, 1) := by decide +kernel
theorem dX3_findGroups_47 : decode cX3_findGroups 47 = .ok (.getfield 48, 3) := by decide +kernel
theorem dX3_findGroups_50 : decode cX3_findGroups 50 = .ok (.iload_n 2, 1) := by decide +kernel
theorem dX3_findGroups_51 : decode cX3_findGroups 51 = .ok (.invokevirtual 103, 3) := by decide +kernel
theorem dX3_findGroups_54 : decode cX3_findGroups 54 = .ok (.iconst 2, 1) := by decide +kernel
theorem dX3_findGroups_55 : decode cX3_findGroups 55 = .ok (.iadd, 1) := by decide +kernel
theorem dX3_findGroups_56 : decode cX3_findGroups 56 = .ok (.istore 4, 2) := by decide +kernel
theorem dX3_findGroups_58 : decode cX3_findGroups 58 = .ok (.aload_n 0, 1) := by decide +kernel
theorem dX3_findGroups_59 : decode cX3_findGroups 59 = .ok (.getfield 23, 3) := by decide +kernel
theorem dX3_findGroups_62 : decode cX3_findGroups 62 = .ok (.iload_n 2, 1) := by decide +kernel
theorem dX3_findGroups_63 : decode cX3_findGroups 63 = .ok (.iload_n 3, 1) := by decide +kernel
theorem dX3_findGroups_64 : decode cX3_findGroups 64 = .ok (.bipush 62, 2) := by decide +kernel
theorem dX3_findGroups_66 : decode cX3_findGroups 66 = .ok (.imul, 1) := by decide +kernel
theorem dX3_findGroups_67 : decode cX3_findGroups 67 = .ok (.iload 4, 2) := by decide +kernel
theorem dX3_findGroups_69 : decode cX3_findGroups 69 = .ok (.iadd, 1) := by decide +kernel
theorem dX3_findGroups_70 : decode cX3_findGroups 70 = .ok (.invokevirtual 60, 3) := by decide +kernel
theorem dX3_findGroups_73 : decode cX3_findGroups 73 = .ok (.iinc 1 1, 3) := by decide +kernel
theorem dX3_findGroups_76 : decode cX3_findGroups 76 = .ok (.goto (-74), 3) := by decide +kernel
theorem dX3_findGroups_79 : decode cX3_findGroups 79 = .ok (.return_, 1) := by decide +kernel
set_option maxRecDepth 20000 in
theorem ggX3_settle_X3_nameAhead : GoodIn wsX3_settle wsX3_nameAhead := goodIn_ca (goodIn_r _ [8, 9, 10, 11, 12, 13, 14, 15, 16, 17, 18, 19, 20, 21, 22, 23, 24, 25, 26, 27, 28, 99, 100, 101, 102, 103, 104, 105, 106, 107, 108, 109, 110, 111, 112, 113, 114, 115, 116, 117] (by decide +kernel) (by decide +kernel)) (goodIn_sub (fun _ h => List.mem_cons_of_mem _ (List.mem_append_right _ h)) (by decide +kernel))
set_option maxRecDepth 20000 in
theorem gX3_settle_X3_nameAhead : GoodIn wsX3_settle (wsV RX3 120 RX3 yX3_nameAhead wsX3_nameAhead) := goodIn_app (goodIn_of _ (by decide +kernel)) ggX3_settle_X3_nameAhead
set_option maxRecDepth 20000 in
theorem ggX3_settle_X3_isFixed : GoodIn wsX3_settle wsX3_isFixed := goodIn_ca (goodIn_r _ [32, 33, 28, 18, 19, 20, 21, 22, 99, 100, 101, 102, 103, 104, 105, 106, 107, 108, 109, 110, 111, 117] (by decide +kernel) (by decide +kernel)) (goodIn_sub (fun _ h => List.mem_cons_of_mem _ (List.mem_append_right _ h)) (by decide +kernel))
set_option maxRecDepth 20000 in
theorem gX3_settle_X3_isFixed : GoodIn wsX3_settle (wsV RX3 97 RX3 yX3_isFixed wsX3_isFixed) := goodIn_app (goodIn_of _ (by decide +kernel)) ggX3_settle_X3_isFixed
set_option maxRecDepth 20000 in
theorem ggX3_settle_X4_at : GoodIn wsX3_settle wsX4_at := goodIn_ca (goodIn_r _ [21, 22, 117] (by decide +kernel) (by decide +kernel)) (goodIn_sub (fun _ h => List.mem_cons_of_mem _ (List.mem_append_right _ h)) (by decide +kernel))
set_option maxRecDepth 20000 in
theorem gX3_settle_X4_at : GoodIn wsX3_settle (wsV RX3 56 RX4 yX4_at wsX4_at) := goodIn_app (goodIn_of _ (by decide +kernel)) ggX3_settle_X4_at
set_option maxRecDepth 20000 in
theorem ggX3_settle_X3_limitBehind : GoodIn wsX3_settle wsX3_limitBehind := goodIn_ca (goodIn_r _ [37, 9, 10, 11, 12, 13, 14, 15, 16, 17, 18, 19, 20, 21, 22, 38, 39, 40, 41, 42, 23, 24, 25, 26, 27, 29, 30, 31, 7, 32, 33, 28, 43, 44, 45, 46, 3, 99, 100, 101, 102, 103, 104, 105, 106, 107, 108, 109, 110, 111, 112, 113, 114, 115, 116, 117] (by decide +kernel) (by decide +kernel)) (goodIn_sub (fun _ h => List.mem_cons_of_mem _ (List.mem_append_right _ h)) (by decide +kernel))
set_option maxRecDepth 20000 in
theorem gX3_settle_X3_limitBehind : GoodIn wsX3_settle (wsV RX3 123 RX3 yX3_limitBehind wsX3_limitBehind) := goodIn_app (goodIn_of _ (by decide +kernel)) ggX3_settle_X3_limitBehind
set_option maxRecDepth 20000 in
theorem ggX3_settle_X3_number : GoodIn wsX3_settle wsX3_number := goodIn_ca (goodIn_r _ [46, 3, 28, 18, 19, 20, 21, 22, 99, 100, 101, 102, 103, 104, 105, 106, 107, 108, 109, 110, 111, 117] (by decide +kernel) (by decide +kernel)) (goodIn_sub (fun _ h => List.mem_cons_of_mem _ (List.mem_append_right _ h)) (by decide +kernel))
set_option maxRecDepth 20000 in
theorem gX3_settle_X3_number : GoodIn wsX3_settle (wsV RX3 85 RX3 yX3_number wsX3_number) := goodIn_app (goodIn_of _ (by decide +kernel)) ggX3_settle_X3_number
set_option maxRecDepth 20000 in
theorem ggX3_settle_X3_numberBehind : GoodIn wsX3_settle wsX3_numberBehind := goodIn_ca (goodIn_r _ [50, 51, 52, 53, 54, 9, 10, 55, 56, 57, 58, 59, 7, 60, 61, 28, 18, 19, 20, 21, 22, 62, 63, 64, 65, 66, 67, 68, 69, 14, 70, 71, 17, 72, 73, 74, 75, 76, 77, 78, 79, 80, 81, 82, 83, 84, 85, 86, 87, 88, 89, 90, 99, 100, 101, 102, 103, 104, 105, 106, 107, 108, 109, 110, 111, 117, 112, 113, 114, 115, 116, 118, 119, 120, 121, 122, 123, 124] (by decide +kernel) (by decide +kernel)) (goodIn_sub (fun _ h => List.mem_cons_of_mem _ (List.mem_append_right _ h)) (by decide +kernel))
set_option maxRecDepth 20000 in
theorem gX3_settle_X3_numberBehind : GoodIn wsX3_settle (wsV RX3 126 RX3 yX3_numberBehind wsX3_numberBehind) := goodIn_app (goodIn_of _ (by decide +kernel)) ggX3_settle_X3_numberBehind
set_option maxRecDepth 20000 in
theorem ggX3_settle_X4_put : GoodIn wsX3_settle wsX4_put := goodIn_ca (goodIn_r _ [94, 22, 117] (by decide +kernel) (by decide +kernel)) (goodIn_sub (fun _ h => List.mem_cons_of_mem _ (List.mem_append_right _ h)) (by decide +kernel))
set_option maxRecDepth 20000 in
theorem gX3_settle_X4_put : GoodIn wsX3_settle (wsV RX3 60 RX4 yX4_put wsX4_put) := goodIn_app (goodIn_of _ (by decide +kernel)) ggX3_settle_X4_put
set_option maxRecDepth 20000 in
theorem ggX3_settle_X3_letters : GoodIn wsX3_settle wsX3_letters := goodIn_ca (goodIn_r _ [98, 2, 28, 18, 19, 20, 21, 22, 99, 100, 101, 102, 103, 104, 105, 106, 107, 108, 109, 110, 111, 117] (by decide +kernel) (by decide +kernel)) (goodIn_sub (fun _ h => List.mem_cons_of_mem _ (List.mem_append_right _ h)) (by decide +kernel))
set_option maxRecDepth 20000 in
theorem gX3_settle_X3_letters : GoodIn wsX3_settle (wsV RX3 100 RX3 yX3_letters wsX3_letters) := goodIn_app (goodIn_of _ (by decide +kernel)) ggX3_settle_X3_letters
theorem dX3_settle_0 : decode cX3_settle 0 = .ok (.aload_n 0, 1) := by decide +kernel
theorem dX3_settle_1 : decode cX3_settle 1 = .ok (.iload_n 1, 1) := by decide +kernel
theorem dX3_settle_2 : decode cX3_settle 2 = .ok (.invokevirtual 120, 3) := by decide +kernel
theorem dX3_settle_5 : decode cX3_settle 5 = .ok (.istore_n 2, 1) := by decide +kernel
theorem dX3_settle_6 : decode cX3_settle 6 = .ok (.iload_n 2, 1) := by decide +kernel
theorem dX3_settle_7 : decode cX3_settle 7 = .ok (.iconst (-1), 1) := by decide +kernel
theorem dX3_settle_8 : decode cX3_settle 8 = .ok (.if_icmp .eq 15, 3) := by decide +kernel
theorem dX3_settle_11 : decode cX3_settle 11 = .ok (.aload_n 0, 1) := by decide +kernel
theorem dX3_settle_12 : decode cX3_settle 12 = .ok (.iload_n 2, 1) := by decide +kernel
theorem dX3_settle_13 : decode cX3_settle 13 = .ok (.invokevirtual 97, 3) := by decide +kernel
theorem dX3_settle_16 : decode cX3_settle 16 = .ok (.ifCond .ne 7, 3) := by decide +kernel
theorem dX3_settle_19 : decode cX3_settle 19 = .ok (.iconst 1, 1) := by decide +kernel
theorem dX3_settle_20 : decode cX3_settle 20 = .ok (.goto 4, 3) := by decide +kernel
theorem dX3_settle_23 : decode cX3_settle 23 = .ok (.iconst 0, 1) := by decide +kernel
theorem dX3_settle_24 : decode cX3_settle 24 = .ok (.istore_n 3, 1) := by decide +kernel
theorem dX3_settle_25 : decode cX3_settle 25 = .ok (.iload_n 3, 1) := by decide +kernel
theorem dX3_settle_26 : decode cX3_settle 26 = .ok (.ifCond .eq 14, 3) := by decide +kernel
theorem dX3_settle_29 : decode cX3_settle 29 = .ok (.aload_n 0, 1) := by decide +kernel
theorem dX3_settle_30 : decode cX3_settle 30 = .ok (.getfield 33, 3) := by decide +kernel
theorem dX3_settle_33 : decode cX3_settle 33 = .ok (.iload_n 2, 1) := by decide +kernel
theorem dX3_settle_34 : decode cX3_settle 34 = .ok (.invokevirtual 56, 3) := by decide +kernel
theorem dX3_settle_37 : decode cX3_settle 37 = .ok (.goto 8, 3) := by decide +kernel
theorem dX3_settle_40 : decode cX3_settle 40 = .ok (.aload_n 0, 1) := by decide +kernel
theorem dX3_settle_41 : decode cX3_settle 41 = .ok (.iload_n 1, 1) := by decide +kernel
theorem dX3_settle_42 : decode cX3_settle 42 = .ok (.invokevirtual 123, 3) := by decide +kernel
theorem dX3_settle_45 : decode cX3_settle 45 = .ok (.istore 4, 2) := by decide +kernel
theorem dX3_settle_47 : decode cX3_settle 47 = .ok (.aload_n 0, 1) := by decide +kernel
theorem dX3_settle_48 : decode cX3_settle 48 = .ok (.iload_n 2, 1) := by decide +kernel
theorem dX3_settle_49 : decode cX3_settle 49 = .ok (.aload_n 0, 1) := by decide +kernel
theorem dX3_settle_50 : decode cX3_settle 50 = .ok (.iload_n 2, 1) := by decide +kernel
theorem dX3_settle_51 : decode cX3_settle 51 = .ok (.invokevirtual 85, 3) := by decide +kernel
theorem dX3_settle_54 : decode cX3_settle 54 = .ok (.iload_n 1, 1) := by decide +kernel
theorem dX3_settle_55 : decode cX3_settle 55 = .ok (.iload 4, 2) := by decide +kernel
theorem dX3_settle_57 : decode cX3_settle 57 = .ok (.invokevirtual 126, 3) := by decide +kernel
theorem dX3_settle_60 : decode cX3_settle 60 = .ok (.istore 5, 2) := by decide +kernel
theorem dX3_settle_62 : decode cX3_settle 62 = .ok (.aload_n 0, 1) := by decide +kernel
theorem dX3_settle_63 : decode cX3_settle 63 = .ok (.getfield 33, 3) := by decide +kernel
theorem dX3_settle_66 : decode cX3_settle 66 = .ok (.iload_n 1, 1) := by decide +kernel
theorem dX3_settle_67 : decode cX3_settle 67 = .ok (.iload 4, 2) := by decide +kernel
theorem dX3_settle_69 : decode cX3_settle 69 = .ok (.invokevirtual 60, 3) := by decide +kernel
theorem dX3_settle_72 : decode cX3_settle 72 = .ok (.aload_n 0, 1) := by decide +kernel
theorem dX3_settle_73 : decode cX3_settle 73 = .ok (.getfield 30, 3) := by decide +kernel
theorem dX3_settle_76 : decode cX3_settle 76 = .ok (.iload_n 1, 1) := by decide +kernel
theorem dX3_settle_77 : decode cX3_settle 77 = .ok (.iload 5, 2) := by decide +kernel
theorem dX3_settle_79 : decode cX3_settle 79 = .ok (.aload_n 0, 1) := by decide +kernel
theorem dX3_settle_80 : decode cX3_settle 80 = .ok (.iload_n 2, 1) := by decide +kernel
theorem dX3_settle_81 : decode cX3_settle 81 = .ok (.invokevirtual 85, 3) := by decide +kernel
theorem dX3_settle_84 : decode cX3_settle 84 = .ok (.if_icmp .ne 13, 3) := by decide +kernel
theorem dX3_settle_87 : decode cX3_settle 87 = .ok (.aload_n 0, 1) := by decide +kernel
theorem dX3_settle_88 : decode cX3_settle 88 = .ok (.iload_n 2, 1) := by decide +kernel
theorem dX3_settle_89 : decode cX3_settle 89 = .ok (.invokevirtual 100, 3) := by decide +kernel
theorem dX3_settle_92 : decode cX3_settle 92 = .ok (.iconst 1, 1) := by decide +kernel
theorem dX3_settle_93 : decode cX3_settle 93 = .ok (.iadd, 1) := by decide +kernel
theorem dX3_settle_94 : decode cX3_settle 94 = .ok (.goto 4, 3) := by decide +kernel
theorem dX3_settle_97 : decode cX3_settle 97 = .ok (.iconst 0, 1) := by decide +kernel
theorem dX3_settle_98 : decode cX3_settle 98 = .ok (.invokevirtual 60, 3) := by decide +kernel
theorem dX3_settle_101 : decode cX3_settle 101 = .ok (.aload_n 0, 1) := by decide +kernel
theorem dX3_settle_102 : decode cX3_settle 102 = .ok (.getfield 27, 3) := by decide +kernel
theorem dX3_settle_105 : decode cX3_settle 105 = .ok (.iload_n 1, 1) := by decide +kernel
theorem dX3_settle_106 : decode cX3_settle 106 = .ok (.iload 5, 2) := by decide +kernel
theorem dX3_settle_108 : decode cX3_settle 108 = .ok (.invokevirtual 60, 3) := by decide +kernel
theorem dX3_settle_111 : decode cX3_settle 111 = .ok (.return_, 1) := by decide +kernel
set_option maxRecDepth 20000 in
theorem ggX3_walkTo_X3_isFixed : GoodIn wsX3_walkTo wsX3_isFixed := goodIn_ca (goodIn_r _ [8, 9, 10, 11, 12, 13, 14, 15, 96, 97, 98, 99, 100, 101, 102, 103, 104, 105, 106, 107, 108, 109] (by decide +kernel) (by decide +kernel)) (goodIn_sub (fun _ h => List.mem_cons_of_mem _ (List.mem_append_right _ h)) (by decide +kernel))
set_option maxRecDepth 20000 in
theorem gX3_walkTo_X3_isFixed : GoodIn wsX3_walkTo (wsV RX3 97 RX3 yX3_isFixed wsX3_isFixed) := goodIn_app (goodIn_of _ (by decide +kernel)) ggX3_walkTo_X3_isFixed
set_option maxRecDepth 20000 in
theorem ggX3_walkTo_X4_put : GoodIn wsX3_walkTo wsX4_put := goodIn_ca (goodIn_r _ [19, 15, 109] (by decide +kernel) (by decide +kernel)) (goodIn_sub (fun _ h => List.mem_cons_of_mem _ (List.mem_append_right _ h)) (by decide +kernel))
set_option maxRecDepth 20000 in
theorem gX3_walkTo_X4_put : GoodIn wsX3_walkTo (wsV RX3 60 RX4 yX4_put wsX4_put) := goodIn_app (goodIn_of _ (by decide +kernel)) ggX3_walkTo_X4_put
set_option maxRecDepth 20000 in
theorem ggX3_walkTo_X3_nameAhead : GoodIn wsX3_walkTo wsX3_nameAhead := goodIn_ca (goodIn_r _ [23, 24, 25, 26, 27, 28, 29, 30, 31, 32, 11, 12, 13, 14, 15, 33, 34, 35, 36, 37, 10, 96, 97, 98, 99, 100, 101, 102, 103, 104, 105, 106, 107, 108, 110, 111, 112, 113, 114, 109] (by decide +kernel) (by decide +kernel)) (goodIn_sub (fun _ h => List.mem_cons_of_mem _ (List.mem_append_right _ h)) (by decide +kernel))
set_option maxRecDepth 20000 in
theorem gX3_walkTo_X3_nameAhead : GoodIn wsX3_walkTo (wsV RX3 120 RX3 yX3_nameAhead wsX3_nameAhead) := goodIn_app (goodIn_of _ (by decide +kernel)) ggX3_walkTo_X3_nameAhead
set_option maxRecDepth 20000 in
theorem ggX3_walkTo_X3_limitBehind : GoodIn wsX3_walkTo wsX3_limitBehind := goodIn_ca (goodIn_r _ [41, 24, 25, 26, 27, 28, 29, 30, 31, 32, 11, 12, 13, 14, 15, 42, 43, 44, 45, 46, 33, 34, 35, 36, 37, 4, 5, 6, 7, 8, 9, 10, 47, 48, 49, 50, 51, 96, 97, 98, 99, 100, 101, 102, 103, 104, 105, 106, 107, 108, 110, 111, 112, 113, 114, 109] (by decide +kernel) (by decide +kernel)) (goodIn_sub (fun _ h => List.mem_cons_of_mem _ (List.mem_append_right _ h)) (by decide +kernel))
set_option maxRecDepth 20000 in
theorem gX3_walkTo_X3_limitBehind : GoodIn wsX3_walkTo (wsV RX3 123 RX3 yX3_limitBehind wsX3_limitBehind) := goodIn_app (goodIn_of _ (by decide +kernel)) ggX3_walkTo_X3_limitBehind
set_option maxRecDepth 20000 in
theorem ggX3_walkTo_X3_number : GoodIn wsX3_walkTo wsX3_number := goodIn_ca (goodIn_r _ [50, 51, 10, 11, 12, 13, 14, 15, 96, 97, 98, 99, 100, 101, 102, 103, 104, 105, 106, 107, 108, 109] (by decide +kernel) (by decide +kernel)) (goodIn_sub (fun _ h => List.mem_cons_of_mem _ (List.mem_append_right _ h)) (by decide +kernel))
set_option maxRecDepth 20000 in
theorem gX3_walkTo_X3_number : GoodIn wsX3_walkTo (wsV RX3 85 RX3 yX3_number wsX3_number) := goodIn_app (goodIn_of _ (by decide +kernel)) ggX3_walkTo_X3_number
set_option maxRecDepth 20000 in
theorem ggX3_walkTo_X4_at : GoodIn wsX3_walkTo wsX4_at := goodIn_ca (goodIn_r _ [14, 15, 109] (by decide +kernel) (by decide +kernel)) (goodIn_sub (fun _ h => List.mem_cons_of_mem _ (List.mem_append_right _ h)) (by decide +kernel))
set_option maxRecDepth 20000 in
theorem gX3_walkTo_X4_at : GoodIn wsX3_walkTo (wsV RX3 56 RX4 yX4_at wsX4_at) := goodIn_app (goodIn_of _ (by decide +kernel)) ggX3_walkTo_X4_at
set_option maxRecDepth 20000 in
theorem ggX3_walkTo_X3_numberBehind : GoodIn wsX3_walkTo wsX3_numberBehind := goodIn_ca (goodIn_r _ [55, 56, 57, 58, 59, 24, 25, 60, 61, 62, 63, 64, 7, 65, 66, 10, 11, 12, 13, 14, 15, 67, 68, 69, 70, 71, 72, 73, 74, 29, 75, 76, 32, 77, 78, 79, 80, 81, 82, 83, 84, 85, 86, 87, 88, 89, 90, 91, 92, 93, 94, 95, 96, 97, 98, 99, 100, 101, 102, 103, 104, 105, 106, 107, 108, 109, 110, 111, 112, 113, 114, 115, 116, 117, 118, 119, 120, 121] (by decide +kernel) (by decide +kernel)) (goodIn_sub (fun _ h => List.mem_cons_of_mem _ (List.mem_append_right _ h)) (by decide +kernel))
set_option maxRecDepth 20000 in
theorem gX3_walkTo_X3_numberBehind : GoodIn wsX3_walkTo (wsV RX3 126 RX3 yX3_numberBehind wsX3_numberBehind) := goodIn_app (goodIn_of _ (by decide +kernel)) ggX3_walkTo_X3_numberBehind
theorem dX3_walkTo_0 : decode cX3_walkTo 0 = .ok (.iconst 0, 1) := by decide +kernel
theorem dX3_walkTo_1 : decode cX3_walkTo 1 = .ok (.istore_n 2, 1) := by decide +kernel
theorem dX3_walkTo_2 : decode cX3_walkTo 2 = .ok (.iload_n 1, 1) := by decide +kernel
theorem dX3_walkTo_3 : decode cX3_walkTo 3 = .ok (.istore_n 3, 1) := by decide +kernel
theorem dX3_walkTo_4 : decode cX3_walkTo 4 = .ok (.iload_n 2, 1) := by decide +kernel
theorem dX3_walkTo_5 : decode cX3_walkTo 5 = .ok (.bipush 60, 2) := by decide +kernel
theorem dX3_walkTo_7 : decode cX3_walkTo 7 = .ok (.if_icmp .ge 37, 3) := by decide +kernel
theorem dX3_walkTo_10 : decode cX3_walkTo 10 = .ok (.iload_n 3, 1) := by decide +kernel
theorem dX3_walkTo_11 : decode cX3_walkTo 11 = .ok (.iconst (-1), 1) := by decide +kernel
theorem dX3_walkTo_12 : decode cX3_walkTo 12 = .ok (.if_icmp .eq 32, 3) := by decide +kernel
theorem dX3_walkTo_15 : decode cX3_walkTo 15 = .ok (.aload_n 0, 1) := by decide +kernel
theorem dX3_walkTo_16 : decode cX3_walkTo 16 = .ok (.iload_n 3, 1) := by decide +kernel
theorem dX3_walkTo_17 : decode cX3_walkTo 17 = .ok (.invokevirtual 97, 3) := by decide +kernel
theorem dX3_walkTo_20 : decode cX3_walkTo 20 = .ok (.ifCond .ne 24, 3) := by decide +kernel
theorem dX3_walkTo_23 : decode cX3_walkTo 23 = .ok (.aload_n 0, 1) := by decide +kernel
theorem dX3_walkTo_24 : decode cX3_walkTo 24 = .ok (.getfield 45, 3) := by decide +kernel
theorem dX3_walkTo_27 : decode cX3_walkTo 27 = .ok (.iload_n 2, 1) := by decide +kernel
theorem dX3_walkTo_28 : decode cX3_walkTo 28 = .ok (.iload_n 3, 1) := by decide +kernel
theorem dX3_walkTo_29 : decode cX3_walkTo 29 = .ok (.invokevirtual 60, 3) := by decide +kernel
theorem dX3_walkTo_32 : decode cX3_walkTo 32 = .ok (.iinc 2 1, 3) := by decide +kernel
theorem dX3_walkTo_35 : decode cX3_walkTo 35 = .ok (.aload_n 0, 1) := by decide +kernel
theorem dX3_walkTo_36 : decode cX3_walkTo 36 = .ok (.iload_n 3, 1) := by decide +kernel
theorem dX3_walkTo_37 : decode cX3_walkTo 37 = .ok (.invokevirtual 120, 3) := by decide +kernel
theorem dX3_walkTo_40 : decode cX3_walkTo 40 = .ok (.istore_n 3, 1) := by decide +kernel
theorem dX3_walkTo_41 : decode cX3_walkTo 41 = .ok (.goto (-37), 3) := by decide +kernel
theorem dX3_walkTo_44 : decode cX3_walkTo 44 = .ok (.aload_n 0, 1) := by decide +kernel
theorem dX3_walkTo_45 : decode cX3_walkTo 45 = .ok (.iload_n 1, 1) := by decide +kernel
theorem dX3_walkTo_46 : decode cX3_walkTo 46 = .ok (.invokevirtual 123, 3) := by decide +kernel
theorem dX3_walkTo_49 : decode cX3_walkTo 49 = .ok (.istore 4, 2) := by decide +kernel
theorem dX3_walkTo_51 : decode cX3_walkTo 51 = .ok (.aload_n 0, 1) := by decide +kernel
theorem dX3_walkTo_52 : decode cX3_walkTo 52 = .ok (.aload_n 0, 1) := by decide +kernel
theorem dX3_walkTo_53 : decode cX3_walkTo 53 = .ok (.iload_n 3, 1) := by decide +kernel
theorem dX3_walkTo_54 : decode cX3_walkTo 54 = .ok (.invokevirtual 85, 3) := by decide +kernel
theorem dX3_walkTo_57 : decode cX3_walkTo 57 = .ok (.putfield 68, 3) := by decide +kernel
theorem dX3_walkTo_60 : decode cX3_walkTo 60 = .ok (.aload_n 0, 1) := by decide +kernel
theorem dX3_walkTo_61 : decode cX3_walkTo 61 = .ok (.iconst 0, 1) := by decide +kernel
theorem dX3_walkTo_62 : decode cX3_walkTo 62 = .ok (.putfield 72, 3) := by decide +kernel
theorem dX3_walkTo_65 : decode cX3_walkTo 65 = .ok (.iload_n 2, 1) := by decide +kernel
theorem dX3_walkTo_66 : decode cX3_walkTo 66 = .ok (.iconst 1, 1) := by decide +kernel
theorem dX3_walkTo_67 : decode cX3_walkTo 67 = .ok (.isub, 1) := by decide +kernel
theorem dX3_walkTo_68 : decode cX3_walkTo 68 = .ok (.istore 5, 2) := by decide +kernel
theorem dX3_walkTo_70 : decode cX3_walkTo 70 = .ok (.iload 5, 2) := by decide +kernel
theorem dX3_walkTo_72 : decode cX3_walkTo 72 = .ok (.ifCond .lt 67, 3) := by decide +kernel
theorem dX3_walkTo_75 : decode cX3_walkTo 75 = .ok (.aload_n 0, 1) := by decide +kernel
theorem dX3_walkTo_76 : decode cX3_walkTo 76 = .ok (.getfield 45, 3) := by decide +kernel
theorem dX3_walkTo_79 : decode cX3_walkTo 79 = .ok (.iload 5, 2) := by decide +kernel
theorem dX3_walkTo_81 : decode cX3_walkTo 81 = .ok (.invokevirtual 56, 3) := by decide +kernel
theorem dX3_walkTo_84 : decode cX3_walkTo 84 = .ok (.istore 6, 2) := by decide +kernel
theorem dX3_walkTo_86 : decode cX3_walkTo 86 = .ok (.aload_n 0, 1) := by decide +kernel
theorem dX3_walkTo_87 : decode cX3_walkTo 87 = .ok (.iload_n 3, 1) := by decide +kernel
theorem dX3_walkTo_88 : decode cX3_walkTo 88 = .ok (.aload_n 0, 1) := by decide +kernel
theorem dX3_walkTo_89 : decode cX3_walkTo 89 = .ok (.getfield 68, 3) := by decide +kernel
theorem dX3_walkTo_92 : decode cX3_walkTo 92 = .ok (.iload 6, 2) := by decide +kernel
theorem dX3_walkTo_94 : decode cX3_walkTo 94 = .ok (.iload 4, 2) := by decide +kernel
theorem dX3_walkTo_96 : decode cX3_walkTo 96 = .ok (.invokevirtual 126, 3) := by decide +kernel
theorem dX3_walkTo_99 : decode cX3_walkTo 99 = .ok (.istore 7, 2) := by decide +kernel
theorem dX3_walkTo_101 : decode cX3_walkTo 101 = .ok (.aload_n 0, 1) := by decide +kernel
theorem dX3_walkTo_102 : decode cX3_walkTo 102 = .ok (.iload 7, 2) := by decide +kernel
theorem dX3_walkTo_104 : decode cX3_walkTo 104 = .ok (.aload_n 0, 1) := by decide +kernel
theorem dX3_walkTo_105 : decode cX3_walkTo 105 = .ok (.getfield 68, 3) := by decide +kernel
theorem dX3_walkTo_108 : decode cX3_walkTo 108 = .ok (.if_icmp .ne 12, 3) := by decide +kernel
theorem dX3_walkTo_111 : decode cX3_walkTo 111 = .ok (.aload_n 0, 1) := by decide +kernel
theorem dX3_walkTo_112 : decode cX3_walkTo 112 = .ok (.getfield 72, 3) := by decide +kernel
theorem dX3_walkTo_115 : decode cX3_walkTo 115 = .ok (.iconst 1, 1) := by decide +kernel
theorem dX3_walkTo_116 : decode cX3_walkTo 116 = .ok (.iadd, 1) := by decide +kernel
theorem dX3_walkTo_117 : decode cX3_walkTo 117 = .ok (.goto 4, 3) := by decide +kernel
theorem dX3_walkTo_120 : decode cX3_walkTo 120 = .ok (.iconst 0, 1) := by decide +kernel
theorem dX3_walkTo_121 : decode cX3_walkTo 121 = .ok (.putfield 72, 3) := by decide +kernel
theorem dX3_walkTo_124 : decode cX3_walkTo 124 = .ok (.aload_n 0, 1) := by decide +kernel
theorem dX3_walkTo_125 : decode cX3_walkTo 125 = .ok (.iload 7, 2) := by decide +kernel
theorem dX3_walkTo_127 : decode cX3_walkTo 127 = .ok (.putfield 68, 3) := by decide +kernel
theorem dX3_walkTo_130 : decode cX3_walkTo 130 = .ok (.iload 6, 2) := by decide +kernel
theorem dX3_walkTo_132 : decode cX3_walkTo 132 = .ok (.istore_n 3, 1) := by decide +kernel
theorem dX3_walkTo_133 : decode cX3_walkTo 133 = .ok (.iinc 5 (-1), 3) := by decide +kernel
theorem dX3_walkTo_136 : decode cX3_walkTo 136 = .ok (.goto (-66), 3) := by decide +kernel
theorem dX3_walkTo_139 : decode cX3_walkTo 139 = .ok (.return_, 1) := by decide +kernel
set_option maxRecDepth 20000 in
theorem ggX3_nameAhead_X5_place : GoodIn wsX3_nameAhead wsX5_place := goodIn_ca (goodIn_r _ [7, 8, 9, 10, 11, 12, 13, 14, 34, 35, 36, 37, 38, 39] (by decide +kernel) (by decide +kernel)) (goodIn_sub (fun _ h => List.mem_cons_of_mem _ (List.mem_append_right _ h)) (by decide +kernel))
set_option maxRecDepth 20000 in
theorem gX3_nameAhead_X5_place : GoodIn wsX3_nameAhead (wsV RX3 130 RX5 yX5_place wsX5_place) := goodIn_app (goodIn_of _ (by decide +kernel)) ggX3_nameAhead_X5_place
set_option maxRecDepth 20000 in
theorem ggX3_nameAhead_X5_nameAt : GoodIn wsX3_nameAhead wsX5_nameAt := goodIn_ca (goodIn_r _ [18, 19, 9, 10, 11, 12, 13, 14, 34, 35, 36, 37, 38, 39] (by decide +kernel) (by decide +kernel)) (goodIn_sub (fun _ h => List.mem_cons_of_mem _ (List.mem_append_right _ h)) (by decide +kernel))
set_option maxRecDepth 20000 in
theorem gX3_nameAhead_X5_nameAt : GoodIn wsX3_nameAhead (wsV RX3 78 RX5 yX5_nameAt wsX5_nameAt) := goodIn_app (goodIn_of _ (by decide +kernel)) ggX3_nameAhead_X5_nameAt
set_option maxRecDepth 20000 in
theorem ggX3_nameAhead_X4_at : GoodIn wsX3_nameAhead wsX4_at := goodIn_ca (goodIn_r _ [13, 14, 39] (by decide +kernel) (by decide +kernel)) (goodIn_sub (fun _ h => List.mem_cons_of_mem _ (List.mem_append_right _ h)) (by decide +kernel))
set_option maxRecDepth 20000 in
theorem gX3_nameAhead_X4_at : GoodIn wsX3_nameAhead (wsV RX3 56 RX4 yX4_at wsX4_at) := goodIn_app (goodIn_of _ (by decide +kernel)) ggX3_nameAhead_X4_at
theorem dX3_nameAhead_0 : decode cX3_nameAhead 0 = .ok (.aload_n 0, 1) := by decide +kernel
theorem dX3_nameAhead_1 : decode cX3_nameAhead 1 = .ok (.getfield 48, 3) := by decide +kernel
theorem dX3_nameAhead_4 : decode cX3_nameAhead 4 = .ok (.iload_n 1, 1) := by decide +kernel
theorem dX3_nameAhead_5 : decode cX3_nameAhead 5 = .ok (.invokevirtual 130, 3) := by decide +kernel
theorem dX3_nameAhead_8 : decode cX3_nameAhead 8 = .ok (.iconst 1, 1) := by decide +kernel
theorem dX3_nameAhead_9 : decode cX3_nameAhead 9 = .ok (.isub, 1) := by decide +kernel
theorem dX3_nameAhead_10 : decode cX3_nameAhead 10 = .ok (.istore_n 2, 1) := by decide +kernel
theorem dX3_nameAhead_11 : decode cX3_nameAhead 11 = .ok (.iload_n 2, 1) := by decide +kernel
theorem dX3_nameAhead_12 : decode cX3_nameAhead 12 = .ok (.ifCond .lt 39, 3) := by decide +kernel
theorem dX3_nameAhead_15 : decode cX3_nameAhead 15 = .ok (.aload_n 0, 1) := by decide +kernel
theorem dX3_nameAhead_16 : decode cX3_nameAhead 16 = .ok (.getfield 48, 3) := by decide +kernel
theorem dX3_nameAhead_19 : decode cX3_nameAhead 19 = .ok (.iload_n 2, 1) := by decide +kernel
theorem dX3_nameAhead_20 : decode cX3_nameAhead 20 = .ok (.invokevirtual 78, 3) := by decide +kernel
theorem dX3_nameAhead_23 : decode cX3_nameAhead 23 = .ok (.istore_n 3, 1) := by decide +kernel
theorem dX3_nameAhead_24 : decode cX3_nameAhead 24 = .ok (.aload_n 0, 1) := by decide +kernel
theorem dX3_nameAhead_25 : decode cX3_nameAhead 25 = .ok (.getfield 23, 3) := by decide +kernel
theorem dX3_nameAhead_28 : decode cX3_nameAhead 28 = .ok (.iload_n 3, 1) := by decide +kernel
theorem dX3_nameAhead_29 : decode cX3_nameAhead 29 = .ok (.invokevirtual 56, 3) := by decide +kernel
theorem dX3_nameAhead_32 : decode cX3_nameAhead 32 = .ok (.aload_n 0, 1) := by decide +kernel
theorem dX3_nameAhead_33 : decode cX3_nameAhead 33 = .ok (.getfield 23, 3) := by decide +kernel
theorem dX3_nameAhead_36 : decode cX3_nameAhead 36 = .ok (.iload_n 1, 1) := by decide +kernel
theorem dX3_nameAhead_37 : decode cX3_nameAhead 37 = .ok (.invokevirtual 56, 3) := by decide +kernel
theorem dX3_nameAhead_40 : decode cX3_nameAhead 40 = .ok (.if_icmp .ne 5, 3) := by decide +kernel
theorem dX3_nameAhead_43 : decode cX3_nameAhead 43 = .ok (.iload_n 3, 1) := by decide +kernel
theorem dX3_nameAhead_44 : decode cX3_nameAhead 44 = .ok (.ireturn, 1) := by decide +kernel
theorem dX3_nameAhead_45 : decode cX3_nameAhead 45 = .ok (.iinc 2 (-1), 3) := by decide +kernel
theorem dX3_nameAhead_48 : decode cX3_nameAhead 48 = .ok (.goto (-37), 3) := by decide +kernel
theorem dX3_nameAhead_51 : decode cX3_nameAhead 51 = .ok (.iconst (-1), 1) := by decide +kernel
theorem dX3_nameAhead_52 : decode cX3_nameAhead 52 = .ok (.ireturn, 1) := by decide +kernel
set_option maxRecDepth 20000 in
theorem ggX3_limitBehind_X5_place : GoodIn wsX3_limitBehind wsX5_place := goodIn_ca (goodIn_r _ [7, 8, 9, 10, 11, 12, 13, 14, 50, 51, 52, 53, 54, 55] (by decide +kernel) (by decide +kernel)) (goodIn_sub (fun _ h => List.mem_cons_of_mem _ (List.mem_append_right _ h)) (by decide +kernel))
set_option maxRecDepth 20000 in
theorem gX3_limitBehind_X5_place : GoodIn wsX3_limitBehind (wsV RX3 130 RX5 yX5_place wsX5_place) := goodIn_app (goodIn_of _ (by decide +kernel)) ggX3_limitBehind_X5_place
set_option maxRecDepth 20000 in
theorem ggX3_limitBehind_X5_amount : GoodIn wsX3_limitBehind wsX5_amount := goodIn_r _ [18, 19, 50, 51, 52, 53, 54] (by decide +kernel) (by decide +kernel)
set_option maxRecDepth 20000 in
theorem gX3_limitBehind_X5_amount : GoodIn wsX3_limitBehind (wsV RX3 75 RX5 yX5_amount wsX5_amount) := goodIn_app (goodIn_of _ (by decide +kernel)) ggX3_limitBehind_X5_amount
set_option maxRecDepth 20000 in
theorem ggX3_limitBehind_X5_nameAt : GoodIn wsX3_limitBehind wsX5_nameAt := goodIn_ca (goodIn_r _ [23, 24, 9, 10, 11, 12, 13, 14, 50, 51, 52, 53, 54, 55] (by decide +kernel) (by decide +kernel)) (goodIn_sub (fun _ h => List.mem_cons_of_mem _ (List.mem_append_right _ h)) (by decide +kernel))
set_option maxRecDepth 20000 in
theorem gX3_limitBehind_X5_nameAt : GoodIn wsX3_limitBehind (wsV RX3 78 RX5 yX5_nameAt wsX5_nameAt) := goodIn_app (goodIn_of _ (by decide +kernel)) ggX3_limitBehind_X5_nameAt
set_option maxRecDepth 20000 in
theorem ggX3_limitBehind_X3_isFixed : GoodIn wsX3_limitBehind wsX3_isFixed := goodIn_ca (goodIn_r _ [29, 30, 31, 10, 11, 12, 13, 14, 37, 38, 39, 40, 41, 42, 43, 44, 45, 46, 47, 48, 49, 55] (by decide +kernel) (by decide +kernel)) (goodIn_sub (fun _ h => List.mem_cons_of_mem _ (List.mem_append_right _ h)) (by decide +kernel))
set_option maxRecDepth 20000 in
theorem gX3_limitBehind_X3_isFixed : GoodIn wsX3_limitBehind (wsV RX3 97 RX3 yX3_isFixed wsX3_isFixed) := goodIn_app (goodIn_of _ (by decide +kernel)) ggX3_limitBehind_X3_isFixed
set_option maxRecDepth 20000 in
theorem ggX3_limitBehind_X4_at : GoodIn wsX3_limitBehind wsX4_at := goodIn_ca (goodIn_r _ [13, 14, 55] (by decide +kernel) (by decide +kernel)) (goodIn_sub (fun _ h => List.mem_cons_of_mem _ (List.mem_append_right _ h)) (by decide +kernel))
set_option maxRecDepth 20000 in
theorem gX3_limitBehind_X4_at : GoodIn wsX3_limitBehind (wsV RX3 56 RX4 yX4_at wsX4_at) := goodIn_app (goodIn_of _ (by decide +kernel)) ggX3_limitBehind_X4_at
set_option maxRecDepth 20000 in
theorem ggX3_limitBehind_X3_number : GoodIn wsX3_limitBehind wsX3_number := goodIn_ca (goodIn_r _ [35, 36, 31, 10, 11, 12, 13, 14, 37, 38, 39, 40, 41, 42, 43, 44, 45, 46, 47, 48, 49, 55] (by decide +kernel) (by decide +kernel)) (goodIn_sub (fun _ h => List.mem_cons_of_mem _ (List.mem_append_right _ h)) (by decide +kernel))
set_option maxRecDepth 20000 in
theorem gX3_limitBehind_X3_number : GoodIn wsX3_limitBehind (wsV RX3 85 RX3 yX3_number wsX3_number) := goodIn_app (goodIn_of _ (by decide +kernel)) ggX3_limitBehind_X3_number
theorem dX3_limitBehind_0 : decode cX3_limitBehind 0 = .ok (.aload_n 0, 1) := by decide +kernel
theorem dX3_limitBehind_1 : decode cX3_limitBehind 1 = .ok (.getfield 48, 3) := by decide +kernel
theorem dX3_limitBehind_4 : decode cX3_limitBehind 4 = .ok (.iload_n 1, 1) := by decide +kernel
theorem dX3_limitBehind_5 : decode cX3_limitBehind 5 = .ok (.invokevirtual 130, 3) := by decide +kernel
theorem dX3_limitBehind_8 : decode cX3_limitBehind 8 = .ok (.iconst 1, 1) := by decide +kernel
theorem dX3_limitBehind_9 : decode cX3_limitBehind 9 = .ok (.iadd, 1) := by decide +kernel
theorem dX3_limitBehind_10 : decode cX3_limitBehind 10 = .ok (.istore_n 2, 1) := by decide +kernel
theorem dX3_limitBehind_11 : decode cX3_limitBehind 11 = .ok (.iload_n 2, 1) := by decide +kernel
theorem dX3_limitBehind_12 : decode cX3_limitBehind 12 = .ok (.aload_n 0, 1) := by decide +kernel
theorem dX3_limitBehind_13 : decode cX3_limitBehind 13 = .ok (.getfield 48, 3) := by decide +kernel
theorem dX3_limitBehind_16 : decode cX3_limitBehind 16 = .ok (.invokevirtual 75, 3) := by decide +kernel
theorem dX3_limitBehind_19 : decode cX3_limitBehind 19 = .ok (.if_icmp .ge 51, 3) := by decide +kernel
theorem dX3_limitBehind_22 : decode cX3_limitBehind 22 = .ok (.aload_n 0, 1) := by decide +kernel
theorem dX3_limitBehind_23 : decode cX3_limitBehind 23 = .ok (.getfield 48, 3) := by decide +kernel
theorem dX3_limitBehind_26 : decode cX3_limitBehind 26 = .ok (.iload_n 2, 1) := by decide +kernel
theorem dX3_limitBehind_27 : decode cX3_limitBehind 27 = .ok (.invokevirtual 78, 3) := by decide +kernel
theorem dX3_limitBehind_30 : decode cX3_limitBehind 30 = .ok (.istore_n 3, 1) := by decide +kernel
theorem dX3_limitBehind_31 : decode cX3_limitBehind 31 = .ok (.aload_n 0, 1) := by decide +kernel
theorem dX3_limitBehind_32 : decode cX3_limitBehind 32 = .ok (.iload_n 3, 1) := by decide +kernel
theorem dX3_limitBehind_33 : decode cX3_limitBehind 33 = .ok (.invokevirtual 97, 3) := by decide +kernel
theorem dX3_limitBehind_36 : decode cX3_limitBehind 36 = .ok (.ifCond .eq 28, 3) := by decide +kernel
theorem dX3_limitBehind_39 : decode cX3_limitBehind 39 = .ok (.aload_n 0, 1) := by decide +kernel
theorem dX3_limitBehind_40 : decode cX3_limitBehind 40 = .ok (.getfield 23, 3) := by decide +kernel
theorem dX3_limitBehind_43 : decode cX3_limitBehind 43 = .ok (.iload_n 3, 1) := by decide +kernel
theorem dX3_limitBehind_44 : decode cX3_limitBehind 44 = .ok (.invokevirtual 56, 3) := by decide +kernel
theorem dX3_limitBehind_47 : decode cX3_limitBehind 47 = .ok (.aload_n 0, 1) := by decide +kernel
theorem dX3_limitBehind_48 : decode cX3_limitBehind 48 = .ok (.getfield 23, 3) := by decide +kernel
theorem dX3_limitBehind_51 : decode cX3_limitBehind 51 = .ok (.iload_n 1, 1) := by decide +kernel
theorem dX3_limitBehind_52 : decode cX3_limitBehind 52 = .ok (.invokevirtual 56, 3) := by decide +kernel
theorem dX3_limitBehind_55 : decode cX3_limitBehind 55 = .ok (.if_icmp .ne 9, 3) := by decide +kernel
theorem dX3_limitBehind_58 : decode cX3_limitBehind 58 = .ok (.aload_n 0, 1) := by decide +kernel
theorem dX3_limitBehind_59 : decode cX3_limitBehind 59 = .ok (.iload_n 3, 1) := by decide +kernel
theorem dX3_limitBehind_60 : decode cX3_limitBehind 60 = .ok (.invokevirtual 85, 3) := by decide +kernel
theorem dX3_limitBehind_63 : decode cX3_limitBehind 63 = .ok (.ireturn, 1) := by decide +kernel
theorem dX3_limitBehind_64 : decode cX3_limitBehind 64 = .ok (.iinc 2 1, 3) := by decide +kernel
theorem dX3_limitBehind_67 : decode cX3_limitBehind 67 = .ok (.goto (-56), 3) := by decide +kernel
theorem dX3_limitBehind_70 : decode cX3_limitBehind 70 = .ok (.iconst 0, 1) := by decide +kernel
theorem dX3_limitBehind_71 : decode cX3_limitBehind 71 = .ok (.ireturn, 1) := by decide +kernel
set_option maxRecDepth 20000 in
theorem ggX3_numberBehind_X3_reserved : GoodIn wsX3_numberBehind wsX3_reserved := goodIn_ca (goodIn_r _ [13, 14, 15, 16, 17, 18, 19, 20, 52, 53, 54, 55, 56, 57, 58, 59, 60, 61, 62, 63, 64, 65] (by decide +kernel) (by decide +kernel)) (goodIn_sub (fun _ h => List.mem_cons_of_mem _ (List.mem_append_right _ h)) (by decide +kernel))
set_option maxRecDepth 20000 in
theorem gX3_numberBehind_X3_reserved : GoodIn wsX3_numberBehind (wsV RX3 133 RX3 yX3_reserved wsX3_reserved) := goodIn_app (goodIn_of _ (by decide +kernel)) ggX3_numberBehind_X3_reserved
set_option maxRecDepth 20000 in
theorem ggX3_numberBehind_X3_start : GoodIn wsX3_numberBehind wsX3_start := goodIn_ca (goodIn_r _ [24, 25, 15, 16, 17, 18, 19, 20, 52, 53, 54, 55, 56, 57, 58, 59, 60, 61, 62, 63, 64, 65] (by decide +kernel) (by decide +kernel)) (goodIn_sub (fun _ h => List.mem_cons_of_mem _ (List.mem_append_right _ h)) (by decide +kernel))
set_option maxRecDepth 20000 in
theorem gX3_numberBehind_X3_start : GoodIn wsX3_numberBehind (wsV RX3 136 RX3 yX3_start wsX3_start) := goodIn_app (goodIn_of _ (by decide +kernel)) ggX3_numberBehind_X3_start
set_option maxRecDepth 20000 in
theorem ggX3_numberBehind_X5_level : GoodIn wsX3_numberBehind wsX5_level := goodIn_ca (goodIn_r _ [30, 31, 32, 16, 17, 18, 19, 20, 66, 67, 68, 69, 70, 65] (by decide +kernel) (by decide +kernel)) (goodIn_sub (fun _ h => List.mem_cons_of_mem _ (List.mem_append_right _ h)) (by decide +kernel))
set_option maxRecDepth 20000 in
theorem gX3_numberBehind_X5_level : GoodIn wsX3_numberBehind (wsV RX3 112 RX5 yX5_level wsX5_level) := goodIn_app (goodIn_of _ (by decide +kernel)) ggX3_numberBehind_X5_level
set_option maxRecDepth 20000 in
theorem ggX3_numberBehind_X4_at : GoodIn wsX3_numberBehind wsX4_at := goodIn_ca (goodIn_r _ [19, 20, 65] (by decide +kernel) (by decide +kernel)) (goodIn_sub (fun _ h => List.mem_cons_of_mem _ (List.mem_append_right _ h)) (by decide +kernel))
set_option maxRecDepth 20000 in
theorem gX3_numberBehind_X4_at : GoodIn wsX3_numberBehind (wsV RX3 56 RX4 yX4_at wsX4_at) := goodIn_app (goodIn_of _ (by decide +kernel)) ggX3_numberBehind_X4_at
set_option maxRecDepth 20000 in
theorem ggX3_numberBehind_X1_isSkipped : GoodIn wsX3_numberBehind wsX1_isSkipped := goodIn_ca (goodIn_r _ [37, 38, 39, 40, 36, 41, 42, 16, 17, 18, 19, 20, 71, 72, 73, 74, 65] (by decide +kernel) (by decide +kernel)) (goodIn_sub (fun _ h => List.mem_cons_of_mem _ (List.mem_append_right _ h)) (by decide +kernel))
set_option maxRecDepth 20000 in
theorem gX3_numberBehind_X1_isSkipped : GoodIn wsX3_numberBehind (wsV RX3 145 RX1 yX1_isSkipped wsX1_isSkipped) := goodIn_app (goodIn_of _ (by decide +kernel)) ggX3_numberBehind_X1_isSkipped
set_option maxRecDepth 20000 in
theorem ggX3_numberBehind_X7_contains : GoodIn wsX3_numberBehind wsX7_contains := goodIn_ca (goodIn_r _ [47, 48, 49, 50, 51, 16, 17, 18, 19, 20, 75, 76, 77, 65] (by decide +kernel) (by decide +kernel)) (goodIn_sub (fun _ h => List.mem_cons_of_mem _ (List.mem_append_right _ h)) (by decide +kernel))
set_option maxRecDepth 20000 in
theorem gX3_numberBehind_X7_contains : GoodIn wsX3_numberBehind (wsV RX3 149 RX7 yX7_contains wsX7_contains) := goodIn_app (goodIn_of _ (by decide +kernel)) ggX3_numberBehind_X7_contains
theorem dX3_numberBehind_0 : decode cX3_numberBehind 0 = .ok (.iload_n 2, 1) := by decide +kernel
theorem dX3_numberBehind_1 : decode cX3_numberBehind 1 = .ok (.iconst 1, 1) := by decide +kernel
theorem dX3_numberBehind_2 : decode cX3_numberBehind 2 = .ok (.iadd, 1) := by decide +kernel
theorem dX3_numberBehind_3 : decode cX3_numberBehind 3 = .ok (.istore 5, 2) := by decide +kernel
theorem dX3_numberBehind_5 : decode cX3_numberBehind 5 = .ok (.iload 4, 2) := by decide +kernel
theorem dX3_numberBehind_7 : decode cX3_numberBehind 7 = .ok (.ifCond .ne 21, 3) := by decide +kernel
theorem dX3_numberBehind_10 : decode cX3_numberBehind 10 = .ok (.iload 5, 2) := by decide +kernel
theorem dX3_numberBehind_12 : decode cX3_numberBehind 12 = .ok (.aload_n 0, 1) := by decide +kernel
theorem dX3_numberBehind_13 : decode cX3_numberBehind 13 = .ok (.iload_n 1, 1) := by decide +kernel
theorem dX3_numberBehind_14 : decode cX3_numberBehind 14 = .ok (.invokevirtual 133, 3) := by decide +kernel
theorem dX3_numberBehind_17 : decode cX3_numberBehind 17 = .ok (.iadd, 1) := by decide +kernel
theorem dX3_numberBehind_18 : decode cX3_numberBehind 18 = .ok (.aload_n 0, 1) := by decide +kernel
theorem dX3_numberBehind_19 : decode cX3_numberBehind 19 = .ok (.iload_n 3, 1) := by decide +kernel
theorem dX3_numberBehind_20 : decode cX3_numberBehind 20 = .ok (.invokevirtual 136, 3) := by decide +kernel
theorem dX3_numberBehind_23 : decode cX3_numberBehind 23 = .ok (.invokestatic 139, 3) := by decide +kernel
theorem dX3_numberBehind_26 : decode cX3_numberBehind 26 = .ok (.istore 5, 2) := by decide +kernel
theorem dX3_numberBehind_28 : decode cX3_numberBehind 28 = .ok (.aload_n 0, 1) := by decide +kernel
theorem dX3_numberBehind_29 : decode cX3_numberBehind 29 = .ok (.getfield 48, 3) := by decide +kernel
theorem dX3_numberBehind_32 : decode cX3_numberBehind 32 = .ok (.iload_n 3, 1) := by decide +kernel
theorem dX3_numberBehind_33 : decode cX3_numberBehind 33 = .ok (.invokevirtual 112, 3) := by decide +kernel
theorem dX3_numberBehind_36 : decode cX3_numberBehind 36 = .ok (.istore 6, 2) := by decide +kernel
theorem dX3_numberBehind_38 : decode cX3_numberBehind 38 = .ok (.aload_n 0, 1) := by decide +kernel
theorem dX3_numberBehind_39 : decode cX3_numberBehind 39 = .ok (.getfield 23, 3) := by decide +kernel
theorem dX3_numberBehind_42 : decode cX3_numberBehind 42 = .ok (.iload_n 3, 1) := by decide +kernel
theorem dX3_numberBehind_43 : decode cX3_numberBehind 43 = .ok (.invokevirtual 56, 3) := by decide +kernel
theorem dX3_numberBehind_46 : decode cX3_numberBehind 46 = .ok (.istore 7, 2) := by decide +kernel
theorem dX3_numberBehind_48 : decode cX3_numberBehind 48 = .ok (.iconst 0, 1) := by decide +kernel
theorem dX3_numberBehind_49 : decode cX3_numberBehind 49 = .ok (.istore 8, 2) := by decide +kernel
theorem dX3_numberBehind_51 : decode cX3_numberBehind 51 = .ok (.iload 8, 2) := by decide +kernel
theorem dX3_numberBehind_53 : decode cX3_numberBehind 53 = .ok (.sipush 159, 3) := by decide +kernel
theorem dX3_numberBehind_56 : decode cX3_numberBehind 56 = .ok (.if_icmp .ge 43, 3) := by decide +kernel
theorem dX3_numberBehind_59 : decode cX3_numberBehind 59 = .ok (.aload_n 0, 1) := by decide +kernel
theorem dX3_numberBehind_60 : decode cX3_numberBehind 60 = .ok (.getfield 52, 3) := by decide +kernel
theorem dX3_numberBehind_63 : decode cX3_numberBehind 63 = .ok (.iload 6, 2) := by decide +kernel
theorem dX3_numberBehind_65 : decode cX3_numberBehind 65 = .ok (.iload 5, 2) := by decide +kernel
theorem dX3_numberBehind_67 : decode cX3_numberBehind 67 = .ok (.invokevirtual 145, 3) := by decide +kernel
theorem dX3_numberBehind_70 : decode cX3_numberBehind 70 = .ok (.ifCond .ne 20, 3) := by decide +kernel
theorem dX3_numberBehind_73 : decode cX3_numberBehind 73 = .ok (.aload_n 0, 1) := by decide +kernel
theorem dX3_numberBehind_74 : decode cX3_numberBehind 74 = .ok (.getfield 12, 3) := by decide +kernel
theorem dX3_numberBehind_77 : decode cX3_numberBehind 77 = .ok (.iload 7, 2) := by decide +kernel
theorem dX3_numberBehind_79 : decode cX3_numberBehind 79 = .ok (.iload 5, 2) := by decide +kernel
theorem dX3_numberBehind_81 : decode cX3_numberBehind 81 = .ok (.invokevirtual 149, 3) := by decide +kernel
theorem dX3_numberBehind_84 : decode cX3_numberBehind 84 = .ok (.ifCond .ne 6, 3) := by decide +kernel
theorem dX3_numberBehind_87 : decode cX3_numberBehind 87 = .ok (.goto 12, 3) := by decide +kernel
theorem dX3_numberBehind_90 : decode cX3_numberBehind 90 = .ok (.iinc 5 1, 3) := by decide +kernel
theorem dX3_numberBehind_93 : decode cX3_numberBehind 93 = .ok (.iinc 8 1, 3) := by decide +kernel
theorem dX3_numberBehind_96 : decode cX3_numberBehind 96 = .ok (.goto (-45), 3) := by decide +kernel
theorem dX3_numberBehind_99 : decode cX3_numberBehind 99 = .ok (.iload 4, 2) := by decide +kernel
theorem dX3_numberBehind_101 : decode cX3_numberBehind 101 = .ok (.ifCond .eq 14, 3) := by decide +kernel
theorem dX3_numberBehind_104 : decode cX3_numberBehind 104 = .ok (.iload 5, 2) := by decide +kernel
theorem dX3_numberBehind_106 : decode cX3_numberBehind 106 = .ok (.iload 4, 2) := by decide +kernel
theorem dX3_numberBehind_108 : decode cX3_numberBehind 108 = .ok (.if_icmp .lt 7, 3) := by decide +kernel
theorem dX3_numberBehind_111 : decode cX3_numberBehind 111 = .ok (.iload_n 2, 1) := by decide +kernel
theorem dX3_numberBehind_112 : decode cX3_numberBehind 112 = .ok (.goto 5, 3) := by decide +kernel
theorem dX3_numberBehind_115 : decode cX3_numberBehind 115 = .ok (.iload 5, 2) := by decide +kernel
theorem dX3_numberBehind_117 : decode cX3_numberBehind 117 = .ok (.ireturn, 1) := by decide +kernel
theorem dX4_init_0 : decode cX4_init 0 = .ok (.aload_n 0, 1) := by decide +kernel
theorem dX4_init_1 : decode cX4_init 1 = .ok (.invokespecial 1, 3) := by decide +kernel
theorem dX4_init_4 : decode cX4_init 4 = .ok (.aload_n 0, 1) := by decide +kernel
theorem dX4_init_5 : decode cX4_init 5 = .ok (.iload_n 1, 1) := by decide +kernel
theorem dX4_init_6 : decode cX4_init 6 = .ok (.ifCond .le 7, 3) := by decide +kernel
theorem dX4_init_9 : decode cX4_init 9 = .ok (.iload_n 1, 1) := by decide +kernel
theorem dX4_init_10 : decode cX4_init 10 = .ok (.goto 4, 3) := by decide +kernel
theorem dX4_init_13 : decode cX4_init 13 = .ok (.iconst 0, 1) := by decide +kernel
theorem dX4_init_14 : decode cX4_init 14 = .ok (.newarray .int, 2) := by decide +kernel
theorem dX4_init_16 : decode cX4_init 16 = .ok (.putfield 7, 3) := by decide +kernel
theorem dX4_init_19 : decode cX4_init 19 = .ok (.return_, 1) := by decide +kernel
theorem dX4_at_0 : decode cX4_at 0 = .ok (.iload_n 1, 1) := by decide +kernel
theorem dX4_at_1 : decode cX4_at 1 = .ok (.ifCond .lt 21, 3) := by decide +kernel
theorem dX4_at_4 : decode cX4_at 4 = .ok (.iload_n 1, 1) := by decide +kernel
theorem dX4_at_5 : decode cX4_at 5 = .ok (.aload_n 0, 1) := by decide +kernel
theorem dX4_at_6 : decode cX4_at 6 = .ok (.getfield 7, 3) := by decide +kernel
theorem dX4_at_9 : decode cX4_at 9 = .ok (.arraylength, 1) := by decide +kernel
theorem dX4_at_10 : decode cX4_at 10 = .ok (.if_icmp .ge 12, 3) := by decide +kernel
theorem dX4_at_13 : decode cX4_at 13 = .ok (.aload_n 0, 1) := by decide +kernel
theorem dX4_at_14 : decode cX4_at 14 = .ok (.getfield 7, 3) := by decide +kernel
theorem dX4_at_17 : decode cX4_at 17 = .ok (.iload_n 1, 1) := by decide +kernel
theorem dX4_at_18 : decode cX4_at 18 = .ok (.iaload, 1) := by decide +kernel
theorem dX4_at_19 : decode cX4_at 19 = .ok (.goto 4, 3) := by decide +kernel
theorem dX4_at_22 : decode cX4_at 22 = .ok (.iconst 0, 1) := by decide +kernel
theorem dX4_at_23 : decode cX4_at 23 = .ok (.ireturn, 1) := by decide +kernel
theorem dX4_put_0 : decode cX4_put 0 = .ok (.iload_n 1, 1) := by decide +kernel
theorem dX4_put_1 : decode cX4_put 1 = .ok (.ifCond .lt 19, 3) := by decide +kernel
theorem dX4_put_4 : decode cX4_put 4 = .ok (.iload_n 1, 1) := by decide +kernel
theorem dX4_put_5 : decode cX4_put 5 = .ok (.aload_n 0, 1) := by decide +kernel
theorem dX4_put_6 : decode cX4_put 6 = .ok (.getfield 7, 3) := by decide +kernel
theorem dX4_put_9 : decode cX4_put 9 = .ok (.arraylength, 1) := by decide +kernel
theorem dX4_put_10 : decode cX4_put 10 = .ok (.if_icmp .ge 10, 3) := by decide +kernel
theorem dX4_put_13 : decode cX4_put 13 = .ok (.aload_n 0, 1) := by decide +kernel
theorem dX4_put_14 : decode cX4_put 14 = .ok (.getfield 7, 3) := by decide +kernel
theorem dX4_put_17 : decode cX4_put 17 = .ok (.iload_n 1, 1) := by decide +kernel
theorem dX4_put_18 : decode cX4_put 18 = .ok (.iload_n 2, 1) := by decide +kernel
theorem dX4_put_19 : decode cX4_put 19 = .ok (.iastore, 1) := by decide +kernel
theorem dX4_put_20 : decode cX4_put 20 = .ok (.return_, 1) := by decide +kernel
set_option maxRecDepth 20000 in
theorem ggX5_init_X4_init : GoodIn wsX5_init wsX4_init := goodIn_r _ [13, 14, 2, 3, 15, 16, 17] (by decide +kernel) (by decide +kernel)
set_option maxRecDepth 20000 in
theorem gX5_init_X4_init : GoodIn wsX5_init (wsX4_init) := ggX5_init_X4_init
theorem dX5_init_0 : decode cX5_init 0 = .ok (.aload_n 0, 1) := by decide +kernel
theorem dX5_init_1 : decode cX5_init 1 = .ok (.invokespecial 3, 3) := by decide +kernel
theorem dX5_init_4 : decode cX5_init 4 = .ok (.aload_n 0, 1) := by decide +kernel
theorem dX5_init_5 : decode cX5_init 5 = .ok (.new 9, 3) := by decide +kernel
theorem dX5_init_8 : decode cX5_init 8 = .ok (.dup, 1) := by decide +kernel
theorem dX5_init_9 : decode cX5_init 9 = .ok (.bipush 60, 2) := by decide +kernel
theorem dX5_init_11 : decode cX5_init 11 = .ok (.invokespecial 11, 3) := by decide +kernel
theorem dX5_init_14 : decode cX5_init 14 = .ok (.putfield 14, 3) := by decide +kernel
theorem dX5_init_17 : decode cX5_init 17 = .ok (.aload_n 0, 1) := by decide +kernel
theorem dX5_init_18 : decode cX5_init 18 = .ok (.new 9, 3) := by decide +kernel
theorem dX5_init_21 : decode cX5_init 21 = .ok (.dup, 1) := by decide +kernel
theorem dX5_init_22 : decode cX5_init 22 = .ok (.bipush 60, 2) := by decide +kernel
theorem dX5_init_24 : decode cX5_init 24 = .ok (.invokespecial 11, 3) := by decide +kernel
theorem dX5_init_27 : decode cX5_init 27 = .ok (.putfield 20, 3) := by decide +kernel
theorem dX5_init_30 : decode cX5_init 30 = .ok (.aload_n 0, 1) := by decide +kernel
theorem dX5_init_31 : decode cX5_init 31 = .ok (.new 9, 3) := by decide +kernel
theorem dX5_init_34 : decode cX5_init 34 = .ok (.dup, 1) := by decide +kernel
theorem dX5_init_35 : decode cX5_init 35 = .ok (.bipush 60, 2) := by decide +kernel
theorem dX5_init_37 : decode cX5_init 37 = .ok (.invokespecial 11, 3) := by decide +kernel
theorem dX5_init_40 : decode cX5_init 40 = .ok (.putfield 23, 3) := by decide +kernel
theorem dX5_init_43 : decode cX5_init 43 = .ok (.aload_n 0, 1) := by decide +kernel
theorem dX5_init_44 : decode cX5_init 44 = .ok (.new 9, 3) := by decide +kernel
theorem dX5_init_47 : decode cX5_init 47 = .ok (.dup, 1) := by decide +kernel
theorem dX5_init_48 : decode cX5_init 48 = .ok (.bipush 60, 2) := by decide +kernel
theorem dX5_init_50 : decode cX5_init 50 = .ok (.invokespecial 11, 3) := by decide +kernel
theorem dX5_init_53 : decode cX5_init 53 = .ok (.putfield 26, 3) := by decide +kernel
theorem dX5_init_56 : decode cX5_init 56 = .ok (.return_, 1) := by decide +kernel
theorem dX5_amount_0 : decode cX5_amount 0 = .ok (.aload_n 0, 1) := by decide +kernel
theorem dX5_amount_1 : decode cX5_amount 1 = .ok (.getfield 29, 3) := by decide +kernel
theorem dX5_amount_4 : decode cX5_amount 4 = .ok (.ireturn, 1) := by decide +kernel
set_option maxRecDepth 20000 in
theorem ggX5_holds_X4_at : GoodIn wsX5_holds wsX4_at := goodIn_ca (goodIn_r _ [6, 7, 13] (by decide +kernel) (by decide +kernel)) (goodIn_sub (fun _ h => List.mem_cons_of_mem _ (List.mem_append_right _ h)) (by decide +kernel))
set_option maxRecDepth 20000 in
theorem gX5_holds_X4_at : GoodIn wsX5_holds (wsV RX5 33 RX4 yX4_at wsX4_at) := goodIn_app (goodIn_of _ (by decide +kernel)) ggX5_holds_X4_at
theorem dX5_holds_0 : decode cX5_holds 0 = .ok (.aload_n 0, 1) := by decide +kernel
theorem dX5_holds_1 : decode cX5_holds 1 = .ok (.getfield 20, 3) := by decide +kernel
theorem dX5_holds_4 : decode cX5_holds 4 = .ok (.iload_n 1, 1) := by decide +kernel
theorem dX5_holds_5 : decode cX5_holds 5 = .ok (.invokevirtual 33, 3) := by decide +kernel
theorem dX5_holds_8 : decode cX5_holds 8 = .ok (.ifCond .le 7, 3) := by decide +kernel
theorem dX5_holds_11 : decode cX5_holds 11 = .ok (.iconst 1, 1) := by decide +kernel
theorem dX5_holds_12 : decode cX5_holds 12 = .ok (.goto 4, 3) := by decide +kernel
theorem dX5_holds_15 : decode cX5_holds 15 = .ok (.iconst 0, 1) := by decide +kernel
theorem dX5_holds_16 : decode cX5_holds 16 = .ok (.ireturn, 1) := by decide +kernel
set_option maxRecDepth 20000 in
theorem ggX5_nameAt_X4_at : GoodIn wsX5_nameAt wsX4_at := goodIn_ca (goodIn_r _ [6, 7, 13] (by decide +kernel) (by decide +kernel)) (goodIn_sub (fun _ h => List.mem_cons_of_mem _ (List.mem_append_right _ h)) (by decide +kernel))
set_option maxRecDepth 20000 in
theorem gX5_nameAt_X4_at : GoodIn wsX5_nameAt (wsV RX5 33 RX4 yX4_at wsX4_at) := goodIn_app (goodIn_of _ (by decide +kernel)) ggX5_nameAt_X4_at
theorem dX5_nameAt_0 : decode cX5_nameAt 0 = .ok (.aload_n 0, 1) := by decide +kernel
theorem dX5_nameAt_1 : decode cX5_nameAt 1 = .ok (.getfield 14, 3) := by decide +kernel
theorem dX5_nameAt_4 : decode cX5_nameAt 4 = .ok (.iload_n 1, 1) := by decide +kernel
theorem dX5_nameAt_5 : decode cX5_nameAt 5 = .ok (.invokevirtual 33, 3) := by decide +kernel
theorem dX5_nameAt_8 : decode cX5_nameAt 8 = .ok (.ireturn, 1) := by decide +kernel
set_option maxRecDepth 20000 in
theorem ggX5_place_X4_at : GoodIn wsX5_place wsX4_at := goodIn_ca (goodIn_r _ [6, 7, 13] (by decide +kernel) (by decide +kernel)) (goodIn_sub (fun _ h => List.mem_cons_of_mem _ (List.mem_append_right _ h)) (by decide +kernel))
set_option maxRecDepth 20000 in
theorem gX5_place_X4_at : GoodIn wsX5_place (wsV RX5 33 RX4 yX4_at wsX4_at) := goodIn_app (goodIn_of _ (by decide +kernel)) ggX5_place_X4_at
theorem dX5_place_0 : decode cX5_place 0 = .ok (.aload_n 0, 1) := by decide +kernel
theorem dX5_place_1 : decode cX5_place 1 = .ok (.getfield 20, 3) := by decide +kernel
theorem dX5_place_4 : decode cX5_place 4 = .ok (.iload_n 1, 1) := by decide +kernel
theorem dX5_place_5 : decode cX5_place 5 = .ok (.invokevirtual 33, 3) := by decide +kernel
theorem dX5_place_8 : decode cX5_place 8 = .ok (.iconst 1, 1) := by decide +kernel
theorem dX5_place_9 : decode cX5_place 9 = .ok (.isub, 1) := by decide +kernel
theorem dX5_place_10 : decode cX5_place 10 = .ok (.ireturn, 1) := by decide +kernel
set_option maxRecDepth 20000 in
theorem ggX5_level_X4_at : GoodIn wsX5_level wsX4_at := goodIn_ca (goodIn_r _ [6, 7, 13] (by decide +kernel) (by decide +kernel)) (goodIn_sub (fun _ h => List.mem_cons_of_mem _ (List.mem_append_right _ h)) (by decide +kernel))
set_option maxRecDepth 20000 in
theorem gX5_level_X4_at : GoodIn wsX5_level (wsV RX5 33 RX4 yX4_at wsX4_at) := goodIn_app (goodIn_of _ (by decide +kernel)) ggX5_level_X4_at
theorem dX5_level_0 : decode cX5_level 0 = .ok (.aload_n 0, 1) := by decide +kernel
theorem dX5_level_1 : decode cX5_level 1 = .ok (.getfield 23, 3) := by decide +kernel
theorem dX5_level_4 : decode cX5_level 4 = .ok (.iload_n 1, 1) := by decide +kernel
theorem dX5_level_5 : decode cX5_level 5 = .ok (.invokevirtual 33, 3) := by decide +kernel
theorem dX5_level_8 : decode cX5_level 8 = .ok (.ireturn, 1) := by decide +kernel
set_option maxRecDepth 20000 in
theorem ggX5_isPlain_X4_at : GoodIn wsX5_isPlain wsX4_at := goodIn_ca (goodIn_r _ [6, 7, 13] (by decide +kernel) (by decide +kernel)) (goodIn_sub (fun _ h => List.mem_cons_of_mem _ (List.mem_append_right _ h)) (by decide +kernel))
set_option maxRecDepth 20000 in
theorem gX5_isPlain_X4_at : GoodIn wsX5_isPlain (wsV RX5 33 RX4 yX4_at wsX4_at) := goodIn_app (goodIn_of _ (by decide +kernel)) ggX5_isPlain_X4_at
theorem dX5_isPlain_0 : decode cX5_isPlain 0 = .ok (.aload_n 0, 1) := by decide +kernel
theorem dX5_isPlain_1 : decode cX5_isPlain 1 = .ok (.getfield 23, 3) := by decide +kernel
theorem dX5_isPlain_4 : decode cX5_isPlain 4 = .ok (.iload_n 1, 1) := by decide +kernel
theorem dX5_isPlain_5 : decode cX5_isPlain 5 = .ok (.invokevirtual 33, 3) := by decide +kernel
theorem dX5_isPlain_8 : decode cX5_isPlain 8 = .ok (.ifCond .ne 7, 3) := by decide +kernel
theorem dX5_isPlain_11 : decode cX5_isPlain 11 = .ok (.iconst 1, 1) := by decide +kernel
theorem dX5_isPlain_12 : decode cX5_isPlain 12 = .ok (.goto 4, 3) := by decide +kernel
theorem dX5_isPlain_15 : decode cX5_isPlain 15 = .ok (.iconst 0, 1) := by decide +kernel
theorem dX5_isPlain_16 : decode cX5_isPlain 16 = .ok (.ireturn, 1) := by decide +kernel
set_option maxRecDepth 20000 in
theorem ggX5_parent_X4_at : GoodIn wsX5_parent wsX4_at := goodIn_ca (goodIn_r _ [6, 7, 13] (by decide +kernel) (by decide +kernel)) (goodIn_sub (fun _ h => List.mem_cons_of_mem _ (List.mem_append_right _ h)) (by decide +kernel))
set_option maxRecDepth 20000 in
theorem gX5_parent_X4_at : GoodIn wsX5_parent (wsV RX5 33 RX4 yX4_at wsX4_at) := goodIn_app (goodIn_of _ (by decide +kernel)) ggX5_parent_X4_at
theorem dX5_parent_0 : decode cX5_parent 0 = .ok (.aload_n 0, 1) := by decide +kernel
theorem dX5_parent_1 : decode cX5_parent 1 = .ok (.getfield 26, 3) := by decide +kernel
theorem dX5_parent_4 : decode cX5_parent 4 = .ok (.iload_n 1, 1) := by decide +kernel
theorem dX5_parent_5 : decode cX5_parent 5 = .ok (.invokevirtual 33, 3) := by decide +kernel
theorem dX5_parent_8 : decode cX5_parent 8 = .ok (.ireturn, 1) := by decide +kernel
set_option maxRecDepth 20000 in
theorem ggX5_put_X4_at : GoodIn wsX5_put wsX4_at := goodIn_ca (goodIn_r _ [8, 9, 25] (by decide +kernel) (by decide +kernel)) (goodIn_sub (fun _ h => List.mem_cons_of_mem _ (List.mem_append_right _ h)) (by decide +kernel))
set_option maxRecDepth 20000 in
theorem gX5_put_X4_at : GoodIn wsX5_put (wsV RX5 33 RX4 yX4_at wsX4_at) := goodIn_app (goodIn_of _ (by decide +kernel)) ggX5_put_X4_at
set_option maxRecDepth 20000 in
theorem ggX5_put_X5_seat : GoodIn wsX5_put wsX5_seat := goodIn_ca (goodIn_r _ [14, 2, 15, 16, 17, 18, 7, 19, 9, 20, 21, 22, 23, 24, 25] (by decide +kernel) (by decide +kernel)) (goodIn_sub (fun _ h => List.mem_cons_of_mem _ (List.mem_append_right _ h)) (by decide +kernel))
set_option maxRecDepth 20000 in
theorem gX5_put_X5_seat : GoodIn wsX5_put (wsV RX5 37 RX5 yX5_seat wsX5_seat) := goodIn_app (goodIn_of _ (by decide +kernel)) ggX5_put_X5_seat
set_option maxRecDepth 20000 in
theorem ggX5_put_X4_put : GoodIn wsX5_put wsX4_put := goodIn_ca (goodIn_r _ [19, 9, 25] (by decide +kernel) (by decide +kernel)) (goodIn_sub (fun _ h => List.mem_cons_of_mem _ (List.mem_append_right _ h)) (by decide +kernel))
set_option maxRecDepth 20000 in
theorem gX5_put_X4_put : GoodIn wsX5_put (wsV RX5 41 RX4 yX4_put wsX4_put) := goodIn_app (goodIn_of _ (by decide +kernel)) ggX5_put_X4_put
theorem dX5_put_0 : decode cX5_put 0 = .ok (.aload_n 0, 1) := by decide +kernel
theorem dX5_put_1 : decode cX5_put 1 = .ok (.getfield 29, 3) := by decide +kernel
theorem dX5_put_4 : decode cX5_put 4 = .ok (.istore 4, 2) := by decide +kernel
theorem dX5_put_6 : decode cX5_put 6 = .ok (.iload 4, 2) := by decide +kernel
theorem dX5_put_8 : decode cX5_put 8 = .ok (.iload_n 2, 1) := by decide +kernel
theorem dX5_put_9 : decode cX5_put 9 = .ok (.if_icmp .le 26, 3) := by decide +kernel
theorem dX5_put_12 : decode cX5_put 12 = .ok (.aload_n 0, 1) := by decide +kernel
theorem dX5_put_13 : decode cX5_put 13 = .ok (.aload_n 0, 1) := by decide +kernel
theorem dX5_put_14 : decode cX5_put 14 = .ok (.getfield 14, 3) := by decide +kernel
theorem dX5_put_17 : decode cX5_put 17 = .ok (.iload 4, 2) := by decide +kernel
theorem dX5_put_19 : decode cX5_put 19 = .ok (.iconst 1, 1) := by decide +kernel
theorem dX5_put_20 : decode cX5_put 20 = .ok (.isub, 1) := by decide +kernel
theorem dX5_put_21 : decode cX5_put 21 = .ok (.invokevirtual 33, 3) := by decide +kernel
theorem dX5_put_24 : decode cX5_put 24 = .ok (.iload 4, 2) := by decide +kernel
theorem dX5_put_26 : decode cX5_put 26 = .ok (.invokevirtual 37, 3) := by decide +kernel
theorem dX5_put_29 : decode cX5_put 29 = .ok (.iinc 4 (-1), 3) := by decide +kernel
theorem dX5_put_32 : decode cX5_put 32 = .ok (.goto (-26), 3) := by decide +kernel
theorem dX5_put_35 : decode cX5_put 35 = .ok (.aload_n 0, 1) := by decide +kernel
theorem dX5_put_36 : decode cX5_put 36 = .ok (.iload_n 1, 1) := by decide +kernel
theorem dX5_put_37 : decode cX5_put 37 = .ok (.iload_n 2, 1) := by decide +kernel
theorem dX5_put_38 : decode cX5_put 38 = .ok (.invokevirtual 37, 3) := by decide +kernel
theorem dX5_put_41 : decode cX5_put 41 = .ok (.aload_n 0, 1) := by decide +kernel
theorem dX5_put_42 : decode cX5_put 42 = .ok (.getfield 23, 3) := by decide +kernel
theorem dX5_put_45 : decode cX5_put 45 = .ok (.iload_n 1, 1) := by decide +kernel
theorem dX5_put_46 : decode cX5_put 46 = .ok (.iload_n 3, 1) := by decide +kernel
theorem dX5_put_47 : decode cX5_put 47 = .ok (.invokevirtual 41, 3) := by decide +kernel
theorem dX5_put_50 : decode cX5_put 50 = .ok (.aload_n 0, 1) := by decide +kernel
theorem dX5_put_51 : decode cX5_put 51 = .ok (.dup, 1) := by decide +kernel
theorem dX5_put_52 : decode cX5_put 52 = .ok (.getfield 29, 3) := by decide +kernel
theorem dX5_put_55 : decode cX5_put 55 = .ok (.iconst 1, 1) := by decide +kernel
theorem dX5_put_56 : decode cX5_put 56 = .ok (.iadd, 1) := by decide +kernel
theorem dX5_put_57 : decode cX5_put 57 = .ok (.putfield 29, 3) := by decide +kernel
theorem dX5_put_60 : decode cX5_put 60 = .ok (.return_, 1) := by decide +kernel
set_option maxRecDepth 20000 in
theorem ggX5_take_X5_place : GoodIn wsX5_take wsX5_place := goodIn_ca (goodIn_r _ [8, 3, 9, 10, 11, 12, 13, 14, 23, 24, 25, 26, 27, 28] (by decide +kernel) (by decide +kernel)) (goodIn_sub (fun _ h => List.mem_cons_of_mem _ (List.mem_append_right _ h)) (by decide +kernel))
set_option maxRecDepth 20000 in
theorem gX5_take_X5_place : GoodIn wsX5_take (wsV RX5 44 RX5 yX5_place wsX5_place) := goodIn_app (goodIn_of _ (by decide +kernel)) ggX5_take_X5_place
set_option maxRecDepth 20000 in
theorem ggX5_take_X4_at : GoodIn wsX5_take wsX4_at := goodIn_ca (goodIn_r _ [13, 14, 28] (by decide +kernel) (by decide +kernel)) (goodIn_sub (fun _ h => List.mem_cons_of_mem _ (List.mem_append_right _ h)) (by decide +kernel))
set_option maxRecDepth 20000 in
theorem gX5_take_X4_at : GoodIn wsX5_take (wsV RX5 33 RX4 yX4_at wsX4_at) := goodIn_app (goodIn_of _ (by decide +kernel)) ggX5_take_X4_at
set_option maxRecDepth 20000 in
theorem ggX5_take_X5_seat : GoodIn wsX5_take wsX5_seat := goodIn_ca (goodIn_r _ [18, 2, 3, 19, 20, 21, 12, 22, 14, 23, 24, 25, 26, 27, 28] (by decide +kernel) (by decide +kernel)) (goodIn_sub (fun _ h => List.mem_cons_of_mem _ (List.mem_append_right _ h)) (by decide +kernel))
set_option maxRecDepth 20000 in
theorem gX5_take_X5_seat : GoodIn wsX5_take (wsV RX5 37 RX5 yX5_seat wsX5_seat) := goodIn_app (goodIn_of _ (by decide +kernel)) ggX5_take_X5_seat
set_option maxRecDepth 20000 in
theorem ggX5_take_X4_put : GoodIn wsX5_take wsX4_put := goodIn_ca (goodIn_r _ [22, 14, 28] (by decide +kernel) (by decide +kernel)) (goodIn_sub (fun _ h => List.mem_cons_of_mem _ (List.mem_append_right _ h)) (by decide +kernel))
set_option maxRecDepth 20000 in
theorem gX5_take_X4_put : GoodIn wsX5_take (wsV RX5 41 RX4 yX4_put wsX4_put) := goodIn_app (goodIn_of _ (by decide +kernel)) ggX5_take_X4_put
theorem dX5_take_0 : decode cX5_take 0 = .ok (.aload_n 0, 1) := by decide +kernel
theorem dX5_take_1 : decode cX5_take 1 = .ok (.dup, 1) := by decide +kernel
theorem dX5_take_2 : decode cX5_take 2 = .ok (.getfield 29, 3) := by decide +kernel
theorem dX5_take_5 : decode cX5_take 5 = .ok (.iconst 1, 1) := by decide +kernel
theorem dX5_take_6 : decode cX5_take 6 = .ok (.isub, 1) := by decide +kernel
theorem dX5_take_7 : decode cX5_take 7 = .ok (.putfield 29, 3) := by decide +kernel
theorem dX5_take_10 : decode cX5_take 10 = .ok (.aload_n 0, 1) := by decide +kernel
theorem dX5_take_11 : decode cX5_take 11 = .ok (.iload_n 1, 1) := by decide +kernel
theorem dX5_take_12 : decode cX5_take 12 = .ok (.invokevirtual 44, 3) := by decide +kernel
theorem dX5_take_15 : decode cX5_take 15 = .ok (.istore_n 2, 1) := by decide +kernel
theorem dX5_take_16 : decode cX5_take 16 = .ok (.iload_n 2, 1) := by decide +kernel
theorem dX5_take_17 : decode cX5_take 17 = .ok (.aload_n 0, 1) := by decide +kernel
theorem dX5_take_18 : decode cX5_take 18 = .ok (.getfield 29, 3) := by decide +kernel
theorem dX5_take_21 : decode cX5_take 21 = .ok (.if_icmp .ge 24, 3) := by decide +kernel
theorem dX5_take_24 : decode cX5_take 24 = .ok (.aload_n 0, 1) := by decide +kernel
theorem dX5_take_25 : decode cX5_take 25 = .ok (.aload_n 0, 1) := by decide +kernel
theorem dX5_take_26 : decode cX5_take 26 = .ok (.getfield 14, 3) := by decide +kernel
theorem dX5_take_29 : decode cX5_take 29 = .ok (.iload_n 2, 1) := by decide +kernel
theorem dX5_take_30 : decode cX5_take 30 = .ok (.iconst 1, 1) := by decide +kernel
theorem dX5_take_31 : decode cX5_take 31 = .ok (.iadd, 1) := by decide +kernel
theorem dX5_take_32 : decode cX5_take 32 = .ok (.invokevirtual 33, 3) := by decide +kernel
theorem dX5_take_35 : decode cX5_take 35 = .ok (.iload_n 2, 1) := by decide +kernel
theorem dX5_take_36 : decode cX5_take 36 = .ok (.invokevirtual 37, 3) := by decide +kernel
theorem dX5_take_39 : decode cX5_take 39 = .ok (.iinc 2 1, 3) := by decide +kernel
theorem dX5_take_42 : decode cX5_take 42 = .ok (.goto (-26), 3) := by decide +kernel
theorem dX5_take_45 : decode cX5_take 45 = .ok (.aload_n 0, 1) := by decide +kernel
theorem dX5_take_46 : decode cX5_take 46 = .ok (.getfield 20, 3) := by decide +kernel
theorem dX5_take_49 : decode cX5_take 49 = .ok (.iload_n 1, 1) := by decide +kernel
theorem dX5_take_50 : decode cX5_take 50 = .ok (.iconst 0, 1) := by decide +kernel
theorem dX5_take_51 : decode cX5_take 51 = .ok (.invokevirtual 41, 3) := by decide +kernel
theorem dX5_take_54 : decode cX5_take 54 = .ok (.return_, 1) := by decide +kernel
set_option maxRecDepth 20000 in
theorem ggX5_shift_X5_take : GoodIn wsX5_shift wsX5_take := goodIn_ca (goodIn_r _ [5, 6, 7, 8, 9, 10, 11, 4, 12, 13, 14, 15, 16, 17, 18, 19, 20, 21, 22, 23, 24, 25, 26, 36, 37, 38, 39, 40, 41] (by decide +kernel) (by decide +kernel)) (goodIn_sub (fun _ h => List.mem_cons_of_mem _ (List.mem_append_right _ h)) (by decide +kernel))
set_option maxRecDepth 20000 in
theorem gX5_shift_X5_take : GoodIn wsX5_shift (wsV RX5 47 RX5 yX5_take wsX5_take) := goodIn_app (goodIn_of _ (by decide +kernel)) ggX5_shift_X5_take
set_option maxRecDepth 20000 in
theorem ggX5_shift_X5_level : GoodIn wsX5_shift wsX5_level := goodIn_ca (goodIn_r _ [30, 31, 13, 14, 15, 16, 17, 18, 36, 37, 38, 39, 40, 41] (by decide +kernel) (by decide +kernel)) (goodIn_sub (fun _ h => List.mem_cons_of_mem _ (List.mem_append_right _ h)) (by decide +kernel))
set_option maxRecDepth 20000 in
theorem gX5_shift_X5_level : GoodIn wsX5_shift (wsV RX5 50 RX5 yX5_level wsX5_level) := goodIn_app (goodIn_of _ (by decide +kernel)) ggX5_shift_X5_level
set_option maxRecDepth 20000 in
theorem ggX5_shift_X5_put : GoodIn wsX5_shift wsX5_put := goodIn_ca (goodIn_r _ [35, 6, 7, 31, 13, 14, 15, 16, 17, 18, 19, 20, 21, 4, 22, 8, 23, 24, 25, 26, 36, 37, 38, 39, 40, 41] (by decide +kernel) (by decide +kernel)) (goodIn_sub (fun _ h => List.mem_cons_of_mem _ (List.mem_append_right _ h)) (by decide +kernel))
set_option maxRecDepth 20000 in
theorem gX5_shift_X5_put : GoodIn wsX5_shift (wsV RX5 53 RX5 yX5_put wsX5_put) := goodIn_app (goodIn_of _ (by decide +kernel)) ggX5_shift_X5_put
theorem dX5_shift_0 : decode cX5_shift 0 = .ok (.aload_n 0, 1) := by decide +kernel
theorem dX5_shift_1 : decode cX5_shift 1 = .ok (.iload_n 1, 1) := by decide +kernel
theorem dX5_shift_2 : decode cX5_shift 2 = .ok (.invokevirtual 47, 3) := by decide +kernel
theorem dX5_shift_5 : decode cX5_shift 5 = .ok (.aload_n 0, 1) := by decide +kernel
theorem dX5_shift_6 : decode cX5_shift 6 = .ok (.iload_n 1, 1) := by decide +kernel
theorem dX5_shift_7 : decode cX5_shift 7 = .ok (.iload_n 2, 1) := by decide +kernel
theorem dX5_shift_8 : decode cX5_shift 8 = .ok (.aload_n 0, 1) := by decide +kernel
theorem dX5_shift_9 : decode cX5_shift 9 = .ok (.iload_n 1, 1) := by decide +kernel
theorem dX5_shift_10 : decode cX5_shift 10 = .ok (.invokevirtual 50, 3) := by decide +kernel
theorem dX5_shift_13 : decode cX5_shift 13 = .ok (.invokevirtual 53, 3) := by decide +kernel
theorem dX5_shift_16 : decode cX5_shift 16 = .ok (.return_, 1) := by decide +kernel
set_option maxRecDepth 20000 in
theorem ggX5_putLevel_X4_put : GoodIn wsX5_putLevel wsX4_put := goodIn_ca (goodIn_r _ [6, 7, 13] (by decide +kernel) (by decide +kernel)) (goodIn_sub (fun _ h => List.mem_cons_of_mem _ (List.mem_append_right _ h)) (by decide +kernel))
set_option maxRecDepth 20000 in
theorem gX5_putLevel_X4_put : GoodIn wsX5_putLevel (wsV RX5 41 RX4 yX4_put wsX4_put) := goodIn_app (goodIn_of _ (by decide +kernel)) ggX5_putLevel_X4_put
theorem dX5_putLevel_0 : decode cX5_putLevel 0 = .ok (.aload_n 0, 1) := by decide +kernel
theorem dX5_putLevel_1 : decode cX5_putLevel 1 = .ok (.getfield 23, 3) := by decide +kernel
theorem dX5_putLevel_4 : decode cX5_putLevel 4 = .ok (.iload_n 1, 1) := by decide +kernel
theorem dX5_putLevel_5 : decode cX5_putLevel 5 = .ok (.iload_n 2, 1) := by decide +kernel
theorem dX5_putLevel_6 : decode cX5_putLevel 6 = .ok (.invokevirtual 41, 3) := by decide +kernel
theorem dX5_putLevel_9 : decode cX5_putLevel 9 = .ok (.return_, 1) := by decide +kernel
set_option maxRecDepth 20000 in
theorem ggX5_seat_X4_put : GoodIn wsX5_seat wsX4_put := goodIn_ca (goodIn_r _ [7, 8, 14] (by decide +kernel) (by decide +kernel)) (goodIn_sub (fun _ h => List.mem_cons_of_mem _ (List.mem_append_right _ h)) (by decide +kernel))
set_option maxRecDepth 20000 in
theorem gX5_seat_X4_put : GoodIn wsX5_seat (wsV RX5 41 RX4 yX4_put wsX4_put) := goodIn_app (goodIn_of _ (by decide +kernel)) ggX5_seat_X4_put
theorem dX5_seat_0 : decode cX5_seat 0 = .ok (.aload_n 0, 1) := by decide +kernel
theorem dX5_seat_1 : decode cX5_seat 1 = .ok (.getfield 14, 3) := by decide +kernel
theorem dX5_seat_4 : decode cX5_seat 4 = .ok (.iload_n 2, 1) := by decide +kernel
theorem dX5_seat_5 : decode cX5_seat 5 = .ok (.iload_n 1, 1) := by decide +kernel
theorem dX5_seat_6 : decode cX5_seat 6 = .ok (.invokevirtual 41, 3) := by decide +kernel
theorem dX5_seat_9 : decode cX5_seat 9 = .ok (.aload_n 0, 1) := by decide +kernel
theorem dX5_seat_10 : decode cX5_seat 10 = .ok (.getfield 20, 3) := by decide +kernel
theorem dX5_seat_13 : decode cX5_seat 13 = .ok (.iload_n 1, 1) := by decide +kernel
theorem dX5_seat_14 : decode cX5_seat 14 = .ok (.iload_n 2, 1) := by decide +kernel
theorem dX5_seat_15 : decode cX5_seat 15 = .ok (.iconst 1, 1) := by decide +kernel
theorem dX5_seat_16 : decode cX5_seat 16 = .ok (.iadd, 1) := by decide +kernel
theorem dX5_seat_17 : decode cX5_seat 17 = .ok (.invokevirtual 41, 3) := by decide +kernel
theorem dX5_seat_20 : decode cX5_seat 20 = .ok (.return_, 1) := by decide +kernel
set_option maxRecDepth 20000 in
theorem ggX5_findParents_X4_at : GoodIn wsX5_findParents wsX4_at := goodIn_ca (goodIn_r _ [8, 9, 29] (by decide +kernel) (by decide +kernel)) (goodIn_sub (fun _ h => List.mem_cons_of_mem _ (List.mem_append_right _ h)) (by decide +kernel))
set_option maxRecDepth 20000 in
theorem gX5_findParents_X4_at : GoodIn wsX5_findParents (wsV RX5 33 RX4 yX4_at wsX4_at) := goodIn_app (goodIn_of _ (by decide +kernel)) ggX5_findParents_X4_at
set_option maxRecDepth 20000 in
theorem ggX5_findParents_X5_parentFrom : GoodIn wsX5_findParents wsX5_parentFrom := goodIn_ca (goodIn_r _ [14, 3, 4, 5, 6, 7, 8, 9, 15, 16, 17, 13, 18, 19, 24, 25, 26, 27, 28, 29] (by decide +kernel) (by decide +kernel)) (goodIn_sub (fun _ h => List.mem_cons_of_mem _ (List.mem_append_right _ h)) (by decide +kernel))
set_option maxRecDepth 20000 in
theorem gX5_findParents_X5_parentFrom : GoodIn wsX5_findParents (wsV RX5 56 RX5 yX5_parentFrom wsX5_parentFrom) := goodIn_app (goodIn_of _ (by decide +kernel)) ggX5_findParents_X5_parentFrom
set_option maxRecDepth 20000 in
theorem ggX5_findParents_X4_put : GoodIn wsX5_findParents wsX4_put := goodIn_ca (goodIn_r _ [23, 9, 29] (by decide +kernel) (by decide +kernel)) (goodIn_sub (fun _ h => List.mem_cons_of_mem _ (List.mem_append_right _ h)) (by decide +kernel))
set_option maxRecDepth 20000 in
theorem gX5_findParents_X4_put : GoodIn wsX5_findParents (wsV RX5 41 RX4 yX4_put wsX4_put) := goodIn_app (goodIn_of _ (by decide +kernel)) ggX5_findParents_X4_put
theorem dX5_findParents_0 : decode cX5_findParents 0 = .ok (.iconst 0, 1) := by decide +kernel
theorem dX5_findParents_1 : decode cX5_findParents 1 = .ok (.istore_n 1, 1) := by decide +kernel
theorem dX5_findParents_2 : decode cX5_findParents 2 = .ok (.iload_n 1, 1) := by decide +kernel
theorem dX5_findParents_3 : decode cX5_findParents 3 = .ok (.aload_n 0, 1) := by decide +kernel
theorem dX5_findParents_4 : decode cX5_findParents 4 = .ok (.getfield 29, 3) := by decide +kernel
theorem dX5_findParents_7 : decode cX5_findParents 7 = .ok (.if_icmp .ge 29, 3) := by decide +kernel
theorem dX5_findParents_10 : decode cX5_findParents 10 = .ok (.aload_n 0, 1) := by decide +kernel
theorem dX5_findParents_11 : decode cX5_findParents 11 = .ok (.getfield 26, 3) := by decide +kernel
theorem dX5_findParents_14 : decode cX5_findParents 14 = .ok (.aload_n 0, 1) := by decide +kernel
theorem dX5_findParents_15 : decode cX5_findParents 15 = .ok (.getfield 14, 3) := by decide +kernel
theorem dX5_findParents_18 : decode cX5_findParents 18 = .ok (.iload_n 1, 1) := by decide +kernel
theorem dX5_findParents_19 : decode cX5_findParents 19 = .ok (.invokevirtual 33, 3) := by decide +kernel
theorem dX5_findParents_22 : decode cX5_findParents 22 = .ok (.aload_n 0, 1) := by decide +kernel
theorem dX5_findParents_23 : decode cX5_findParents 23 = .ok (.iload_n 1, 1) := by decide +kernel
theorem dX5_findParents_24 : decode cX5_findParents 24 = .ok (.invokevirtual 56, 3) := by decide +kernel
theorem dX5_findParents_27 : decode cX5_findParents 27 = .ok (.invokevirtual 41, 3) := by decide +kernel
theorem dX5_findParents_30 : decode cX5_findParents 30 = .ok (.iinc 1 1, 3) := by decide +kernel
theorem dX5_findParents_33 : decode cX5_findParents 33 = .ok (.goto (-31), 3) := by decide +kernel
theorem dX5_findParents_36 : decode cX5_findParents 36 = .ok (.return_, 1) := by decide +kernel
set_option maxRecDepth 20000 in
theorem ggX5_parentFrom_X4_at : GoodIn wsX5_parentFrom wsX4_at := goodIn_ca (goodIn_r _ [6, 7, 19] (by decide +kernel) (by decide +kernel)) (goodIn_sub (fun _ h => List.mem_cons_of_mem _ (List.mem_append_right _ h)) (by decide +kernel))
set_option maxRecDepth 20000 in
theorem gX5_parentFrom_X4_at : GoodIn wsX5_parentFrom (wsV RX5 33 RX4 yX4_at wsX4_at) := goodIn_app (goodIn_of _ (by decide +kernel)) ggX5_parentFrom_X4_at
set_option maxRecDepth 20000 in
theorem ggX5_parentFrom_X5_level : GoodIn wsX5_parentFrom wsX5_level := goodIn_ca (goodIn_r _ [12, 13, 2, 3, 4, 5, 6, 7, 14, 15, 16, 17, 18, 19] (by decide +kernel) (by decide +kernel)) (goodIn_sub (fun _ h => List.mem_cons_of_mem _ (List.mem_append_right _ h)) (by decide +kernel))
set_option maxRecDepth 20000 in
theorem gX5_parentFrom_X5_level : GoodIn wsX5_parentFrom (wsV RX5 50 RX5 yX5_level wsX5_level) := goodIn_app (goodIn_of _ (by decide +kernel)) ggX5_parentFrom_X5_level
theorem dX5_parentFrom_0 : decode cX5_parentFrom 0 = .ok (.aload_n 0, 1) := by decide +kernel
theorem dX5_parentFrom_1 : decode cX5_parentFrom 1 = .ok (.aload_n 0, 1) := by decide +kernel
theorem dX5_parentFrom_2 : decode cX5_parentFrom 2 = .ok (.getfield 14, 3) := by decide +kernel
theorem dX5_parentFrom_5 : decode cX5_parentFrom 5 = .ok (.iload_n 1, 1) := by decide +kernel
theorem dX5_parentFrom_6 : decode cX5_parentFrom 6 = .ok (.invokevirtual 33, 3) := by decide +kernel
theorem dX5_parentFrom_9 : decode cX5_parentFrom 9 = .ok (.invokevirtual 50, 3) := by decide +kernel
theorem dX5_parentFrom_12 : decode cX5_parentFrom 12 = .ok (.istore_n 2, 1) := by decide +kernel
theorem dX5_parentFrom_13 : decode cX5_parentFrom 13 = .ok (.iload_n 1, 1) := by decide +kernel
theorem dX5_parentFrom_14 : decode cX5_parentFrom 14 = .ok (.iconst 1, 1) := by decide +kernel
theorem dX5_parentFrom_15 : decode cX5_parentFrom 15 = .ok (.isub, 1) := by decide +kernel
theorem dX5_parentFrom_16 : decode cX5_parentFrom 16 = .ok (.istore_n 3, 1) := by decide +kernel
theorem dX5_parentFrom_17 : decode cX5_parentFrom 17 = .ok (.iload_n 3, 1) := by decide +kernel
theorem dX5_parentFrom_18 : decode cX5_parentFrom 18 = .ok (.ifCond .lt 41, 3) := by decide +kernel
theorem dX5_parentFrom_21 : decode cX5_parentFrom 21 = .ok (.aload_n 0, 1) := by decide +kernel
theorem dX5_parentFrom_22 : decode cX5_parentFrom 22 = .ok (.getfield 14, 3) := by decide +kernel
theorem dX5_parentFrom_25 : decode cX5_parentFrom 25 = .ok (.iload_n 3, 1) := by decide +kernel
theorem dX5_parentFrom_26 : decode cX5_parentFrom 26 = .ok (.invokevirtual 33, 3) := by decide +kernel
theorem dX5_parentFrom_29 : decode cX5_parentFrom 29 = .ok (.istore 4, 2) := by decide +kernel
theorem dX5_parentFrom_31 : decode cX5_parentFrom 31 = .ok (.aload_n 0, 1) := by decide +kernel
theorem dX5_parentFrom_32 : decode cX5_parentFrom 32 = .ok (.iload 4, 2) := by decide +kernel
theorem dX5_parentFrom_34 : decode cX5_parentFrom 34 = .ok (.invokevirtual 50, 3) := by decide +kernel
theorem dX5_parentFrom_37 : decode cX5_parentFrom 37 = .ok (.ifCond .eq 16, 3) := by decide +kernel
theorem dX5_parentFrom_40 : decode cX5_parentFrom 40 = .ok (.aload_n 0, 1) := by decide +kernel
theorem dX5_parentFrom_41 : decode cX5_parentFrom 41 = .ok (.iload 4, 2) := by decide +kernel
theorem dX5_parentFrom_43 : decode cX5_parentFrom 43 = .ok (.invokevirtual 50, 3) := by decide +kernel
theorem dX5_parentFrom_46 : decode cX5_parentFrom 46 = .ok (.iload_n 2, 1) := by decide +kernel
theorem dX5_parentFrom_47 : decode cX5_parentFrom 47 = .ok (.if_icmp .ge 6, 3) := by decide +kernel
theorem dX5_parentFrom_50 : decode cX5_parentFrom 50 = .ok (.iload 4, 2) := by decide +kernel
theorem dX5_parentFrom_52 : decode cX5_parentFrom 52 = .ok (.ireturn, 1) := by decide +kernel
theorem dX5_parentFrom_53 : decode cX5_parentFrom 53 = .ok (.iinc 3 (-1), 3) := by decide +kernel
theorem dX5_parentFrom_56 : decode cX5_parentFrom 56 = .ok (.goto (-39), 3) := by decide +kernel
theorem dX5_parentFrom_59 : decode cX5_parentFrom 59 = .ok (.iconst (-1), 1) := by decide +kernel
theorem dX5_parentFrom_60 : decode cX5_parentFrom 60 = .ok (.ireturn, 1) := by decide +kernel
set_option maxRecDepth 20000 in
theorem ggX5_ancestor_X5_parent : GoodIn wsX5_ancestor wsX5_parent := goodIn_ca (goodIn_r _ [5, 6, 7, 8, 9, 10, 11, 12, 13, 14, 15, 16, 17, 18] (by decide +kernel) (by decide +kernel)) (goodIn_sub (fun _ h => List.mem_cons_of_mem _ (List.mem_append_right _ h)) (by decide +kernel))
set_option maxRecDepth 20000 in
theorem gX5_ancestor_X5_parent : GoodIn wsX5_ancestor (wsV RX5 59 RX5 yX5_parent wsX5_parent) := goodIn_app (goodIn_of _ (by decide +kernel)) ggX5_ancestor_X5_parent
theorem dX5_ancestor_0 : decode cX5_ancestor 0 = .ok (.iload_n 1, 1) := by decide +kernel
theorem dX5_ancestor_1 : decode cX5_ancestor 1 = .ok (.istore_n 3, 1) := by decide +kernel
theorem dX5_ancestor_2 : decode cX5_ancestor 2 = .ok (.iconst 0, 1) := by decide +kernel
theorem dX5_ancestor_3 : decode cX5_ancestor 3 = .ok (.istore 4, 2) := by decide +kernel
theorem dX5_ancestor_5 : decode cX5_ancestor 5 = .ok (.iload 4, 2) := by decide +kernel
theorem dX5_ancestor_7 : decode cX5_ancestor 7 = .ok (.iload_n 2, 1) := by decide +kernel
theorem dX5_ancestor_8 : decode cX5_ancestor 8 = .ok (.if_icmp .ge 20, 3) := by decide +kernel
theorem dX5_ancestor_11 : decode cX5_ancestor 11 = .ok (.iload_n 3, 1) := by decide +kernel
theorem dX5_ancestor_12 : decode cX5_ancestor 12 = .ok (.iconst (-1), 1) := by decide +kernel
theorem dX5_ancestor_13 : decode cX5_ancestor 13 = .ok (.if_icmp .eq 15, 3) := by decide +kernel
theorem dX5_ancestor_16 : decode cX5_ancestor 16 = .ok (.aload_n 0, 1) := by decide +kernel
theorem dX5_ancestor_17 : decode cX5_ancestor 17 = .ok (.iload_n 3, 1) := by decide +kernel
theorem dX5_ancestor_18 : decode cX5_ancestor 18 = .ok (.invokevirtual 59, 3) := by decide +kernel
theorem dX5_ancestor_21 : decode cX5_ancestor 21 = .ok (.istore_n 3, 1) := by decide +kernel
theorem dX5_ancestor_22 : decode cX5_ancestor 22 = .ok (.iinc 4 1, 3) := by decide +kernel
theorem dX5_ancestor_25 : decode cX5_ancestor 25 = .ok (.goto (-20), 3) := by decide +kernel
theorem dX5_ancestor_28 : decode cX5_ancestor 28 = .ok (.iload_n 3, 1) := by decide +kernel
theorem dX5_ancestor_29 : decode cX5_ancestor 29 = .ok (.ireturn, 1) := by decide +kernel
set_option maxRecDepth 20000 in
theorem ggX5_isAbove_X5_parent : GoodIn wsX5_isAbove wsX5_parent := goodIn_ca (goodIn_r _ [5, 6, 7, 8, 9, 10, 11, 12, 13, 14, 15, 16, 17, 18] (by decide +kernel) (by decide +kernel)) (goodIn_sub (fun _ h => List.mem_cons_of_mem _ (List.mem_append_right _ h)) (by decide +kernel))
set_option maxRecDepth 20000 in
theorem gX5_isAbove_X5_parent : GoodIn wsX5_isAbove (wsV RX5 59 RX5 yX5_parent wsX5_parent) := goodIn_app (goodIn_of _ (by decide +kernel)) ggX5_isAbove_X5_parent
theorem dX5_isAbove_0 : decode cX5_isAbove 0 = .ok (.iload_n 2, 1) := by decide +kernel
theorem dX5_isAbove_1 : decode cX5_isAbove 1 = .ok (.istore_n 3, 1) := by decide +kernel
theorem dX5_isAbove_2 : decode cX5_isAbove 2 = .ok (.iconst 1, 1) := by decide +kernel
theorem dX5_isAbove_3 : decode cX5_isAbove 3 = .ok (.istore 4, 2) := by decide +kernel
theorem dX5_isAbove_5 : decode cX5_isAbove 5 = .ok (.iload 4, 2) := by decide +kernel
theorem dX5_isAbove_7 : decode cX5_isAbove 7 = .ok (.iconst 4, 1) := by decide +kernel
theorem dX5_isAbove_8 : decode cX5_isAbove 8 = .ok (.if_icmp .ge 27, 3) := by decide +kernel
theorem dX5_isAbove_11 : decode cX5_isAbove 11 = .ok (.iload_n 3, 1) := by decide +kernel
theorem dX5_isAbove_12 : decode cX5_isAbove 12 = .ok (.iconst (-1), 1) := by decide +kernel
theorem dX5_isAbove_13 : decode cX5_isAbove 13 = .ok (.if_icmp .eq 22, 3) := by decide +kernel
theorem dX5_isAbove_16 : decode cX5_isAbove 16 = .ok (.aload_n 0, 1) := by decide +kernel
theorem dX5_isAbove_17 : decode cX5_isAbove 17 = .ok (.iload_n 3, 1) := by decide +kernel
theorem dX5_isAbove_18 : decode cX5_isAbove 18 = .ok (.invokevirtual 59, 3) := by decide +kernel
theorem dX5_isAbove_21 : decode cX5_isAbove 21 = .ok (.istore_n 3, 1) := by decide +kernel
theorem dX5_isAbove_22 : decode cX5_isAbove 22 = .ok (.iload_n 3, 1) := by decide +kernel
theorem dX5_isAbove_23 : decode cX5_isAbove 23 = .ok (.iload_n 1, 1) := by decide +kernel
theorem dX5_isAbove_24 : decode cX5_isAbove 24 = .ok (.if_icmp .ne 5, 3) := by decide +kernel
theorem dX5_isAbove_27 : decode cX5_isAbove 27 = .ok (.iconst 1, 1) := by decide +kernel
theorem dX5_isAbove_28 : decode cX5_isAbove 28 = .ok (.ireturn, 1) := by decide +kernel
theorem dX5_isAbove_29 : decode cX5_isAbove 29 = .ok (.iinc 4 1, 3) := by decide +kernel
theorem dX5_isAbove_32 : decode cX5_isAbove 32 = .ok (.goto (-27), 3) := by decide +kernel
theorem dX5_isAbove_35 : decode cX5_isAbove 35 = .ok (.iconst 0, 1) := by decide +kernel
theorem dX5_isAbove_36 : decode cX5_isAbove 36 = .ok (.ireturn, 1) := by decide +kernel
theorem dX6_init_0 : decode cX6_init 0 = .ok (.aload_n 0, 1) := by decide +kernel
theorem dX6_init_1 : decode cX6_init 1 = .ok (.invokespecial 1, 3) := by decide +kernel
theorem dX6_init_4 : decode cX6_init 4 = .ok (.aload_n 0, 1) := by decide +kernel
theorem dX6_init_5 : decode cX6_init 5 = .ok (.sipush 512, 3) := by decide +kernel
theorem dX6_init_8 : decode cX6_init 8 = .ok (.newarray .char, 2) := by decide +kernel
theorem dX6_init_10 : decode cX6_init 10 = .ok (.putfield 9, 3) := by decide +kernel
theorem dX6_init_13 : decode cX6_init 13 = .ok (.return_, 1) := by decide +kernel
theorem dX6_length_0 : decode cX6_length 0 = .ok (.aload_n 0, 1) := by decide +kernel
theorem dX6_length_1 : decode cX6_length 1 = .ok (.getfield 13, 3) := by decide +kernel
theorem dX6_length_4 : decode cX6_length 4 = .ok (.ireturn, 1) := by decide +kernel
theorem dX6_clear_0 : decode cX6_clear 0 = .ok (.aload_n 0, 1) := by decide +kernel
theorem dX6_clear_1 : decode cX6_clear 1 = .ok (.iconst 0, 1) := by decide +kernel
theorem dX6_clear_2 : decode cX6_clear 2 = .ok (.putfield 13, 3) := by decide +kernel
theorem dX6_clear_5 : decode cX6_clear 5 = .ok (.return_, 1) := by decide +kernel
theorem dX6_signAt_0 : decode cX6_signAt 0 = .ok (.iload_n 1, 1) := by decide +kernel
theorem dX6_signAt_1 : decode cX6_signAt 1 = .ok (.ifCond .lt 21, 3) := by decide +kernel
theorem dX6_signAt_4 : decode cX6_signAt 4 = .ok (.iload_n 1, 1) := by decide +kernel
theorem dX6_signAt_5 : decode cX6_signAt 5 = .ok (.aload_n 0, 1) := by decide +kernel
theorem dX6_signAt_6 : decode cX6_signAt 6 = .ok (.getfield 9, 3) := by decide +kernel
theorem dX6_signAt_9 : decode cX6_signAt 9 = .ok (.arraylength, 1) := by decide +kernel
theorem dX6_signAt_10 : decode cX6_signAt 10 = .ok (.if_icmp .ge 12, 3) := by decide +kernel
theorem dX6_signAt_13 : decode cX6_signAt 13 = .ok (.aload_n 0, 1) := by decide +kernel
theorem dX6_signAt_14 : decode cX6_signAt 14 = .ok (.getfield 9, 3) := by decide +kernel
theorem dX6_signAt_17 : decode cX6_signAt 17 = .ok (.iload_n 1, 1) := by decide +kernel
theorem dX6_signAt_18 : decode cX6_signAt 18 = .ok (.caload, 1) := by decide +kernel
theorem dX6_signAt_19 : decode cX6_signAt 19 = .ok (.goto 5, 3) := by decide +kernel
theorem dX6_signAt_22 : decode cX6_signAt 22 = .ok (.bipush 32, 2) := by decide +kernel
theorem dX6_signAt_24 : decode cX6_signAt 24 = .ok (.ireturn, 1) := by decide +kernel
theorem dX6_append_0 : decode cX6_append 0 = .ok (.aload_n 0, 1) := by decide +kernel
theorem dX6_append_1 : decode cX6_append 1 = .ok (.getfield 13, 3) := by decide +kernel
theorem dX6_append_4 : decode cX6_append 4 = .ok (.ifCond .lt 35, 3) := by decide +kernel
theorem dX6_append_7 : decode cX6_append 7 = .ok (.aload_n 0, 1) := by decide +kernel
theorem dX6_append_8 : decode cX6_append 8 = .ok (.getfield 13, 3) := by decide +kernel
theorem dX6_append_11 : decode cX6_append 11 = .ok (.aload_n 0, 1) := by decide +kernel
theorem dX6_append_12 : decode cX6_append 12 = .ok (.getfield 9, 3) := by decide +kernel
theorem dX6_append_15 : decode cX6_append 15 = .ok (.arraylength, 1) := by decide +kernel
theorem dX6_append_16 : decode cX6_append 16 = .ok (.if_icmp .ge 23, 3) := by decide +kernel
theorem dX6_append_19 : decode cX6_append 19 = .ok (.aload_n 0, 1) := by decide +kernel
theorem dX6_append_20 : decode cX6_append 20 = .ok (.getfield 9, 3) := by decide +kernel
theorem dX6_append_23 : decode cX6_append 23 = .ok (.aload_n 0, 1) := by decide +kernel
theorem dX6_append_24 : decode cX6_append 24 = .ok (.getfield 13, 3) := by decide +kernel
theorem dX6_append_27 : decode cX6_append 27 = .ok (.iload_n 1, 1) := by decide +kernel
theorem dX6_append_28 : decode cX6_append 28 = .ok (.castore, 1) := by decide +kernel
theorem dX6_append_29 : decode cX6_append 29 = .ok (.aload_n 0, 1) := by decide +kernel
theorem dX6_append_30 : decode cX6_append 30 = .ok (.dup, 1) := by decide +kernel
theorem dX6_append_31 : decode cX6_append 31 = .ok (.getfield 13, 3) := by decide +kernel
theorem dX6_append_34 : decode cX6_append 34 = .ok (.iconst 1, 1) := by decide +kernel
theorem dX6_append_35 : decode cX6_append 35 = .ok (.iadd, 1) := by decide +kernel
theorem dX6_append_36 : decode cX6_append 36 = .ok (.putfield 13, 3) := by decide +kernel
theorem dX6_append_39 : decode cX6_append 39 = .ok (.return_, 1) := by decide +kernel
set_option maxRecDepth 20000 in
theorem ggX6_appendNumber_X6_append : GoodIn wsX6_appendNumber wsX6_append := goodIn_ca (goodIn_r _ [5, 6, 7, 36, 37] (by decide +kernel) (by decide +kernel)) (goodIn_sub (fun _ h => List.mem_cons_of_mem _ (List.mem_append_right _ h)) (by decide +kernel))
set_option maxRecDepth 20000 in
theorem gX6_appendNumber_X6_append : GoodIn wsX6_appendNumber (wsV RX6 17 RX6 yX6_append wsX6_append) := goodIn_app (goodIn_of _ (by decide +kernel)) ggX6_appendNumber_X6_append
set_option maxRecDepth 20000 in
theorem ggX6_appendNumber_X6_appendLetters : GoodIn wsX6_appendNumber wsX6_appendLetters := goodIn_ca (goodIn_r _ [11, 6, 1, 2, 3, 4, 5, 7, 12, 13, 14, 15, 16, 17, 18, 19, 20, 21, 22, 23, 36, 37] (by decide +kernel) (by decide +kernel)) (goodIn_sub (fun _ h => List.mem_cons_of_mem _ (List.mem_append_right _ h)) (by decide +kernel))
set_option maxRecDepth 20000 in
theorem gX6_appendNumber_X6_appendLetters : GoodIn wsX6_appendNumber (wsV RX6 21 RX6 yX6_appendLetters wsX6_appendLetters) := goodIn_app (goodIn_of _ (by decide +kernel)) ggX6_appendNumber_X6_appendLetters
set_option maxRecDepth 20000 in
theorem ggX6_appendNumber_X6_appendRoman : GoodIn wsX6_appendNumber wsX6_appendRoman := goodIn_ca (goodIn_r _ [27, 1, 2, 3, 4, 5, 6, 7, 28, 29, 30, 31, 36, 37] (by decide +kernel) (by decide +kernel)) (goodIn_sub (fun _ h => List.mem_cons_of_mem _ (List.mem_append_right _ h)) (by decide +kernel))
set_option maxRecDepth 20000 in
theorem gX6_appendNumber_X6_appendRoman : GoodIn wsX6_appendNumber (wsV RX6 25 RX6 yX6_appendRoman wsX6_appendRoman) := goodIn_app (goodIn_of _ (by decide +kernel)) ggX6_appendNumber_X6_appendRoman
set_option maxRecDepth 20000 in
theorem ggX6_appendNumber_X6_appendDigits : GoodIn wsX6_appendNumber wsX6_appendDigits := goodIn_ca (goodIn_r _ [35, 6, 1, 2, 3, 4, 5, 7, 12, 13, 14, 15, 16, 17, 18, 19, 20, 21, 22, 23, 36, 37] (by decide +kernel) (by decide +kernel)) (goodIn_sub (fun _ h => List.mem_cons_of_mem _ (List.mem_append_right _ h)) (by decide +kernel))
set_option maxRecDepth 20000 in
theorem gX6_appendNumber_X6_appendDigits : GoodIn wsX6_appendNumber (wsV RX6 29 RX6 yX6_appendDigits wsX6_appendDigits) := goodIn_app (goodIn_of _ (by decide +kernel)) ggX6_appendNumber_X6_appendDigits
theorem dX6_appendNumber_0 : decode cX6_appendNumber 0 = .ok (.iload_n 1, 1) := by decide +kernel
theorem dX6_appendNumber_1 : decode cX6_appendNumber 1 = .ok (.ifCond .gt 10, 3) := by decide +kernel
theorem dX6_appendNumber_4 : decode cX6_appendNumber 4 = .ok (.aload_n 0, 1) := by decide +kernel
theorem dX6_appendNumber_5 : decode cX6_appendNumber 5 = .ok (.bipush 48, 2) := by decide +kernel
theorem dX6_appendNumber_7 : decode cX6_appendNumber 7 = .ok (.invokevirtual 17, 3) := by decide +kernel
theorem dX6_appendNumber_10 : decode cX6_appendNumber 10 = .ok (.return_, 1) := by decide +kernel
theorem dX6_appendNumber_11 : decode cX6_appendNumber 11 = .ok (.iload_n 2, 1) := by decide +kernel
theorem dX6_appendNumber_12 : decode cX6_appendNumber 12 = .ok (.lookupswitch 65 #[(82, 55), (108, 36), (114, 46)], 36) := by decide +kernel
theorem dX6_appendNumber_48 : decode cX6_appendNumber 48 = .ok (.aload_n 0, 1) := by decide +kernel
theorem dX6_appendNumber_49 : decode cX6_appendNumber 49 = .ok (.iload_n 1, 1) := by decide +kernel
theorem dX6_appendNumber_50 : decode cX6_appendNumber 50 = .ok (.bipush 97, 2) := by decide +kernel
theorem dX6_appendNumber_52 : decode cX6_appendNumber 52 = .ok (.invokevirtual 21, 3) := by decide +kernel
theorem dX6_appendNumber_55 : decode cX6_appendNumber 55 = .ok (.goto 27, 3) := by decide +kernel
theorem dX6_appendNumber_58 : decode cX6_appendNumber 58 = .ok (.aload_n 0, 1) := by decide +kernel
theorem dX6_appendNumber_59 : decode cX6_appendNumber 59 = .ok (.iload_n 1, 1) := by decide +kernel
theorem dX6_appendNumber_60 : decode cX6_appendNumber 60 = .ok (.iconst 0, 1) := by decide +kernel
theorem dX6_appendNumber_61 : decode cX6_appendNumber 61 = .ok (.invokevirtual 25, 3) := by decide +kernel
theorem dX6_appendNumber_64 : decode cX6_appendNumber 64 = .ok (.goto 18, 3) := by decide +kernel
theorem dX6_appendNumber_67 : decode cX6_appendNumber 67 = .ok (.aload_n 0, 1) := by decide +kernel
theorem dX6_appendNumber_68 : decode cX6_appendNumber 68 = .ok (.iload_n 1, 1) := by decide +kernel
theorem dX6_appendNumber_69 : decode cX6_appendNumber 69 = .ok (.bipush (-32), 2) := by decide +kernel
theorem dX6_appendNumber_71 : decode cX6_appendNumber 71 = .ok (.invokevirtual 25, 3) := by decide +kernel
theorem dX6_appendNumber_74 : decode cX6_appendNumber 74 = .ok (.goto 8, 3) := by decide +kernel
theorem dX6_appendNumber_77 : decode cX6_appendNumber 77 = .ok (.aload_n 0, 1) := by decide +kernel
theorem dX6_appendNumber_78 : decode cX6_appendNumber 78 = .ok (.iload_n 1, 1) := by decide +kernel
theorem dX6_appendNumber_79 : decode cX6_appendNumber 79 = .ok (.invokevirtual 29, 3) := by decide +kernel
theorem dX6_appendNumber_82 : decode cX6_appendNumber 82 = .ok (.return_, 1) := by decide +kernel
set_option maxRecDepth 20000 in
theorem ggX6_appendLetters_X6_append : GoodIn wsX6_appendLetters wsX6_append := goodIn_ca (goodIn_r _ [6, 1, 7, 20, 21] (by decide +kernel) (by decide +kernel)) (goodIn_sub (fun _ h => List.mem_cons_of_mem _ (List.mem_append_right _ h)) (by decide +kernel))
set_option maxRecDepth 20000 in
theorem gX6_appendLetters_X6_append : GoodIn wsX6_appendLetters (wsV RX6 17 RX6 yX6_append wsX6_append) := goodIn_app (goodIn_of _ (by decide +kernel)) ggX6_appendLetters_X6_append
set_option maxRecDepth 20000 in
theorem ggX6_appendLetters_X6_turnRound : GoodIn wsX6_appendLetters wsX6_turnRound := goodIn_ca (goodIn_r _ [11, 1, 12, 13, 14, 5, 15, 7, 16, 17, 18, 19, 20, 21] (by decide +kernel) (by decide +kernel)) (goodIn_sub (fun _ h => List.mem_cons_of_mem _ (List.mem_append_right _ h)) (by decide +kernel))
set_option maxRecDepth 20000 in
theorem gX6_appendLetters_X6_turnRound : GoodIn wsX6_appendLetters (wsV RX6 33 RX6 yX6_turnRound wsX6_turnRound) := goodIn_app (goodIn_of _ (by decide +kernel)) ggX6_appendLetters_X6_turnRound
theorem dX6_appendLetters_0 : decode cX6_appendLetters 0 = .ok (.aload_n 0, 1) := by decide +kernel
theorem dX6_appendLetters_1 : decode cX6_appendLetters 1 = .ok (.getfield 13, 3) := by decide +kernel
theorem dX6_appendLetters_4 : decode cX6_appendLetters 4 = .ok (.istore_n 3, 1) := by decide +kernel
theorem dX6_appendLetters_5 : decode cX6_appendLetters 5 = .ok (.iload_n 1, 1) := by decide +kernel
theorem dX6_appendLetters_6 : decode cX6_appendLetters 6 = .ok (.istore 4, 2) := by decide +kernel
theorem dX6_appendLetters_8 : decode cX6_appendLetters 8 = .ok (.iconst 0, 1) := by decide +kernel
theorem dX6_appendLetters_9 : decode cX6_appendLetters 9 = .ok (.istore 5, 2) := by decide +kernel
theorem dX6_appendLetters_11 : decode cX6_appendLetters 11 = .ok (.iload 5, 2) := by decide +kernel
theorem dX6_appendLetters_13 : decode cX6_appendLetters 13 = .ok (.bipush 10, 2) := by decide +kernel
theorem dX6_appendLetters_15 : decode cX6_appendLetters 15 = .ok (.if_icmp .ge 37, 3) := by decide +kernel
theorem dX6_appendLetters_18 : decode cX6_appendLetters 18 = .ok (.iload 4, 2) := by decide +kernel
theorem dX6_appendLetters_20 : decode cX6_appendLetters 20 = .ok (.ifCond .le 32, 3) := by decide +kernel
theorem dX6_appendLetters_23 : decode cX6_appendLetters 23 = .ok (.aload_n 0, 1) := by decide +kernel
theorem dX6_appendLetters_24 : decode cX6_appendLetters 24 = .ok (.iload_n 2, 1) := by decide +kernel
theorem dX6_appendLetters_25 : decode cX6_appendLetters 25 = .ok (.iload 4, 2) := by decide +kernel
theorem dX6_appendLetters_27 : decode cX6_appendLetters 27 = .ok (.iconst 1, 1) := by decide +kernel
theorem dX6_appendLetters_28 : decode cX6_appendLetters 28 = .ok (.isub, 1) := by decide +kernel
theorem dX6_appendLetters_29 : decode cX6_appendLetters 29 = .ok (.bipush 26, 2) := by decide +kernel
theorem dX6_appendLetters_31 : decode cX6_appendLetters 31 = .ok (.irem, 1) := by decide +kernel
theorem dX6_appendLetters_32 : decode cX6_appendLetters 32 = .ok (.iadd, 1) := by decide +kernel
theorem dX6_appendLetters_33 : decode cX6_appendLetters 33 = .ok (.i2c, 1) := by decide +kernel
theorem dX6_appendLetters_34 : decode cX6_appendLetters 34 = .ok (.invokevirtual 17, 3) := by decide +kernel
theorem dX6_appendLetters_37 : decode cX6_appendLetters 37 = .ok (.iload 4, 2) := by decide +kernel
theorem dX6_appendLetters_39 : decode cX6_appendLetters 39 = .ok (.iconst 1, 1) := by decide +kernel
theorem dX6_appendLetters_40 : decode cX6_appendLetters 40 = .ok (.isub, 1) := by decide +kernel
theorem dX6_appendLetters_41 : decode cX6_appendLetters 41 = .ok (.bipush 26, 2) := by decide +kernel
theorem dX6_appendLetters_43 : decode cX6_appendLetters 43 = .ok (.idiv, 1) := by decide +kernel
theorem dX6_appendLetters_44 : decode cX6_appendLetters 44 = .ok (.istore 4, 2) := by decide +kernel
theorem dX6_appendLetters_46 : decode cX6_appendLetters 46 = .ok (.iinc 5 1, 3) := by decide +kernel
theorem dX6_appendLetters_49 : decode cX6_appendLetters 49 = .ok (.goto (-38), 3) := by decide +kernel
theorem dX6_appendLetters_52 : decode cX6_appendLetters 52 = .ok (.aload_n 0, 1) := by decide +kernel
theorem dX6_appendLetters_53 : decode cX6_appendLetters 53 = .ok (.iload_n 3, 1) := by decide +kernel
theorem dX6_appendLetters_54 : decode cX6_appendLetters 54 = .ok (.invokevirtual 33, 3) := by decide +kernel
theorem dX6_appendLetters_57 : decode cX6_appendLetters 57 = .ok (.return_, 1) := by decide +kernel
set_option maxRecDepth 20000 in
theorem ggX6_appendDigits_X6_append : GoodIn wsX6_appendDigits wsX6_append := goodIn_ca (goodIn_r _ [6, 1, 7, 20, 21] (by decide +kernel) (by decide +kernel)) (goodIn_sub (fun _ h => List.mem_cons_of_mem _ (List.mem_append_right _ h)) (by decide +kernel))
set_option maxRecDepth 20000 in
theorem gX6_appendDigits_X6_append : GoodIn wsX6_appendDigits (wsV RX6 17 RX6 yX6_append wsX6_append) := goodIn_app (goodIn_of _ (by decide +kernel)) ggX6_appendDigits_X6_append
set_option maxRecDepth 20000 in
theorem ggX6_appendDigits_X6_turnRound : GoodIn wsX6_appendDigits wsX6_turnRound := goodIn_ca (goodIn_r _ [11, 1, 12, 13, 14, 5, 15, 7, 16, 17, 18, 19, 20, 21] (by decide +kernel) (by decide +kernel)) (goodIn_sub (fun _ h => List.mem_cons_of_mem _ (List.mem_append_right _ h)) (by decide +kernel))
set_option maxRecDepth 20000 in
theorem gX6_appendDigits_X6_turnRound : GoodIn wsX6_appendDigits (wsV RX6 33 RX6 yX6_turnRound wsX6_turnRound) := goodIn_app (goodIn_of _ (by decide +kernel)) ggX6_appendDigits_X6_turnRound
theorem dX6_appendDigits_0 : decode cX6_appendDigits 0 = .ok (.aload_n 0, 1) := by decide +kernel
theorem dX6_appendDigits_1 : decode cX6_appendDigits 1 = .ok (.getfield 13, 3) := by decide +kernel
theorem dX6_appendDigits_4 : decode cX6_appendDigits 4 = .ok (.istore_n 2, 1) := by decide +kernel
theorem dX6_appendDigits_5 : decode cX6_appendDigits 5 = .ok (.iload_n 1, 1) := by decide +kernel
theorem dX6_appendDigits_6 : decode cX6_appendDigits 6 = .ok (.istore_n 3, 1) := by decide +kernel
theorem dX6_appendDigits_7 : decode cX6_appendDigits 7 = .ok (.iconst 0, 1) := by decide +kernel
theorem dX6_appendDigits_8 : decode cX6_appendDigits 8 = .ok (.istore 4, 2) := by decide +kernel
theorem dX6_appendDigits_10 : decode cX6_appendDigits 10 = .ok (.iload 4, 2) := by decide +kernel
theorem dX6_appendDigits_12 : decode cX6_appendDigits 12 = .ok (.bipush 10, 2) := by decide +kernel
theorem dX6_appendDigits_14 : decode cX6_appendDigits 14 = .ok (.if_icmp .ge 30, 3) := by decide +kernel
theorem dX6_appendDigits_17 : decode cX6_appendDigits 17 = .ok (.iload_n 3, 1) := by decide +kernel
theorem dX6_appendDigits_18 : decode cX6_appendDigits 18 = .ok (.ifCond .le 26, 3) := by decide +kernel
theorem dX6_appendDigits_21 : decode cX6_appendDigits 21 = .ok (.aload_n 0, 1) := by decide +kernel
theorem dX6_appendDigits_22 : decode cX6_appendDigits 22 = .ok (.bipush 48, 2) := by decide +kernel
theorem dX6_appendDigits_24 : decode cX6_appendDigits 24 = .ok (.iload_n 3, 1) := by decide +kernel
theorem dX6_appendDigits_25 : decode cX6_appendDigits 25 = .ok (.bipush 10, 2) := by decide +kernel
theorem dX6_appendDigits_27 : decode cX6_appendDigits 27 = .ok (.irem, 1) := by decide +kernel
theorem dX6_appendDigits_28 : decode cX6_appendDigits 28 = .ok (.iadd, 1) := by decide +kernel
theorem dX6_appendDigits_29 : decode cX6_appendDigits 29 = .ok (.i2c, 1) := by decide +kernel
theorem dX6_appendDigits_30 : decode cX6_appendDigits 30 = .ok (.invokevirtual 17, 3) := by decide +kernel
theorem dX6_appendDigits_33 : decode cX6_appendDigits 33 = .ok (.iload_n 3, 1) := by decide +kernel
theorem dX6_appendDigits_34 : decode cX6_appendDigits 34 = .ok (.bipush 10, 2) := by decide +kernel
theorem dX6_appendDigits_36 : decode cX6_appendDigits 36 = .ok (.idiv, 1) := by decide +kernel
theorem dX6_appendDigits_37 : decode cX6_appendDigits 37 = .ok (.istore_n 3, 1) := by decide +kernel
theorem dX6_appendDigits_38 : decode cX6_appendDigits 38 = .ok (.iinc 4 1, 3) := by decide +kernel
theorem dX6_appendDigits_41 : decode cX6_appendDigits 41 = .ok (.goto (-31), 3) := by decide +kernel
theorem dX6_appendDigits_44 : decode cX6_appendDigits 44 = .ok (.aload_n 0, 1) := by decide +kernel
theorem dX6_appendDigits_45 : decode cX6_appendDigits 45 = .ok (.iload_n 2, 1) := by decide +kernel
theorem dX6_appendDigits_46 : decode cX6_appendDigits 46 = .ok (.invokevirtual 33, 3) := by decide +kernel
theorem dX6_appendDigits_49 : decode cX6_appendDigits 49 = .ok (.return_, 1) := by decide +kernel
set_option maxRecDepth 20000 in
theorem ggX6_turnRound_X6_signAt : GoodIn wsX6_turnRound wsX6_signAt := goodIn_ca (goodIn_r _ [6, 7, 12, 13] (by decide +kernel) (by decide +kernel)) (goodIn_sub (fun _ h => List.mem_cons_of_mem _ (List.mem_append_right _ h)) (by decide +kernel))
set_option maxRecDepth 20000 in
theorem gX6_turnRound_X6_signAt : GoodIn wsX6_turnRound (wsV RX6 36 RX6 yX6_signAt wsX6_signAt) := goodIn_app (goodIn_of _ (by decide +kernel)) ggX6_turnRound_X6_signAt
set_option maxRecDepth 20000 in
theorem ggX6_turnRound_X6_putSign : GoodIn wsX6_turnRound wsX6_putSign := goodIn_ca (goodIn_r _ [11, 7, 12, 13] (by decide +kernel) (by decide +kernel)) (goodIn_sub (fun _ h => List.mem_cons_of_mem _ (List.mem_append_right _ h)) (by decide +kernel))
set_option maxRecDepth 20000 in
theorem gX6_turnRound_X6_putSign : GoodIn wsX6_turnRound (wsV RX6 40 RX6 yX6_putSign wsX6_putSign) := goodIn_app (goodIn_of _ (by decide +kernel)) ggX6_turnRound_X6_putSign
theorem dX6_turnRound_0 : decode cX6_turnRound 0 = .ok (.aload_n 0, 1) := by decide +kernel
theorem dX6_turnRound_1 : decode cX6_turnRound 1 = .ok (.getfield 13, 3) := by decide +kernel
theorem dX6_turnRound_4 : decode cX6_turnRound 4 = .ok (.iconst 1, 1) := by decide +kernel
theorem dX6_turnRound_5 : decode cX6_turnRound 5 = .ok (.isub, 1) := by decide +kernel
theorem dX6_turnRound_6 : decode cX6_turnRound 6 = .ok (.istore_n 2, 1) := by decide +kernel
theorem dX6_turnRound_7 : decode cX6_turnRound 7 = .ok (.iload_n 1, 1) := by decide +kernel
theorem dX6_turnRound_8 : decode cX6_turnRound 8 = .ok (.istore_n 3, 1) := by decide +kernel
theorem dX6_turnRound_9 : decode cX6_turnRound 9 = .ok (.iload_n 3, 1) := by decide +kernel
theorem dX6_turnRound_10 : decode cX6_turnRound 10 = .ok (.iload_n 2, 1) := by decide +kernel
theorem dX6_turnRound_11 : decode cX6_turnRound 11 = .ok (.if_icmp .ge 36, 3) := by decide +kernel
theorem dX6_turnRound_14 : decode cX6_turnRound 14 = .ok (.aload_n 0, 1) := by decide +kernel
theorem dX6_turnRound_15 : decode cX6_turnRound 15 = .ok (.iload_n 3, 1) := by decide +kernel
theorem dX6_turnRound_16 : decode cX6_turnRound 16 = .ok (.invokevirtual 36, 3) := by decide +kernel
theorem dX6_turnRound_19 : decode cX6_turnRound 19 = .ok (.istore 4, 2) := by decide +kernel
theorem dX6_turnRound_21 : decode cX6_turnRound 21 = .ok (.aload_n 0, 1) := by decide +kernel
theorem dX6_turnRound_22 : decode cX6_turnRound 22 = .ok (.iload_n 3, 1) := by decide +kernel
theorem dX6_turnRound_23 : decode cX6_turnRound 23 = .ok (.aload_n 0, 1) := by decide +kernel
theorem dX6_turnRound_24 : decode cX6_turnRound 24 = .ok (.iload_n 2, 1) := by decide +kernel
theorem dX6_turnRound_25 : decode cX6_turnRound 25 = .ok (.invokevirtual 36, 3) := by decide +kernel
theorem dX6_turnRound_28 : decode cX6_turnRound 28 = .ok (.invokevirtual 40, 3) := by decide +kernel
theorem dX6_turnRound_31 : decode cX6_turnRound 31 = .ok (.aload_n 0, 1) := by decide +kernel
theorem dX6_turnRound_32 : decode cX6_turnRound 32 = .ok (.iload_n 2, 1) := by decide +kernel
theorem dX6_turnRound_33 : decode cX6_turnRound 33 = .ok (.iload 4, 2) := by decide +kernel
theorem dX6_turnRound_35 : decode cX6_turnRound 35 = .ok (.invokevirtual 40, 3) := by decide +kernel
theorem dX6_turnRound_38 : decode cX6_turnRound 38 = .ok (.iinc 2 (-1), 3) := by decide +kernel
theorem dX6_turnRound_41 : decode cX6_turnRound 41 = .ok (.iinc 3 1, 3) := by decide +kernel
theorem dX6_turnRound_44 : decode cX6_turnRound 44 = .ok (.goto (-35), 3) := by decide +kernel
theorem dX6_turnRound_47 : decode cX6_turnRound 47 = .ok (.return_, 1) := by decide +kernel
theorem dX6_putSign_0 : decode cX6_putSign 0 = .ok (.iload_n 1, 1) := by decide +kernel
theorem dX6_putSign_1 : decode cX6_putSign 1 = .ok (.ifCond .lt 19, 3) := by decide +kernel
theorem dX6_putSign_4 : decode cX6_putSign 4 = .ok (.iload_n 1, 1) := by decide +kernel
theorem dX6_putSign_5 : decode cX6_putSign 5 = .ok (.aload_n 0, 1) := by decide +kernel
theorem dX6_putSign_6 : decode cX6_putSign 6 = .ok (.getfield 9, 3) := by decide +kernel
theorem dX6_putSign_9 : decode cX6_putSign 9 = .ok (.arraylength, 1) := by decide +kernel
theorem dX6_putSign_10 : decode cX6_putSign 10 = .ok (.if_icmp .ge 10, 3) := by decide +kernel
theorem dX6_putSign_13 : decode cX6_putSign 13 = .ok (.aload_n 0, 1) := by decide +kernel
theorem dX6_putSign_14 : decode cX6_putSign 14 = .ok (.getfield 9, 3) := by decide +kernel
theorem dX6_putSign_17 : decode cX6_putSign 17 = .ok (.iload_n 1, 1) := by decide +kernel
theorem dX6_putSign_18 : decode cX6_putSign 18 = .ok (.iload_n 2, 1) := by decide +kernel
theorem dX6_putSign_19 : decode cX6_putSign 19 = .ok (.castore, 1) := by decide +kernel
theorem dX6_putSign_20 : decode cX6_putSign 20 = .ok (.return_, 1) := by decide +kernel
set_option maxRecDepth 20000 in
theorem ggX6_appendRoman_X6_append : GoodIn wsX6_appendRoman wsX6_append := goodIn_ca (goodIn_r _ [5, 6, 7, 12, 13] (by decide +kernel) (by decide +kernel)) (goodIn_sub (fun _ h => List.mem_cons_of_mem _ (List.mem_append_right _ h)) (by decide +kernel))
set_option maxRecDepth 20000 in
theorem gX6_appendRoman_X6_append : GoodIn wsX6_appendRoman (wsV RX6 17 RX6 yX6_append wsX6_append) := goodIn_app (goodIn_of _ (by decide +kernel)) ggX6_appendRoman_X6_append
set_option maxRecDepth 20000 in
theorem ggX6_appendRoman_X6_appendRomanDigit : GoodIn wsX6_appendRoman wsX6_appendRomanDigit := goodIn_ca (goodIn_r _ [11, 1, 2, 3, 4, 5, 6, 7, 12, 13] (by decide +kernel) (by decide +kernel)) (goodIn_sub (fun _ h => List.mem_cons_of_mem _ (List.mem_append_right _ h)) (by decide +kernel))
set_option maxRecDepth 20000 in
theorem gX6_appendRoman_X6_appendRomanDigit : GoodIn wsX6_appendRoman (wsV RX6 43 RX6 yX6_appendRomanDigit wsX6_appendRomanDigit) := goodIn_app (goodIn_of _ (by decide +kernel)) ggX6_appendRoman_X6_appendRomanDigit
theorem dX6_appendRoman_0 : decode cX6_appendRoman 0 = .ok (.iconst 0, 1) := by decide +kernel
theorem dX6_appendRoman_1 : decode cX6_appendRoman 1 = .ok (.istore_n 3, 1) := by decide +kernel
theorem dX6_appendRoman_2 : decode cX6_appendRoman 2 = .ok (.iload_n 3, 1) := by decide +kernel
theorem dX6_appendRoman_3 : decode cX6_appendRoman 3 = .ok (.iload_n 1, 1) := by decide +kernel
theorem dX6_appendRoman_4 : decode cX6_appendRoman 4 = .ok (.sipush 1000, 3) := by decide +kernel
theorem dX6_appendRoman_7 : decode cX6_appendRoman 7 = .ok (.idiv, 1) := by decide +kernel
theorem dX6_appendRoman_8 : decode cX6_appendRoman 8 = .ok (.if_icmp .ge 18, 3) := by decide +kernel
theorem dX6_appendRoman_11 : decode cX6_appendRoman 11 = .ok (.aload_n 0, 1) := by decide +kernel
theorem dX6_appendRoman_12 : decode cX6_appendRoman 12 = .ok (.bipush 109, 2) := by decide +kernel
theorem dX6_appendRoman_14 : decode cX6_appendRoman 14 = .ok (.iload_n 2, 1) := by decide +kernel
theorem dX6_appendRoman_15 : decode cX6_appendRoman 15 = .ok (.iadd, 1) := by decide +kernel
theorem dX6_appendRoman_16 : decode cX6_appendRoman 16 = .ok (.i2c, 1) := by decide +kernel
theorem dX6_appendRoman_17 : decode cX6_appendRoman 17 = .ok (.invokevirtual 17, 3) := by decide +kernel
theorem dX6_appendRoman_20 : decode cX6_appendRoman 20 = .ok (.iinc 3 1, 3) := by decide +kernel
theorem dX6_appendRoman_23 : decode cX6_appendRoman 23 = .ok (.goto (-21), 3) := by decide +kernel
theorem dX6_appendRoman_26 : decode cX6_appendRoman 26 = .ok (.aload_n 0, 1) := by decide +kernel
theorem dX6_appendRoman_27 : decode cX6_appendRoman 27 = .ok (.iload_n 1, 1) := by decide +kernel
theorem dX6_appendRoman_28 : decode cX6_appendRoman 28 = .ok (.bipush 100, 2) := by decide +kernel
theorem dX6_appendRoman_30 : decode cX6_appendRoman 30 = .ok (.idiv, 1) := by decide +kernel
theorem dX6_appendRoman_31 : decode cX6_appendRoman 31 = .ok (.bipush 10, 2) := by decide +kernel
theorem dX6_appendRoman_33 : decode cX6_appendRoman 33 = .ok (.irem, 1) := by decide +kernel
theorem dX6_appendRoman_34 : decode cX6_appendRoman 34 = .ok (.bipush 99, 2) := by decide +kernel
theorem dX6_appendRoman_36 : decode cX6_appendRoman 36 = .ok (.iload_n 2, 1) := by decide +kernel
theorem dX6_appendRoman_37 : decode cX6_appendRoman 37 = .ok (.iadd, 1) := by decide +kernel
theorem dX6_appendRoman_38 : decode cX6_appendRoman 38 = .ok (.bipush 100, 2) := by decide +kernel
theorem dX6_appendRoman_40 : decode cX6_appendRoman 40 = .ok (.iload_n 2, 1) := by decide +kernel
theorem dX6_appendRoman_41 : decode cX6_appendRoman 41 = .ok (.iadd, 1) := by decide +kernel
theorem dX6_appendRoman_42 : decode cX6_appendRoman 42 = .ok (.bipush 109, 2) := by decide +kernel
theorem dX6_appendRoman_44 : decode cX6_appendRoman 44 = .ok (.iload_n 2, 1) := by decide +kernel
theorem dX6_appendRoman_45 : decode cX6_appendRoman 45 = .ok (.iadd, 1) := by decide +kernel
theorem dX6_appendRoman_46 : decode cX6_appendRoman 46 = .ok (.invokevirtual 43, 3) := by decide +kernel
theorem dX6_appendRoman_49 : decode cX6_appendRoman 49 = .ok (.aload_n 0, 1) := by decide +kernel
theorem dX6_appendRoman_50 : decode cX6_appendRoman 50 = .ok (.iload_n 1, 1) := by decide +kernel
theorem dX6_appendRoman_51 : decode cX6_appendRoman 51 = .ok (.bipush 10, 2) := by decide +kernel
theorem dX6_appendRoman_53 : decode cX6_appendRoman 53 = .ok (.idiv, 1) := by decide +kernel
theorem dX6_appendRoman_54 : decode cX6_appendRoman 54 = .ok (.bipush 10, 2) := by decide +kernel
theorem dX6_appendRoman_56 : decode cX6_appendRoman 56 = .ok (.irem, 1) := by decide +kernel
theorem dX6_appendRoman_57 : decode cX6_appendRoman 57 = .ok (.bipush 120, 2) := by decide +kernel
theorem dX6_appendRoman_59 : decode cX6_appendRoman 59 = .ok (.iload_n 2, 1) := by decide +kernel
theorem dX6_appendRoman_60 : decode cX6_appendRoman 60 = .ok (.iadd, 1) := by decide +kernel
theorem dX6_appendRoman_61 : decode cX6_appendRoman 61 = .ok (.bipush 108, 2) := by decide +kernel
theorem dX6_appendRoman_63 : decode cX6_appendRoman 63 = .ok (.iload_n 2, 1) := by decide +kernel
theorem dX6_appendRoman_64 : decode cX6_appendRoman 64 = .ok (.iadd, 1) := by decide +kernel
theorem dX6_appendRoman_65 : decode cX6_appendRoman 65 = .ok (.bipush 99, 2) := by decide +kernel
theorem dX6_appendRoman_67 : decode cX6_appendRoman 67 = .ok (.iload_n 2, 1) := by decide +kernel
theorem dX6_appendRoman_68 : decode cX6_appendRoman 68 = .ok (.iadd, 1) := by decide +kernel
theorem dX6_appendRoman_69 : decode cX6_appendRoman 69 = .ok (.invokevirtual 43, 3) := by decide +kernel
theorem dX6_appendRoman_72 : decode cX6_appendRoman 72 = .ok (.aload_n 0, 1) := by decide +kernel
theorem dX6_appendRoman_73 : decode cX6_appendRoman 73 = .ok (.iload_n 1, 1) := by decide +kernel
theorem dX6_appendRoman_74 : decode cX6_appendRoman 74 = .ok (.bipush 10, 2) := by decide +kernel
theorem dX6_appendRoman_76 : decode cX6_appendRoman 76 = .ok (.irem, 1) := by decide +kernel
theorem dX6_appendRoman_77 : decode cX6_appendRoman 77 = .ok (.bipush 105, 2) := by decide +kernel
theorem dX6_appendRoman_79 : decode cX6_appendRoman 79 = .ok (.iload_n 2, 1) := by decide +kernel
theorem dX6_appendRoman_80 : decode cX6_appendRoman 80 = .ok (.iadd, 1) := by decide +kernel
theorem dX6_appendRoman_81 : decode cX6_appendRoman 81 = .ok (.bipush 118, 2) := by decide +kernel
theorem dX6_appendRoman_83 : decode cX6_appendRoman 83 = .ok (.iload_n 2, 1) := by decide +kernel
theorem dX6_appendRoman_84 : decode cX6_appendRoman 84 = .ok (.iadd, 1) := by decide +kernel
theorem dX6_appendRoman_85 : decode cX6_appendRoman 85 = .ok (.bipush 120, 2) := by decide +kernel
theorem dX6_appendRoman_87 : decode cX6_appendRoman 87 = .ok (.iload_n 2, 1) := by decide +kernel
theorem dX6_appendRoman_88 : decode cX6_appendRoman 88 = .ok (.iadd, 1) := by decide +kernel
theorem dX6_appendRoman_89 : decode cX6_appendRoman 89 = .ok (.invokevirtual 43, 3) := by decide +kernel
theorem dX6_appendRoman_92 : decode cX6_appendRoman 92 = .ok (.return_, 1) := by decide +kernel
set_option maxRecDepth 20000 in
theorem ggX6_appendRomanDigit_X6_append : GoodIn wsX6_appendRomanDigit wsX6_append := goodIn_ca (goodIn_r _ [5, 6, 7, 8, 9] (by decide +kernel) (by decide +kernel)) (goodIn_sub (fun _ h => List.mem_cons_of_mem _ (List.mem_append_right _ h)) (by decide +kernel))
set_option maxRecDepth 20000 in
theorem gX6_appendRomanDigit_X6_append : GoodIn wsX6_appendRomanDigit (wsV RX6 17 RX6 yX6_append wsX6_append) := goodIn_app (goodIn_of _ (by decide +kernel)) ggX6_appendRomanDigit_X6_append
theorem dX6_appendRomanDigit_0 : decode cX6_appendRomanDigit 0 = .ok (.iload_n 1, 1) := by decide +kernel
theorem dX6_appendRomanDigit_1 : decode cX6_appendRomanDigit 1 = .ok (.bipush 9, 2) := by decide +kernel
theorem dX6_appendRomanDigit_3 : decode cX6_appendRomanDigit 3 = .ok (.if_icmp .eq 8, 3) := by decide +kernel
theorem dX6_appendRomanDigit_6 : decode cX6_appendRomanDigit 6 = .ok (.iload_n 1, 1) := by decide +kernel
theorem dX6_appendRomanDigit_7 : decode cX6_appendRomanDigit 7 = .ok (.iconst 4, 1) := by decide +kernel
theorem dX6_appendRomanDigit_8 : decode cX6_appendRomanDigit 8 = .ok (.if_icmp .ne 27, 3) := by decide +kernel
theorem dX6_appendRomanDigit_11 : decode cX6_appendRomanDigit 11 = .ok (.aload_n 0, 1) := by decide +kernel
theorem dX6_appendRomanDigit_12 : decode cX6_appendRomanDigit 12 = .ok (.iload_n 2, 1) := by decide +kernel
theorem dX6_appendRomanDigit_13 : decode cX6_appendRomanDigit 13 = .ok (.i2c, 1) := by decide +kernel
theorem dX6_appendRomanDigit_14 : decode cX6_appendRomanDigit 14 = .ok (.invokevirtual 17, 3) := by decide +kernel
theorem dX6_appendRomanDigit_17 : decode cX6_appendRomanDigit 17 = .ok (.aload_n 0, 1) := by decide +kernel
theorem dX6_appendRomanDigit_18 : decode cX6_appendRomanDigit 18 = .ok (.iload_n 1, 1) := by decide +kernel
theorem dX6_appendRomanDigit_19 : decode cX6_appendRomanDigit 19 = .ok (.bipush 9, 2) := by decide +kernel
theorem dX6_appendRomanDigit_21 : decode cX6_appendRomanDigit 21 = .ok (.if_icmp .ne 8, 3) := by decide +kernel
theorem dX6_appendRomanDigit_24 : decode cX6_appendRomanDigit 24 = .ok (.iload 4, 2) := by decide +kernel
theorem dX6_appendRomanDigit_26 : decode cX6_appendRomanDigit 26 = .ok (.goto 4, 3) := by decide +kernel
theorem dX6_appendRomanDigit_29 : decode cX6_appendRomanDigit 29 = .ok (.iload_n 3, 1) := by decide +kernel
theorem dX6_appendRomanDigit_30 : decode cX6_appendRomanDigit 30 = .ok (.i2c, 1) := by decide +kernel
theorem dX6_appendRomanDigit_31 : decode cX6_appendRomanDigit 31 = .ok (.invokevirtual 17, 3) := by decide +kernel
theorem dX6_appendRomanDigit_34 : decode cX6_appendRomanDigit 34 = .ok (.return_, 1) := by decide +kernel
theorem dX6_appendRomanDigit_35 : decode cX6_appendRomanDigit 35 = .ok (.iload_n 1, 1) := by decide +kernel
theorem dX6_appendRomanDigit_36 : decode cX6_appendRomanDigit 36 = .ok (.iconst 5, 1) := by decide +kernel
theorem dX6_appendRomanDigit_37 : decode cX6_appendRomanDigit 37 = .ok (.if_icmp .lt 9, 3) := by decide +kernel
theorem dX6_appendRomanDigit_40 : decode cX6_appendRomanDigit 40 = .ok (.aload_n 0, 1) := by decide +kernel
theorem dX6_appendRomanDigit_41 : decode cX6_appendRomanDigit 41 = .ok (.iload_n 3, 1) := by decide +kernel
theorem dX6_appendRomanDigit_42 : decode cX6_appendRomanDigit 42 = .ok (.i2c, 1) := by decide +kernel
theorem dX6_appendRomanDigit_43 : decode cX6_appendRomanDigit 43 = .ok (.invokevirtual 17, 3) := by decide +kernel
theorem dX6_appendRomanDigit_46 : decode cX6_appendRomanDigit 46 = .ok (.iconst 0, 1) := by decide +kernel
theorem dX6_appendRomanDigit_47 : decode cX6_appendRomanDigit 47 = .ok (.istore 5, 2) := by decide +kernel
theorem dX6_appendRomanDigit_49 : decode cX6_appendRomanDigit 49 = .ok (.iload 5, 2) := by decide +kernel
theorem dX6_appendRomanDigit_51 : decode cX6_appendRomanDigit 51 = .ok (.iload_n 1, 1) := by decide +kernel
theorem dX6_appendRomanDigit_52 : decode cX6_appendRomanDigit 52 = .ok (.iconst 5, 1) := by decide +kernel
theorem dX6_appendRomanDigit_53 : decode cX6_appendRomanDigit 53 = .ok (.irem, 1) := by decide +kernel
theorem dX6_appendRomanDigit_54 : decode cX6_appendRomanDigit 54 = .ok (.if_icmp .ge 15, 3) := by decide +kernel
theorem dX6_appendRomanDigit_57 : decode cX6_appendRomanDigit 57 = .ok (.aload_n 0, 1) := by decide +kernel
theorem dX6_appendRomanDigit_58 : decode cX6_appendRomanDigit 58 = .ok (.iload_n 2, 1) := by decide +kernel
theorem dX6_appendRomanDigit_59 : decode cX6_appendRomanDigit 59 = .ok (.i2c, 1) := by decide +kernel
theorem dX6_appendRomanDigit_60 : decode cX6_appendRomanDigit 60 = .ok (.invokevirtual 17, 3) := by decide +kernel
theorem dX6_appendRomanDigit_63 : decode cX6_appendRomanDigit 63 = .ok (.iinc 5 1, 3) := by decide +kernel
theorem dX6_appendRomanDigit_66 : decode cX6_appendRomanDigit 66 = .ok (.goto (-17), 3) := by decide +kernel
theorem dX6_appendRomanDigit_69 : decode cX6_appendRomanDigit 69 = .ok (.return_, 1) := by decide +kernel
set_option maxRecDepth 20000 in
theorem ggX6_isSameAs_X6_length : GoodIn wsX6_isSameAs wsX6_length := goodIn_r _ [6, 1, 12, 13] (by decide +kernel) (by decide +kernel)
set_option maxRecDepth 20000 in
theorem gX6_isSameAs_X6_length : GoodIn wsX6_isSameAs (wsV RX6 47 RX6 yX6_length wsX6_length) := goodIn_app (goodIn_of _ (by decide +kernel)) ggX6_isSameAs_X6_length
set_option maxRecDepth 20000 in
theorem ggX6_isSameAs_X6_signAt : GoodIn wsX6_isSameAs wsX6_signAt := goodIn_ca (goodIn_r _ [10, 11, 12, 13] (by decide +kernel) (by decide +kernel)) (goodIn_sub (fun _ h => List.mem_cons_of_mem _ (List.mem_append_right _ h)) (by decide +kernel))
set_option maxRecDepth 20000 in
theorem gX6_isSameAs_X6_signAt : GoodIn wsX6_isSameAs (wsV RX6 36 RX6 yX6_signAt wsX6_signAt) := goodIn_app (goodIn_of _ (by decide +kernel)) ggX6_isSameAs_X6_signAt
theorem dX6_isSameAs_0 : decode cX6_isSameAs 0 = .ok (.aload_n 1, 1) := by decide +kernel
theorem dX6_isSameAs_1 : decode cX6_isSameAs 1 = .ok (.ifnull 14, 3) := by decide +kernel
theorem dX6_isSameAs_4 : decode cX6_isSameAs 4 = .ok (.aload_n 1, 1) := by decide +kernel
theorem dX6_isSameAs_5 : decode cX6_isSameAs 5 = .ok (.invokevirtual 47, 3) := by decide +kernel
theorem dX6_isSameAs_8 : decode cX6_isSameAs 8 = .ok (.aload_n 0, 1) := by decide +kernel
theorem dX6_isSameAs_9 : decode cX6_isSameAs 9 = .ok (.getfield 13, 3) := by decide +kernel
theorem dX6_isSameAs_12 : decode cX6_isSameAs 12 = .ok (.if_icmp .eq 5, 3) := by decide +kernel
theorem dX6_isSameAs_15 : decode cX6_isSameAs 15 = .ok (.iconst 0, 1) := by decide +kernel
theorem dX6_isSameAs_16 : decode cX6_isSameAs 16 = .ok (.ireturn, 1) := by decide +kernel
theorem dX6_isSameAs_17 : decode cX6_isSameAs 17 = .ok (.iconst 0, 1) := by decide +kernel
theorem dX6_isSameAs_18 : decode cX6_isSameAs 18 = .ok (.istore_n 2, 1) := by decide +kernel
theorem dX6_isSameAs_19 : decode cX6_isSameAs 19 = .ok (.iload_n 2, 1) := by decide +kernel
theorem dX6_isSameAs_20 : decode cX6_isSameAs 20 = .ok (.aload_n 0, 1) := by decide +kernel
theorem dX6_isSameAs_21 : decode cX6_isSameAs 21 = .ok (.getfield 13, 3) := by decide +kernel
theorem dX6_isSameAs_24 : decode cX6_isSameAs 24 = .ok (.if_icmp .ge 24, 3) := by decide +kernel
theorem dX6_isSameAs_27 : decode cX6_isSameAs 27 = .ok (.aload_n 0, 1) := by decide +kernel
theorem dX6_isSameAs_28 : decode cX6_isSameAs 28 = .ok (.iload_n 2, 1) := by decide +kernel
theorem dX6_isSameAs_29 : decode cX6_isSameAs 29 = .ok (.invokevirtual 36, 3) := by decide +kernel
theorem dX6_isSameAs_32 : decode cX6_isSameAs 32 = .ok (.aload_n 1, 1) := by decide +kernel
theorem dX6_isSameAs_33 : decode cX6_isSameAs 33 = .ok (.iload_n 2, 1) := by decide +kernel
theorem dX6_isSameAs_34 : decode cX6_isSameAs 34 = .ok (.invokevirtual 36, 3) := by decide +kernel
theorem dX6_isSameAs_37 : decode cX6_isSameAs 37 = .ok (.if_icmp .eq 5, 3) := by decide +kernel
theorem dX6_isSameAs_40 : decode cX6_isSameAs 40 = .ok (.iconst 0, 1) := by decide +kernel
theorem dX6_isSameAs_41 : decode cX6_isSameAs 41 = .ok (.ireturn, 1) := by decide +kernel
theorem dX6_isSameAs_42 : decode cX6_isSameAs 42 = .ok (.iinc 2 1, 3) := by decide +kernel
theorem dX6_isSameAs_45 : decode cX6_isSameAs 45 = .ok (.goto (-26), 3) := by decide +kernel
theorem dX6_isSameAs_48 : decode cX6_isSameAs 48 = .ok (.iconst 1, 1) := by decide +kernel
theorem dX6_isSameAs_49 : decode cX6_isSameAs 49 = .ok (.ireturn, 1) := by decide +kernel
set_option maxRecDepth 20000 in
theorem ggX6_fingerprint_X6_signAt : GoodIn wsX6_fingerprint wsX6_signAt := goodIn_ca (goodIn_r _ [6, 7, 8, 9] (by decide +kernel) (by decide +kernel)) (goodIn_sub (fun _ h => List.mem_cons_of_mem _ (List.mem_append_right _ h)) (by decide +kernel))
set_option maxRecDepth 20000 in
theorem gX6_fingerprint_X6_signAt : GoodIn wsX6_fingerprint (wsV RX6 36 RX6 yX6_signAt wsX6_signAt) := goodIn_app (goodIn_of _ (by decide +kernel)) ggX6_fingerprint_X6_signAt
theorem dX6_fingerprint_0 : decode cX6_fingerprint 0 = .ok (.iconst 0, 1) := by decide +kernel
theorem dX6_fingerprint_1 : decode cX6_fingerprint 1 = .ok (.istore_n 1, 1) := by decide +kernel
theorem dX6_fingerprint_2 : decode cX6_fingerprint 2 = .ok (.iconst 0, 1) := by decide +kernel
theorem dX6_fingerprint_3 : decode cX6_fingerprint 3 = .ok (.istore_n 2, 1) := by decide +kernel
theorem dX6_fingerprint_4 : decode cX6_fingerprint 4 = .ok (.iload_n 2, 1) := by decide +kernel
theorem dX6_fingerprint_5 : decode cX6_fingerprint 5 = .ok (.aload_n 0, 1) := by decide +kernel
theorem dX6_fingerprint_6 : decode cX6_fingerprint 6 = .ok (.getfield 13, 3) := by decide +kernel
theorem dX6_fingerprint_9 : decode cX6_fingerprint 9 = .ok (.if_icmp .ge 20, 3) := by decide +kernel
theorem dX6_fingerprint_12 : decode cX6_fingerprint 12 = .ok (.iload_n 1, 1) := by decide +kernel
theorem dX6_fingerprint_13 : decode cX6_fingerprint 13 = .ok (.bipush 31, 2) := by decide +kernel
theorem dX6_fingerprint_15 : decode cX6_fingerprint 15 = .ok (.imul, 1) := by decide +kernel
theorem dX6_fingerprint_16 : decode cX6_fingerprint 16 = .ok (.aload_n 0, 1) := by decide +kernel
theorem dX6_fingerprint_17 : decode cX6_fingerprint 17 = .ok (.iload_n 2, 1) := by decide +kernel
theorem dX6_fingerprint_18 : decode cX6_fingerprint 18 = .ok (.invokevirtual 36, 3) := by decide +kernel
theorem dX6_fingerprint_21 : decode cX6_fingerprint 21 = .ok (.iadd, 1) := by decide +kernel
theorem dX6_fingerprint_22 : decode cX6_fingerprint 22 = .ok (.istore_n 1, 1) := by decide +kernel
theorem dX6_fingerprint_23 : decode cX6_fingerprint 23 = .ok (.iinc 2 1, 3) := by decide +kernel
theorem dX6_fingerprint_26 : decode cX6_fingerprint 26 = .ok (.goto (-22), 3) := by decide +kernel
theorem dX6_fingerprint_29 : decode cX6_fingerprint 29 = .ok (.iload_n 1, 1) := by decide +kernel
theorem dX6_fingerprint_30 : decode cX6_fingerprint 30 = .ok (.ireturn, 1) := by decide +kernel
set_option maxRecDepth 20000 in
theorem ggX7_init_X4_init : GoodIn wsX7_init wsX4_init := goodIn_r _ [11, 12, 2, 3, 13, 14, 15] (by decide +kernel) (by decide +kernel)
set_option maxRecDepth 20000 in
theorem gX7_init_X4_init : GoodIn wsX7_init (wsX4_init) := ggX7_init_X4_init
theorem dX7_init_0 : decode cX7_init 0 = .ok (.aload_n 0, 1) := by decide +kernel
theorem dX7_init_1 : decode cX7_init 1 = .ok (.invokespecial 3, 3) := by decide +kernel
theorem dX7_init_4 : decode cX7_init 4 = .ok (.aload_n 0, 1) := by decide +kernel
theorem dX7_init_5 : decode cX7_init 5 = .ok (.new 9, 3) := by decide +kernel
theorem dX7_init_8 : decode cX7_init 8 = .ok (.dup, 1) := by decide +kernel
theorem dX7_init_9 : decode cX7_init 9 = .ok (.bipush 60, 2) := by decide +kernel
theorem dX7_init_11 : decode cX7_init 11 = .ok (.invokespecial 11, 3) := by decide +kernel
theorem dX7_init_14 : decode cX7_init 14 = .ok (.putfield 14, 3) := by decide +kernel
theorem dX7_init_17 : decode cX7_init 17 = .ok (.aload_n 0, 1) := by decide +kernel
theorem dX7_init_18 : decode cX7_init 18 = .ok (.new 9, 3) := by decide +kernel
theorem dX7_init_21 : decode cX7_init 21 = .ok (.dup, 1) := by decide +kernel
theorem dX7_init_22 : decode cX7_init 22 = .ok (.bipush 60, 2) := by decide +kernel
theorem dX7_init_24 : decode cX7_init 24 = .ok (.invokespecial 11, 3) := by decide +kernel
theorem dX7_init_27 : decode cX7_init 27 = .ok (.putfield 20, 3) := by decide +kernel
theorem dX7_init_30 : decode cX7_init 30 = .ok (.return_, 1) := by decide +kernel
theorem dX7_amount_0 : decode cX7_amount 0 = .ok (.aload_n 0, 1) := by decide +kernel
theorem dX7_amount_1 : decode cX7_amount 1 = .ok (.getfield 23, 3) := by decide +kernel
theorem dX7_amount_4 : decode cX7_amount 4 = .ok (.ireturn, 1) := by decide +kernel
set_option maxRecDepth 20000 in
theorem ggX7_contains_X4_at : GoodIn wsX7_contains wsX4_at := goodIn_ca (goodIn_r _ [8, 9, 13] (by decide +kernel) (by decide +kernel)) (goodIn_sub (fun _ h => List.mem_cons_of_mem _ (List.mem_append_right _ h)) (by decide +kernel))
set_option maxRecDepth 20000 in
theorem gX7_contains_X4_at : GoodIn wsX7_contains (wsV RX7 27 RX4 yX4_at wsX4_at) := goodIn_app (goodIn_of _ (by decide +kernel)) ggX7_contains_X4_at
theorem dX7_contains_0 : decode cX7_contains 0 = .ok (.iconst 0, 1) := by decide +kernel
theorem dX7_contains_1 : decode cX7_contains 1 = .ok (.istore_n 3, 1) := by decide +kernel
theorem dX7_contains_2 : decode cX7_contains 2 = .ok (.iload_n 3, 1) := by decide +kernel
theorem dX7_contains_3 : decode cX7_contains 3 = .ok (.aload_n 0, 1) := by decide +kernel
theorem dX7_contains_4 : decode cX7_contains 4 = .ok (.getfield 23, 3) := by decide +kernel
theorem dX7_contains_7 : decode cX7_contains 7 = .ok (.if_icmp .ge 35, 3) := by decide +kernel
theorem dX7_contains_10 : decode cX7_contains 10 = .ok (.aload_n 0, 1) := by decide +kernel
theorem dX7_contains_11 : decode cX7_contains 11 = .ok (.getfield 20, 3) := by decide +kernel
theorem dX7_contains_14 : decode cX7_contains 14 = .ok (.iload_n 3, 1) := by decide +kernel
theorem dX7_contains_15 : decode cX7_contains 15 = .ok (.invokevirtual 27, 3) := by decide +kernel
theorem dX7_contains_18 : decode cX7_contains 18 = .ok (.iload_n 2, 1) := by decide +kernel
theorem dX7_contains_19 : decode cX7_contains 19 = .ok (.if_icmp .ne 17, 3) := by decide +kernel
theorem dX7_contains_22 : decode cX7_contains 22 = .ok (.aload_n 0, 1) := by decide +kernel
theorem dX7_contains_23 : decode cX7_contains 23 = .ok (.getfield 14, 3) := by decide +kernel
theorem dX7_contains_26 : decode cX7_contains 26 = .ok (.iload_n 3, 1) := by decide +kernel
theorem dX7_contains_27 : decode cX7_contains 27 = .ok (.invokevirtual 27, 3) := by decide +kernel
theorem dX7_contains_30 : decode cX7_contains 30 = .ok (.iload_n 1, 1) := by decide +kernel
theorem dX7_contains_31 : decode cX7_contains 31 = .ok (.if_icmp .ne 5, 3) := by decide +kernel
theorem dX7_contains_34 : decode cX7_contains 34 = .ok (.iconst 1, 1) := by decide +kernel
theorem dX7_contains_35 : decode cX7_contains 35 = .ok (.ireturn, 1) := by decide +kernel
theorem dX7_contains_36 : decode cX7_contains 36 = .ok (.iinc 3 1, 3) := by decide +kernel
theorem dX7_contains_39 : decode cX7_contains 39 = .ok (.goto (-37), 3) := by decide +kernel
theorem dX7_contains_42 : decode cX7_contains 42 = .ok (.iconst 0, 1) := by decide +kernel
theorem dX7_contains_43 : decode cX7_contains 43 = .ok (.ireturn, 1) := by decide +kernel
set_option maxRecDepth 20000 in
theorem ggX7_include_X7_contains : GoodIn wsX7_include wsX7_contains := goodIn_ca (goodIn_r _ [8, 1, 3, 2, 9, 10, 11, 12, 13, 14, 19, 20, 21, 22] (by decide +kernel) (by decide +kernel)) (goodIn_sub (fun _ h => List.mem_cons_of_mem _ (List.mem_append_right _ h)) (by decide +kernel))
set_option maxRecDepth 20000 in
theorem gX7_include_X7_contains : GoodIn wsX7_include (wsV RX7 31 RX7 yX7_contains wsX7_contains) := goodIn_app (goodIn_of _ (by decide +kernel)) ggX7_include_X7_contains
set_option maxRecDepth 20000 in
theorem ggX7_include_X4_put : GoodIn wsX7_include wsX4_put := goodIn_ca (goodIn_r _ [18, 14, 22] (by decide +kernel) (by decide +kernel)) (goodIn_sub (fun _ h => List.mem_cons_of_mem _ (List.mem_append_right _ h)) (by decide +kernel))
set_option maxRecDepth 20000 in
theorem gX7_include_X4_put : GoodIn wsX7_include (wsV RX7 35 RX4 yX4_put wsX4_put) := goodIn_app (goodIn_of _ (by decide +kernel)) ggX7_include_X4_put
theorem dX7_include_0 : decode cX7_include 0 = .ok (.aload_n 0, 1) := by decide +kernel
theorem dX7_include_1 : decode cX7_include 1 = .ok (.getfield 23, 3) := by decide +kernel
theorem dX7_include_4 : decode cX7_include 4 = .ok (.bipush 60, 2) := by decide +kernel
theorem dX7_include_6 : decode cX7_include 6 = .ok (.if_icmp .ge 46, 3) := by decide +kernel
theorem dX7_include_9 : decode cX7_include 9 = .ok (.aload_n 0, 1) := by decide +kernel
theorem dX7_include_10 : decode cX7_include 10 = .ok (.iload_n 1, 1) := by decide +kernel
theorem dX7_include_11 : decode cX7_include 11 = .ok (.iload_n 2, 1) := by decide +kernel
theorem dX7_include_12 : decode cX7_include 12 = .ok (.invokevirtual 31, 3) := by decide +kernel
theorem dX7_include_15 : decode cX7_include 15 = .ok (.ifCond .ne 37, 3) := by decide +kernel
theorem dX7_include_18 : decode cX7_include 18 = .ok (.aload_n 0, 1) := by decide +kernel
theorem dX7_include_19 : decode cX7_include 19 = .ok (.getfield 14, 3) := by decide +kernel
theorem dX7_include_22 : decode cX7_include 22 = .ok (.aload_n 0, 1) := by decide +kernel
theorem dX7_include_23 : decode cX7_include 23 = .ok (.getfield 23, 3) := by decide +kernel
theorem dX7_include_26 : decode cX7_include 26 = .ok (.iload_n 1, 1) := by decide +kernel
theorem dX7_include_27 : decode cX7_include 27 = .ok (.invokevirtual 35, 3) := by decide +kernel
theorem dX7_include_30 : decode cX7_include 30 = .ok (.aload_n 0, 1) := by decide +kernel
theorem dX7_include_31 : decode cX7_include 31 = .ok (.getfield 20, 3) := by decide +kernel
theorem dX7_include_34 : decode cX7_include 34 = .ok (.aload_n 0, 1) := by decide +kernel
theorem dX7_include_35 : decode cX7_include 35 = .ok (.getfield 23, 3) := by decide +kernel
theorem dX7_include_38 : decode cX7_include 38 = .ok (.iload_n 2, 1) := by decide +kernel
theorem dX7_include_39 : decode cX7_include 39 = .ok (.invokevirtual 35, 3) := by decide +kernel
theorem dX7_include_42 : decode cX7_include 42 = .ok (.aload_n 0, 1) := by decide +kernel
theorem dX7_include_43 : decode cX7_include 43 = .ok (.dup, 1) := by decide +kernel
theorem dX7_include_44 : decode cX7_include 44 = .ok (.getfield 23, 3) := by decide +kernel
theorem dX7_include_47 : decode cX7_include 47 = .ok (.iconst 1, 1) := by decide +kernel
theorem dX7_include_48 : decode cX7_include 48 = .ok (.iadd, 1) := by decide +kernel
theorem dX7_include_49 : decode cX7_include 49 = .ok (.putfield 23, 3) := by decide +kernel
theorem dX7_include_52 : decode cX7_include 52 = .ok (.return_, 1) := by decide +kernel
set_option maxRecDepth 20000 in
theorem ggX8_init_X5_init : GoodIn wsX8_init wsX5_init := goodIn_r _ [25, 26, 2, 3, 27, 28, 29, 30, 31, 32, 33, 34, 35, 36, 37, 38, 39, 145, 108, 109, 110, 111, 112] (by decide +kernel) (by decide +kernel)
set_option maxRecDepth 20000 in
theorem gX8_init_X5_init_n9 : GoodIn wsX8_init (wsX5_init) := ggX8_init_X5_init
set_option maxRecDepth 20000 in
theorem ggX8_init_X1_init : GoodIn wsX8_init wsX1_init := goodIn_ca (goodIn_r _ [42, 43, 2, 3, 44, 28, 29, 45, 46, 47, 48, 49, 35, 36, 37, 38, 39, 50, 51, 52, 53, 145, 119, 120, 121, 122] (by decide +kernel) (by decide +kernel)) (goodIn_sub (fun _ h => List.mem_cons_of_mem _ (List.mem_append_right _ h)) (by decide +kernel))
set_option maxRecDepth 20000 in
theorem gX8_init_X1_init : GoodIn wsX8_init (wsX1_init) := ggX8_init_X1_init
set_option maxRecDepth 20000 in
theorem ggX8_init_X3_init : GoodIn wsX8_init wsX3_init := goodIn_r _ [56, 57, 2, 3, 58, 59, 60, 61, 62, 28, 29, 63, 64, 65, 66, 67, 68, 69, 70, 71, 72, 73, 74, 75, 76, 77, 78, 79, 35, 36, 37, 38, 39, 80, 146, 147, 148, 123, 124, 125, 126, 127, 128, 129, 130, 131, 132, 133, 134, 135, 145] (by decide +kernel) (by decide +kernel)
set_option maxRecDepth 20000 in
theorem gX8_init_X3_init : GoodIn wsX8_init (wsX3_init) := ggX8_init_X3_init
set_option maxRecDepth 20000 in
theorem ggX8_init_X0_init : GoodIn wsX8_init wsX0_init := goodIn_r _ [83, 84, 2, 3, 85, 86, 87, 88, 89, 90, 28, 29, 91, 92, 93, 94, 95, 96, 97, 98, 99, 100, 35, 36, 37, 38, 39, 149, 150, 136, 137, 138, 139, 140, 141, 145] (by decide +kernel) (by decide +kernel)
set_option maxRecDepth 20000 in
theorem gX8_init_X0_init : GoodIn wsX8_init (wsX0_init) := ggX8_init_X0_init
set_option maxRecDepth 20000 in
theorem ggX8_init_X2_init : GoodIn wsX8_init wsX2_init := goodIn_r _ [102, 103, 2, 3, 104, 28, 29, 105, 106, 107, 35, 36, 37, 38, 39, 145, 142, 143, 144] (by decide +kernel) (by decide +kernel)
set_option maxRecDepth 20000 in
theorem gX8_init_X2_init_n43 : GoodIn wsX8_init (wsX2_init) := ggX8_init_X2_init
theorem dX8_init_0 : decode cX8_init 0 = .ok (.aload_n 0, 1) := by decide +kernel
theorem dX8_init_1 : decode cX8_init 1 = .ok (.invokespecial 1, 3) := by decide +kernel
theorem dX8_init_4 : decode cX8_init 4 = .ok (.aload_n 0, 1) := by decide +kernel
theorem dX8_init_5 : decode cX8_init 5 = .ok (.new 7, 3) := by decide +kernel
theorem dX8_init_8 : decode cX8_init 8 = .ok (.dup, 1) := by decide +kernel
theorem dX8_init_9 : decode cX8_init 9 = .ok (.invokespecial 9, 3) := by decide +kernel
theorem dX8_init_12 : decode cX8_init 12 = .ok (.putfield 10, 3) := by decide +kernel
theorem dX8_init_15 : decode cX8_init 15 = .ok (.aload_n 0, 1) := by decide +kernel
theorem dX8_init_16 : decode cX8_init 16 = .ok (.new 16, 3) := by decide +kernel
theorem dX8_init_19 : decode cX8_init 19 = .ok (.dup, 1) := by decide +kernel
theorem dX8_init_20 : decode cX8_init 20 = .ok (.invokespecial 18, 3) := by decide +kernel
theorem dX8_init_23 : decode cX8_init 23 = .ok (.putfield 19, 3) := by decide +kernel
theorem dX8_init_26 : decode cX8_init 26 = .ok (.aload_n 0, 1) := by decide +kernel
theorem dX8_init_27 : decode cX8_init 27 = .ok (.new 23, 3) := by decide +kernel
theorem dX8_init_30 : decode cX8_init 30 = .ok (.dup, 1) := by decide +kernel
theorem dX8_init_31 : decode cX8_init 31 = .ok (.aload_n 0, 1) := by decide +kernel
theorem dX8_init_32 : decode cX8_init 32 = .ok (.getfield 10, 3) := by decide +kernel
theorem dX8_init_35 : decode cX8_init 35 = .ok (.aload_n 0, 1) := by decide +kernel
theorem dX8_init_36 : decode cX8_init 36 = .ok (.getfield 19, 3) := by decide +kernel
theorem dX8_init_39 : decode cX8_init 39 = .ok (.invokespecial 25, 3) := by decide +kernel
theorem dX8_init_42 : decode cX8_init 42 = .ok (.putfield 28, 3) := by decide +kernel
theorem dX8_init_45 : decode cX8_init 45 = .ok (.aload_n 0, 1) := by decide +kernel
theorem dX8_init_46 : decode cX8_init 46 = .ok (.new 32, 3) := by decide +kernel
theorem dX8_init_49 : decode cX8_init 49 = .ok (.dup, 1) := by decide +kernel
theorem dX8_init_50 : decode cX8_init 50 = .ok (.aload_n 0, 1) := by decide +kernel
theorem dX8_init_51 : decode cX8_init 51 = .ok (.getfield 10, 3) := by decide +kernel
theorem dX8_init_54 : decode cX8_init 54 = .ok (.aload_n 0, 1) := by decide +kernel
theorem dX8_init_55 : decode cX8_init 55 = .ok (.getfield 19, 3) := by decide +kernel
theorem dX8_init_58 : decode cX8_init 58 = .ok (.aload_n 0, 1) := by decide +kernel
theorem dX8_init_59 : decode cX8_init 59 = .ok (.getfield 28, 3) := by decide +kernel
theorem dX8_init_62 : decode cX8_init 62 = .ok (.invokespecial 34, 3) := by decide +kernel
theorem dX8_init_65 : decode cX8_init 65 = .ok (.putfield 37, 3) := by decide +kernel
theorem dX8_init_68 : decode cX8_init 68 = .ok (.aload_n 0, 1) := by decide +kernel
theorem dX8_init_69 : decode cX8_init 69 = .ok (.new 41, 3) := by decide +kernel
theorem dX8_init_72 : decode cX8_init 72 = .ok (.dup, 1) := by decide +kernel
theorem dX8_init_73 : decode cX8_init 73 = .ok (.invokespecial 43, 3) := by decide +kernel
theorem dX8_init_76 : decode cX8_init 76 = .ok (.putfield 44, 3) := by decide +kernel
theorem dX8_init_79 : decode cX8_init 79 = .ok (.return_, 1) := by decide +kernel
set_option maxRecDepth 20000 in
theorem ggX8_insert_X5_amount : GoodIn wsX8_insert wsX5_amount := goodIn_r _ [13, 14, 177, 178, 179, 180, 181] (by decide +kernel) (by decide +kernel)
set_option maxRecDepth 20000 in
theorem gX8_insert_X5_amount : GoodIn wsX8_insert (wsV RX8 48 RX5 yX5_amount wsX5_amount) := goodIn_app (goodIn_of _ (by decide +kernel)) ggX8_insert_X5_amount
set_option maxRecDepth 20000 in
theorem ggX8_insert_X5_put : GoodIn wsX8_insert wsX5_put := goodIn_ca (goodIn_r _ [18, 14, 19, 20, 21, 22, 23, 24, 25, 26, 27, 28, 29, 12, 30, 31, 32, 33, 34, 35, 177, 178, 179, 180, 181, 182] (by decide +kernel) (by decide +kernel)) (goodIn_sub (fun _ h => List.mem_cons_of_mem _ (List.mem_append_right _ h)) (by decide +kernel))
set_option maxRecDepth 20000 in
theorem gX8_insert_X5_put : GoodIn wsX8_insert (wsV RX8 62 RX5 yX5_put wsX5_put) := goodIn_app (goodIn_of _ (by decide +kernel)) ggX8_insert_X5_put
set_option maxRecDepth 20000 in
theorem ggX8_insert_X8_tearsFrozen : GoodIn wsX8_insert wsX8_tearsFrozen := goodIn_ca (goodIn_r _ [40, 7, 41, 9, 10, 11, 12, 13, 14, 42, 43, 44, 45, 19, 21, 22, 23, 24, 25, 26, 46, 47, 48, 49, 50, 51, 52, 53, 54, 55, 56, 57, 58, 59, 60, 20, 61, 62, 63, 64, 65, 171, 172, 173, 174, 175, 176, 177, 178, 179, 180, 181, 182, 183, 184, 185, 186, 187, 188, 189, 190, 191, 192, 193, 194, 195] (by decide +kernel) (by decide +kernel)) (goodIn_sub (fun _ h => List.mem_cons_of_mem _ (List.mem_append_right _ h)) (by decide +kernel))
set_option maxRecDepth 20000 in
theorem gX8_insert_X8_tearsFrozen : GoodIn wsX8_insert (wsV RX8 66 RX8 yX8_tearsFrozen wsX8_tearsFrozen) := goodIn_app (goodIn_of _ (by decide +kernel)) ggX8_insert_X8_tearsFrozen
set_option maxRecDepth 20000 in
theorem ggX8_insert_X5_take : GoodIn wsX8_insert wsX5_take := goodIn_ca (goodIn_r _ [69, 14, 19, 31, 70, 71, 72, 12, 73, 21, 22, 23, 24, 25, 26, 27, 28, 29, 30, 32, 33, 34, 35, 177, 178, 179, 180, 181, 182] (by decide +kernel) (by decide +kernel)) (goodIn_sub (fun _ h => List.mem_cons_of_mem _ (List.mem_append_right _ h)) (by decide +kernel))
set_option maxRecDepth 20000 in
theorem gX8_insert_X5_take : GoodIn wsX8_insert (wsV RX8 70 RX5 yX5_take wsX5_take) := goodIn_app (goodIn_of _ (by decide +kernel)) ggX8_insert_X5_take
set_option maxRecDepth 20000 in
theorem ggX8_insert_X8_acceptChange : GoodIn wsX8_insert wsX8_acceptChange := goodIn_ca (goodIn_r _ [77, 7, 41, 78, 79, 80, 12, 81, 14, 65, 19, 21, 22, 23, 24, 25, 26, 82, 54, 55, 56, 57, 58, 59, 60, 20, 32, 33, 34, 35, 83, 84, 85, 49, 86, 87, 88, 89, 90, 91, 92, 93, 94, 10, 11, 13, 95, 43, 44, 45, 96, 97, 98, 99, 100, 101, 102, 103, 104, 62, 63, 64, 105, 106, 107, 108, 109, 110, 47, 48, 50, 51, 52, 111, 112, 113, 114, 115, 116, 117, 118, 119, 120, 121, 122, 71, 72, 73, 31, 123, 124, 125, 126, 127, 128, 129, 130, 131, 132, 133, 134, 135, 136, 137, 138, 139, 140, 141, 142, 143, 144, 145, 146, 147, 148, 149, 150, 151, 152, 153, 154, 155, 156, 157, 158, 159, 160, 161, 162, 163, 164, 165, 166, 167, 168, 169, 170, 171, 172, 173, 174, 175, 176, 177, 178, 179, 180, 181, 182, 183, 184, 185, 186, 187, 188, 189, 190, 191, 192, 193, 194, 195, 196, 197, 198, 199, 200, 201, 202] (by decide +kernel) (by decide +kernel)) (goodIn_sub (fun _ h => List.mem_cons_of_mem _ (List.mem_append_right _ h)) (by decide +kernel))
set_option maxRecDepth 20000 in
theorem gX8_insert_X8_acceptChange : GoodIn wsX8_insert (wsV RX8 77 RX8 yX8_acceptChange wsX8_acceptChange) := goodIn_app (goodIn_of _ (by decide +kernel)) ggX8_insert_X8_acceptChange
theorem dX8_insert_0 : decode cX8_insert 0 = .ok (.iload_n 1, 1) := by decide +kernel
theorem dX8_insert_1 : decode cX8_insert 1 = .ok (.ifCond .lt 23, 3) := by decide +kernel
theorem dX8_insert_4 : decode cX8_insert 4 = .ok (.iload_n 1, 1) := by decide +kernel
theorem dX8_insert_5 : decode cX8_insert 5 = .ok (.aload_n 0, 1) := by decide +kernel
theorem dX8_insert_6 : decode cX8_insert 6 = .ok (.getfield 10, 3) := by decide +kernel
theorem dX8_insert_9 : decode cX8_insert 9 = .ok (.invokevirtual 48, 3) := by decide +kernel
theorem dX8_insert_12 : decode cX8_insert 12 = .ok (.if_icmp .gt 12, 3) := by decide +kernel
theorem dX8_insert_15 : decode cX8_insert 15 = .ok (.iload_n 2, 1) := by decide +kernel
theorem dX8_insert_16 : decode cX8_insert 16 = .ok (.ifCond .lt 8, 3) := by decide +kernel
theorem dX8_insert_19 : decode cX8_insert 19 = .ok (.iload_n 2, 1) := by decide +kernel
theorem dX8_insert_20 : decode cX8_insert 20 = .ok (.iconst 4, 1) := by decide +kernel
theorem dX8_insert_21 : decode cX8_insert 21 = .ok (.if_icmp .le 11, 3) := by decide +kernel
theorem dX8_insert_24 : decode cX8_insert 24 = .ok (.new 52, 3) := by decide +kernel
theorem dX8_insert_27 : decode cX8_insert 27 = .ok (.dup, 1) := by decide +kernel
theorem dX8_insert_28 : decode cX8_insert 28 = .ok (.invokespecial 54, 3) := by decide +kernel
theorem dX8_insert_31 : decode cX8_insert 31 = .ok (.athrow, 1) := by decide +kernel
theorem dX8_insert_32 : decode cX8_insert 32 = .ok (.aload_n 0, 1) := by decide +kernel
theorem dX8_insert_33 : decode cX8_insert 33 = .ok (.getfield 55, 3) := by decide +kernel
theorem dX8_insert_36 : decode cX8_insert 36 = .ok (.bipush 60, 2) := by decide +kernel
theorem dX8_insert_38 : decode cX8_insert 38 = .ok (.if_icmp .lt 11, 3) := by decide +kernel
theorem dX8_insert_41 : decode cX8_insert 41 = .ok (.new 59, 3) := by decide +kernel
theorem dX8_insert_44 : decode cX8_insert 44 = .ok (.dup, 1) := by decide +kernel
theorem dX8_insert_45 : decode cX8_insert 45 = .ok (.invokespecial 61, 3) := by decide +kernel
theorem dX8_insert_48 : decode cX8_insert 48 = .ok (.athrow, 1) := by decide +kernel
theorem dX8_insert_49 : decode cX8_insert 49 = .ok (.aload_n 0, 1) := by decide +kernel
theorem dX8_insert_50 : decode cX8_insert 50 = .ok (.getfield 55, 3) := by decide +kernel
theorem dX8_insert_53 : decode cX8_insert 53 = .ok (.istore_n 3, 1) := by decide +kernel
theorem dX8_insert_54 : decode cX8_insert 54 = .ok (.aload_n 0, 1) := by decide +kernel
theorem dX8_insert_55 : decode cX8_insert 55 = .ok (.getfield 10, 3) := by decide +kernel
theorem dX8_insert_58 : decode cX8_insert 58 = .ok (.iload_n 3, 1) := by decide +kernel
theorem dX8_insert_59 : decode cX8_insert 59 = .ok (.iload_n 1, 1) := by decide +kernel
theorem dX8_insert_60 : decode cX8_insert 60 = .ok (.iload_n 2, 1) := by decide +kernel
theorem dX8_insert_61 : decode cX8_insert 61 = .ok (.invokevirtual 62, 3) := by decide +kernel
theorem dX8_insert_64 : decode cX8_insert 64 = .ok (.aload_n 0, 1) := by decide +kernel
theorem dX8_insert_65 : decode cX8_insert 65 = .ok (.invokevirtual 66, 3) := by decide +kernel
theorem dX8_insert_68 : decode cX8_insert 68 = .ok (.ifCond .eq 19, 3) := by decide +kernel
theorem dX8_insert_71 : decode cX8_insert 71 = .ok (.aload_n 0, 1) := by decide +kernel
theorem dX8_insert_72 : decode cX8_insert 72 = .ok (.getfield 10, 3) := by decide +kernel
theorem dX8_insert_75 : decode cX8_insert 75 = .ok (.iload_n 3, 1) := by decide +kernel
theorem dX8_insert_76 : decode cX8_insert 76 = .ok (.invokevirtual 70, 3) := by decide +kernel
theorem dX8_insert_79 : decode cX8_insert 79 = .ok (.new 74, 3) := by decide +kernel
theorem dX8_insert_82 : decode cX8_insert 82 = .ok (.dup, 1) := by decide +kernel
theorem dX8_insert_83 : decode cX8_insert 83 = .ok (.invokespecial 76, 3) := by decide +kernel
theorem dX8_insert_86 : decode cX8_insert 86 = .ok (.athrow, 1) := by decide +kernel
theorem dX8_insert_87 : decode cX8_insert 87 = .ok (.aload_n 0, 1) := by decide +kernel
theorem dX8_insert_88 : decode cX8_insert 88 = .ok (.dup, 1) := by decide +kernel
theorem dX8_insert_89 : decode cX8_insert 89 = .ok (.getfield 55, 3) := by decide +kernel
theorem dX8_insert_92 : decode cX8_insert 92 = .ok (.iconst 1, 1) := by decide +kernel
theorem dX8_insert_93 : decode cX8_insert 93 = .ok (.iadd, 1) := by decide +kernel
theorem dX8_insert_94 : decode cX8_insert 94 = .ok (.putfield 55, 3) := by decide +kernel
theorem dX8_insert_97 : decode cX8_insert 97 = .ok (.aload_n 0, 1) := by decide +kernel
theorem dX8_insert_98 : decode cX8_insert 98 = .ok (.invokevirtual 77, 3) := by decide +kernel
theorem dX8_insert_101 : decode cX8_insert 101 = .ok (.iload_n 3, 1) := by decide +kernel
theorem dX8_insert_102 : decode cX8_insert 102 = .ok (.ireturn, 1) := by decide +kernel
set_option maxRecDepth 20000 in
theorem ggX8_move_X8_requireStanding : GoodIn wsX8_move wsX8_requireStanding := goodIn_ca (goodIn_ca (goodIn_r _ [11, 12, 13, 5, 14, 15, 16, 17, 18, 19, 20, 21, 22, 23, 24, 25, 183, 184, 185, 186, 187, 188, 189, 190, 191, 192, 193, 194] (by decide +kernel) (by decide +kernel)) (goodIn_sub (fun _ h => List.mem_cons_of_mem _ (List.mem_append_left _ (List.mem_append_right _ h))) (by decide +kernel))) (goodIn_sub (fun _ h => List.mem_cons_of_mem _ (List.mem_append_right _ h)) (by decide +kernel))
set_option maxRecDepth 20000 in
theorem gX8_move_X8_requireStanding : GoodIn wsX8_move (wsV RX8 80 RX8 yX8_requireStanding wsX8_requireStanding) := goodIn_app (goodIn_of _ (by decide +kernel)) ggX8_move_X8_requireStanding
set_option maxRecDepth 20000 in
theorem ggX8_move_X5_amount : GoodIn wsX8_move wsX5_amount := goodIn_r _ [29, 30, 189, 190, 191, 192, 193] (by decide +kernel) (by decide +kernel)
set_option maxRecDepth 20000 in
theorem gX8_move_X5_amount : GoodIn wsX8_move (wsV RX8 48 RX5 yX5_amount wsX5_amount) := goodIn_app (goodIn_of _ (by decide +kernel)) ggX8_move_X5_amount
set_option maxRecDepth 20000 in
theorem ggX8_move_X3_isFixed : GoodIn wsX8_move wsX3_isFixed := goodIn_ca (goodIn_r _ [35, 36, 37, 21, 22, 23, 24, 25, 195, 196, 197, 198, 199, 200, 201, 202, 203, 204, 205, 206, 207, 194] (by decide +kernel) (by decide +kernel)) (goodIn_sub (fun _ h => List.mem_cons_of_mem _ (List.mem_append_right _ h)) (by decide +kernel))
set_option maxRecDepth 20000 in
theorem gX8_move_X3_isFixed : GoodIn wsX8_move (wsV RX8 83 RX3 yX3_isFixed wsX3_isFixed) := goodIn_app (goodIn_of _ (by decide +kernel)) ggX8_move_X3_isFixed
set_option maxRecDepth 20000 in
theorem ggX8_move_X5_place : GoodIn wsX8_move wsX5_place := goodIn_ca (goodIn_r _ [41, 19, 20, 21, 22, 23, 24, 25, 189, 190, 191, 192, 193, 194] (by decide +kernel) (by decide +kernel)) (goodIn_sub (fun _ h => List.mem_cons_of_mem _ (List.mem_append_right _ h)) (by decide +kernel))
set_option maxRecDepth 20000 in
theorem gX8_move_X5_place : GoodIn wsX8_move (wsV RX8 87 RX5 yX5_place wsX5_place) := goodIn_app (goodIn_of _ (by decide +kernel)) ggX8_move_X5_place
set_option maxRecDepth 20000 in
theorem ggX8_move_X5_shift : GoodIn wsX8_move wsX5_shift := goodIn_ca (goodIn_r _ [45, 46, 47, 48, 17, 49, 30, 50, 19, 51, 39, 40, 41, 20, 21, 22, 23, 24, 25, 52, 53, 54, 55, 56, 57, 58, 59, 60, 61, 62, 63, 64, 65, 66, 67, 68, 189, 190, 191, 192, 193, 194] (by decide +kernel) (by decide +kernel)) (goodIn_sub (fun _ h => List.mem_cons_of_mem _ (List.mem_append_right _ h)) (by decide +kernel))
set_option maxRecDepth 20000 in
theorem gX8_move_X5_shift : GoodIn wsX8_move (wsV RX8 91 RX5 yX5_shift wsX5_shift) := goodIn_app (goodIn_of _ (by decide +kernel)) ggX8_move_X5_shift
set_option maxRecDepth 20000 in
theorem ggX8_move_X8_tearsFrozen : GoodIn wsX8_move wsX8_tearsFrozen := goodIn_ca (goodIn_r _ [72, 5, 6, 26, 27, 28, 17, 29, 30, 73, 74, 75, 76, 50, 20, 21, 22, 23, 24, 25, 31, 32, 33, 34, 35, 36, 37, 77, 78, 79, 80, 60, 61, 62, 63, 64, 81, 82, 83, 84, 85, 183, 184, 185, 186, 187, 188, 189, 190, 191, 192, 193, 194, 195, 196, 197, 198, 199, 200, 201, 202, 203, 204, 205, 206, 207] (by decide +kernel) (by decide +kernel)) (goodIn_sub (fun _ h => List.mem_cons_of_mem _ (List.mem_append_right _ h)) (by decide +kernel))
set_option maxRecDepth 20000 in
theorem gX8_move_X8_tearsFrozen : GoodIn wsX8_move (wsV RX8 66 RX8 yX8_tearsFrozen wsX8_tearsFrozen) := goodIn_app (goodIn_of _ (by decide +kernel)) ggX8_move_X8_tearsFrozen
set_option maxRecDepth 20000 in
theorem ggX8_move_X8_acceptChange : GoodIn wsX8_move wsX8_acceptChange := goodIn_ca (goodIn_r _ [89, 5, 6, 90, 91, 92, 17, 93, 30, 85, 50, 20, 21, 22, 23, 24, 25, 94, 78, 79, 80, 60, 61, 62, 63, 64, 56, 57, 58, 59, 95, 96, 97, 34, 98, 99, 100, 101, 102, 103, 104, 105, 106, 27, 28, 29, 107, 74, 75, 76, 108, 109, 110, 111, 112, 113, 114, 115, 116, 82, 83, 84, 117, 118, 119, 120, 121, 122, 32, 33, 35, 36, 37, 123, 124, 125, 126, 127, 128, 129, 130, 131, 132, 133, 134, 39, 40, 41, 19, 135, 136, 137, 138, 139, 140, 141, 142, 143, 144, 145, 146, 147, 148, 149, 150, 151, 152, 153, 154, 155, 156, 157, 158, 159, 160, 161, 162, 163, 164, 165, 166, 167, 168, 169, 170, 171, 172, 173, 174, 175, 176, 177, 178, 179, 180, 181, 182, 183, 184, 185, 186, 187, 188, 189, 190, 191, 192, 193, 194, 195, 196, 197, 198, 199, 200, 201, 202, 203, 204, 205, 206, 207, 208, 209, 210, 211, 212, 213, 214] (by decide +kernel) (by decide +kernel)) (goodIn_sub (fun _ h => List.mem_cons_of_mem _ (List.mem_append_right _ h)) (by decide +kernel))
set_option maxRecDepth 20000 in
theorem gX8_move_X8_acceptChange : GoodIn wsX8_move (wsV RX8 77 RX8 yX8_acceptChange wsX8_acceptChange) := goodIn_app (goodIn_of _ (by decide +kernel)) ggX8_move_X8_acceptChange
theorem dX8_move_0 : decode cX8_move 0 = .ok (.aload_n 0, 1) := by decide +kernel
theorem dX8_move_1 : decode cX8_move 1 = .ok (.iload_n 1, 1) := by decide +kernel
theorem dX8_move_2 : decode cX8_move 2 = .ok (.invokevirtual 80, 3) := by decide +kernel
theorem dX8_move_5 : decode cX8_move 5 = .ok (.iload_n 2, 1) := by decide +kernel
theorem dX8_move_6 : decode cX8_move 6 = .ok (.ifCond .lt 14, 3) := by decide +kernel
theorem dX8_move_9 : decode cX8_move 9 = .ok (.iload_n 2, 1) := by decide +kernel
theorem dX8_move_10 : decode cX8_move 10 = .ok (.aload_n 0, 1) := by decide +kernel
theorem dX8_move_11 : decode cX8_move 11 = .ok (.getfield 10, 3) := by decide +kernel
theorem dX8_move_14 : decode cX8_move 14 = .ok (.invokevirtual 48, 3) := by decide +kernel
theorem dX8_move_17 : decode cX8_move 17 = .ok (.if_icmp .lt 11, 3) := by decide +kernel
theorem dX8_move_20 : decode cX8_move 20 = .ok (.new 52, 3) := by decide +kernel
theorem dX8_move_23 : decode cX8_move 23 = .ok (.dup, 1) := by decide +kernel
theorem dX8_move_24 : decode cX8_move 24 = .ok (.invokespecial 54, 3) := by decide +kernel
theorem dX8_move_27 : decode cX8_move 27 = .ok (.athrow, 1) := by decide +kernel
theorem dX8_move_28 : decode cX8_move 28 = .ok (.aload_n 0, 1) := by decide +kernel
theorem dX8_move_29 : decode cX8_move 29 = .ok (.getfield 28, 3) := by decide +kernel
theorem dX8_move_32 : decode cX8_move 32 = .ok (.iload_n 1, 1) := by decide +kernel
theorem dX8_move_33 : decode cX8_move 33 = .ok (.invokevirtual 83, 3) := by decide +kernel
theorem dX8_move_36 : decode cX8_move 36 = .ok (.ifCond .eq 11, 3) := by decide +kernel
theorem dX8_move_39 : decode cX8_move 39 = .ok (.new 74, 3) := by decide +kernel
theorem dX8_move_42 : decode cX8_move 42 = .ok (.dup, 1) := by decide +kernel
theorem dX8_move_43 : decode cX8_move 43 = .ok (.invokespecial 76, 3) := by decide +kernel
theorem dX8_move_46 : decode cX8_move 46 = .ok (.athrow, 1) := by decide +kernel
theorem dX8_move_47 : decode cX8_move 47 = .ok (.aload_n 0, 1) := by decide +kernel
theorem dX8_move_48 : decode cX8_move 48 = .ok (.getfield 10, 3) := by decide +kernel
theorem dX8_move_51 : decode cX8_move 51 = .ok (.iload_n 1, 1) := by decide +kernel
theorem dX8_move_52 : decode cX8_move 52 = .ok (.invokevirtual 87, 3) := by decide +kernel
theorem dX8_move_55 : decode cX8_move 55 = .ok (.istore_n 3, 1) := by decide +kernel
theorem dX8_move_56 : decode cX8_move 56 = .ok (.aload_n 0, 1) := by decide +kernel
theorem dX8_move_57 : decode cX8_move 57 = .ok (.getfield 10, 3) := by decide +kernel
theorem dX8_move_60 : decode cX8_move 60 = .ok (.iload_n 1, 1) := by decide +kernel
theorem dX8_move_61 : decode cX8_move 61 = .ok (.iload_n 2, 1) := by decide +kernel
theorem dX8_move_62 : decode cX8_move 62 = .ok (.invokevirtual 91, 3) := by decide +kernel
theorem dX8_move_65 : decode cX8_move 65 = .ok (.aload_n 0, 1) := by decide +kernel
theorem dX8_move_66 : decode cX8_move 66 = .ok (.invokevirtual 66, 3) := by decide +kernel
theorem dX8_move_69 : decode cX8_move 69 = .ok (.ifCond .eq 20, 3) := by decide +kernel
theorem dX8_move_72 : decode cX8_move 72 = .ok (.aload_n 0, 1) := by decide +kernel
theorem dX8_move_73 : decode cX8_move 73 = .ok (.getfield 10, 3) := by decide +kernel
theorem dX8_move_76 : decode cX8_move 76 = .ok (.iload_n 1, 1) := by decide +kernel
theorem dX8_move_77 : decode cX8_move 77 = .ok (.iload_n 3, 1) := by decide +kernel
theorem dX8_move_78 : decode cX8_move 78 = .ok (.invokevirtual 91, 3) := by decide +kernel
theorem dX8_move_81 : decode cX8_move 81 = .ok (.new 74, 3) := by decide +kernel
theorem dX8_move_84 : decode cX8_move 84 = .ok (.dup, 1) := by decide +kernel
theorem dX8_move_85 : decode cX8_move 85 = .ok (.invokespecial 76, 3) := by decide +kernel
theorem dX8_move_88 : decode cX8_move 88 = .ok (.athrow, 1) := by decide +kernel
theorem dX8_move_89 : decode cX8_move 89 = .ok (.aload_n 0, 1) := by decide +kernel
theorem dX8_move_90 : decode cX8_move 90 = .ok (.invokevirtual 77, 3) := by decide +kernel
theorem dX8_move_93 : decode cX8_move 93 = .ok (.iload_n 3, 1) := by decide +kernel
theorem dX8_move_94 : decode cX8_move 94 = .ok (.ireturn, 1) := by decide +kernel
set_option maxRecDepth 20000 in
theorem ggX8_setLevel_X8_requireStanding : GoodIn wsX8_setLevel wsX8_requireStanding := goodIn_ca (goodIn_ca (goodIn_r _ [11, 12, 13, 6, 14, 15, 16, 17, 18, 19, 20, 21, 22, 23, 24, 25, 170, 171, 172, 173, 174, 175, 176, 177, 178, 179, 180, 181] (by decide +kernel) (by decide +kernel)) (goodIn_sub (fun _ h => List.mem_cons_of_mem _ (List.mem_append_left _ (List.mem_append_right _ h))) (by decide +kernel))) (goodIn_sub (fun _ h => List.mem_cons_of_mem _ (List.mem_append_right _ h)) (by decide +kernel))
set_option maxRecDepth 20000 in
theorem gX8_setLevel_X8_requireStanding : GoodIn wsX8_setLevel (wsV RX8 80 RX8 yX8_requireStanding wsX8_requireStanding) := goodIn_app (goodIn_of _ (by decide +kernel)) ggX8_setLevel_X8_requireStanding
set_option maxRecDepth 20000 in
theorem ggX8_setLevel_X3_isFixed : GoodIn wsX8_setLevel wsX3_isFixed := goodIn_ca (goodIn_r _ [30, 31, 32, 21, 22, 23, 24, 25, 182, 183, 184, 185, 186, 187, 188, 189, 190, 191, 192, 193, 194, 181] (by decide +kernel) (by decide +kernel)) (goodIn_sub (fun _ h => List.mem_cons_of_mem _ (List.mem_append_right _ h)) (by decide +kernel))
set_option maxRecDepth 20000 in
theorem gX8_setLevel_X3_isFixed : GoodIn wsX8_setLevel (wsV RX8 83 RX3 yX3_isFixed wsX3_isFixed) := goodIn_app (goodIn_of _ (by decide +kernel)) ggX8_setLevel_X3_isFixed
set_option maxRecDepth 20000 in
theorem ggX8_setLevel_X5_level : GoodIn wsX8_setLevel wsX5_level := goodIn_ca (goodIn_r _ [36, 37, 20, 21, 22, 23, 24, 25, 176, 177, 178, 179, 180, 181] (by decide +kernel) (by decide +kernel)) (goodIn_sub (fun _ h => List.mem_cons_of_mem _ (List.mem_append_right _ h)) (by decide +kernel))
set_option maxRecDepth 20000 in
theorem gX8_setLevel_X5_level : GoodIn wsX8_setLevel (wsV RX8 95 RX5 yX5_level wsX5_level) := goodIn_app (goodIn_of _ (by decide +kernel)) ggX8_setLevel_X5_level
set_option maxRecDepth 20000 in
theorem ggX8_setLevel_X5_putLevel : GoodIn wsX8_setLevel wsX5_putLevel := goodIn_ca (goodIn_r _ [41, 37, 42, 43, 44, 23, 45, 25, 176, 177, 178, 179, 180, 181] (by decide +kernel) (by decide +kernel)) (goodIn_sub (fun _ h => List.mem_cons_of_mem _ (List.mem_append_right _ h)) (by decide +kernel))
set_option maxRecDepth 20000 in
theorem gX8_setLevel_X5_putLevel : GoodIn wsX8_setLevel (wsV RX8 98 RX5 yX5_putLevel wsX5_putLevel) := goodIn_app (goodIn_of _ (by decide +kernel)) ggX8_setLevel_X5_putLevel
set_option maxRecDepth 20000 in
theorem ggX8_setLevel_X8_tearsFrozen : GoodIn wsX8_setLevel wsX8_tearsFrozen := goodIn_ca (goodIn_r _ [49, 6, 5, 50, 51, 52, 17, 53, 54, 55, 56, 57, 58, 59, 20, 21, 22, 23, 24, 25, 26, 27, 28, 29, 30, 31, 32, 60, 61, 62, 63, 64, 34, 35, 36, 37, 65, 66, 67, 68, 69, 170, 171, 172, 173, 174, 175, 176, 177, 178, 179, 180, 181, 182, 183, 184, 185, 186, 187, 188, 189, 190, 191, 192, 193, 194] (by decide +kernel) (by decide +kernel)) (goodIn_sub (fun _ h => List.mem_cons_of_mem _ (List.mem_append_right _ h)) (by decide +kernel))
set_option maxRecDepth 20000 in
theorem gX8_setLevel_X8_tearsFrozen : GoodIn wsX8_setLevel (wsV RX8 66 RX8 yX8_tearsFrozen wsX8_tearsFrozen) := goodIn_app (goodIn_of _ (by decide +kernel)) ggX8_setLevel_X8_tearsFrozen
set_option maxRecDepth 20000 in
theorem ggX8_setLevel_X8_acceptChange : GoodIn wsX8_setLevel wsX8_acceptChange := goodIn_ca (goodIn_r _ [73, 6, 5, 74, 75, 76, 17, 77, 54, 69, 59, 20, 21, 22, 23, 24, 25, 78, 61, 62, 63, 64, 34, 35, 36, 37, 42, 43, 44, 45, 79, 80, 81, 29, 82, 83, 84, 85, 86, 87, 88, 89, 90, 51, 52, 53, 91, 56, 57, 58, 92, 93, 94, 95, 96, 97, 98, 99, 100, 66, 67, 68, 101, 102, 103, 104, 105, 106, 27, 28, 30, 31, 32, 107, 108, 109, 110, 111, 112, 113, 114, 115, 116, 117, 118, 119, 120, 121, 19, 122, 123, 124, 125, 126, 127, 128, 129, 130, 131, 132, 133, 134, 135, 136, 137, 138, 139, 140, 141, 142, 143, 144, 145, 146, 147, 148, 149, 150, 151, 152, 153, 154, 155, 156, 157, 158, 159, 160, 161, 162, 163, 164, 165, 166, 167, 168, 169, 170, 171, 172, 173, 174, 175, 176, 177, 178, 179, 180, 181, 182, 183, 184, 185, 186, 187, 188, 189, 190, 191, 192, 193, 194, 195, 196, 197, 198, 199, 200, 201] (by decide +kernel) (by decide +kernel)) (goodIn_sub (fun _ h => List.mem_cons_of_mem _ (List.mem_append_right _ h)) (by decide +kernel))
set_option maxRecDepth 20000 in
theorem gX8_setLevel_X8_acceptChange : GoodIn wsX8_setLevel (wsV RX8 77 RX8 yX8_acceptChange wsX8_acceptChange) := goodIn_app (goodIn_of _ (by decide +kernel)) ggX8_setLevel_X8_acceptChange
theorem dX8_setLevel_0 : decode cX8_setLevel 0 = .ok (.aload_n 0, 1) := by decide +kernel
theorem dX8_setLevel_1 : decode cX8_setLevel 1 = .ok (.iload_n 1, 1) := by decide +kernel
theorem dX8_setLevel_2 : decode cX8_setLevel 2 = .ok (.invokevirtual 80, 3) := by decide +kernel
theorem dX8_setLevel_5 : decode cX8_setLevel 5 = .ok (.iload_n 2, 1) := by decide +kernel
theorem dX8_setLevel_6 : decode cX8_setLevel 6 = .ok (.ifCond .lt 8, 3) := by decide +kernel
theorem dX8_setLevel_9 : decode cX8_setLevel 9 = .ok (.iload_n 2, 1) := by decide +kernel
theorem dX8_setLevel_10 : decode cX8_setLevel 10 = .ok (.iconst 4, 1) := by decide +kernel
theorem dX8_setLevel_11 : decode cX8_setLevel 11 = .ok (.if_icmp .le 11, 3) := by decide +kernel
theorem dX8_setLevel_14 : decode cX8_setLevel 14 = .ok (.new 52, 3) := by decide +kernel
theorem dX8_setLevel_17 : decode cX8_setLevel 17 = .ok (.dup, 1) := by decide +kernel
theorem dX8_setLevel_18 : decode cX8_setLevel 18 = .ok (.invokespecial 54, 3) := by decide +kernel
theorem dX8_setLevel_21 : decode cX8_setLevel 21 = .ok (.athrow, 1) := by decide +kernel
theorem dX8_setLevel_22 : decode cX8_setLevel 22 = .ok (.aload_n 0, 1) := by decide +kernel
theorem dX8_setLevel_23 : decode cX8_setLevel 23 = .ok (.getfield 28, 3) := by decide +kernel
theorem dX8_setLevel_26 : decode cX8_setLevel 26 = .ok (.iload_n 1, 1) := by decide +kernel
theorem dX8_setLevel_27 : decode cX8_setLevel 27 = .ok (.invokevirtual 83, 3) := by decide +kernel
theorem dX8_setLevel_30 : decode cX8_setLevel 30 = .ok (.ifCond .eq 11, 3) := by decide +kernel
theorem dX8_setLevel_33 : decode cX8_setLevel 33 = .ok (.new 74, 3) := by decide +kernel
theorem dX8_setLevel_36 : decode cX8_setLevel 36 = .ok (.dup, 1) := by decide +kernel
theorem dX8_setLevel_37 : decode cX8_setLevel 37 = .ok (.invokespecial 76, 3) := by decide +kernel
theorem dX8_setLevel_40 : decode cX8_setLevel 40 = .ok (.athrow, 1) := by decide +kernel
theorem dX8_setLevel_41 : decode cX8_setLevel 41 = .ok (.aload_n 0, 1) := by decide +kernel
theorem dX8_setLevel_42 : decode cX8_setLevel 42 = .ok (.getfield 10, 3) := by decide +kernel
theorem dX8_setLevel_45 : decode cX8_setLevel 45 = .ok (.iload_n 1, 1) := by decide +kernel
theorem dX8_setLevel_46 : decode cX8_setLevel 46 = .ok (.invokevirtual 95, 3) := by decide +kernel
theorem dX8_setLevel_49 : decode cX8_setLevel 49 = .ok (.istore_n 3, 1) := by decide +kernel
theorem dX8_setLevel_50 : decode cX8_setLevel 50 = .ok (.aload_n 0, 1) := by decide +kernel
theorem dX8_setLevel_51 : decode cX8_setLevel 51 = .ok (.getfield 10, 3) := by decide +kernel
theorem dX8_setLevel_54 : decode cX8_setLevel 54 = .ok (.iload_n 1, 1) := by decide +kernel
theorem dX8_setLevel_55 : decode cX8_setLevel 55 = .ok (.iload_n 2, 1) := by decide +kernel
theorem dX8_setLevel_56 : decode cX8_setLevel 56 = .ok (.invokevirtual 98, 3) := by decide +kernel
theorem dX8_setLevel_59 : decode cX8_setLevel 59 = .ok (.aload_n 0, 1) := by decide +kernel
theorem dX8_setLevel_60 : decode cX8_setLevel 60 = .ok (.invokevirtual 66, 3) := by decide +kernel
theorem dX8_setLevel_63 : decode cX8_setLevel 63 = .ok (.ifCond .eq 20, 3) := by decide +kernel
theorem dX8_setLevel_66 : decode cX8_setLevel 66 = .ok (.aload_n 0, 1) := by decide +kernel
theorem dX8_setLevel_67 : decode cX8_setLevel 67 = .ok (.getfield 10, 3) := by decide +kernel
theorem dX8_setLevel_70 : decode cX8_setLevel 70 = .ok (.iload_n 1, 1) := by decide +kernel
theorem dX8_setLevel_71 : decode cX8_setLevel 71 = .ok (.iload_n 3, 1) := by decide +kernel
theorem dX8_setLevel_72 : decode cX8_setLevel 72 = .ok (.invokevirtual 98, 3) := by decide +kernel
theorem dX8_setLevel_75 : decode cX8_setLevel 75 = .ok (.new 74, 3) := by decide +kernel
theorem dX8_setLevel_78 : decode cX8_setLevel 78 = .ok (.dup, 1) := by decide +kernel
theorem dX8_setLevel_79 : decode cX8_setLevel 79 = .ok (.invokespecial 76, 3) := by decide +kernel
theorem dX8_setLevel_82 : decode cX8_setLevel 82 = .ok (.athrow, 1) := by decide +kernel
theorem dX8_setLevel_83 : decode cX8_setLevel 83 = .ok (.aload_n 0, 1) := by decide +kernel
theorem dX8_setLevel_84 : decode cX8_setLevel 84 = .ok (.invokevirtual 77, 3) := by decide +kernel
theorem dX8_setLevel_87 : decode cX8_setLevel 87 = .ok (.iload_n 3, 1) := by decide +kernel
theorem dX8_setLevel_88 : decode cX8_setLevel 88 = .ok (.ireturn, 1) := by decide +kernel
set_option maxRecDepth 20000 in
theorem ggX8_remove_X8_requireStanding : GoodIn wsX8_remove wsX8_requireStanding := goodIn_ca (goodIn_ca (goodIn_r _ [8, 9, 10, 3, 11, 12, 13, 14, 15, 16, 17, 18, 19, 20, 21, 22, 178, 179, 180, 181, 182, 183, 184, 185, 186, 187, 188, 189] (by decide +kernel) (by decide +kernel)) (goodIn_sub (fun _ h => List.mem_cons_of_mem _ (List.mem_append_left _ (List.mem_append_right _ h))) (by decide +kernel))) (goodIn_sub (fun _ h => List.mem_cons_of_mem _ (List.mem_append_right _ h)) (by decide +kernel))
set_option maxRecDepth 20000 in
theorem gX8_remove_X8_requireStanding : GoodIn wsX8_remove (wsV RX8 80 RX8 yX8_requireStanding wsX8_requireStanding) := goodIn_app (goodIn_of _ (by decide +kernel)) ggX8_remove_X8_requireStanding
set_option maxRecDepth 20000 in
theorem ggX8_remove_X5_place : GoodIn wsX8_remove wsX5_place := goodIn_ca (goodIn_r _ [26, 16, 17, 18, 19, 20, 21, 22, 184, 185, 186, 187, 188, 189] (by decide +kernel) (by decide +kernel)) (goodIn_sub (fun _ h => List.mem_cons_of_mem _ (List.mem_append_right _ h)) (by decide +kernel))
set_option maxRecDepth 20000 in
theorem gX8_remove_X5_place : GoodIn wsX8_remove (wsV RX8 87 RX5 yX5_place wsX5_place) := goodIn_app (goodIn_of _ (by decide +kernel)) ggX8_remove_X5_place
set_option maxRecDepth 20000 in
theorem ggX8_remove_X5_take : GoodIn wsX8_remove wsX5_take := goodIn_ca (goodIn_r _ [30, 31, 32, 16, 33, 24, 25, 14, 26, 17, 18, 19, 20, 21, 22, 34, 35, 36, 37, 38, 39, 40, 41, 184, 185, 186, 187, 188, 189] (by decide +kernel) (by decide +kernel)) (goodIn_sub (fun _ h => List.mem_cons_of_mem _ (List.mem_append_right _ h)) (by decide +kernel))
set_option maxRecDepth 20000 in
theorem gX8_remove_X5_take : GoodIn wsX8_remove (wsV RX8 70 RX5 yX5_take wsX5_take) := goodIn_app (goodIn_of _ (by decide +kernel)) ggX8_remove_X5_take
set_option maxRecDepth 20000 in
theorem ggX8_remove_X8_tearsFrozen : GoodIn wsX8_remove wsX8_tearsFrozen := goodIn_ca (goodIn_r _ [45, 3, 46, 47, 48, 49, 14, 50, 31, 51, 52, 53, 54, 32, 17, 18, 19, 20, 21, 22, 55, 56, 57, 58, 59, 60, 61, 62, 63, 64, 65, 66, 67, 68, 69, 70, 71, 72, 73, 74, 75, 178, 179, 180, 181, 182, 183, 184, 185, 186, 187, 188, 189, 190, 191, 192, 193, 194, 195, 196, 197, 198, 199, 200, 201, 202] (by decide +kernel) (by decide +kernel)) (goodIn_sub (fun _ h => List.mem_cons_of_mem _ (List.mem_append_right _ h)) (by decide +kernel))
set_option maxRecDepth 20000 in
theorem gX8_remove_X8_tearsFrozen : GoodIn wsX8_remove (wsV RX8 66 RX8 yX8_tearsFrozen wsX8_tearsFrozen) := goodIn_app (goodIn_of _ (by decide +kernel)) ggX8_remove_X8_tearsFrozen
set_option maxRecDepth 20000 in
theorem ggX8_remove_X5_level : GoodIn wsX8_remove wsX5_level := goodIn_ca (goodIn_r _ [69, 70, 17, 18, 19, 20, 21, 22, 184, 185, 186, 187, 188, 189] (by decide +kernel) (by decide +kernel)) (goodIn_sub (fun _ h => List.mem_cons_of_mem _ (List.mem_append_right _ h)) (by decide +kernel))
set_option maxRecDepth 20000 in
theorem gX8_remove_X5_level : GoodIn wsX8_remove (wsV RX8 95 RX5 yX5_level wsX5_level) := goodIn_app (goodIn_of _ (by decide +kernel)) ggX8_remove_X5_level
set_option maxRecDepth 20000 in
theorem ggX8_remove_X5_put : GoodIn wsX8_remove wsX5_put := goodIn_ca (goodIn_r _ [80, 31, 32, 70, 17, 18, 19, 20, 21, 22, 34, 35, 36, 14, 37, 16, 38, 39, 40, 41, 184, 185, 186, 187, 188, 189] (by decide +kernel) (by decide +kernel)) (goodIn_sub (fun _ h => List.mem_cons_of_mem _ (List.mem_append_right _ h)) (by decide +kernel))
set_option maxRecDepth 20000 in
theorem gX8_remove_X5_put : GoodIn wsX8_remove (wsV RX8 62 RX5 yX5_put wsX5_put) := goodIn_app (goodIn_of _ (by decide +kernel)) ggX8_remove_X5_put
set_option maxRecDepth 20000 in
theorem ggX8_remove_X8_acceptChange : GoodIn wsX8_remove wsX8_acceptChange := goodIn_ca (goodIn_r _ [84, 3, 46, 85, 86, 87, 14, 88, 31, 75, 32, 17, 18, 19, 20, 21, 22, 89, 63, 64, 65, 66, 67, 68, 69, 70, 38, 39, 40, 41, 90, 91, 92, 58, 93, 94, 95, 96, 97, 98, 99, 100, 101, 48, 49, 50, 102, 52, 53, 54, 103, 104, 105, 106, 107, 108, 109, 110, 111, 72, 73, 74, 112, 113, 114, 115, 116, 117, 56, 57, 59, 60, 61, 118, 119, 120, 121, 122, 123, 124, 125, 126, 127, 128, 129, 24, 25, 26, 16, 130, 131, 132, 133, 134, 135, 136, 137, 138, 139, 140, 141, 142, 143, 144, 145, 146, 147, 148, 149, 150, 151, 152, 153, 154, 155, 156, 157, 158, 159, 160, 161, 162, 163, 164, 165, 166, 167, 168, 169, 170, 171, 172, 173, 174, 175, 176, 177, 178, 179, 180, 181, 182, 183, 184, 185, 186, 187, 188, 189, 190, 191, 192, 193, 194, 195, 196, 197, 198, 199, 200, 201, 202, 203, 204, 205, 206, 207, 208, 209] (by decide +kernel) (by decide +kernel)) (goodIn_sub (fun _ h => List.mem_cons_of_mem _ (List.mem_append_right _ h)) (by decide +kernel))
set_option maxRecDepth 20000 in
theorem gX8_remove_X8_acceptChange : GoodIn wsX8_remove (wsV RX8 77 RX8 yX8_acceptChange wsX8_acceptChange) := goodIn_app (goodIn_of _ (by decide +kernel)) ggX8_remove_X8_acceptChange
set_option maxRecDepth 20000 in
theorem ggX8_remove_X5_amount : GoodIn wsX8_remove wsX5_amount := goodIn_r _ [50, 31, 184, 185, 186, 187, 188] (by decide +kernel) (by decide +kernel)
set_option maxRecDepth 20000 in
theorem gX8_remove_X5_amount : GoodIn wsX8_remove (wsV RX8 48 RX5 yX5_amount wsX5_amount) := goodIn_app (goodIn_of _ (by decide +kernel)) ggX8_remove_X5_amount
theorem dX8_remove_0 : decode cX8_remove 0 = .ok (.aload_n 0, 1) := by decide +kernel
theorem dX8_remove_1 : decode cX8_remove 1 = .ok (.iload_n 1, 1) := by decide +kernel
theorem dX8_remove_2 : decode cX8_remove 2 = .ok (.invokevirtual 80, 3) := by decide +kernel
theorem dX8_remove_5 : decode cX8_remove 5 = .ok (.aload_n 0, 1) := by decide +kernel
theorem dX8_remove_6 : decode cX8_remove 6 = .ok (.getfield 10, 3) := by decide +kernel
theorem dX8_remove_9 : decode cX8_remove 9 = .ok (.iload_n 1, 1) := by decide +kernel
theorem dX8_remove_10 : decode cX8_remove 10 = .ok (.invokevirtual 87, 3) := by decide +kernel
theorem dX8_remove_13 : decode cX8_remove 13 = .ok (.istore_n 2, 1) := by decide +kernel
theorem dX8_remove_14 : decode cX8_remove 14 = .ok (.aload_n 0, 1) := by decide +kernel
theorem dX8_remove_15 : decode cX8_remove 15 = .ok (.getfield 10, 3) := by decide +kernel
theorem dX8_remove_18 : decode cX8_remove 18 = .ok (.iload_n 1, 1) := by decide +kernel
theorem dX8_remove_19 : decode cX8_remove 19 = .ok (.invokevirtual 70, 3) := by decide +kernel
theorem dX8_remove_22 : decode cX8_remove 22 = .ok (.aload_n 0, 1) := by decide +kernel
theorem dX8_remove_23 : decode cX8_remove 23 = .ok (.invokevirtual 66, 3) := by decide +kernel
theorem dX8_remove_26 : decode cX8_remove 26 = .ok (.ifCond .eq 28, 3) := by decide +kernel
theorem dX8_remove_29 : decode cX8_remove 29 = .ok (.aload_n 0, 1) := by decide +kernel
theorem dX8_remove_30 : decode cX8_remove 30 = .ok (.getfield 10, 3) := by decide +kernel
theorem dX8_remove_33 : decode cX8_remove 33 = .ok (.iload_n 1, 1) := by decide +kernel
theorem dX8_remove_34 : decode cX8_remove 34 = .ok (.iload_n 2, 1) := by decide +kernel
theorem dX8_remove_35 : decode cX8_remove 35 = .ok (.aload_n 0, 1) := by decide +kernel
theorem dX8_remove_36 : decode cX8_remove 36 = .ok (.getfield 10, 3) := by decide +kernel
theorem dX8_remove_39 : decode cX8_remove 39 = .ok (.iload_n 1, 1) := by decide +kernel
theorem dX8_remove_40 : decode cX8_remove 40 = .ok (.invokevirtual 95, 3) := by decide +kernel
theorem dX8_remove_43 : decode cX8_remove 43 = .ok (.invokevirtual 62, 3) := by decide +kernel
theorem dX8_remove_46 : decode cX8_remove 46 = .ok (.new 74, 3) := by decide +kernel
theorem dX8_remove_49 : decode cX8_remove 49 = .ok (.dup, 1) := by decide +kernel
theorem dX8_remove_50 : decode cX8_remove 50 = .ok (.invokespecial 76, 3) := by decide +kernel
theorem dX8_remove_53 : decode cX8_remove 53 = .ok (.athrow, 1) := by decide +kernel
theorem dX8_remove_54 : decode cX8_remove 54 = .ok (.aload_n 0, 1) := by decide +kernel
theorem dX8_remove_55 : decode cX8_remove 55 = .ok (.invokevirtual 77, 3) := by decide +kernel
theorem dX8_remove_58 : decode cX8_remove 58 = .ok (.aload_n 0, 1) := by decide +kernel
theorem dX8_remove_59 : decode cX8_remove 59 = .ok (.getfield 10, 3) := by decide +kernel
theorem dX8_remove_62 : decode cX8_remove 62 = .ok (.invokevirtual 48, 3) := by decide +kernel
theorem dX8_remove_65 : decode cX8_remove 65 = .ok (.ireturn, 1) := by decide +kernel
set_option maxRecDepth 20000 in
theorem ggX8_startAt_X8_requireStanding : GoodIn wsX8_startAt wsX8_requireStanding := goodIn_ca (goodIn_ca (goodIn_r _ [8, 9, 10, 11, 12, 13, 14, 15, 16, 17, 18, 19, 20, 21, 22, 23, 145, 146, 147, 148, 149, 150, 151, 152, 153, 154, 155, 156] (by decide +kernel) (by decide +kernel)) (goodIn_sub (fun _ h => List.mem_cons_of_mem _ (List.mem_append_left _ (List.mem_append_right _ h))) (by decide +kernel))) (goodIn_sub (fun _ h => List.mem_cons_of_mem _ (List.mem_append_right _ h)) (by decide +kernel))
set_option maxRecDepth 20000 in
theorem gX8_startAt_X8_requireStanding : GoodIn wsX8_startAt (wsV RX8 80 RX8 yX8_requireStanding wsX8_requireStanding) := goodIn_app (goodIn_of _ (by decide +kernel)) ggX8_startAt_X8_requireStanding
set_option maxRecDepth 20000 in
theorem ggX8_startAt_X3_start : GoodIn wsX8_startAt wsX3_start := goodIn_ca (goodIn_r _ [28, 29, 30, 19, 20, 21, 22, 23, 157, 158, 159, 160, 161, 162, 163, 164, 165, 166, 167, 168, 169, 156] (by decide +kernel) (by decide +kernel)) (goodIn_sub (fun _ h => List.mem_cons_of_mem _ (List.mem_append_right _ h)) (by decide +kernel))
set_option maxRecDepth 20000 in
theorem gX8_startAt_X3_start : GoodIn wsX8_startAt (wsV RX8 101 RX3 yX3_start wsX3_start) := goodIn_app (goodIn_of _ (by decide +kernel)) ggX8_startAt_X3_start
set_option maxRecDepth 20000 in
theorem ggX8_startAt_X3_putStart : GoodIn wsX8_startAt wsX3_putStart := goodIn_ca (goodIn_r _ [34, 29, 35, 36, 37, 21, 38, 23, 157, 158, 159, 160, 161, 162, 163, 164, 165, 166, 167, 168, 169, 156] (by decide +kernel) (by decide +kernel)) (goodIn_sub (fun _ h => List.mem_cons_of_mem _ (List.mem_append_right _ h)) (by decide +kernel))
set_option maxRecDepth 20000 in
theorem gX8_startAt_X3_putStart : GoodIn wsX8_startAt (wsV RX8 104 RX3 yX3_putStart wsX3_putStart) := goodIn_app (goodIn_of _ (by decide +kernel)) ggX8_startAt_X3_putStart
set_option maxRecDepth 20000 in
theorem ggX8_startAt_X3_renumber : GoodIn wsX8_startAt wsX3_renumber := goodIn_ca (goodIn_r _ [42, 43, 44, 45, 46, 27, 47, 48, 49, 50, 51, 52, 15, 53, 54, 55, 56, 57, 58, 59, 18, 19, 20, 21, 22, 23, 60, 61, 62, 63, 64, 65, 66, 67, 68, 69, 70, 71, 72, 73, 74, 75, 76, 35, 36, 37, 38, 77, 78, 79, 80, 81, 82, 83, 84, 85, 30, 86, 87, 88, 89, 90, 91, 92, 93, 94, 95, 96, 97, 98, 99, 100, 17, 101, 102, 103, 104, 105, 106, 107, 108, 109, 110, 111, 112, 113, 114, 115, 116, 117, 118, 119, 120, 121, 122, 123, 25, 26, 28, 29, 124, 125, 126, 127, 128, 129, 130, 131, 132, 133, 134, 135, 136, 137, 138, 139, 140, 141, 142, 143, 144, 157, 158, 159, 160, 161, 162, 163, 164, 165, 166, 167, 168, 169, 151, 152, 153, 154, 155, 156, 170, 171, 172, 173, 174, 175, 176] (by decide +kernel) (by decide +kernel)) (goodIn_sub (fun _ h => List.mem_cons_of_mem _ (List.mem_append_right _ h)) (by decide +kernel))
set_option maxRecDepth 20000 in
theorem gX8_startAt_X3_renumber : GoodIn wsX8_startAt (wsV RX8 107 RX3 yX3_renumber wsX3_renumber) := goodIn_app (goodIn_of _ (by decide +kernel)) ggX8_startAt_X3_renumber
theorem dX8_startAt_0 : decode cX8_startAt 0 = .ok (.aload_n 0, 1) := by decide +kernel
theorem dX8_startAt_1 : decode cX8_startAt 1 = .ok (.iload_n 1, 1) := by decide +kernel
theorem dX8_startAt_2 : decode cX8_startAt 2 = .ok (.invokevirtual 80, 3) := by decide +kernel
theorem dX8_startAt_5 : decode cX8_startAt 5 = .ok (.iload_n 2, 1) := by decide +kernel
theorem dX8_startAt_6 : decode cX8_startAt 6 = .ok (.ifCond .lt 10, 3) := by decide +kernel
theorem dX8_startAt_9 : decode cX8_startAt 9 = .ok (.iload_n 2, 1) := by decide +kernel
theorem dX8_startAt_10 : decode cX8_startAt 10 = .ok (.sipush 999, 3) := by decide +kernel
theorem dX8_startAt_13 : decode cX8_startAt 13 = .ok (.if_icmp .le 11, 3) := by decide +kernel
theorem dX8_startAt_16 : decode cX8_startAt 16 = .ok (.new 52, 3) := by decide +kernel
theorem dX8_startAt_19 : decode cX8_startAt 19 = .ok (.dup, 1) := by decide +kernel
theorem dX8_startAt_20 : decode cX8_startAt 20 = .ok (.invokespecial 54, 3) := by decide +kernel
theorem dX8_startAt_23 : decode cX8_startAt 23 = .ok (.athrow, 1) := by decide +kernel
theorem dX8_startAt_24 : decode cX8_startAt 24 = .ok (.aload_n 0, 1) := by decide +kernel
theorem dX8_startAt_25 : decode cX8_startAt 25 = .ok (.getfield 28, 3) := by decide +kernel
theorem dX8_startAt_28 : decode cX8_startAt 28 = .ok (.iload_n 1, 1) := by decide +kernel
theorem dX8_startAt_29 : decode cX8_startAt 29 = .ok (.invokevirtual 101, 3) := by decide +kernel
theorem dX8_startAt_32 : decode cX8_startAt 32 = .ok (.istore_n 3, 1) := by decide +kernel
theorem dX8_startAt_33 : decode cX8_startAt 33 = .ok (.aload_n 0, 1) := by decide +kernel
theorem dX8_startAt_34 : decode cX8_startAt 34 = .ok (.getfield 28, 3) := by decide +kernel
theorem dX8_startAt_37 : decode cX8_startAt 37 = .ok (.iload_n 1, 1) := by decide +kernel
theorem dX8_startAt_38 : decode cX8_startAt 38 = .ok (.iload_n 2, 1) := by decide +kernel
theorem dX8_startAt_39 : decode cX8_startAt 39 = .ok (.invokevirtual 104, 3) := by decide +kernel
theorem dX8_startAt_42 : decode cX8_startAt 42 = .ok (.aload_n 0, 1) := by decide +kernel
theorem dX8_startAt_43 : decode cX8_startAt 43 = .ok (.getfield 28, 3) := by decide +kernel
theorem dX8_startAt_46 : decode cX8_startAt 46 = .ok (.invokevirtual 107, 3) := by decide +kernel
theorem dX8_startAt_49 : decode cX8_startAt 49 = .ok (.iload_n 3, 1) := by decide +kernel
theorem dX8_startAt_50 : decode cX8_startAt 50 = .ok (.ireturn, 1) := by decide +kernel
set_option maxRecDepth 20000 in
theorem ggX8_reserve_X8_requireStanding : GoodIn wsX8_reserve wsX8_requireStanding := goodIn_ca (goodIn_ca (goodIn_r _ [8, 9, 10, 11, 12, 13, 14, 15, 16, 17, 18, 19, 20, 21, 22, 23, 145, 146, 147, 148, 149, 150, 151, 152, 153, 154, 155, 156] (by decide +kernel) (by decide +kernel)) (goodIn_sub (fun _ h => List.mem_cons_of_mem _ (List.mem_append_left _ (List.mem_append_right _ h))) (by decide +kernel))) (goodIn_sub (fun _ h => List.mem_cons_of_mem _ (List.mem_append_right _ h)) (by decide +kernel))
set_option maxRecDepth 20000 in
theorem gX8_reserve_X8_requireStanding : GoodIn wsX8_reserve (wsV RX8 80 RX8 yX8_requireStanding wsX8_requireStanding) := goodIn_app (goodIn_of _ (by decide +kernel)) ggX8_reserve_X8_requireStanding
set_option maxRecDepth 20000 in
theorem ggX8_reserve_X3_reserved : GoodIn wsX8_reserve wsX3_reserved := goodIn_ca (goodIn_r _ [28, 29, 30, 19, 20, 21, 22, 23, 157, 158, 159, 160, 161, 162, 163, 164, 165, 166, 167, 168, 169, 156] (by decide +kernel) (by decide +kernel)) (goodIn_sub (fun _ h => List.mem_cons_of_mem _ (List.mem_append_right _ h)) (by decide +kernel))
set_option maxRecDepth 20000 in
theorem gX8_reserve_X3_reserved : GoodIn wsX8_reserve (wsV RX8 110 RX3 yX3_reserved wsX3_reserved) := goodIn_app (goodIn_of _ (by decide +kernel)) ggX8_reserve_X3_reserved
set_option maxRecDepth 20000 in
theorem ggX8_reserve_X3_putReserved : GoodIn wsX8_reserve wsX3_putReserved := goodIn_ca (goodIn_r _ [34, 29, 35, 36, 37, 21, 38, 23, 157, 158, 159, 160, 161, 162, 163, 164, 165, 166, 167, 168, 169, 156] (by decide +kernel) (by decide +kernel)) (goodIn_sub (fun _ h => List.mem_cons_of_mem _ (List.mem_append_right _ h)) (by decide +kernel))
set_option maxRecDepth 20000 in
theorem gX8_reserve_X3_putReserved : GoodIn wsX8_reserve (wsV RX8 113 RX3 yX3_putReserved wsX3_putReserved) := goodIn_app (goodIn_of _ (by decide +kernel)) ggX8_reserve_X3_putReserved
set_option maxRecDepth 20000 in
theorem ggX8_reserve_X3_renumber : GoodIn wsX8_reserve wsX3_renumber := goodIn_ca (goodIn_r _ [42, 43, 44, 45, 46, 27, 47, 48, 49, 50, 51, 52, 15, 53, 54, 55, 56, 57, 58, 59, 18, 19, 20, 21, 22, 23, 60, 61, 62, 63, 64, 65, 66, 67, 68, 69, 70, 71, 72, 73, 74, 75, 76, 35, 36, 37, 38, 77, 78, 79, 80, 81, 82, 83, 84, 85, 30, 86, 87, 88, 89, 90, 91, 92, 93, 94, 95, 96, 97, 98, 99, 100, 17, 101, 102, 103, 104, 105, 106, 107, 108, 109, 110, 111, 112, 113, 114, 115, 116, 117, 118, 25, 26, 28, 29, 119, 120, 121, 122, 123, 124, 125, 126, 127, 128, 129, 130, 131, 132, 133, 134, 135, 136, 137, 138, 139, 140, 141, 142, 143, 144, 157, 158, 159, 160, 161, 162, 163, 164, 165, 166, 167, 168, 169, 151, 152, 153, 154, 155, 156, 170, 171, 172, 173, 174, 175, 176] (by decide +kernel) (by decide +kernel)) (goodIn_sub (fun _ h => List.mem_cons_of_mem _ (List.mem_append_right _ h)) (by decide +kernel))
set_option maxRecDepth 20000 in
theorem gX8_reserve_X3_renumber : GoodIn wsX8_reserve (wsV RX8 107 RX3 yX3_renumber wsX3_renumber) := goodIn_app (goodIn_of _ (by decide +kernel)) ggX8_reserve_X3_renumber
theorem dX8_reserve_0 : decode cX8_reserve 0 = .ok (.aload_n 0, 1) := by decide +kernel
theorem dX8_reserve_1 : decode cX8_reserve 1 = .ok (.iload_n 1, 1) := by decide +kernel
theorem dX8_reserve_2 : decode cX8_reserve 2 = .ok (.invokevirtual 80, 3) := by decide +kernel
theorem dX8_reserve_5 : decode cX8_reserve 5 = .ok (.iload_n 2, 1) := by decide +kernel
theorem dX8_reserve_6 : decode cX8_reserve 6 = .ok (.ifCond .lt 9, 3) := by decide +kernel
theorem dX8_reserve_9 : decode cX8_reserve 9 = .ok (.iload_n 2, 1) := by decide +kernel
theorem dX8_reserve_10 : decode cX8_reserve 10 = .ok (.bipush 20, 2) := by decide +kernel
theorem dX8_reserve_12 : decode cX8_reserve 12 = .ok (.if_icmp .le 11, 3) := by decide +kernel
theorem dX8_reserve_15 : decode cX8_reserve 15 = .ok (.new 52, 3) := by decide +kernel
theorem dX8_reserve_18 : decode cX8_reserve 18 = .ok (.dup, 1) := by decide +kernel
theorem dX8_reserve_19 : decode cX8_reserve 19 = .ok (.invokespecial 54, 3) := by decide +kernel
theorem dX8_reserve_22 : decode cX8_reserve 22 = .ok (.athrow, 1) := by decide +kernel
theorem dX8_reserve_23 : decode cX8_reserve 23 = .ok (.aload_n 0, 1) := by decide +kernel
theorem dX8_reserve_24 : decode cX8_reserve 24 = .ok (.getfield 28, 3) := by decide +kernel
theorem dX8_reserve_27 : decode cX8_reserve 27 = .ok (.iload_n 1, 1) := by decide +kernel
theorem dX8_reserve_28 : decode cX8_reserve 28 = .ok (.invokevirtual 110, 3) := by decide +kernel
theorem dX8_reserve_31 : decode cX8_reserve 31 = .ok (.istore_n 3, 1) := by decide +kernel
theorem dX8_reserve_32 : decode cX8_reserve 32 = .ok (.aload_n 0, 1) := by decide +kernel
theorem dX8_reserve_33 : decode cX8_reserve 33 = .ok (.getfield 28, 3) := by decide +kernel
theorem dX8_reserve_36 : decode cX8_reserve 36 = .ok (.iload_n 1, 1) := by decide +kernel
theorem dX8_reserve_37 : decode cX8_reserve 37 = .ok (.iload_n 2, 1) := by decide +kernel
theorem dX8_reserve_38 : decode cX8_reserve 38 = .ok (.invokevirtual 113, 3) := by decide +kernel
theorem dX8_reserve_41 : decode cX8_reserve 41 = .ok (.aload_n 0, 1) := by decide +kernel
theorem dX8_reserve_42 : decode cX8_reserve 42 = .ok (.getfield 28, 3) := by decide +kernel
theorem dX8_reserve_45 : decode cX8_reserve 45 = .ok (.invokevirtual 107, 3) := by decide +kernel
theorem dX8_reserve_48 : decode cX8_reserve 48 = .ok (.iload_n 3, 1) := by decide +kernel
theorem dX8_reserve_49 : decode cX8_reserve 49 = .ok (.ireturn, 1) := by decide +kernel
set_option maxRecDepth 20000 in
theorem ggX8_skip_X8_requireSkippable : GoodIn wsX8_skip wsX8_requireSkippable := goodIn_ca (goodIn_r _ [9, 10, 11, 12, 13, 14, 8, 15] (by decide +kernel) (by decide +kernel)) (goodIn_sub (fun _ h => List.mem_cons_of_mem _ (List.mem_append_left _ (List.mem_append_right _ h))) (by decide +kernel))
set_option maxRecDepth 20000 in
theorem gX8_skip_X8_requireSkippable : GoodIn wsX8_skip (wsV RX8 116 RX8 yX8_requireSkippable wsX8_requireSkippable) := goodIn_app (goodIn_of _ (by decide +kernel)) ggX8_skip_X8_requireSkippable
set_option maxRecDepth 20000 in
theorem ggX8_skip_X1_isSkipped : GoodIn wsX8_skip wsX1_isSkipped := goodIn_ca (goodIn_r _ [20, 21, 22, 23, 19, 24, 25, 26, 27, 28, 29, 30, 157, 158, 159, 160, 161] (by decide +kernel) (by decide +kernel)) (goodIn_sub (fun _ h => List.mem_cons_of_mem _ (List.mem_append_right _ h)) (by decide +kernel))
set_option maxRecDepth 20000 in
theorem gX8_skip_X1_isSkipped : GoodIn wsX8_skip (wsV RX8 119 RX1 yX1_isSkipped wsX1_isSkipped) := goodIn_app (goodIn_of _ (by decide +kernel)) ggX8_skip_X1_isSkipped
set_option maxRecDepth 20000 in
theorem ggX8_skip_X1_putSkipped : GoodIn wsX8_skip wsX1_putSkipped := goodIn_ca (goodIn_r _ [34, 21, 35, 22, 23, 19, 24, 36, 37, 38, 28, 39, 30, 25, 26, 27, 29, 157, 158, 159, 160, 161] (by decide +kernel) (by decide +kernel)) (goodIn_sub (fun _ h => List.mem_cons_of_mem _ (List.mem_append_right _ h)) (by decide +kernel))
set_option maxRecDepth 20000 in
theorem gX8_skip_X1_putSkipped : GoodIn wsX8_skip (wsV RX8 123 RX1 yX1_putSkipped wsX1_putSkipped) := goodIn_app (goodIn_of _ (by decide +kernel)) ggX8_skip_X1_putSkipped
set_option maxRecDepth 20000 in
theorem ggX8_skip_X3_renumber : GoodIn wsX8_skip wsX3_renumber := goodIn_ca (goodIn_r _ [44, 45, 46, 47, 48, 43, 49, 50, 51, 52, 53, 54, 55, 56, 57, 58, 59, 60, 61, 62, 63, 26, 27, 28, 29, 30, 64, 65, 66, 67, 68, 69, 70, 71, 19, 72, 73, 25, 74, 75, 76, 77, 78, 79, 37, 38, 39, 80, 81, 82, 83, 84, 85, 86, 87, 88, 89, 90, 91, 92, 93, 94, 95, 96, 97, 98, 99, 100, 101, 102, 103, 104, 105, 106, 107, 108, 109, 110, 111, 112, 113, 114, 115, 116, 117, 118, 119, 120, 121, 122, 123, 124, 125, 126, 127, 128, 129, 130, 131, 132, 133, 17, 18, 20, 21, 22, 23, 24, 134, 135, 136, 137, 138, 139, 140, 141, 142, 143, 144, 145, 146, 162, 163, 164, 165, 166, 167, 168, 169, 170, 171, 172, 173, 174, 175, 176, 177, 178, 179, 161, 157, 158, 159, 160, 180, 181, 182] (by decide +kernel) (by decide +kernel)) (goodIn_sub (fun _ h => List.mem_cons_of_mem _ (List.mem_append_right _ h)) (by decide +kernel))
set_option maxRecDepth 20000 in
theorem gX8_skip_X3_renumber : GoodIn wsX8_skip (wsV RX8 107 RX3 yX3_renumber wsX3_renumber) := goodIn_app (goodIn_of _ (by decide +kernel)) ggX8_skip_X3_renumber
set_option maxRecDepth 20000 in
theorem ggX8_skip_X1_skippedAmount : GoodIn wsX8_skip wsX1_skippedAmount := goodIn_ca (goodIn_r _ [150, 35, 25, 26, 27, 28, 29, 30, 157, 158, 159, 160, 161] (by decide +kernel) (by decide +kernel)) (goodIn_sub (fun _ h => List.mem_cons_of_mem _ (List.mem_append_right _ h)) (by decide +kernel))
set_option maxRecDepth 20000 in
theorem gX8_skip_X1_skippedAmount : GoodIn wsX8_skip (wsV RX8 127 RX1 yX1_skippedAmount wsX1_skippedAmount) := goodIn_app (goodIn_of _ (by decide +kernel)) ggX8_skip_X1_skippedAmount
theorem dX8_skip_0 : decode cX8_skip 0 = .ok (.aload_n 0, 1) := by decide +kernel
theorem dX8_skip_1 : decode cX8_skip 1 = .ok (.iload_n 1, 1) := by decide +kernel
theorem dX8_skip_2 : decode cX8_skip 2 = .ok (.iload_n 2, 1) := by decide +kernel
theorem dX8_skip_3 : decode cX8_skip 3 = .ok (.invokevirtual 116, 3) := by decide +kernel
theorem dX8_skip_6 : decode cX8_skip 6 = .ok (.aload_n 0, 1) := by decide +kernel
theorem dX8_skip_7 : decode cX8_skip 7 = .ok (.getfield 19, 3) := by decide +kernel
theorem dX8_skip_10 : decode cX8_skip 10 = .ok (.iload_n 1, 1) := by decide +kernel
theorem dX8_skip_11 : decode cX8_skip 11 = .ok (.iload_n 2, 1) := by decide +kernel
theorem dX8_skip_12 : decode cX8_skip 12 = .ok (.invokevirtual 119, 3) := by decide +kernel
theorem dX8_skip_15 : decode cX8_skip 15 = .ok (.ifCond .eq 11, 3) := by decide +kernel
theorem dX8_skip_18 : decode cX8_skip 18 = .ok (.new 59, 3) := by decide +kernel
theorem dX8_skip_21 : decode cX8_skip 21 = .ok (.dup, 1) := by decide +kernel
theorem dX8_skip_22 : decode cX8_skip 22 = .ok (.invokespecial 61, 3) := by decide +kernel
theorem dX8_skip_25 : decode cX8_skip 25 = .ok (.athrow, 1) := by decide +kernel
theorem dX8_skip_26 : decode cX8_skip 26 = .ok (.aload_n 0, 1) := by decide +kernel
theorem dX8_skip_27 : decode cX8_skip 27 = .ok (.getfield 19, 3) := by decide +kernel
theorem dX8_skip_30 : decode cX8_skip 30 = .ok (.iload_n 1, 1) := by decide +kernel
theorem dX8_skip_31 : decode cX8_skip 31 = .ok (.iload_n 2, 1) := by decide +kernel
theorem dX8_skip_32 : decode cX8_skip 32 = .ok (.iconst 1, 1) := by decide +kernel
theorem dX8_skip_33 : decode cX8_skip 33 = .ok (.invokevirtual 123, 3) := by decide +kernel
theorem dX8_skip_36 : decode cX8_skip 36 = .ok (.aload_n 0, 1) := by decide +kernel
theorem dX8_skip_37 : decode cX8_skip 37 = .ok (.getfield 28, 3) := by decide +kernel
theorem dX8_skip_40 : decode cX8_skip 40 = .ok (.invokevirtual 107, 3) := by decide +kernel
theorem dX8_skip_43 : decode cX8_skip 43 = .ok (.aload_n 0, 1) := by decide +kernel
theorem dX8_skip_44 : decode cX8_skip 44 = .ok (.getfield 19, 3) := by decide +kernel
theorem dX8_skip_47 : decode cX8_skip 47 = .ok (.iload_n 1, 1) := by decide +kernel
theorem dX8_skip_48 : decode cX8_skip 48 = .ok (.invokevirtual 127, 3) := by decide +kernel
theorem dX8_skip_51 : decode cX8_skip 51 = .ok (.ireturn, 1) := by decide +kernel
set_option maxRecDepth 20000 in
theorem ggX8_unskip_X8_requireSkippable : GoodIn wsX8_unskip wsX8_requireSkippable := goodIn_ca (goodIn_r _ [9, 10, 11, 12, 13, 14, 8, 15] (by decide +kernel) (by decide +kernel)) (goodIn_sub (fun _ h => List.mem_cons_of_mem _ (List.mem_append_left _ (List.mem_append_right _ h))) (by decide +kernel))
set_option maxRecDepth 20000 in
theorem gX8_unskip_X8_requireSkippable : GoodIn wsX8_unskip (wsV RX8 116 RX8 yX8_requireSkippable wsX8_requireSkippable) := goodIn_app (goodIn_of _ (by decide +kernel)) ggX8_unskip_X8_requireSkippable
set_option maxRecDepth 20000 in
theorem ggX8_unskip_X1_isSkipped : GoodIn wsX8_unskip wsX1_isSkipped := goodIn_ca (goodIn_r _ [20, 21, 22, 23, 19, 24, 25, 26, 27, 28, 29, 30, 157, 158, 159, 160, 161] (by decide +kernel) (by decide +kernel)) (goodIn_sub (fun _ h => List.mem_cons_of_mem _ (List.mem_append_right _ h)) (by decide +kernel))
set_option maxRecDepth 20000 in
theorem gX8_unskip_X1_isSkipped : GoodIn wsX8_unskip (wsV RX8 119 RX1 yX1_isSkipped wsX1_isSkipped) := goodIn_app (goodIn_of _ (by decide +kernel)) ggX8_unskip_X1_isSkipped
set_option maxRecDepth 20000 in
theorem ggX8_unskip_X1_putSkipped : GoodIn wsX8_unskip wsX1_putSkipped := goodIn_ca (goodIn_r _ [34, 21, 35, 22, 23, 19, 24, 36, 37, 38, 28, 39, 30, 25, 26, 27, 29, 157, 158, 159, 160, 161] (by decide +kernel) (by decide +kernel)) (goodIn_sub (fun _ h => List.mem_cons_of_mem _ (List.mem_append_right _ h)) (by decide +kernel))
set_option maxRecDepth 20000 in
theorem gX8_unskip_X1_putSkipped : GoodIn wsX8_unskip (wsV RX8 123 RX1 yX1_putSkipped wsX1_putSkipped) := goodIn_app (goodIn_of _ (by decide +kernel)) ggX8_unskip_X1_putSkipped
set_option maxRecDepth 20000 in
theorem ggX8_unskip_X3_renumber : GoodIn wsX8_unskip wsX3_renumber := goodIn_ca (goodIn_r _ [44, 45, 46, 47, 48, 43, 49, 50, 51, 52, 53, 54, 55, 56, 57, 58, 59, 60, 61, 62, 63, 26, 27, 28, 29, 30, 64, 65, 66, 67, 68, 69, 70, 71, 19, 72, 73, 25, 74, 75, 76, 77, 78, 79, 37, 38, 39, 80, 81, 82, 83, 84, 85, 86, 87, 88, 89, 90, 91, 92, 93, 94, 95, 96, 97, 98, 99, 100, 101, 102, 103, 104, 105, 106, 107, 108, 109, 110, 111, 112, 113, 114, 115, 116, 117, 118, 119, 120, 121, 122, 123, 124, 125, 126, 127, 128, 129, 130, 131, 132, 133, 17, 18, 20, 21, 22, 23, 24, 134, 135, 136, 137, 138, 139, 140, 141, 142, 143, 144, 145, 146, 162, 163, 164, 165, 166, 167, 168, 169, 170, 171, 172, 173, 174, 175, 176, 177, 178, 179, 161, 157, 158, 159, 160, 180, 181, 182] (by decide +kernel) (by decide +kernel)) (goodIn_sub (fun _ h => List.mem_cons_of_mem _ (List.mem_append_right _ h)) (by decide +kernel))
set_option maxRecDepth 20000 in
theorem gX8_unskip_X3_renumber : GoodIn wsX8_unskip (wsV RX8 107 RX3 yX3_renumber wsX3_renumber) := goodIn_app (goodIn_of _ (by decide +kernel)) ggX8_unskip_X3_renumber
set_option maxRecDepth 20000 in
theorem ggX8_unskip_X1_skippedAmount : GoodIn wsX8_unskip wsX1_skippedAmount := goodIn_ca (goodIn_r _ [150, 35, 25, 26, 27, 28, 29, 30, 157, 158, 159, 160, 161] (by decide +kernel) (by decide +kernel)) (goodIn_sub (fun _ h => List.mem_cons_of_mem _ (List.mem_append_right _ h)) (by decide +kernel))
set_option maxRecDepth 20000 in
theorem gX8_unskip_X1_skippedAmount : GoodIn wsX8_unskip (wsV RX8 127 RX1 yX1_skippedAmount wsX1_skippedAmount) := goodIn_app (goodIn_of _ (by decide +kernel)) ggX8_unskip_X1_skippedAmount
theorem dX8_unskip_0 : decode cX8_unskip 0 = .ok (.aload_n 0, 1) := by decide +kernel
theorem dX8_unskip_1 : decode cX8_unskip 1 = .ok (.iload_n 1, 1) := by decide +kernel
theorem dX8_unskip_2 : decode cX8_unskip 2 = .ok (.iload_n 2, 1) := by decide +kernel
theorem dX8_unskip_3 : decode cX8_unskip 3 = .ok (.invokevirtual 116, 3) := by decide +kernel
theorem dX8_unskip_6 : decode cX8_unskip 6 = .ok (.aload_n 0, 1) := by decide +kernel
theorem dX8_unskip_7 : decode cX8_unskip 7 = .ok (.getfield 19, 3) := by decide +kernel
theorem dX8_unskip_10 : decode cX8_unskip 10 = .ok (.iload_n 1, 1) := by decide +kernel
theorem dX8_unskip_11 : decode cX8_unskip 11 = .ok (.iload_n 2, 1) := by decide +kernel
theorem dX8_unskip_12 : decode cX8_unskip 12 = .ok (.invokevirtual 119, 3) := by decide +kernel
theorem dX8_unskip_15 : decode cX8_unskip 15 = .ok (.ifCond .ne 11, 3) := by decide +kernel
theorem dX8_unskip_18 : decode cX8_unskip 18 = .ok (.new 59, 3) := by decide +kernel
theorem dX8_unskip_21 : decode cX8_unskip 21 = .ok (.dup, 1) := by decide +kernel
theorem dX8_unskip_22 : decode cX8_unskip 22 = .ok (.invokespecial 61, 3) := by decide +kernel
theorem dX8_unskip_25 : decode cX8_unskip 25 = .ok (.athrow, 1) := by decide +kernel
theorem dX8_unskip_26 : decode cX8_unskip 26 = .ok (.aload_n 0, 1) := by decide +kernel
theorem dX8_unskip_27 : decode cX8_unskip 27 = .ok (.getfield 19, 3) := by decide +kernel
theorem dX8_unskip_30 : decode cX8_unskip 30 = .ok (.iload_n 1, 1) := by decide +kernel
theorem dX8_unskip_31 : decode cX8_unskip 31 = .ok (.iload_n 2, 1) := by decide +kernel
theorem dX8_unskip_32 : decode cX8_unskip 32 = .ok (.iconst 0, 1) := by decide +kernel
theorem dX8_unskip_33 : decode cX8_unskip 33 = .ok (.invokevirtual 123, 3) := by decide +kernel
theorem dX8_unskip_36 : decode cX8_unskip 36 = .ok (.aload_n 0, 1) := by decide +kernel
theorem dX8_unskip_37 : decode cX8_unskip 37 = .ok (.getfield 28, 3) := by decide +kernel
theorem dX8_unskip_40 : decode cX8_unskip 40 = .ok (.invokevirtual 107, 3) := by decide +kernel
theorem dX8_unskip_43 : decode cX8_unskip 43 = .ok (.aload_n 0, 1) := by decide +kernel
theorem dX8_unskip_44 : decode cX8_unskip 44 = .ok (.getfield 19, 3) := by decide +kernel
theorem dX8_unskip_47 : decode cX8_unskip 47 = .ok (.iload_n 1, 1) := by decide +kernel
theorem dX8_unskip_48 : decode cX8_unskip 48 = .ok (.invokevirtual 127, 3) := by decide +kernel
theorem dX8_unskip_51 : decode cX8_unskip 51 = .ok (.ireturn, 1) := by decide +kernel
set_option maxRecDepth 20000 in
theorem ggX8_setFormat_X8_requireNumberedLevel : GoodIn wsX8_setFormat wsX8_requireNumberedLevel := goodIn_ca (goodIn_r _ [8, 1, 2] (by decide +kernel) (by decide +kernel)) (goodIn_sub (fun _ h => List.mem_cons_of_mem _ (List.mem_append_left _ (List.mem_append_right _ h))) (by decide +kernel))
set_option maxRecDepth 20000 in
theorem gX8_setFormat_X8_requireNumberedLevel : GoodIn wsX8_setFormat (wsV RX8 130 RX8 yX8_requireNumberedLevel wsX8_requireNumberedLevel) := goodIn_app (goodIn_of _ (by decide +kernel)) ggX8_setFormat_X8_requireNumberedLevel
set_option maxRecDepth 20000 in
theorem ggX8_setFormat_X1_format : GoodIn wsX8_setFormat wsX1_format := goodIn_ca (goodIn_r _ [13, 14, 15, 16, 17, 18, 19, 20, 35, 36, 37, 38, 39] (by decide +kernel) (by decide +kernel)) (goodIn_sub (fun _ h => List.mem_cons_of_mem _ (List.mem_append_right _ h)) (by decide +kernel))
set_option maxRecDepth 20000 in
theorem gX8_setFormat_X1_format : GoodIn wsX8_setFormat (wsV RX8 133 RX1 yX1_format wsX1_format) := goodIn_app (goodIn_of _ (by decide +kernel)) ggX8_setFormat_X1_format
set_option maxRecDepth 20000 in
theorem ggX8_setFormat_X1_putFormat : GoodIn wsX8_setFormat wsX1_putFormat := goodIn_ca (goodIn_r _ [24, 14, 25, 26, 27, 18, 28, 20, 35, 36, 37, 38, 39] (by decide +kernel) (by decide +kernel)) (goodIn_sub (fun _ h => List.mem_cons_of_mem _ (List.mem_append_right _ h)) (by decide +kernel))
set_option maxRecDepth 20000 in
theorem gX8_setFormat_X1_putFormat : GoodIn wsX8_setFormat (wsV RX8 137 RX1 yX1_putFormat wsX1_putFormat) := goodIn_app (goodIn_of _ (by decide +kernel)) ggX8_setFormat_X1_putFormat
theorem dX8_setFormat_0 : decode cX8_setFormat 0 = .ok (.aload_n 0, 1) := by decide +kernel
theorem dX8_setFormat_1 : decode cX8_setFormat 1 = .ok (.iload_n 1, 1) := by decide +kernel
theorem dX8_setFormat_2 : decode cX8_setFormat 2 = .ok (.invokevirtual 130, 3) := by decide +kernel
theorem dX8_setFormat_5 : decode cX8_setFormat 5 = .ok (.iload_n 2, 1) := by decide +kernel
theorem dX8_setFormat_6 : decode cX8_setFormat 6 = .ok (.bipush 100, 2) := by decide +kernel
theorem dX8_setFormat_8 : decode cX8_setFormat 8 = .ok (.if_icmp .eq 29, 3) := by decide +kernel
theorem dX8_setFormat_11 : decode cX8_setFormat 11 = .ok (.iload_n 2, 1) := by decide +kernel
theorem dX8_setFormat_12 : decode cX8_setFormat 12 = .ok (.bipush 108, 2) := by decide +kernel
theorem dX8_setFormat_14 : decode cX8_setFormat 14 = .ok (.if_icmp .eq 23, 3) := by decide +kernel
theorem dX8_setFormat_17 : decode cX8_setFormat 17 = .ok (.iload_n 2, 1) := by decide +kernel
theorem dX8_setFormat_18 : decode cX8_setFormat 18 = .ok (.bipush 114, 2) := by decide +kernel
theorem dX8_setFormat_20 : decode cX8_setFormat 20 = .ok (.if_icmp .eq 17, 3) := by decide +kernel
theorem dX8_setFormat_23 : decode cX8_setFormat 23 = .ok (.iload_n 2, 1) := by decide +kernel
theorem dX8_setFormat_24 : decode cX8_setFormat 24 = .ok (.bipush 82, 2) := by decide +kernel
theorem dX8_setFormat_26 : decode cX8_setFormat 26 = .ok (.if_icmp .eq 11, 3) := by decide +kernel
theorem dX8_setFormat_29 : decode cX8_setFormat 29 = .ok (.new 52, 3) := by decide +kernel
theorem dX8_setFormat_32 : decode cX8_setFormat 32 = .ok (.dup, 1) := by decide +kernel
theorem dX8_setFormat_33 : decode cX8_setFormat 33 = .ok (.invokespecial 54, 3) := by decide +kernel
theorem dX8_setFormat_36 : decode cX8_setFormat 36 = .ok (.athrow, 1) := by decide +kernel
theorem dX8_setFormat_37 : decode cX8_setFormat 37 = .ok (.aload_n 0, 1) := by decide +kernel
theorem dX8_setFormat_38 : decode cX8_setFormat 38 = .ok (.getfield 19, 3) := by decide +kernel
theorem dX8_setFormat_41 : decode cX8_setFormat 41 = .ok (.iload_n 1, 1) := by decide +kernel
theorem dX8_setFormat_42 : decode cX8_setFormat 42 = .ok (.invokevirtual 133, 3) := by decide +kernel
theorem dX8_setFormat_45 : decode cX8_setFormat 45 = .ok (.istore_n 3, 1) := by decide +kernel
theorem dX8_setFormat_46 : decode cX8_setFormat 46 = .ok (.aload_n 0, 1) := by decide +kernel
theorem dX8_setFormat_47 : decode cX8_setFormat 47 = .ok (.getfield 19, 3) := by decide +kernel
theorem dX8_setFormat_50 : decode cX8_setFormat 50 = .ok (.iload_n 1, 1) := by decide +kernel
theorem dX8_setFormat_51 : decode cX8_setFormat 51 = .ok (.iload_n 2, 1) := by decide +kernel
theorem dX8_setFormat_52 : decode cX8_setFormat 52 = .ok (.invokevirtual 137, 3) := by decide +kernel
theorem dX8_setFormat_55 : decode cX8_setFormat 55 = .ok (.iload_n 3, 1) := by decide +kernel
theorem dX8_setFormat_56 : decode cX8_setFormat 56 = .ok (.ireturn, 1) := by decide +kernel
set_option maxRecDepth 20000 in
theorem ggX8_setGoingOn_X8_requireNumberedLevel : GoodIn wsX8_setGoingOn wsX8_requireNumberedLevel := goodIn_ca (goodIn_r _ [9, 10, 11] (by decide +kernel) (by decide +kernel)) (goodIn_sub (fun _ h => List.mem_cons_of_mem _ (List.mem_append_left _ (List.mem_append_right _ h))) (by decide +kernel))
set_option maxRecDepth 20000 in
theorem gX8_setGoingOn_X8_requireNumberedLevel : GoodIn wsX8_setGoingOn (wsV RX8 130 RX8 yX8_requireNumberedLevel wsX8_requireNumberedLevel) := goodIn_app (goodIn_of _ (by decide +kernel)) ggX8_setGoingOn_X8_requireNumberedLevel
set_option maxRecDepth 20000 in
theorem ggX8_setGoingOn_X8_hasFrozen : GoodIn wsX8_setGoingOn wsX8_hasFrozen := goodIn_ca (goodIn_r _ [15, 16, 4, 17, 18, 19, 20, 21, 22, 23, 24, 25, 26, 27, 28, 29, 30, 31, 32, 33, 34, 35, 36, 37, 38, 39, 40, 41, 42, 43, 44, 45, 151, 152, 153, 154, 155, 156, 157, 158, 159, 160, 161, 162, 163, 164, 165, 166, 167, 168, 169, 170, 171, 172, 173, 174, 175] (by decide +kernel) (by decide +kernel)) (goodIn_sub (fun _ h => List.mem_cons_of_mem _ (List.mem_append_right _ h)) (by decide +kernel))
set_option maxRecDepth 20000 in
theorem gX8_setGoingOn_X8_hasFrozen : GoodIn wsX8_setGoingOn (wsV RX8 141 RX8 yX8_hasFrozen wsX8_hasFrozen) := goodIn_app (goodIn_of _ (by decide +kernel)) ggX8_setGoingOn_X8_hasFrozen
set_option maxRecDepth 20000 in
theorem ggX8_setGoingOn_X1_goesOn : GoodIn wsX8_setGoingOn wsX1_goesOn := goodIn_ca (goodIn_r _ [50, 51, 52, 29, 30, 31, 32, 33, 176, 177, 178, 179, 162] (by decide +kernel) (by decide +kernel)) (goodIn_sub (fun _ h => List.mem_cons_of_mem _ (List.mem_append_right _ h)) (by decide +kernel))
set_option maxRecDepth 20000 in
theorem gX8_setGoingOn_X1_goesOn : GoodIn wsX8_setGoingOn (wsV RX8 144 RX1 yX1_goesOn wsX1_goesOn) := goodIn_app (goodIn_of _ (by decide +kernel)) ggX8_setGoingOn_X1_goesOn
set_option maxRecDepth 20000 in
theorem ggX8_setGoingOn_X1_putGoingOn : GoodIn wsX8_setGoingOn wsX1_putGoingOn := goodIn_ca (goodIn_r _ [56, 51, 57, 58, 59, 31, 60, 33, 176, 177, 178, 179, 162] (by decide +kernel) (by decide +kernel)) (goodIn_sub (fun _ h => List.mem_cons_of_mem _ (List.mem_append_right _ h)) (by decide +kernel))
set_option maxRecDepth 20000 in
theorem gX8_setGoingOn_X1_putGoingOn : GoodIn wsX8_setGoingOn (wsV RX8 147 RX1 yX1_putGoingOn wsX1_putGoingOn) := goodIn_app (goodIn_of _ (by decide +kernel)) ggX8_setGoingOn_X1_putGoingOn
set_option maxRecDepth 20000 in
theorem ggX8_setGoingOn_X3_renumber : GoodIn wsX8_setGoingOn wsX3_renumber := goodIn_ca (goodIn_r _ [64, 65, 66, 67, 68, 42, 69, 70, 71, 72, 18, 19, 20, 21, 22, 73, 24, 25, 26, 27, 28, 29, 30, 31, 32, 33, 74, 35, 36, 37, 38, 75, 47, 48, 49, 50, 51, 52, 76, 77, 78, 79, 80, 81, 58, 59, 60, 82, 83, 84, 85, 86, 40, 41, 43, 44, 45, 87, 88, 89, 90, 91, 92, 93, 94, 95, 96, 97, 98, 99, 100, 101, 102, 103, 104, 105, 106, 107, 108, 109, 110, 111, 112, 113, 114, 115, 116, 117, 118, 119, 120, 121, 122, 123, 124, 125, 126, 127, 128, 129, 130, 131, 132, 133, 134, 135, 136, 137, 138, 139, 140, 141, 142, 143, 144, 145, 146, 147, 148, 149, 150, 163, 164, 165, 166, 167, 168, 169, 170, 171, 172, 173, 174, 175, 157, 158, 159, 160, 161, 162, 176, 177, 178, 179, 180, 181, 182] (by decide +kernel) (by decide +kernel)) (goodIn_sub (fun _ h => List.mem_cons_of_mem _ (List.mem_append_right _ h)) (by decide +kernel))
set_option maxRecDepth 20000 in
theorem gX8_setGoingOn_X3_renumber : GoodIn wsX8_setGoingOn (wsV RX8 107 RX3 yX3_renumber wsX3_renumber) := goodIn_app (goodIn_of _ (by decide +kernel)) ggX8_setGoingOn_X3_renumber
theorem dX8_setGoingOn_0 : decode cX8_setGoingOn 0 = .ok (.aload_n 0, 1) := by decide +kernel
theorem dX8_setGoingOn_1 : decode cX8_setGoingOn 1 = .ok (.iload_n 1, 1) := by decide +kernel
theorem dX8_setGoingOn_2 : decode cX8_setGoingOn 2 = .ok (.invokevirtual 130, 3) := by decide +kernel
theorem dX8_setGoingOn_5 : decode cX8_setGoingOn 5 = .ok (.aload_n 0, 1) := by decide +kernel
theorem dX8_setGoingOn_6 : decode cX8_setGoingOn 6 = .ok (.iload_n 1, 1) := by decide +kernel
theorem dX8_setGoingOn_7 : decode cX8_setGoingOn 7 = .ok (.invokevirtual 141, 3) := by decide +kernel
theorem dX8_setGoingOn_10 : decode cX8_setGoingOn 10 = .ok (.ifCond .eq 11, 3) := by decide +kernel
theorem dX8_setGoingOn_13 : decode cX8_setGoingOn 13 = .ok (.new 74, 3) := by decide +kernel
theorem dX8_setGoingOn_16 : decode cX8_setGoingOn 16 = .ok (.dup, 1) := by decide +kernel
theorem dX8_setGoingOn_17 : decode cX8_setGoingOn 17 = .ok (.invokespecial 76, 3) := by decide +kernel
theorem dX8_setGoingOn_20 : decode cX8_setGoingOn 20 = .ok (.athrow, 1) := by decide +kernel
theorem dX8_setGoingOn_21 : decode cX8_setGoingOn 21 = .ok (.aload_n 0, 1) := by decide +kernel
theorem dX8_setGoingOn_22 : decode cX8_setGoingOn 22 = .ok (.getfield 19, 3) := by decide +kernel
theorem dX8_setGoingOn_25 : decode cX8_setGoingOn 25 = .ok (.iload_n 1, 1) := by decide +kernel
theorem dX8_setGoingOn_26 : decode cX8_setGoingOn 26 = .ok (.invokevirtual 144, 3) := by decide +kernel
theorem dX8_setGoingOn_29 : decode cX8_setGoingOn 29 = .ok (.istore_n 3, 1) := by decide +kernel
theorem dX8_setGoingOn_30 : decode cX8_setGoingOn 30 = .ok (.aload_n 0, 1) := by decide +kernel
theorem dX8_setGoingOn_31 : decode cX8_setGoingOn 31 = .ok (.getfield 19, 3) := by decide +kernel
theorem dX8_setGoingOn_34 : decode cX8_setGoingOn 34 = .ok (.iload_n 1, 1) := by decide +kernel
theorem dX8_setGoingOn_35 : decode cX8_setGoingOn 35 = .ok (.iload_n 2, 1) := by decide +kernel
theorem dX8_setGoingOn_36 : decode cX8_setGoingOn 36 = .ok (.invokevirtual 147, 3) := by decide +kernel
theorem dX8_setGoingOn_39 : decode cX8_setGoingOn 39 = .ok (.aload_n 0, 1) := by decide +kernel
theorem dX8_setGoingOn_40 : decode cX8_setGoingOn 40 = .ok (.getfield 28, 3) := by decide +kernel
theorem dX8_setGoingOn_43 : decode cX8_setGoingOn 43 = .ok (.invokevirtual 107, 3) := by decide +kernel
theorem dX8_setGoingOn_46 : decode cX8_setGoingOn 46 = .ok (.iload_n 3, 1) := by decide +kernel
theorem dX8_setGoingOn_47 : decode cX8_setGoingOn 47 = .ok (.ireturn, 1) := by decide +kernel
set_option maxRecDepth 20000 in
theorem ggX8_freeze_X3_fix : GoodIn wsX8_freeze wsX3_fix := goodIn_ca (goodIn_r _ [6, 7, 8, 9, 10, 11, 12, 13, 14, 15, 16, 17, 18, 19, 20, 21, 22, 23, 24, 25, 26, 27, 28, 29, 30, 5, 31, 32, 33, 34, 35, 36, 37, 38, 39, 40, 41, 42, 43, 44, 45, 46, 47, 48, 49, 50, 51, 52, 53, 54, 55, 56, 57, 58, 59, 60, 61, 62, 63, 64, 65, 66, 67, 68, 69, 70, 71, 72, 73, 74, 75, 76, 77, 78, 79, 80, 81, 82, 83, 84, 85, 86, 87, 88, 89, 90, 91, 92, 93, 94, 95, 96, 97, 98, 99, 100, 101, 102, 103, 104, 105, 106, 107, 108, 109, 110, 111, 112, 113, 114, 115, 116, 117, 118, 119, 120, 121, 122, 123, 124, 125, 126, 127, 128, 129, 130, 131, 132, 133, 134, 135, 136, 137, 138, 139, 146, 147, 148, 149, 150, 151, 152, 153, 154, 155, 156, 157, 158, 159, 160, 161, 162, 163, 164, 165, 166, 167, 168, 169, 170, 171] (by decide +kernel) (by decide +kernel)) (goodIn_sub (fun _ h => List.mem_cons_of_mem _ (List.mem_append_right _ h)) (by decide +kernel))
set_option maxRecDepth 20000 in
theorem gX8_freeze_X3_fix : GoodIn wsX8_freeze (wsV RX8 151 RX3 yX3_fix wsX3_fix) := goodIn_app (goodIn_of _ (by decide +kernel)) ggX8_freeze_X3_fix
theorem dX8_freeze_0 : decode cX8_freeze 0 = .ok (.aload_n 0, 1) := by decide +kernel
theorem dX8_freeze_1 : decode cX8_freeze 1 = .ok (.getfield 28, 3) := by decide +kernel
theorem dX8_freeze_4 : decode cX8_freeze 4 = .ok (.invokevirtual 151, 3) := by decide +kernel
theorem dX8_freeze_7 : decode cX8_freeze 7 = .ok (.ireturn, 1) := by decide +kernel
set_option maxRecDepth 20000 in
theorem ggX8_refer_X8_requireStanding : GoodIn wsX8_refer wsX8_requireStanding := goodIn_ca (goodIn_ca (goodIn_r _ [11, 12, 13, 5, 14, 15, 16, 17, 18, 19, 20, 21, 22, 23, 24, 25, 47, 48, 49, 50, 51, 52, 53, 54, 55, 56, 57, 58] (by decide +kernel) (by decide +kernel)) (goodIn_sub (fun _ h => List.mem_cons_of_mem _ (List.mem_append_left _ (List.mem_append_right _ h))) (by decide +kernel))) (goodIn_sub (fun _ h => List.mem_cons_of_mem _ (List.mem_append_right _ h)) (by decide +kernel))
set_option maxRecDepth 20000 in
theorem gX8_refer_X8_requireStanding : GoodIn wsX8_refer (wsV RX8 80 RX8 yX8_requireStanding wsX8_requireStanding) := goodIn_app (goodIn_of _ (by decide +kernel)) ggX8_refer_X8_requireStanding
set_option maxRecDepth 20000 in
theorem ggX8_refer_X5_isPlain : GoodIn wsX8_refer wsX5_isPlain := goodIn_ca (goodIn_r _ [29, 30, 20, 21, 22, 23, 24, 25, 53, 54, 55, 56, 57, 58] (by decide +kernel) (by decide +kernel)) (goodIn_sub (fun _ h => List.mem_cons_of_mem _ (List.mem_append_right _ h)) (by decide +kernel))
set_option maxRecDepth 20000 in
theorem gX8_refer_X5_isPlain : GoodIn wsX8_refer (wsV RX8 154 RX5 yX5_isPlain wsX5_isPlain) := goodIn_app (goodIn_of _ (by decide +kernel)) ggX8_refer_X5_isPlain
set_option maxRecDepth 20000 in
theorem ggX8_refer_X2_amount : GoodIn wsX8_refer wsX2_amount := goodIn_r _ [35, 36, 59, 60, 61] (by decide +kernel) (by decide +kernel)
set_option maxRecDepth 20000 in
theorem gX8_refer_X2_amount : GoodIn wsX8_refer (wsV RX8 157 RX2 yX2_amount wsX2_amount) := goodIn_app (goodIn_of _ (by decide +kernel)) ggX8_refer_X2_amount
set_option maxRecDepth 20000 in
theorem ggX8_refer_X2_append : GoodIn wsX8_refer wsX2_append := goodIn_ca (goodIn_r _ [40, 36, 41, 42, 43, 44, 45, 23, 46, 25, 59, 60, 61, 58] (by decide +kernel) (by decide +kernel)) (goodIn_sub (fun _ h => List.mem_cons_of_mem _ (List.mem_append_right _ h)) (by decide +kernel))
set_option maxRecDepth 20000 in
theorem gX8_refer_X2_append : GoodIn wsX8_refer (wsV RX8 158 RX2 yX2_append wsX2_append) := goodIn_app (goodIn_of _ (by decide +kernel)) ggX8_refer_X2_append
theorem dX8_refer_0 : decode cX8_refer 0 = .ok (.aload_n 0, 1) := by decide +kernel
theorem dX8_refer_1 : decode cX8_refer 1 = .ok (.iload_n 1, 1) := by decide +kernel
theorem dX8_refer_2 : decode cX8_refer 2 = .ok (.invokevirtual 80, 3) := by decide +kernel
theorem dX8_refer_5 : decode cX8_refer 5 = .ok (.aload_n 0, 1) := by decide +kernel
theorem dX8_refer_6 : decode cX8_refer 6 = .ok (.iload_n 2, 1) := by decide +kernel
theorem dX8_refer_7 : decode cX8_refer 7 = .ok (.invokevirtual 80, 3) := by decide +kernel
theorem dX8_refer_10 : decode cX8_refer 10 = .ok (.iload_n 1, 1) := by decide +kernel
theorem dX8_refer_11 : decode cX8_refer 11 = .ok (.iload_n 2, 1) := by decide +kernel
theorem dX8_refer_12 : decode cX8_refer 12 = .ok (.if_icmp .eq 14, 3) := by decide +kernel
theorem dX8_refer_15 : decode cX8_refer 15 = .ok (.aload_n 0, 1) := by decide +kernel
theorem dX8_refer_16 : decode cX8_refer 16 = .ok (.getfield 10, 3) := by decide +kernel
theorem dX8_refer_19 : decode cX8_refer 19 = .ok (.iload_n 2, 1) := by decide +kernel
theorem dX8_refer_20 : decode cX8_refer 20 = .ok (.invokevirtual 154, 3) := by decide +kernel
theorem dX8_refer_23 : decode cX8_refer 23 = .ok (.ifCond .eq 11, 3) := by decide +kernel
theorem dX8_refer_26 : decode cX8_refer 26 = .ok (.new 52, 3) := by decide +kernel
theorem dX8_refer_29 : decode cX8_refer 29 = .ok (.dup, 1) := by decide +kernel
theorem dX8_refer_30 : decode cX8_refer 30 = .ok (.invokespecial 54, 3) := by decide +kernel
theorem dX8_refer_33 : decode cX8_refer 33 = .ok (.athrow, 1) := by decide +kernel
theorem dX8_refer_34 : decode cX8_refer 34 = .ok (.aload_n 0, 1) := by decide +kernel
theorem dX8_refer_35 : decode cX8_refer 35 = .ok (.getfield 44, 3) := by decide +kernel
theorem dX8_refer_38 : decode cX8_refer 38 = .ok (.invokevirtual 157, 3) := by decide +kernel
theorem dX8_refer_41 : decode cX8_refer 41 = .ok (.bipush 30, 2) := by decide +kernel
theorem dX8_refer_43 : decode cX8_refer 43 = .ok (.if_icmp .lt 11, 3) := by decide +kernel
theorem dX8_refer_46 : decode cX8_refer 46 = .ok (.new 59, 3) := by decide +kernel
theorem dX8_refer_49 : decode cX8_refer 49 = .ok (.dup, 1) := by decide +kernel
theorem dX8_refer_50 : decode cX8_refer 50 = .ok (.invokespecial 61, 3) := by decide +kernel
theorem dX8_refer_53 : decode cX8_refer 53 = .ok (.athrow, 1) := by decide +kernel
theorem dX8_refer_54 : decode cX8_refer 54 = .ok (.aload_n 0, 1) := by decide +kernel
theorem dX8_refer_55 : decode cX8_refer 55 = .ok (.getfield 44, 3) := by decide +kernel
theorem dX8_refer_58 : decode cX8_refer 58 = .ok (.iload_n 1, 1) := by decide +kernel
theorem dX8_refer_59 : decode cX8_refer 59 = .ok (.iload_n 2, 1) := by decide +kernel
theorem dX8_refer_60 : decode cX8_refer 60 = .ok (.invokevirtual 158, 3) := by decide +kernel
theorem dX8_refer_63 : decode cX8_refer 63 = .ok (.ireturn, 1) := by decide +kernel
set_option maxRecDepth 20000 in
theorem ggX8_size_X5_amount : GoodIn wsX8_size wsX5_amount := goodIn_r _ [6, 7, 14, 15, 16, 17, 18] (by decide +kernel) (by decide +kernel)
set_option maxRecDepth 20000 in
theorem gX8_size_X5_amount : GoodIn wsX8_size (wsV RX8 48 RX5 yX5_amount wsX5_amount) := goodIn_app (goodIn_of _ (by decide +kernel)) ggX8_size_X5_amount
theorem dX8_size_0 : decode cX8_size 0 = .ok (.aload_n 0, 1) := by decide +kernel
theorem dX8_size_1 : decode cX8_size 1 = .ok (.getfield 10, 3) := by decide +kernel
theorem dX8_size_4 : decode cX8_size 4 = .ok (.invokevirtual 48, 3) := by decide +kernel
theorem dX8_size_7 : decode cX8_size 7 = .ok (.ireturn, 1) := by decide +kernel
set_option maxRecDepth 20000 in
theorem ggX8_paragraphAt_X5_amount : GoodIn wsX8_paragraphAt wsX5_amount := goodIn_r _ [8, 9, 27, 28, 29, 30, 31] (by decide +kernel) (by decide +kernel)
set_option maxRecDepth 20000 in
theorem gX8_paragraphAt_X5_amount : GoodIn wsX8_paragraphAt (wsV RX8 48 RX5 yX5_amount wsX5_amount) := goodIn_app (goodIn_of _ (by decide +kernel)) ggX8_paragraphAt_X5_amount
set_option maxRecDepth 20000 in
theorem ggX8_paragraphAt_X5_nameAt : GoodIn wsX8_paragraphAt wsX5_nameAt := goodIn_ca (goodIn_r _ [13, 14, 15, 16, 17, 18, 19, 20, 27, 28, 29, 30, 31, 32] (by decide +kernel) (by decide +kernel)) (goodIn_sub (fun _ h => List.mem_cons_of_mem _ (List.mem_append_right _ h)) (by decide +kernel))
set_option maxRecDepth 20000 in
theorem gX8_paragraphAt_X5_nameAt : GoodIn wsX8_paragraphAt (wsV RX8 165 RX5 yX5_nameAt wsX5_nameAt) := goodIn_app (goodIn_of _ (by decide +kernel)) ggX8_paragraphAt_X5_nameAt
theorem dX8_paragraphAt_0 : decode cX8_paragraphAt 0 = .ok (.iload_n 1, 1) := by decide +kernel
theorem dX8_paragraphAt_1 : decode cX8_paragraphAt 1 = .ok (.ifCond .lt 14, 3) := by decide +kernel
theorem dX8_paragraphAt_4 : decode cX8_paragraphAt 4 = .ok (.iload_n 1, 1) := by decide +kernel
theorem dX8_paragraphAt_5 : decode cX8_paragraphAt 5 = .ok (.aload_n 0, 1) := by decide +kernel
theorem dX8_paragraphAt_6 : decode cX8_paragraphAt 6 = .ok (.getfield 10, 3) := by decide +kernel
theorem dX8_paragraphAt_9 : decode cX8_paragraphAt 9 = .ok (.invokevirtual 48, 3) := by decide +kernel
theorem dX8_paragraphAt_12 : decode cX8_paragraphAt 12 = .ok (.if_icmp .lt 11, 3) := by decide +kernel
theorem dX8_paragraphAt_15 : decode cX8_paragraphAt 15 = .ok (.new 162, 3) := by decide +kernel
theorem dX8_paragraphAt_18 : decode cX8_paragraphAt 18 = .ok (.dup, 1) := by decide +kernel
theorem dX8_paragraphAt_19 : decode cX8_paragraphAt 19 = .ok (.invokespecial 164, 3) := by decide +kernel
theorem dX8_paragraphAt_22 : decode cX8_paragraphAt 22 = .ok (.athrow, 1) := by decide +kernel
theorem dX8_paragraphAt_23 : decode cX8_paragraphAt 23 = .ok (.aload_n 0, 1) := by decide +kernel
theorem dX8_paragraphAt_24 : decode cX8_paragraphAt 24 = .ok (.getfield 10, 3) := by decide +kernel
theorem dX8_paragraphAt_27 : decode cX8_paragraphAt 27 = .ok (.iload_n 1, 1) := by decide +kernel
theorem dX8_paragraphAt_28 : decode cX8_paragraphAt 28 = .ok (.invokevirtual 165, 3) := by decide +kernel
theorem dX8_paragraphAt_31 : decode cX8_paragraphAt 31 = .ok (.ireturn, 1) := by decide +kernel
set_option maxRecDepth 20000 in
theorem ggX8_placeOf_X8_requireStanding : GoodIn wsX8_placeOf wsX8_requireStanding := goodIn_ca (goodIn_ca (goodIn_r _ [6, 7, 8, 1, 9, 10, 11, 12, 13, 14, 15, 16, 17, 18, 19, 20, 25, 26, 27, 28, 29, 30, 31, 32, 33, 34, 35, 36] (by decide +kernel) (by decide +kernel)) (goodIn_sub (fun _ h => List.mem_cons_of_mem _ (List.mem_append_left _ (List.mem_append_right _ h))) (by decide +kernel))) (goodIn_sub (fun _ h => List.mem_cons_of_mem _ (List.mem_append_right _ h)) (by decide +kernel))
set_option maxRecDepth 20000 in
theorem gX8_placeOf_X8_requireStanding : GoodIn wsX8_placeOf (wsV RX8 80 RX8 yX8_requireStanding wsX8_requireStanding) := goodIn_app (goodIn_of _ (by decide +kernel)) ggX8_placeOf_X8_requireStanding
set_option maxRecDepth 20000 in
theorem ggX8_placeOf_X5_place : GoodIn wsX8_placeOf wsX5_place := goodIn_ca (goodIn_r _ [24, 14, 15, 16, 17, 18, 19, 20, 31, 32, 33, 34, 35, 36] (by decide +kernel) (by decide +kernel)) (goodIn_sub (fun _ h => List.mem_cons_of_mem _ (List.mem_append_right _ h)) (by decide +kernel))
set_option maxRecDepth 20000 in
theorem gX8_placeOf_X5_place : GoodIn wsX8_placeOf (wsV RX8 87 RX5 yX5_place wsX5_place) := goodIn_app (goodIn_of _ (by decide +kernel)) ggX8_placeOf_X5_place
theorem dX8_placeOf_0 : decode cX8_placeOf 0 = .ok (.aload_n 0, 1) := by decide +kernel
theorem dX8_placeOf_1 : decode cX8_placeOf 1 = .ok (.iload_n 1, 1) := by decide +kernel
theorem dX8_placeOf_2 : decode cX8_placeOf 2 = .ok (.invokevirtual 80, 3) := by decide +kernel
theorem dX8_placeOf_5 : decode cX8_placeOf 5 = .ok (.aload_n 0, 1) := by decide +kernel
theorem dX8_placeOf_6 : decode cX8_placeOf 6 = .ok (.getfield 10, 3) := by decide +kernel
theorem dX8_placeOf_9 : decode cX8_placeOf 9 = .ok (.iload_n 1, 1) := by decide +kernel
theorem dX8_placeOf_10 : decode cX8_placeOf 10 = .ok (.invokevirtual 87, 3) := by decide +kernel
theorem dX8_placeOf_13 : decode cX8_placeOf 13 = .ok (.ireturn, 1) := by decide +kernel
set_option maxRecDepth 20000 in
theorem ggX8_levelOf_X8_requireStanding : GoodIn wsX8_levelOf wsX8_requireStanding := goodIn_ca (goodIn_ca (goodIn_r _ [6, 7, 8, 1, 9, 10, 11, 12, 13, 14, 15, 16, 17, 18, 19, 20, 26, 27, 28, 29, 30, 31, 32, 33, 34, 35, 36, 37] (by decide +kernel) (by decide +kernel)) (goodIn_sub (fun _ h => List.mem_cons_of_mem _ (List.mem_append_left _ (List.mem_append_right _ h))) (by decide +kernel))) (goodIn_sub (fun _ h => List.mem_cons_of_mem _ (List.mem_append_right _ h)) (by decide +kernel))
set_option maxRecDepth 20000 in
theorem gX8_levelOf_X8_requireStanding : GoodIn wsX8_levelOf (wsV RX8 80 RX8 yX8_requireStanding wsX8_requireStanding) := goodIn_app (goodIn_of _ (by decide +kernel)) ggX8_levelOf_X8_requireStanding
set_option maxRecDepth 20000 in
theorem ggX8_levelOf_X5_level : GoodIn wsX8_levelOf wsX5_level := goodIn_ca (goodIn_r _ [24, 25, 15, 16, 17, 18, 19, 20, 32, 33, 34, 35, 36, 37] (by decide +kernel) (by decide +kernel)) (goodIn_sub (fun _ h => List.mem_cons_of_mem _ (List.mem_append_right _ h)) (by decide +kernel))
set_option maxRecDepth 20000 in
theorem gX8_levelOf_X5_level : GoodIn wsX8_levelOf (wsV RX8 95 RX5 yX5_level wsX5_level) := goodIn_app (goodIn_of _ (by decide +kernel)) ggX8_levelOf_X5_level
theorem dX8_levelOf_0 : decode cX8_levelOf 0 = .ok (.aload_n 0, 1) := by decide +kernel
theorem dX8_levelOf_1 : decode cX8_levelOf 1 = .ok (.iload_n 1, 1) := by decide +kernel
theorem dX8_levelOf_2 : decode cX8_levelOf 2 = .ok (.invokevirtual 80, 3) := by decide +kernel
theorem dX8_levelOf_5 : decode cX8_levelOf 5 = .ok (.aload_n 0, 1) := by decide +kernel
theorem dX8_levelOf_6 : decode cX8_levelOf 6 = .ok (.getfield 10, 3) := by decide +kernel
theorem dX8_levelOf_9 : decode cX8_levelOf 9 = .ok (.iload_n 1, 1) := by decide +kernel
theorem dX8_levelOf_10 : decode cX8_levelOf 10 = .ok (.invokevirtual 95, 3) := by decide +kernel
theorem dX8_levelOf_13 : decode cX8_levelOf 13 = .ok (.ireturn, 1) := by decide +kernel
set_option maxRecDepth 20000 in
theorem ggX8_parentOf_X8_requireNumbered : GoodIn wsX8_parentOf wsX8_requireNumbered := goodIn_ca (goodIn_ca (goodIn_ca (goodIn_r _ [6, 7, 8, 1, 9, 10, 11, 5, 12, 13, 14, 15, 16, 17, 18, 19, 20, 21, 22, 23, 24, 25, 26, 27, 28, 29, 30, 31, 37, 38, 39, 40, 41, 42, 43, 44, 45, 46, 47, 48] (by decide +kernel) (by decide +kernel)) (goodIn_sub (fun _ h => List.mem_cons_of_mem _ (List.mem_append_left _ (List.mem_append_left _ (List.mem_append_right _ h)))) (by decide +kernel))) (goodIn_sub (fun _ h => List.mem_cons_of_mem _ (List.mem_append_left _ (List.mem_append_right _ h))) (by decide +kernel))) (goodIn_sub (fun _ h => List.mem_cons_of_mem _ (List.mem_append_right _ h)) (by decide +kernel))
set_option maxRecDepth 20000 in
theorem gX8_parentOf_X8_requireNumbered : GoodIn wsX8_parentOf (wsV RX8 168 RX8 yX8_requireNumbered wsX8_requireNumbered) := goodIn_app (goodIn_of _ (by decide +kernel)) ggX8_parentOf_X8_requireNumbered
set_option maxRecDepth 20000 in
theorem ggX8_parentOf_X5_parent : GoodIn wsX8_parentOf wsX5_parent := goodIn_ca (goodIn_r _ [35, 36, 21, 22, 23, 24, 25, 26, 43, 44, 45, 46, 47, 48] (by decide +kernel) (by decide +kernel)) (goodIn_sub (fun _ h => List.mem_cons_of_mem _ (List.mem_append_right _ h)) (by decide +kernel))
set_option maxRecDepth 20000 in
theorem gX8_parentOf_X5_parent : GoodIn wsX8_parentOf (wsV RX8 171 RX5 yX5_parent wsX5_parent) := goodIn_app (goodIn_of _ (by decide +kernel)) ggX8_parentOf_X5_parent
theorem dX8_parentOf_0 : decode cX8_parentOf 0 = .ok (.aload_n 0, 1) := by decide +kernel
theorem dX8_parentOf_1 : decode cX8_parentOf 1 = .ok (.iload_n 1, 1) := by decide +kernel
theorem dX8_parentOf_2 : decode cX8_parentOf 2 = .ok (.invokevirtual 168, 3) := by decide +kernel
theorem dX8_parentOf_5 : decode cX8_parentOf 5 = .ok (.aload_n 0, 1) := by decide +kernel
theorem dX8_parentOf_6 : decode cX8_parentOf 6 = .ok (.getfield 10, 3) := by decide +kernel
theorem dX8_parentOf_9 : decode cX8_parentOf 9 = .ok (.iload_n 1, 1) := by decide +kernel
theorem dX8_parentOf_10 : decode cX8_parentOf 10 = .ok (.invokevirtual 171, 3) := by decide +kernel
theorem dX8_parentOf_13 : decode cX8_parentOf 13 = .ok (.ireturn, 1) := by decide +kernel
set_option maxRecDepth 20000 in
theorem ggX8_below_X8_requireStanding : GoodIn wsX8_below wsX8_requireStanding := goodIn_ca (goodIn_ca (goodIn_r _ [6, 7, 8, 1, 9, 10, 11, 12, 13, 14, 15, 16, 17, 18, 19, 20, 40, 41, 42, 43, 44, 45, 46, 47, 48, 49, 50, 51] (by decide +kernel) (by decide +kernel)) (goodIn_sub (fun _ h => List.mem_cons_of_mem _ (List.mem_append_left _ (List.mem_append_right _ h))) (by decide +kernel))) (goodIn_sub (fun _ h => List.mem_cons_of_mem _ (List.mem_append_right _ h)) (by decide +kernel))
set_option maxRecDepth 20000 in
theorem gX8_below_X8_requireStanding : GoodIn wsX8_below (wsV RX8 80 RX8 yX8_requireStanding wsX8_requireStanding) := goodIn_app (goodIn_of _ (by decide +kernel)) ggX8_below_X8_requireStanding
set_option maxRecDepth 20000 in
theorem ggX8_below_X5_amount : GoodIn wsX8_below wsX5_amount := goodIn_r _ [24, 25, 46, 47, 48, 49, 50] (by decide +kernel) (by decide +kernel)
set_option maxRecDepth 20000 in
theorem gX8_below_X5_amount : GoodIn wsX8_below (wsV RX8 48 RX5 yX5_amount wsX5_amount) := goodIn_app (goodIn_of _ (by decide +kernel)) ggX8_below_X5_amount
set_option maxRecDepth 20000 in
theorem ggX8_below_X5_nameAt : GoodIn wsX8_below wsX5_nameAt := goodIn_ca (goodIn_r _ [29, 30, 15, 16, 17, 18, 19, 20, 46, 47, 48, 49, 50, 51] (by decide +kernel) (by decide +kernel)) (goodIn_sub (fun _ h => List.mem_cons_of_mem _ (List.mem_append_right _ h)) (by decide +kernel))
set_option maxRecDepth 20000 in
theorem gX8_below_X5_nameAt : GoodIn wsX8_below (wsV RX8 165 RX5 yX5_nameAt wsX5_nameAt) := goodIn_app (goodIn_of _ (by decide +kernel)) ggX8_below_X5_nameAt
set_option maxRecDepth 20000 in
theorem ggX8_below_X5_isAbove : GoodIn wsX8_below wsX5_isAbove := goodIn_ca (goodIn_r _ [34, 35, 36, 37, 12, 38, 39, 15, 16, 17, 18, 19, 20, 46, 47, 48, 49, 50, 51] (by decide +kernel) (by decide +kernel)) (goodIn_sub (fun _ h => List.mem_cons_of_mem _ (List.mem_append_right _ h)) (by decide +kernel))
set_option maxRecDepth 20000 in
theorem gX8_below_X5_isAbove : GoodIn wsX8_below (wsV RX8 174 RX5 yX5_isAbove wsX5_isAbove) := goodIn_app (goodIn_of _ (by decide +kernel)) ggX8_below_X5_isAbove
theorem dX8_below_0 : decode cX8_below 0 = .ok (.aload_n 0, 1) := by decide +kernel
theorem dX8_below_1 : decode cX8_below 1 = .ok (.iload_n 1, 1) := by decide +kernel
theorem dX8_below_2 : decode cX8_below 2 = .ok (.invokevirtual 80, 3) := by decide +kernel
theorem dX8_below_5 : decode cX8_below 5 = .ok (.iconst 0, 1) := by decide +kernel
theorem dX8_below_6 : decode cX8_below 6 = .ok (.istore_n 2, 1) := by decide +kernel
theorem dX8_below_7 : decode cX8_below 7 = .ok (.iconst 0, 1) := by decide +kernel
theorem dX8_below_8 : decode cX8_below 8 = .ok (.istore_n 3, 1) := by decide +kernel
theorem dX8_below_9 : decode cX8_below 9 = .ok (.iload_n 3, 1) := by decide +kernel
theorem dX8_below_10 : decode cX8_below 10 = .ok (.aload_n 0, 1) := by decide +kernel
theorem dX8_below_11 : decode cX8_below 11 = .ok (.getfield 10, 3) := by decide +kernel
theorem dX8_below_14 : decode cX8_below 14 = .ok (.invokevirtual 48, 3) := by decide +kernel
theorem dX8_below_17 : decode cX8_below 17 = .ok (.if_icmp .ge 31, 3) := by decide +kernel
theorem dX8_below_20 : decode cX8_below 20 = .ok (.aload_n 0, 1) := by decide +kernel
theorem dX8_below_21 : decode cX8_below 21 = .ok (.getfield 10, 3) := by decide +kernel
theorem dX8_below_24 : decode cX8_below 24 = .ok (.iload_n 1, 1) := by decide +kernel
theorem dX8_below_25 : decode cX8_below 25 = .ok (.aload_n 0, 1) := by decide +kernel
theorem dX8_below_26 : decode cX8_below 26 = .ok (.getfield 10, 3) := by decide +kernel
theorem dX8_below_29 : decode cX8_below 29 = .ok (.iload_n 3, 1) := by decide +kernel
theorem dX8_below_30 : decode cX8_below 30 = .ok (.invokevirtual 165, 3) := by decide +kernel
theorem dX8_below_33 : decode cX8_below 33 = .ok (.invokevirtual 174, 3) := by decide +kernel
theorem dX8_below_36 : decode cX8_below 36 = .ok (.ifCond .eq 6, 3) := by decide +kernel
theorem dX8_below_39 : decode cX8_below 39 = .ok (.iinc 2 1, 3) := by decide +kernel
theorem dX8_below_42 : decode cX8_below 42 = .ok (.iinc 3 1, 3) := by decide +kernel
theorem dX8_below_45 : decode cX8_below 45 = .ok (.goto (-36), 3) := by decide +kernel
theorem dX8_below_48 : decode cX8_below 48 = .ok (.iload_n 2, 1) := by decide +kernel
theorem dX8_below_49 : decode cX8_below 49 = .ok (.ireturn, 1) := by decide +kernel
set_option maxRecDepth 20000 in
theorem ggX8_isFrozen_X8_requireStanding : GoodIn wsX8_isFrozen wsX8_requireStanding := goodIn_ca (goodIn_ca (goodIn_r _ [6, 7, 8, 9, 10, 11, 12, 13, 14, 15, 16, 17, 18, 19, 20, 21, 29, 30, 31, 32, 33, 34, 35, 36, 37, 38, 39, 40] (by decide +kernel) (by decide +kernel)) (goodIn_sub (fun _ h => List.mem_cons_of_mem _ (List.mem_append_left _ (List.mem_append_right _ h))) (by decide +kernel))) (goodIn_sub (fun _ h => List.mem_cons_of_mem _ (List.mem_append_right _ h)) (by decide +kernel))
set_option maxRecDepth 20000 in
theorem gX8_isFrozen_X8_requireStanding : GoodIn wsX8_isFrozen (wsV RX8 80 RX8 yX8_requireStanding wsX8_requireStanding) := goodIn_app (goodIn_of _ (by decide +kernel)) ggX8_isFrozen_X8_requireStanding
set_option maxRecDepth 20000 in
theorem ggX8_isFrozen_X3_isFixed : GoodIn wsX8_isFrozen wsX3_isFixed := goodIn_ca (goodIn_r _ [26, 27, 28, 17, 18, 19, 20, 21, 41, 42, 43, 44, 45, 46, 47, 48, 49, 50, 51, 52, 53, 40] (by decide +kernel) (by decide +kernel)) (goodIn_sub (fun _ h => List.mem_cons_of_mem _ (List.mem_append_right _ h)) (by decide +kernel))
set_option maxRecDepth 20000 in
theorem gX8_isFrozen_X3_isFixed : GoodIn wsX8_isFrozen (wsV RX8 83 RX3 yX3_isFixed wsX3_isFixed) := goodIn_app (goodIn_of _ (by decide +kernel)) ggX8_isFrozen_X3_isFixed
theorem dX8_isFrozen_0 : decode cX8_isFrozen 0 = .ok (.aload_n 0, 1) := by decide +kernel
theorem dX8_isFrozen_1 : decode cX8_isFrozen 1 = .ok (.iload_n 1, 1) := by decide +kernel
theorem dX8_isFrozen_2 : decode cX8_isFrozen 2 = .ok (.invokevirtual 80, 3) := by decide +kernel
theorem dX8_isFrozen_5 : decode cX8_isFrozen 5 = .ok (.aload_n 0, 1) := by decide +kernel
theorem dX8_isFrozen_6 : decode cX8_isFrozen 6 = .ok (.getfield 28, 3) := by decide +kernel
theorem dX8_isFrozen_9 : decode cX8_isFrozen 9 = .ok (.iload_n 1, 1) := by decide +kernel
theorem dX8_isFrozen_10 : decode cX8_isFrozen 10 = .ok (.invokevirtual 83, 3) := by decide +kernel
theorem dX8_isFrozen_13 : decode cX8_isFrozen 13 = .ok (.ireturn, 1) := by decide +kernel
set_option maxRecDepth 20000 in
theorem ggX8_numberOf_X8_requireNumbered : GoodIn wsX8_numberOf wsX8_requireNumbered := goodIn_ca (goodIn_ca (goodIn_ca (goodIn_r _ [6, 7, 8, 9, 10, 11, 12, 5, 13, 14, 15, 16, 17, 18, 19, 20, 21, 22, 23, 24, 25, 26, 27, 28, 29, 30, 31, 32, 40, 41, 42, 43, 44, 45, 46, 47, 48, 49, 50, 51] (by decide +kernel) (by decide +kernel)) (goodIn_sub (fun _ h => List.mem_cons_of_mem _ (List.mem_append_left _ (List.mem_append_left _ (List.mem_append_right _ h)))) (by decide +kernel))) (goodIn_sub (fun _ h => List.mem_cons_of_mem _ (List.mem_append_left _ (List.mem_append_right _ h))) (by decide +kernel))) (goodIn_sub (fun _ h => List.mem_cons_of_mem _ (List.mem_append_right _ h)) (by decide +kernel))
set_option maxRecDepth 20000 in
theorem gX8_numberOf_X8_requireNumbered : GoodIn wsX8_numberOf (wsV RX8 168 RX8 yX8_requireNumbered wsX8_requireNumbered) := goodIn_app (goodIn_of _ (by decide +kernel)) ggX8_numberOf_X8_requireNumbered
set_option maxRecDepth 20000 in
theorem ggX8_numberOf_X3_number : GoodIn wsX8_numberOf wsX3_number := goodIn_ca (goodIn_r _ [37, 38, 39, 23, 24, 25, 26, 27, 52, 53, 54, 55, 56, 57, 58, 59, 60, 61, 62, 63, 64, 51] (by decide +kernel) (by decide +kernel)) (goodIn_sub (fun _ h => List.mem_cons_of_mem _ (List.mem_append_right _ h)) (by decide +kernel))
set_option maxRecDepth 20000 in
theorem gX8_numberOf_X3_number : GoodIn wsX8_numberOf (wsV RX8 177 RX3 yX3_number wsX3_number) := goodIn_app (goodIn_of _ (by decide +kernel)) ggX8_numberOf_X3_number
theorem dX8_numberOf_0 : decode cX8_numberOf 0 = .ok (.aload_n 0, 1) := by decide +kernel
theorem dX8_numberOf_1 : decode cX8_numberOf 1 = .ok (.iload_n 1, 1) := by decide +kernel
theorem dX8_numberOf_2 : decode cX8_numberOf 2 = .ok (.invokevirtual 168, 3) := by decide +kernel
theorem dX8_numberOf_5 : decode cX8_numberOf 5 = .ok (.aload_n 0, 1) := by decide +kernel
theorem dX8_numberOf_6 : decode cX8_numberOf 6 = .ok (.getfield 28, 3) := by decide +kernel
theorem dX8_numberOf_9 : decode cX8_numberOf 9 = .ok (.iload_n 1, 1) := by decide +kernel
theorem dX8_numberOf_10 : decode cX8_numberOf 10 = .ok (.invokevirtual 177, 3) := by decide +kernel
theorem dX8_numberOf_13 : decode cX8_numberOf 13 = .ok (.ireturn, 1) := by decide +kernel
set_option maxRecDepth 20000 in
theorem ggX8_lettersOf_X8_requireNumbered : GoodIn wsX8_lettersOf wsX8_requireNumbered := goodIn_ca (goodIn_ca (goodIn_ca (goodIn_r _ [6, 7, 8, 9, 10, 11, 12, 5, 13, 14, 15, 16, 17, 18, 19, 20, 21, 22, 23, 24, 25, 26, 27, 28, 29, 30, 31, 32, 40, 41, 42, 43, 44, 45, 46, 47, 48, 49, 50, 51] (by decide +kernel) (by decide +kernel)) (goodIn_sub (fun _ h => List.mem_cons_of_mem _ (List.mem_append_left _ (List.mem_append_left _ (List.mem_append_right _ h)))) (by decide +kernel))) (goodIn_sub (fun _ h => List.mem_cons_of_mem _ (List.mem_append_left _ (List.mem_append_right _ h))) (by decide +kernel))) (goodIn_sub (fun _ h => List.mem_cons_of_mem _ (List.mem_append_right _ h)) (by decide +kernel))
set_option maxRecDepth 20000 in
theorem gX8_lettersOf_X8_requireNumbered : GoodIn wsX8_lettersOf (wsV RX8 168 RX8 yX8_requireNumbered wsX8_requireNumbered) := goodIn_app (goodIn_of _ (by decide +kernel)) ggX8_lettersOf_X8_requireNumbered
set_option maxRecDepth 20000 in
theorem ggX8_lettersOf_X3_letters : GoodIn wsX8_lettersOf wsX3_letters := goodIn_ca (goodIn_r _ [37, 38, 39, 23, 24, 25, 26, 27, 52, 53, 54, 55, 56, 57, 58, 59, 60, 61, 62, 63, 64, 51] (by decide +kernel) (by decide +kernel)) (goodIn_sub (fun _ h => List.mem_cons_of_mem _ (List.mem_append_right _ h)) (by decide +kernel))
set_option maxRecDepth 20000 in
theorem gX8_lettersOf_X3_letters : GoodIn wsX8_lettersOf (wsV RX8 180 RX3 yX3_letters wsX3_letters) := goodIn_app (goodIn_of _ (by decide +kernel)) ggX8_lettersOf_X3_letters
theorem dX8_lettersOf_0 : decode cX8_lettersOf 0 = .ok (.aload_n 0, 1) := by decide +kernel
theorem dX8_lettersOf_1 : decode cX8_lettersOf 1 = .ok (.iload_n 1, 1) := by decide +kernel
theorem dX8_lettersOf_2 : decode cX8_lettersOf 2 = .ok (.invokevirtual 168, 3) := by decide +kernel
theorem dX8_lettersOf_5 : decode cX8_lettersOf 5 = .ok (.aload_n 0, 1) := by decide +kernel
theorem dX8_lettersOf_6 : decode cX8_lettersOf 6 = .ok (.getfield 28, 3) := by decide +kernel
theorem dX8_lettersOf_9 : decode cX8_lettersOf 9 = .ok (.iload_n 1, 1) := by decide +kernel
theorem dX8_lettersOf_10 : decode cX8_lettersOf 10 = .ok (.invokevirtual 180, 3) := by decide +kernel
theorem dX8_lettersOf_13 : decode cX8_lettersOf 13 = .ok (.ireturn, 1) := by decide +kernel
set_option maxRecDepth 20000 in
theorem ggX8_numberByWalk_X8_requireNumbered : GoodIn wsX8_numberByWalk wsX8_requireNumbered := goodIn_ca (goodIn_ca (goodIn_ca (goodIn_r _ [6, 7, 8, 9, 10, 11, 12, 5, 13, 14, 15, 16, 17, 18, 19, 20, 21, 22, 23, 24, 25, 26, 27, 28, 29, 30, 31, 32, 127, 128, 129, 130, 131, 132, 133, 134, 135, 136, 137, 138] (by decide +kernel) (by decide +kernel)) (goodIn_sub (fun _ h => List.mem_cons_of_mem _ (List.mem_append_left _ (List.mem_append_left _ (List.mem_append_right _ h)))) (by decide +kernel))) (goodIn_sub (fun _ h => List.mem_cons_of_mem _ (List.mem_append_left _ (List.mem_append_right _ h))) (by decide +kernel))) (goodIn_sub (fun _ h => List.mem_cons_of_mem _ (List.mem_append_right _ h)) (by decide +kernel))
set_option maxRecDepth 20000 in
theorem gX8_numberByWalk_X8_requireNumbered : GoodIn wsX8_numberByWalk (wsV RX8 168 RX8 yX8_requireNumbered wsX8_requireNumbered) := goodIn_app (goodIn_of _ (by decide +kernel)) ggX8_numberByWalk_X8_requireNumbered
set_option maxRecDepth 20000 in
theorem ggX8_numberByWalk_X3_walkTo : GoodIn wsX8_numberByWalk wsX3_walkTo := goodIn_ca (goodIn_r _ [37, 38, 39, 40, 41, 42, 43, 36, 44, 45, 46, 23, 24, 25, 26, 27, 47, 48, 49, 50, 51, 52, 53, 54, 55, 56, 57, 58, 59, 19, 60, 21, 22, 61, 62, 63, 64, 65, 66, 67, 68, 69, 70, 71, 72, 73, 74, 75, 76, 77, 78, 79, 80, 81, 82, 83, 84, 85, 86, 87, 88, 89, 90, 91, 92, 93, 94, 95, 96, 97, 98, 99, 100, 101, 102, 103, 32, 104, 105, 106, 107, 108, 109, 110, 111, 112, 113, 114, 115, 116, 117, 118, 119, 120, 121, 122, 139, 140, 141, 142, 143, 144, 145, 146, 147, 148, 149, 150, 151, 138, 133, 134, 135, 136, 137, 152, 153, 154, 155, 156, 157, 158] (by decide +kernel) (by decide +kernel)) (goodIn_sub (fun _ h => List.mem_cons_of_mem _ (List.mem_append_right _ h)) (by decide +kernel))
set_option maxRecDepth 20000 in
theorem gX8_numberByWalk_X3_walkTo : GoodIn wsX8_numberByWalk (wsV RX8 183 RX3 yX3_walkTo wsX3_walkTo) := goodIn_app (goodIn_of _ (by decide +kernel)) ggX8_numberByWalk_X3_walkTo
set_option maxRecDepth 20000 in
theorem ggX8_numberByWalk_X3_walkedNumber : GoodIn wsX8_numberByWalk wsX3_walkedNumber := goodIn_r _ [126, 39, 139, 140, 141, 142, 143, 144, 145, 146, 147, 148, 149, 150, 151] (by decide +kernel) (by decide +kernel)
set_option maxRecDepth 20000 in
theorem gX8_numberByWalk_X3_walkedNumber : GoodIn wsX8_numberByWalk (wsV RX8 186 RX3 yX3_walkedNumber wsX3_walkedNumber) := goodIn_app (goodIn_of _ (by decide +kernel)) ggX8_numberByWalk_X3_walkedNumber
theorem dX8_numberByWalk_0 : decode cX8_numberByWalk 0 = .ok (.aload_n 0, 1) := by decide +kernel
theorem dX8_numberByWalk_1 : decode cX8_numberByWalk 1 = .ok (.iload_n 1, 1) := by decide +kernel
theorem dX8_numberByWalk_2 : decode cX8_numberByWalk 2 = .ok (.invokevirtual 168, 3) := by decide +kernel
theorem dX8_numberByWalk_5 : decode cX8_numberByWalk 5 = .ok (.aload_n 0, 1) := by decide +kernel
theorem dX8_numberByWalk_6 : decode cX8_numberByWalk 6 = .ok (.getfield 28, 3) := by decide +kernel
theorem dX8_numberByWalk_9 : decode cX8_numberByWalk 9 = .ok (.iload_n 1, 1) := by decide +kernel
theorem dX8_numberByWalk_10 : decode cX8_numberByWalk 10 = .ok (.invokevirtual 183, 3) := by decide +kernel
theorem dX8_numberByWalk_13 : decode cX8_numberByWalk 13 = .ok (.aload_n 0, 1) := by decide +kernel
theorem dX8_numberByWalk_14 : decode cX8_numberByWalk 14 = .ok (.getfield 28, 3) := by decide +kernel
theorem dX8_numberByWalk_17 : decode cX8_numberByWalk 17 = .ok (.invokevirtual 186, 3) := by decide +kernel
theorem dX8_numberByWalk_20 : decode cX8_numberByWalk 20 = .ok (.ireturn, 1) := by decide +kernel
set_option maxRecDepth 20000 in
theorem ggX8_lettersByWalk_X8_requireNumbered : GoodIn wsX8_lettersByWalk wsX8_requireNumbered := goodIn_ca (goodIn_ca (goodIn_ca (goodIn_r _ [6, 7, 8, 9, 10, 11, 12, 5, 13, 14, 15, 16, 17, 18, 19, 20, 21, 22, 23, 24, 25, 26, 27, 28, 29, 30, 31, 32, 127, 128, 129, 130, 131, 132, 133, 134, 135, 136, 137, 138] (by decide +kernel) (by decide +kernel)) (goodIn_sub (fun _ h => List.mem_cons_of_mem _ (List.mem_append_left _ (List.mem_append_left _ (List.mem_append_right _ h)))) (by decide +kernel))) (goodIn_sub (fun _ h => List.mem_cons_of_mem _ (List.mem_append_left _ (List.mem_append_right _ h))) (by decide +kernel))) (goodIn_sub (fun _ h => List.mem_cons_of_mem _ (List.mem_append_right _ h)) (by decide +kernel))
set_option maxRecDepth 20000 in
theorem gX8_lettersByWalk_X8_requireNumbered : GoodIn wsX8_lettersByWalk (wsV RX8 168 RX8 yX8_requireNumbered wsX8_requireNumbered) := goodIn_app (goodIn_of _ (by decide +kernel)) ggX8_lettersByWalk_X8_requireNumbered
set_option maxRecDepth 20000 in
theorem ggX8_lettersByWalk_X3_walkTo : GoodIn wsX8_lettersByWalk wsX3_walkTo := goodIn_ca (goodIn_r _ [37, 38, 39, 40, 41, 42, 43, 36, 44, 45, 46, 23, 24, 25, 26, 27, 47, 48, 49, 50, 51, 52, 53, 54, 55, 56, 57, 58, 59, 19, 60, 21, 22, 61, 62, 63, 64, 65, 66, 67, 68, 69, 70, 71, 72, 73, 74, 75, 76, 77, 78, 79, 80, 81, 82, 83, 84, 85, 86, 87, 88, 89, 90, 91, 92, 93, 94, 95, 96, 97, 98, 99, 100, 101, 102, 103, 32, 104, 105, 106, 107, 108, 109, 110, 111, 112, 113, 114, 115, 116, 117, 118, 119, 120, 121, 122, 139, 140, 141, 142, 143, 144, 145, 146, 147, 148, 149, 150, 151, 138, 133, 134, 135, 136, 137, 152, 153, 154, 155, 156, 157, 158] (by decide +kernel) (by decide +kernel)) (goodIn_sub (fun _ h => List.mem_cons_of_mem _ (List.mem_append_right _ h)) (by decide +kernel))
set_option maxRecDepth 20000 in
theorem gX8_lettersByWalk_X3_walkTo : GoodIn wsX8_lettersByWalk (wsV RX8 183 RX3 yX3_walkTo wsX3_walkTo) := goodIn_app (goodIn_of _ (by decide +kernel)) ggX8_lettersByWalk_X3_walkTo
set_option maxRecDepth 20000 in
theorem ggX8_lettersByWalk_X3_walkedLetters : GoodIn wsX8_lettersByWalk wsX3_walkedLetters := goodIn_r _ [126, 40, 139, 140, 141, 142, 143, 144, 145, 146, 147, 148, 149, 150, 151] (by decide +kernel) (by decide +kernel)
set_option maxRecDepth 20000 in
theorem gX8_lettersByWalk_X3_walkedLetters : GoodIn wsX8_lettersByWalk (wsV RX8 189 RX3 yX3_walkedLetters wsX3_walkedLetters) := goodIn_app (goodIn_of _ (by decide +kernel)) ggX8_lettersByWalk_X3_walkedLetters
theorem dX8_lettersByWalk_0 : decode cX8_lettersByWalk 0 = .ok (.aload_n 0, 1) := by decide +kernel
theorem dX8_lettersByWalk_1 : decode cX8_lettersByWalk 1 = .ok (.iload_n 1, 1) := by decide +kernel
theorem dX8_lettersByWalk_2 : decode cX8_lettersByWalk 2 = .ok (.invokevirtual 168, 3) := by decide +kernel
theorem dX8_lettersByWalk_5 : decode cX8_lettersByWalk 5 = .ok (.aload_n 0, 1) := by decide +kernel
theorem dX8_lettersByWalk_6 : decode cX8_lettersByWalk 6 = .ok (.getfield 28, 3) := by decide +kernel
theorem dX8_lettersByWalk_9 : decode cX8_lettersByWalk 9 = .ok (.iload_n 1, 1) := by decide +kernel
theorem dX8_lettersByWalk_10 : decode cX8_lettersByWalk 10 = .ok (.invokevirtual 183, 3) := by decide +kernel
theorem dX8_lettersByWalk_13 : decode cX8_lettersByWalk 13 = .ok (.aload_n 0, 1) := by decide +kernel
theorem dX8_lettersByWalk_14 : decode cX8_lettersByWalk 14 = .ok (.getfield 28, 3) := by decide +kernel
theorem dX8_lettersByWalk_17 : decode cX8_lettersByWalk 17 = .ok (.invokevirtual 189, 3) := by decide +kernel
theorem dX8_lettersByWalk_20 : decode cX8_lettersByWalk 20 = .ok (.ireturn, 1) := by decide +kernel
set_option maxRecDepth 20000 in
theorem ggX8_ahead_X8_requireNumbered : GoodIn wsX8_ahead wsX8_requireNumbered := goodIn_ca (goodIn_ca (goodIn_ca (goodIn_r _ [6, 7, 8, 9, 10, 11, 12, 5, 13, 14, 15, 16, 17, 18, 19, 20, 21, 22, 23, 24, 25, 26, 27, 28, 29, 30, 31, 32, 50, 51, 52, 53, 54, 55, 56, 57, 58, 59, 60, 61] (by decide +kernel) (by decide +kernel)) (goodIn_sub (fun _ h => List.mem_cons_of_mem _ (List.mem_append_left _ (List.mem_append_left _ (List.mem_append_right _ h)))) (by decide +kernel))) (goodIn_sub (fun _ h => List.mem_cons_of_mem _ (List.mem_append_left _ (List.mem_append_right _ h))) (by decide +kernel))) (goodIn_sub (fun _ h => List.mem_cons_of_mem _ (List.mem_append_right _ h)) (by decide +kernel))
set_option maxRecDepth 20000 in
theorem gX8_ahead_X8_requireNumbered : GoodIn wsX8_ahead (wsV RX8 168 RX8 yX8_requireNumbered wsX8_requireNumbered) := goodIn_app (goodIn_of _ (by decide +kernel)) ggX8_ahead_X8_requireNumbered
set_option maxRecDepth 20000 in
theorem ggX8_ahead_X3_nameAhead : GoodIn wsX8_ahead wsX3_nameAhead := goodIn_ca (goodIn_r _ [37, 38, 39, 40, 41, 42, 19, 43, 21, 22, 23, 24, 25, 26, 27, 44, 45, 46, 47, 48, 49, 62, 63, 64, 65, 66, 67, 68, 69, 70, 71, 72, 73, 74, 56, 57, 58, 59, 60, 61] (by decide +kernel) (by decide +kernel)) (goodIn_sub (fun _ h => List.mem_cons_of_mem _ (List.mem_append_right _ h)) (by decide +kernel))
set_option maxRecDepth 20000 in
theorem gX8_ahead_X3_nameAhead : GoodIn wsX8_ahead (wsV RX8 192 RX3 yX3_nameAhead wsX3_nameAhead) := goodIn_app (goodIn_of _ (by decide +kernel)) ggX8_ahead_X3_nameAhead
theorem dX8_ahead_0 : decode cX8_ahead 0 = .ok (.aload_n 0, 1) := by decide +kernel
theorem dX8_ahead_1 : decode cX8_ahead 1 = .ok (.iload_n 1, 1) := by decide +kernel
theorem dX8_ahead_2 : decode cX8_ahead 2 = .ok (.invokevirtual 168, 3) := by decide +kernel
theorem dX8_ahead_5 : decode cX8_ahead 5 = .ok (.aload_n 0, 1) := by decide +kernel
theorem dX8_ahead_6 : decode cX8_ahead 6 = .ok (.getfield 28, 3) := by decide +kernel
theorem dX8_ahead_9 : decode cX8_ahead 9 = .ok (.iload_n 1, 1) := by decide +kernel
theorem dX8_ahead_10 : decode cX8_ahead 10 = .ok (.invokevirtual 192, 3) := by decide +kernel
theorem dX8_ahead_13 : decode cX8_ahead 13 = .ok (.ireturn, 1) := by decide +kernel
set_option maxRecDepth 20000 in
theorem ggX8_labelLength_X8_requireNumbered : GoodIn wsX8_labelLength wsX8_requireNumbered := goodIn_ca (goodIn_ca (goodIn_ca (goodIn_r _ [6, 7, 8, 9, 10, 11, 12, 5, 13, 14, 15, 16, 17, 18, 19, 20, 21, 22, 23, 24, 25, 26, 27, 28, 29, 30, 31, 32, 139, 140, 141, 142, 143, 144, 145, 146, 147, 148, 149, 150] (by decide +kernel) (by decide +kernel)) (goodIn_sub (fun _ h => List.mem_cons_of_mem _ (List.mem_append_left _ (List.mem_append_left _ (List.mem_append_right _ h)))) (by decide +kernel))) (goodIn_sub (fun _ h => List.mem_cons_of_mem _ (List.mem_append_left _ (List.mem_append_right _ h))) (by decide +kernel))) (goodIn_sub (fun _ h => List.mem_cons_of_mem _ (List.mem_append_right _ h)) (by decide +kernel))
set_option maxRecDepth 20000 in
theorem gX8_labelLength_X8_requireNumbered : GoodIn wsX8_labelLength (wsV RX8 168 RX8 yX8_requireNumbered wsX8_requireNumbered) := goodIn_app (goodIn_of _ (by decide +kernel)) ggX8_labelLength_X8_requireNumbered
set_option maxRecDepth 20000 in
theorem ggX8_labelLength_X0_writeLabel : GoodIn wsX8_labelLength wsX0_writeLabel := goodIn_ca (goodIn_r _ [37, 38, 39, 40, 41, 36, 42, 43, 44, 45, 46, 47, 48, 49, 50, 51, 52, 53, 54, 19, 55, 56, 57, 58, 59, 60, 22, 23, 24, 25, 26, 27, 61, 62, 63, 64, 65, 66, 67, 68, 69, 70, 71, 72, 73, 74, 75, 76, 77, 78, 79, 80, 81, 82, 83, 84, 85, 86, 87, 88, 32, 89, 90, 91, 92, 93, 94, 95, 96, 97, 98, 99, 100, 101, 102, 103, 104, 105, 106, 107, 108, 109, 110, 111, 112, 113, 114, 115, 116, 117, 118, 119, 120, 121, 122, 123, 124, 125, 126, 127, 128, 129, 130, 131, 132, 133, 134, 151, 152, 153, 154, 155, 156, 157, 158, 145, 146, 147, 148, 149, 150, 159, 160, 161, 162, 163, 164, 165, 166, 167, 168, 169, 170, 171, 172, 173, 174, 175] (by decide +kernel) (by decide +kernel)) (goodIn_sub (fun _ h => List.mem_cons_of_mem _ (List.mem_append_right _ h)) (by decide +kernel))
set_option maxRecDepth 20000 in
theorem gX8_labelLength_X0_writeLabel : GoodIn wsX8_labelLength (wsV RX8 195 RX0 yX0_writeLabel wsX0_writeLabel) := goodIn_app (goodIn_of _ (by decide +kernel)) ggX8_labelLength_X0_writeLabel
set_option maxRecDepth 20000 in
theorem ggX8_labelLength_X0_length : GoodIn wsX8_labelLength wsX0_length := goodIn_r _ [138, 38, 69, 70, 71, 49, 72, 51, 151, 152, 153, 154, 155, 156, 157, 158] (by decide +kernel) (by decide +kernel)
set_option maxRecDepth 20000 in
theorem gX8_labelLength_X0_length : GoodIn wsX8_labelLength (wsV RX8 198 RX0 yX0_length wsX0_length) := goodIn_app (goodIn_of _ (by decide +kernel)) ggX8_labelLength_X0_length
theorem dX8_labelLength_0 : decode cX8_labelLength 0 = .ok (.aload_n 0, 1) := by decide +kernel
theorem dX8_labelLength_1 : decode cX8_labelLength 1 = .ok (.iload_n 1, 1) := by decide +kernel
theorem dX8_labelLength_2 : decode cX8_labelLength 2 = .ok (.invokevirtual 168, 3) := by decide +kernel
theorem dX8_labelLength_5 : decode cX8_labelLength 5 = .ok (.aload_n 0, 1) := by decide +kernel
theorem dX8_labelLength_6 : decode cX8_labelLength 6 = .ok (.getfield 37, 3) := by decide +kernel
theorem dX8_labelLength_9 : decode cX8_labelLength 9 = .ok (.iload_n 1, 1) := by decide +kernel
theorem dX8_labelLength_10 : decode cX8_labelLength 10 = .ok (.invokevirtual 195, 3) := by decide +kernel
theorem dX8_labelLength_13 : decode cX8_labelLength 13 = .ok (.aload_n 0, 1) := by decide +kernel
theorem dX8_labelLength_14 : decode cX8_labelLength 14 = .ok (.getfield 37, 3) := by decide +kernel
theorem dX8_labelLength_17 : decode cX8_labelLength 17 = .ok (.invokevirtual 198, 3) := by decide +kernel
theorem dX8_labelLength_20 : decode cX8_labelLength 20 = .ok (.ireturn, 1) := by decide +kernel
set_option maxRecDepth 20000 in
theorem ggX8_labelAt_X8_requireNumbered : GoodIn wsX8_labelAt wsX8_requireNumbered := goodIn_ca (goodIn_ca (goodIn_ca (goodIn_r _ [6, 7, 8, 9, 10, 11, 12, 5, 13, 14, 15, 16, 17, 18, 19, 20, 21, 22, 23, 24, 25, 26, 27, 28, 29, 30, 31, 32, 150, 151, 152, 153, 154, 155, 156, 157, 158, 159, 160, 161] (by decide +kernel) (by decide +kernel)) (goodIn_sub (fun _ h => List.mem_cons_of_mem _ (List.mem_append_left _ (List.mem_append_left _ (List.mem_append_left _ (List.mem_append_right _ h))))) (by decide +kernel))) (goodIn_sub (fun _ h => List.mem_cons_of_mem _ (List.mem_append_left _ (List.mem_append_left _ (List.mem_append_right _ h)))) (by decide +kernel))) (goodIn_sub (fun _ h => List.mem_cons_of_mem _ (List.mem_append_left _ (List.mem_append_right _ h))) (by decide +kernel))
set_option maxRecDepth 20000 in
theorem gX8_labelAt_X8_requireNumbered : GoodIn wsX8_labelAt (wsV RX8 168 RX8 yX8_requireNumbered wsX8_requireNumbered) := goodIn_app (goodIn_of _ (by decide +kernel)) ggX8_labelAt_X8_requireNumbered
set_option maxRecDepth 20000 in
theorem ggX8_labelAt_X0_writeLabel : GoodIn wsX8_labelAt wsX0_writeLabel := goodIn_ca (goodIn_r _ [37, 38, 39, 40, 41, 36, 42, 43, 44, 45, 46, 47, 48, 49, 50, 51, 52, 53, 54, 19, 55, 56, 57, 58, 59, 60, 22, 23, 24, 25, 26, 27, 61, 62, 63, 64, 65, 66, 67, 68, 69, 70, 71, 72, 73, 74, 75, 76, 77, 78, 79, 80, 81, 82, 83, 84, 85, 86, 87, 88, 32, 89, 90, 91, 92, 93, 94, 95, 96, 97, 98, 99, 100, 101, 102, 103, 104, 105, 106, 107, 108, 109, 110, 111, 112, 113, 114, 115, 116, 117, 118, 119, 120, 121, 122, 123, 124, 125, 126, 127, 128, 129, 130, 131, 132, 133, 134, 162, 163, 164, 165, 166, 167, 168, 169, 156, 157, 158, 159, 160, 161, 170, 171, 172, 173, 174, 175, 176, 177, 178, 179, 180, 181, 182, 183, 184, 185, 186] (by decide +kernel) (by decide +kernel)) (goodIn_sub (fun _ h => List.mem_cons_of_mem _ (List.mem_append_left _ (List.mem_append_right _ h))) (by decide +kernel))
set_option maxRecDepth 20000 in
theorem gX8_labelAt_X0_writeLabel : GoodIn wsX8_labelAt (wsV RX8 195 RX0 yX0_writeLabel wsX0_writeLabel) := goodIn_app (goodIn_of _ (by decide +kernel)) ggX8_labelAt_X0_writeLabel
set_option maxRecDepth 20000 in
theorem ggX8_labelAt_X8_writtenSign : GoodIn wsX8_labelAt wsX8_writtenSign := goodIn_ca (goodIn_ca (goodIn_r _ [138, 139, 140, 1, 141, 142, 143, 36, 144, 38, 69, 70, 71, 49, 72, 51, 145, 146, 147, 148, 149, 110, 111, 112, 77, 150, 151, 152, 153, 154, 155, 162, 163, 164, 165, 166, 167, 168, 169] (by decide +kernel) (by decide +kernel)) (goodIn_sub (fun _ h => List.mem_cons_of_mem _ (List.mem_append_right _ h)) (by decide +kernel))) (goodIn_sub (fun _ h => List.mem_cons_of_mem _ (List.mem_append_left _ (List.mem_append_right _ h))) (by decide +kernel))
set_option maxRecDepth 20000 in
theorem gX8_labelAt_X8_writtenSign : GoodIn wsX8_labelAt (wsV RX8 201 RX8 yX8_writtenSign wsX8_writtenSign) := goodIn_app (goodIn_of _ (by decide +kernel)) ggX8_labelAt_X8_writtenSign
theorem dX8_labelAt_0 : decode cX8_labelAt 0 = .ok (.aload_n 0, 1) := by decide +kernel
theorem dX8_labelAt_1 : decode cX8_labelAt 1 = .ok (.iload_n 1, 1) := by decide +kernel
theorem dX8_labelAt_2 : decode cX8_labelAt 2 = .ok (.invokevirtual 168, 3) := by decide +kernel
theorem dX8_labelAt_5 : decode cX8_labelAt 5 = .ok (.aload_n 0, 1) := by decide +kernel
theorem dX8_labelAt_6 : decode cX8_labelAt 6 = .ok (.getfield 37, 3) := by decide +kernel
theorem dX8_labelAt_9 : decode cX8_labelAt 9 = .ok (.iload_n 1, 1) := by decide +kernel
theorem dX8_labelAt_10 : decode cX8_labelAt 10 = .ok (.invokevirtual 195, 3) := by decide +kernel
theorem dX8_labelAt_13 : decode cX8_labelAt 13 = .ok (.aload_n 0, 1) := by decide +kernel
theorem dX8_labelAt_14 : decode cX8_labelAt 14 = .ok (.iload_n 2, 1) := by decide +kernel
theorem dX8_labelAt_15 : decode cX8_labelAt 15 = .ok (.invokevirtual 201, 3) := by decide +kernel
theorem dX8_labelAt_18 : decode cX8_labelAt 18 = .ok (.ireturn, 1) := by decide +kernel
set_option maxRecDepth 20000 in
theorem ggX8_find_X8_requireNumberedLevel : GoodIn wsX8_find wsX8_requireNumberedLevel := goodIn_ca (goodIn_r _ [9, 10, 11] (by decide +kernel) (by decide +kernel)) (goodIn_sub (fun _ h => List.mem_cons_of_mem _ (List.mem_append_left _ (List.mem_append_right _ h))) (by decide +kernel))
set_option maxRecDepth 20000 in
theorem gX8_find_X8_requireNumberedLevel : GoodIn wsX8_find (wsV RX8 130 RX8 yX8_requireNumberedLevel wsX8_requireNumberedLevel) := goodIn_app (goodIn_of _ (by decide +kernel)) ggX8_find_X8_requireNumberedLevel
set_option maxRecDepth 20000 in
theorem ggX8_find_X5_amount : GoodIn wsX8_find wsX5_amount := goodIn_r _ [16, 17, 52, 53, 54, 55, 56] (by decide +kernel) (by decide +kernel)
set_option maxRecDepth 20000 in
theorem gX8_find_X5_amount : GoodIn wsX8_find (wsV RX8 48 RX5 yX5_amount wsX5_amount) := goodIn_app (goodIn_of _ (by decide +kernel)) ggX8_find_X5_amount
set_option maxRecDepth 20000 in
theorem ggX8_find_X5_nameAt : GoodIn wsX8_find wsX5_nameAt := goodIn_ca (goodIn_r _ [21, 22, 23, 24, 25, 26, 27, 28, 52, 53, 54, 55, 56, 57] (by decide +kernel) (by decide +kernel)) (goodIn_sub (fun _ h => List.mem_cons_of_mem _ (List.mem_append_right _ h)) (by decide +kernel))
set_option maxRecDepth 20000 in
theorem gX8_find_X5_nameAt : GoodIn wsX8_find (wsV RX8 165 RX5 yX5_nameAt wsX5_nameAt) := goodIn_app (goodIn_of _ (by decide +kernel)) ggX8_find_X5_nameAt
set_option maxRecDepth 20000 in
theorem ggX8_find_X5_level : GoodIn wsX8_find wsX5_level := goodIn_ca (goodIn_r _ [32, 33, 23, 24, 25, 26, 27, 28, 52, 53, 54, 55, 56, 57] (by decide +kernel) (by decide +kernel)) (goodIn_sub (fun _ h => List.mem_cons_of_mem _ (List.mem_append_right _ h)) (by decide +kernel))
set_option maxRecDepth 20000 in
theorem gX8_find_X5_level : GoodIn wsX8_find (wsV RX8 95 RX5 yX5_level wsX5_level) := goodIn_app (goodIn_of _ (by decide +kernel)) ggX8_find_X5_level
set_option maxRecDepth 20000 in
theorem ggX8_find_X3_number : GoodIn wsX8_find wsX3_number := goodIn_ca (goodIn_r _ [38, 39, 40, 24, 25, 26, 27, 28, 58, 59, 60, 61, 62, 63, 64, 65, 66, 67, 68, 69, 70, 57] (by decide +kernel) (by decide +kernel)) (goodIn_sub (fun _ h => List.mem_cons_of_mem _ (List.mem_append_right _ h)) (by decide +kernel))
set_option maxRecDepth 20000 in
theorem gX8_find_X3_number : GoodIn wsX8_find (wsV RX8 177 RX3 yX3_number wsX3_number) := goodIn_app (goodIn_of _ (by decide +kernel)) ggX8_find_X3_number
set_option maxRecDepth 20000 in
theorem ggX8_find_X3_letters : GoodIn wsX8_find wsX3_letters := goodIn_ca (goodIn_r _ [44, 45, 40, 24, 25, 26, 27, 28, 58, 59, 60, 61, 62, 63, 64, 65, 66, 67, 68, 69, 70, 57] (by decide +kernel) (by decide +kernel)) (goodIn_sub (fun _ h => List.mem_cons_of_mem _ (List.mem_append_right _ h)) (by decide +kernel))
set_option maxRecDepth 20000 in
theorem gX8_find_X3_letters : GoodIn wsX8_find (wsV RX8 180 RX3 yX3_letters wsX3_letters) := goodIn_app (goodIn_of _ (by decide +kernel)) ggX8_find_X3_letters
theorem dX8_find_0 : decode cX8_find 0 = .ok (.aload_n 0, 1) := by decide +kernel
theorem dX8_find_1 : decode cX8_find 1 = .ok (.iload_n 1, 1) := by decide +kernel
theorem dX8_find_2 : decode cX8_find 2 = .ok (.invokevirtual 130, 3) := by decide +kernel
theorem dX8_find_5 : decode cX8_find 5 = .ok (.iconst 0, 1) := by decide +kernel
theorem dX8_find_6 : decode cX8_find 6 = .ok (.istore_n 3, 1) := by decide +kernel
theorem dX8_find_7 : decode cX8_find 7 = .ok (.iload_n 3, 1) := by decide +kernel
theorem dX8_find_8 : decode cX8_find 8 = .ok (.aload_n 0, 1) := by decide +kernel
theorem dX8_find_9 : decode cX8_find 9 = .ok (.getfield 10, 3) := by decide +kernel
theorem dX8_find_12 : decode cX8_find 12 = .ok (.invokevirtual 48, 3) := by decide +kernel
theorem dX8_find_15 : decode cX8_find 15 = .ok (.if_icmp .ge 60, 3) := by decide +kernel
theorem dX8_find_18 : decode cX8_find 18 = .ok (.aload_n 0, 1) := by decide +kernel
theorem dX8_find_19 : decode cX8_find 19 = .ok (.getfield 10, 3) := by decide +kernel
theorem dX8_find_22 : decode cX8_find 22 = .ok (.iload_n 3, 1) := by decide +kernel
theorem dX8_find_23 : decode cX8_find 23 = .ok (.invokevirtual 165, 3) := by decide +kernel
theorem dX8_find_26 : decode cX8_find 26 = .ok (.istore 4, 2) := by decide +kernel
theorem dX8_find_28 : decode cX8_find 28 = .ok (.aload_n 0, 1) := by decide +kernel
theorem dX8_find_29 : decode cX8_find 29 = .ok (.getfield 10, 3) := by decide +kernel
theorem dX8_find_32 : decode cX8_find 32 = .ok (.iload 4, 2) := by decide +kernel
theorem dX8_find_34 : decode cX8_find 34 = .ok (.invokevirtual 95, 3) := by decide +kernel
theorem dX8_find_37 : decode cX8_find 37 = .ok (.iload_n 1, 1) := by decide +kernel
theorem dX8_find_38 : decode cX8_find 38 = .ok (.if_icmp .ne 31, 3) := by decide +kernel
theorem dX8_find_41 : decode cX8_find 41 = .ok (.aload_n 0, 1) := by decide +kernel
theorem dX8_find_42 : decode cX8_find 42 = .ok (.getfield 28, 3) := by decide +kernel
theorem dX8_find_45 : decode cX8_find 45 = .ok (.iload 4, 2) := by decide +kernel
theorem dX8_find_47 : decode cX8_find 47 = .ok (.invokevirtual 177, 3) := by decide +kernel
theorem dX8_find_50 : decode cX8_find 50 = .ok (.iload_n 2, 1) := by decide +kernel
theorem dX8_find_51 : decode cX8_find 51 = .ok (.if_icmp .ne 18, 3) := by decide +kernel
theorem dX8_find_54 : decode cX8_find 54 = .ok (.aload_n 0, 1) := by decide +kernel
theorem dX8_find_55 : decode cX8_find 55 = .ok (.getfield 28, 3) := by decide +kernel
theorem dX8_find_58 : decode cX8_find 58 = .ok (.iload 4, 2) := by decide +kernel
theorem dX8_find_60 : decode cX8_find 60 = .ok (.invokevirtual 180, 3) := by decide +kernel
theorem dX8_find_63 : decode cX8_find 63 = .ok (.ifCond .ne 6, 3) := by decide +kernel
theorem dX8_find_66 : decode cX8_find 66 = .ok (.iload 4, 2) := by decide +kernel
theorem dX8_find_68 : decode cX8_find 68 = .ok (.ireturn, 1) := by decide +kernel
theorem dX8_find_69 : decode cX8_find 69 = .ok (.iinc 3 1, 3) := by decide +kernel
theorem dX8_find_72 : decode cX8_find 72 = .ok (.goto (-65), 3) := by decide +kernel
theorem dX8_find_75 : decode cX8_find 75 = .ok (.new 204, 3) := by decide +kernel
theorem dX8_find_78 : decode cX8_find 78 = .ok (.dup, 1) := by decide +kernel
theorem dX8_find_79 : decode cX8_find 79 = .ok (.invokespecial 206, 3) := by decide +kernel
theorem dX8_find_82 : decode cX8_find 82 = .ok (.athrow, 1) := by decide +kernel
set_option maxRecDepth 20000 in
theorem ggX8_references_X2_amount : GoodIn wsX8_references wsX2_amount := goodIn_r _ [6, 7, 14, 15, 16] (by decide +kernel) (by decide +kernel)
set_option maxRecDepth 20000 in
theorem gX8_references_X2_amount : GoodIn wsX8_references (wsV RX8 157 RX2 yX2_amount wsX2_amount) := goodIn_app (goodIn_of _ (by decide +kernel)) ggX8_references_X2_amount
theorem dX8_references_0 : decode cX8_references 0 = .ok (.aload_n 0, 1) := by decide +kernel
theorem dX8_references_1 : decode cX8_references 1 = .ok (.getfield 44, 3) := by decide +kernel
theorem dX8_references_4 : decode cX8_references 4 = .ok (.invokevirtual 157, 3) := by decide +kernel
theorem dX8_references_7 : decode cX8_references 7 = .ok (.ireturn, 1) := by decide +kernel
set_option maxRecDepth 20000 in
theorem ggX8_targetOf_X8_requireReference : GoodIn wsX8_targetOf wsX8_requireReference := goodIn_ca (goodIn_r _ [6, 7, 8, 1, 9, 10, 11, 12, 13, 14, 26, 27, 28, 29, 30, 31, 32, 33, 34] (by decide +kernel) (by decide +kernel)) (goodIn_sub (fun _ h => List.mem_cons_of_mem _ (List.mem_append_left _ (List.mem_append_right _ h))) (by decide +kernel))
set_option maxRecDepth 20000 in
theorem gX8_targetOf_X8_requireReference : GoodIn wsX8_targetOf (wsV RX8 207 RX8 yX8_requireReference wsX8_requireReference) := goodIn_app (goodIn_of _ (by decide +kernel)) ggX8_targetOf_X8_requireReference
set_option maxRecDepth 20000 in
theorem ggX8_targetOf_X2_target : GoodIn wsX8_targetOf wsX2_target := goodIn_ca (goodIn_r _ [18, 19, 20, 21, 22, 23, 24, 25, 32, 33, 34, 35] (by decide +kernel) (by decide +kernel)) (goodIn_sub (fun _ h => List.mem_cons_of_mem _ (List.mem_append_right _ h)) (by decide +kernel))
set_option maxRecDepth 20000 in
theorem gX8_targetOf_X2_target : GoodIn wsX8_targetOf (wsV RX8 210 RX2 yX2_target wsX2_target) := goodIn_app (goodIn_of _ (by decide +kernel)) ggX8_targetOf_X2_target
theorem dX8_targetOf_0 : decode cX8_targetOf 0 = .ok (.aload_n 0, 1) := by decide +kernel
theorem dX8_targetOf_1 : decode cX8_targetOf 1 = .ok (.iload_n 1, 1) := by decide +kernel
theorem dX8_targetOf_2 : decode cX8_targetOf 2 = .ok (.invokevirtual 207, 3) := by decide +kernel
theorem dX8_targetOf_5 : decode cX8_targetOf 5 = .ok (.aload_n 0, 1) := by decide +kernel
theorem dX8_targetOf_6 : decode cX8_targetOf 6 = .ok (.getfield 44, 3) := by decide +kernel
theorem dX8_targetOf_9 : decode cX8_targetOf 9 = .ok (.iload_n 1, 1) := by decide +kernel
theorem dX8_targetOf_10 : decode cX8_targetOf 10 = .ok (.invokevirtual 210, 3) := by decide +kernel
theorem dX8_targetOf_13 : decode cX8_targetOf 13 = .ok (.ireturn, 1) := by decide +kernel
set_option maxRecDepth 20000 in
theorem ggX8_isBroken_X8_requireReference : GoodIn wsX8_isBroken wsX8_requireReference := goodIn_ca (goodIn_r _ [5, 6, 7, 8, 9, 10, 11, 12, 13, 14, 43, 44, 45, 46, 47, 48, 49, 50, 51] (by decide +kernel) (by decide +kernel)) (goodIn_sub (fun _ h => List.mem_cons_of_mem _ (List.mem_append_left _ (List.mem_append_right _ h))) (by decide +kernel))
set_option maxRecDepth 20000 in
theorem gX8_isBroken_X8_requireReference : GoodIn wsX8_isBroken (wsV RX8 207 RX8 yX8_requireReference wsX8_requireReference) := goodIn_app (goodIn_of _ (by decide +kernel)) ggX8_isBroken_X8_requireReference
set_option maxRecDepth 20000 in
theorem ggX8_isBroken_X8_lacksEnd : GoodIn wsX8_isBroken wsX8_lacksEnd := goodIn_ca (goodIn_r _ [18, 19, 8, 20, 21, 22, 12, 23, 24, 25, 26, 27, 28, 29, 30, 31, 32, 33, 34, 35, 36, 37, 38, 39, 40, 41, 42, 43, 44, 45, 46, 47, 48, 49, 50, 51, 52, 53, 54, 55, 56, 57] (by decide +kernel) (by decide +kernel)) (goodIn_sub (fun _ h => List.mem_cons_of_mem _ (List.mem_append_right _ h)) (by decide +kernel))
set_option maxRecDepth 20000 in
theorem gX8_isBroken_X8_lacksEnd : GoodIn wsX8_isBroken (wsV RX8 213 RX8 yX8_lacksEnd wsX8_lacksEnd) := goodIn_app (goodIn_of _ (by decide +kernel)) ggX8_isBroken_X8_lacksEnd
theorem dX8_isBroken_0 : decode cX8_isBroken 0 = .ok (.aload_n 0, 1) := by decide +kernel
theorem dX8_isBroken_1 : decode cX8_isBroken 1 = .ok (.iload_n 1, 1) := by decide +kernel
theorem dX8_isBroken_2 : decode cX8_isBroken 2 = .ok (.invokevirtual 207, 3) := by decide +kernel
theorem dX8_isBroken_5 : decode cX8_isBroken 5 = .ok (.aload_n 0, 1) := by decide +kernel
theorem dX8_isBroken_6 : decode cX8_isBroken 6 = .ok (.iload_n 1, 1) := by decide +kernel
theorem dX8_isBroken_7 : decode cX8_isBroken 7 = .ok (.invokevirtual 213, 3) := by decide +kernel
theorem dX8_isBroken_10 : decode cX8_isBroken 10 = .ok (.ireturn, 1) := by decide +kernel
set_option maxRecDepth 20000 in
theorem ggX8_referenceLength_X8_requireWhole : GoodIn wsX8_referenceLength wsX8_requireWhole := goodIn_ca (goodIn_ca (goodIn_ca (goodIn_r _ [7, 8, 9, 10, 11, 12, 6, 13, 14, 15, 2, 16, 17, 18, 19, 20, 21, 22, 23, 24, 25, 26, 27, 28, 29, 30, 31, 32, 33, 34, 35, 36, 37, 38, 39, 40, 41, 42, 43, 44, 45, 46, 47, 48, 49, 161, 162, 163, 164, 165, 166, 167, 168, 169, 170, 171, 172, 173, 174, 175] (by decide +kernel) (by decide +kernel)) (goodIn_sub (fun _ h => List.mem_cons_of_mem _ (List.mem_append_left _ (List.mem_append_left _ (List.mem_append_right _ h)))) (by decide +kernel))) (goodIn_sub (fun _ h => List.mem_cons_of_mem _ (List.mem_append_left _ (List.mem_append_right _ h))) (by decide +kernel))) (goodIn_sub (fun _ h => List.mem_cons_of_mem _ (List.mem_append_right _ h)) (by decide +kernel))
set_option maxRecDepth 20000 in
theorem gX8_referenceLength_X8_requireWhole : GoodIn wsX8_referenceLength (wsV RX8 216 RX8 yX8_requireWhole wsX8_requireWhole) := goodIn_app (goodIn_of _ (by decide +kernel)) ggX8_referenceLength_X8_requireWhole
set_option maxRecDepth 20000 in
theorem ggX8_referenceLength_X2_source : GoodIn wsX8_referenceLength wsX2_source := goodIn_ca (goodIn_r _ [30, 31, 32, 33, 34, 35, 36, 37, 167, 168, 169, 170] (by decide +kernel) (by decide +kernel)) (goodIn_sub (fun _ h => List.mem_cons_of_mem _ (List.mem_append_right _ h)) (by decide +kernel))
set_option maxRecDepth 20000 in
theorem gX8_referenceLength_X2_source : GoodIn wsX8_referenceLength (wsV RX8 219 RX2 yX2_source wsX2_source) := goodIn_app (goodIn_of _ (by decide +kernel)) ggX8_referenceLength_X2_source
set_option maxRecDepth 20000 in
theorem ggX8_referenceLength_X2_target : GoodIn wsX8_referenceLength wsX2_target := goodIn_ca (goodIn_r _ [48, 49, 32, 33, 34, 35, 36, 37, 167, 168, 169, 170] (by decide +kernel) (by decide +kernel)) (goodIn_sub (fun _ h => List.mem_cons_of_mem _ (List.mem_append_right _ h)) (by decide +kernel))
set_option maxRecDepth 20000 in
theorem gX8_referenceLength_X2_target : GoodIn wsX8_referenceLength (wsV RX8 210 RX2 yX2_target wsX2_target) := goodIn_app (goodIn_of _ (by decide +kernel)) ggX8_referenceLength_X2_target
set_option maxRecDepth 20000 in
theorem ggX8_referenceLength_X0_writeReference : GoodIn wsX8_referenceLength wsX0_writeReference := goodIn_ca (goodIn_r _ [54, 55, 56, 57, 58, 59, 41, 60, 61, 44, 33, 34, 35, 36, 37, 62, 63, 64, 65, 66, 67, 68, 69, 70, 53, 71, 72, 73, 74, 75, 76, 77, 78, 79, 80, 81, 82, 83, 84, 85, 86, 87, 88, 89, 90, 91, 92, 93, 94, 95, 96, 97, 98, 99, 100, 101, 102, 103, 104, 105, 106, 107, 108, 109, 110, 111, 112, 113, 114, 115, 116, 117, 118, 119, 120, 121, 122, 123, 124, 125, 126, 127, 128, 129, 130, 131, 132, 133, 134, 135, 136, 137, 138, 139, 140, 141, 142, 143, 144, 145, 146, 147, 148, 149, 150, 151, 152, 153, 154, 155, 156, 176, 177, 178, 179, 180, 181, 171, 172, 173, 174, 175, 170, 182, 183, 184, 185, 186, 187, 188, 189, 190, 191, 192, 193, 194, 195, 196, 197, 198, 199, 200] (by decide +kernel) (by decide +kernel)) (goodIn_sub (fun _ h => List.mem_cons_of_mem _ (List.mem_append_right _ h)) (by decide +kernel))
set_option maxRecDepth 20000 in
theorem gX8_referenceLength_X0_writeReference : GoodIn wsX8_referenceLength (wsV RX8 222 RX0 yX0_writeReference wsX0_writeReference) := goodIn_app (goodIn_of _ (by decide +kernel)) ggX8_referenceLength_X0_writeReference
set_option maxRecDepth 20000 in
theorem ggX8_referenceLength_X0_length : GoodIn wsX8_referenceLength wsX0_length := goodIn_r _ [160, 56, 91, 92, 93, 65, 94, 67, 176, 177, 178, 179, 180, 181, 182, 183] (by decide +kernel) (by decide +kernel)
set_option maxRecDepth 20000 in
theorem gX8_referenceLength_X0_length : GoodIn wsX8_referenceLength (wsV RX8 198 RX0 yX0_length wsX0_length) := goodIn_app (goodIn_of _ (by decide +kernel)) ggX8_referenceLength_X0_length
theorem dX8_referenceLength_0 : decode cX8_referenceLength 0 = .ok (.aload_n 0, 1) := by decide +kernel
theorem dX8_referenceLength_1 : decode cX8_referenceLength 1 = .ok (.iload_n 1, 1) := by decide +kernel
theorem dX8_referenceLength_2 : decode cX8_referenceLength 2 = .ok (.invokevirtual 216, 3) := by decide +kernel
theorem dX8_referenceLength_5 : decode cX8_referenceLength 5 = .ok (.aload_n 0, 1) := by decide +kernel
theorem dX8_referenceLength_6 : decode cX8_referenceLength 6 = .ok (.getfield 37, 3) := by decide +kernel
theorem dX8_referenceLength_9 : decode cX8_referenceLength 9 = .ok (.aload_n 0, 1) := by decide +kernel
theorem dX8_referenceLength_10 : decode cX8_referenceLength 10 = .ok (.getfield 44, 3) := by decide +kernel
theorem dX8_referenceLength_13 : decode cX8_referenceLength 13 = .ok (.iload_n 1, 1) := by decide +kernel
theorem dX8_referenceLength_14 : decode cX8_referenceLength 14 = .ok (.invokevirtual 219, 3) := by decide +kernel
theorem dX8_referenceLength_17 : decode cX8_referenceLength 17 = .ok (.aload_n 0, 1) := by decide +kernel
theorem dX8_referenceLength_18 : decode cX8_referenceLength 18 = .ok (.getfield 44, 3) := by decide +kernel
theorem dX8_referenceLength_21 : decode cX8_referenceLength 21 = .ok (.iload_n 1, 1) := by decide +kernel
theorem dX8_referenceLength_22 : decode cX8_referenceLength 22 = .ok (.invokevirtual 210, 3) := by decide +kernel
theorem dX8_referenceLength_25 : decode cX8_referenceLength 25 = .ok (.invokevirtual 222, 3) := by decide +kernel
theorem dX8_referenceLength_28 : decode cX8_referenceLength 28 = .ok (.aload_n 0, 1) := by decide +kernel
theorem dX8_referenceLength_29 : decode cX8_referenceLength 29 = .ok (.getfield 37, 3) := by decide +kernel
theorem dX8_referenceLength_32 : decode cX8_referenceLength 32 = .ok (.invokevirtual 198, 3) := by decide +kernel
theorem dX8_referenceLength_35 : decode cX8_referenceLength 35 = .ok (.ireturn, 1) := by decide +kernel
set_option maxRecDepth 20000 in
theorem ggX8_referenceAt_X8_requireWhole : GoodIn wsX8_referenceAt wsX8_requireWhole := goodIn_ca (goodIn_ca (goodIn_ca (goodIn_r _ [7, 8, 9, 10, 11, 12, 6, 13, 14, 15, 2, 16, 17, 18, 19, 20, 21, 22, 23, 24, 25, 26, 27, 28, 29, 30, 31, 32, 33, 34, 35, 36, 37, 38, 39, 40, 41, 42, 43, 44, 45, 46, 47, 48, 49, 172, 173, 174, 175, 176, 177, 178, 179, 180, 181, 182, 183, 184, 185, 186] (by decide +kernel) (by decide +kernel)) (goodIn_sub (fun _ h => List.mem_cons_of_mem _ (List.mem_append_left _ (List.mem_append_left _ (List.mem_append_left _ (List.mem_append_right _ h))))) (by decide +kernel))) (goodIn_sub (fun _ h => List.mem_cons_of_mem _ (List.mem_append_left _ (List.mem_append_left _ (List.mem_append_right _ h)))) (by decide +kernel))) (goodIn_sub (fun _ h => List.mem_cons_of_mem _ (List.mem_append_left _ (List.mem_append_right _ h))) (by decide +kernel))
set_option maxRecDepth 20000 in
theorem gX8_referenceAt_X8_requireWhole : GoodIn wsX8_referenceAt (wsV RX8 216 RX8 yX8_requireWhole wsX8_requireWhole) := goodIn_app (goodIn_of _ (by decide +kernel)) ggX8_referenceAt_X8_requireWhole
set_option maxRecDepth 20000 in
theorem ggX8_referenceAt_X2_source : GoodIn wsX8_referenceAt wsX2_source := goodIn_ca (goodIn_r _ [30, 31, 32, 33, 34, 35, 36, 37, 178, 179, 180, 181] (by decide +kernel) (by decide +kernel)) (goodIn_sub (fun _ h => List.mem_cons_of_mem _ (List.mem_append_left _ (List.mem_append_right _ h))) (by decide +kernel))
set_option maxRecDepth 20000 in
theorem gX8_referenceAt_X2_source : GoodIn wsX8_referenceAt (wsV RX8 219 RX2 yX2_source wsX2_source) := goodIn_app (goodIn_of _ (by decide +kernel)) ggX8_referenceAt_X2_source
set_option maxRecDepth 20000 in
theorem ggX8_referenceAt_X2_target : GoodIn wsX8_referenceAt wsX2_target := goodIn_ca (goodIn_r _ [48, 49, 32, 33, 34, 35, 36, 37, 178, 179, 180, 181] (by decide +kernel) (by decide +kernel)) (goodIn_sub (fun _ h => List.mem_cons_of_mem _ (List.mem_append_left _ (List.mem_append_right _ h))) (by decide +kernel))
set_option maxRecDepth 20000 in
theorem gX8_referenceAt_X2_target : GoodIn wsX8_referenceAt (wsV RX8 210 RX2 yX2_target wsX2_target) := goodIn_app (goodIn_of _ (by decide +kernel)) ggX8_referenceAt_X2_target
set_option maxRecDepth 20000 in
theorem ggX8_referenceAt_X0_writeReference : GoodIn wsX8_referenceAt wsX0_writeReference := goodIn_ca (goodIn_r _ [54, 55, 56, 57, 58, 59, 41, 60, 61, 44, 33, 34, 35, 36, 37, 62, 63, 64, 65, 66, 67, 68, 69, 70, 53, 71, 72, 73, 74, 75, 76, 77, 78, 79, 80, 81, 82, 83, 84, 85, 86, 87, 88, 89, 90, 91, 92, 93, 94, 95, 96, 97, 98, 99, 100, 101, 102, 103, 104, 105, 106, 107, 108, 109, 110, 111, 112, 113, 114, 115, 116, 117, 118, 119, 120, 121, 122, 123, 124, 125, 126, 127, 128, 129, 130, 131, 132, 133, 134, 135, 136, 137, 138, 139, 140, 141, 142, 143, 144, 145, 146, 147, 148, 149, 150, 151, 152, 153, 154, 155, 156, 187, 188, 189, 190, 191, 192, 182, 183, 184, 185, 186, 181, 193, 194, 195, 196, 197, 198, 199, 200, 201, 202, 203, 204, 205, 206, 207, 208, 209, 210, 211] (by decide +kernel) (by decide +kernel)) (goodIn_sub (fun _ h => List.mem_cons_of_mem _ (List.mem_append_left _ (List.mem_append_right _ h))) (by decide +kernel))
set_option maxRecDepth 20000 in
theorem gX8_referenceAt_X0_writeReference : GoodIn wsX8_referenceAt (wsV RX8 222 RX0 yX0_writeReference wsX0_writeReference) := goodIn_app (goodIn_of _ (by decide +kernel)) ggX8_referenceAt_X0_writeReference
set_option maxRecDepth 20000 in
theorem ggX8_referenceAt_X8_writtenSign : GoodIn wsX8_referenceAt wsX8_writtenSign := goodIn_ca (goodIn_ca (goodIn_r _ [160, 161, 162, 1, 163, 164, 165, 53, 166, 56, 91, 92, 93, 65, 94, 67, 167, 168, 169, 170, 171, 132, 133, 134, 99, 172, 173, 174, 175, 176, 177, 187, 188, 189, 190, 191, 192, 193, 194] (by decide +kernel) (by decide +kernel)) (goodIn_sub (fun _ h => List.mem_cons_of_mem _ (List.mem_append_right _ h)) (by decide +kernel))) (goodIn_sub (fun _ h => List.mem_cons_of_mem _ (List.mem_append_left _ (List.mem_append_right _ h))) (by decide +kernel))
set_option maxRecDepth 20000 in
theorem gX8_referenceAt_X8_writtenSign : GoodIn wsX8_referenceAt (wsV RX8 201 RX8 yX8_writtenSign wsX8_writtenSign) := goodIn_app (goodIn_of _ (by decide +kernel)) ggX8_referenceAt_X8_writtenSign
theorem dX8_referenceAt_0 : decode cX8_referenceAt 0 = .ok (.aload_n 0, 1) := by decide +kernel
theorem dX8_referenceAt_1 : decode cX8_referenceAt 1 = .ok (.iload_n 1, 1) := by decide +kernel
theorem dX8_referenceAt_2 : decode cX8_referenceAt 2 = .ok (.invokevirtual 216, 3) := by decide +kernel
theorem dX8_referenceAt_5 : decode cX8_referenceAt 5 = .ok (.aload_n 0, 1) := by decide +kernel
theorem dX8_referenceAt_6 : decode cX8_referenceAt 6 = .ok (.getfield 37, 3) := by decide +kernel
theorem dX8_referenceAt_9 : decode cX8_referenceAt 9 = .ok (.aload_n 0, 1) := by decide +kernel
theorem dX8_referenceAt_10 : decode cX8_referenceAt 10 = .ok (.getfield 44, 3) := by decide +kernel
theorem dX8_referenceAt_13 : decode cX8_referenceAt 13 = .ok (.iload_n 1, 1) := by decide +kernel
theorem dX8_referenceAt_14 : decode cX8_referenceAt 14 = .ok (.invokevirtual 219, 3) := by decide +kernel
theorem dX8_referenceAt_17 : decode cX8_referenceAt 17 = .ok (.aload_n 0, 1) := by decide +kernel
theorem dX8_referenceAt_18 : decode cX8_referenceAt 18 = .ok (.getfield 44, 3) := by decide +kernel
theorem dX8_referenceAt_21 : decode cX8_referenceAt 21 = .ok (.iload_n 1, 1) := by decide +kernel
theorem dX8_referenceAt_22 : decode cX8_referenceAt 22 = .ok (.invokevirtual 210, 3) := by decide +kernel
theorem dX8_referenceAt_25 : decode cX8_referenceAt 25 = .ok (.invokevirtual 222, 3) := by decide +kernel
theorem dX8_referenceAt_28 : decode cX8_referenceAt 28 = .ok (.aload_n 0, 1) := by decide +kernel
theorem dX8_referenceAt_29 : decode cX8_referenceAt 29 = .ok (.iload_n 2, 1) := by decide +kernel
theorem dX8_referenceAt_30 : decode cX8_referenceAt 30 = .ok (.invokevirtual 201, 3) := by decide +kernel
theorem dX8_referenceAt_33 : decode cX8_referenceAt 33 = .ok (.ireturn, 1) := by decide +kernel
set_option maxRecDepth 20000 in
theorem ggX8_broken_X2_amount : GoodIn wsX8_broken wsX2_amount := goodIn_r _ [6, 7, 43, 44, 45] (by decide +kernel) (by decide +kernel)
set_option maxRecDepth 20000 in
theorem gX8_broken_X2_amount : GoodIn wsX8_broken (wsV RX8 157 RX2 yX2_amount wsX2_amount) := goodIn_app (goodIn_of _ (by decide +kernel)) ggX8_broken_X2_amount
set_option maxRecDepth 20000 in
theorem ggX8_broken_X8_lacksEnd : GoodIn wsX8_broken wsX8_lacksEnd := goodIn_ca (goodIn_r _ [12, 13, 1, 14, 15, 16, 5, 17, 18, 19, 20, 21, 22, 23, 24, 25, 26, 27, 28, 29, 30, 31, 32, 33, 34, 35, 36, 37, 38, 39, 40, 41, 42, 43, 44, 45, 46, 47, 48, 49, 50, 51] (by decide +kernel) (by decide +kernel)) (goodIn_sub (fun _ h => List.mem_cons_of_mem _ (List.mem_append_right _ h)) (by decide +kernel))
set_option maxRecDepth 20000 in
theorem gX8_broken_X8_lacksEnd : GoodIn wsX8_broken (wsV RX8 213 RX8 yX8_lacksEnd wsX8_lacksEnd) := goodIn_app (goodIn_of _ (by decide +kernel)) ggX8_broken_X8_lacksEnd
theorem dX8_broken_0 : decode cX8_broken 0 = .ok (.iconst 0, 1) := by decide +kernel
theorem dX8_broken_1 : decode cX8_broken 1 = .ok (.istore_n 1, 1) := by decide +kernel
theorem dX8_broken_2 : decode cX8_broken 2 = .ok (.iconst 0, 1) := by decide +kernel
theorem dX8_broken_3 : decode cX8_broken 3 = .ok (.istore_n 2, 1) := by decide +kernel
theorem dX8_broken_4 : decode cX8_broken 4 = .ok (.iload_n 2, 1) := by decide +kernel
theorem dX8_broken_5 : decode cX8_broken 5 = .ok (.aload_n 0, 1) := by decide +kernel
theorem dX8_broken_6 : decode cX8_broken 6 = .ok (.getfield 44, 3) := by decide +kernel
theorem dX8_broken_9 : decode cX8_broken 9 = .ok (.invokevirtual 157, 3) := by decide +kernel
theorem dX8_broken_12 : decode cX8_broken 12 = .ok (.if_icmp .ge 20, 3) := by decide +kernel
theorem dX8_broken_15 : decode cX8_broken 15 = .ok (.aload_n 0, 1) := by decide +kernel
theorem dX8_broken_16 : decode cX8_broken 16 = .ok (.iload_n 2, 1) := by decide +kernel
theorem dX8_broken_17 : decode cX8_broken 17 = .ok (.invokevirtual 213, 3) := by decide +kernel
theorem dX8_broken_20 : decode cX8_broken 20 = .ok (.ifCond .eq 6, 3) := by decide +kernel
theorem dX8_broken_23 : decode cX8_broken 23 = .ok (.iinc 1 1, 3) := by decide +kernel
theorem dX8_broken_26 : decode cX8_broken 26 = .ok (.iinc 2 1, 3) := by decide +kernel
theorem dX8_broken_29 : decode cX8_broken 29 = .ok (.goto (-25), 3) := by decide +kernel
theorem dX8_broken_32 : decode cX8_broken 32 = .ok (.iload_n 1, 1) := by decide +kernel
theorem dX8_broken_33 : decode cX8_broken 33 = .ok (.ireturn, 1) := by decide +kernel
set_option maxRecDepth 20000 in
theorem ggX8_used_X3_usedAmount : GoodIn wsX8_used wsX3_usedAmount := goodIn_r _ [6, 7, 8, 9, 10, 11, 12, 13, 20, 21, 22, 23, 24, 25, 26, 27, 28, 29, 30, 31, 32, 33, 34, 35] (by decide +kernel) (by decide +kernel)
set_option maxRecDepth 20000 in
theorem gX8_used_X3_usedAmount : GoodIn wsX8_used (wsV RX8 225 RX3 yX3_usedAmount wsX3_usedAmount) := goodIn_app (goodIn_of _ (by decide +kernel)) ggX8_used_X3_usedAmount
theorem dX8_used_0 : decode cX8_used 0 = .ok (.aload_n 0, 1) := by decide +kernel
theorem dX8_used_1 : decode cX8_used 1 = .ok (.getfield 28, 3) := by decide +kernel
theorem dX8_used_4 : decode cX8_used 4 = .ok (.invokevirtual 225, 3) := by decide +kernel
theorem dX8_used_7 : decode cX8_used 7 = .ok (.ireturn, 1) := by decide +kernel
set_option maxRecDepth 20000 in
theorem ggX8_count_X8_kindAmount : GoodIn wsX8_count wsX8_kindAmount := goodIn_ca (goodIn_r _ [7, 8, 9, 10, 11, 12, 13, 14, 15, 16, 17, 18, 19, 20, 21, 22, 23, 24, 25, 26, 27, 28, 6, 29, 30, 31, 32, 33, 34, 35, 36, 37, 38, 39, 40, 41, 42, 43, 44, 45, 46, 47, 48, 49, 50, 51, 52, 53, 54, 55, 56, 57, 58, 59, 60, 61, 62, 63, 64, 65, 66, 67] (by decide +kernel) (by decide +kernel)) (goodIn_sub (fun _ h => List.mem_cons_of_mem _ (List.mem_append_right _ h)) (by decide +kernel))
set_option maxRecDepth 20000 in
theorem gX8_count_X8_kindAmount : GoodIn wsX8_count (wsV RX8 228 RX8 yX8_kindAmount wsX8_kindAmount) := goodIn_app (goodIn_of _ (by decide +kernel)) ggX8_count_X8_kindAmount
theorem dX8_count_0 : decode cX8_count 0 = .ok (.iload_n 1, 1) := by decide +kernel
theorem dX8_count_1 : decode cX8_count 1 = .ok (.bipush 112, 2) := by decide +kernel
theorem dX8_count_3 : decode cX8_count 3 = .ok (.if_icmp .eq 23, 3) := by decide +kernel
theorem dX8_count_6 : decode cX8_count 6 = .ok (.iload_n 1, 1) := by decide +kernel
theorem dX8_count_7 : decode cX8_count 7 = .ok (.bipush 102, 2) := by decide +kernel
theorem dX8_count_9 : decode cX8_count 9 = .ok (.if_icmp .eq 17, 3) := by decide +kernel
theorem dX8_count_12 : decode cX8_count 12 = .ok (.iload_n 1, 1) := by decide +kernel
theorem dX8_count_13 : decode cX8_count 13 = .ok (.bipush 111, 2) := by decide +kernel
theorem dX8_count_15 : decode cX8_count 15 = .ok (.if_icmp .eq 11, 3) := by decide +kernel
theorem dX8_count_18 : decode cX8_count 18 = .ok (.new 52, 3) := by decide +kernel
theorem dX8_count_21 : decode cX8_count 21 = .ok (.dup, 1) := by decide +kernel
theorem dX8_count_22 : decode cX8_count 22 = .ok (.invokespecial 54, 3) := by decide +kernel
theorem dX8_count_25 : decode cX8_count 25 = .ok (.athrow, 1) := by decide +kernel
theorem dX8_count_26 : decode cX8_count 26 = .ok (.aload_n 0, 1) := by decide +kernel
theorem dX8_count_27 : decode cX8_count 27 = .ok (.iload_n 1, 1) := by decide +kernel
theorem dX8_count_28 : decode cX8_count 28 = .ok (.invokevirtual 228, 3) := by decide +kernel
theorem dX8_count_31 : decode cX8_count 31 = .ok (.ireturn, 1) := by decide +kernel
set_option maxRecDepth 20000 in
theorem ggX8_sum_X8_levelTotal : GoodIn wsX8_sum wsX8_levelTotal := goodIn_ca (goodIn_r _ [5, 6, 7, 8, 9, 10, 11, 12, 13, 14, 15, 16, 17, 18, 19, 20, 21, 22, 23, 24, 25, 26, 27, 28, 29, 30, 31, 32, 33, 34, 35, 36, 37, 38, 39, 40, 41, 42, 43, 44, 45, 46, 47, 48, 49, 50, 51, 52, 53, 54, 55, 56, 57, 58, 59, 60, 61] (by decide +kernel) (by decide +kernel)) (goodIn_sub (fun _ h => List.mem_cons_of_mem _ (List.mem_append_right _ h)) (by decide +kernel))
set_option maxRecDepth 20000 in
theorem gX8_sum_X8_levelTotal : GoodIn wsX8_sum (wsV RX8 232 RX8 yX8_levelTotal wsX8_levelTotal) := goodIn_app (goodIn_of _ (by decide +kernel)) ggX8_sum_X8_levelTotal
theorem dX8_sum_0 : decode cX8_sum 0 = .ok (.lconst 0, 1) := by decide +kernel
theorem dX8_sum_1 : decode cX8_sum 1 = .ok (.lstore_n 1, 1) := by decide +kernel
theorem dX8_sum_2 : decode cX8_sum 2 = .ok (.iconst 1, 1) := by decide +kernel
theorem dX8_sum_3 : decode cX8_sum 3 = .ok (.istore_n 3, 1) := by decide +kernel
theorem dX8_sum_4 : decode cX8_sum 4 = .ok (.iload_n 3, 1) := by decide +kernel
theorem dX8_sum_5 : decode cX8_sum 5 = .ok (.iconst 4, 1) := by decide +kernel
theorem dX8_sum_6 : decode cX8_sum 6 = .ok (.if_icmp .gt 17, 3) := by decide +kernel
theorem dX8_sum_9 : decode cX8_sum 9 = .ok (.lload_n 1, 1) := by decide +kernel
theorem dX8_sum_10 : decode cX8_sum 10 = .ok (.aload_n 0, 1) := by decide +kernel
theorem dX8_sum_11 : decode cX8_sum 11 = .ok (.iload_n 3, 1) := by decide +kernel
theorem dX8_sum_12 : decode cX8_sum 12 = .ok (.invokevirtual 232, 3) := by decide +kernel
theorem dX8_sum_15 : decode cX8_sum 15 = .ok (.ladd, 1) := by decide +kernel
theorem dX8_sum_16 : decode cX8_sum 16 = .ok (.lstore_n 1, 1) := by decide +kernel
theorem dX8_sum_17 : decode cX8_sum 17 = .ok (.iinc 3 1, 3) := by decide +kernel
theorem dX8_sum_20 : decode cX8_sum 20 = .ok (.goto (-16), 3) := by decide +kernel
theorem dX8_sum_23 : decode cX8_sum 23 = .ok (.lload_n 1, 1) := by decide +kernel
theorem dX8_sum_24 : decode cX8_sum 24 = .ok (.lreturn, 1) := by decide +kernel
set_option maxRecDepth 20000 in
theorem ggX8_isUnique_X5_amount : GoodIn wsX8_isUnique wsX5_amount := goodIn_r _ [7, 8, 149, 150, 151, 152, 153] (by decide +kernel) (by decide +kernel)
set_option maxRecDepth 20000 in
theorem gX8_isUnique_X5_amount : GoodIn wsX8_isUnique (wsV RX8 48 RX5 yX5_amount wsX5_amount) := goodIn_app (goodIn_of _ (by decide +kernel)) ggX8_isUnique_X5_amount
set_option maxRecDepth 20000 in
theorem ggX8_isUnique_X0_hasTwinAhead : GoodIn wsX8_isUnique wsX0_hasTwinAhead := goodIn_ca (goodIn_r _ [13, 14, 15, 16, 17, 18, 19, 20, 6, 21, 22, 23, 24, 25, 26, 27, 28, 29, 30, 31, 32, 33, 34, 35, 36, 12, 37, 38, 39, 40, 41, 42, 43, 44, 45, 46, 47, 48, 49, 50, 51, 52, 53, 54, 55, 56, 57, 58, 59, 60, 61, 62, 63, 64, 65, 66, 67, 68, 69, 70, 71, 72, 73, 74, 75, 76, 77, 78, 79, 80, 81, 82, 83, 84, 85, 86, 87, 88, 89, 90, 91, 92, 93, 94, 95, 96, 97, 98, 99, 100, 101, 102, 103, 104, 105, 106, 107, 108, 109, 110, 111, 112, 113, 114, 115, 116, 117, 118, 119, 120, 121, 122, 123, 124, 125, 126, 127, 128, 129, 130, 131, 132, 133, 134, 135, 136, 137, 138, 139, 140, 141, 142, 154, 155, 156, 157, 158, 159, 149, 150, 151, 152, 153, 160, 161, 162, 163, 164, 165, 166, 167, 168, 169, 170, 171, 172, 173, 174, 175, 176, 177, 178, 179] (by decide +kernel) (by decide +kernel)) (goodIn_sub (fun _ h => List.mem_cons_of_mem _ (List.mem_append_right _ h)) (by decide +kernel))
set_option maxRecDepth 20000 in
theorem gX8_isUnique_X0_hasTwinAhead : GoodIn wsX8_isUnique (wsV RX8 236 RX0 yX0_hasTwinAhead wsX0_hasTwinAhead) := goodIn_app (goodIn_of _ (by decide +kernel)) ggX8_isUnique_X0_hasTwinAhead
theorem dX8_isUnique_0 : decode cX8_isUnique 0 = .ok (.iconst 0, 1) := by decide +kernel
theorem dX8_isUnique_1 : decode cX8_isUnique 1 = .ok (.istore_n 1, 1) := by decide +kernel
theorem dX8_isUnique_2 : decode cX8_isUnique 2 = .ok (.iload_n 1, 1) := by decide +kernel
theorem dX8_isUnique_3 : decode cX8_isUnique 3 = .ok (.aload_n 0, 1) := by decide +kernel
theorem dX8_isUnique_4 : decode cX8_isUnique 4 = .ok (.getfield 10, 3) := by decide +kernel
theorem dX8_isUnique_7 : decode cX8_isUnique 7 = .ok (.invokevirtual 48, 3) := by decide +kernel
theorem dX8_isUnique_10 : decode cX8_isUnique 10 = .ok (.if_icmp .ge 22, 3) := by decide +kernel
theorem dX8_isUnique_13 : decode cX8_isUnique 13 = .ok (.aload_n 0, 1) := by decide +kernel
theorem dX8_isUnique_14 : decode cX8_isUnique 14 = .ok (.getfield 37, 3) := by decide +kernel
theorem dX8_isUnique_17 : decode cX8_isUnique 17 = .ok (.iload_n 1, 1) := by decide +kernel
theorem dX8_isUnique_18 : decode cX8_isUnique 18 = .ok (.invokevirtual 236, 3) := by decide +kernel
theorem dX8_isUnique_21 : decode cX8_isUnique 21 = .ok (.ifCond .eq 5, 3) := by decide +kernel
theorem dX8_isUnique_24 : decode cX8_isUnique 24 = .ok (.iconst 0, 1) := by decide +kernel
theorem dX8_isUnique_25 : decode cX8_isUnique 25 = .ok (.ireturn, 1) := by decide +kernel
theorem dX8_isUnique_26 : decode cX8_isUnique 26 = .ok (.iinc 1 1, 3) := by decide +kernel
theorem dX8_isUnique_29 : decode cX8_isUnique 29 = .ok (.goto (-27), 3) := by decide +kernel
theorem dX8_isUnique_32 : decode cX8_isUnique 32 = .ok (.iconst 1, 1) := by decide +kernel
theorem dX8_isUnique_33 : decode cX8_isUnique 33 = .ok (.ireturn, 1) := by decide +kernel
set_option maxRecDepth 20000 in
theorem ggX8_frozenShare_X8_requireAnyNumbered : GoodIn wsX8_frozenShare wsX8_requireAnyNumbered := goodIn_ca (goodIn_ca (goodIn_r _ [5, 6, 7, 8, 9, 10, 4, 11, 12, 13, 14, 15, 16, 17, 18, 19, 20, 21, 22, 23, 24, 25, 26, 27, 28, 29, 30, 31, 32, 33, 34, 35, 36, 37, 38, 39, 40, 41, 42, 43, 44, 45, 46, 47, 48, 49, 50, 55, 56, 57, 58, 59, 60, 61, 62, 63, 64, 65, 66, 67, 68, 69, 70, 71, 72, 73, 74, 75, 76, 77, 78, 79] (by decide +kernel) (by decide +kernel)) (goodIn_sub (fun _ h => List.mem_cons_of_mem _ (List.mem_append_left _ (List.mem_append_right _ h))) (by decide +kernel))) (goodIn_sub (fun _ h => List.mem_cons_of_mem _ (List.mem_append_right _ h)) (by decide +kernel))
set_option maxRecDepth 20000 in
theorem gX8_frozenShare_X8_requireAnyNumbered : GoodIn wsX8_frozenShare (wsV RX8 239 RX8 yX8_requireAnyNumbered wsX8_requireAnyNumbered) := goodIn_app (goodIn_of _ (by decide +kernel)) ggX8_frozenShare_X8_requireAnyNumbered
set_option maxRecDepth 20000 in
theorem ggX8_frozenShare_X8_exactShare : GoodIn wsX8_frozenShare wsX8_exactShare := goodIn_ca (goodIn_r _ [54, 8, 9, 10, 4, 11, 12, 13, 14, 15, 16, 17, 18, 19, 20, 21, 22, 23, 24, 25, 26, 27, 28, 29, 30, 31, 32, 33, 34, 35, 36, 37, 38, 39, 40, 41, 42, 43, 44, 45, 46, 47, 48, 49, 50, 55, 56, 57, 58, 59, 60, 61, 62, 63, 64, 65, 66, 67, 68, 69, 70, 71, 72, 73, 74, 75, 76, 77, 78, 79] (by decide +kernel) (by decide +kernel)) (goodIn_sub (fun _ h => List.mem_cons_of_mem _ (List.mem_append_right _ h)) (by decide +kernel))
set_option maxRecDepth 20000 in
theorem gX8_frozenShare_X8_exactShare : GoodIn wsX8_frozenShare (wsV RX8 242 RX8 yX8_exactShare wsX8_exactShare) := goodIn_app (goodIn_of _ (by decide +kernel)) ggX8_frozenShare_X8_exactShare
theorem dX8_frozenShare_0 : decode cX8_frozenShare 0 = .ok (.aload_n 0, 1) := by decide +kernel
theorem dX8_frozenShare_1 : decode cX8_frozenShare 1 = .ok (.invokevirtual 239, 3) := by decide +kernel
theorem dX8_frozenShare_4 : decode cX8_frozenShare 4 = .ok (.aload_n 0, 1) := by decide +kernel
theorem dX8_frozenShare_5 : decode cX8_frozenShare 5 = .ok (.invokevirtual 242, 3) := by decide +kernel
theorem dX8_frozenShare_8 : decode cX8_frozenShare 8 = .ok (.freturn, 1) := by decide +kernel
set_option maxRecDepth 20000 in
theorem ggX8_shareBits_X8_requireAnyNumbered : GoodIn wsX8_shareBits wsX8_requireAnyNumbered := goodIn_ca (goodIn_ca (goodIn_r _ [5, 6, 7, 8, 9, 10, 4, 11, 12, 13, 14, 15, 16, 17, 18, 19, 20, 21, 22, 23, 24, 25, 26, 27, 28, 29, 30, 31, 32, 33, 34, 35, 36, 37, 38, 39, 40, 41, 42, 43, 44, 45, 46, 47, 48, 49, 50, 59, 60, 61, 62, 63, 64, 65, 66, 67, 68, 69, 70, 71, 72, 73, 74, 75, 76, 77, 78, 79, 80, 81, 82, 83] (by decide +kernel) (by decide +kernel)) (goodIn_sub (fun _ h => List.mem_cons_of_mem _ (List.mem_append_left _ (List.mem_append_right _ h))) (by decide +kernel))) (goodIn_sub (fun _ h => List.mem_cons_of_mem _ (List.mem_append_right _ h)) (by decide +kernel))
set_option maxRecDepth 20000 in
theorem gX8_shareBits_X8_requireAnyNumbered : GoodIn wsX8_shareBits (wsV RX8 239 RX8 yX8_requireAnyNumbered wsX8_requireAnyNumbered) := goodIn_app (goodIn_of _ (by decide +kernel)) ggX8_shareBits_X8_requireAnyNumbered
set_option maxRecDepth 20000 in
theorem ggX8_shareBits_X8_exactShare : GoodIn wsX8_shareBits wsX8_exactShare := goodIn_ca (goodIn_r _ [54, 8, 9, 10, 4, 11, 12, 13, 14, 15, 16, 17, 18, 19, 20, 21, 22, 23, 24, 25, 26, 27, 28, 29, 30, 31, 32, 33, 34, 35, 36, 37, 38, 39, 40, 41, 42, 43, 44, 45, 46, 47, 48, 49, 50, 59, 60, 61, 62, 63, 64, 65, 66, 67, 68, 69, 70, 71, 72, 73, 74, 75, 76, 77, 78, 79, 80, 81, 82, 83] (by decide +kernel) (by decide +kernel)) (goodIn_sub (fun _ h => List.mem_cons_of_mem _ (List.mem_append_right _ h)) (by decide +kernel))
set_option maxRecDepth 20000 in
theorem gX8_shareBits_X8_exactShare : GoodIn wsX8_shareBits (wsV RX8 242 RX8 yX8_exactShare wsX8_exactShare) := goodIn_app (goodIn_of _ (by decide +kernel)) ggX8_shareBits_X8_exactShare
set_option maxRecDepth 20000 in
theorem ggX8_shareBits_X8_bitsOfShare : GoodIn wsX8_shareBits wsX8_bitsOfShare := goodIn_r _ [57, 58] (by decide +kernel) (by decide +kernel)
set_option maxRecDepth 20000 in
theorem gX8_shareBits_X8_bitsOfShare : GoodIn wsX8_shareBits (va_wsS RX8 246 yX8_bitsOfShare wsX8_bitsOfShare) := goodIn_app (goodIn_of _ (by decide +kernel)) ggX8_shareBits_X8_bitsOfShare
theorem dX8_shareBits_0 : decode cX8_shareBits 0 = .ok (.aload_n 0, 1) := by decide +kernel
theorem dX8_shareBits_1 : decode cX8_shareBits 1 = .ok (.invokevirtual 239, 3) := by decide +kernel
theorem dX8_shareBits_4 : decode cX8_shareBits 4 = .ok (.aload_n 0, 1) := by decide +kernel
theorem dX8_shareBits_5 : decode cX8_shareBits 5 = .ok (.invokevirtual 242, 3) := by decide +kernel
theorem dX8_shareBits_8 : decode cX8_shareBits 8 = .ok (.invokestatic 246, 3) := by decide +kernel
theorem dX8_shareBits_11 : decode cX8_shareBits 11 = .ok (.ireturn, 1) := by decide +kernel
set_option maxRecDepth 20000 in
theorem ggX8_meanNumber_X8_requireNumberedLevel : GoodIn wsX8_meanNumber wsX8_requireNumberedLevel := goodIn_ca (goodIn_r _ [7, 8, 9] (by decide +kernel) (by decide +kernel)) (goodIn_sub (fun _ h => List.mem_cons_of_mem _ (List.mem_append_left _ (List.mem_append_right _ h))) (by decide +kernel))
set_option maxRecDepth 20000 in
theorem gX8_meanNumber_X8_requireNumberedLevel : GoodIn wsX8_meanNumber (wsV RX8 130 RX8 yX8_requireNumberedLevel wsX8_requireNumberedLevel) := goodIn_app (goodIn_of _ (by decide +kernel)) ggX8_meanNumber_X8_requireNumberedLevel
set_option maxRecDepth 20000 in
theorem ggX8_meanNumber_X8_levelAmount : GoodIn wsX8_meanNumber wsX8_levelAmount := goodIn_ca (goodIn_r _ [13, 14, 15, 16, 17, 18, 19, 20, 21, 22, 23, 24, 25, 26, 27, 28, 29, 30, 31, 32, 33, 34, 35, 36, 49, 50, 51, 52, 53, 54, 55, 56, 57, 58, 59, 60] (by decide +kernel) (by decide +kernel)) (goodIn_sub (fun _ h => List.mem_cons_of_mem _ (List.mem_append_right _ h)) (by decide +kernel))
set_option maxRecDepth 20000 in
theorem gX8_meanNumber_X8_levelAmount : GoodIn wsX8_meanNumber (wsV RX8 250 RX8 yX8_levelAmount wsX8_levelAmount) := goodIn_app (goodIn_of _ (by decide +kernel)) ggX8_meanNumber_X8_levelAmount
set_option maxRecDepth 20000 in
theorem ggX8_meanNumber_X8_levelTotal : GoodIn wsX8_meanNumber wsX8_levelTotal := goodIn_ca (goodIn_r _ [40, 14, 41, 15, 16, 17, 18, 19, 20, 21, 22, 23, 24, 25, 26, 27, 28, 29, 30, 31, 32, 33, 34, 35, 36, 42, 43, 44, 45, 46, 47, 48, 49, 50, 51, 52, 53, 54, 55, 56, 57, 58, 59, 60, 61, 62, 63, 64, 65, 66, 67, 68, 69, 70, 71, 72, 73] (by decide +kernel) (by decide +kernel)) (goodIn_sub (fun _ h => List.mem_cons_of_mem _ (List.mem_append_right _ h)) (by decide +kernel))
set_option maxRecDepth 20000 in
theorem gX8_meanNumber_X8_levelTotal : GoodIn wsX8_meanNumber (wsV RX8 232 RX8 yX8_levelTotal wsX8_levelTotal) := goodIn_app (goodIn_of _ (by decide +kernel)) ggX8_meanNumber_X8_levelTotal
theorem dX8_meanNumber_0 : decode cX8_meanNumber 0 = .ok (.aload_n 0, 1) := by decide +kernel
theorem dX8_meanNumber_1 : decode cX8_meanNumber 1 = .ok (.iload_n 1, 1) := by decide +kernel
theorem dX8_meanNumber_2 : decode cX8_meanNumber 2 = .ok (.invokevirtual 130, 3) := by decide +kernel
theorem dX8_meanNumber_5 : decode cX8_meanNumber 5 = .ok (.aload_n 0, 1) := by decide +kernel
theorem dX8_meanNumber_6 : decode cX8_meanNumber 6 = .ok (.iload_n 1, 1) := by decide +kernel
theorem dX8_meanNumber_7 : decode cX8_meanNumber 7 = .ok (.invokevirtual 250, 3) := by decide +kernel
theorem dX8_meanNumber_10 : decode cX8_meanNumber 10 = .ok (.istore_n 2, 1) := by decide +kernel
theorem dX8_meanNumber_11 : decode cX8_meanNumber 11 = .ok (.iload_n 2, 1) := by decide +kernel
theorem dX8_meanNumber_12 : decode cX8_meanNumber 12 = .ok (.ifCond .ne 11, 3) := by decide +kernel
theorem dX8_meanNumber_15 : decode cX8_meanNumber 15 = .ok (.new 253, 3) := by decide +kernel
theorem dX8_meanNumber_18 : decode cX8_meanNumber 18 = .ok (.dup, 1) := by decide +kernel
theorem dX8_meanNumber_19 : decode cX8_meanNumber 19 = .ok (.invokespecial 255, 3) := by decide +kernel
theorem dX8_meanNumber_22 : decode cX8_meanNumber 22 = .ok (.athrow, 1) := by decide +kernel
theorem dX8_meanNumber_23 : decode cX8_meanNumber 23 = .ok (.aload_n 0, 1) := by decide +kernel
theorem dX8_meanNumber_24 : decode cX8_meanNumber 24 = .ok (.iload_n 1, 1) := by decide +kernel
theorem dX8_meanNumber_25 : decode cX8_meanNumber 25 = .ok (.invokevirtual 232, 3) := by decide +kernel
theorem dX8_meanNumber_28 : decode cX8_meanNumber 28 = .ok (.l2d, 1) := by decide +kernel
theorem dX8_meanNumber_29 : decode cX8_meanNumber 29 = .ok (.iload_n 2, 1) := by decide +kernel
theorem dX8_meanNumber_30 : decode cX8_meanNumber 30 = .ok (.i2d, 1) := by decide +kernel
theorem dX8_meanNumber_31 : decode cX8_meanNumber 31 = .ok (.ddiv, 1) := by decide +kernel
theorem dX8_meanNumber_32 : decode cX8_meanNumber 32 = .ok (.dreturn, 1) := by decide +kernel
set_option maxRecDepth 20000 in
theorem ggX8_requireStanding_X5_holds : GoodIn wsX8_requireStanding wsX5_holds := goodIn_ca (goodIn_r _ [8, 9, 10, 11, 12, 13, 14, 15, 22, 23, 24, 25, 26, 27] (by decide +kernel) (by decide +kernel)) (goodIn_sub (fun _ h => List.mem_cons_of_mem _ (List.mem_append_right _ h)) (by decide +kernel))
set_option maxRecDepth 20000 in
theorem gX8_requireStanding_X5_holds : GoodIn wsX8_requireStanding (wsV RX8 256 RX5 yX5_holds wsX5_holds) := goodIn_app (goodIn_of _ (by decide +kernel)) ggX8_requireStanding_X5_holds
theorem dX8_requireStanding_0 : decode cX8_requireStanding 0 = .ok (.aload_n 0, 1) := by decide +kernel
theorem dX8_requireStanding_1 : decode cX8_requireStanding 1 = .ok (.getfield 10, 3) := by decide +kernel
theorem dX8_requireStanding_4 : decode cX8_requireStanding 4 = .ok (.iload_n 1, 1) := by decide +kernel
theorem dX8_requireStanding_5 : decode cX8_requireStanding 5 = .ok (.invokevirtual 256, 3) := by decide +kernel
theorem dX8_requireStanding_8 : decode cX8_requireStanding 8 = .ok (.ifCond .ne 11, 3) := by decide +kernel
theorem dX8_requireStanding_11 : decode cX8_requireStanding 11 = .ok (.new 204, 3) := by decide +kernel
theorem dX8_requireStanding_14 : decode cX8_requireStanding 14 = .ok (.dup, 1) := by decide +kernel
theorem dX8_requireStanding_15 : decode cX8_requireStanding 15 = .ok (.invokespecial 206, 3) := by decide +kernel
theorem dX8_requireStanding_18 : decode cX8_requireStanding 18 = .ok (.athrow, 1) := by decide +kernel
theorem dX8_requireStanding_19 : decode cX8_requireStanding 19 = .ok (.return_, 1) := by decide +kernel
set_option maxRecDepth 20000 in
theorem ggX8_requireNumbered_X8_requireStanding : GoodIn wsX8_requireNumbered wsX8_requireStanding := goodIn_ca (goodIn_ca (goodIn_r _ [8, 9, 10, 3, 11, 12, 13, 14, 15, 16, 17, 18, 19, 20, 21, 22, 28, 29, 30, 31, 32, 33, 34, 35, 36, 37, 38, 39] (by decide +kernel) (by decide +kernel)) (goodIn_sub (fun _ h => List.mem_cons_of_mem _ (List.mem_append_left _ (List.mem_append_right _ h))) (by decide +kernel))) (goodIn_sub (fun _ h => List.mem_cons_of_mem _ (List.mem_append_right _ h)) (by decide +kernel))
set_option maxRecDepth 20000 in
theorem gX8_requireNumbered_X8_requireStanding : GoodIn wsX8_requireNumbered (wsV RX8 80 RX8 yX8_requireStanding wsX8_requireStanding) := goodIn_app (goodIn_of _ (by decide +kernel)) ggX8_requireNumbered_X8_requireStanding
set_option maxRecDepth 20000 in
theorem ggX8_requireNumbered_X5_isPlain : GoodIn wsX8_requireNumbered wsX5_isPlain := goodIn_ca (goodIn_r _ [26, 27, 17, 18, 19, 20, 21, 22, 34, 35, 36, 37, 38, 39] (by decide +kernel) (by decide +kernel)) (goodIn_sub (fun _ h => List.mem_cons_of_mem _ (List.mem_append_right _ h)) (by decide +kernel))
set_option maxRecDepth 20000 in
theorem gX8_requireNumbered_X5_isPlain : GoodIn wsX8_requireNumbered (wsV RX8 154 RX5 yX5_isPlain wsX5_isPlain) := goodIn_app (goodIn_of _ (by decide +kernel)) ggX8_requireNumbered_X5_isPlain
theorem dX8_requireNumbered_0 : decode cX8_requireNumbered 0 = .ok (.aload_n 0, 1) := by decide +kernel
theorem dX8_requireNumbered_1 : decode cX8_requireNumbered 1 = .ok (.iload_n 1, 1) := by decide +kernel
theorem dX8_requireNumbered_2 : decode cX8_requireNumbered 2 = .ok (.invokevirtual 80, 3) := by decide +kernel
theorem dX8_requireNumbered_5 : decode cX8_requireNumbered 5 = .ok (.aload_n 0, 1) := by decide +kernel
theorem dX8_requireNumbered_6 : decode cX8_requireNumbered 6 = .ok (.getfield 10, 3) := by decide +kernel
theorem dX8_requireNumbered_9 : decode cX8_requireNumbered 9 = .ok (.iload_n 1, 1) := by decide +kernel
theorem dX8_requireNumbered_10 : decode cX8_requireNumbered 10 = .ok (.invokevirtual 154, 3) := by decide +kernel
theorem dX8_requireNumbered_13 : decode cX8_requireNumbered 13 = .ok (.ifCond .eq 11, 3) := by decide +kernel
theorem dX8_requireNumbered_16 : decode cX8_requireNumbered 16 = .ok (.new 59, 3) := by decide +kernel
theorem dX8_requireNumbered_19 : decode cX8_requireNumbered 19 = .ok (.dup, 1) := by decide +kernel
theorem dX8_requireNumbered_20 : decode cX8_requireNumbered 20 = .ok (.invokespecial 61, 3) := by decide +kernel
theorem dX8_requireNumbered_23 : decode cX8_requireNumbered 23 = .ok (.athrow, 1) := by decide +kernel
theorem dX8_requireNumbered_24 : decode cX8_requireNumbered 24 = .ok (.return_, 1) := by decide +kernel
theorem dX8_requireNumberedLevel_0 : decode cX8_requireNumberedLevel 0 = .ok (.iload_n 1, 1) := by decide +kernel
theorem dX8_requireNumberedLevel_1 : decode cX8_requireNumberedLevel 1 = .ok (.ifCond .le 8, 3) := by decide +kernel
theorem dX8_requireNumberedLevel_4 : decode cX8_requireNumberedLevel 4 = .ok (.iload_n 1, 1) := by decide +kernel
theorem dX8_requireNumberedLevel_5 : decode cX8_requireNumberedLevel 5 = .ok (.iconst 4, 1) := by decide +kernel
theorem dX8_requireNumberedLevel_6 : decode cX8_requireNumberedLevel 6 = .ok (.if_icmp .le 11, 3) := by decide +kernel
theorem dX8_requireNumberedLevel_9 : decode cX8_requireNumberedLevel 9 = .ok (.new 52, 3) := by decide +kernel
theorem dX8_requireNumberedLevel_12 : decode cX8_requireNumberedLevel 12 = .ok (.dup, 1) := by decide +kernel
theorem dX8_requireNumberedLevel_13 : decode cX8_requireNumberedLevel 13 = .ok (.invokespecial 54, 3) := by decide +kernel
theorem dX8_requireNumberedLevel_16 : decode cX8_requireNumberedLevel 16 = .ok (.athrow, 1) := by decide +kernel
theorem dX8_requireNumberedLevel_17 : decode cX8_requireNumberedLevel 17 = .ok (.return_, 1) := by decide +kernel
set_option maxRecDepth 20000 in
theorem ggX8_requireSkippable_X8_requireNumberedLevel : GoodIn wsX8_requireSkippable wsX8_requireNumberedLevel := goodIn_ca (goodIn_r _ [7, 1, 2] (by decide +kernel) (by decide +kernel)) (goodIn_sub (fun _ h => List.mem_cons_of_mem _ (List.mem_append_right _ h)) (by decide +kernel))
set_option maxRecDepth 20000 in
theorem gX8_requireSkippable_X8_requireNumberedLevel : GoodIn wsX8_requireSkippable (wsV RX8 130 RX8 yX8_requireNumberedLevel wsX8_requireNumberedLevel) := goodIn_app (goodIn_of _ (by decide +kernel)) ggX8_requireSkippable_X8_requireNumberedLevel
theorem dX8_requireSkippable_0 : decode cX8_requireSkippable 0 = .ok (.aload_n 0, 1) := by decide +kernel
theorem dX8_requireSkippable_1 : decode cX8_requireSkippable 1 = .ok (.iload_n 1, 1) := by decide +kernel
theorem dX8_requireSkippable_2 : decode cX8_requireSkippable 2 = .ok (.invokevirtual 130, 3) := by decide +kernel
theorem dX8_requireSkippable_5 : decode cX8_requireSkippable 5 = .ok (.iload_n 2, 1) := by decide +kernel
theorem dX8_requireSkippable_6 : decode cX8_requireSkippable 6 = .ok (.iconst 1, 1) := by decide +kernel
theorem dX8_requireSkippable_7 : decode cX8_requireSkippable 7 = .ok (.if_icmp .lt 9, 3) := by decide +kernel
theorem dX8_requireSkippable_10 : decode cX8_requireSkippable 10 = .ok (.iload_n 2, 1) := by decide +kernel
theorem dX8_requireSkippable_11 : decode cX8_requireSkippable 11 = .ok (.bipush 99, 2) := by decide +kernel
theorem dX8_requireSkippable_13 : decode cX8_requireSkippable 13 = .ok (.if_icmp .le 11, 3) := by decide +kernel
theorem dX8_requireSkippable_16 : decode cX8_requireSkippable 16 = .ok (.new 52, 3) := by decide +kernel
theorem dX8_requireSkippable_19 : decode cX8_requireSkippable 19 = .ok (.dup, 1) := by decide +kernel
theorem dX8_requireSkippable_20 : decode cX8_requireSkippable 20 = .ok (.invokespecial 54, 3) := by decide +kernel
theorem dX8_requireSkippable_23 : decode cX8_requireSkippable 23 = .ok (.athrow, 1) := by decide +kernel
theorem dX8_requireSkippable_24 : decode cX8_requireSkippable 24 = .ok (.return_, 1) := by decide +kernel
set_option maxRecDepth 20000 in
theorem ggX8_requireReference_X2_amount : GoodIn wsX8_requireReference wsX2_amount := goodIn_r _ [8, 9, 16, 17, 18] (by decide +kernel) (by decide +kernel)
set_option maxRecDepth 20000 in
theorem gX8_requireReference_X2_amount : GoodIn wsX8_requireReference (wsV RX8 157 RX2 yX2_amount wsX2_amount) := goodIn_app (goodIn_of _ (by decide +kernel)) ggX8_requireReference_X2_amount
theorem dX8_requireReference_0 : decode cX8_requireReference 0 = .ok (.iload_n 1, 1) := by decide +kernel
theorem dX8_requireReference_1 : decode cX8_requireReference 1 = .ok (.ifCond .lt 14, 3) := by decide +kernel
theorem dX8_requireReference_4 : decode cX8_requireReference 4 = .ok (.iload_n 1, 1) := by decide +kernel
theorem dX8_requireReference_5 : decode cX8_requireReference 5 = .ok (.aload_n 0, 1) := by decide +kernel
theorem dX8_requireReference_6 : decode cX8_requireReference 6 = .ok (.getfield 44, 3) := by decide +kernel
theorem dX8_requireReference_9 : decode cX8_requireReference 9 = .ok (.invokevirtual 157, 3) := by decide +kernel
theorem dX8_requireReference_12 : decode cX8_requireReference 12 = .ok (.if_icmp .lt 11, 3) := by decide +kernel
theorem dX8_requireReference_15 : decode cX8_requireReference 15 = .ok (.new 204, 3) := by decide +kernel
theorem dX8_requireReference_18 : decode cX8_requireReference 18 = .ok (.dup, 1) := by decide +kernel
theorem dX8_requireReference_19 : decode cX8_requireReference 19 = .ok (.invokespecial 206, 3) := by decide +kernel
theorem dX8_requireReference_22 : decode cX8_requireReference 22 = .ok (.athrow, 1) := by decide +kernel
theorem dX8_requireReference_23 : decode cX8_requireReference 23 = .ok (.return_, 1) := by decide +kernel
set_option maxRecDepth 20000 in
theorem ggX8_requireWhole_X8_requireReference : GoodIn wsX8_requireWhole wsX8_requireReference := goodIn_ca (goodIn_r _ [7, 8, 9, 10, 11, 12, 13, 14, 15, 16, 45, 46, 47, 48, 49, 50, 51, 52, 53] (by decide +kernel) (by decide +kernel)) (goodIn_sub (fun _ h => List.mem_cons_of_mem _ (List.mem_append_left _ (List.mem_append_right _ h))) (by decide +kernel))
set_option maxRecDepth 20000 in
theorem gX8_requireWhole_X8_requireReference : GoodIn wsX8_requireWhole (wsV RX8 207 RX8 yX8_requireReference wsX8_requireReference) := goodIn_app (goodIn_of _ (by decide +kernel)) ggX8_requireWhole_X8_requireReference
set_option maxRecDepth 20000 in
theorem ggX8_requireWhole_X8_lacksEnd : GoodIn wsX8_requireWhole wsX8_lacksEnd := goodIn_ca (goodIn_r _ [20, 21, 10, 22, 23, 24, 14, 25, 26, 27, 28, 29, 30, 31, 32, 33, 34, 35, 36, 37, 38, 39, 40, 41, 42, 43, 44, 45, 46, 47, 48, 49, 50, 51, 52, 53, 54, 55, 56, 57, 58, 59] (by decide +kernel) (by decide +kernel)) (goodIn_sub (fun _ h => List.mem_cons_of_mem _ (List.mem_append_right _ h)) (by decide +kernel))
set_option maxRecDepth 20000 in
theorem gX8_requireWhole_X8_lacksEnd : GoodIn wsX8_requireWhole (wsV RX8 213 RX8 yX8_lacksEnd wsX8_lacksEnd) := goodIn_app (goodIn_of _ (by decide +kernel)) ggX8_requireWhole_X8_lacksEnd
theorem dX8_requireWhole_0 : decode cX8_requireWhole 0 = .ok (.aload_n 0, 1) := by decide +kernel
theorem dX8_requireWhole_1 : decode cX8_requireWhole 1 = .ok (.iload_n 1, 1) := by decide +kernel
theorem dX8_requireWhole_2 : decode cX8_requireWhole 2 = .ok (.invokevirtual 207, 3) := by decide +kernel
theorem dX8_requireWhole_5 : decode cX8_requireWhole 5 = .ok (.aload_n 0, 1) := by decide +kernel
theorem dX8_requireWhole_6 : decode cX8_requireWhole 6 = .ok (.iload_n 1, 1) := by decide +kernel
theorem dX8_requireWhole_7 : decode cX8_requireWhole 7 = .ok (.invokevirtual 213, 3) := by decide +kernel
theorem dX8_requireWhole_10 : decode cX8_requireWhole 10 = .ok (.ifCond .eq 11, 3) := by decide +kernel
theorem dX8_requireWhole_13 : decode cX8_requireWhole 13 = .ok (.new 59, 3) := by decide +kernel
theorem dX8_requireWhole_16 : decode cX8_requireWhole 16 = .ok (.dup, 1) := by decide +kernel
theorem dX8_requireWhole_17 : decode cX8_requireWhole 17 = .ok (.invokespecial 61, 3) := by decide +kernel
theorem dX8_requireWhole_20 : decode cX8_requireWhole 20 = .ok (.athrow, 1) := by decide +kernel
theorem dX8_requireWhole_21 : decode cX8_requireWhole 21 = .ok (.return_, 1) := by decide +kernel
set_option maxRecDepth 20000 in
theorem ggX8_requireAnyNumbered_X8_numberedAmount : GoodIn wsX8_requireAnyNumbered wsX8_numberedAmount := goodIn_ca (goodIn_r _ [7, 8, 9, 10, 11, 12, 13, 14, 15, 16, 17, 6, 18, 19, 20, 21, 22, 23, 24, 25, 26, 27, 28, 29, 30, 31, 32, 33, 34, 35, 36, 37, 38, 39, 40, 41, 42, 43, 44, 45, 46, 47, 48, 49, 50, 51, 52, 53, 54, 55, 56, 57, 58, 59, 60, 61, 62, 63, 64, 65, 66, 67, 68, 69, 70, 71] (by decide +kernel) (by decide +kernel)) (goodIn_sub (fun _ h => List.mem_cons_of_mem _ (List.mem_append_right _ h)) (by decide +kernel))
set_option maxRecDepth 20000 in
theorem gX8_requireAnyNumbered_X8_numberedAmount : GoodIn wsX8_requireAnyNumbered (wsV RX8 259 RX8 yX8_numberedAmount wsX8_numberedAmount) := goodIn_app (goodIn_of _ (by decide +kernel)) ggX8_requireAnyNumbered_X8_numberedAmount
theorem dX8_requireAnyNumbered_0 : decode cX8_requireAnyNumbered 0 = .ok (.aload_n 0, 1) := by decide +kernel
theorem dX8_requireAnyNumbered_1 : decode cX8_requireAnyNumbered 1 = .ok (.invokevirtual 259, 3) := by decide +kernel
theorem dX8_requireAnyNumbered_4 : decode cX8_requireAnyNumbered 4 = .ok (.ifCond .ne 11, 3) := by decide +kernel
theorem dX8_requireAnyNumbered_7 : decode cX8_requireAnyNumbered 7 = .ok (.new 253, 3) := by decide +kernel
theorem dX8_requireAnyNumbered_10 : decode cX8_requireAnyNumbered 10 = .ok (.dup, 1) := by decide +kernel
theorem dX8_requireAnyNumbered_11 : decode cX8_requireAnyNumbered 11 = .ok (.invokespecial 255, 3) := by decide +kernel
theorem dX8_requireAnyNumbered_14 : decode cX8_requireAnyNumbered 14 = .ok (.athrow, 1) := by decide +kernel
theorem dX8_requireAnyNumbered_15 : decode cX8_requireAnyNumbered 15 = .ok (.return_, 1) := by decide +kernel
set_option maxRecDepth 20000 in
theorem ggX8_tearsFrozen_X5_amount : GoodIn wsX8_tearsFrozen wsX5_amount := goodIn_r _ [7, 8, 47, 48, 49, 50, 51] (by decide +kernel) (by decide +kernel)
set_option maxRecDepth 20000 in
theorem gX8_tearsFrozen_X5_amount : GoodIn wsX8_tearsFrozen (wsV RX8 48 RX5 yX5_amount wsX5_amount) := goodIn_app (goodIn_of _ (by decide +kernel)) ggX8_tearsFrozen_X5_amount
set_option maxRecDepth 20000 in
theorem ggX8_tearsFrozen_X5_nameAt : GoodIn wsX8_tearsFrozen wsX5_nameAt := goodIn_ca (goodIn_r _ [12, 13, 14, 15, 16, 17, 18, 19, 47, 48, 49, 50, 51, 52] (by decide +kernel) (by decide +kernel)) (goodIn_sub (fun _ h => List.mem_cons_of_mem _ (List.mem_append_right _ h)) (by decide +kernel))
set_option maxRecDepth 20000 in
theorem gX8_tearsFrozen_X5_nameAt : GoodIn wsX8_tearsFrozen (wsV RX8 165 RX5 yX5_nameAt wsX5_nameAt) := goodIn_app (goodIn_of _ (by decide +kernel)) ggX8_tearsFrozen_X5_nameAt
set_option maxRecDepth 20000 in
theorem ggX8_tearsFrozen_X3_isFixed : GoodIn wsX8_tearsFrozen wsX3_isFixed := goodIn_ca (goodIn_r _ [24, 25, 26, 15, 16, 17, 18, 19, 53, 54, 55, 56, 57, 58, 59, 60, 61, 62, 63, 64, 65, 52] (by decide +kernel) (by decide +kernel)) (goodIn_sub (fun _ h => List.mem_cons_of_mem _ (List.mem_append_right _ h)) (by decide +kernel))
set_option maxRecDepth 20000 in
theorem gX8_tearsFrozen_X3_isFixed : GoodIn wsX8_tearsFrozen (wsV RX8 83 RX3 yX3_isFixed wsX3_isFixed) := goodIn_app (goodIn_of _ (by decide +kernel)) ggX8_tearsFrozen_X3_isFixed
set_option maxRecDepth 20000 in
theorem ggX8_tearsFrozen_X5_parentFrom : GoodIn wsX8_tearsFrozen wsX5_parentFrom := goodIn_ca (goodIn_r _ [30, 13, 14, 15, 16, 17, 18, 19, 31, 32, 33, 6, 34, 35, 47, 48, 49, 50, 51, 52] (by decide +kernel) (by decide +kernel)) (goodIn_sub (fun _ h => List.mem_cons_of_mem _ (List.mem_append_right _ h)) (by decide +kernel))
set_option maxRecDepth 20000 in
theorem gX8_tearsFrozen_X5_parentFrom : GoodIn wsX8_tearsFrozen (wsV RX8 262 RX5 yX5_parentFrom wsX5_parentFrom) := goodIn_app (goodIn_of _ (by decide +kernel)) ggX8_tearsFrozen_X5_parentFrom
set_option maxRecDepth 20000 in
theorem ggX8_tearsFrozen_X5_parent : GoodIn wsX8_tearsFrozen wsX5_parent := goodIn_ca (goodIn_r _ [39, 40, 14, 15, 16, 17, 18, 19, 47, 48, 49, 50, 51, 52] (by decide +kernel) (by decide +kernel)) (goodIn_sub (fun _ h => List.mem_cons_of_mem _ (List.mem_append_right _ h)) (by decide +kernel))
set_option maxRecDepth 20000 in
theorem gX8_tearsFrozen_X5_parent : GoodIn wsX8_tearsFrozen (wsV RX8 171 RX5 yX5_parent wsX5_parent) := goodIn_app (goodIn_of _ (by decide +kernel)) ggX8_tearsFrozen_X5_parent
theorem dX8_tearsFrozen_0 : decode cX8_tearsFrozen 0 = .ok (.iconst 0, 1) := by decide +kernel
theorem dX8_tearsFrozen_1 : decode cX8_tearsFrozen 1 = .ok (.istore_n 1, 1) := by decide +kernel
theorem dX8_tearsFrozen_2 : decode cX8_tearsFrozen 2 = .ok (.iload_n 1, 1) := by decide +kernel
theorem dX8_tearsFrozen_3 : decode cX8_tearsFrozen 3 = .ok (.aload_n 0, 1) := by decide +kernel
theorem dX8_tearsFrozen_4 : decode cX8_tearsFrozen 4 = .ok (.getfield 10, 3) := by decide +kernel
theorem dX8_tearsFrozen_7 : decode cX8_tearsFrozen 7 = .ok (.invokevirtual 48, 3) := by decide +kernel
theorem dX8_tearsFrozen_10 : decode cX8_tearsFrozen 10 = .ok (.if_icmp .ge 50, 3) := by decide +kernel
theorem dX8_tearsFrozen_13 : decode cX8_tearsFrozen 13 = .ok (.aload_n 0, 1) := by decide +kernel
theorem dX8_tearsFrozen_14 : decode cX8_tearsFrozen 14 = .ok (.getfield 10, 3) := by decide +kernel
theorem dX8_tearsFrozen_17 : decode cX8_tearsFrozen 17 = .ok (.iload_n 1, 1) := by decide +kernel
theorem dX8_tearsFrozen_18 : decode cX8_tearsFrozen 18 = .ok (.invokevirtual 165, 3) := by decide +kernel
theorem dX8_tearsFrozen_21 : decode cX8_tearsFrozen 21 = .ok (.istore_n 2, 1) := by decide +kernel
theorem dX8_tearsFrozen_22 : decode cX8_tearsFrozen 22 = .ok (.aload_n 0, 1) := by decide +kernel
theorem dX8_tearsFrozen_23 : decode cX8_tearsFrozen 23 = .ok (.getfield 28, 3) := by decide +kernel
theorem dX8_tearsFrozen_26 : decode cX8_tearsFrozen 26 = .ok (.iload_n 2, 1) := by decide +kernel
theorem dX8_tearsFrozen_27 : decode cX8_tearsFrozen 27 = .ok (.invokevirtual 83, 3) := by decide +kernel
theorem dX8_tearsFrozen_30 : decode cX8_tearsFrozen 30 = .ok (.ifCond .eq 24, 3) := by decide +kernel
theorem dX8_tearsFrozen_33 : decode cX8_tearsFrozen 33 = .ok (.aload_n 0, 1) := by decide +kernel
theorem dX8_tearsFrozen_34 : decode cX8_tearsFrozen 34 = .ok (.getfield 10, 3) := by decide +kernel
theorem dX8_tearsFrozen_37 : decode cX8_tearsFrozen 37 = .ok (.iload_n 1, 1) := by decide +kernel
theorem dX8_tearsFrozen_38 : decode cX8_tearsFrozen 38 = .ok (.invokevirtual 262, 3) := by decide +kernel
theorem dX8_tearsFrozen_41 : decode cX8_tearsFrozen 41 = .ok (.aload_n 0, 1) := by decide +kernel
theorem dX8_tearsFrozen_42 : decode cX8_tearsFrozen 42 = .ok (.getfield 10, 3) := by decide +kernel
theorem dX8_tearsFrozen_45 : decode cX8_tearsFrozen 45 = .ok (.iload_n 2, 1) := by decide +kernel
theorem dX8_tearsFrozen_46 : decode cX8_tearsFrozen 46 = .ok (.invokevirtual 171, 3) := by decide +kernel
theorem dX8_tearsFrozen_49 : decode cX8_tearsFrozen 49 = .ok (.if_icmp .eq 5, 3) := by decide +kernel
theorem dX8_tearsFrozen_52 : decode cX8_tearsFrozen 52 = .ok (.iconst 1, 1) := by decide +kernel
theorem dX8_tearsFrozen_53 : decode cX8_tearsFrozen 53 = .ok (.ireturn, 1) := by decide +kernel
theorem dX8_tearsFrozen_54 : decode cX8_tearsFrozen 54 = .ok (.iinc 1 1, 3) := by decide +kernel
theorem dX8_tearsFrozen_57 : decode cX8_tearsFrozen 57 = .ok (.goto (-55), 3) := by decide +kernel
theorem dX8_tearsFrozen_60 : decode cX8_tearsFrozen 60 = .ok (.iconst 0, 1) := by decide +kernel
theorem dX8_tearsFrozen_61 : decode cX8_tearsFrozen 61 = .ok (.ireturn, 1) := by decide +kernel
set_option maxRecDepth 20000 in
theorem ggX8_acceptChange_X5_findParents : GoodIn wsX8_acceptChange wsX5_findParents := goodIn_ca (goodIn_r _ [7, 8, 9, 10, 11, 12, 13, 14, 15, 16, 17, 18, 19, 6, 20, 21, 22, 23, 24, 25, 26, 27, 28, 29, 143, 144, 145, 146, 147, 148] (by decide +kernel) (by decide +kernel)) (goodIn_sub (fun _ h => List.mem_cons_of_mem _ (List.mem_append_right _ h)) (by decide +kernel))
set_option maxRecDepth 20000 in
theorem gX8_acceptChange_X5_findParents : GoodIn wsX8_acceptChange (wsV RX8 265 RX5 yX5_findParents wsX5_findParents) := goodIn_app (goodIn_of _ (by decide +kernel)) ggX8_acceptChange_X5_findParents
set_option maxRecDepth 20000 in
theorem ggX8_acceptChange_X3_renumber : GoodIn wsX8_acceptChange wsX3_renumber := goodIn_ca (goodIn_r _ [34, 35, 36, 37, 38, 33, 39, 40, 41, 42, 43, 44, 6, 45, 8, 46, 47, 48, 49, 10, 11, 12, 13, 14, 15, 16, 50, 22, 23, 24, 25, 51, 52, 53, 54, 55, 56, 57, 58, 59, 60, 61, 9, 62, 27, 28, 29, 63, 64, 65, 66, 67, 68, 69, 70, 71, 72, 73, 74, 75, 76, 77, 78, 79, 80, 81, 82, 83, 84, 85, 86, 87, 88, 89, 90, 91, 92, 93, 94, 95, 96, 97, 98, 99, 100, 101, 102, 103, 104, 105, 106, 107, 108, 109, 110, 111, 112, 113, 114, 115, 116, 117, 118, 119, 120, 121, 122, 123, 124, 125, 126, 127, 128, 129, 130, 131, 132, 133, 134, 135, 136, 149, 150, 151, 152, 153, 154, 155, 156, 157, 158, 159, 160, 161, 143, 144, 145, 146, 147, 148, 162, 163, 164, 165, 166, 167, 168] (by decide +kernel) (by decide +kernel)) (goodIn_sub (fun _ h => List.mem_cons_of_mem _ (List.mem_append_right _ h)) (by decide +kernel))
set_option maxRecDepth 20000 in
theorem gX8_acceptChange_X3_renumber : GoodIn wsX8_acceptChange (wsV RX8 107 RX3 yX3_renumber wsX3_renumber) := goodIn_app (goodIn_of _ (by decide +kernel)) ggX8_acceptChange_X3_renumber
theorem dX8_acceptChange_0 : decode cX8_acceptChange 0 = .ok (.aload_n 0, 1) := by decide +kernel
theorem dX8_acceptChange_1 : decode cX8_acceptChange 1 = .ok (.getfield 10, 3) := by decide +kernel
theorem dX8_acceptChange_4 : decode cX8_acceptChange 4 = .ok (.invokevirtual 265, 3) := by decide +kernel
theorem dX8_acceptChange_7 : decode cX8_acceptChange 7 = .ok (.aload_n 0, 1) := by decide +kernel
theorem dX8_acceptChange_8 : decode cX8_acceptChange 8 = .ok (.getfield 28, 3) := by decide +kernel
theorem dX8_acceptChange_11 : decode cX8_acceptChange 11 = .ok (.invokevirtual 107, 3) := by decide +kernel
theorem dX8_acceptChange_14 : decode cX8_acceptChange 14 = .ok (.return_, 1) := by decide +kernel
set_option maxRecDepth 20000 in
theorem ggX8_hasFrozen_X5_amount : GoodIn wsX8_hasFrozen wsX5_amount := goodIn_r _ [7, 8, 38, 39, 40, 41, 42] (by decide +kernel) (by decide +kernel)
set_option maxRecDepth 20000 in
theorem gX8_hasFrozen_X5_amount : GoodIn wsX8_hasFrozen (wsV RX8 48 RX5 yX5_amount wsX5_amount) := goodIn_app (goodIn_of _ (by decide +kernel)) ggX8_hasFrozen_X5_amount
set_option maxRecDepth 20000 in
theorem ggX8_hasFrozen_X5_nameAt : GoodIn wsX8_hasFrozen wsX5_nameAt := goodIn_ca (goodIn_r _ [12, 13, 14, 15, 16, 17, 18, 19, 38, 39, 40, 41, 42, 43] (by decide +kernel) (by decide +kernel)) (goodIn_sub (fun _ h => List.mem_cons_of_mem _ (List.mem_append_right _ h)) (by decide +kernel))
set_option maxRecDepth 20000 in
theorem gX8_hasFrozen_X5_nameAt : GoodIn wsX8_hasFrozen (wsV RX8 165 RX5 yX5_nameAt wsX5_nameAt) := goodIn_app (goodIn_of _ (by decide +kernel)) ggX8_hasFrozen_X5_nameAt
set_option maxRecDepth 20000 in
theorem ggX8_hasFrozen_X5_level : GoodIn wsX8_hasFrozen wsX5_level := goodIn_ca (goodIn_r _ [23, 24, 14, 15, 16, 17, 18, 19, 38, 39, 40, 41, 42, 43] (by decide +kernel) (by decide +kernel)) (goodIn_sub (fun _ h => List.mem_cons_of_mem _ (List.mem_append_right _ h)) (by decide +kernel))
set_option maxRecDepth 20000 in
theorem gX8_hasFrozen_X5_level : GoodIn wsX8_hasFrozen (wsV RX8 95 RX5 yX5_level wsX5_level) := goodIn_app (goodIn_of _ (by decide +kernel)) ggX8_hasFrozen_X5_level
set_option maxRecDepth 20000 in
theorem ggX8_hasFrozen_X3_isFixed : GoodIn wsX8_hasFrozen wsX3_isFixed := goodIn_ca (goodIn_r _ [29, 30, 31, 15, 16, 17, 18, 19, 44, 45, 46, 47, 48, 49, 50, 51, 52, 53, 54, 55, 56, 43] (by decide +kernel) (by decide +kernel)) (goodIn_sub (fun _ h => List.mem_cons_of_mem _ (List.mem_append_right _ h)) (by decide +kernel))
set_option maxRecDepth 20000 in
theorem gX8_hasFrozen_X3_isFixed : GoodIn wsX8_hasFrozen (wsV RX8 83 RX3 yX3_isFixed wsX3_isFixed) := goodIn_app (goodIn_of _ (by decide +kernel)) ggX8_hasFrozen_X3_isFixed
theorem dX8_hasFrozen_0 : decode cX8_hasFrozen 0 = .ok (.iconst 0, 1) := by decide +kernel
theorem dX8_hasFrozen_1 : decode cX8_hasFrozen 1 = .ok (.istore_n 2, 1) := by decide +kernel
theorem dX8_hasFrozen_2 : decode cX8_hasFrozen 2 = .ok (.iload_n 2, 1) := by decide +kernel
theorem dX8_hasFrozen_3 : decode cX8_hasFrozen 3 = .ok (.aload_n 0, 1) := by decide +kernel
theorem dX8_hasFrozen_4 : decode cX8_hasFrozen 4 = .ok (.getfield 10, 3) := by decide +kernel
theorem dX8_hasFrozen_7 : decode cX8_hasFrozen 7 = .ok (.invokevirtual 48, 3) := by decide +kernel
theorem dX8_hasFrozen_10 : decode cX8_hasFrozen 10 = .ok (.if_icmp .ge 43, 3) := by decide +kernel
theorem dX8_hasFrozen_13 : decode cX8_hasFrozen 13 = .ok (.aload_n 0, 1) := by decide +kernel
theorem dX8_hasFrozen_14 : decode cX8_hasFrozen 14 = .ok (.getfield 10, 3) := by decide +kernel
theorem dX8_hasFrozen_17 : decode cX8_hasFrozen 17 = .ok (.iload_n 2, 1) := by decide +kernel
theorem dX8_hasFrozen_18 : decode cX8_hasFrozen 18 = .ok (.invokevirtual 165, 3) := by decide +kernel
theorem dX8_hasFrozen_21 : decode cX8_hasFrozen 21 = .ok (.istore_n 3, 1) := by decide +kernel
theorem dX8_hasFrozen_22 : decode cX8_hasFrozen 22 = .ok (.aload_n 0, 1) := by decide +kernel
theorem dX8_hasFrozen_23 : decode cX8_hasFrozen 23 = .ok (.getfield 10, 3) := by decide +kernel
theorem dX8_hasFrozen_26 : decode cX8_hasFrozen 26 = .ok (.iload_n 3, 1) := by decide +kernel
theorem dX8_hasFrozen_27 : decode cX8_hasFrozen 27 = .ok (.invokevirtual 95, 3) := by decide +kernel
theorem dX8_hasFrozen_30 : decode cX8_hasFrozen 30 = .ok (.iload_n 1, 1) := by decide +kernel
theorem dX8_hasFrozen_31 : decode cX8_hasFrozen 31 = .ok (.if_icmp .ne 16, 3) := by decide +kernel
theorem dX8_hasFrozen_34 : decode cX8_hasFrozen 34 = .ok (.aload_n 0, 1) := by decide +kernel
theorem dX8_hasFrozen_35 : decode cX8_hasFrozen 35 = .ok (.getfield 28, 3) := by decide +kernel
theorem dX8_hasFrozen_38 : decode cX8_hasFrozen 38 = .ok (.iload_n 3, 1) := by decide +kernel
theorem dX8_hasFrozen_39 : decode cX8_hasFrozen 39 = .ok (.invokevirtual 83, 3) := by decide +kernel
theorem dX8_hasFrozen_42 : decode cX8_hasFrozen 42 = .ok (.ifCond .eq 5, 3) := by decide +kernel
theorem dX8_hasFrozen_45 : decode cX8_hasFrozen 45 = .ok (.iconst 1, 1) := by decide +kernel
theorem dX8_hasFrozen_46 : decode cX8_hasFrozen 46 = .ok (.ireturn, 1) := by decide +kernel
theorem dX8_hasFrozen_47 : decode cX8_hasFrozen 47 = .ok (.iinc 2 1, 3) := by decide +kernel
theorem dX8_hasFrozen_50 : decode cX8_hasFrozen 50 = .ok (.goto (-48), 3) := by decide +kernel
theorem dX8_hasFrozen_53 : decode cX8_hasFrozen 53 = .ok (.iconst 0, 1) := by decide +kernel
theorem dX8_hasFrozen_54 : decode cX8_hasFrozen 54 = .ok (.ireturn, 1) := by decide +kernel
set_option maxRecDepth 20000 in
theorem ggX8_lacksEnd_X2_source : GoodIn wsX8_lacksEnd wsX2_source := goodIn_ca (goodIn_r _ [7, 8, 9, 10, 11, 12, 13, 14, 33, 34, 35, 36] (by decide +kernel) (by decide +kernel)) (goodIn_sub (fun _ h => List.mem_cons_of_mem _ (List.mem_append_right _ h)) (by decide +kernel))
set_option maxRecDepth 20000 in
theorem gX8_lacksEnd_X2_source : GoodIn wsX8_lacksEnd (wsV RX8 219 RX2 yX2_source wsX2_source) := goodIn_app (goodIn_of _ (by decide +kernel)) ggX8_lacksEnd_X2_source
set_option maxRecDepth 20000 in
theorem ggX8_lacksEnd_X5_holds : GoodIn wsX8_lacksEnd wsX5_holds := goodIn_ca (goodIn_r _ [19, 20, 21, 10, 11, 12, 13, 14, 37, 38, 39, 40, 41, 36] (by decide +kernel) (by decide +kernel)) (goodIn_sub (fun _ h => List.mem_cons_of_mem _ (List.mem_append_right _ h)) (by decide +kernel))
set_option maxRecDepth 20000 in
theorem gX8_lacksEnd_X5_holds : GoodIn wsX8_lacksEnd (wsV RX8 256 RX5 yX5_holds wsX5_holds) := goodIn_app (goodIn_of _ (by decide +kernel)) ggX8_lacksEnd_X5_holds
set_option maxRecDepth 20000 in
theorem ggX8_lacksEnd_X2_target : GoodIn wsX8_lacksEnd wsX2_target := goodIn_ca (goodIn_r _ [25, 26, 9, 10, 11, 12, 13, 14, 33, 34, 35, 36] (by decide +kernel) (by decide +kernel)) (goodIn_sub (fun _ h => List.mem_cons_of_mem _ (List.mem_append_right _ h)) (by decide +kernel))
set_option maxRecDepth 20000 in
theorem gX8_lacksEnd_X2_target : GoodIn wsX8_lacksEnd (wsV RX8 210 RX2 yX2_target wsX2_target) := goodIn_app (goodIn_of _ (by decide +kernel)) ggX8_lacksEnd_X2_target
theorem dX8_lacksEnd_0 : decode cX8_lacksEnd 0 = .ok (.aload_n 0, 1) := by decide +kernel
theorem dX8_lacksEnd_1 : decode cX8_lacksEnd 1 = .ok (.getfield 10, 3) := by decide +kernel
theorem dX8_lacksEnd_4 : decode cX8_lacksEnd 4 = .ok (.aload_n 0, 1) := by decide +kernel
theorem dX8_lacksEnd_5 : decode cX8_lacksEnd 5 = .ok (.getfield 44, 3) := by decide +kernel
theorem dX8_lacksEnd_8 : decode cX8_lacksEnd 8 = .ok (.iload_n 1, 1) := by decide +kernel
theorem dX8_lacksEnd_9 : decode cX8_lacksEnd 9 = .ok (.invokevirtual 219, 3) := by decide +kernel
theorem dX8_lacksEnd_12 : decode cX8_lacksEnd 12 = .ok (.invokevirtual 256, 3) := by decide +kernel
theorem dX8_lacksEnd_15 : decode cX8_lacksEnd 15 = .ok (.ifCond .eq 21, 3) := by decide +kernel
theorem dX8_lacksEnd_18 : decode cX8_lacksEnd 18 = .ok (.aload_n 0, 1) := by decide +kernel
theorem dX8_lacksEnd_19 : decode cX8_lacksEnd 19 = .ok (.getfield 10, 3) := by decide +kernel
theorem dX8_lacksEnd_22 : decode cX8_lacksEnd 22 = .ok (.aload_n 0, 1) := by decide +kernel
theorem dX8_lacksEnd_23 : decode cX8_lacksEnd 23 = .ok (.getfield 44, 3) := by decide +kernel
theorem dX8_lacksEnd_26 : decode cX8_lacksEnd 26 = .ok (.iload_n 1, 1) := by decide +kernel
theorem dX8_lacksEnd_27 : decode cX8_lacksEnd 27 = .ok (.invokevirtual 210, 3) := by decide +kernel
theorem dX8_lacksEnd_30 : decode cX8_lacksEnd 30 = .ok (.invokevirtual 256, 3) := by decide +kernel
theorem dX8_lacksEnd_33 : decode cX8_lacksEnd 33 = .ok (.ifCond .ne 7, 3) := by decide +kernel
theorem dX8_lacksEnd_36 : decode cX8_lacksEnd 36 = .ok (.iconst 1, 1) := by decide +kernel
theorem dX8_lacksEnd_37 : decode cX8_lacksEnd 37 = .ok (.goto 4, 3) := by decide +kernel
theorem dX8_lacksEnd_40 : decode cX8_lacksEnd 40 = .ok (.iconst 0, 1) := by decide +kernel
theorem dX8_lacksEnd_41 : decode cX8_lacksEnd 41 = .ok (.ireturn, 1) := by decide +kernel
set_option maxRecDepth 20000 in
theorem ggX8_writtenSign_X0_length : GoodIn wsX8_writtenSign wsX0_length := goodIn_r _ [8, 9, 10, 11, 12, 13, 14, 15, 31, 32, 33, 34, 35, 36, 37, 38] (by decide +kernel) (by decide +kernel)
set_option maxRecDepth 20000 in
theorem gX8_writtenSign_X0_length : GoodIn wsX8_writtenSign (wsV RX8 198 RX0 yX0_length wsX0_length) := goodIn_app (goodIn_of _ (by decide +kernel)) ggX8_writtenSign_X0_length
set_option maxRecDepth 20000 in
theorem ggX8_writtenSign_X0_signAt : GoodIn wsX8_writtenSign wsX0_signAt := goodIn_ca (goodIn_r _ [19, 9, 20, 21, 22, 13, 23, 24, 31, 32, 33, 34, 35, 36, 37, 38] (by decide +kernel) (by decide +kernel)) (goodIn_sub (fun _ h => List.mem_cons_of_mem _ (List.mem_append_right _ h)) (by decide +kernel))
set_option maxRecDepth 20000 in
theorem gX8_writtenSign_X0_signAt : GoodIn wsX8_writtenSign (wsV RX8 268 RX0 yX0_signAt wsX0_signAt) := goodIn_app (goodIn_of _ (by decide +kernel)) ggX8_writtenSign_X0_signAt
theorem dX8_writtenSign_0 : decode cX8_writtenSign 0 = .ok (.iload_n 1, 1) := by decide +kernel
theorem dX8_writtenSign_1 : decode cX8_writtenSign 1 = .ok (.ifCond .lt 14, 3) := by decide +kernel
theorem dX8_writtenSign_4 : decode cX8_writtenSign 4 = .ok (.iload_n 1, 1) := by decide +kernel
theorem dX8_writtenSign_5 : decode cX8_writtenSign 5 = .ok (.aload_n 0, 1) := by decide +kernel
theorem dX8_writtenSign_6 : decode cX8_writtenSign 6 = .ok (.getfield 37, 3) := by decide +kernel
theorem dX8_writtenSign_9 : decode cX8_writtenSign 9 = .ok (.invokevirtual 198, 3) := by decide +kernel
theorem dX8_writtenSign_12 : decode cX8_writtenSign 12 = .ok (.if_icmp .lt 11, 3) := by decide +kernel
theorem dX8_writtenSign_15 : decode cX8_writtenSign 15 = .ok (.new 162, 3) := by decide +kernel
theorem dX8_writtenSign_18 : decode cX8_writtenSign 18 = .ok (.dup, 1) := by decide +kernel
theorem dX8_writtenSign_19 : decode cX8_writtenSign 19 = .ok (.invokespecial 164, 3) := by decide +kernel
theorem dX8_writtenSign_22 : decode cX8_writtenSign 22 = .ok (.athrow, 1) := by decide +kernel
theorem dX8_writtenSign_23 : decode cX8_writtenSign 23 = .ok (.aload_n 0, 1) := by decide +kernel
theorem dX8_writtenSign_24 : decode cX8_writtenSign 24 = .ok (.getfield 37, 3) := by decide +kernel
theorem dX8_writtenSign_27 : decode cX8_writtenSign 27 = .ok (.iload_n 1, 1) := by decide +kernel
theorem dX8_writtenSign_28 : decode cX8_writtenSign 28 = .ok (.invokevirtual 268, 3) := by decide +kernel
theorem dX8_writtenSign_31 : decode cX8_writtenSign 31 = .ok (.ireturn, 1) := by decide +kernel
set_option maxRecDepth 20000 in
theorem ggX8_kindOf_X5_isPlain : GoodIn wsX8_kindOf wsX5_isPlain := goodIn_ca (goodIn_r _ [7, 8, 9, 10, 11, 12, 13, 14, 28, 29, 30, 31, 32, 33] (by decide +kernel) (by decide +kernel)) (goodIn_sub (fun _ h => List.mem_cons_of_mem _ (List.mem_append_right _ h)) (by decide +kernel))
set_option maxRecDepth 20000 in
theorem gX8_kindOf_X5_isPlain : GoodIn wsX8_kindOf (wsV RX8 154 RX5 yX5_isPlain wsX5_isPlain) := goodIn_app (goodIn_of _ (by decide +kernel)) ggX8_kindOf_X5_isPlain
set_option maxRecDepth 20000 in
theorem ggX8_kindOf_X3_isFixed : GoodIn wsX8_kindOf wsX3_isFixed := goodIn_ca (goodIn_r _ [19, 20, 21, 10, 11, 12, 13, 14, 34, 35, 36, 37, 38, 39, 40, 41, 42, 43, 44, 45, 46, 33] (by decide +kernel) (by decide +kernel)) (goodIn_sub (fun _ h => List.mem_cons_of_mem _ (List.mem_append_right _ h)) (by decide +kernel))
set_option maxRecDepth 20000 in
theorem gX8_kindOf_X3_isFixed : GoodIn wsX8_kindOf (wsV RX8 83 RX3 yX3_isFixed wsX3_isFixed) := goodIn_app (goodIn_of _ (by decide +kernel)) ggX8_kindOf_X3_isFixed
theorem dX8_kindOf_0 : decode cX8_kindOf 0 = .ok (.aload_n 0, 1) := by decide +kernel
theorem dX8_kindOf_1 : decode cX8_kindOf 1 = .ok (.getfield 10, 3) := by decide +kernel
theorem dX8_kindOf_4 : decode cX8_kindOf 4 = .ok (.iload_n 1, 1) := by decide +kernel
theorem dX8_kindOf_5 : decode cX8_kindOf 5 = .ok (.invokevirtual 154, 3) := by decide +kernel
theorem dX8_kindOf_8 : decode cX8_kindOf 8 = .ok (.ifCond .eq 6, 3) := by decide +kernel
theorem dX8_kindOf_11 : decode cX8_kindOf 11 = .ok (.bipush 112, 2) := by decide +kernel
theorem dX8_kindOf_13 : decode cX8_kindOf 13 = .ok (.ireturn, 1) := by decide +kernel
theorem dX8_kindOf_14 : decode cX8_kindOf 14 = .ok (.aload_n 0, 1) := by decide +kernel
theorem dX8_kindOf_15 : decode cX8_kindOf 15 = .ok (.getfield 28, 3) := by decide +kernel
theorem dX8_kindOf_18 : decode cX8_kindOf 18 = .ok (.iload_n 1, 1) := by decide +kernel
theorem dX8_kindOf_19 : decode cX8_kindOf 19 = .ok (.invokevirtual 83, 3) := by decide +kernel
theorem dX8_kindOf_22 : decode cX8_kindOf 22 = .ok (.ifCond .eq 8, 3) := by decide +kernel
theorem dX8_kindOf_25 : decode cX8_kindOf 25 = .ok (.bipush 102, 2) := by decide +kernel
theorem dX8_kindOf_27 : decode cX8_kindOf 27 = .ok (.goto 5, 3) := by decide +kernel
theorem dX8_kindOf_30 : decode cX8_kindOf 30 = .ok (.bipush 111, 2) := by decide +kernel
theorem dX8_kindOf_32 : decode cX8_kindOf 32 = .ok (.ireturn, 1) := by decide +kernel
set_option maxRecDepth 20000 in
theorem ggX8_kindAmount_X5_amount : GoodIn wsX8_kindAmount wsX5_amount := goodIn_r _ [6, 7, 43, 44, 45, 46, 47] (by decide +kernel) (by decide +kernel)
set_option maxRecDepth 20000 in
theorem gX8_kindAmount_X5_amount : GoodIn wsX8_kindAmount (wsV RX8 48 RX5 yX5_amount wsX5_amount) := goodIn_app (goodIn_of _ (by decide +kernel)) ggX8_kindAmount_X5_amount
set_option maxRecDepth 20000 in
theorem ggX8_kindAmount_X5_nameAt : GoodIn wsX8_kindAmount wsX5_nameAt := goodIn_ca (goodIn_r _ [11, 12, 13, 14, 15, 16, 17, 18, 43, 44, 45, 46, 47, 48] (by decide +kernel) (by decide +kernel)) (goodIn_sub (fun _ h => List.mem_cons_of_mem _ (List.mem_append_right _ h)) (by decide +kernel))
set_option maxRecDepth 20000 in
theorem gX8_kindAmount_X5_nameAt : GoodIn wsX8_kindAmount (wsV RX8 165 RX5 yX5_nameAt wsX5_nameAt) := goodIn_app (goodIn_of _ (by decide +kernel)) ggX8_kindAmount_X5_nameAt
set_option maxRecDepth 20000 in
theorem ggX8_kindAmount_X8_kindOf : GoodIn wsX8_kindAmount wsX8_kindOf := goodIn_ca (goodIn_r _ [23, 1, 24, 25, 26, 27, 5, 28, 29, 13, 14, 15, 16, 17, 18, 30, 31, 32, 33, 34, 35, 36, 37, 38, 39, 40, 41, 42, 43, 44, 45, 46, 47, 48, 49, 50, 51, 52, 53, 54, 55, 56, 57, 58, 59, 60, 61] (by decide +kernel) (by decide +kernel)) (goodIn_sub (fun _ h => List.mem_cons_of_mem _ (List.mem_append_right _ h)) (by decide +kernel))
set_option maxRecDepth 20000 in
theorem gX8_kindAmount_X8_kindOf : GoodIn wsX8_kindAmount (wsV RX8 271 RX8 yX8_kindOf wsX8_kindOf) := goodIn_app (goodIn_of _ (by decide +kernel)) ggX8_kindAmount_X8_kindOf
theorem dX8_kindAmount_0 : decode cX8_kindAmount 0 = .ok (.iconst 0, 1) := by decide +kernel
theorem dX8_kindAmount_1 : decode cX8_kindAmount 1 = .ok (.istore_n 2, 1) := by decide +kernel
theorem dX8_kindAmount_2 : decode cX8_kindAmount 2 = .ok (.iconst 0, 1) := by decide +kernel
theorem dX8_kindAmount_3 : decode cX8_kindAmount 3 = .ok (.istore_n 3, 1) := by decide +kernel
theorem dX8_kindAmount_4 : decode cX8_kindAmount 4 = .ok (.iload_n 3, 1) := by decide +kernel
theorem dX8_kindAmount_5 : decode cX8_kindAmount 5 = .ok (.aload_n 0, 1) := by decide +kernel
theorem dX8_kindAmount_6 : decode cX8_kindAmount 6 = .ok (.getfield 10, 3) := by decide +kernel
theorem dX8_kindAmount_9 : decode cX8_kindAmount 9 = .ok (.invokevirtual 48, 3) := by decide +kernel
theorem dX8_kindAmount_12 : decode cX8_kindAmount 12 = .ok (.if_icmp .ge 28, 3) := by decide +kernel
theorem dX8_kindAmount_15 : decode cX8_kindAmount 15 = .ok (.aload_n 0, 1) := by decide +kernel
theorem dX8_kindAmount_16 : decode cX8_kindAmount 16 = .ok (.aload_n 0, 1) := by decide +kernel
theorem dX8_kindAmount_17 : decode cX8_kindAmount 17 = .ok (.getfield 10, 3) := by decide +kernel
theorem dX8_kindAmount_20 : decode cX8_kindAmount 20 = .ok (.iload_n 3, 1) := by decide +kernel
theorem dX8_kindAmount_21 : decode cX8_kindAmount 21 = .ok (.invokevirtual 165, 3) := by decide +kernel
theorem dX8_kindAmount_24 : decode cX8_kindAmount 24 = .ok (.invokevirtual 271, 3) := by decide +kernel
theorem dX8_kindAmount_27 : decode cX8_kindAmount 27 = .ok (.iload_n 1, 1) := by decide +kernel
theorem dX8_kindAmount_28 : decode cX8_kindAmount 28 = .ok (.if_icmp .ne 6, 3) := by decide +kernel
theorem dX8_kindAmount_31 : decode cX8_kindAmount 31 = .ok (.iinc 2 1, 3) := by decide +kernel
theorem dX8_kindAmount_34 : decode cX8_kindAmount 34 = .ok (.iinc 3 1, 3) := by decide +kernel
theorem dX8_kindAmount_37 : decode cX8_kindAmount 37 = .ok (.goto (-33), 3) := by decide +kernel
theorem dX8_kindAmount_40 : decode cX8_kindAmount 40 = .ok (.iload_n 2, 1) := by decide +kernel
theorem dX8_kindAmount_41 : decode cX8_kindAmount 41 = .ok (.ireturn, 1) := by decide +kernel
set_option maxRecDepth 20000 in
theorem ggX8_numberedAmount_X5_amount : GoodIn wsX8_numberedAmount wsX5_amount := goodIn_r _ [6, 7, 47, 48, 49, 50, 51] (by decide +kernel) (by decide +kernel)
set_option maxRecDepth 20000 in
theorem gX8_numberedAmount_X5_amount : GoodIn wsX8_numberedAmount (wsV RX8 48 RX5 yX5_amount wsX5_amount) := goodIn_app (goodIn_of _ (by decide +kernel)) ggX8_numberedAmount_X5_amount
set_option maxRecDepth 20000 in
theorem ggX8_numberedAmount_X8_kindAmount : GoodIn wsX8_numberedAmount wsX8_kindAmount := goodIn_ca (goodIn_r _ [12, 1, 2, 3, 4, 5, 6, 7, 13, 14, 15, 16, 17, 18, 19, 20, 21, 22, 23, 24, 25, 26, 11, 27, 28, 29, 30, 31, 32, 33, 34, 35, 36, 37, 38, 39, 40, 41, 42, 43, 44, 45, 46, 47, 48, 49, 50, 51, 52, 53, 54, 55, 56, 57, 58, 59, 60, 61, 62, 63, 64, 65] (by decide +kernel) (by decide +kernel)) (goodIn_sub (fun _ h => List.mem_cons_of_mem _ (List.mem_append_right _ h)) (by decide +kernel))
set_option maxRecDepth 20000 in
theorem gX8_numberedAmount_X8_kindAmount : GoodIn wsX8_numberedAmount (wsV RX8 228 RX8 yX8_kindAmount wsX8_kindAmount) := goodIn_app (goodIn_of _ (by decide +kernel)) ggX8_numberedAmount_X8_kindAmount
theorem dX8_numberedAmount_0 : decode cX8_numberedAmount 0 = .ok (.aload_n 0, 1) := by decide +kernel
theorem dX8_numberedAmount_1 : decode cX8_numberedAmount 1 = .ok (.getfield 10, 3) := by decide +kernel
theorem dX8_numberedAmount_4 : decode cX8_numberedAmount 4 = .ok (.invokevirtual 48, 3) := by decide +kernel
theorem dX8_numberedAmount_7 : decode cX8_numberedAmount 7 = .ok (.aload_n 0, 1) := by decide +kernel
theorem dX8_numberedAmount_8 : decode cX8_numberedAmount 8 = .ok (.bipush 112, 2) := by decide +kernel
theorem dX8_numberedAmount_10 : decode cX8_numberedAmount 10 = .ok (.invokevirtual 228, 3) := by decide +kernel
theorem dX8_numberedAmount_13 : decode cX8_numberedAmount 13 = .ok (.isub, 1) := by decide +kernel
theorem dX8_numberedAmount_14 : decode cX8_numberedAmount 14 = .ok (.ireturn, 1) := by decide +kernel
set_option maxRecDepth 20000 in
theorem ggX8_levelAmount_X5_amount : GoodIn wsX8_levelAmount wsX5_amount := goodIn_r _ [6, 7, 30, 31, 32, 33, 34] (by decide +kernel) (by decide +kernel)
set_option maxRecDepth 20000 in
theorem gX8_levelAmount_X5_amount : GoodIn wsX8_levelAmount (wsV RX8 48 RX5 yX5_amount wsX5_amount) := goodIn_app (goodIn_of _ (by decide +kernel)) ggX8_levelAmount_X5_amount
set_option maxRecDepth 20000 in
theorem ggX8_levelAmount_X5_nameAt : GoodIn wsX8_levelAmount wsX5_nameAt := goodIn_ca (goodIn_r _ [11, 12, 13, 14, 15, 16, 17, 18, 30, 31, 32, 33, 34, 35] (by decide +kernel) (by decide +kernel)) (goodIn_sub (fun _ h => List.mem_cons_of_mem _ (List.mem_append_right _ h)) (by decide +kernel))
set_option maxRecDepth 20000 in
theorem gX8_levelAmount_X5_nameAt : GoodIn wsX8_levelAmount (wsV RX8 165 RX5 yX5_nameAt wsX5_nameAt) := goodIn_app (goodIn_of _ (by decide +kernel)) ggX8_levelAmount_X5_nameAt
set_option maxRecDepth 20000 in
theorem ggX8_levelAmount_X5_level : GoodIn wsX8_levelAmount wsX5_level := goodIn_ca (goodIn_r _ [22, 23, 13, 14, 15, 16, 17, 18, 30, 31, 32, 33, 34, 35] (by decide +kernel) (by decide +kernel)) (goodIn_sub (fun _ h => List.mem_cons_of_mem _ (List.mem_append_right _ h)) (by decide +kernel))
set_option maxRecDepth 20000 in
theorem gX8_levelAmount_X5_level : GoodIn wsX8_levelAmount (wsV RX8 95 RX5 yX5_level wsX5_level) := goodIn_app (goodIn_of _ (by decide +kernel)) ggX8_levelAmount_X5_level
theorem dX8_levelAmount_0 : decode cX8_levelAmount 0 = .ok (.iconst 0, 1) := by decide +kernel
theorem dX8_levelAmount_1 : decode cX8_levelAmount 1 = .ok (.istore_n 2, 1) := by decide +kernel
theorem dX8_levelAmount_2 : decode cX8_levelAmount 2 = .ok (.iconst 0, 1) := by decide +kernel
theorem dX8_levelAmount_3 : decode cX8_levelAmount 3 = .ok (.istore_n 3, 1) := by decide +kernel
theorem dX8_levelAmount_4 : decode cX8_levelAmount 4 = .ok (.iload_n 3, 1) := by decide +kernel
theorem dX8_levelAmount_5 : decode cX8_levelAmount 5 = .ok (.aload_n 0, 1) := by decide +kernel
theorem dX8_levelAmount_6 : decode cX8_levelAmount 6 = .ok (.getfield 10, 3) := by decide +kernel
theorem dX8_levelAmount_9 : decode cX8_levelAmount 9 = .ok (.invokevirtual 48, 3) := by decide +kernel
theorem dX8_levelAmount_12 : decode cX8_levelAmount 12 = .ok (.if_icmp .ge 31, 3) := by decide +kernel
theorem dX8_levelAmount_15 : decode cX8_levelAmount 15 = .ok (.aload_n 0, 1) := by decide +kernel
theorem dX8_levelAmount_16 : decode cX8_levelAmount 16 = .ok (.getfield 10, 3) := by decide +kernel
theorem dX8_levelAmount_19 : decode cX8_levelAmount 19 = .ok (.aload_n 0, 1) := by decide +kernel
theorem dX8_levelAmount_20 : decode cX8_levelAmount 20 = .ok (.getfield 10, 3) := by decide +kernel
theorem dX8_levelAmount_23 : decode cX8_levelAmount 23 = .ok (.iload_n 3, 1) := by decide +kernel
theorem dX8_levelAmount_24 : decode cX8_levelAmount 24 = .ok (.invokevirtual 165, 3) := by decide +kernel
theorem dX8_levelAmount_27 : decode cX8_levelAmount 27 = .ok (.invokevirtual 95, 3) := by decide +kernel
theorem dX8_levelAmount_30 : decode cX8_levelAmount 30 = .ok (.iload_n 1, 1) := by decide +kernel
theorem dX8_levelAmount_31 : decode cX8_levelAmount 31 = .ok (.if_icmp .ne 6, 3) := by decide +kernel
theorem dX8_levelAmount_34 : decode cX8_levelAmount 34 = .ok (.iinc 2 1, 3) := by decide +kernel
theorem dX8_levelAmount_37 : decode cX8_levelAmount 37 = .ok (.iinc 3 1, 3) := by decide +kernel
theorem dX8_levelAmount_40 : decode cX8_levelAmount 40 = .ok (.goto (-36), 3) := by decide +kernel
theorem dX8_levelAmount_43 : decode cX8_levelAmount 43 = .ok (.iload_n 2, 1) := by decide +kernel
theorem dX8_levelAmount_44 : decode cX8_levelAmount 44 = .ok (.ireturn, 1) := by decide +kernel
set_option maxRecDepth 20000 in
theorem ggX8_levelTotal_X5_amount : GoodIn wsX8_levelTotal wsX5_amount := goodIn_r _ [7, 8, 38, 39, 40, 41, 42] (by decide +kernel) (by decide +kernel)
set_option maxRecDepth 20000 in
theorem gX8_levelTotal_X5_amount : GoodIn wsX8_levelTotal (wsV RX8 48 RX5 yX5_amount wsX5_amount) := goodIn_app (goodIn_of _ (by decide +kernel)) ggX8_levelTotal_X5_amount
set_option maxRecDepth 20000 in
theorem ggX8_levelTotal_X5_nameAt : GoodIn wsX8_levelTotal wsX5_nameAt := goodIn_ca (goodIn_r _ [12, 13, 14, 15, 16, 17, 18, 19, 38, 39, 40, 41, 42, 43] (by decide +kernel) (by decide +kernel)) (goodIn_sub (fun _ h => List.mem_cons_of_mem _ (List.mem_append_right _ h)) (by decide +kernel))
set_option maxRecDepth 20000 in
theorem gX8_levelTotal_X5_nameAt : GoodIn wsX8_levelTotal (wsV RX8 165 RX5 yX5_nameAt wsX5_nameAt) := goodIn_app (goodIn_of _ (by decide +kernel)) ggX8_levelTotal_X5_nameAt
set_option maxRecDepth 20000 in
theorem ggX8_levelTotal_X5_level : GoodIn wsX8_levelTotal wsX5_level := goodIn_ca (goodIn_r _ [23, 24, 14, 15, 16, 17, 18, 19, 38, 39, 40, 41, 42, 43] (by decide +kernel) (by decide +kernel)) (goodIn_sub (fun _ h => List.mem_cons_of_mem _ (List.mem_append_right _ h)) (by decide +kernel))
set_option maxRecDepth 20000 in
theorem gX8_levelTotal_X5_level : GoodIn wsX8_levelTotal (wsV RX8 95 RX5 yX5_level wsX5_level) := goodIn_app (goodIn_of _ (by decide +kernel)) ggX8_levelTotal_X5_level
set_option maxRecDepth 20000 in
theorem ggX8_levelTotal_X3_number : GoodIn wsX8_levelTotal wsX3_number := goodIn_ca (goodIn_r _ [29, 30, 31, 15, 16, 17, 18, 19, 44, 45, 46, 47, 48, 49, 50, 51, 52, 53, 54, 55, 56, 43] (by decide +kernel) (by decide +kernel)) (goodIn_sub (fun _ h => List.mem_cons_of_mem _ (List.mem_append_right _ h)) (by decide +kernel))
set_option maxRecDepth 20000 in
theorem gX8_levelTotal_X3_number : GoodIn wsX8_levelTotal (wsV RX8 177 RX3 yX3_number wsX3_number) := goodIn_app (goodIn_of _ (by decide +kernel)) ggX8_levelTotal_X3_number
theorem dX8_levelTotal_0 : decode cX8_levelTotal 0 = .ok (.lconst 0, 1) := by decide +kernel
theorem dX8_levelTotal_1 : decode cX8_levelTotal 1 = .ok (.lstore_n 2, 1) := by decide +kernel
theorem dX8_levelTotal_2 : decode cX8_levelTotal 2 = .ok (.iconst 0, 1) := by decide +kernel
theorem dX8_levelTotal_3 : decode cX8_levelTotal 3 = .ok (.istore 4, 2) := by decide +kernel
theorem dX8_levelTotal_5 : decode cX8_levelTotal 5 = .ok (.iload 4, 2) := by decide +kernel
theorem dX8_levelTotal_7 : decode cX8_levelTotal 7 = .ok (.aload_n 0, 1) := by decide +kernel
theorem dX8_levelTotal_8 : decode cX8_levelTotal 8 = .ok (.getfield 10, 3) := by decide +kernel
theorem dX8_levelTotal_11 : decode cX8_levelTotal 11 = .ok (.invokevirtual 48, 3) := by decide +kernel
theorem dX8_levelTotal_14 : decode cX8_levelTotal 14 = .ok (.if_icmp .ge 46, 3) := by decide +kernel
theorem dX8_levelTotal_17 : decode cX8_levelTotal 17 = .ok (.aload_n 0, 1) := by decide +kernel
theorem dX8_levelTotal_18 : decode cX8_levelTotal 18 = .ok (.getfield 10, 3) := by decide +kernel
theorem dX8_levelTotal_21 : decode cX8_levelTotal 21 = .ok (.iload 4, 2) := by decide +kernel
theorem dX8_levelTotal_23 : decode cX8_levelTotal 23 = .ok (.invokevirtual 165, 3) := by decide +kernel
theorem dX8_levelTotal_26 : decode cX8_levelTotal 26 = .ok (.istore 5, 2) := by decide +kernel
theorem dX8_levelTotal_28 : decode cX8_levelTotal 28 = .ok (.aload_n 0, 1) := by decide +kernel
theorem dX8_levelTotal_29 : decode cX8_levelTotal 29 = .ok (.getfield 10, 3) := by decide +kernel
theorem dX8_levelTotal_32 : decode cX8_levelTotal 32 = .ok (.iload 5, 2) := by decide +kernel
theorem dX8_levelTotal_34 : decode cX8_levelTotal 34 = .ok (.invokevirtual 95, 3) := by decide +kernel
theorem dX8_levelTotal_37 : decode cX8_levelTotal 37 = .ok (.iload_n 1, 1) := by decide +kernel
theorem dX8_levelTotal_38 : decode cX8_levelTotal 38 = .ok (.if_icmp .ne 16, 3) := by decide +kernel
theorem dX8_levelTotal_41 : decode cX8_levelTotal 41 = .ok (.lload_n 2, 1) := by decide +kernel
theorem dX8_levelTotal_42 : decode cX8_levelTotal 42 = .ok (.aload_n 0, 1) := by decide +kernel
theorem dX8_levelTotal_43 : decode cX8_levelTotal 43 = .ok (.getfield 28, 3) := by decide +kernel
theorem dX8_levelTotal_46 : decode cX8_levelTotal 46 = .ok (.iload 5, 2) := by decide +kernel
theorem dX8_levelTotal_48 : decode cX8_levelTotal 48 = .ok (.invokevirtual 177, 3) := by decide +kernel
theorem dX8_levelTotal_51 : decode cX8_levelTotal 51 = .ok (.i2l, 1) := by decide +kernel
theorem dX8_levelTotal_52 : decode cX8_levelTotal 52 = .ok (.ladd, 1) := by decide +kernel
theorem dX8_levelTotal_53 : decode cX8_levelTotal 53 = .ok (.lstore_n 2, 1) := by decide +kernel
theorem dX8_levelTotal_54 : decode cX8_levelTotal 54 = .ok (.iinc 4 1, 3) := by decide +kernel
theorem dX8_levelTotal_57 : decode cX8_levelTotal 57 = .ok (.goto (-52), 3) := by decide +kernel
theorem dX8_levelTotal_60 : decode cX8_levelTotal 60 = .ok (.lload_n 2, 1) := by decide +kernel
theorem dX8_levelTotal_61 : decode cX8_levelTotal 61 = .ok (.lreturn, 1) := by decide +kernel
set_option maxRecDepth 20000 in
theorem ggX8_exactShare_X8_numberedAmount : GoodIn wsX8_exactShare wsX8_numberedAmount := goodIn_ca (goodIn_r _ [5, 6, 7, 8, 9, 10, 11, 12, 13, 14, 15, 4, 16, 17, 18, 19, 20, 21, 22, 23, 24, 25, 26, 27, 28, 29, 30, 31, 32, 33, 34, 35, 36, 37, 38, 39, 40, 41, 42, 43, 44, 45, 46, 47, 48, 49, 50, 51, 52, 53, 54, 55, 56, 57, 58, 59, 60, 61, 62, 63, 64, 65, 66, 67, 68, 69] (by decide +kernel) (by decide +kernel)) (goodIn_sub (fun _ h => List.mem_cons_of_mem _ (List.mem_append_right _ h)) (by decide +kernel))
set_option maxRecDepth 20000 in
theorem gX8_exactShare_X8_numberedAmount : GoodIn wsX8_exactShare (wsV RX8 259 RX8 yX8_numberedAmount wsX8_numberedAmount) := goodIn_app (goodIn_of _ (by decide +kernel)) ggX8_exactShare_X8_numberedAmount
set_option maxRecDepth 20000 in
theorem ggX8_exactShare_X8_kindAmount : GoodIn wsX8_exactShare wsX8_kindAmount := goodIn_ca (goodIn_r _ [16, 6, 7, 8, 9, 10, 11, 12, 17, 18, 19, 20, 21, 22, 23, 24, 25, 26, 27, 28, 29, 30, 4, 31, 32, 33, 34, 35, 36, 37, 38, 39, 40, 41, 42, 43, 44, 45, 46, 47, 48, 49, 50, 51, 52, 53, 54, 55, 56, 57, 58, 59, 60, 61, 62, 63, 64, 65, 66, 67, 68, 69] (by decide +kernel) (by decide +kernel)) (goodIn_sub (fun _ h => List.mem_cons_of_mem _ (List.mem_append_right _ h)) (by decide +kernel))
set_option maxRecDepth 20000 in
theorem gX8_exactShare_X8_kindAmount : GoodIn wsX8_exactShare (wsV RX8 228 RX8 yX8_kindAmount wsX8_kindAmount) := goodIn_app (goodIn_of _ (by decide +kernel)) ggX8_exactShare_X8_kindAmount
theorem dX8_exactShare_0 : decode cX8_exactShare 0 = .ok (.aload_n 0, 1) := by decide +kernel
theorem dX8_exactShare_1 : decode cX8_exactShare 1 = .ok (.invokevirtual 259, 3) := by decide +kernel
theorem dX8_exactShare_4 : decode cX8_exactShare 4 = .ok (.istore_n 1, 1) := by decide +kernel
theorem dX8_exactShare_5 : decode cX8_exactShare 5 = .ok (.iload_n 1, 1) := by decide +kernel
theorem dX8_exactShare_6 : decode cX8_exactShare 6 = .ok (.ifCond .ne 7, 3) := by decide +kernel
theorem dX8_exactShare_9 : decode cX8_exactShare 9 = .ok (.fconst 0, 1) := by decide +kernel
theorem dX8_exactShare_10 : decode cX8_exactShare 10 = .ok (.goto 13, 3) := by decide +kernel
theorem dX8_exactShare_13 : decode cX8_exactShare 13 = .ok (.aload_n 0, 1) := by decide +kernel
theorem dX8_exactShare_14 : decode cX8_exactShare 14 = .ok (.bipush 102, 2) := by decide +kernel
theorem dX8_exactShare_16 : decode cX8_exactShare 16 = .ok (.invokevirtual 228, 3) := by decide +kernel
theorem dX8_exactShare_19 : decode cX8_exactShare 19 = .ok (.i2f, 1) := by decide +kernel
theorem dX8_exactShare_20 : decode cX8_exactShare 20 = .ok (.iload_n 1, 1) := by decide +kernel
theorem dX8_exactShare_21 : decode cX8_exactShare 21 = .ok (.i2f, 1) := by decide +kernel
theorem dX8_exactShare_22 : decode cX8_exactShare 22 = .ok (.fdiv, 1) := by decide +kernel
theorem dX8_exactShare_23 : decode cX8_exactShare 23 = .ok (.freturn, 1) := by decide +kernel
theorem dX8_bitsOfShare_0 : decode cX8_bitsOfShare 0 = .ok (.fload_n 0, 1) := by decide +kernel
theorem dX8_bitsOfShare_1 : decode cX8_bitsOfShare 1 = .ok (.fconst 0, 1) := by decide +kernel
theorem dX8_bitsOfShare_2 : decode cX8_bitsOfShare 2 = .ok (.fcmp .g, 1) := by decide +kernel
theorem dX8_bitsOfShare_3 : decode cX8_bitsOfShare 3 = .ok (.ifCond .gt 5, 3) := by decide +kernel
theorem dX8_bitsOfShare_6 : decode cX8_bitsOfShare 6 = .ok (.iconst 0, 1) := by decide +kernel
theorem dX8_bitsOfShare_7 : decode cX8_bitsOfShare 7 = .ok (.ireturn, 1) := by decide +kernel
theorem dX8_bitsOfShare_8 : decode cX8_bitsOfShare 8 = .ok (.fload_n 0, 1) := by decide +kernel
theorem dX8_bitsOfShare_9 : decode cX8_bitsOfShare 9 = .ok (.fstore_n 1, 1) := by decide +kernel
theorem dX8_bitsOfShare_10 : decode cX8_bitsOfShare 10 = .ok (.bipush 127, 2) := by decide +kernel
theorem dX8_bitsOfShare_12 : decode cX8_bitsOfShare 12 = .ok (.istore_n 2, 1) := by decide +kernel
theorem dX8_bitsOfShare_13 : decode cX8_bitsOfShare 13 = .ok (.iconst 0, 1) := by decide +kernel
theorem dX8_bitsOfShare_14 : decode cX8_bitsOfShare 14 = .ok (.istore_n 3, 1) := by decide +kernel
theorem dX8_bitsOfShare_15 : decode cX8_bitsOfShare 15 = .ok (.iload_n 3, 1) := by decide +kernel
theorem dX8_bitsOfShare_16 : decode cX8_bitsOfShare 16 = .ok (.bipush 126, 2) := by decide +kernel
theorem dX8_bitsOfShare_18 : decode cX8_bitsOfShare 18 = .ok (.if_icmp .ge 22, 3) := by decide +kernel
theorem dX8_bitsOfShare_21 : decode cX8_bitsOfShare 21 = .ok (.fload_n 1, 1) := by decide +kernel
theorem dX8_bitsOfShare_22 : decode cX8_bitsOfShare 22 = .ok (.fconst 1, 1) := by decide +kernel
theorem dX8_bitsOfShare_23 : decode cX8_bitsOfShare 23 = .ok (.fcmp .g, 1) := by decide +kernel
theorem dX8_bitsOfShare_24 : decode cX8_bitsOfShare 24 = .ok (.ifCond .ge 16, 3) := by decide +kernel
theorem dX8_bitsOfShare_27 : decode cX8_bitsOfShare 27 = .ok (.fload_n 1, 1) := by decide +kernel
theorem dX8_bitsOfShare_28 : decode cX8_bitsOfShare 28 = .ok (.fconst 2, 1) := by decide +kernel
theorem dX8_bitsOfShare_29 : decode cX8_bitsOfShare 29 = .ok (.fmul, 1) := by decide +kernel
theorem dX8_bitsOfShare_30 : decode cX8_bitsOfShare 30 = .ok (.fstore_n 1, 1) := by decide +kernel
theorem dX8_bitsOfShare_31 : decode cX8_bitsOfShare 31 = .ok (.iinc 2 (-1), 3) := by decide +kernel
theorem dX8_bitsOfShare_34 : decode cX8_bitsOfShare 34 = .ok (.iinc 3 1, 3) := by decide +kernel
theorem dX8_bitsOfShare_37 : decode cX8_bitsOfShare 37 = .ok (.goto (-22), 3) := by decide +kernel
theorem dX8_bitsOfShare_40 : decode cX8_bitsOfShare 40 = .ok (.fload_n 1, 1) := by decide +kernel
theorem dX8_bitsOfShare_41 : decode cX8_bitsOfShare 41 = .ok (.fconst 1, 1) := by decide +kernel
theorem dX8_bitsOfShare_42 : decode cX8_bitsOfShare 42 = .ok (.fsub, 1) := by decide +kernel
theorem dX8_bitsOfShare_43 : decode cX8_bitsOfShare 43 = .ok (.ldc_w 274, 3) := by decide +kernel
theorem dX8_bitsOfShare_46 : decode cX8_bitsOfShare 46 = .ok (.fmul, 1) := by decide +kernel
theorem dX8_bitsOfShare_47 : decode cX8_bitsOfShare 47 = .ok (.f2i, 1) := by decide +kernel
theorem dX8_bitsOfShare_48 : decode cX8_bitsOfShare 48 = .ok (.istore_n 3, 1) := by decide +kernel
theorem dX8_bitsOfShare_49 : decode cX8_bitsOfShare 49 = .ok (.iload_n 2, 1) := by decide +kernel
theorem dX8_bitsOfShare_50 : decode cX8_bitsOfShare 50 = .ok (.bipush 23, 2) := by decide +kernel
theorem dX8_bitsOfShare_52 : decode cX8_bitsOfShare 52 = .ok (.ishl, 1) := by decide +kernel
theorem dX8_bitsOfShare_53 : decode cX8_bitsOfShare 53 = .ok (.iload_n 3, 1) := by decide +kernel
theorem dX8_bitsOfShare_54 : decode cX8_bitsOfShare 54 = .ok (.ior, 1) := by decide +kernel
theorem dX8_bitsOfShare_55 : decode cX8_bitsOfShare 55 = .ok (.ireturn, 1) := by decide +kernel
theorem dX9_init_0 : decode cX9_init 0 = .ok (.aload_n 0, 1) := by decide +kernel
theorem dX9_init_1 : decode cX9_init 1 = .ok (.invokespecial 1, 3) := by decide +kernel
theorem dX9_init_4 : decode cX9_init 4 = .ok (.aload_n 0, 1) := by decide +kernel
theorem dX9_init_5 : decode cX9_init 5 = .ok (.bipush 60, 2) := by decide +kernel
theorem dX9_init_7 : decode cX9_init 7 = .ok (.newarray .int, 2) := by decide +kernel
theorem dX9_init_9 : decode cX9_init 9 = .ok (.putfield 9, 3) := by decide +kernel
theorem dX9_init_12 : decode cX9_init 12 = .ok (.aload_n 0, 1) := by decide +kernel
theorem dX9_init_13 : decode cX9_init 13 = .ok (.bipush 60, 2) := by decide +kernel
theorem dX9_init_15 : decode cX9_init 15 = .ok (.newarray .int, 2) := by decide +kernel
theorem dX9_init_17 : decode cX9_init 17 = .ok (.putfield 13, 3) := by decide +kernel
theorem dX9_init_20 : decode cX9_init 20 = .ok (.aload_n 0, 1) := by decide +kernel
theorem dX9_init_21 : decode cX9_init 21 = .ok (.bipush 60, 2) := by decide +kernel
theorem dX9_init_23 : decode cX9_init 23 = .ok (.newarray .int, 2) := by decide +kernel
theorem dX9_init_25 : decode cX9_init 25 = .ok (.putfield 16, 3) := by decide +kernel
theorem dX9_init_28 : decode cX9_init 28 = .ok (.aload_n 0, 1) := by decide +kernel
theorem dX9_init_29 : decode cX9_init 29 = .ok (.bipush 60, 2) := by decide +kernel
theorem dX9_init_31 : decode cX9_init 31 = .ok (.newarray .int, 2) := by decide +kernel
theorem dX9_init_33 : decode cX9_init 33 = .ok (.putfield 19, 3) := by decide +kernel
theorem dX9_init_36 : decode cX9_init 36 = .ok (.aload_n 0, 1) := by decide +kernel
theorem dX9_init_37 : decode cX9_init 37 = .ok (.bipush 60, 2) := by decide +kernel
theorem dX9_init_39 : decode cX9_init 39 = .ok (.newarray .int, 2) := by decide +kernel
theorem dX9_init_41 : decode cX9_init 41 = .ok (.putfield 22, 3) := by decide +kernel
theorem dX9_init_44 : decode cX9_init 44 = .ok (.aload_n 0, 1) := by decide +kernel
theorem dX9_init_45 : decode cX9_init 45 = .ok (.bipush 60, 2) := by decide +kernel
theorem dX9_init_47 : decode cX9_init 47 = .ok (.newarray .int, 2) := by decide +kernel
theorem dX9_init_49 : decode cX9_init 49 = .ok (.putfield 25, 3) := by decide +kernel
theorem dX9_init_52 : decode cX9_init 52 = .ok (.aload_n 0, 1) := by decide +kernel
theorem dX9_init_53 : decode cX9_init 53 = .ok (.bipush 60, 2) := by decide +kernel
theorem dX9_init_55 : decode cX9_init 55 = .ok (.newarray .int, 2) := by decide +kernel
theorem dX9_init_57 : decode cX9_init 57 = .ok (.putfield 28, 3) := by decide +kernel
theorem dX9_init_60 : decode cX9_init 60 = .ok (.aload_n 0, 1) := by decide +kernel
theorem dX9_init_61 : decode cX9_init 61 = .ok (.bipush 61, 2) := by decide +kernel
theorem dX9_init_63 : decode cX9_init 63 = .ok (.newarray .int, 2) := by decide +kernel
theorem dX9_init_65 : decode cX9_init 65 = .ok (.putfield 31, 3) := by decide +kernel
theorem dX9_init_68 : decode cX9_init 68 = .ok (.aload_n 0, 1) := by decide +kernel
theorem dX9_init_69 : decode cX9_init 69 = .ok (.bipush 60, 2) := by decide +kernel
theorem dX9_init_71 : decode cX9_init 71 = .ok (.newarray .boolean, 2) := by decide +kernel
theorem dX9_init_73 : decode cX9_init 73 = .ok (.putfield 34, 3) := by decide +kernel
theorem dX9_init_76 : decode cX9_init 76 = .ok (.aload_n 0, 1) := by decide +kernel
theorem dX9_init_77 : decode cX9_init 77 = .ok (.iconst 5, 1) := by decide +kernel
theorem dX9_init_78 : decode cX9_init 78 = .ok (.newarray .boolean, 2) := by decide +kernel
theorem dX9_init_80 : decode cX9_init 80 = .ok (.putfield 38, 3) := by decide +kernel
theorem dX9_init_83 : decode cX9_init 83 = .ok (.aload_n 0, 1) := by decide +kernel
theorem dX9_init_84 : decode cX9_init 84 = .ok (.iconst 5, 1) := by decide +kernel
theorem dX9_init_85 : decode cX9_init 85 = .ok (.bipush 100, 2) := by decide +kernel
theorem dX9_init_87 : decode cX9_init 87 = .ok (.multianewarray 41 2, 4) := by decide +kernel
theorem dX9_init_91 : decode cX9_init 91 = .ok (.putfield 43, 3) := by decide +kernel
theorem dX9_init_94 : decode cX9_init 94 = .ok (.aload_n 0, 1) := by decide +kernel
theorem dX9_init_95 : decode cX9_init 95 = .ok (.iconst 5, 1) := by decide +kernel
theorem dX9_init_96 : decode cX9_init 96 = .ok (.newarray .char, 2) := by decide +kernel
theorem dX9_init_98 : decode cX9_init 98 = .ok (.dup, 1) := by decide +kernel
theorem dX9_init_99 : decode cX9_init 99 = .ok (.iconst 0, 1) := by decide +kernel
theorem dX9_init_100 : decode cX9_init 100 = .ok (.bipush 100, 2) := by decide +kernel
theorem dX9_init_102 : decode cX9_init 102 = .ok (.castore, 1) := by decide +kernel
theorem dX9_init_103 : decode cX9_init 103 = .ok (.dup, 1) := by decide +kernel
theorem dX9_init_104 : decode cX9_init 104 = .ok (.iconst 1, 1) := by decide +kernel
theorem dX9_init_105 : decode cX9_init 105 = .ok (.bipush 100, 2) := by decide +kernel
theorem dX9_init_107 : decode cX9_init 107 = .ok (.castore, 1) := by decide +kernel
theorem dX9_init_108 : decode cX9_init 108 = .ok (.dup, 1) := by decide +kernel
theorem dX9_init_109 : decode cX9_init 109 = .ok (.iconst 2, 1) := by decide +kernel
theorem dX9_init_110 : decode cX9_init 110 = .ok (.bipush 100, 2) := by decide +kernel
theorem dX9_init_112 : decode cX9_init 112 = .ok (.castore, 1) := by decide +kernel
theorem dX9_init_113 : decode cX9_init 113 = .ok (.dup, 1) := by decide +kernel
theorem dX9_init_114 : decode cX9_init 114 = .ok (.iconst 3, 1) := by decide +kernel
theorem dX9_init_115 : decode cX9_init 115 = .ok (.bipush 100, 2) := by decide +kernel
theorem dX9_init_117 : decode cX9_init 117 = .ok (.castore, 1) := by decide +kernel
theorem dX9_init_118 : decode cX9_init 118 = .ok (.dup, 1) := by decide +kernel
theorem dX9_init_119 : decode cX9_init 119 = .ok (.iconst 4, 1) := by decide +kernel
theorem dX9_init_120 : decode cX9_init 120 = .ok (.bipush 100, 2) := by decide +kernel
theorem dX9_init_122 : decode cX9_init 122 = .ok (.castore, 1) := by decide +kernel
theorem dX9_init_123 : decode cX9_init 123 = .ok (.putfield 46, 3) := by decide +kernel
theorem dX9_init_126 : decode cX9_init 126 = .ok (.aload_n 0, 1) := by decide +kernel
theorem dX9_init_127 : decode cX9_init 127 = .ok (.bipush 60, 2) := by decide +kernel
theorem dX9_init_129 : decode cX9_init 129 = .ok (.newarray .int, 2) := by decide +kernel
theorem dX9_init_131 : decode cX9_init 131 = .ok (.putfield 50, 3) := by decide +kernel
theorem dX9_init_134 : decode cX9_init 134 = .ok (.aload_n 0, 1) := by decide +kernel
theorem dX9_init_135 : decode cX9_init 135 = .ok (.bipush 60, 2) := by decide +kernel
theorem dX9_init_137 : decode cX9_init 137 = .ok (.newarray .int, 2) := by decide +kernel
theorem dX9_init_139 : decode cX9_init 139 = .ok (.putfield 53, 3) := by decide +kernel
theorem dX9_init_142 : decode cX9_init 142 = .ok (.aload_n 0, 1) := by decide +kernel
theorem dX9_init_143 : decode cX9_init 143 = .ok (.bipush 60, 2) := by decide +kernel
theorem dX9_init_145 : decode cX9_init 145 = .ok (.newarray .int, 2) := by decide +kernel
theorem dX9_init_147 : decode cX9_init 147 = .ok (.putfield 56, 3) := by decide +kernel
theorem dX9_init_150 : decode cX9_init 150 = .ok (.aload_n 0, 1) := by decide +kernel
theorem dX9_init_151 : decode cX9_init 151 = .ok (.bipush 30, 2) := by decide +kernel
theorem dX9_init_153 : decode cX9_init 153 = .ok (.newarray .int, 2) := by decide +kernel
theorem dX9_init_155 : decode cX9_init 155 = .ok (.putfield 59, 3) := by decide +kernel
theorem dX9_init_158 : decode cX9_init 158 = .ok (.aload_n 0, 1) := by decide +kernel
theorem dX9_init_159 : decode cX9_init 159 = .ok (.bipush 30, 2) := by decide +kernel
theorem dX9_init_161 : decode cX9_init 161 = .ok (.newarray .int, 2) := by decide +kernel
theorem dX9_init_163 : decode cX9_init 163 = .ok (.putfield 62, 3) := by decide +kernel
theorem dX9_init_166 : decode cX9_init 166 = .ok (.return_, 1) := by decide +kernel
theorem dX9_thrown_0 : decode cX9_thrown 0 = .ok (.aload_n 0, 1) := by decide +kernel
theorem dX9_thrown_1 : decode cX9_thrown 1 = .ok (.getfield 65, 3) := by decide +kernel
theorem dX9_thrown_4 : decode cX9_thrown 4 = .ok (.ireturn, 1) := by decide +kernel
theorem dX9_fails_0 : decode cX9_fails 0 = .ok (.aload_n 0, 1) := by decide +kernel
theorem dX9_fails_1 : decode cX9_fails 1 = .ok (.iload_n 1, 1) := by decide +kernel
theorem dX9_fails_2 : decode cX9_fails 2 = .ok (.putfield 65, 3) := by decide +kernel
theorem dX9_fails_5 : decode cX9_fails 5 = .ok (.iconst 0, 1) := by decide +kernel
theorem dX9_fails_6 : decode cX9_fails 6 = .ok (.ireturn, 1) := by decide +kernel
theorem dX9_isWrong_0 : decode cX9_isWrong 0 = .ok (.aload_n 0, 1) := by decide +kernel
theorem dX9_isWrong_1 : decode cX9_isWrong 1 = .ok (.iload_n 1, 1) := by decide +kernel
theorem dX9_isWrong_2 : decode cX9_isWrong 2 = .ok (.putfield 65, 3) := by decide +kernel
theorem dX9_isWrong_5 : decode cX9_isWrong 5 = .ok (.iconst 0, 1) := by decide +kernel
theorem dX9_isWrong_6 : decode cX9_isWrong 6 = .ok (.ireturn, 1) := by decide +kernel
theorem dX9_isBetween_0 : decode cX9_isBetween 0 = .ok (.iload_n 1, 1) := by decide +kernel
theorem dX9_isBetween_1 : decode cX9_isBetween 1 = .ok (.iload_n 0, 1) := by decide +kernel
theorem dX9_isBetween_2 : decode cX9_isBetween 2 = .ok (.if_icmp .gt 12, 3) := by decide +kernel
theorem dX9_isBetween_5 : decode cX9_isBetween 5 = .ok (.iload_n 0, 1) := by decide +kernel
theorem dX9_isBetween_6 : decode cX9_isBetween 6 = .ok (.iload_n 2, 1) := by decide +kernel
theorem dX9_isBetween_7 : decode cX9_isBetween 7 = .ok (.if_icmp .gt 7, 3) := by decide +kernel
theorem dX9_isBetween_10 : decode cX9_isBetween 10 = .ok (.iconst 1, 1) := by decide +kernel
theorem dX9_isBetween_11 : decode cX9_isBetween 11 = .ok (.goto 4, 3) := by decide +kernel
theorem dX9_isBetween_14 : decode cX9_isBetween 14 = .ok (.iconst 0, 1) := by decide +kernel
theorem dX9_isBetween_15 : decode cX9_isBetween 15 = .ok (.ireturn, 1) := by decide +kernel
set_option maxRecDepth 20000 in
theorem ggX9_isThere_X9_isBetween : GoodIn wsX9_isThere wsX9_isBetween := goodIn_r _ [6] (by decide +kernel) (by decide +kernel)
set_option maxRecDepth 20000 in
theorem gX9_isThere_X9_isBetween : GoodIn wsX9_isThere (va_wsS RX9 72 yX9_isBetween wsX9_isBetween) := goodIn_app (goodIn_of _ (by decide +kernel)) ggX9_isThere_X9_isBetween
theorem dX9_isThere_0 : decode cX9_isThere 0 = .ok (.iload_n 1, 1) := by decide +kernel
theorem dX9_isThere_1 : decode cX9_isThere 1 = .ok (.iconst 0, 1) := by decide +kernel
theorem dX9_isThere_2 : decode cX9_isThere 2 = .ok (.aload_n 0, 1) := by decide +kernel
theorem dX9_isThere_3 : decode cX9_isThere 3 = .ok (.getfield 69, 3) := by decide +kernel
theorem dX9_isThere_6 : decode cX9_isThere 6 = .ok (.iconst 1, 1) := by decide +kernel
theorem dX9_isThere_7 : decode cX9_isThere 7 = .ok (.isub, 1) := by decide +kernel
theorem dX9_isThere_8 : decode cX9_isThere 8 = .ok (.invokestatic 72, 3) := by decide +kernel
theorem dX9_isThere_11 : decode cX9_isThere 11 = .ok (.ifCond .eq 16, 3) := by decide +kernel
theorem dX9_isThere_14 : decode cX9_isThere 14 = .ok (.aload_n 0, 1) := by decide +kernel
theorem dX9_isThere_15 : decode cX9_isThere 15 = .ok (.getfield 28, 3) := by decide +kernel
theorem dX9_isThere_18 : decode cX9_isThere 18 = .ok (.iload_n 1, 1) := by decide +kernel
theorem dX9_isThere_19 : decode cX9_isThere 19 = .ok (.iaload, 1) := by decide +kernel
theorem dX9_isThere_20 : decode cX9_isThere 20 = .ok (.ifCond .lt 7, 3) := by decide +kernel
theorem dX9_isThere_23 : decode cX9_isThere 23 = .ok (.iconst 1, 1) := by decide +kernel
theorem dX9_isThere_24 : decode cX9_isThere 24 = .ok (.goto 4, 3) := by decide +kernel
theorem dX9_isThere_27 : decode cX9_isThere 27 = .ok (.iconst 0, 1) := by decide +kernel
theorem dX9_isThere_28 : decode cX9_isThere 28 = .ok (.ireturn, 1) := by decide +kernel
set_option maxRecDepth 20000 in
theorem ggX9_isGone_X9_isThere : GoodIn wsX9_isGone wsX9_isThere := goodIn_ca (goodIn_r _ [6, 7, 8, 9, 10, 5, 11, 12, 13, 14, 15, 16, 17, 18, 19, 20, 21, 22, 23, 24, 25, 26, 27, 28, 29, 30, 31, 32, 33] (by decide +kernel) (by decide +kernel)) (goodIn_sub (fun _ h => List.mem_cons_of_mem _ (List.mem_append_right _ h)) (by decide +kernel))
set_option maxRecDepth 20000 in
theorem gX9_isGone_X9_isThere : GoodIn wsX9_isGone (wsV RX9 76 RX9 yX9_isThere wsX9_isThere) := goodIn_app (goodIn_of _ (by decide +kernel)) ggX9_isGone_X9_isThere
theorem dX9_isGone_0 : decode cX9_isGone 0 = .ok (.aload_n 0, 1) := by decide +kernel
theorem dX9_isGone_1 : decode cX9_isGone 1 = .ok (.aload_n 0, 1) := by decide +kernel
theorem dX9_isGone_2 : decode cX9_isGone 2 = .ok (.iload_n 1, 1) := by decide +kernel
theorem dX9_isGone_3 : decode cX9_isGone 3 = .ok (.invokevirtual 76, 3) := by decide +kernel
theorem dX9_isGone_6 : decode cX9_isGone 6 = .ok (.ifCond .eq 7, 3) := by decide +kernel
theorem dX9_isGone_9 : decode cX9_isGone 9 = .ok (.iconst 0, 1) := by decide +kernel
theorem dX9_isGone_10 : decode cX9_isGone 10 = .ok (.goto 4, 3) := by decide +kernel
theorem dX9_isGone_13 : decode cX9_isGone 13 = .ok (.iconst 1, 1) := by decide +kernel
theorem dX9_isGone_14 : decode cX9_isGone 14 = .ok (.putfield 65, 3) := by decide +kernel
theorem dX9_isGone_17 : decode cX9_isGone 17 = .ok (.aload_n 0, 1) := by decide +kernel
theorem dX9_isGone_18 : decode cX9_isGone 18 = .ok (.getfield 65, 3) := by decide +kernel
theorem dX9_isGone_21 : decode cX9_isGone 21 = .ok (.ifCond .le 7, 3) := by decide +kernel
theorem dX9_isGone_24 : decode cX9_isGone 24 = .ok (.iconst 1, 1) := by decide +kernel
theorem dX9_isGone_25 : decode cX9_isGone 25 = .ok (.goto 4, 3) := by decide +kernel
theorem dX9_isGone_28 : decode cX9_isGone 28 = .ok (.iconst 0, 1) := by decide +kernel
theorem dX9_isGone_29 : decode cX9_isGone 29 = .ok (.ireturn, 1) := by decide +kernel
set_option maxRecDepth 20000 in
theorem ggX9_isPlain_X9_isGone : GoodIn wsX9_isPlain wsX9_isGone := goodIn_ca (goodIn_r _ [7, 2, 8, 9, 10, 6, 11, 12, 13, 14, 15, 16, 17, 18, 19, 20, 21, 22, 23, 24, 25, 26, 27, 28, 29, 30, 31, 32, 33, 34, 35, 36, 37, 38] (by decide +kernel) (by decide +kernel)) (goodIn_sub (fun _ h => List.mem_cons_of_mem _ (List.mem_append_right _ h)) (by decide +kernel))
set_option maxRecDepth 20000 in
theorem gX9_isPlain_X9_isGone : GoodIn wsX9_isPlain (wsV RX9 80 RX9 yX9_isGone wsX9_isGone) := goodIn_app (goodIn_of _ (by decide +kernel)) ggX9_isPlain_X9_isGone
theorem dX9_isPlain_0 : decode cX9_isPlain 0 = .ok (.aload_n 0, 1) := by decide +kernel
theorem dX9_isPlain_1 : decode cX9_isPlain 1 = .ok (.iload_n 1, 1) := by decide +kernel
theorem dX9_isPlain_2 : decode cX9_isPlain 2 = .ok (.invokevirtual 80, 3) := by decide +kernel
theorem dX9_isPlain_5 : decode cX9_isPlain 5 = .ok (.ifCond .ne 17, 3) := by decide +kernel
theorem dX9_isPlain_8 : decode cX9_isPlain 8 = .ok (.aload_n 0, 1) := by decide +kernel
theorem dX9_isPlain_9 : decode cX9_isPlain 9 = .ok (.getfield 9, 3) := by decide +kernel
theorem dX9_isPlain_12 : decode cX9_isPlain 12 = .ok (.iload_n 1, 1) := by decide +kernel
theorem dX9_isPlain_13 : decode cX9_isPlain 13 = .ok (.iaload, 1) := by decide +kernel
theorem dX9_isPlain_14 : decode cX9_isPlain 14 = .ok (.ifCond .ne 8, 3) := by decide +kernel
theorem dX9_isPlain_17 : decode cX9_isPlain 17 = .ok (.aload_n 0, 1) := by decide +kernel
theorem dX9_isPlain_18 : decode cX9_isPlain 18 = .ok (.iconst 2, 1) := by decide +kernel
theorem dX9_isPlain_19 : decode cX9_isPlain 19 = .ok (.putfield 65, 3) := by decide +kernel
theorem dX9_isPlain_22 : decode cX9_isPlain 22 = .ok (.aload_n 0, 1) := by decide +kernel
theorem dX9_isPlain_23 : decode cX9_isPlain 23 = .ok (.getfield 65, 3) := by decide +kernel
theorem dX9_isPlain_26 : decode cX9_isPlain 26 = .ok (.ifCond .le 7, 3) := by decide +kernel
theorem dX9_isPlain_29 : decode cX9_isPlain 29 = .ok (.iconst 1, 1) := by decide +kernel
theorem dX9_isPlain_30 : decode cX9_isPlain 30 = .ok (.goto 4, 3) := by decide +kernel
theorem dX9_isPlain_33 : decode cX9_isPlain 33 = .ok (.iconst 0, 1) := by decide +kernel
theorem dX9_isPlain_34 : decode cX9_isPlain 34 = .ok (.ireturn, 1) := by decide +kernel
set_option maxRecDepth 20000 in
theorem ggX9_isLevel_X9_isBetween : GoodIn wsX9_isLevel wsX9_isBetween := goodIn_r _ [4] (by decide +kernel) (by decide +kernel)
set_option maxRecDepth 20000 in
theorem gX9_isLevel_X9_isBetween : GoodIn wsX9_isLevel (va_wsS RX9 72 yX9_isBetween wsX9_isBetween) := goodIn_app (goodIn_of _ (by decide +kernel)) ggX9_isLevel_X9_isBetween
theorem dX9_isLevel_0 : decode cX9_isLevel 0 = .ok (.iload_n 0, 1) := by decide +kernel
theorem dX9_isLevel_1 : decode cX9_isLevel 1 = .ok (.iconst 1, 1) := by decide +kernel
theorem dX9_isLevel_2 : decode cX9_isLevel 2 = .ok (.iconst 4, 1) := by decide +kernel
theorem dX9_isLevel_3 : decode cX9_isLevel 3 = .ok (.invokestatic 72, 3) := by decide +kernel
theorem dX9_isLevel_6 : decode cX9_isLevel 6 = .ok (.ireturn, 1) := by decide +kernel
theorem dX9_parentAt_0 : decode cX9_parentAt 0 = .ok (.aload_n 0, 1) := by decide +kernel
theorem dX9_parentAt_1 : decode cX9_parentAt 1 = .ok (.getfield 9, 3) := by decide +kernel
theorem dX9_parentAt_4 : decode cX9_parentAt 4 = .ok (.aload_n 0, 1) := by decide +kernel
theorem dX9_parentAt_5 : decode cX9_parentAt 5 = .ok (.getfield 31, 3) := by decide +kernel
theorem dX9_parentAt_8 : decode cX9_parentAt 8 = .ok (.iload_n 1, 1) := by decide +kernel
theorem dX9_parentAt_9 : decode cX9_parentAt 9 = .ok (.iaload, 1) := by decide +kernel
theorem dX9_parentAt_10 : decode cX9_parentAt 10 = .ok (.iaload, 1) := by decide +kernel
theorem dX9_parentAt_11 : decode cX9_parentAt 11 = .ok (.istore_n 2, 1) := by decide +kernel
theorem dX9_parentAt_12 : decode cX9_parentAt 12 = .ok (.iload_n 1, 1) := by decide +kernel
theorem dX9_parentAt_13 : decode cX9_parentAt 13 = .ok (.iconst 1, 1) := by decide +kernel
theorem dX9_parentAt_14 : decode cX9_parentAt 14 = .ok (.isub, 1) := by decide +kernel
theorem dX9_parentAt_15 : decode cX9_parentAt 15 = .ok (.istore_n 3, 1) := by decide +kernel
theorem dX9_parentAt_16 : decode cX9_parentAt 16 = .ok (.iload_n 3, 1) := by decide +kernel
theorem dX9_parentAt_17 : decode cX9_parentAt 17 = .ok (.ifCond .lt 45, 3) := by decide +kernel
theorem dX9_parentAt_20 : decode cX9_parentAt 20 = .ok (.aload_n 0, 1) := by decide +kernel
theorem dX9_parentAt_21 : decode cX9_parentAt 21 = .ok (.getfield 9, 3) := by decide +kernel
theorem dX9_parentAt_24 : decode cX9_parentAt 24 = .ok (.aload_n 0, 1) := by decide +kernel
theorem dX9_parentAt_25 : decode cX9_parentAt 25 = .ok (.getfield 31, 3) := by decide +kernel
theorem dX9_parentAt_28 : decode cX9_parentAt 28 = .ok (.iload_n 3, 1) := by decide +kernel
theorem dX9_parentAt_29 : decode cX9_parentAt 29 = .ok (.iaload, 1) := by decide +kernel
theorem dX9_parentAt_30 : decode cX9_parentAt 30 = .ok (.iaload, 1) := by decide +kernel
theorem dX9_parentAt_31 : decode cX9_parentAt 31 = .ok (.ifCond .le 25, 3) := by decide +kernel
theorem dX9_parentAt_34 : decode cX9_parentAt 34 = .ok (.aload_n 0, 1) := by decide +kernel
theorem dX9_parentAt_35 : decode cX9_parentAt 35 = .ok (.getfield 9, 3) := by decide +kernel
theorem dX9_parentAt_38 : decode cX9_parentAt 38 = .ok (.aload_n 0, 1) := by decide +kernel
theorem dX9_parentAt_39 : decode cX9_parentAt 39 = .ok (.getfield 31, 3) := by decide +kernel
theorem dX9_parentAt_42 : decode cX9_parentAt 42 = .ok (.iload_n 3, 1) := by decide +kernel
theorem dX9_parentAt_43 : decode cX9_parentAt 43 = .ok (.iaload, 1) := by decide +kernel
theorem dX9_parentAt_44 : decode cX9_parentAt 44 = .ok (.iaload, 1) := by decide +kernel
theorem dX9_parentAt_45 : decode cX9_parentAt 45 = .ok (.iload_n 2, 1) := by decide +kernel
theorem dX9_parentAt_46 : decode cX9_parentAt 46 = .ok (.if_icmp .ge 10, 3) := by decide +kernel
theorem dX9_parentAt_49 : decode cX9_parentAt 49 = .ok (.aload_n 0, 1) := by decide +kernel
theorem dX9_parentAt_50 : decode cX9_parentAt 50 = .ok (.getfield 31, 3) := by decide +kernel
theorem dX9_parentAt_53 : decode cX9_parentAt 53 = .ok (.iload_n 3, 1) := by decide +kernel
theorem dX9_parentAt_54 : decode cX9_parentAt 54 = .ok (.iaload, 1) := by decide +kernel
theorem dX9_parentAt_55 : decode cX9_parentAt 55 = .ok (.ireturn, 1) := by decide +kernel
theorem dX9_parentAt_56 : decode cX9_parentAt 56 = .ok (.iinc 3 (-1), 3) := by decide +kernel
theorem dX9_parentAt_59 : decode cX9_parentAt 59 = .ok (.goto (-43), 3) := by decide +kernel
theorem dX9_parentAt_62 : decode cX9_parentAt 62 = .ok (.iconst (-1), 1) := by decide +kernel
theorem dX9_parentAt_63 : decode cX9_parentAt 63 = .ok (.ireturn, 1) := by decide +kernel
theorem dX9_groupOf_0 : decode cX9_groupOf 0 = .ok (.aload_n 0, 1) := by decide +kernel
theorem dX9_groupOf_1 : decode cX9_groupOf 1 = .ok (.getfield 38, 3) := by decide +kernel
theorem dX9_groupOf_4 : decode cX9_groupOf 4 = .ok (.aload_n 0, 1) := by decide +kernel
theorem dX9_groupOf_5 : decode cX9_groupOf 5 = .ok (.getfield 9, 3) := by decide +kernel
theorem dX9_groupOf_8 : decode cX9_groupOf 8 = .ok (.iload_n 1, 1) := by decide +kernel
theorem dX9_groupOf_9 : decode cX9_groupOf 9 = .ok (.iaload, 1) := by decide +kernel
theorem dX9_groupOf_10 : decode cX9_groupOf 10 = .ok (.baload, 1) := by decide +kernel
theorem dX9_groupOf_11 : decode cX9_groupOf 11 = .ok (.ifCond .eq 8, 3) := by decide +kernel
theorem dX9_groupOf_14 : decode cX9_groupOf 14 = .ok (.bipush (-2), 2) := by decide +kernel
theorem dX9_groupOf_16 : decode cX9_groupOf 16 = .ok (.goto 9, 3) := by decide +kernel
theorem dX9_groupOf_19 : decode cX9_groupOf 19 = .ok (.aload_n 0, 1) := by decide +kernel
theorem dX9_groupOf_20 : decode cX9_groupOf 20 = .ok (.getfield 19, 3) := by decide +kernel
theorem dX9_groupOf_23 : decode cX9_groupOf 23 = .ok (.iload_n 1, 1) := by decide +kernel
theorem dX9_groupOf_24 : decode cX9_groupOf 24 = .ok (.iaload, 1) := by decide +kernel
theorem dX9_groupOf_25 : decode cX9_groupOf 25 = .ok (.ireturn, 1) := by decide +kernel
set_option maxRecDepth 20000 in
theorem ggX9_areTogether_X9_groupOf : GoodIn wsX9_areTogether wsX9_groupOf := goodIn_ca (goodIn_r _ [6, 7, 1, 8, 9, 10, 11, 12, 13, 14, 15, 16, 17, 18, 19, 20, 21, 22, 23, 24, 25, 26, 27, 28, 29, 30] (by decide +kernel) (by decide +kernel)) (goodIn_sub (fun _ h => List.mem_cons_of_mem _ (List.mem_append_right _ h)) (by decide +kernel))
set_option maxRecDepth 20000 in
theorem gX9_areTogether_X9_groupOf : GoodIn wsX9_areTogether (wsV RX9 83 RX9 yX9_groupOf wsX9_groupOf) := goodIn_app (goodIn_of _ (by decide +kernel)) ggX9_areTogether_X9_groupOf
theorem dX9_areTogether_0 : decode cX9_areTogether 0 = .ok (.aload_n 0, 1) := by decide +kernel
theorem dX9_areTogether_1 : decode cX9_areTogether 1 = .ok (.getfield 9, 3) := by decide +kernel
theorem dX9_areTogether_4 : decode cX9_areTogether 4 = .ok (.iload_n 1, 1) := by decide +kernel
theorem dX9_areTogether_5 : decode cX9_areTogether 5 = .ok (.iaload, 1) := by decide +kernel
theorem dX9_areTogether_6 : decode cX9_areTogether 6 = .ok (.aload_n 0, 1) := by decide +kernel
theorem dX9_areTogether_7 : decode cX9_areTogether 7 = .ok (.getfield 9, 3) := by decide +kernel
theorem dX9_areTogether_10 : decode cX9_areTogether 10 = .ok (.iload_n 2, 1) := by decide +kernel
theorem dX9_areTogether_11 : decode cX9_areTogether 11 = .ok (.iaload, 1) := by decide +kernel
theorem dX9_areTogether_12 : decode cX9_areTogether 12 = .ok (.if_icmp .ne 20, 3) := by decide +kernel
theorem dX9_areTogether_15 : decode cX9_areTogether 15 = .ok (.aload_n 0, 1) := by decide +kernel
theorem dX9_areTogether_16 : decode cX9_areTogether 16 = .ok (.iload_n 1, 1) := by decide +kernel
theorem dX9_areTogether_17 : decode cX9_areTogether 17 = .ok (.invokevirtual 83, 3) := by decide +kernel
theorem dX9_areTogether_20 : decode cX9_areTogether 20 = .ok (.aload_n 0, 1) := by decide +kernel
theorem dX9_areTogether_21 : decode cX9_areTogether 21 = .ok (.iload_n 2, 1) := by decide +kernel
theorem dX9_areTogether_22 : decode cX9_areTogether 22 = .ok (.invokevirtual 83, 3) := by decide +kernel
theorem dX9_areTogether_25 : decode cX9_areTogether 25 = .ok (.if_icmp .ne 7, 3) := by decide +kernel
theorem dX9_areTogether_28 : decode cX9_areTogether 28 = .ok (.iconst 1, 1) := by decide +kernel
theorem dX9_areTogether_29 : decode cX9_areTogether 29 = .ok (.goto 4, 3) := by decide +kernel
theorem dX9_areTogether_32 : decode cX9_areTogether 32 = .ok (.iconst 0, 1) := by decide +kernel
theorem dX9_areTogether_33 : decode cX9_areTogether 33 = .ok (.ireturn, 1) := by decide +kernel
set_option maxRecDepth 20000 in
theorem ggX9_aheadOf_X9_areTogether : GoodIn wsX9_aheadOf wsX9_areTogether := goodIn_ca (goodIn_r _ [7, 8, 9, 10, 11, 6, 12, 13, 14, 15, 16, 17, 18, 19, 20, 21, 22, 23, 24, 25, 26, 27, 28, 29, 30, 31, 32, 33, 34, 35, 36] (by decide +kernel) (by decide +kernel)) (goodIn_sub (fun _ h => List.mem_cons_of_mem _ (List.mem_append_right _ h)) (by decide +kernel))
set_option maxRecDepth 20000 in
theorem gX9_aheadOf_X9_areTogether : GoodIn wsX9_aheadOf (wsV RX9 87 RX9 yX9_areTogether wsX9_areTogether) := goodIn_app (goodIn_of _ (by decide +kernel)) ggX9_aheadOf_X9_areTogether
theorem dX9_aheadOf_0 : decode cX9_aheadOf 0 = .ok (.aload_n 0, 1) := by decide +kernel
theorem dX9_aheadOf_1 : decode cX9_aheadOf 1 = .ok (.getfield 28, 3) := by decide +kernel
theorem dX9_aheadOf_4 : decode cX9_aheadOf 4 = .ok (.iload_n 1, 1) := by decide +kernel
theorem dX9_aheadOf_5 : decode cX9_aheadOf 5 = .ok (.iaload, 1) := by decide +kernel
theorem dX9_aheadOf_6 : decode cX9_aheadOf 6 = .ok (.iconst 1, 1) := by decide +kernel
theorem dX9_aheadOf_7 : decode cX9_aheadOf 7 = .ok (.isub, 1) := by decide +kernel
theorem dX9_aheadOf_8 : decode cX9_aheadOf 8 = .ok (.istore_n 2, 1) := by decide +kernel
theorem dX9_aheadOf_9 : decode cX9_aheadOf 9 = .ok (.iload_n 2, 1) := by decide +kernel
theorem dX9_aheadOf_10 : decode cX9_aheadOf 10 = .ok (.ifCond .lt 30, 3) := by decide +kernel
theorem dX9_aheadOf_13 : decode cX9_aheadOf 13 = .ok (.aload_n 0, 1) := by decide +kernel
theorem dX9_aheadOf_14 : decode cX9_aheadOf 14 = .ok (.iload_n 1, 1) := by decide +kernel
theorem dX9_aheadOf_15 : decode cX9_aheadOf 15 = .ok (.aload_n 0, 1) := by decide +kernel
theorem dX9_aheadOf_16 : decode cX9_aheadOf 16 = .ok (.getfield 31, 3) := by decide +kernel
theorem dX9_aheadOf_19 : decode cX9_aheadOf 19 = .ok (.iload_n 2, 1) := by decide +kernel
theorem dX9_aheadOf_20 : decode cX9_aheadOf 20 = .ok (.iaload, 1) := by decide +kernel
theorem dX9_aheadOf_21 : decode cX9_aheadOf 21 = .ok (.invokevirtual 87, 3) := by decide +kernel
theorem dX9_aheadOf_24 : decode cX9_aheadOf 24 = .ok (.ifCond .eq 10, 3) := by decide +kernel
theorem dX9_aheadOf_27 : decode cX9_aheadOf 27 = .ok (.aload_n 0, 1) := by decide +kernel
theorem dX9_aheadOf_28 : decode cX9_aheadOf 28 = .ok (.getfield 31, 3) := by decide +kernel
theorem dX9_aheadOf_31 : decode cX9_aheadOf 31 = .ok (.iload_n 2, 1) := by decide +kernel
theorem dX9_aheadOf_32 : decode cX9_aheadOf 32 = .ok (.iaload, 1) := by decide +kernel
theorem dX9_aheadOf_33 : decode cX9_aheadOf 33 = .ok (.ireturn, 1) := by decide +kernel
theorem dX9_aheadOf_34 : decode cX9_aheadOf 34 = .ok (.iinc 2 (-1), 3) := by decide +kernel
theorem dX9_aheadOf_37 : decode cX9_aheadOf 37 = .ok (.goto (-28), 3) := by decide +kernel
theorem dX9_aheadOf_40 : decode cX9_aheadOf 40 = .ok (.iconst (-1), 1) := by decide +kernel
theorem dX9_aheadOf_41 : decode cX9_aheadOf 41 = .ok (.ireturn, 1) := by decide +kernel
set_option maxRecDepth 20000 in
theorem ggX9_icedBehind_X9_areTogether : GoodIn wsX9_icedBehind wsX9_areTogether := goodIn_ca (goodIn_r _ [9, 10, 11, 12, 13, 8, 14, 15, 16, 17, 18, 19, 20, 21, 22, 23, 24, 25, 26, 27, 28, 29, 30, 31, 32, 33, 34, 35, 36, 37, 38] (by decide +kernel) (by decide +kernel)) (goodIn_sub (fun _ h => List.mem_cons_of_mem _ (List.mem_append_right _ h)) (by decide +kernel))
set_option maxRecDepth 20000 in
theorem gX9_icedBehind_X9_areTogether : GoodIn wsX9_icedBehind (wsV RX9 87 RX9 yX9_areTogether wsX9_areTogether) := goodIn_app (goodIn_of _ (by decide +kernel)) ggX9_icedBehind_X9_areTogether
theorem dX9_icedBehind_0 : decode cX9_icedBehind 0 = .ok (.aload_n 0, 1) := by decide +kernel
theorem dX9_icedBehind_1 : decode cX9_icedBehind 1 = .ok (.getfield 28, 3) := by decide +kernel
theorem dX9_icedBehind_4 : decode cX9_icedBehind 4 = .ok (.iload_n 1, 1) := by decide +kernel
theorem dX9_icedBehind_5 : decode cX9_icedBehind 5 = .ok (.iaload, 1) := by decide +kernel
theorem dX9_icedBehind_6 : decode cX9_icedBehind 6 = .ok (.iconst 1, 1) := by decide +kernel
theorem dX9_icedBehind_7 : decode cX9_icedBehind 7 = .ok (.iadd, 1) := by decide +kernel
theorem dX9_icedBehind_8 : decode cX9_icedBehind 8 = .ok (.istore_n 2, 1) := by decide +kernel
theorem dX9_icedBehind_9 : decode cX9_icedBehind 9 = .ok (.iload_n 2, 1) := by decide +kernel
theorem dX9_icedBehind_10 : decode cX9_icedBehind 10 = .ok (.aload_n 0, 1) := by decide +kernel
theorem dX9_icedBehind_11 : decode cX9_icedBehind 11 = .ok (.getfield 91, 3) := by decide +kernel
theorem dX9_icedBehind_14 : decode cX9_icedBehind 14 = .ok (.if_icmp .ge 44, 3) := by decide +kernel
theorem dX9_icedBehind_17 : decode cX9_icedBehind 17 = .ok (.aload_n 0, 1) := by decide +kernel
theorem dX9_icedBehind_18 : decode cX9_icedBehind 18 = .ok (.getfield 34, 3) := by decide +kernel
theorem dX9_icedBehind_21 : decode cX9_icedBehind 21 = .ok (.aload_n 0, 1) := by decide +kernel
theorem dX9_icedBehind_22 : decode cX9_icedBehind 22 = .ok (.getfield 31, 3) := by decide +kernel
theorem dX9_icedBehind_25 : decode cX9_icedBehind 25 = .ok (.iload_n 2, 1) := by decide +kernel
theorem dX9_icedBehind_26 : decode cX9_icedBehind 26 = .ok (.iaload, 1) := by decide +kernel
theorem dX9_icedBehind_27 : decode cX9_icedBehind 27 = .ok (.baload, 1) := by decide +kernel
theorem dX9_icedBehind_28 : decode cX9_icedBehind 28 = .ok (.ifCond .eq 24, 3) := by decide +kernel
theorem dX9_icedBehind_31 : decode cX9_icedBehind 31 = .ok (.aload_n 0, 1) := by decide +kernel
theorem dX9_icedBehind_32 : decode cX9_icedBehind 32 = .ok (.iload_n 1, 1) := by decide +kernel
theorem dX9_icedBehind_33 : decode cX9_icedBehind 33 = .ok (.aload_n 0, 1) := by decide +kernel
theorem dX9_icedBehind_34 : decode cX9_icedBehind 34 = .ok (.getfield 31, 3) := by decide +kernel
theorem dX9_icedBehind_37 : decode cX9_icedBehind 37 = .ok (.iload_n 2, 1) := by decide +kernel
theorem dX9_icedBehind_38 : decode cX9_icedBehind 38 = .ok (.iaload, 1) := by decide +kernel
theorem dX9_icedBehind_39 : decode cX9_icedBehind 39 = .ok (.invokevirtual 87, 3) := by decide +kernel
theorem dX9_icedBehind_42 : decode cX9_icedBehind 42 = .ok (.ifCond .eq 10, 3) := by decide +kernel
theorem dX9_icedBehind_45 : decode cX9_icedBehind 45 = .ok (.aload_n 0, 1) := by decide +kernel
theorem dX9_icedBehind_46 : decode cX9_icedBehind 46 = .ok (.getfield 31, 3) := by decide +kernel
theorem dX9_icedBehind_49 : decode cX9_icedBehind 49 = .ok (.iload_n 2, 1) := by decide +kernel
theorem dX9_icedBehind_50 : decode cX9_icedBehind 50 = .ok (.iaload, 1) := by decide +kernel
theorem dX9_icedBehind_51 : decode cX9_icedBehind 51 = .ok (.ireturn, 1) := by decide +kernel
theorem dX9_icedBehind_52 : decode cX9_icedBehind 52 = .ok (.iinc 2 1, 3) := by decide +kernel
theorem dX9_icedBehind_55 : decode cX9_icedBehind 55 = .ok (.goto (-46), 3) := by decide +kernel
theorem dX9_icedBehind_58 : decode cX9_icedBehind 58 = .ok (.iconst (-1), 1) := by decide +kernel
theorem dX9_icedBehind_59 : decode cX9_icedBehind 59 = .ok (.ireturn, 1) := by decide +kernel
set_option maxRecDepth 20000 in
theorem ggX9_isUsed_X9_groupOf : GoodIn wsX9_isUsed wsX9_groupOf := goodIn_ca (goodIn_r _ [11, 12, 3, 13, 14, 15, 16, 17, 18, 19, 20, 21, 22, 23, 24, 25, 26, 27, 28, 29, 30, 31, 32, 33, 34, 35] (by decide +kernel) (by decide +kernel)) (goodIn_sub (fun _ h => List.mem_cons_of_mem _ (List.mem_append_right _ h)) (by decide +kernel))
set_option maxRecDepth 20000 in
theorem gX9_isUsed_X9_groupOf : GoodIn wsX9_isUsed (wsV RX9 83 RX9 yX9_groupOf wsX9_groupOf) := goodIn_app (goodIn_of _ (by decide +kernel)) ggX9_isUsed_X9_groupOf
theorem dX9_isUsed_0 : decode cX9_isUsed 0 = .ok (.iconst 0, 1) := by decide +kernel
theorem dX9_isUsed_1 : decode cX9_isUsed 1 = .ok (.istore_n 3, 1) := by decide +kernel
theorem dX9_isUsed_2 : decode cX9_isUsed 2 = .ok (.iload_n 3, 1) := by decide +kernel
theorem dX9_isUsed_3 : decode cX9_isUsed 3 = .ok (.aload_n 0, 1) := by decide +kernel
theorem dX9_isUsed_4 : decode cX9_isUsed 4 = .ok (.getfield 94, 3) := by decide +kernel
theorem dX9_isUsed_7 : decode cX9_isUsed 7 = .ok (.if_icmp .ge 50, 3) := by decide +kernel
theorem dX9_isUsed_10 : decode cX9_isUsed 10 = .ok (.aload_n 0, 1) := by decide +kernel
theorem dX9_isUsed_11 : decode cX9_isUsed 11 = .ok (.getfield 50, 3) := by decide +kernel
theorem dX9_isUsed_14 : decode cX9_isUsed 14 = .ok (.iload_n 3, 1) := by decide +kernel
theorem dX9_isUsed_15 : decode cX9_isUsed 15 = .ok (.iaload, 1) := by decide +kernel
theorem dX9_isUsed_16 : decode cX9_isUsed 16 = .ok (.aload_n 0, 1) := by decide +kernel
theorem dX9_isUsed_17 : decode cX9_isUsed 17 = .ok (.getfield 9, 3) := by decide +kernel
theorem dX9_isUsed_20 : decode cX9_isUsed 20 = .ok (.iload_n 1, 1) := by decide +kernel
theorem dX9_isUsed_21 : decode cX9_isUsed 21 = .ok (.iaload, 1) := by decide +kernel
theorem dX9_isUsed_22 : decode cX9_isUsed 22 = .ok (.if_icmp .ne 29, 3) := by decide +kernel
theorem dX9_isUsed_25 : decode cX9_isUsed 25 = .ok (.aload_n 0, 1) := by decide +kernel
theorem dX9_isUsed_26 : decode cX9_isUsed 26 = .ok (.getfield 53, 3) := by decide +kernel
theorem dX9_isUsed_29 : decode cX9_isUsed 29 = .ok (.iload_n 3, 1) := by decide +kernel
theorem dX9_isUsed_30 : decode cX9_isUsed 30 = .ok (.iaload, 1) := by decide +kernel
theorem dX9_isUsed_31 : decode cX9_isUsed 31 = .ok (.aload_n 0, 1) := by decide +kernel
theorem dX9_isUsed_32 : decode cX9_isUsed 32 = .ok (.iload_n 1, 1) := by decide +kernel
theorem dX9_isUsed_33 : decode cX9_isUsed 33 = .ok (.invokevirtual 83, 3) := by decide +kernel
theorem dX9_isUsed_36 : decode cX9_isUsed 36 = .ok (.if_icmp .ne 15, 3) := by decide +kernel
theorem dX9_isUsed_39 : decode cX9_isUsed 39 = .ok (.aload_n 0, 1) := by decide +kernel
theorem dX9_isUsed_40 : decode cX9_isUsed 40 = .ok (.getfield 56, 3) := by decide +kernel
theorem dX9_isUsed_43 : decode cX9_isUsed 43 = .ok (.iload_n 3, 1) := by decide +kernel
theorem dX9_isUsed_44 : decode cX9_isUsed 44 = .ok (.iaload, 1) := by decide +kernel
theorem dX9_isUsed_45 : decode cX9_isUsed 45 = .ok (.iload_n 2, 1) := by decide +kernel
theorem dX9_isUsed_46 : decode cX9_isUsed 46 = .ok (.if_icmp .ne 5, 3) := by decide +kernel
theorem dX9_isUsed_49 : decode cX9_isUsed 49 = .ok (.iconst 1, 1) := by decide +kernel
theorem dX9_isUsed_50 : decode cX9_isUsed 50 = .ok (.ireturn, 1) := by decide +kernel
theorem dX9_isUsed_51 : decode cX9_isUsed 51 = .ok (.iinc 3 1, 3) := by decide +kernel
theorem dX9_isUsed_54 : decode cX9_isUsed 54 = .ok (.goto (-52), 3) := by decide +kernel
theorem dX9_isUsed_57 : decode cX9_isUsed 57 = .ok (.iload_n 2, 1) := by decide +kernel
theorem dX9_isUsed_58 : decode cX9_isUsed 58 = .ok (.bipush 100, 2) := by decide +kernel
theorem dX9_isUsed_60 : decode cX9_isUsed 60 = .ok (.if_icmp .ge 23, 3) := by decide +kernel
theorem dX9_isUsed_63 : decode cX9_isUsed 63 = .ok (.aload_n 0, 1) := by decide +kernel
theorem dX9_isUsed_64 : decode cX9_isUsed 64 = .ok (.getfield 43, 3) := by decide +kernel
theorem dX9_isUsed_67 : decode cX9_isUsed 67 = .ok (.aload_n 0, 1) := by decide +kernel
theorem dX9_isUsed_68 : decode cX9_isUsed 68 = .ok (.getfield 9, 3) := by decide +kernel
theorem dX9_isUsed_71 : decode cX9_isUsed 71 = .ok (.iload_n 1, 1) := by decide +kernel
theorem dX9_isUsed_72 : decode cX9_isUsed 72 = .ok (.iaload, 1) := by decide +kernel
theorem dX9_isUsed_73 : decode cX9_isUsed 73 = .ok (.aaload, 1) := by decide +kernel
theorem dX9_isUsed_74 : decode cX9_isUsed 74 = .ok (.iload_n 2, 1) := by decide +kernel
theorem dX9_isUsed_75 : decode cX9_isUsed 75 = .ok (.baload, 1) := by decide +kernel
theorem dX9_isUsed_76 : decode cX9_isUsed 76 = .ok (.ifCond .eq 7, 3) := by decide +kernel
theorem dX9_isUsed_79 : decode cX9_isUsed 79 = .ok (.iconst 1, 1) := by decide +kernel
theorem dX9_isUsed_80 : decode cX9_isUsed 80 = .ok (.goto 4, 3) := by decide +kernel
theorem dX9_isUsed_83 : decode cX9_isUsed 83 = .ok (.iconst 0, 1) := by decide +kernel
theorem dX9_isUsed_84 : decode cX9_isUsed 84 = .ok (.ireturn, 1) := by decide +kernel
set_option maxRecDepth 20000 in
theorem ggX9_numbersOne_X9_aheadOf : GoodIn wsX9_numbersOne wsX9_aheadOf := goodIn_ca (goodIn_r _ [13, 14, 15, 16, 17, 18, 12, 19, 20, 21, 22, 23, 24, 25, 26, 42, 43, 44, 45, 46, 47, 48, 49, 50, 51, 52, 53, 54, 55, 56, 57, 58, 59, 60, 61, 62, 63] (by decide +kernel) (by decide +kernel)) (goodIn_sub (fun _ h => List.mem_cons_of_mem _ (List.mem_append_right _ h)) (by decide +kernel))
set_option maxRecDepth 20000 in
theorem gX9_numbersOne_X9_aheadOf : GoodIn wsX9_numbersOne (wsV RX9 97 RX9 yX9_aheadOf wsX9_aheadOf) := goodIn_app (goodIn_of _ (by decide +kernel)) ggX9_numbersOne_X9_aheadOf
set_option maxRecDepth 20000 in
theorem ggX9_numbersOne_X9_icedBehind : GoodIn wsX9_numbersOne wsX9_icedBehind := goodIn_ca (goodIn_r _ [30, 14, 31, 32, 15, 16, 17, 18, 12, 19, 20, 21, 22, 23, 24, 25, 26, 42, 43, 44, 45, 46, 47, 48, 49, 50, 51, 52, 53, 54, 55, 56, 57, 58, 59, 60, 61, 62, 63] (by decide +kernel) (by decide +kernel)) (goodIn_sub (fun _ h => List.mem_cons_of_mem _ (List.mem_append_right _ h)) (by decide +kernel))
set_option maxRecDepth 20000 in
theorem gX9_numbersOne_X9_icedBehind : GoodIn wsX9_numbersOne (wsV RX9 100 RX9 yX9_icedBehind wsX9_icedBehind) := goodIn_app (goodIn_of _ (by decide +kernel)) ggX9_numbersOne_X9_icedBehind
set_option maxRecDepth 20000 in
theorem ggX9_numbersOne_X9_isUsed : GoodIn wsX9_numbersOne wsX9_isUsed := goodIn_ca (goodIn_r _ [36, 37, 38, 20, 39, 40, 41, 21, 22, 23, 12, 24, 25, 26, 42, 43, 44, 45, 46, 47, 48, 49, 50, 51, 52, 53, 54, 55, 56, 57, 58, 59, 60, 61, 62, 63] (by decide +kernel) (by decide +kernel)) (goodIn_sub (fun _ h => List.mem_cons_of_mem _ (List.mem_append_right _ h)) (by decide +kernel))
set_option maxRecDepth 20000 in
theorem gX9_numbersOne_X9_isUsed : GoodIn wsX9_numbersOne (wsV RX9 109 RX9 yX9_isUsed wsX9_isUsed) := goodIn_app (goodIn_of _ (by decide +kernel)) ggX9_numbersOne_X9_isUsed
theorem dX9_numbersOne_0 : decode cX9_numbersOne 0 = .ok (.aload_n 0, 1) := by decide +kernel
theorem dX9_numbersOne_1 : decode cX9_numbersOne 1 = .ok (.iload_n 1, 1) := by decide +kernel
theorem dX9_numbersOne_2 : decode cX9_numbersOne 2 = .ok (.invokevirtual 97, 3) := by decide +kernel
theorem dX9_numbersOne_5 : decode cX9_numbersOne 5 = .ok (.istore_n 2, 1) := by decide +kernel
theorem dX9_numbersOne_6 : decode cX9_numbersOne 6 = .ok (.aload_n 0, 1) := by decide +kernel
theorem dX9_numbersOne_7 : decode cX9_numbersOne 7 = .ok (.iload_n 1, 1) := by decide +kernel
theorem dX9_numbersOne_8 : decode cX9_numbersOne 8 = .ok (.invokevirtual 100, 3) := by decide +kernel
theorem dX9_numbersOne_11 : decode cX9_numbersOne 11 = .ok (.istore_n 3, 1) := by decide +kernel
theorem dX9_numbersOne_12 : decode cX9_numbersOne 12 = .ok (.iload_n 2, 1) := by decide +kernel
theorem dX9_numbersOne_13 : decode cX9_numbersOne 13 = .ok (.ifCond .ge 7, 3) := by decide +kernel
theorem dX9_numbersOne_16 : decode cX9_numbersOne 16 = .ok (.iconst 0, 1) := by decide +kernel
theorem dX9_numbersOne_17 : decode cX9_numbersOne 17 = .ok (.goto 9, 3) := by decide +kernel
theorem dX9_numbersOne_20 : decode cX9_numbersOne 20 = .ok (.aload_n 0, 1) := by decide +kernel
theorem dX9_numbersOne_21 : decode cX9_numbersOne 21 = .ok (.getfield 22, 3) := by decide +kernel
theorem dX9_numbersOne_24 : decode cX9_numbersOne 24 = .ok (.iload_n 2, 1) := by decide +kernel
theorem dX9_numbersOne_25 : decode cX9_numbersOne 25 = .ok (.iaload, 1) := by decide +kernel
theorem dX9_numbersOne_26 : decode cX9_numbersOne 26 = .ok (.istore 4, 2) := by decide +kernel
theorem dX9_numbersOne_28 : decode cX9_numbersOne 28 = .ok (.iload 4, 2) := by decide +kernel
theorem dX9_numbersOne_30 : decode cX9_numbersOne 30 = .ok (.iconst 1, 1) := by decide +kernel
theorem dX9_numbersOne_31 : decode cX9_numbersOne 31 = .ok (.iadd, 1) := by decide +kernel
theorem dX9_numbersOne_32 : decode cX9_numbersOne 32 = .ok (.istore 5, 2) := by decide +kernel
theorem dX9_numbersOne_34 : decode cX9_numbersOne 34 = .ok (.iload_n 3, 1) := by decide +kernel
theorem dX9_numbersOne_35 : decode cX9_numbersOne 35 = .ok (.ifCond .ge 31, 3) := by decide +kernel
theorem dX9_numbersOne_38 : decode cX9_numbersOne 38 = .ok (.aload_n 0, 1) := by decide +kernel
theorem dX9_numbersOne_39 : decode cX9_numbersOne 39 = .ok (.getfield 13, 3) := by decide +kernel
theorem dX9_numbersOne_42 : decode cX9_numbersOne 42 = .ok (.iload_n 1, 1) := by decide +kernel
theorem dX9_numbersOne_43 : decode cX9_numbersOne 43 = .ok (.iaload, 1) := by decide +kernel
theorem dX9_numbersOne_44 : decode cX9_numbersOne 44 = .ok (.iload 5, 2) := by decide +kernel
theorem dX9_numbersOne_46 : decode cX9_numbersOne 46 = .ok (.iload_n 2, 1) := by decide +kernel
theorem dX9_numbersOne_47 : decode cX9_numbersOne 47 = .ok (.ifCond .ge 7, 3) := by decide +kernel
theorem dX9_numbersOne_50 : decode cX9_numbersOne 50 = .ok (.iconst 0, 1) := by decide +kernel
theorem dX9_numbersOne_51 : decode cX9_numbersOne 51 = .ok (.goto 9, 3) := by decide +kernel
theorem dX9_numbersOne_54 : decode cX9_numbersOne 54 = .ok (.aload_n 0, 1) := by decide +kernel
theorem dX9_numbersOne_55 : decode cX9_numbersOne 55 = .ok (.getfield 16, 3) := by decide +kernel
theorem dX9_numbersOne_58 : decode cX9_numbersOne 58 = .ok (.iload_n 2, 1) := by decide +kernel
theorem dX9_numbersOne_59 : decode cX9_numbersOne 59 = .ok (.iaload, 1) := by decide +kernel
theorem dX9_numbersOne_60 : decode cX9_numbersOne 60 = .ok (.iadd, 1) := by decide +kernel
theorem dX9_numbersOne_61 : decode cX9_numbersOne 61 = .ok (.invokestatic 103, 3) := by decide +kernel
theorem dX9_numbersOne_64 : decode cX9_numbersOne 64 = .ok (.istore 5, 2) := by decide +kernel
theorem dX9_numbersOne_66 : decode cX9_numbersOne 66 = .ok (.aload_n 0, 1) := by decide +kernel
theorem dX9_numbersOne_67 : decode cX9_numbersOne 67 = .ok (.iload_n 1, 1) := by decide +kernel
theorem dX9_numbersOne_68 : decode cX9_numbersOne 68 = .ok (.iload 5, 2) := by decide +kernel
theorem dX9_numbersOne_70 : decode cX9_numbersOne 70 = .ok (.invokevirtual 109, 3) := by decide +kernel
theorem dX9_numbersOne_73 : decode cX9_numbersOne 73 = .ok (.ifCond .eq 9, 3) := by decide +kernel
theorem dX9_numbersOne_76 : decode cX9_numbersOne 76 = .ok (.iinc 5 1, 3) := by decide +kernel
theorem dX9_numbersOne_79 : decode cX9_numbersOne 79 = .ok (.goto (-13), 3) := by decide +kernel
theorem dX9_numbersOne_82 : decode cX9_numbersOne 82 = .ok (.iload_n 3, 1) := by decide +kernel
theorem dX9_numbersOne_83 : decode cX9_numbersOne 83 = .ok (.ifCond .lt 18, 3) := by decide +kernel
theorem dX9_numbersOne_86 : decode cX9_numbersOne 86 = .ok (.iload 5, 2) := by decide +kernel
theorem dX9_numbersOne_88 : decode cX9_numbersOne 88 = .ok (.aload_n 0, 1) := by decide +kernel
theorem dX9_numbersOne_89 : decode cX9_numbersOne 89 = .ok (.getfield 22, 3) := by decide +kernel
theorem dX9_numbersOne_92 : decode cX9_numbersOne 92 = .ok (.iload_n 3, 1) := by decide +kernel
theorem dX9_numbersOne_93 : decode cX9_numbersOne 93 = .ok (.iaload, 1) := by decide +kernel
theorem dX9_numbersOne_94 : decode cX9_numbersOne 94 = .ok (.if_icmp .lt 7, 3) := by decide +kernel
theorem dX9_numbersOne_97 : decode cX9_numbersOne 97 = .ok (.iconst 1, 1) := by decide +kernel
theorem dX9_numbersOne_98 : decode cX9_numbersOne 98 = .ok (.goto 4, 3) := by decide +kernel
theorem dX9_numbersOne_101 : decode cX9_numbersOne 101 = .ok (.iconst 0, 1) := by decide +kernel
theorem dX9_numbersOne_102 : decode cX9_numbersOne 102 = .ok (.istore 6, 2) := by decide +kernel
theorem dX9_numbersOne_104 : decode cX9_numbersOne 104 = .ok (.aload_n 0, 1) := by decide +kernel
theorem dX9_numbersOne_105 : decode cX9_numbersOne 105 = .ok (.getfield 22, 3) := by decide +kernel
theorem dX9_numbersOne_108 : decode cX9_numbersOne 108 = .ok (.iload_n 1, 1) := by decide +kernel
theorem dX9_numbersOne_109 : decode cX9_numbersOne 109 = .ok (.iload 6, 2) := by decide +kernel
theorem dX9_numbersOne_111 : decode cX9_numbersOne 111 = .ok (.ifCond .eq 8, 3) := by decide +kernel
theorem dX9_numbersOne_114 : decode cX9_numbersOne 114 = .ok (.iload 4, 2) := by decide +kernel
theorem dX9_numbersOne_116 : decode cX9_numbersOne 116 = .ok (.goto 5, 3) := by decide +kernel
theorem dX9_numbersOne_119 : decode cX9_numbersOne 119 = .ok (.iload 5, 2) := by decide +kernel
theorem dX9_numbersOne_121 : decode cX9_numbersOne 121 = .ok (.iastore, 1) := by decide +kernel
theorem dX9_numbersOne_122 : decode cX9_numbersOne 122 = .ok (.aload_n 0, 1) := by decide +kernel
theorem dX9_numbersOne_123 : decode cX9_numbersOne 123 = .ok (.getfield 25, 3) := by decide +kernel
theorem dX9_numbersOne_126 : decode cX9_numbersOne 126 = .ok (.iload_n 1, 1) := by decide +kernel
theorem dX9_numbersOne_127 : decode cX9_numbersOne 127 = .ok (.iload 6, 2) := by decide +kernel
theorem dX9_numbersOne_129 : decode cX9_numbersOne 129 = .ok (.ifCond .eq 22, 3) := by decide +kernel
theorem dX9_numbersOne_132 : decode cX9_numbersOne 132 = .ok (.iconst 1, 1) := by decide +kernel
theorem dX9_numbersOne_133 : decode cX9_numbersOne 133 = .ok (.iload_n 2, 1) := by decide +kernel
theorem dX9_numbersOne_134 : decode cX9_numbersOne 134 = .ok (.ifCond .ge 7, 3) := by decide +kernel
theorem dX9_numbersOne_137 : decode cX9_numbersOne 137 = .ok (.iconst 0, 1) := by decide +kernel
theorem dX9_numbersOne_138 : decode cX9_numbersOne 138 = .ok (.goto 9, 3) := by decide +kernel
theorem dX9_numbersOne_141 : decode cX9_numbersOne 141 = .ok (.aload_n 0, 1) := by decide +kernel
theorem dX9_numbersOne_142 : decode cX9_numbersOne 142 = .ok (.getfield 25, 3) := by decide +kernel
theorem dX9_numbersOne_145 : decode cX9_numbersOne 145 = .ok (.iload_n 2, 1) := by decide +kernel
theorem dX9_numbersOne_146 : decode cX9_numbersOne 146 = .ok (.iaload, 1) := by decide +kernel
theorem dX9_numbersOne_147 : decode cX9_numbersOne 147 = .ok (.iadd, 1) := by decide +kernel
theorem dX9_numbersOne_148 : decode cX9_numbersOne 148 = .ok (.goto 4, 3) := by decide +kernel
theorem dX9_numbersOne_151 : decode cX9_numbersOne 151 = .ok (.iconst 0, 1) := by decide +kernel
theorem dX9_numbersOne_152 : decode cX9_numbersOne 152 = .ok (.iastore, 1) := by decide +kernel
theorem dX9_numbersOne_153 : decode cX9_numbersOne 153 = .ok (.return_, 1) := by decide +kernel
set_option maxRecDepth 20000 in
theorem ggX9_settles_X9_parentAt : GoodIn wsX9_settles wsX9_parentAt := goodIn_ca (goodIn_r _ [11, 5, 3, 50, 51, 52, 53, 54, 55, 56, 57, 58, 59, 60, 61, 62, 63, 64, 65, 66, 67, 68, 69, 70, 71] (by decide +kernel) (by decide +kernel)) (goodIn_sub (fun _ h => List.mem_cons_of_mem _ (List.mem_append_right _ h)) (by decide +kernel))
set_option maxRecDepth 20000 in
theorem gX9_settles_X9_parentAt : GoodIn wsX9_settles (wsV RX9 112 RX9 yX9_parentAt wsX9_parentAt) := goodIn_app (goodIn_of _ (by decide +kernel)) ggX9_settles_X9_parentAt
set_option maxRecDepth 20000 in
theorem ggX9_settles_X9_numbersOne : GoodIn wsX9_settles wsX9_numbersOne := goodIn_ca (goodIn_r _ [15, 16, 17, 18, 19, 20, 21, 22, 23, 24, 25, 26, 10, 27, 2, 3, 28, 29, 30, 31, 5, 32, 33, 34, 35, 36, 4, 37, 38, 39, 40, 1, 6, 41, 42, 43, 44, 45, 46, 47, 48, 49, 50, 51, 52, 53, 54, 55, 56, 57, 58, 59, 60, 61, 62, 63, 64, 65, 66, 67, 68, 69, 70, 71] (by decide +kernel) (by decide +kernel)) (goodIn_sub (fun _ h => List.mem_cons_of_mem _ (List.mem_append_right _ h)) (by decide +kernel))
set_option maxRecDepth 20000 in
theorem gX9_settles_X9_numbersOne : GoodIn wsX9_settles (wsV RX9 115 RX9 yX9_numbersOne wsX9_numbersOne) := goodIn_app (goodIn_of _ (by decide +kernel)) ggX9_settles_X9_numbersOne
theorem dX9_settles_0 : decode cX9_settles 0 = .ok (.iconst 0, 1) := by decide +kernel
theorem dX9_settles_1 : decode cX9_settles 1 = .ok (.istore_n 1, 1) := by decide +kernel
theorem dX9_settles_2 : decode cX9_settles 2 = .ok (.iload_n 1, 1) := by decide +kernel
theorem dX9_settles_3 : decode cX9_settles 3 = .ok (.aload_n 0, 1) := by decide +kernel
theorem dX9_settles_4 : decode cX9_settles 4 = .ok (.getfield 91, 3) := by decide +kernel
theorem dX9_settles_7 : decode cX9_settles 7 = .ok (.if_icmp .ge 37, 3) := by decide +kernel
theorem dX9_settles_10 : decode cX9_settles 10 = .ok (.aload_n 0, 1) := by decide +kernel
theorem dX9_settles_11 : decode cX9_settles 11 = .ok (.getfield 28, 3) := by decide +kernel
theorem dX9_settles_14 : decode cX9_settles 14 = .ok (.aload_n 0, 1) := by decide +kernel
theorem dX9_settles_15 : decode cX9_settles 15 = .ok (.getfield 31, 3) := by decide +kernel
theorem dX9_settles_18 : decode cX9_settles 18 = .ok (.iload_n 1, 1) := by decide +kernel
theorem dX9_settles_19 : decode cX9_settles 19 = .ok (.iaload, 1) := by decide +kernel
theorem dX9_settles_20 : decode cX9_settles 20 = .ok (.iload_n 1, 1) := by decide +kernel
theorem dX9_settles_21 : decode cX9_settles 21 = .ok (.iastore, 1) := by decide +kernel
theorem dX9_settles_22 : decode cX9_settles 22 = .ok (.aload_n 0, 1) := by decide +kernel
theorem dX9_settles_23 : decode cX9_settles 23 = .ok (.getfield 19, 3) := by decide +kernel
theorem dX9_settles_26 : decode cX9_settles 26 = .ok (.aload_n 0, 1) := by decide +kernel
theorem dX9_settles_27 : decode cX9_settles 27 = .ok (.getfield 31, 3) := by decide +kernel
theorem dX9_settles_30 : decode cX9_settles 30 = .ok (.iload_n 1, 1) := by decide +kernel
theorem dX9_settles_31 : decode cX9_settles 31 = .ok (.iaload, 1) := by decide +kernel
theorem dX9_settles_32 : decode cX9_settles 32 = .ok (.aload_n 0, 1) := by decide +kernel
theorem dX9_settles_33 : decode cX9_settles 33 = .ok (.iload_n 1, 1) := by decide +kernel
theorem dX9_settles_34 : decode cX9_settles 34 = .ok (.invokevirtual 112, 3) := by decide +kernel
theorem dX9_settles_37 : decode cX9_settles 37 = .ok (.iastore, 1) := by decide +kernel
theorem dX9_settles_38 : decode cX9_settles 38 = .ok (.iinc 1 1, 3) := by decide +kernel
theorem dX9_settles_41 : decode cX9_settles 41 = .ok (.goto (-39), 3) := by decide +kernel
theorem dX9_settles_44 : decode cX9_settles 44 = .ok (.iconst 0, 1) := by decide +kernel
theorem dX9_settles_45 : decode cX9_settles 45 = .ok (.istore_n 1, 1) := by decide +kernel
theorem dX9_settles_46 : decode cX9_settles 46 = .ok (.iload_n 1, 1) := by decide +kernel
theorem dX9_settles_47 : decode cX9_settles 47 = .ok (.aload_n 0, 1) := by decide +kernel
theorem dX9_settles_48 : decode cX9_settles 48 = .ok (.getfield 91, 3) := by decide +kernel
theorem dX9_settles_51 : decode cX9_settles 51 = .ok (.if_icmp .ge 47, 3) := by decide +kernel
theorem dX9_settles_54 : decode cX9_settles 54 = .ok (.aload_n 0, 1) := by decide +kernel
theorem dX9_settles_55 : decode cX9_settles 55 = .ok (.getfield 9, 3) := by decide +kernel
theorem dX9_settles_58 : decode cX9_settles 58 = .ok (.aload_n 0, 1) := by decide +kernel
theorem dX9_settles_59 : decode cX9_settles 59 = .ok (.getfield 31, 3) := by decide +kernel
theorem dX9_settles_62 : decode cX9_settles 62 = .ok (.iload_n 1, 1) := by decide +kernel
theorem dX9_settles_63 : decode cX9_settles 63 = .ok (.iaload, 1) := by decide +kernel
theorem dX9_settles_64 : decode cX9_settles 64 = .ok (.iaload, 1) := by decide +kernel
theorem dX9_settles_65 : decode cX9_settles 65 = .ok (.ifCond .le 27, 3) := by decide +kernel
theorem dX9_settles_68 : decode cX9_settles 68 = .ok (.aload_n 0, 1) := by decide +kernel
theorem dX9_settles_69 : decode cX9_settles 69 = .ok (.getfield 34, 3) := by decide +kernel
theorem dX9_settles_72 : decode cX9_settles 72 = .ok (.aload_n 0, 1) := by decide +kernel
theorem dX9_settles_73 : decode cX9_settles 73 = .ok (.getfield 31, 3) := by decide +kernel
theorem dX9_settles_76 : decode cX9_settles 76 = .ok (.iload_n 1, 1) := by decide +kernel
theorem dX9_settles_77 : decode cX9_settles 77 = .ok (.iaload, 1) := by decide +kernel
theorem dX9_settles_78 : decode cX9_settles 78 = .ok (.baload, 1) := by decide +kernel
theorem dX9_settles_79 : decode cX9_settles 79 = .ok (.ifCond .ne 13, 3) := by decide +kernel
theorem dX9_settles_82 : decode cX9_settles 82 = .ok (.aload_n 0, 1) := by decide +kernel
theorem dX9_settles_83 : decode cX9_settles 83 = .ok (.aload_n 0, 1) := by decide +kernel
theorem dX9_settles_84 : decode cX9_settles 84 = .ok (.getfield 31, 3) := by decide +kernel
theorem dX9_settles_87 : decode cX9_settles 87 = .ok (.iload_n 1, 1) := by decide +kernel
theorem dX9_settles_88 : decode cX9_settles 88 = .ok (.iaload, 1) := by decide +kernel
theorem dX9_settles_89 : decode cX9_settles 89 = .ok (.invokevirtual 115, 3) := by decide +kernel
theorem dX9_settles_92 : decode cX9_settles 92 = .ok (.iinc 1 1, 3) := by decide +kernel
theorem dX9_settles_95 : decode cX9_settles 95 = .ok (.goto (-49), 3) := by decide +kernel
theorem dX9_settles_98 : decode cX9_settles 98 = .ok (.return_, 1) := by decide +kernel
set_option maxRecDepth 20000 in
theorem ggX9_isParting_X9_parentAt : GoodIn wsX9_isParting wsX9_parentAt := goodIn_ca (goodIn_r _ [9, 10, 3, 11, 12, 13, 14, 15, 16, 17, 18, 19, 20, 21, 22, 23, 24, 25, 26, 27, 28, 29, 30, 31, 32] (by decide +kernel) (by decide +kernel)) (goodIn_sub (fun _ h => List.mem_cons_of_mem _ (List.mem_append_right _ h)) (by decide +kernel))
set_option maxRecDepth 20000 in
theorem gX9_isParting_X9_parentAt : GoodIn wsX9_isParting (wsV RX9 112 RX9 yX9_parentAt wsX9_parentAt) := goodIn_app (goodIn_of _ (by decide +kernel)) ggX9_isParting_X9_parentAt
theorem dX9_isParting_0 : decode cX9_isParting 0 = .ok (.iconst 0, 1) := by decide +kernel
theorem dX9_isParting_1 : decode cX9_isParting 1 = .ok (.istore_n 1, 1) := by decide +kernel
theorem dX9_isParting_2 : decode cX9_isParting 2 = .ok (.iload_n 1, 1) := by decide +kernel
theorem dX9_isParting_3 : decode cX9_isParting 3 = .ok (.aload_n 0, 1) := by decide +kernel
theorem dX9_isParting_4 : decode cX9_isParting 4 = .ok (.getfield 91, 3) := by decide +kernel
theorem dX9_isParting_7 : decode cX9_isParting 7 = .ok (.if_icmp .ge 44, 3) := by decide +kernel
theorem dX9_isParting_10 : decode cX9_isParting 10 = .ok (.aload_n 0, 1) := by decide +kernel
theorem dX9_isParting_11 : decode cX9_isParting 11 = .ok (.getfield 34, 3) := by decide +kernel
theorem dX9_isParting_14 : decode cX9_isParting 14 = .ok (.aload_n 0, 1) := by decide +kernel
theorem dX9_isParting_15 : decode cX9_isParting 15 = .ok (.getfield 31, 3) := by decide +kernel
theorem dX9_isParting_18 : decode cX9_isParting 18 = .ok (.iload_n 1, 1) := by decide +kernel
theorem dX9_isParting_19 : decode cX9_isParting 19 = .ok (.iaload, 1) := by decide +kernel
theorem dX9_isParting_20 : decode cX9_isParting 20 = .ok (.baload, 1) := by decide +kernel
theorem dX9_isParting_21 : decode cX9_isParting 21 = .ok (.ifCond .eq 24, 3) := by decide +kernel
theorem dX9_isParting_24 : decode cX9_isParting 24 = .ok (.aload_n 0, 1) := by decide +kernel
theorem dX9_isParting_25 : decode cX9_isParting 25 = .ok (.iload_n 1, 1) := by decide +kernel
theorem dX9_isParting_26 : decode cX9_isParting 26 = .ok (.invokevirtual 112, 3) := by decide +kernel
theorem dX9_isParting_29 : decode cX9_isParting 29 = .ok (.aload_n 0, 1) := by decide +kernel
theorem dX9_isParting_30 : decode cX9_isParting 30 = .ok (.getfield 19, 3) := by decide +kernel
theorem dX9_isParting_33 : decode cX9_isParting 33 = .ok (.aload_n 0, 1) := by decide +kernel
theorem dX9_isParting_34 : decode cX9_isParting 34 = .ok (.getfield 31, 3) := by decide +kernel
theorem dX9_isParting_37 : decode cX9_isParting 37 = .ok (.iload_n 1, 1) := by decide +kernel
theorem dX9_isParting_38 : decode cX9_isParting 38 = .ok (.iaload, 1) := by decide +kernel
theorem dX9_isParting_39 : decode cX9_isParting 39 = .ok (.iaload, 1) := by decide +kernel
theorem dX9_isParting_40 : decode cX9_isParting 40 = .ok (.if_icmp .eq 5, 3) := by decide +kernel
theorem dX9_isParting_43 : decode cX9_isParting 43 = .ok (.iconst 1, 1) := by decide +kernel
theorem dX9_isParting_44 : decode cX9_isParting 44 = .ok (.ireturn, 1) := by decide +kernel
theorem dX9_isParting_45 : decode cX9_isParting 45 = .ok (.iinc 1 1, 3) := by decide +kernel
theorem dX9_isParting_48 : decode cX9_isParting 48 = .ok (.goto (-46), 3) := by decide +kernel
theorem dX9_isParting_51 : decode cX9_isParting 51 = .ok (.iconst 0, 1) := by decide +kernel
theorem dX9_isParting_52 : decode cX9_isParting 52 = .ok (.ireturn, 1) := by decide +kernel
theorem dX9_putsIn_0 : decode cX9_putsIn 0 = .ok (.aload_n 0, 1) := by decide +kernel
theorem dX9_putsIn_1 : decode cX9_putsIn 1 = .ok (.getfield 91, 3) := by decide +kernel
theorem dX9_putsIn_4 : decode cX9_putsIn 4 = .ok (.istore_n 3, 1) := by decide +kernel
theorem dX9_putsIn_5 : decode cX9_putsIn 5 = .ok (.iload_n 3, 1) := by decide +kernel
theorem dX9_putsIn_6 : decode cX9_putsIn 6 = .ok (.iload_n 2, 1) := by decide +kernel
theorem dX9_putsIn_7 : decode cX9_putsIn 7 = .ok (.if_icmp .le 23, 3) := by decide +kernel
theorem dX9_putsIn_10 : decode cX9_putsIn 10 = .ok (.aload_n 0, 1) := by decide +kernel
theorem dX9_putsIn_11 : decode cX9_putsIn 11 = .ok (.getfield 31, 3) := by decide +kernel
theorem dX9_putsIn_14 : decode cX9_putsIn 14 = .ok (.iload_n 3, 1) := by decide +kernel
theorem dX9_putsIn_15 : decode cX9_putsIn 15 = .ok (.aload_n 0, 1) := by decide +kernel
theorem dX9_putsIn_16 : decode cX9_putsIn 16 = .ok (.getfield 31, 3) := by decide +kernel
theorem dX9_putsIn_19 : decode cX9_putsIn 19 = .ok (.iload_n 3, 1) := by decide +kernel
theorem dX9_putsIn_20 : decode cX9_putsIn 20 = .ok (.iconst 1, 1) := by decide +kernel
theorem dX9_putsIn_21 : decode cX9_putsIn 21 = .ok (.isub, 1) := by decide +kernel
theorem dX9_putsIn_22 : decode cX9_putsIn 22 = .ok (.iaload, 1) := by decide +kernel
theorem dX9_putsIn_23 : decode cX9_putsIn 23 = .ok (.iastore, 1) := by decide +kernel
theorem dX9_putsIn_24 : decode cX9_putsIn 24 = .ok (.iinc 3 (-1), 3) := by decide +kernel
theorem dX9_putsIn_27 : decode cX9_putsIn 27 = .ok (.goto (-22), 3) := by decide +kernel
theorem dX9_putsIn_30 : decode cX9_putsIn 30 = .ok (.aload_n 0, 1) := by decide +kernel
theorem dX9_putsIn_31 : decode cX9_putsIn 31 = .ok (.getfield 31, 3) := by decide +kernel
theorem dX9_putsIn_34 : decode cX9_putsIn 34 = .ok (.iload_n 2, 1) := by decide +kernel
theorem dX9_putsIn_35 : decode cX9_putsIn 35 = .ok (.iload_n 1, 1) := by decide +kernel
theorem dX9_putsIn_36 : decode cX9_putsIn 36 = .ok (.iastore, 1) := by decide +kernel
theorem dX9_putsIn_37 : decode cX9_putsIn 37 = .ok (.aload_n 0, 1) := by decide +kernel
theorem dX9_putsIn_38 : decode cX9_putsIn 38 = .ok (.dup, 1) := by decide +kernel
theorem dX9_putsIn_39 : decode cX9_putsIn 39 = .ok (.getfield 91, 3) := by decide +kernel
theorem dX9_putsIn_42 : decode cX9_putsIn 42 = .ok (.iconst 1, 1) := by decide +kernel
theorem dX9_putsIn_43 : decode cX9_putsIn 43 = .ok (.iadd, 1) := by decide +kernel
theorem dX9_putsIn_44 : decode cX9_putsIn 44 = .ok (.putfield 91, 3) := by decide +kernel
theorem dX9_putsIn_47 : decode cX9_putsIn 47 = .ok (.return_, 1) := by decide +kernel
theorem dX9_takesOut_0 : decode cX9_takesOut 0 = .ok (.aload_n 0, 1) := by decide +kernel
theorem dX9_takesOut_1 : decode cX9_takesOut 1 = .ok (.dup, 1) := by decide +kernel
theorem dX9_takesOut_2 : decode cX9_takesOut 2 = .ok (.getfield 91, 3) := by decide +kernel
theorem dX9_takesOut_5 : decode cX9_takesOut 5 = .ok (.iconst 1, 1) := by decide +kernel
theorem dX9_takesOut_6 : decode cX9_takesOut 6 = .ok (.isub, 1) := by decide +kernel
theorem dX9_takesOut_7 : decode cX9_takesOut 7 = .ok (.putfield 91, 3) := by decide +kernel
theorem dX9_takesOut_10 : decode cX9_takesOut 10 = .ok (.iload_n 1, 1) := by decide +kernel
theorem dX9_takesOut_11 : decode cX9_takesOut 11 = .ok (.istore_n 2, 1) := by decide +kernel
theorem dX9_takesOut_12 : decode cX9_takesOut 12 = .ok (.iload_n 2, 1) := by decide +kernel
theorem dX9_takesOut_13 : decode cX9_takesOut 13 = .ok (.aload_n 0, 1) := by decide +kernel
theorem dX9_takesOut_14 : decode cX9_takesOut 14 = .ok (.getfield 91, 3) := by decide +kernel
theorem dX9_takesOut_17 : decode cX9_takesOut 17 = .ok (.if_icmp .ge 23, 3) := by decide +kernel
theorem dX9_takesOut_20 : decode cX9_takesOut 20 = .ok (.aload_n 0, 1) := by decide +kernel
theorem dX9_takesOut_21 : decode cX9_takesOut 21 = .ok (.getfield 31, 3) := by decide +kernel
theorem dX9_takesOut_24 : decode cX9_takesOut 24 = .ok (.iload_n 2, 1) := by decide +kernel
theorem dX9_takesOut_25 : decode cX9_takesOut 25 = .ok (.aload_n 0, 1) := by decide +kernel
theorem dX9_takesOut_26 : decode cX9_takesOut 26 = .ok (.getfield 31, 3) := by decide +kernel
theorem dX9_takesOut_29 : decode cX9_takesOut 29 = .ok (.iload_n 2, 1) := by decide +kernel
theorem dX9_takesOut_30 : decode cX9_takesOut 30 = .ok (.iconst 1, 1) := by decide +kernel
theorem dX9_takesOut_31 : decode cX9_takesOut 31 = .ok (.iadd, 1) := by decide +kernel
