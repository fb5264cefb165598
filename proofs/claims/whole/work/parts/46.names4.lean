set_option maxRecDepth 20000 in
theorem ggL_setStation_X4_setStation : GoodIn wsL_setStation wsX4_setStation := goodIn_ca (goodIn_ca (goodIn_ca (goodIn_r _ [8, 9, 10, 11, 12, 13, 14, 15, 16, 17, 7, 18, 19, 20, 21, 22, 23, 24, 25, 26, 27, 28, 29, 30, 31, 32, 33, 34, 35, 36, 37, 38, 39] (by decide +kernel) (by decide +kernel)) (goodIn_sub (fun _ h => List.mem_cons_of_mem _ (List.mem_append_left _ (List.mem_append_left _ (List.mem_append_right _ h)))) (by decide +kernel))) (goodIn_sub (fun _ h => List.mem_cons_of_mem _ (List.mem_append_left _ (List.mem_append_right _ h))) (by decide +kernel))) (goodIn_sub (fun _ h => List.mem_cons_of_mem _ (List.mem_append_right _ h)) (by decide +kernel))
set_option maxRecDepth 20000 in
theorem gL_setStation_X4_setStation : GoodIn wsL_setStation (wsV RL 7 RX4 yX4_setStation wsX4_setStation) := goodIn_app (goodIn_of _ (by decide +kernel)) ggL_setStation_X4_setStation
theorem dL_setStation_0 : decode cL_setStation 0 = .ok (.aload 4, 2) := by decide +kernel
theorem dL_setStation_2 : decode cL_setStation 2 = .ok (.iconst 0, 1) := by decide +kernel
theorem dL_setStation_3 : decode cL_setStation 3 = .ok (.aload_n 0, 1) := by decide +kernel
theorem dL_setStation_4 : decode cL_setStation 4 = .ok (.iload_n 1, 1) := by decide +kernel
theorem dL_setStation_5 : decode cL_setStation 5 = .ok (.iload_n 2, 1) := by decide +kernel
theorem dL_setStation_6 : decode cL_setStation 6 = .ok (.iload_n 3, 1) := by decide +kernel
theorem dL_setStation_7 : decode cL_setStation 7 = .ok (.invokevirtual 7, 3) := by decide +kernel
theorem dL_setStation_10 : decode cL_setStation 10 = .ok (.i2l, 1) := by decide +kernel
theorem dL_setStation_11 : decode cL_setStation 11 = .ok (.lastore, 1) := by decide +kernel
theorem dL_setStation_12 : decode cL_setStation 12 = .ok (.goto 15, 3) := by decide +kernel
theorem dL_setStation_15 : decode cL_setStation 15 = .ok (.astore 5, 2) := by decide +kernel
theorem dL_setStation_17 : decode cL_setStation 17 = .ok (.iconst 1, 1) := by decide +kernel
theorem dL_setStation_18 : decode cL_setStation 18 = .ok (.ireturn, 1) := by decide +kernel
theorem dL_setStation_19 : decode cL_setStation 19 = .ok (.astore 5, 2) := by decide +kernel
theorem dL_setStation_21 : decode cL_setStation 21 = .ok (.iconst 2, 1) := by decide +kernel
theorem dL_setStation_22 : decode cL_setStation 22 = .ok (.ireturn, 1) := by decide +kernel
theorem dL_setStation_23 : decode cL_setStation 23 = .ok (.astore 5, 2) := by decide +kernel
theorem dL_setStation_25 : decode cL_setStation 25 = .ok (.iconst 3, 1) := by decide +kernel
theorem dL_setStation_26 : decode cL_setStation 26 = .ok (.ireturn, 1) := by decide +kernel
theorem dL_setStation_27 : decode cL_setStation 27 = .ok (.iconst 0, 1) := by decide +kernel
theorem dL_setStation_28 : decode cL_setStation 28 = .ok (.ireturn, 1) := by decide +kernel
set_option maxRecDepth 20000 in
theorem ggL_post_X4_post : GoodIn wsL_post wsX4_post := goodIn_ca (goodIn_ca (goodIn_r _ [7, 8, 9, 10, 11, 12, 13, 14, 6, 15, 16, 17, 18, 19, 20, 21, 22, 23, 24, 25, 26, 27, 28, 29, 30, 31, 32, 33, 34, 35, 36, 37, 38, 39, 40, 41, 42, 43] (by decide +kernel) (by decide +kernel)) (goodIn_sub (fun _ h => List.mem_cons_of_mem _ (List.mem_append_left _ (List.mem_append_right _ h))) (by decide +kernel))) (goodIn_sub (fun _ h => List.mem_cons_of_mem _ (List.mem_append_right _ h)) (by decide +kernel))
set_option maxRecDepth 20000 in
theorem gL_post_X4_post : GoodIn wsL_post (wsV RL 19 RX4 yX4_post wsX4_post) := goodIn_app (goodIn_of _ (by decide +kernel)) ggL_post_X4_post
theorem dL_post_0 : decode cL_post 0 = .ok (.aload_n 3, 1) := by decide +kernel
theorem dL_post_1 : decode cL_post 1 = .ok (.iconst 0, 1) := by decide +kernel
theorem dL_post_2 : decode cL_post 2 = .ok (.aload_n 0, 1) := by decide +kernel
theorem dL_post_3 : decode cL_post 3 = .ok (.iload_n 1, 1) := by decide +kernel
theorem dL_post_4 : decode cL_post 4 = .ok (.iload_n 2, 1) := by decide +kernel
theorem dL_post_5 : decode cL_post 5 = .ok (.invokevirtual 19, 3) := by decide +kernel
theorem dL_post_8 : decode cL_post 8 = .ok (.i2l, 1) := by decide +kernel
theorem dL_post_9 : decode cL_post 9 = .ok (.lastore, 1) := by decide +kernel
theorem dL_post_10 : decode cL_post 10 = .ok (.goto 11, 3) := by decide +kernel
theorem dL_post_13 : decode cL_post 13 = .ok (.astore 4, 2) := by decide +kernel
theorem dL_post_15 : decode cL_post 15 = .ok (.iconst 1, 1) := by decide +kernel
theorem dL_post_16 : decode cL_post 16 = .ok (.ireturn, 1) := by decide +kernel
theorem dL_post_17 : decode cL_post 17 = .ok (.astore 4, 2) := by decide +kernel
theorem dL_post_19 : decode cL_post 19 = .ok (.iconst 2, 1) := by decide +kernel
theorem dL_post_20 : decode cL_post 20 = .ok (.ireturn, 1) := by decide +kernel
theorem dL_post_21 : decode cL_post 21 = .ok (.iconst 0, 1) := by decide +kernel
theorem dL_post_22 : decode cL_post 22 = .ok (.ireturn, 1) := by decide +kernel
set_option maxRecDepth 20000 in
theorem ggL_hire_X4_hire : GoodIn wsL_hire wsX4_hire := goodIn_ca (goodIn_ca (goodIn_r _ [7, 8, 9, 10, 11, 12, 13, 14, 15, 6, 16, 17, 18, 19, 20, 21, 22, 23, 24, 25, 26, 27, 28, 29, 30, 31, 32, 33, 34, 35, 36, 37, 38, 39, 40, 41] (by decide +kernel) (by decide +kernel)) (goodIn_sub (fun _ h => List.mem_cons_of_mem _ (List.mem_append_left _ (List.mem_append_right _ h))) (by decide +kernel))) (goodIn_sub (fun _ h => List.mem_cons_of_mem _ (List.mem_append_right _ h)) (by decide +kernel))
set_option maxRecDepth 20000 in
theorem gL_hire_X4_hire : GoodIn wsL_hire (wsV RL 23 RX4 yX4_hire wsX4_hire) := goodIn_app (goodIn_of _ (by decide +kernel)) ggL_hire_X4_hire
theorem dL_hire_0 : decode cL_hire 0 = .ok (.aload_n 3, 1) := by decide +kernel
theorem dL_hire_1 : decode cL_hire 1 = .ok (.iconst 0, 1) := by decide +kernel
theorem dL_hire_2 : decode cL_hire 2 = .ok (.aload_n 0, 1) := by decide +kernel
theorem dL_hire_3 : decode cL_hire 3 = .ok (.iload_n 1, 1) := by decide +kernel
theorem dL_hire_4 : decode cL_hire 4 = .ok (.iload_n 2, 1) := by decide +kernel
theorem dL_hire_5 : decode cL_hire 5 = .ok (.invokevirtual 23, 3) := by decide +kernel
theorem dL_hire_8 : decode cL_hire 8 = .ok (.i2l, 1) := by decide +kernel
theorem dL_hire_9 : decode cL_hire 9 = .ok (.lastore, 1) := by decide +kernel
theorem dL_hire_10 : decode cL_hire 10 = .ok (.goto 11, 3) := by decide +kernel
theorem dL_hire_13 : decode cL_hire 13 = .ok (.astore 4, 2) := by decide +kernel
theorem dL_hire_15 : decode cL_hire 15 = .ok (.iconst 1, 1) := by decide +kernel
theorem dL_hire_16 : decode cL_hire 16 = .ok (.ireturn, 1) := by decide +kernel
theorem dL_hire_17 : decode cL_hire 17 = .ok (.astore 4, 2) := by decide +kernel
theorem dL_hire_19 : decode cL_hire 19 = .ok (.iconst 2, 1) := by decide +kernel
theorem dL_hire_20 : decode cL_hire 20 = .ok (.ireturn, 1) := by decide +kernel
theorem dL_hire_21 : decode cL_hire 21 = .ok (.iconst 0, 1) := by decide +kernel
theorem dL_hire_22 : decode cL_hire 22 = .ok (.ireturn, 1) := by decide +kernel
set_option maxRecDepth 20000 in
theorem ggL_assign_X4_assign : GoodIn wsL_assign wsX4_assign := goodIn_ca (goodIn_ca (goodIn_r _ [7, 8, 9, 10, 11, 12, 13, 14, 6, 15, 16, 17, 18, 19, 20, 21, 22, 23, 24, 25, 26, 27, 28, 29, 30, 31, 32, 33, 34, 35, 36] (by decide +kernel) (by decide +kernel)) (goodIn_sub (fun _ h => List.mem_cons_of_mem _ (List.mem_append_left _ (List.mem_append_right _ h))) (by decide +kernel))) (goodIn_sub (fun _ h => List.mem_cons_of_mem _ (List.mem_append_right _ h)) (by decide +kernel))
set_option maxRecDepth 20000 in
theorem gL_assign_X4_assign : GoodIn wsL_assign (wsV RL 26 RX4 yX4_assign wsX4_assign) := goodIn_app (goodIn_of _ (by decide +kernel)) ggL_assign_X4_assign
theorem dL_assign_0 : decode cL_assign 0 = .ok (.aload_n 3, 1) := by decide +kernel
theorem dL_assign_1 : decode cL_assign 1 = .ok (.iconst 0, 1) := by decide +kernel
theorem dL_assign_2 : decode cL_assign 2 = .ok (.aload_n 0, 1) := by decide +kernel
theorem dL_assign_3 : decode cL_assign 3 = .ok (.iload_n 1, 1) := by decide +kernel
theorem dL_assign_4 : decode cL_assign 4 = .ok (.iload_n 2, 1) := by decide +kernel
theorem dL_assign_5 : decode cL_assign 5 = .ok (.invokevirtual 26, 3) := by decide +kernel
theorem dL_assign_8 : decode cL_assign 8 = .ok (.i2l, 1) := by decide +kernel
theorem dL_assign_9 : decode cL_assign 9 = .ok (.lastore, 1) := by decide +kernel
theorem dL_assign_10 : decode cL_assign 10 = .ok (.goto 11, 3) := by decide +kernel
theorem dL_assign_13 : decode cL_assign 13 = .ok (.astore 4, 2) := by decide +kernel
theorem dL_assign_15 : decode cL_assign 15 = .ok (.iconst 1, 1) := by decide +kernel
theorem dL_assign_16 : decode cL_assign 16 = .ok (.ireturn, 1) := by decide +kernel
theorem dL_assign_17 : decode cL_assign 17 = .ok (.astore 4, 2) := by decide +kernel
theorem dL_assign_19 : decode cL_assign 19 = .ok (.iconst 2, 1) := by decide +kernel
theorem dL_assign_20 : decode cL_assign 20 = .ok (.ireturn, 1) := by decide +kernel
theorem dL_assign_21 : decode cL_assign 21 = .ok (.iconst 0, 1) := by decide +kernel
theorem dL_assign_22 : decode cL_assign 22 = .ok (.ireturn, 1) := by decide +kernel
set_option maxRecDepth 20000 in
theorem ggL_tea_X4_tea : GoodIn wsL_tea wsX4_tea := goodIn_ca (goodIn_r _ [6, 7, 8, 9, 10, 11, 12, 13, 5, 14, 15, 16, 17, 18, 19, 20, 21, 22, 23, 24, 25, 26, 27, 28, 29, 30] (by decide +kernel) (by decide +kernel)) (goodIn_sub (fun _ h => List.mem_cons_of_mem _ (List.mem_append_right _ h)) (by decide +kernel))
set_option maxRecDepth 20000 in
theorem gL_tea_X4_tea : GoodIn wsL_tea (wsV RL 29 RX4 yX4_tea wsX4_tea) := goodIn_app (goodIn_of _ (by decide +kernel)) ggL_tea_X4_tea
theorem dL_tea_0 : decode cL_tea 0 = .ok (.aload_n 2, 1) := by decide +kernel
theorem dL_tea_1 : decode cL_tea 1 = .ok (.iconst 0, 1) := by decide +kernel
theorem dL_tea_2 : decode cL_tea 2 = .ok (.aload_n 0, 1) := by decide +kernel
theorem dL_tea_3 : decode cL_tea 3 = .ok (.iload_n 1, 1) := by decide +kernel
theorem dL_tea_4 : decode cL_tea 4 = .ok (.invokevirtual 29, 3) := by decide +kernel
theorem dL_tea_7 : decode cL_tea 7 = .ok (.i2l, 1) := by decide +kernel
theorem dL_tea_8 : decode cL_tea 8 = .ok (.lastore, 1) := by decide +kernel
theorem dL_tea_9 : decode cL_tea 9 = .ok (.goto 6, 3) := by decide +kernel
theorem dL_tea_12 : decode cL_tea 12 = .ok (.astore_n 3, 1) := by decide +kernel
theorem dL_tea_13 : decode cL_tea 13 = .ok (.iconst 1, 1) := by decide +kernel
theorem dL_tea_14 : decode cL_tea 14 = .ok (.ireturn, 1) := by decide +kernel
theorem dL_tea_15 : decode cL_tea 15 = .ok (.iconst 0, 1) := by decide +kernel
theorem dL_tea_16 : decode cL_tea 16 = .ok (.ireturn, 1) := by decide +kernel
set_option maxRecDepth 20000 in
theorem ggL_letter_X4_letter : GoodIn wsL_letter wsX4_letter := goodIn_ca (goodIn_r _ [6, 7, 8, 9, 10, 11, 5, 12, 13, 14, 15, 16, 17, 18, 19, 20, 21, 22, 23, 24, 25, 26, 27, 28, 29, 30, 31, 32, 33, 34, 35, 36, 37, 38] (by decide +kernel) (by decide +kernel)) (goodIn_sub (fun _ h => List.mem_cons_of_mem _ (List.mem_append_right _ h)) (by decide +kernel))
set_option maxRecDepth 20000 in
theorem gL_letter_X4_letter : GoodIn wsL_letter (wsV RL 33 RX4 yX4_letter wsX4_letter) := goodIn_app (goodIn_of _ (by decide +kernel)) ggL_letter_X4_letter
theorem dL_letter_0 : decode cL_letter 0 = .ok (.aload_n 3, 1) := by decide +kernel
theorem dL_letter_1 : decode cL_letter 1 = .ok (.iconst 0, 1) := by decide +kernel
theorem dL_letter_2 : decode cL_letter 2 = .ok (.aload_n 0, 1) := by decide +kernel
theorem dL_letter_3 : decode cL_letter 3 = .ok (.iload_n 1, 1) := by decide +kernel
theorem dL_letter_4 : decode cL_letter 4 = .ok (.iload_n 2, 1) := by decide +kernel
theorem dL_letter_5 : decode cL_letter 5 = .ok (.invokevirtual 33, 3) := by decide +kernel
theorem dL_letter_8 : decode cL_letter 8 = .ok (.i2l, 1) := by decide +kernel
theorem dL_letter_9 : decode cL_letter 9 = .ok (.lastore, 1) := by decide +kernel
theorem dL_letter_10 : decode cL_letter 10 = .ok (.goto 7, 3) := by decide +kernel
theorem dL_letter_13 : decode cL_letter 13 = .ok (.astore 4, 2) := by decide +kernel
theorem dL_letter_15 : decode cL_letter 15 = .ok (.iconst 1, 1) := by decide +kernel
theorem dL_letter_16 : decode cL_letter 16 = .ok (.ireturn, 1) := by decide +kernel
theorem dL_letter_17 : decode cL_letter 17 = .ok (.iconst 0, 1) := by decide +kernel
theorem dL_letter_18 : decode cL_letter 18 = .ok (.ireturn, 1) := by decide +kernel
set_option maxRecDepth 20000 in
theorem ggL_sorter_X4_sorter : GoodIn wsL_sorter wsX4_sorter := goodIn_ca (goodIn_r _ [6, 7, 8, 9, 10, 11, 5, 12, 13, 14, 15, 16, 17, 18, 19, 20, 21, 22, 23, 24, 25, 26, 27, 28, 29, 30, 31, 32, 33, 34, 35, 36, 37, 38, 39, 40] (by decide +kernel) (by decide +kernel)) (goodIn_sub (fun _ h => List.mem_cons_of_mem _ (List.mem_append_right _ h)) (by decide +kernel))
set_option maxRecDepth 20000 in
theorem gL_sorter_X4_sorter : GoodIn wsL_sorter (wsV RL 36 RX4 yX4_sorter wsX4_sorter) := goodIn_app (goodIn_of _ (by decide +kernel)) ggL_sorter_X4_sorter
theorem dL_sorter_0 : decode cL_sorter 0 = .ok (.aload_n 3, 1) := by decide +kernel
theorem dL_sorter_1 : decode cL_sorter 1 = .ok (.iconst 0, 1) := by decide +kernel
theorem dL_sorter_2 : decode cL_sorter 2 = .ok (.aload_n 0, 1) := by decide +kernel
theorem dL_sorter_3 : decode cL_sorter 3 = .ok (.iload_n 1, 1) := by decide +kernel
theorem dL_sorter_4 : decode cL_sorter 4 = .ok (.iload_n 2, 1) := by decide +kernel
theorem dL_sorter_5 : decode cL_sorter 5 = .ok (.invokevirtual 36, 3) := by decide +kernel
theorem dL_sorter_8 : decode cL_sorter 8 = .ok (.i2l, 1) := by decide +kernel
theorem dL_sorter_9 : decode cL_sorter 9 = .ok (.lastore, 1) := by decide +kernel
theorem dL_sorter_10 : decode cL_sorter 10 = .ok (.goto 7, 3) := by decide +kernel
theorem dL_sorter_13 : decode cL_sorter 13 = .ok (.astore 4, 2) := by decide +kernel
theorem dL_sorter_15 : decode cL_sorter 15 = .ok (.iconst 1, 1) := by decide +kernel
theorem dL_sorter_16 : decode cL_sorter 16 = .ok (.ireturn, 1) := by decide +kernel
theorem dL_sorter_17 : decode cL_sorter 17 = .ok (.iconst 0, 1) := by decide +kernel
theorem dL_sorter_18 : decode cL_sorter 18 = .ok (.ireturn, 1) := by decide +kernel
set_option maxRecDepth 20000 in
theorem ggL_hole_X4_hole : GoodIn wsL_hole wsX4_hole := goodIn_ca (goodIn_r _ [6, 7, 8, 9, 10, 11, 5, 12, 13, 14, 15, 16, 17, 18, 19, 20, 21, 22, 23, 24, 25, 26, 27, 28] (by decide +kernel) (by decide +kernel)) (goodIn_sub (fun _ h => List.mem_cons_of_mem _ (List.mem_append_right _ h)) (by decide +kernel))
set_option maxRecDepth 20000 in
theorem gL_hole_X4_hole : GoodIn wsL_hole (wsV RL 39 RX4 yX4_hole wsX4_hole) := goodIn_app (goodIn_of _ (by decide +kernel)) ggL_hole_X4_hole
theorem dL_hole_0 : decode cL_hole 0 = .ok (.aload_n 2, 1) := by decide +kernel
theorem dL_hole_1 : decode cL_hole 1 = .ok (.iconst 0, 1) := by decide +kernel
theorem dL_hole_2 : decode cL_hole 2 = .ok (.aload_n 0, 1) := by decide +kernel
theorem dL_hole_3 : decode cL_hole 3 = .ok (.iload_n 1, 1) := by decide +kernel
theorem dL_hole_4 : decode cL_hole 4 = .ok (.invokevirtual 39, 3) := by decide +kernel
theorem dL_hole_7 : decode cL_hole 7 = .ok (.i2l, 1) := by decide +kernel
theorem dL_hole_8 : decode cL_hole 8 = .ok (.lastore, 1) := by decide +kernel
theorem dL_hole_9 : decode cL_hole 9 = .ok (.goto 6, 3) := by decide +kernel
theorem dL_hole_12 : decode cL_hole 12 = .ok (.astore_n 3, 1) := by decide +kernel
theorem dL_hole_13 : decode cL_hole 13 = .ok (.iconst 1, 1) := by decide +kernel
theorem dL_hole_14 : decode cL_hole 14 = .ok (.ireturn, 1) := by decide +kernel
theorem dL_hole_15 : decode cL_hole 15 = .ok (.iconst 0, 1) := by decide +kernel
theorem dL_hole_16 : decode cL_hole 16 = .ok (.ireturn, 1) := by decide +kernel
set_option maxRecDepth 20000 in
theorem ggL_station_X4_station : GoodIn wsL_station wsX4_station := goodIn_ca (goodIn_r _ [6, 7, 8, 9, 10, 11, 12, 13, 5, 14, 15, 16, 17, 18, 19, 20, 21, 22, 23, 24, 25, 26, 27, 28, 29, 30, 31, 32, 33, 34, 35, 36, 37, 38, 39, 40, 41, 42, 43, 44] (by decide +kernel) (by decide +kernel)) (goodIn_sub (fun _ h => List.mem_cons_of_mem _ (List.mem_append_right _ h)) (by decide +kernel))
set_option maxRecDepth 20000 in
theorem gL_station_X4_station : GoodIn wsL_station (wsV RL 42 RX4 yX4_station wsX4_station) := goodIn_app (goodIn_of _ (by decide +kernel)) ggL_station_X4_station
theorem dL_station_0 : decode cL_station 0 = .ok (.aload_n 3, 1) := by decide +kernel
theorem dL_station_1 : decode cL_station 1 = .ok (.iconst 0, 1) := by decide +kernel
theorem dL_station_2 : decode cL_station 2 = .ok (.aload_n 0, 1) := by decide +kernel
theorem dL_station_3 : decode cL_station 3 = .ok (.iload_n 1, 1) := by decide +kernel
theorem dL_station_4 : decode cL_station 4 = .ok (.iload_n 2, 1) := by decide +kernel
theorem dL_station_5 : decode cL_station 5 = .ok (.invokevirtual 42, 3) := by decide +kernel
theorem dL_station_8 : decode cL_station 8 = .ok (.i2l, 1) := by decide +kernel
theorem dL_station_9 : decode cL_station 9 = .ok (.lastore, 1) := by decide +kernel
theorem dL_station_10 : decode cL_station 10 = .ok (.goto 7, 3) := by decide +kernel
theorem dL_station_13 : decode cL_station 13 = .ok (.astore 4, 2) := by decide +kernel
theorem dL_station_15 : decode cL_station 15 = .ok (.iconst 1, 1) := by decide +kernel
theorem dL_station_16 : decode cL_station 16 = .ok (.ireturn, 1) := by decide +kernel
theorem dL_station_17 : decode cL_station 17 = .ok (.iconst 0, 1) := by decide +kernel
theorem dL_station_18 : decode cL_station 18 = .ok (.ireturn, 1) := by decide +kernel
set_option maxRecDepth 20000 in
theorem ggL_count_X4_count : GoodIn wsL_count wsX4_count := goodIn_ca (goodIn_r _ [6, 7, 8, 9, 10, 11, 12, 13, 14, 15, 16, 5, 17, 18, 19, 20, 21, 22, 23, 24, 25, 26, 27, 28, 29, 30, 31, 32, 33, 34, 35, 36, 37, 38, 39, 40, 41, 42, 43, 44, 45, 46, 47, 48, 49] (by decide +kernel) (by decide +kernel)) (goodIn_sub (fun _ h => List.mem_cons_of_mem _ (List.mem_append_right _ h)) (by decide +kernel))
set_option maxRecDepth 20000 in
theorem gL_count_X4_count : GoodIn wsL_count (wsV RL 45 RX4 yX4_count wsX4_count) := goodIn_app (goodIn_of _ (by decide +kernel)) ggL_count_X4_count
theorem dL_count_0 : decode cL_count 0 = .ok (.aload_n 2, 1) := by decide +kernel
theorem dL_count_1 : decode cL_count 1 = .ok (.iconst 0, 1) := by decide +kernel
theorem dL_count_2 : decode cL_count 2 = .ok (.aload_n 0, 1) := by decide +kernel
theorem dL_count_3 : decode cL_count 3 = .ok (.iload_n 1, 1) := by decide +kernel
theorem dL_count_4 : decode cL_count 4 = .ok (.invokevirtual 45, 3) := by decide +kernel
theorem dL_count_7 : decode cL_count 7 = .ok (.i2l, 1) := by decide +kernel
theorem dL_count_8 : decode cL_count 8 = .ok (.lastore, 1) := by decide +kernel
theorem dL_count_9 : decode cL_count 9 = .ok (.goto 6, 3) := by decide +kernel
theorem dL_count_12 : decode cL_count 12 = .ok (.astore_n 3, 1) := by decide +kernel
theorem dL_count_13 : decode cL_count 13 = .ok (.iconst 1, 1) := by decide +kernel
theorem dL_count_14 : decode cL_count 14 = .ok (.ireturn, 1) := by decide +kernel
theorem dL_count_15 : decode cL_count 15 = .ok (.iconst 0, 1) := by decide +kernel
theorem dL_count_16 : decode cL_count 16 = .ok (.ireturn, 1) := by decide +kernel
set_option maxRecDepth 20000 in
theorem ggL_pass_X4_pass : GoodIn wsL_pass wsX4_pass := goodIn_ca (goodIn_r _ [6, 7, 8, 9, 10, 11, 5, 12, 13, 14, 15, 16, 17, 18, 19, 20, 21, 22, 23, 24, 25, 26, 27, 28, 29, 30, 31, 32, 33, 34, 35, 36, 37, 38, 39, 40, 41, 42, 43, 44, 45, 46, 47, 48, 49, 50, 51, 52, 53, 54, 55, 56, 57, 58, 59, 60, 61, 62, 63, 64, 65, 66, 67, 68, 69, 70, 71, 72, 73, 74, 75, 76, 77, 78, 79, 80, 81, 82, 83, 84, 85, 86, 87, 88, 89, 90, 91, 92, 93, 94, 95, 96, 97, 98, 99, 100, 101, 102, 103, 104, 105, 106, 107, 108, 109, 110, 111, 112, 113, 114, 115, 116, 117, 118, 119, 120, 121, 122, 123, 124, 125, 126, 127, 128, 129, 130, 131, 132, 133, 134, 135, 136, 137, 138, 139, 140, 141, 142, 143, 144, 145, 146, 147, 148, 149, 150, 151, 152, 153, 154, 155, 156, 157, 158, 159, 160, 161, 162, 163, 164, 165, 166] (by decide +kernel) (by decide +kernel)) (goodIn_sub (fun _ h => List.mem_cons_of_mem _ (List.mem_append_right _ h)) (by decide +kernel))
set_option maxRecDepth 20000 in
theorem gL_pass_X4_pass : GoodIn wsL_pass (wsV RL 48 RX4 yX4_pass wsX4_pass) := goodIn_app (goodIn_of _ (by decide +kernel)) ggL_pass_X4_pass
theorem dL_pass_0 : decode cL_pass 0 = .ok (.aload_n 2, 1) := by decide +kernel
theorem dL_pass_1 : decode cL_pass 1 = .ok (.iconst 0, 1) := by decide +kernel
theorem dL_pass_2 : decode cL_pass 2 = .ok (.aload_n 0, 1) := by decide +kernel
theorem dL_pass_3 : decode cL_pass 3 = .ok (.iload_n 1, 1) := by decide +kernel
theorem dL_pass_4 : decode cL_pass 4 = .ok (.invokevirtual 48, 3) := by decide +kernel
theorem dL_pass_7 : decode cL_pass 7 = .ok (.i2l, 1) := by decide +kernel
theorem dL_pass_8 : decode cL_pass 8 = .ok (.lastore, 1) := by decide +kernel
theorem dL_pass_9 : decode cL_pass 9 = .ok (.goto 6, 3) := by decide +kernel
theorem dL_pass_12 : decode cL_pass 12 = .ok (.astore_n 3, 1) := by decide +kernel
theorem dL_pass_13 : decode cL_pass 13 = .ok (.iconst 1, 1) := by decide +kernel
theorem dL_pass_14 : decode cL_pass 14 = .ok (.ireturn, 1) := by decide +kernel
theorem dL_pass_15 : decode cL_pass 15 = .ok (.iconst 0, 1) := by decide +kernel
theorem dL_pass_16 : decode cL_pass 16 = .ok (.ireturn, 1) := by decide +kernel
set_option maxRecDepth 20000 in
theorem ggL_arrives_X4_arrives : GoodIn wsL_arrives wsX4_arrives := goodIn_ca (goodIn_r _ [6, 7, 8, 9, 10, 11, 12, 13, 5, 14, 15, 16, 17, 18, 19, 20, 21, 22, 23, 24, 25, 26, 27, 28, 29, 30, 31, 32, 33, 34, 35, 36, 37, 38, 39, 40, 41, 42, 43, 44, 45, 46, 47, 48, 49, 50, 51, 52, 53, 54, 55, 56, 57, 58, 59, 60, 61, 62, 63, 64, 65, 66, 67, 68, 69, 70, 71, 72, 73, 74, 75, 76, 77, 78, 79, 80, 81, 82, 83, 84, 85, 86, 87, 88, 89, 90, 91, 92, 93, 94, 95, 96, 97, 98, 99, 100, 101, 102, 103, 104, 105, 106, 107, 108, 109, 110, 111, 112, 113, 114, 115, 116, 117, 118, 119, 120, 121, 122, 123, 124, 125, 126, 127, 128, 129, 130, 131, 132, 133, 134, 135, 136, 137, 138, 139, 140, 141, 142, 143, 144, 145, 146, 147, 148, 149, 150, 151, 152, 153, 154, 155, 156, 157, 158, 159, 160, 161, 162, 163, 164, 165, 166, 167, 168, 169, 170, 171, 172, 173, 174, 175, 176, 177, 178, 179, 180, 181, 182, 183] (by decide +kernel) (by decide +kernel)) (goodIn_sub (fun _ h => List.mem_cons_of_mem _ (List.mem_append_right _ h)) (by decide +kernel))
set_option maxRecDepth 20000 in
theorem gL_arrives_X4_arrives : GoodIn wsL_arrives (wsV RL 51 RX4 yX4_arrives wsX4_arrives) := goodIn_app (goodIn_of _ (by decide +kernel)) ggL_arrives_X4_arrives
theorem dL_arrives_0 : decode cL_arrives 0 = .ok (.aload_n 2, 1) := by decide +kernel
theorem dL_arrives_1 : decode cL_arrives 1 = .ok (.iconst 0, 1) := by decide +kernel
theorem dL_arrives_2 : decode cL_arrives 2 = .ok (.aload_n 0, 1) := by decide +kernel
theorem dL_arrives_3 : decode cL_arrives 3 = .ok (.iload_n 1, 1) := by decide +kernel
theorem dL_arrives_4 : decode cL_arrives 4 = .ok (.invokevirtual 51, 3) := by decide +kernel
theorem dL_arrives_7 : decode cL_arrives 7 = .ok (.i2l, 1) := by decide +kernel
theorem dL_arrives_8 : decode cL_arrives 8 = .ok (.lastore, 1) := by decide +kernel
theorem dL_arrives_9 : decode cL_arrives 9 = .ok (.goto 6, 3) := by decide +kernel
theorem dL_arrives_12 : decode cL_arrives 12 = .ok (.astore_n 3, 1) := by decide +kernel
theorem dL_arrives_13 : decode cL_arrives 13 = .ok (.iconst 1, 1) := by decide +kernel
theorem dL_arrives_14 : decode cL_arrives 14 = .ok (.ireturn, 1) := by decide +kernel
theorem dL_arrives_15 : decode cL_arrives 15 = .ok (.iconst 0, 1) := by decide +kernel
theorem dL_arrives_16 : decode cL_arrives 16 = .ok (.ireturn, 1) := by decide +kernel
set_option maxRecDepth 20000 in
theorem ggL_foresee_X4_foresee : GoodIn wsL_foresee wsX4_foresee := goodIn_ca (goodIn_ca (goodIn_r _ [7, 8, 9, 10, 11, 12, 13, 14, 15, 6, 16, 17, 18, 19, 20, 21, 22, 23, 24, 25, 26, 27, 28, 29, 30, 31, 32, 33, 34, 35, 36, 37, 38, 39, 40, 41, 42, 43, 44, 45, 46, 47, 48, 49, 50, 51, 52, 53, 54, 55, 56, 57, 58, 59, 60, 61, 62, 63, 64, 65, 66, 67, 68, 69, 70, 71, 72, 73, 74, 75, 76, 77, 78, 79, 80, 81, 82, 83, 84, 85, 86, 87, 88, 89, 90, 91, 92, 93, 94, 95, 96, 97, 98, 99, 100, 101, 102, 103, 104, 105, 106, 107, 108, 109, 110, 111, 112, 113, 114, 115, 116, 117, 118, 119, 120, 121, 122, 123, 124, 125, 126, 127, 128, 129, 130, 131, 132, 133, 134, 135, 136, 137, 138, 139, 140, 141, 142, 143, 144, 145, 146, 147, 148, 149, 150, 151, 152, 153, 154, 155, 156, 157, 158, 159, 160, 161, 162, 163, 164, 165, 166, 167, 168, 169, 170, 171, 172, 173, 174, 175, 176, 177, 178, 179, 180, 181, 182, 183, 184, 185, 186, 187, 188, 189] (by decide +kernel) (by decide +kernel)) (goodIn_sub (fun _ h => List.mem_cons_of_mem _ (List.mem_append_left _ (List.mem_append_right _ h))) (by decide +kernel))) (goodIn_sub (fun _ h => List.mem_cons_of_mem _ (List.mem_append_right _ h)) (by decide +kernel))
set_option maxRecDepth 20000 in
theorem gL_foresee_X4_foresee : GoodIn wsL_foresee (wsV RL 54 RX4 yX4_foresee wsX4_foresee) := goodIn_app (goodIn_of _ (by decide +kernel)) ggL_foresee_X4_foresee
theorem dL_foresee_0 : decode cL_foresee 0 = .ok (.aload_n 3, 1) := by decide +kernel
theorem dL_foresee_1 : decode cL_foresee 1 = .ok (.iconst 0, 1) := by decide +kernel
theorem dL_foresee_2 : decode cL_foresee 2 = .ok (.aload_n 0, 1) := by decide +kernel
theorem dL_foresee_3 : decode cL_foresee 3 = .ok (.iload_n 1, 1) := by decide +kernel
theorem dL_foresee_4 : decode cL_foresee 4 = .ok (.iload_n 2, 1) := by decide +kernel
theorem dL_foresee_5 : decode cL_foresee 5 = .ok (.invokevirtual 54, 3) := by decide +kernel
theorem dL_foresee_8 : decode cL_foresee 8 = .ok (.i2l, 1) := by decide +kernel
theorem dL_foresee_9 : decode cL_foresee 9 = .ok (.lastore, 1) := by decide +kernel
theorem dL_foresee_10 : decode cL_foresee 10 = .ok (.goto 11, 3) := by decide +kernel
theorem dL_foresee_13 : decode cL_foresee 13 = .ok (.astore 4, 2) := by decide +kernel
theorem dL_foresee_15 : decode cL_foresee 15 = .ok (.iconst 1, 1) := by decide +kernel
theorem dL_foresee_16 : decode cL_foresee 16 = .ok (.ireturn, 1) := by decide +kernel
theorem dL_foresee_17 : decode cL_foresee 17 = .ok (.astore 4, 2) := by decide +kernel
theorem dL_foresee_19 : decode cL_foresee 19 = .ok (.iconst 2, 1) := by decide +kernel
theorem dL_foresee_20 : decode cL_foresee 20 = .ok (.ireturn, 1) := by decide +kernel
theorem dL_foresee_21 : decode cL_foresee 21 = .ok (.iconst 0, 1) := by decide +kernel
theorem dL_foresee_22 : decode cL_foresee 22 = .ok (.ireturn, 1) := by decide +kernel
set_option maxRecDepth 20000 in
theorem ggL_advise_X4_advise : GoodIn wsL_advise wsX4_advise := goodIn_ca (goodIn_ca (goodIn_r _ [7, 8, 9, 10, 11, 12, 13, 6, 14, 15, 16, 17, 18, 19, 20, 21, 22, 23, 24, 25, 26, 27, 28, 29, 30, 31, 32, 33, 34, 35, 36, 37, 38, 39, 40, 41, 42, 43, 44, 45, 46, 47, 48, 49, 50, 51, 52, 53, 54, 55, 56, 57, 58, 59, 60, 61, 62, 63, 64, 65, 66, 67, 68, 69, 70, 71, 72, 73, 74, 75, 76, 77, 78, 79, 80, 81, 82, 83, 84, 85, 86, 87, 88, 89, 90, 91, 92, 93, 94, 95, 96, 97, 98, 99, 100, 101, 102, 103, 104, 105, 106, 107, 108, 109, 110, 111, 112, 113, 114, 115, 116, 117, 118, 119, 120, 121, 122, 123, 124, 125, 126, 127, 128, 129, 130, 131, 132, 133, 134, 135, 136, 137, 138, 139, 140, 141, 142, 143, 144, 145, 146, 147, 148, 149, 150, 151, 152, 153, 154, 155, 156, 157, 158, 159, 160, 161, 162, 163, 164, 165, 166, 167, 168, 169, 170, 171, 172, 173, 174, 175, 176, 177, 178, 179, 180, 181, 182, 183, 184, 185, 186, 187, 188, 189, 190, 191, 192, 193, 194, 195, 196, 197, 198, 199, 200] (by decide +kernel) (by decide +kernel)) (goodIn_sub (fun _ h => List.mem_cons_of_mem _ (List.mem_append_left _ (List.mem_append_right _ h))) (by decide +kernel))) (goodIn_sub (fun _ h => List.mem_cons_of_mem _ (List.mem_append_right _ h)) (by decide +kernel))
set_option maxRecDepth 20000 in
theorem gL_advise_X4_advise : GoodIn wsL_advise (wsV RL 57 RX4 yX4_advise wsX4_advise) := goodIn_app (goodIn_of _ (by decide +kernel)) ggL_advise_X4_advise
theorem dL_advise_0 : decode cL_advise 0 = .ok (.aload_n 3, 1) := by decide +kernel
theorem dL_advise_1 : decode cL_advise 1 = .ok (.iconst 0, 1) := by decide +kernel
theorem dL_advise_2 : decode cL_advise 2 = .ok (.aload_n 0, 1) := by decide +kernel
theorem dL_advise_3 : decode cL_advise 3 = .ok (.iload_n 1, 1) := by decide +kernel
theorem dL_advise_4 : decode cL_advise 4 = .ok (.iload_n 2, 1) := by decide +kernel
theorem dL_advise_5 : decode cL_advise 5 = .ok (.invokevirtual 57, 3) := by decide +kernel
theorem dL_advise_8 : decode cL_advise 8 = .ok (.i2l, 1) := by decide +kernel
theorem dL_advise_9 : decode cL_advise 9 = .ok (.lastore, 1) := by decide +kernel
theorem dL_advise_10 : decode cL_advise 10 = .ok (.goto 11, 3) := by decide +kernel
theorem dL_advise_13 : decode cL_advise 13 = .ok (.astore 4, 2) := by decide +kernel
theorem dL_advise_15 : decode cL_advise 15 = .ok (.iconst 1, 1) := by decide +kernel
theorem dL_advise_16 : decode cL_advise 16 = .ok (.ireturn, 1) := by decide +kernel
theorem dL_advise_17 : decode cL_advise 17 = .ok (.astore 4, 2) := by decide +kernel
theorem dL_advise_19 : decode cL_advise 19 = .ok (.iconst 2, 1) := by decide +kernel
theorem dL_advise_20 : decode cL_advise 20 = .ok (.ireturn, 1) := by decide +kernel
theorem dL_advise_21 : decode cL_advise 21 = .ok (.iconst 0, 1) := by decide +kernel
theorem dL_advise_22 : decode cL_advise 22 = .ok (.ireturn, 1) := by decide +kernel
