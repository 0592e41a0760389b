set_option maxRecDepth 20000 in
theorem ggL_command_X7_command : GoodIn wsL_command wsX7_command := goodIn_ca (goodIn_ca (goodIn_r _ [7, 8, 9, 10, 11, 12, 13, 14, 15, 16, 17, 6, 18, 19, 20, 21, 22, 23, 24, 25, 26, 27, 28, 29, 30, 31, 32, 33, 34, 35, 36, 37, 38, 39, 40, 41, 42, 43, 44, 45, 46, 47, 48, 49, 50, 51, 52, 53, 54, 55, 56, 57, 58, 59, 60, 61, 62, 63, 64, 65, 66, 67, 68, 69, 70, 71, 72, 73, 74, 75, 76, 77, 78, 79, 80, 81] (by decide +kernel) (by decide +kernel)) (goodIn_sub (fun _ h => List.mem_cons_of_mem _ (List.mem_append_left _ (List.mem_append_right _ h))) (by decide +kernel))) (goodIn_sub (fun _ h => List.mem_cons_of_mem _ (List.mem_append_right _ h)) (by decide +kernel))
set_option maxRecDepth 20000 in
theorem gL_command_X7_command : GoodIn wsL_command (wsV RL 7 RX7 yX7_command wsX7_command) := goodIn_app (goodIn_of _ (by decide +kernel)) ggL_command_X7_command
theorem dL_command_0 : decode cL_command 0 = .ok (.aload_n 3, 1) := by decide +kernel
theorem dL_command_1 : decode cL_command 1 = .ok (.iconst 0, 1) := by decide +kernel
theorem dL_command_2 : decode cL_command 2 = .ok (.aload_n 0, 1) := by decide +kernel
theorem dL_command_3 : decode cL_command 3 = .ok (.iload_n 1, 1) := by decide +kernel
theorem dL_command_4 : decode cL_command 4 = .ok (.iload_n 2, 1) := by decide +kernel
theorem dL_command_5 : decode cL_command 5 = .ok (.invokevirtual 7, 3) := by decide +kernel
theorem dL_command_8 : decode cL_command 8 = .ok (.i2l, 1) := by decide +kernel
theorem dL_command_9 : decode cL_command 9 = .ok (.lastore, 1) := by decide +kernel
theorem dL_command_10 : decode cL_command 10 = .ok (.goto 11, 3) := by decide +kernel
theorem dL_command_13 : decode cL_command 13 = .ok (.astore 4, 2) := by decide +kernel
theorem dL_command_15 : decode cL_command 15 = .ok (.iconst 1, 1) := by decide +kernel
theorem dL_command_16 : decode cL_command 16 = .ok (.ireturn, 1) := by decide +kernel
theorem dL_command_17 : decode cL_command 17 = .ok (.astore 4, 2) := by decide +kernel
theorem dL_command_19 : decode cL_command 19 = .ok (.iconst 2, 1) := by decide +kernel
theorem dL_command_20 : decode cL_command 20 = .ok (.ireturn, 1) := by decide +kernel
theorem dL_command_21 : decode cL_command 21 = .ok (.iconst 0, 1) := by decide +kernel
theorem dL_command_22 : decode cL_command 22 = .ok (.ireturn, 1) := by decide +kernel
set_option maxRecDepth 20000 in
theorem ggL_count_X7_count : GoodIn wsL_count wsX7_count := goodIn_ca (goodIn_ca (goodIn_r _ [7, 8, 9, 10, 11, 12, 6, 13, 14, 15, 16, 17, 18, 19, 20, 21, 22, 23, 24, 25, 26, 27, 28, 29, 30, 31, 32, 33, 34, 35, 36, 37, 38, 39, 40, 41, 42, 43, 44, 45, 46, 47, 48, 49, 50, 51, 52, 53, 54, 55, 56, 57, 58, 59, 60, 61, 62, 63, 64] (by decide +kernel) (by decide +kernel)) (goodIn_sub (fun _ h => List.mem_cons_of_mem _ (List.mem_append_left _ (List.mem_append_right _ h))) (by decide +kernel))) (goodIn_sub (fun _ h => List.mem_cons_of_mem _ (List.mem_append_right _ h)) (by decide +kernel))
set_option maxRecDepth 20000 in
theorem gL_count_X7_count : GoodIn wsL_count (wsV RL 17 RX7 yX7_count wsX7_count) := goodIn_app (goodIn_of _ (by decide +kernel)) ggL_count_X7_count
theorem dL_count_0 : decode cL_count 0 = .ok (.aload_n 3, 1) := by decide +kernel
theorem dL_count_1 : decode cL_count 1 = .ok (.iconst 0, 1) := by decide +kernel
theorem dL_count_2 : decode cL_count 2 = .ok (.aload_n 0, 1) := by decide +kernel
theorem dL_count_3 : decode cL_count 3 = .ok (.iload_n 1, 1) := by decide +kernel
theorem dL_count_4 : decode cL_count 4 = .ok (.iload_n 2, 1) := by decide +kernel
theorem dL_count_5 : decode cL_count 5 = .ok (.invokevirtual 17, 3) := by decide +kernel
theorem dL_count_8 : decode cL_count 8 = .ok (.i2l, 1) := by decide +kernel
theorem dL_count_9 : decode cL_count 9 = .ok (.lastore, 1) := by decide +kernel
theorem dL_count_10 : decode cL_count 10 = .ok (.goto 11, 3) := by decide +kernel
theorem dL_count_13 : decode cL_count 13 = .ok (.astore 4, 2) := by decide +kernel
theorem dL_count_15 : decode cL_count 15 = .ok (.iconst 1, 1) := by decide +kernel
theorem dL_count_16 : decode cL_count 16 = .ok (.ireturn, 1) := by decide +kernel
theorem dL_count_17 : decode cL_count 17 = .ok (.astore 4, 2) := by decide +kernel
theorem dL_count_19 : decode cL_count 19 = .ok (.iconst 2, 1) := by decide +kernel
theorem dL_count_20 : decode cL_count 20 = .ok (.ireturn, 1) := by decide +kernel
theorem dL_count_21 : decode cL_count 21 = .ok (.iconst 0, 1) := by decide +kernel
theorem dL_count_22 : decode cL_count 22 = .ok (.ireturn, 1) := by decide +kernel
set_option maxRecDepth 20000 in
theorem ggL_words_X7_words : GoodIn wsL_words wsX7_words := goodIn_ca (goodIn_ca (goodIn_r _ [7, 8, 9, 10, 11, 12, 6, 13, 14, 15, 16, 17, 18, 19, 20, 21, 22, 23, 24, 25, 26, 27, 28, 29, 30, 31, 32, 33, 34, 35, 36, 37, 38, 39, 40, 41] (by decide +kernel) (by decide +kernel)) (goodIn_sub (fun _ h => List.mem_cons_of_mem _ (List.mem_append_left _ (List.mem_append_right _ h))) (by decide +kernel))) (goodIn_sub (fun _ h => List.mem_cons_of_mem _ (List.mem_append_right _ h)) (by decide +kernel))
set_option maxRecDepth 20000 in
theorem gL_words_X7_words : GoodIn wsL_words (wsV RL 22 RX7 yX7_words wsX7_words) := goodIn_app (goodIn_of _ (by decide +kernel)) ggL_words_X7_words
theorem dL_words_0 : decode cL_words 0 = .ok (.aload_n 3, 1) := by decide +kernel
theorem dL_words_1 : decode cL_words 1 = .ok (.iconst 0, 1) := by decide +kernel
theorem dL_words_2 : decode cL_words 2 = .ok (.aload_n 0, 1) := by decide +kernel
theorem dL_words_3 : decode cL_words 3 = .ok (.iload_n 1, 1) := by decide +kernel
theorem dL_words_4 : decode cL_words 4 = .ok (.iload_n 2, 1) := by decide +kernel
theorem dL_words_5 : decode cL_words 5 = .ok (.invokevirtual 22, 3) := by decide +kernel
theorem dL_words_8 : decode cL_words 8 = .ok (.i2l, 1) := by decide +kernel
theorem dL_words_9 : decode cL_words 9 = .ok (.lastore, 1) := by decide +kernel
theorem dL_words_10 : decode cL_words 10 = .ok (.goto 11, 3) := by decide +kernel
theorem dL_words_13 : decode cL_words 13 = .ok (.astore 4, 2) := by decide +kernel
theorem dL_words_15 : decode cL_words 15 = .ok (.iconst 1, 1) := by decide +kernel
theorem dL_words_16 : decode cL_words 16 = .ok (.ireturn, 1) := by decide +kernel
theorem dL_words_17 : decode cL_words 17 = .ok (.astore 4, 2) := by decide +kernel
theorem dL_words_19 : decode cL_words 19 = .ok (.iconst 2, 1) := by decide +kernel
theorem dL_words_20 : decode cL_words 20 = .ok (.ireturn, 1) := by decide +kernel
theorem dL_words_21 : decode cL_words 21 = .ok (.iconst 0, 1) := by decide +kernel
theorem dL_words_22 : decode cL_words 22 = .ok (.ireturn, 1) := by decide +kernel
set_option maxRecDepth 20000 in
theorem ggL_set_X7_set : GoodIn wsL_set wsX7_set := goodIn_ca (goodIn_r _ [6, 7, 8, 9, 10, 11, 12, 13, 14, 15, 5, 16, 17, 18, 19, 20, 21, 22, 23, 24, 25, 26, 27, 28, 29, 30, 31, 32, 33, 34, 35, 36, 37, 38, 39, 40, 41, 42, 43, 44, 45, 46, 47, 48, 49, 50, 51, 52, 53, 54] (by decide +kernel) (by decide +kernel)) (goodIn_sub (fun _ h => List.mem_cons_of_mem _ (List.mem_append_right _ h)) (by decide +kernel))
set_option maxRecDepth 20000 in
theorem gL_set_X7_set : GoodIn wsL_set (wsV RL 25 RX7 yX7_set wsX7_set) := goodIn_app (goodIn_of _ (by decide +kernel)) ggL_set_X7_set
theorem dL_set_0 : decode cL_set 0 = .ok (.aload_n 3, 1) := by decide +kernel
theorem dL_set_1 : decode cL_set 1 = .ok (.iconst 0, 1) := by decide +kernel
theorem dL_set_2 : decode cL_set 2 = .ok (.aload_n 0, 1) := by decide +kernel
theorem dL_set_3 : decode cL_set 3 = .ok (.iload_n 1, 1) := by decide +kernel
theorem dL_set_4 : decode cL_set 4 = .ok (.iload_n 2, 1) := by decide +kernel
theorem dL_set_5 : decode cL_set 5 = .ok (.invokevirtual 25, 3) := by decide +kernel
theorem dL_set_8 : decode cL_set 8 = .ok (.i2l, 1) := by decide +kernel
theorem dL_set_9 : decode cL_set 9 = .ok (.lastore, 1) := by decide +kernel
theorem dL_set_10 : decode cL_set 10 = .ok (.goto 7, 3) := by decide +kernel
theorem dL_set_13 : decode cL_set 13 = .ok (.astore 4, 2) := by decide +kernel
theorem dL_set_15 : decode cL_set 15 = .ok (.iconst 1, 1) := by decide +kernel
theorem dL_set_16 : decode cL_set 16 = .ok (.ireturn, 1) := by decide +kernel
theorem dL_set_17 : decode cL_set 17 = .ok (.iconst 0, 1) := by decide +kernel
theorem dL_set_18 : decode cL_set 18 = .ok (.ireturn, 1) := by decide +kernel
set_option maxRecDepth 20000 in
theorem ggL_tell_X7_tell : GoodIn wsL_tell wsX7_tell := goodIn_ca (goodIn_r _ [6, 7, 8, 9, 10, 11, 12, 13, 14, 15, 16, 17, 18, 19, 20, 21, 22, 23, 24, 25, 26, 27, 28, 29, 30, 31, 32, 33, 34, 35, 36, 37, 38, 39, 40, 41, 42, 43, 44, 45, 46, 47, 48, 49, 50, 51, 52, 53, 54, 55, 56, 57, 58, 59, 60, 61, 62, 63, 64, 65, 66, 67, 68, 69, 70, 71, 72, 73, 74, 75, 76, 77, 78, 79, 80, 81, 82, 83, 84, 85, 86, 87, 88, 89, 90, 91, 92, 93, 94, 95, 96, 97, 98, 99, 100, 101, 102, 103, 104, 105, 106, 107, 108, 109, 110, 111, 112, 113, 114, 115, 116, 117, 118, 119, 120, 121, 122, 123, 124, 125, 126, 127, 128, 129, 130, 131, 132, 133, 134, 135, 136, 137, 138, 139, 140, 141, 142, 143, 144, 145, 146, 147, 148, 149, 150, 151] (by decide +kernel) (by decide +kernel)) (goodIn_sub (fun _ h => List.mem_cons_of_mem _ (List.mem_append_right _ h)) (by decide +kernel))
set_option maxRecDepth 20000 in
theorem gL_tell_X7_tell : GoodIn wsL_tell (wsV RL 28 RX7 yX7_tell wsX7_tell) := goodIn_app (goodIn_of _ (by decide +kernel)) ggL_tell_X7_tell
theorem dL_tell_0 : decode cL_tell 0 = .ok (.aload_n 2, 1) := by decide +kernel
theorem dL_tell_1 : decode cL_tell 1 = .ok (.iconst 0, 1) := by decide +kernel
theorem dL_tell_2 : decode cL_tell 2 = .ok (.aload_n 0, 1) := by decide +kernel
theorem dL_tell_3 : decode cL_tell 3 = .ok (.iload_n 1, 1) := by decide +kernel
theorem dL_tell_4 : decode cL_tell 4 = .ok (.invokevirtual 28, 3) := by decide +kernel
theorem dL_tell_7 : decode cL_tell 7 = .ok (.i2l, 1) := by decide +kernel
theorem dL_tell_8 : decode cL_tell 8 = .ok (.lastore, 1) := by decide +kernel
theorem dL_tell_9 : decode cL_tell 9 = .ok (.goto 6, 3) := by decide +kernel
theorem dL_tell_12 : decode cL_tell 12 = .ok (.astore_n 3, 1) := by decide +kernel
theorem dL_tell_13 : decode cL_tell 13 = .ok (.iconst 1, 1) := by decide +kernel
theorem dL_tell_14 : decode cL_tell 14 = .ok (.ireturn, 1) := by decide +kernel
theorem dL_tell_15 : decode cL_tell 15 = .ok (.iconst 0, 1) := by decide +kernel
theorem dL_tell_16 : decode cL_tell 16 = .ok (.ireturn, 1) := by decide +kernel
set_option maxRecDepth 20000 in
theorem ggL_steps_X7_steps : GoodIn wsL_steps wsX7_steps := goodIn_ca (goodIn_r _ [6, 7, 8, 9, 10, 11, 5, 12, 13, 14, 15, 16, 17, 18, 19, 20, 21, 22, 23, 24, 25, 26, 27, 28, 29, 30, 31, 32, 33, 34, 35, 36, 37, 38, 39, 40, 41, 42, 43, 44, 45, 46, 47, 48, 49, 50, 51, 52, 53, 54, 55, 56] (by decide +kernel) (by decide +kernel)) (goodIn_sub (fun _ h => List.mem_cons_of_mem _ (List.mem_append_right _ h)) (by decide +kernel))
set_option maxRecDepth 20000 in
theorem gL_steps_X7_steps : GoodIn wsL_steps (wsV RL 32 RX7 yX7_steps wsX7_steps) := goodIn_app (goodIn_of _ (by decide +kernel)) ggL_steps_X7_steps
theorem dL_steps_0 : decode cL_steps 0 = .ok (.aload_n 2, 1) := by decide +kernel
theorem dL_steps_1 : decode cL_steps 1 = .ok (.iconst 0, 1) := by decide +kernel
theorem dL_steps_2 : decode cL_steps 2 = .ok (.aload_n 0, 1) := by decide +kernel
theorem dL_steps_3 : decode cL_steps 3 = .ok (.iload_n 1, 1) := by decide +kernel
theorem dL_steps_4 : decode cL_steps 4 = .ok (.invokevirtual 32, 3) := by decide +kernel
theorem dL_steps_7 : decode cL_steps 7 = .ok (.i2l, 1) := by decide +kernel
theorem dL_steps_8 : decode cL_steps 8 = .ok (.lastore, 1) := by decide +kernel
theorem dL_steps_9 : decode cL_steps 9 = .ok (.goto 6, 3) := by decide +kernel
theorem dL_steps_12 : decode cL_steps 12 = .ok (.astore_n 3, 1) := by decide +kernel
theorem dL_steps_13 : decode cL_steps 13 = .ok (.iconst 1, 1) := by decide +kernel
theorem dL_steps_14 : decode cL_steps 14 = .ok (.ireturn, 1) := by decide +kernel
theorem dL_steps_15 : decode cL_steps 15 = .ok (.iconst 0, 1) := by decide +kernel
theorem dL_steps_16 : decode cL_steps 16 = .ok (.ireturn, 1) := by decide +kernel
set_option maxRecDepth 20000 in
theorem ggL_place_X7_place : GoodIn wsL_place wsX7_place := goodIn_ca (goodIn_r _ [6, 7, 8, 9, 10, 5, 11, 12, 13, 14, 15, 16, 17, 18, 19, 20, 21, 22, 23, 24, 25, 26, 27, 28, 29, 30, 31, 32, 33, 34, 35, 36, 37, 38, 39, 40, 41, 42, 43, 44, 45, 46, 47, 48, 49, 50, 51, 52, 53, 54, 55, 56, 57, 58, 59, 60] (by decide +kernel) (by decide +kernel)) (goodIn_sub (fun _ h => List.mem_cons_of_mem _ (List.mem_append_right _ h)) (by decide +kernel))
set_option maxRecDepth 20000 in
theorem gL_place_X7_place : GoodIn wsL_place (wsV RL 35 RX7 yX7_place wsX7_place) := goodIn_app (goodIn_of _ (by decide +kernel)) ggL_place_X7_place
theorem dL_place_0 : decode cL_place 0 = .ok (.aload_n 3, 1) := by decide +kernel
theorem dL_place_1 : decode cL_place 1 = .ok (.iconst 0, 1) := by decide +kernel
theorem dL_place_2 : decode cL_place 2 = .ok (.aload_n 0, 1) := by decide +kernel
theorem dL_place_3 : decode cL_place 3 = .ok (.iload_n 1, 1) := by decide +kernel
theorem dL_place_4 : decode cL_place 4 = .ok (.iload_n 2, 1) := by decide +kernel
theorem dL_place_5 : decode cL_place 5 = .ok (.invokevirtual 35, 3) := by decide +kernel
theorem dL_place_8 : decode cL_place 8 = .ok (.i2l, 1) := by decide +kernel
theorem dL_place_9 : decode cL_place 9 = .ok (.lastore, 1) := by decide +kernel
theorem dL_place_10 : decode cL_place 10 = .ok (.goto 7, 3) := by decide +kernel
theorem dL_place_13 : decode cL_place 13 = .ok (.astore 4, 2) := by decide +kernel
theorem dL_place_15 : decode cL_place 15 = .ok (.iconst 1, 1) := by decide +kernel
theorem dL_place_16 : decode cL_place 16 = .ok (.ireturn, 1) := by decide +kernel
theorem dL_place_17 : decode cL_place 17 = .ok (.iconst 0, 1) := by decide +kernel
theorem dL_place_18 : decode cL_place 18 = .ok (.ireturn, 1) := by decide +kernel
set_option maxRecDepth 20000 in
theorem ggL_misled_X7_misled : GoodIn wsL_misled wsX7_misled := goodIn_ca (goodIn_r _ [6, 7, 8, 9, 10, 11, 5, 12, 13, 14, 15, 16, 17, 18, 19, 20, 21, 22, 23, 24, 25, 26, 27, 28, 29, 30, 31, 32, 33, 34, 35, 36, 37, 38, 39, 40, 41, 42, 43, 44, 45, 46, 47, 48, 49, 50, 51, 52, 53, 54, 55, 56, 57, 58, 59, 60, 61, 62, 63, 64, 65, 66, 67, 68, 69, 70, 71, 72, 73, 74, 75, 76, 77, 78, 79, 80, 81, 82, 83, 84, 85, 86, 87, 88, 89, 90, 91, 92, 93, 94, 95, 96, 97, 98, 99, 100, 101, 102, 103, 104] (by decide +kernel) (by decide +kernel)) (goodIn_sub (fun _ h => List.mem_cons_of_mem _ (List.mem_append_right _ h)) (by decide +kernel))
set_option maxRecDepth 20000 in
theorem gL_misled_X7_misled : GoodIn wsL_misled (wsV RL 38 RX7 yX7_misled wsX7_misled) := goodIn_app (goodIn_of _ (by decide +kernel)) ggL_misled_X7_misled
theorem dL_misled_0 : decode cL_misled 0 = .ok (.aload_n 2, 1) := by decide +kernel
theorem dL_misled_1 : decode cL_misled 1 = .ok (.iconst 0, 1) := by decide +kernel
theorem dL_misled_2 : decode cL_misled 2 = .ok (.aload_n 0, 1) := by decide +kernel
theorem dL_misled_3 : decode cL_misled 3 = .ok (.iload_n 1, 1) := by decide +kernel
theorem dL_misled_4 : decode cL_misled 4 = .ok (.invokevirtual 38, 3) := by decide +kernel
theorem dL_misled_7 : decode cL_misled 7 = .ok (.i2l, 1) := by decide +kernel
theorem dL_misled_8 : decode cL_misled 8 = .ok (.lastore, 1) := by decide +kernel
theorem dL_misled_9 : decode cL_misled 9 = .ok (.goto 6, 3) := by decide +kernel
theorem dL_misled_12 : decode cL_misled 12 = .ok (.astore_n 3, 1) := by decide +kernel
theorem dL_misled_13 : decode cL_misled 13 = .ok (.iconst 1, 1) := by decide +kernel
theorem dL_misled_14 : decode cL_misled 14 = .ok (.ireturn, 1) := by decide +kernel
theorem dL_misled_15 : decode cL_misled 15 = .ok (.iconst 0, 1) := by decide +kernel
theorem dL_misled_16 : decode cL_misled 16 = .ok (.ireturn, 1) := by decide +kernel
set_option maxRecDepth 20000 in
theorem ggL_best_X7_best : GoodIn wsL_best wsX7_best := goodIn_ca (goodIn_r _ [6, 7, 8, 9, 10, 11, 12, 13, 14, 5, 15, 16, 17, 18, 19, 20, 21, 22, 23, 24, 25, 26, 27, 28, 29, 30, 31, 32, 33, 34, 35, 36, 37, 38, 39, 40, 41, 42, 43, 44, 45, 46, 47, 48, 49, 50, 51, 52, 53, 54, 55, 56, 57, 58, 59, 60, 61, 62, 63, 64, 65, 66, 67, 68, 69, 70, 71, 72, 73, 74, 75, 76, 77, 78, 79, 80, 81, 82, 83, 84, 85, 86, 87, 88, 89, 90, 91, 92, 93, 94, 95, 96, 97, 98, 99, 100, 101, 102, 103, 104, 105, 106, 107, 108, 109, 110, 111, 112, 113, 114, 115, 116, 117, 118, 119, 120, 121, 122, 123, 124, 125, 126, 127, 128, 129, 130, 131, 132, 133, 134, 135, 136] (by decide +kernel) (by decide +kernel)) (goodIn_sub (fun _ h => List.mem_cons_of_mem _ (List.mem_append_right _ h)) (by decide +kernel))
set_option maxRecDepth 20000 in
theorem gL_best_X7_best : GoodIn wsL_best (wsV RL 41 RX7 yX7_best wsX7_best) := goodIn_app (goodIn_of _ (by decide +kernel)) ggL_best_X7_best
theorem dL_best_0 : decode cL_best 0 = .ok (.aload_n 2, 1) := by decide +kernel
theorem dL_best_1 : decode cL_best 1 = .ok (.iconst 0, 1) := by decide +kernel
theorem dL_best_2 : decode cL_best 2 = .ok (.aload_n 0, 1) := by decide +kernel
theorem dL_best_3 : decode cL_best 3 = .ok (.iload_n 1, 1) := by decide +kernel
theorem dL_best_4 : decode cL_best 4 = .ok (.invokevirtual 41, 3) := by decide +kernel
theorem dL_best_7 : decode cL_best 7 = .ok (.lastore, 1) := by decide +kernel
theorem dL_best_8 : decode cL_best 8 = .ok (.goto 6, 3) := by decide +kernel
theorem dL_best_11 : decode cL_best 11 = .ok (.astore_n 3, 1) := by decide +kernel
theorem dL_best_12 : decode cL_best 12 = .ok (.iconst 1, 1) := by decide +kernel
theorem dL_best_13 : decode cL_best 13 = .ok (.ireturn, 1) := by decide +kernel
theorem dL_best_14 : decode cL_best 14 = .ok (.iconst 0, 1) := by decide +kernel
theorem dL_best_15 : decode cL_best 15 = .ok (.ireturn, 1) := by decide +kernel
set_option maxRecDepth 20000 in
theorem ggL_exchange_X7_exchange : GoodIn wsL_exchange wsX7_exchange := goodIn_ca (goodIn_r _ [6, 7, 8, 9, 10, 11, 12, 13, 14, 15, 5, 16, 17, 18, 19, 20, 21, 22, 23, 24, 25, 26, 27, 28, 29, 30, 31, 32, 33, 34, 35, 36, 37, 38, 39, 40, 41, 42, 43, 44, 45, 46, 47, 48, 49, 50, 51, 52, 53, 54, 55, 56, 57, 58, 59, 60, 61, 62, 63, 64, 65, 66, 67, 68, 69, 70, 71, 72, 73, 74, 75, 76, 77, 78, 79, 80, 81, 82, 83, 84, 85, 86, 87, 88, 89, 90, 91, 92, 93, 94, 95, 96, 97, 98, 99, 100, 101, 102, 103, 104, 105, 106, 107, 108, 109, 110, 111, 112, 113, 114, 115, 116, 117, 118, 119, 120, 121, 122, 123, 124, 125, 126, 127, 128, 129, 130, 131, 132, 133, 134, 135, 136, 137, 138, 139] (by decide +kernel) (by decide +kernel)) (goodIn_sub (fun _ h => List.mem_cons_of_mem _ (List.mem_append_right _ h)) (by decide +kernel))
set_option maxRecDepth 20000 in
theorem gL_exchange_X7_exchange : GoodIn wsL_exchange (wsV RL 45 RX7 yX7_exchange wsX7_exchange) := goodIn_app (goodIn_of _ (by decide +kernel)) ggL_exchange_X7_exchange
theorem dL_exchange_0 : decode cL_exchange 0 = .ok (.aload 4, 2) := by decide +kernel
theorem dL_exchange_2 : decode cL_exchange 2 = .ok (.iconst 0, 1) := by decide +kernel
theorem dL_exchange_3 : decode cL_exchange 3 = .ok (.aload_n 0, 1) := by decide +kernel
theorem dL_exchange_4 : decode cL_exchange 4 = .ok (.iload_n 1, 1) := by decide +kernel
theorem dL_exchange_5 : decode cL_exchange 5 = .ok (.iload_n 2, 1) := by decide +kernel
theorem dL_exchange_6 : decode cL_exchange 6 = .ok (.iload_n 3, 1) := by decide +kernel
theorem dL_exchange_7 : decode cL_exchange 7 = .ok (.invokevirtual 45, 3) := by decide +kernel
theorem dL_exchange_10 : decode cL_exchange 10 = .ok (.i2l, 1) := by decide +kernel
theorem dL_exchange_11 : decode cL_exchange 11 = .ok (.lastore, 1) := by decide +kernel
theorem dL_exchange_12 : decode cL_exchange 12 = .ok (.goto 7, 3) := by decide +kernel
theorem dL_exchange_15 : decode cL_exchange 15 = .ok (.astore 5, 2) := by decide +kernel
theorem dL_exchange_17 : decode cL_exchange 17 = .ok (.iconst 1, 1) := by decide +kernel
theorem dL_exchange_18 : decode cL_exchange 18 = .ok (.ireturn, 1) := by decide +kernel
theorem dL_exchange_19 : decode cL_exchange 19 = .ok (.iconst 0, 1) := by decide +kernel
theorem dL_exchange_20 : decode cL_exchange 20 = .ok (.ireturn, 1) := by decide +kernel
set_option maxRecDepth 20000 in
theorem ggL_swap_X7_swap : GoodIn wsL_swap wsX7_swap := goodIn_ca (goodIn_r _ [6, 7, 8, 9, 10, 11, 12, 13, 5, 14, 15, 16, 17, 18, 19, 20, 21, 22, 23, 24, 25, 26, 27, 28, 29, 30, 31, 32, 33, 34, 35, 36, 37, 38, 39, 40, 41, 42, 43, 44, 45, 46, 47, 48, 49, 50, 51, 52, 53, 54, 55, 56, 57, 58, 59, 60, 61, 62, 63, 64, 65, 66, 67, 68, 69, 70, 71, 72, 73, 74, 75, 76, 77, 78, 79, 80, 81, 82, 83, 84, 85, 86, 87, 88, 89, 90] (by decide +kernel) (by decide +kernel)) (goodIn_sub (fun _ h => List.mem_cons_of_mem _ (List.mem_append_right _ h)) (by decide +kernel))
set_option maxRecDepth 20000 in
theorem gL_swap_X7_swap : GoodIn wsL_swap (wsV RL 49 RX7 yX7_swap wsX7_swap) := goodIn_app (goodIn_of _ (by decide +kernel)) ggL_swap_X7_swap
theorem dL_swap_0 : decode cL_swap 0 = .ok (.aload_n 3, 1) := by decide +kernel
theorem dL_swap_1 : decode cL_swap 1 = .ok (.iconst 0, 1) := by decide +kernel
theorem dL_swap_2 : decode cL_swap 2 = .ok (.aload_n 0, 1) := by decide +kernel
theorem dL_swap_3 : decode cL_swap 3 = .ok (.iload_n 1, 1) := by decide +kernel
theorem dL_swap_4 : decode cL_swap 4 = .ok (.iload_n 2, 1) := by decide +kernel
theorem dL_swap_5 : decode cL_swap 5 = .ok (.invokevirtual 49, 3) := by decide +kernel
theorem dL_swap_8 : decode cL_swap 8 = .ok (.lastore, 1) := by decide +kernel
theorem dL_swap_9 : decode cL_swap 9 = .ok (.goto 7, 3) := by decide +kernel
theorem dL_swap_12 : decode cL_swap 12 = .ok (.astore 4, 2) := by decide +kernel
theorem dL_swap_14 : decode cL_swap 14 = .ok (.iconst 1, 1) := by decide +kernel
theorem dL_swap_15 : decode cL_swap 15 = .ok (.ireturn, 1) := by decide +kernel
theorem dL_swap_16 : decode cL_swap 16 = .ok (.iconst 0, 1) := by decide +kernel
theorem dL_swap_17 : decode cL_swap 17 = .ok (.ireturn, 1) := by decide +kernel
