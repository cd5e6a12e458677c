theorem dL_told_0 : decode cL_told 0 = .ok (.aload_n 3, 1) := by decide +kernel
theorem dL_told_1 : decode cL_told 1 = .ok (.iconst 0, 1) := by decide +kernel
theorem dL_told_2 : decode cL_told 2 = .ok (.aload_n 0, 1) := by decide +kernel
theorem dL_told_3 : decode cL_told 3 = .ok (.iload_n 1, 1) := by decide +kernel
theorem dL_told_4 : decode cL_told 4 = .ok (.iload_n 2, 1) := by decide +kernel
theorem dL_told_5 : decode cL_told 5 = .ok (.invokevirtual 7, 3) := by decide +kernel
theorem dL_told_8 : decode cL_told 8 = .ok (.i2l, 1) := by decide +kernel
theorem dL_told_9 : decode cL_told 9 = .ok (.lastore, 1) := by decide +kernel
theorem dL_told_10 : decode cL_told 10 = .ok (.goto 7, 3) := by decide +kernel
theorem dL_told_13 : decode cL_told 13 = .ok (.astore 4, 2) := by decide +kernel
theorem dL_told_15 : decode cL_told 15 = .ok (.iconst 1, 1) := by decide +kernel
theorem dL_told_16 : decode cL_told 16 = .ok (.ireturn, 1) := by decide +kernel
theorem dL_told_17 : decode cL_told 17 = .ok (.iconst 0, 1) := by decide +kernel
theorem dL_told_18 : decode cL_told 18 = .ok (.ireturn, 1) := by decide +kernel
theorem dL_ask_0 : decode cL_ask 0 = .ok (.aload_n 3, 1) := by decide +kernel
theorem dL_ask_1 : decode cL_ask 1 = .ok (.iconst 0, 1) := by decide +kernel
theorem dL_ask_2 : decode cL_ask 2 = .ok (.aload_n 0, 1) := by decide +kernel
theorem dL_ask_3 : decode cL_ask 3 = .ok (.iload_n 1, 1) := by decide +kernel
theorem dL_ask_4 : decode cL_ask 4 = .ok (.iload_n 2, 1) := by decide +kernel
theorem dL_ask_5 : decode cL_ask 5 = .ok (.invokevirtual 15, 3) := by decide +kernel
theorem dL_ask_8 : decode cL_ask 8 = .ok (.i2l, 1) := by decide +kernel
theorem dL_ask_9 : decode cL_ask 9 = .ok (.lastore, 1) := by decide +kernel
theorem dL_ask_10 : decode cL_ask 10 = .ok (.goto 7, 3) := by decide +kernel
theorem dL_ask_13 : decode cL_ask 13 = .ok (.astore 4, 2) := by decide +kernel
theorem dL_ask_15 : decode cL_ask 15 = .ok (.iconst 1, 1) := by decide +kernel
theorem dL_ask_16 : decode cL_ask 16 = .ok (.ireturn, 1) := by decide +kernel
theorem dL_ask_17 : decode cL_ask 17 = .ok (.iconst 0, 1) := by decide +kernel
theorem dL_ask_18 : decode cL_ask 18 = .ok (.ireturn, 1) := by decide +kernel
theorem dL_count_0 : decode cL_count 0 = .ok (.aload_n 2, 1) := by decide +kernel
theorem dL_count_1 : decode cL_count 1 = .ok (.iconst 0, 1) := by decide +kernel
theorem dL_count_2 : decode cL_count 2 = .ok (.aload_n 0, 1) := by decide +kernel
theorem dL_count_3 : decode cL_count 3 = .ok (.iload_n 1, 1) := by decide +kernel
theorem dL_count_4 : decode cL_count 4 = .ok (.invokevirtual 18, 3) := by decide +kernel
theorem dL_count_7 : decode cL_count 7 = .ok (.i2l, 1) := by decide +kernel
theorem dL_count_8 : decode cL_count 8 = .ok (.lastore, 1) := by decide +kernel
theorem dL_count_9 : decode cL_count 9 = .ok (.goto 6, 3) := by decide +kernel
theorem dL_count_12 : decode cL_count 12 = .ok (.astore_n 3, 1) := by decide +kernel
theorem dL_count_13 : decode cL_count 13 = .ok (.iconst 1, 1) := by decide +kernel
theorem dL_count_14 : decode cL_count 14 = .ok (.ireturn, 1) := by decide +kernel
theorem dL_count_15 : decode cL_count 15 = .ok (.iconst 0, 1) := by decide +kernel
theorem dL_count_16 : decode cL_count 16 = .ok (.ireturn, 1) := by decide +kernel
theorem dL_of_0 : decode cL_of 0 = .ok (.aload_n 3, 1) := by decide +kernel
theorem dL_of_1 : decode cL_of 1 = .ok (.iconst 0, 1) := by decide +kernel
theorem dL_of_2 : decode cL_of 2 = .ok (.aload_n 0, 1) := by decide +kernel
theorem dL_of_3 : decode cL_of 3 = .ok (.iload_n 1, 1) := by decide +kernel
theorem dL_of_4 : decode cL_of 4 = .ok (.iload_n 2, 1) := by decide +kernel
theorem dL_of_5 : decode cL_of 5 = .ok (.invokevirtual 24, 3) := by decide +kernel
theorem dL_of_8 : decode cL_of 8 = .ok (.i2l, 1) := by decide +kernel
theorem dL_of_9 : decode cL_of 9 = .ok (.lastore, 1) := by decide +kernel
theorem dL_of_10 : decode cL_of 10 = .ok (.goto 7, 3) := by decide +kernel
theorem dL_of_13 : decode cL_of 13 = .ok (.astore 4, 2) := by decide +kernel
theorem dL_of_15 : decode cL_of 15 = .ok (.iconst 1, 1) := by decide +kernel
theorem dL_of_16 : decode cL_of 16 = .ok (.ireturn, 1) := by decide +kernel
theorem dL_of_17 : decode cL_of 17 = .ok (.iconst 0, 1) := by decide +kernel
theorem dL_of_18 : decode cL_of 18 = .ok (.ireturn, 1) := by decide +kernel
theorem dL_term_0 : decode cL_term 0 = .ok (.aload_n 3, 1) := by decide +kernel
theorem dL_term_1 : decode cL_term 1 = .ok (.iconst 0, 1) := by decide +kernel
theorem dL_term_2 : decode cL_term 2 = .ok (.aload_n 0, 1) := by decide +kernel
theorem dL_term_3 : decode cL_term 3 = .ok (.iload_n 1, 1) := by decide +kernel
theorem dL_term_4 : decode cL_term 4 = .ok (.iload_n 2, 1) := by decide +kernel
theorem dL_term_5 : decode cL_term 5 = .ok (.invokevirtual 27, 3) := by decide +kernel
theorem dL_term_8 : decode cL_term 8 = .ok (.i2l, 1) := by decide +kernel
theorem dL_term_9 : decode cL_term 9 = .ok (.lastore, 1) := by decide +kernel
theorem dL_term_10 : decode cL_term 10 = .ok (.goto 7, 3) := by decide +kernel
theorem dL_term_13 : decode cL_term 13 = .ok (.astore 4, 2) := by decide +kernel
theorem dL_term_15 : decode cL_term 15 = .ok (.iconst 1, 1) := by decide +kernel
theorem dL_term_16 : decode cL_term 16 = .ok (.ireturn, 1) := by decide +kernel
theorem dL_term_17 : decode cL_term 17 = .ok (.iconst 0, 1) := by decide +kernel
theorem dL_term_18 : decode cL_term 18 = .ok (.ireturn, 1) := by decide +kernel
theorem dL_read_0 : decode cL_read 0 = .ok (.aload 4, 2) := by decide +kernel
theorem dL_read_2 : decode cL_read 2 = .ok (.iconst 0, 1) := by decide +kernel
theorem dL_read_3 : decode cL_read 3 = .ok (.aload_n 0, 1) := by decide +kernel
theorem dL_read_4 : decode cL_read 4 = .ok (.iload_n 1, 1) := by decide +kernel
theorem dL_read_5 : decode cL_read 5 = .ok (.iload_n 2, 1) := by decide +kernel
theorem dL_read_6 : decode cL_read 6 = .ok (.iload_n 3, 1) := by decide +kernel
theorem dL_read_7 : decode cL_read 7 = .ok (.invokevirtual 30, 3) := by decide +kernel
theorem dL_read_10 : decode cL_read 10 = .ok (.i2l, 1) := by decide +kernel
theorem dL_read_11 : decode cL_read 11 = .ok (.lastore, 1) := by decide +kernel
theorem dL_read_12 : decode cL_read 12 = .ok (.goto 7, 3) := by decide +kernel
theorem dL_read_15 : decode cL_read 15 = .ok (.astore 5, 2) := by decide +kernel
theorem dL_read_17 : decode cL_read 17 = .ok (.iconst 1, 1) := by decide +kernel
theorem dL_read_18 : decode cL_read 18 = .ok (.ireturn, 1) := by decide +kernel
theorem dL_read_19 : decode cL_read 19 = .ok (.iconst 0, 1) := by decide +kernel
theorem dL_read_20 : decode cL_read 20 = .ok (.ireturn, 1) := by decide +kernel
theorem dL_convergent_0 : decode cL_convergent 0 = .ok (.aload 4, 2) := by decide +kernel
theorem dL_convergent_2 : decode cL_convergent 2 = .ok (.iconst 0, 1) := by decide +kernel
theorem dL_convergent_3 : decode cL_convergent 3 = .ok (.aload_n 0, 1) := by decide +kernel
theorem dL_convergent_4 : decode cL_convergent 4 = .ok (.iload_n 1, 1) := by decide +kernel
theorem dL_convergent_5 : decode cL_convergent 5 = .ok (.iload_n 2, 1) := by decide +kernel
theorem dL_convergent_6 : decode cL_convergent 6 = .ok (.iload_n 3, 1) := by decide +kernel
theorem dL_convergent_7 : decode cL_convergent 7 = .ok (.invokevirtual 34, 3) := by decide +kernel
theorem dL_convergent_10 : decode cL_convergent 10 = .ok (.lastore, 1) := by decide +kernel
theorem dL_convergent_11 : decode cL_convergent 11 = .ok (.goto 7, 3) := by decide +kernel
theorem dL_convergent_14 : decode cL_convergent 14 = .ok (.astore 5, 2) := by decide +kernel
theorem dL_convergent_16 : decode cL_convergent 16 = .ok (.iconst 1, 1) := by decide +kernel
theorem dL_convergent_17 : decode cL_convergent 17 = .ok (.ireturn, 1) := by decide +kernel
theorem dL_convergent_18 : decode cL_convergent 18 = .ok (.iconst 0, 1) := by decide +kernel
theorem dL_convergent_19 : decode cL_convergent 19 = .ok (.ireturn, 1) := by decide +kernel
theorem dL_nearest_0 : decode cL_nearest 0 = .ok (.aload_n 3, 1) := by decide +kernel
theorem dL_nearest_1 : decode cL_nearest 1 = .ok (.iconst 0, 1) := by decide +kernel
theorem dL_nearest_2 : decode cL_nearest 2 = .ok (.aload_n 0, 1) := by decide +kernel
theorem dL_nearest_3 : decode cL_nearest 3 = .ok (.iload_n 1, 1) := by decide +kernel
theorem dL_nearest_4 : decode cL_nearest 4 = .ok (.iload_n 2, 1) := by decide +kernel
theorem dL_nearest_5 : decode cL_nearest 5 = .ok (.invokevirtual 38, 3) := by decide +kernel
theorem dL_nearest_8 : decode cL_nearest 8 = .ok (.i2l, 1) := by decide +kernel
theorem dL_nearest_9 : decode cL_nearest 9 = .ok (.lastore, 1) := by decide +kernel
theorem dL_nearest_10 : decode cL_nearest 10 = .ok (.goto 11, 3) := by decide +kernel
theorem dL_nearest_13 : decode cL_nearest 13 = .ok (.astore 4, 2) := by decide +kernel
theorem dL_nearest_15 : decode cL_nearest 15 = .ok (.iconst 1, 1) := by decide +kernel
theorem dL_nearest_16 : decode cL_nearest 16 = .ok (.ireturn, 1) := by decide +kernel
theorem dL_nearest_17 : decode cL_nearest 17 = .ok (.astore 4, 2) := by decide +kernel
theorem dL_nearest_19 : decode cL_nearest 19 = .ok (.iconst 2, 1) := by decide +kernel
theorem dL_nearest_20 : decode cL_nearest 20 = .ok (.ireturn, 1) := by decide +kernel
theorem dL_nearest_21 : decode cL_nearest 21 = .ok (.iconst 0, 1) := by decide +kernel
theorem dL_nearest_22 : decode cL_nearest 22 = .ok (.ireturn, 1) := by decide +kernel
theorem dL_mediant_0 : decode cL_mediant 0 = .ok (.aload 5, 2) := by decide +kernel
theorem dL_mediant_2 : decode cL_mediant 2 = .ok (.iconst 0, 1) := by decide +kernel
theorem dL_mediant_3 : decode cL_mediant 3 = .ok (.aload_n 0, 1) := by decide +kernel
theorem dL_mediant_4 : decode cL_mediant 4 = .ok (.iload_n 1, 1) := by decide +kernel
theorem dL_mediant_5 : decode cL_mediant 5 = .ok (.iload_n 2, 1) := by decide +kernel
theorem dL_mediant_6 : decode cL_mediant 6 = .ok (.iload_n 3, 1) := by decide +kernel
theorem dL_mediant_7 : decode cL_mediant 7 = .ok (.iload 4, 2) := by decide +kernel
theorem dL_mediant_9 : decode cL_mediant 9 = .ok (.invokevirtual 41, 3) := by decide +kernel
theorem dL_mediant_12 : decode cL_mediant 12 = .ok (.lastore, 1) := by decide +kernel
theorem dL_mediant_13 : decode cL_mediant 13 = .ok (.goto 7, 3) := by decide +kernel
theorem dL_mediant_16 : decode cL_mediant 16 = .ok (.astore 6, 2) := by decide +kernel
theorem dL_mediant_18 : decode cL_mediant 18 = .ok (.iconst 1, 1) := by decide +kernel
theorem dL_mediant_19 : decode cL_mediant 19 = .ok (.ireturn, 1) := by decide +kernel
theorem dL_mediant_20 : decode cL_mediant 20 = .ok (.iconst 0, 1) := by decide +kernel
theorem dL_mediant_21 : decode cL_mediant 21 = .ok (.ireturn, 1) := by decide +kernel
theorem dL_compare_0 : decode cL_compare 0 = .ok (.aload_n 3, 1) := by decide +kernel
theorem dL_compare_1 : decode cL_compare 1 = .ok (.iconst 0, 1) := by decide +kernel
theorem dL_compare_2 : decode cL_compare 2 = .ok (.aload_n 0, 1) := by decide +kernel
theorem dL_compare_3 : decode cL_compare 3 = .ok (.iload_n 1, 1) := by decide +kernel
theorem dL_compare_4 : decode cL_compare 4 = .ok (.iload_n 2, 1) := by decide +kernel
theorem dL_compare_5 : decode cL_compare 5 = .ok (.invokevirtual 45, 3) := by decide +kernel
theorem dL_compare_8 : decode cL_compare 8 = .ok (.i2l, 1) := by decide +kernel
theorem dL_compare_9 : decode cL_compare 9 = .ok (.lastore, 1) := by decide +kernel
theorem dL_compare_10 : decode cL_compare 10 = .ok (.goto 7, 3) := by decide +kernel
theorem dL_compare_13 : decode cL_compare 13 = .ok (.astore 4, 2) := by decide +kernel
theorem dL_compare_15 : decode cL_compare 15 = .ok (.iconst 1, 1) := by decide +kernel
theorem dL_compare_16 : decode cL_compare 16 = .ok (.ireturn, 1) := by decide +kernel
theorem dL_compare_17 : decode cL_compare 17 = .ok (.iconst 0, 1) := by decide +kernel
theorem dL_compare_18 : decode cL_compare 18 = .ok (.ireturn, 1) := by decide +kernel
theorem dL_alike_0 : decode cL_alike 0 = .ok (.aload_n 3, 1) := by decide +kernel
theorem dL_alike_1 : decode cL_alike 1 = .ok (.iconst 0, 1) := by decide +kernel
theorem dL_alike_2 : decode cL_alike 2 = .ok (.aload_n 0, 1) := by decide +kernel
theorem dL_alike_3 : decode cL_alike 3 = .ok (.iload_n 1, 1) := by decide +kernel
theorem dL_alike_4 : decode cL_alike 4 = .ok (.iload_n 2, 1) := by decide +kernel
theorem dL_alike_5 : decode cL_alike 5 = .ok (.invokevirtual 48, 3) := by decide +kernel
theorem dL_alike_8 : decode cL_alike 8 = .ok (.i2l, 1) := by decide +kernel
theorem dL_alike_9 : decode cL_alike 9 = .ok (.lastore, 1) := by decide +kernel
theorem dL_alike_10 : decode cL_alike 10 = .ok (.goto 7, 3) := by decide +kernel
theorem dL_alike_13 : decode cL_alike 13 = .ok (.astore 4, 2) := by decide +kernel
theorem dL_alike_15 : decode cL_alike 15 = .ok (.iconst 1, 1) := by decide +kernel
theorem dL_alike_16 : decode cL_alike 16 = .ok (.ireturn, 1) := by decide +kernel
theorem dL_alike_17 : decode cL_alike 17 = .ok (.iconst 0, 1) := by decide +kernel
theorem dL_alike_18 : decode cL_alike 18 = .ok (.ireturn, 1) := by decide +kernel
theorem dL_again_0 : decode cL_again 0 = .ok (.aload_n 3, 1) := by decide +kernel
theorem dL_again_1 : decode cL_again 1 = .ok (.iconst 0, 1) := by decide +kernel
theorem dL_again_2 : decode cL_again 2 = .ok (.aload_n 0, 1) := by decide +kernel
theorem dL_again_3 : decode cL_again 3 = .ok (.iload_n 1, 1) := by decide +kernel
theorem dL_again_4 : decode cL_again 4 = .ok (.iload_n 2, 1) := by decide +kernel
theorem dL_again_5 : decode cL_again 5 = .ok (.invokevirtual 51, 3) := by decide +kernel
theorem dL_again_8 : decode cL_again 8 = .ok (.i2l, 1) := by decide +kernel
theorem dL_again_9 : decode cL_again 9 = .ok (.lastore, 1) := by decide +kernel
theorem dL_again_10 : decode cL_again 10 = .ok (.goto 7, 3) := by decide +kernel
theorem dL_again_13 : decode cL_again 13 = .ok (.astore 4, 2) := by decide +kernel
theorem dL_again_15 : decode cL_again 15 = .ok (.iconst 1, 1) := by decide +kernel
theorem dL_again_16 : decode cL_again 16 = .ok (.ireturn, 1) := by decide +kernel
theorem dL_again_17 : decode cL_again 17 = .ok (.iconst 0, 1) := by decide +kernel
theorem dL_again_18 : decode cL_again 18 = .ok (.ireturn, 1) := by decide +kernel
theorem dL_tails_0 : decode cL_tails 0 = .ok (.aload 4, 2) := by decide +kernel
theorem dL_tails_2 : decode cL_tails 2 = .ok (.iconst 0, 1) := by decide +kernel
theorem dL_tails_3 : decode cL_tails 3 = .ok (.aload_n 0, 1) := by decide +kernel
theorem dL_tails_4 : decode cL_tails 4 = .ok (.iload_n 1, 1) := by decide +kernel
theorem dL_tails_5 : decode cL_tails 5 = .ok (.iload_n 2, 1) := by decide +kernel
theorem dL_tails_6 : decode cL_tails 6 = .ok (.iload_n 3, 1) := by decide +kernel
theorem dL_tails_7 : decode cL_tails 7 = .ok (.invokevirtual 54, 3) := by decide +kernel
theorem dL_tails_10 : decode cL_tails 10 = .ok (.i2l, 1) := by decide +kernel
theorem dL_tails_11 : decode cL_tails 11 = .ok (.lastore, 1) := by decide +kernel
theorem dL_tails_12 : decode cL_tails 12 = .ok (.goto 7, 3) := by decide +kernel
theorem dL_tails_15 : decode cL_tails 15 = .ok (.astore 5, 2) := by decide +kernel
theorem dL_tails_17 : decode cL_tails 17 = .ok (.iconst 1, 1) := by decide +kernel
theorem dL_tails_18 : decode cL_tails 18 = .ok (.ireturn, 1) := by decide +kernel
theorem dL_tails_19 : decode cL_tails 19 = .ok (.iconst 0, 1) := by decide +kernel
theorem dL_tails_20 : decode cL_tails 20 = .ok (.ireturn, 1) := by decide +kernel
theorem dL_floor_0 : decode cL_floor 0 = .ok (.aload_n 3, 1) := by decide +kernel
theorem dL_floor_1 : decode cL_floor 1 = .ok (.iconst 0, 1) := by decide +kernel
theorem dL_floor_2 : decode cL_floor 2 = .ok (.aload_n 0, 1) := by decide +kernel
theorem dL_floor_3 : decode cL_floor 3 = .ok (.iload_n 1, 1) := by decide +kernel
theorem dL_floor_4 : decode cL_floor 4 = .ok (.iload_n 2, 1) := by decide +kernel
theorem dL_floor_5 : decode cL_floor 5 = .ok (.invokevirtual 58, 3) := by decide +kernel
theorem dL_floor_8 : decode cL_floor 8 = .ok (.i2l, 1) := by decide +kernel
theorem dL_floor_9 : decode cL_floor 9 = .ok (.lastore, 1) := by decide +kernel
theorem dL_floor_10 : decode cL_floor 10 = .ok (.goto 11, 3) := by decide +kernel
theorem dL_floor_13 : decode cL_floor 13 = .ok (.astore 4, 2) := by decide +kernel
theorem dL_floor_15 : decode cL_floor 15 = .ok (.iconst 1, 1) := by decide +kernel
theorem dL_floor_16 : decode cL_floor 16 = .ok (.ireturn, 1) := by decide +kernel
theorem dL_floor_17 : decode cL_floor 17 = .ok (.astore 4, 2) := by decide +kernel
theorem dL_floor_19 : decode cL_floor 19 = .ok (.iconst 2, 1) := by decide +kernel
theorem dL_floor_20 : decode cL_floor 20 = .ok (.ireturn, 1) := by decide +kernel
theorem dL_floor_21 : decode cL_floor 21 = .ok (.iconst 0, 1) := by decide +kernel
theorem dL_floor_22 : decode cL_floor 22 = .ok (.ireturn, 1) := by decide +kernel
theorem dL_would_0 : decode cL_would 0 = .ok (.aload 7, 2) := by decide +kernel
theorem dL_would_2 : decode cL_would 2 = .ok (.iconst 0, 1) := by decide +kernel
theorem dL_would_3 : decode cL_would 3 = .ok (.aload_n 0, 1) := by decide +kernel
theorem dL_would_4 : decode cL_would 4 = .ok (.iload_n 1, 1) := by decide +kernel
theorem dL_would_5 : decode cL_would 5 = .ok (.iload_n 2, 1) := by decide +kernel
theorem dL_would_6 : decode cL_would 6 = .ok (.iload_n 3, 1) := by decide +kernel
theorem dL_would_7 : decode cL_would 7 = .ok (.iload 4, 2) := by decide +kernel
theorem dL_would_9 : decode cL_would 9 = .ok (.iload 5, 2) := by decide +kernel
theorem dL_would_11 : decode cL_would 11 = .ok (.iload 6, 2) := by decide +kernel
theorem dL_would_13 : decode cL_would 13 = .ok (.invokevirtual 61, 3) := by decide +kernel
theorem dL_would_16 : decode cL_would 16 = .ok (.i2l, 1) := by decide +kernel
theorem dL_would_17 : decode cL_would 17 = .ok (.lastore, 1) := by decide +kernel
theorem dL_would_18 : decode cL_would 18 = .ok (.goto 11, 3) := by decide +kernel
theorem dL_would_21 : decode cL_would 21 = .ok (.astore 8, 2) := by decide +kernel
theorem dL_would_23 : decode cL_would 23 = .ok (.iconst 1, 1) := by decide +kernel
theorem dL_would_24 : decode cL_would 24 = .ok (.ireturn, 1) := by decide +kernel
theorem dL_would_25 : decode cL_would 25 = .ok (.astore 8, 2) := by decide +kernel
theorem dL_would_27 : decode cL_would 27 = .ok (.iconst 2, 1) := by decide +kernel
theorem dL_would_28 : decode cL_would 28 = .ok (.ireturn, 1) := by decide +kernel
theorem dL_would_29 : decode cL_would 29 = .ok (.iconst 0, 1) := by decide +kernel
theorem dL_would_30 : decode cL_would 30 = .ok (.ireturn, 1) := by decide +kernel
theorem dL_often_0 : decode cL_often 0 = .ok (.aload_n 3, 1) := by decide +kernel
theorem dL_often_1 : decode cL_often 1 = .ok (.iconst 0, 1) := by decide +kernel
theorem dL_often_2 : decode cL_often 2 = .ok (.aload_n 0, 1) := by decide +kernel
theorem dL_often_3 : decode cL_often 3 = .ok (.iload_n 1, 1) := by decide +kernel
theorem dL_often_4 : decode cL_often 4 = .ok (.iload_n 2, 1) := by decide +kernel
theorem dL_often_5 : decode cL_often 5 = .ok (.invokevirtual 65, 3) := by decide +kernel
theorem dL_often_8 : decode cL_often 8 = .ok (.i2l, 1) := by decide +kernel
theorem dL_often_9 : decode cL_often 9 = .ok (.lastore, 1) := by decide +kernel
theorem dL_often_10 : decode cL_often 10 = .ok (.goto 7, 3) := by decide +kernel
theorem dL_often_13 : decode cL_often 13 = .ok (.astore 4, 2) := by decide +kernel
theorem dL_often_15 : decode cL_often 15 = .ok (.iconst 1, 1) := by decide +kernel
theorem dL_often_16 : decode cL_often 16 = .ok (.ireturn, 1) := by decide +kernel
theorem dL_often_17 : decode cL_often 17 = .ok (.iconst 0, 1) := by decide +kernel
theorem dL_often_18 : decode cL_often 18 = .ok (.ireturn, 1) := by decide +kernel
theorem dL_left_0 : decode cL_left 0 = .ok (.aload 4, 2) := by decide +kernel
theorem dL_left_2 : decode cL_left 2 = .ok (.iconst 0, 1) := by decide +kernel
theorem dL_left_3 : decode cL_left 3 = .ok (.aload_n 0, 1) := by decide +kernel
theorem dL_left_4 : decode cL_left 4 = .ok (.iload_n 1, 1) := by decide +kernel
theorem dL_left_5 : decode cL_left 5 = .ok (.iload_n 2, 1) := by decide +kernel
theorem dL_left_6 : decode cL_left 6 = .ok (.iload_n 3, 1) := by decide +kernel
theorem dL_left_7 : decode cL_left 7 = .ok (.invokevirtual 68, 3) := by decide +kernel
theorem dL_left_10 : decode cL_left 10 = .ok (.i2l, 1) := by decide +kernel
theorem dL_left_11 : decode cL_left 11 = .ok (.lastore, 1) := by decide +kernel
theorem dL_left_12 : decode cL_left 12 = .ok (.goto 7, 3) := by decide +kernel
theorem dL_left_15 : decode cL_left 15 = .ok (.astore 5, 2) := by decide +kernel
theorem dL_left_17 : decode cL_left 17 = .ok (.iconst 1, 1) := by decide +kernel
theorem dL_left_18 : decode cL_left 18 = .ok (.ireturn, 1) := by decide +kernel
theorem dL_left_19 : decode cL_left 19 = .ok (.iconst 0, 1) := by decide +kernel
theorem dL_left_20 : decode cL_left 20 = .ok (.ireturn, 1) := by decide +kernel
theorem dL_say_0 : decode cL_say 0 = .ok (.aload_n 3, 1) := by decide +kernel
theorem dL_say_1 : decode cL_say 1 = .ok (.iconst 0, 1) := by decide +kernel
theorem dL_say_2 : decode cL_say 2 = .ok (.aload_n 0, 1) := by decide +kernel
theorem dL_say_3 : decode cL_say 3 = .ok (.iload_n 1, 1) := by decide +kernel
theorem dL_say_4 : decode cL_say 4 = .ok (.iload_n 2, 1) := by decide +kernel
theorem dL_say_5 : decode cL_say 5 = .ok (.invokevirtual 71, 3) := by decide +kernel
theorem dL_say_8 : decode cL_say 8 = .ok (.i2l, 1) := by decide +kernel
theorem dL_say_9 : decode cL_say 9 = .ok (.lastore, 1) := by decide +kernel
theorem dL_say_10 : decode cL_say 10 = .ok (.goto 11, 3) := by decide +kernel
theorem dL_say_13 : decode cL_say 13 = .ok (.astore 4, 2) := by decide +kernel
theorem dL_say_15 : decode cL_say 15 = .ok (.iconst 1, 1) := by decide +kernel
theorem dL_say_16 : decode cL_say 16 = .ok (.ireturn, 1) := by decide +kernel
theorem dL_say_17 : decode cL_say 17 = .ok (.astore 4, 2) := by decide +kernel
theorem dL_say_19 : decode cL_say 19 = .ok (.iconst 2, 1) := by decide +kernel
theorem dL_say_20 : decode cL_say 20 = .ok (.ireturn, 1) := by decide +kernel
theorem dL_say_21 : decode cL_say 21 = .ok (.iconst 0, 1) := by decide +kernel
theorem dL_say_22 : decode cL_say 22 = .ok (.ireturn, 1) := by decide +kernel
theorem dL_law_0 : decode cL_law 0 = .ok (.new 8, 3) := by decide +kernel
theorem dL_law_3 : decode cL_law 3 = .ok (.dup, 1) := by decide +kernel
theorem dL_law_4 : decode cL_law 4 = .ok (.invokespecial 74, 3) := by decide +kernel
theorem dL_law_7 : decode cL_law 7 = .ok (.astore_n 1, 1) := by decide +kernel
theorem dL_law_8 : decode cL_law 8 = .ok (.new 75, 3) := by decide +kernel
theorem dL_law_11 : decode cL_law 11 = .ok (.dup, 1) := by decide +kernel
theorem dL_law_12 : decode cL_law 12 = .ok (.invokespecial 77, 3) := by decide +kernel
theorem dL_law_15 : decode cL_law 15 = .ok (.astore_n 2, 1) := by decide +kernel
theorem dL_law_16 : decode cL_law 16 = .ok (.iconst 1, 1) := by decide +kernel
theorem dL_law_17 : decode cL_law 17 = .ok (.newarray .long, 2) := by decide +kernel
theorem dL_law_19 : decode cL_law 19 = .ok (.astore_n 3, 1) := by decide +kernel
theorem dL_law_20 : decode cL_law 20 = .ok (.iconst 0, 1) := by decide +kernel
theorem dL_law_21 : decode cL_law 21 = .ok (.istore 4, 2) := by decide +kernel
theorem dL_law_23 : decode cL_law 23 = .ok (.iload 4, 2) := by decide +kernel
theorem dL_law_25 : decode cL_law 25 = .ok (.aload_n 0, 1) := by decide +kernel
theorem dL_law_26 : decode cL_law 26 = .ok (.arraylength, 1) := by decide +kernel
theorem dL_law_27 : decode cL_law 27 = .ok (.bipush 7, 2) := by decide +kernel
theorem dL_law_29 : decode cL_law 29 = .ok (.isub, 1) := by decide +kernel
theorem dL_law_30 : decode cL_law 30 = .ok (.if_icmp .gt 1898, 3) := by decide +kernel
theorem dL_law_33 : decode cL_law 33 = .ok (.aload_n 0, 1) := by decide +kernel
theorem dL_law_34 : decode cL_law 34 = .ok (.iload 4, 2) := by decide +kernel
theorem dL_law_36 : decode cL_law 36 = .ok (.iaload, 1) := by decide +kernel
theorem dL_law_37 : decode cL_law 37 = .ok (.bipush 31, 2) := by decide +kernel
theorem dL_law_39 : decode cL_law 39 = .ok (.iand, 1) := by decide +kernel
theorem dL_law_40 : decode cL_law 40 = .ok (.tableswitch 1882 0 25 #[120, 193, 261, 329, 342, 391, 452, 539, 600, 613, 669, 737, 805, 901, 996, 1064, 1171, 1239, 1307, 1375, 1455, 1523, 1641, 1709, 1789, 1857], 120) := by decide +kernel
theorem dL_law_160 : decode cL_law 160 = .ok (.aload_n 1, 1) := by decide +kernel
theorem dL_law_161 : decode cL_law 161 = .ok (.aload_n 0, 1) := by decide +kernel
theorem dL_law_162 : decode cL_law 162 = .ok (.iload 4, 2) := by decide +kernel
theorem dL_law_164 : decode cL_law 164 = .ok (.iconst 1, 1) := by decide +kernel
theorem dL_law_165 : decode cL_law 165 = .ok (.iadd, 1) := by decide +kernel
theorem dL_law_166 : decode cL_law 166 = .ok (.iaload, 1) := by decide +kernel
theorem dL_law_167 : decode cL_law 167 = .ok (.aload_n 0, 1) := by decide +kernel
theorem dL_law_168 : decode cL_law 168 = .ok (.iload 4, 2) := by decide +kernel
theorem dL_law_170 : decode cL_law 170 = .ok (.iconst 2, 1) := by decide +kernel
theorem dL_law_171 : decode cL_law 171 = .ok (.iadd, 1) := by decide +kernel
theorem dL_law_172 : decode cL_law 172 = .ok (.iaload, 1) := by decide +kernel
theorem dL_law_173 : decode cL_law 173 = .ok (.aload_n 0, 1) := by decide +kernel
theorem dL_law_174 : decode cL_law 174 = .ok (.iload 4, 2) := by decide +kernel
theorem dL_law_176 : decode cL_law 176 = .ok (.iconst 3, 1) := by decide +kernel
theorem dL_law_177 : decode cL_law 177 = .ok (.iadd, 1) := by decide +kernel
theorem dL_law_178 : decode cL_law 178 = .ok (.iaload, 1) := by decide +kernel
theorem dL_law_179 : decode cL_law 179 = .ok (.aload_n 0, 1) := by decide +kernel
theorem dL_law_180 : decode cL_law 180 = .ok (.iload 4, 2) := by decide +kernel
theorem dL_law_182 : decode cL_law 182 = .ok (.iconst 4, 1) := by decide +kernel
theorem dL_law_183 : decode cL_law 183 = .ok (.iadd, 1) := by decide +kernel
theorem dL_law_184 : decode cL_law 184 = .ok (.iaload, 1) := by decide +kernel
theorem dL_law_185 : decode cL_law 185 = .ok (.aload_n 0, 1) := by decide +kernel
theorem dL_law_186 : decode cL_law 186 = .ok (.iload 4, 2) := by decide +kernel
theorem dL_law_188 : decode cL_law 188 = .ok (.iconst 5, 1) := by decide +kernel
theorem dL_law_189 : decode cL_law 189 = .ok (.iadd, 1) := by decide +kernel
theorem dL_law_190 : decode cL_law 190 = .ok (.iaload, 1) := by decide +kernel
theorem dL_law_191 : decode cL_law 191 = .ok (.invokevirtual 78, 3) := by decide +kernel
theorem dL_law_194 : decode cL_law 194 = .ok (.aload_n 2, 1) := by decide +kernel
theorem dL_law_195 : decode cL_law 195 = .ok (.aload_n 0, 1) := by decide +kernel
theorem dL_law_196 : decode cL_law 196 = .ok (.iload 4, 2) := by decide +kernel
theorem dL_law_198 : decode cL_law 198 = .ok (.iconst 1, 1) := by decide +kernel
theorem dL_law_199 : decode cL_law 199 = .ok (.iadd, 1) := by decide +kernel
theorem dL_law_200 : decode cL_law 200 = .ok (.iaload, 1) := by decide +kernel
theorem dL_law_201 : decode cL_law 201 = .ok (.aload_n 0, 1) := by decide +kernel
theorem dL_law_202 : decode cL_law 202 = .ok (.iload 4, 2) := by decide +kernel
theorem dL_law_204 : decode cL_law 204 = .ok (.iconst 2, 1) := by decide +kernel
theorem dL_law_205 : decode cL_law 205 = .ok (.iadd, 1) := by decide +kernel
theorem dL_law_206 : decode cL_law 206 = .ok (.iaload, 1) := by decide +kernel
theorem dL_law_207 : decode cL_law 207 = .ok (.aload_n 0, 1) := by decide +kernel
theorem dL_law_208 : decode cL_law 208 = .ok (.iload 4, 2) := by decide +kernel
theorem dL_law_210 : decode cL_law 210 = .ok (.iconst 3, 1) := by decide +kernel
theorem dL_law_211 : decode cL_law 211 = .ok (.iadd, 1) := by decide +kernel
theorem dL_law_212 : decode cL_law 212 = .ok (.iaload, 1) := by decide +kernel
theorem dL_law_213 : decode cL_law 213 = .ok (.aload_n 0, 1) := by decide +kernel
theorem dL_law_214 : decode cL_law 214 = .ok (.iload 4, 2) := by decide +kernel
theorem dL_law_216 : decode cL_law 216 = .ok (.iconst 4, 1) := by decide +kernel
theorem dL_law_217 : decode cL_law 217 = .ok (.iadd, 1) := by decide +kernel
theorem dL_law_218 : decode cL_law 218 = .ok (.iaload, 1) := by decide +kernel
theorem dL_law_219 : decode cL_law 219 = .ok (.aload_n 0, 1) := by decide +kernel
theorem dL_law_220 : decode cL_law 220 = .ok (.iload 4, 2) := by decide +kernel
theorem dL_law_222 : decode cL_law 222 = .ok (.iconst 5, 1) := by decide +kernel
theorem dL_law_223 : decode cL_law 223 = .ok (.iadd, 1) := by decide +kernel
theorem dL_law_224 : decode cL_law 224 = .ok (.iaload, 1) := by decide +kernel
theorem dL_law_225 : decode cL_law 225 = .ok (.invokevirtual 82, 3) := by decide +kernel
theorem dL_law_228 : decode cL_law 228 = .ok (.if_icmp .eq 1694, 3) := by decide +kernel
theorem dL_law_231 : decode cL_law 231 = .ok (.iconst 0, 1) := by decide +kernel
theorem dL_law_232 : decode cL_law 232 = .ok (.ireturn, 1) := by decide +kernel
theorem dL_law_233 : decode cL_law 233 = .ok (.aload_n 1, 1) := by decide +kernel
theorem dL_law_234 : decode cL_law 234 = .ok (.aload_n 0, 1) := by decide +kernel
theorem dL_law_235 : decode cL_law 235 = .ok (.iload 4, 2) := by decide +kernel
theorem dL_law_237 : decode cL_law 237 = .ok (.iconst 1, 1) := by decide +kernel
theorem dL_law_238 : decode cL_law 238 = .ok (.iadd, 1) := by decide +kernel
theorem dL_law_239 : decode cL_law 239 = .ok (.iaload, 1) := by decide +kernel
theorem dL_law_240 : decode cL_law 240 = .ok (.aload_n 0, 1) := by decide +kernel
theorem dL_law_241 : decode cL_law 241 = .ok (.iload 4, 2) := by decide +kernel
theorem dL_law_243 : decode cL_law 243 = .ok (.iconst 2, 1) := by decide +kernel
theorem dL_law_244 : decode cL_law 244 = .ok (.iadd, 1) := by decide +kernel
theorem dL_law_245 : decode cL_law 245 = .ok (.iaload, 1) := by decide +kernel
theorem dL_law_246 : decode cL_law 246 = .ok (.aload_n 3, 1) := by decide +kernel
theorem dL_law_247 : decode cL_law 247 = .ok (.invokestatic 83, 3) := by decide +kernel
theorem dL_law_250 : decode cL_law 250 = .ok (.istore 5, 2) := by decide +kernel
theorem dL_law_252 : decode cL_law 252 = .ok (.aload_n 2, 1) := by decide +kernel
theorem dL_law_253 : decode cL_law 253 = .ok (.aload_n 0, 1) := by decide +kernel
theorem dL_law_254 : decode cL_law 254 = .ok (.iload 4, 2) := by decide +kernel
theorem dL_law_256 : decode cL_law 256 = .ok (.iconst 1, 1) := by decide +kernel
theorem dL_law_257 : decode cL_law 257 = .ok (.iadd, 1) := by decide +kernel
theorem dL_law_258 : decode cL_law 258 = .ok (.iaload, 1) := by decide +kernel
theorem dL_law_259 : decode cL_law 259 = .ok (.aload_n 0, 1) := by decide +kernel
theorem dL_law_260 : decode cL_law 260 = .ok (.iload 4, 2) := by decide +kernel
theorem dL_law_262 : decode cL_law 262 = .ok (.iconst 2, 1) := by decide +kernel
theorem dL_law_263 : decode cL_law 263 = .ok (.iadd, 1) := by decide +kernel
theorem dL_law_264 : decode cL_law 264 = .ok (.iaload, 1) := by decide +kernel
theorem dL_law_265 : decode cL_law 265 = .ok (.invokevirtual 88, 3) := by decide +kernel
theorem dL_law_268 : decode cL_law 268 = .ok (.istore 6, 2) := by decide +kernel
theorem dL_law_270 : decode cL_law 270 = .ok (.aload_n 2, 1) := by decide +kernel
theorem dL_law_271 : decode cL_law 271 = .ok (.invokevirtual 89, 3) := by decide +kernel
theorem dL_law_274 : decode cL_law 274 = .ok (.iload 5, 2) := by decide +kernel
theorem dL_law_276 : decode cL_law 276 = .ok (.if_icmp .eq 5, 3) := by decide +kernel
theorem dL_law_279 : decode cL_law 279 = .ok (.iconst 0, 1) := by decide +kernel
theorem dL_law_280 : decode cL_law 280 = .ok (.ireturn, 1) := by decide +kernel
theorem dL_law_281 : decode cL_law 281 = .ok (.iload 5, 2) := by decide +kernel
theorem dL_law_283 : decode cL_law 283 = .ok (.ifCond .ne 15, 3) := by decide +kernel
theorem dL_law_286 : decode cL_law 286 = .ok (.aload_n 3, 1) := by decide +kernel
theorem dL_law_287 : decode cL_law 287 = .ok (.iconst 0, 1) := by decide +kernel
theorem dL_law_288 : decode cL_law 288 = .ok (.laload, 1) := by decide +kernel
theorem dL_law_289 : decode cL_law 289 = .ok (.iload 6, 2) := by decide +kernel
theorem dL_law_291 : decode cL_law 291 = .ok (.i2l, 1) := by decide +kernel
theorem dL_law_292 : decode cL_law 292 = .ok (.lcmp, 1) := by decide +kernel
theorem dL_law_293 : decode cL_law 293 = .ok (.ifCond .eq 5, 3) := by decide +kernel
theorem dL_law_296 : decode cL_law 296 = .ok (.iconst 0, 1) := by decide +kernel
theorem dL_law_297 : decode cL_law 297 = .ok (.ireturn, 1) := by decide +kernel
theorem dL_law_298 : decode cL_law 298 = .ok (.goto 1624, 3) := by decide +kernel
theorem dL_law_301 : decode cL_law 301 = .ok (.aload_n 1, 1) := by decide +kernel
theorem dL_law_302 : decode cL_law 302 = .ok (.aload_n 0, 1) := by decide +kernel
theorem dL_law_303 : decode cL_law 303 = .ok (.iload 4, 2) := by decide +kernel
theorem dL_law_305 : decode cL_law 305 = .ok (.iconst 1, 1) := by decide +kernel
theorem dL_law_306 : decode cL_law 306 = .ok (.iadd, 1) := by decide +kernel
theorem dL_law_307 : decode cL_law 307 = .ok (.iaload, 1) := by decide +kernel
theorem dL_law_308 : decode cL_law 308 = .ok (.aload_n 0, 1) := by decide +kernel
theorem dL_law_309 : decode cL_law 309 = .ok (.iload 4, 2) := by decide +kernel
theorem dL_law_311 : decode cL_law 311 = .ok (.iconst 2, 1) := by decide +kernel
theorem dL_law_312 : decode cL_law 312 = .ok (.iadd, 1) := by decide +kernel
theorem dL_law_313 : decode cL_law 313 = .ok (.iaload, 1) := by decide +kernel
theorem dL_law_314 : decode cL_law 314 = .ok (.aload_n 3, 1) := by decide +kernel
theorem dL_law_315 : decode cL_law 315 = .ok (.invokestatic 93, 3) := by decide +kernel
theorem dL_law_318 : decode cL_law 318 = .ok (.istore 5, 2) := by decide +kernel
theorem dL_law_320 : decode cL_law 320 = .ok (.aload_n 2, 1) := by decide +kernel
theorem dL_law_321 : decode cL_law 321 = .ok (.aload_n 0, 1) := by decide +kernel
theorem dL_law_322 : decode cL_law 322 = .ok (.iload 4, 2) := by decide +kernel
theorem dL_law_324 : decode cL_law 324 = .ok (.iconst 1, 1) := by decide +kernel
theorem dL_law_325 : decode cL_law 325 = .ok (.iadd, 1) := by decide +kernel
theorem dL_law_326 : decode cL_law 326 = .ok (.iaload, 1) := by decide +kernel
theorem dL_law_327 : decode cL_law 327 = .ok (.aload_n 0, 1) := by decide +kernel
theorem dL_law_328 : decode cL_law 328 = .ok (.iload 4, 2) := by decide +kernel
theorem dL_law_330 : decode cL_law 330 = .ok (.iconst 2, 1) := by decide +kernel
theorem dL_law_331 : decode cL_law 331 = .ok (.iadd, 1) := by decide +kernel
theorem dL_law_332 : decode cL_law 332 = .ok (.iaload, 1) := by decide +kernel
theorem dL_law_333 : decode cL_law 333 = .ok (.invokevirtual 95, 3) := by decide +kernel
theorem dL_law_336 : decode cL_law 336 = .ok (.istore 6, 2) := by decide +kernel
theorem dL_law_338 : decode cL_law 338 = .ok (.aload_n 2, 1) := by decide +kernel
theorem dL_law_339 : decode cL_law 339 = .ok (.invokevirtual 89, 3) := by decide +kernel
theorem dL_law_342 : decode cL_law 342 = .ok (.iload 5, 2) := by decide +kernel
theorem dL_law_344 : decode cL_law 344 = .ok (.if_icmp .eq 5, 3) := by decide +kernel
theorem dL_law_347 : decode cL_law 347 = .ok (.iconst 0, 1) := by decide +kernel
theorem dL_law_348 : decode cL_law 348 = .ok (.ireturn, 1) := by decide +kernel
theorem dL_law_349 : decode cL_law 349 = .ok (.iload 5, 2) := by decide +kernel
theorem dL_law_351 : decode cL_law 351 = .ok (.ifCond .ne 15, 3) := by decide +kernel
theorem dL_law_354 : decode cL_law 354 = .ok (.aload_n 3, 1) := by decide +kernel
theorem dL_law_355 : decode cL_law 355 = .ok (.iconst 0, 1) := by decide +kernel
theorem dL_law_356 : decode cL_law 356 = .ok (.laload, 1) := by decide +kernel
theorem dL_law_357 : decode cL_law 357 = .ok (.iload 6, 2) := by decide +kernel
theorem dL_law_359 : decode cL_law 359 = .ok (.i2l, 1) := by decide +kernel
theorem dL_law_360 : decode cL_law 360 = .ok (.lcmp, 1) := by decide +kernel
theorem dL_law_361 : decode cL_law 361 = .ok (.ifCond .eq 5, 3) := by decide +kernel
theorem dL_law_364 : decode cL_law 364 = .ok (.iconst 0, 1) := by decide +kernel
theorem dL_law_365 : decode cL_law 365 = .ok (.ireturn, 1) := by decide +kernel
theorem dL_law_366 : decode cL_law 366 = .ok (.goto 1556, 3) := by decide +kernel
theorem dL_law_369 : decode cL_law 369 = .ok (.aload_n 1, 1) := by decide +kernel
theorem dL_law_370 : decode cL_law 370 = .ok (.invokevirtual 96, 3) := by decide +kernel
theorem dL_law_373 : decode cL_law 373 = .ok (.aload_n 2, 1) := by decide +kernel
theorem dL_law_374 : decode cL_law 374 = .ok (.invokevirtual 99, 3) := by decide +kernel
theorem dL_law_377 : decode cL_law 377 = .ok (.if_icmp .eq 1545, 3) := by decide +kernel
theorem dL_law_380 : decode cL_law 380 = .ok (.iconst 0, 1) := by decide +kernel
theorem dL_law_381 : decode cL_law 381 = .ok (.ireturn, 1) := by decide +kernel
theorem dL_law_382 : decode cL_law 382 = .ok (.aload_n 1, 1) := by decide +kernel
theorem dL_law_383 : decode cL_law 383 = .ok (.aload_n 0, 1) := by decide +kernel
theorem dL_law_384 : decode cL_law 384 = .ok (.iload 4, 2) := by decide +kernel
theorem dL_law_386 : decode cL_law 386 = .ok (.iconst 1, 1) := by decide +kernel
theorem dL_law_387 : decode cL_law 387 = .ok (.iadd, 1) := by decide +kernel
theorem dL_law_388 : decode cL_law 388 = .ok (.iaload, 1) := by decide +kernel
theorem dL_law_389 : decode cL_law 389 = .ok (.aload_n 0, 1) := by decide +kernel
theorem dL_law_390 : decode cL_law 390 = .ok (.iload 4, 2) := by decide +kernel
theorem dL_law_392 : decode cL_law 392 = .ok (.iconst 2, 1) := by decide +kernel
theorem dL_law_393 : decode cL_law 393 = .ok (.iadd, 1) := by decide +kernel
theorem dL_law_394 : decode cL_law 394 = .ok (.iaload, 1) := by decide +kernel
theorem dL_law_395 : decode cL_law 395 = .ok (.aload_n 0, 1) := by decide +kernel
theorem dL_law_396 : decode cL_law 396 = .ok (.iload 4, 2) := by decide +kernel
theorem dL_law_398 : decode cL_law 398 = .ok (.iconst 3, 1) := by decide +kernel
theorem dL_law_399 : decode cL_law 399 = .ok (.iadd, 1) := by decide +kernel
theorem dL_law_400 : decode cL_law 400 = .ok (.iaload, 1) := by decide +kernel
theorem dL_law_401 : decode cL_law 401 = .ok (.invokevirtual 100, 3) := by decide +kernel
theorem dL_law_404 : decode cL_law 404 = .ok (.aload_n 2, 1) := by decide +kernel
theorem dL_law_405 : decode cL_law 405 = .ok (.aload_n 0, 1) := by decide +kernel
theorem dL_law_406 : decode cL_law 406 = .ok (.iload 4, 2) := by decide +kernel
theorem dL_law_408 : decode cL_law 408 = .ok (.iconst 1, 1) := by decide +kernel
theorem dL_law_409 : decode cL_law 409 = .ok (.iadd, 1) := by decide +kernel
theorem dL_law_410 : decode cL_law 410 = .ok (.iaload, 1) := by decide +kernel
theorem dL_law_411 : decode cL_law 411 = .ok (.aload_n 0, 1) := by decide +kernel
theorem dL_law_412 : decode cL_law 412 = .ok (.iload 4, 2) := by decide +kernel
theorem dL_law_414 : decode cL_law 414 = .ok (.iconst 2, 1) := by decide +kernel
theorem dL_law_415 : decode cL_law 415 = .ok (.iadd, 1) := by decide +kernel
theorem dL_law_416 : decode cL_law 416 = .ok (.iaload, 1) := by decide +kernel
theorem dL_law_417 : decode cL_law 417 = .ok (.aload_n 0, 1) := by decide +kernel
theorem dL_law_418 : decode cL_law 418 = .ok (.iload 4, 2) := by decide +kernel
theorem dL_law_420 : decode cL_law 420 = .ok (.iconst 3, 1) := by decide +kernel
theorem dL_law_421 : decode cL_law 421 = .ok (.iadd, 1) := by decide +kernel
theorem dL_law_422 : decode cL_law 422 = .ok (.iaload, 1) := by decide +kernel
theorem dL_law_423 : decode cL_law 423 = .ok (.invokevirtual 104, 3) := by decide +kernel
theorem dL_law_426 : decode cL_law 426 = .ok (.if_icmp .eq 1496, 3) := by decide +kernel
theorem dL_law_429 : decode cL_law 429 = .ok (.iconst 0, 1) := by decide +kernel
theorem dL_law_430 : decode cL_law 430 = .ok (.ireturn, 1) := by decide +kernel
theorem dL_law_431 : decode cL_law 431 = .ok (.aload_n 1, 1) := by decide +kernel
theorem dL_law_432 : decode cL_law 432 = .ok (.aload_n 0, 1) := by decide +kernel
theorem dL_law_433 : decode cL_law 433 = .ok (.iload 4, 2) := by decide +kernel
theorem dL_law_435 : decode cL_law 435 = .ok (.iconst 1, 1) := by decide +kernel
theorem dL_law_436 : decode cL_law 436 = .ok (.iadd, 1) := by decide +kernel
theorem dL_law_437 : decode cL_law 437 = .ok (.iaload, 1) := by decide +kernel
theorem dL_law_438 : decode cL_law 438 = .ok (.aload_n 0, 1) := by decide +kernel
theorem dL_law_439 : decode cL_law 439 = .ok (.iload 4, 2) := by decide +kernel
theorem dL_law_441 : decode cL_law 441 = .ok (.iconst 2, 1) := by decide +kernel
theorem dL_law_442 : decode cL_law 442 = .ok (.iadd, 1) := by decide +kernel
theorem dL_law_443 : decode cL_law 443 = .ok (.iaload, 1) := by decide +kernel
theorem dL_law_444 : decode cL_law 444 = .ok (.aload_n 0, 1) := by decide +kernel
theorem dL_law_445 : decode cL_law 445 = .ok (.iload 4, 2) := by decide +kernel
theorem dL_law_447 : decode cL_law 447 = .ok (.iconst 3, 1) := by decide +kernel
theorem dL_law_448 : decode cL_law 448 = .ok (.iadd, 1) := by decide +kernel
theorem dL_law_449 : decode cL_law 449 = .ok (.iaload, 1) := by decide +kernel
theorem dL_law_450 : decode cL_law 450 = .ok (.aload_n 0, 1) := by decide +kernel
theorem dL_law_451 : decode cL_law 451 = .ok (.iload 4, 2) := by decide +kernel
theorem dL_law_453 : decode cL_law 453 = .ok (.iconst 4, 1) := by decide +kernel
theorem dL_law_454 : decode cL_law 454 = .ok (.iadd, 1) := by decide +kernel
theorem dL_law_455 : decode cL_law 455 = .ok (.iaload, 1) := by decide +kernel
theorem dL_law_456 : decode cL_law 456 = .ok (.invokevirtual 105, 3) := by decide +kernel
theorem dL_law_459 : decode cL_law 459 = .ok (.aload_n 2, 1) := by decide +kernel
theorem dL_law_460 : decode cL_law 460 = .ok (.aload_n 0, 1) := by decide +kernel
theorem dL_law_461 : decode cL_law 461 = .ok (.iload 4, 2) := by decide +kernel
theorem dL_law_463 : decode cL_law 463 = .ok (.iconst 1, 1) := by decide +kernel
theorem dL_law_464 : decode cL_law 464 = .ok (.iadd, 1) := by decide +kernel
theorem dL_law_465 : decode cL_law 465 = .ok (.iaload, 1) := by decide +kernel
theorem dL_law_466 : decode cL_law 466 = .ok (.aload_n 0, 1) := by decide +kernel
theorem dL_law_467 : decode cL_law 467 = .ok (.iload 4, 2) := by decide +kernel
theorem dL_law_469 : decode cL_law 469 = .ok (.iconst 2, 1) := by decide +kernel
theorem dL_law_470 : decode cL_law 470 = .ok (.iadd, 1) := by decide +kernel
theorem dL_law_471 : decode cL_law 471 = .ok (.iaload, 1) := by decide +kernel
theorem dL_law_472 : decode cL_law 472 = .ok (.aload_n 0, 1) := by decide +kernel
theorem dL_law_473 : decode cL_law 473 = .ok (.iload 4, 2) := by decide +kernel
theorem dL_law_475 : decode cL_law 475 = .ok (.iconst 3, 1) := by decide +kernel
theorem dL_law_476 : decode cL_law 476 = .ok (.iadd, 1) := by decide +kernel
theorem dL_law_477 : decode cL_law 477 = .ok (.iaload, 1) := by decide +kernel
theorem dL_law_478 : decode cL_law 478 = .ok (.aload_n 0, 1) := by decide +kernel
theorem dL_law_479 : decode cL_law 479 = .ok (.iload 4, 2) := by decide +kernel
theorem dL_law_481 : decode cL_law 481 = .ok (.iconst 4, 1) := by decide +kernel
theorem dL_law_482 : decode cL_law 482 = .ok (.iadd, 1) := by decide +kernel
theorem dL_law_483 : decode cL_law 483 = .ok (.iaload, 1) := by decide +kernel
theorem dL_law_484 : decode cL_law 484 = .ok (.invokevirtual 109, 3) := by decide +kernel
theorem dL_law_487 : decode cL_law 487 = .ok (.if_icmp .eq 1435, 3) := by decide +kernel
theorem dL_law_490 : decode cL_law 490 = .ok (.iconst 0, 1) := by decide +kernel
theorem dL_law_491 : decode cL_law 491 = .ok (.ireturn, 1) := by decide +kernel
theorem dL_law_492 : decode cL_law 492 = .ok (.aload_n 1, 1) := by decide +kernel
theorem dL_law_493 : decode cL_law 493 = .ok (.aload_n 0, 1) := by decide +kernel
theorem dL_law_494 : decode cL_law 494 = .ok (.iload 4, 2) := by decide +kernel
theorem dL_law_496 : decode cL_law 496 = .ok (.iconst 1, 1) := by decide +kernel
theorem dL_law_497 : decode cL_law 497 = .ok (.iadd, 1) := by decide +kernel
theorem dL_law_498 : decode cL_law 498 = .ok (.iaload, 1) := by decide +kernel
theorem dL_law_499 : decode cL_law 499 = .ok (.aload_n 0, 1) := by decide +kernel
theorem dL_law_500 : decode cL_law 500 = .ok (.iload 4, 2) := by decide +kernel
theorem dL_law_502 : decode cL_law 502 = .ok (.iconst 2, 1) := by decide +kernel
theorem dL_law_503 : decode cL_law 503 = .ok (.iadd, 1) := by decide +kernel
theorem dL_law_504 : decode cL_law 504 = .ok (.iaload, 1) := by decide +kernel
theorem dL_law_505 : decode cL_law 505 = .ok (.aload_n 0, 1) := by decide +kernel
theorem dL_law_506 : decode cL_law 506 = .ok (.iload 4, 2) := by decide +kernel
theorem dL_law_508 : decode cL_law 508 = .ok (.iconst 3, 1) := by decide +kernel
theorem dL_law_509 : decode cL_law 509 = .ok (.iadd, 1) := by decide +kernel
theorem dL_law_510 : decode cL_law 510 = .ok (.iaload, 1) := by decide +kernel
theorem dL_law_511 : decode cL_law 511 = .ok (.aload_n 0, 1) := by decide +kernel
theorem dL_law_512 : decode cL_law 512 = .ok (.iload 4, 2) := by decide +kernel
theorem dL_law_514 : decode cL_law 514 = .ok (.iconst 4, 1) := by decide +kernel
theorem dL_law_515 : decode cL_law 515 = .ok (.iadd, 1) := by decide +kernel
theorem dL_law_516 : decode cL_law 516 = .ok (.iaload, 1) := by decide +kernel
theorem dL_law_517 : decode cL_law 517 = .ok (.aload_n 0, 1) := by decide +kernel
theorem dL_law_518 : decode cL_law 518 = .ok (.iload 4, 2) := by decide +kernel
theorem dL_law_520 : decode cL_law 520 = .ok (.iconst 5, 1) := by decide +kernel
theorem dL_law_521 : decode cL_law 521 = .ok (.iadd, 1) := by decide +kernel
theorem dL_law_522 : decode cL_law 522 = .ok (.iaload, 1) := by decide +kernel
theorem dL_law_523 : decode cL_law 523 = .ok (.aload_n 0, 1) := by decide +kernel
theorem dL_law_524 : decode cL_law 524 = .ok (.iload 4, 2) := by decide +kernel
theorem dL_law_526 : decode cL_law 526 = .ok (.bipush 6, 2) := by decide +kernel
theorem dL_law_528 : decode cL_law 528 = .ok (.iadd, 1) := by decide +kernel
theorem dL_law_529 : decode cL_law 529 = .ok (.iaload, 1) := by decide +kernel
theorem dL_law_530 : decode cL_law 530 = .ok (.invokevirtual 110, 3) := by decide +kernel
theorem dL_law_533 : decode cL_law 533 = .ok (.aload_n 2, 1) := by decide +kernel
theorem dL_law_534 : decode cL_law 534 = .ok (.aload_n 0, 1) := by decide +kernel
theorem dL_law_535 : decode cL_law 535 = .ok (.iload 4, 2) := by decide +kernel
theorem dL_law_537 : decode cL_law 537 = .ok (.iconst 1, 1) := by decide +kernel
theorem dL_law_538 : decode cL_law 538 = .ok (.iadd, 1) := by decide +kernel
theorem dL_law_539 : decode cL_law 539 = .ok (.iaload, 1) := by decide +kernel
theorem dL_law_540 : decode cL_law 540 = .ok (.aload_n 0, 1) := by decide +kernel
theorem dL_law_541 : decode cL_law 541 = .ok (.iload 4, 2) := by decide +kernel
theorem dL_law_543 : decode cL_law 543 = .ok (.iconst 2, 1) := by decide +kernel
theorem dL_law_544 : decode cL_law 544 = .ok (.iadd, 1) := by decide +kernel
theorem dL_law_545 : decode cL_law 545 = .ok (.iaload, 1) := by decide +kernel
theorem dL_law_546 : decode cL_law 546 = .ok (.aload_n 0, 1) := by decide +kernel
theorem dL_law_547 : decode cL_law 547 = .ok (.iload 4, 2) := by decide +kernel
theorem dL_law_549 : decode cL_law 549 = .ok (.iconst 3, 1) := by decide +kernel
theorem dL_law_550 : decode cL_law 550 = .ok (.iadd, 1) := by decide +kernel
theorem dL_law_551 : decode cL_law 551 = .ok (.iaload, 1) := by decide +kernel
theorem dL_law_552 : decode cL_law 552 = .ok (.aload_n 0, 1) := by decide +kernel
theorem dL_law_553 : decode cL_law 553 = .ok (.iload 4, 2) := by decide +kernel
theorem dL_law_555 : decode cL_law 555 = .ok (.iconst 4, 1) := by decide +kernel
theorem dL_law_556 : decode cL_law 556 = .ok (.iadd, 1) := by decide +kernel
theorem dL_law_557 : decode cL_law 557 = .ok (.iaload, 1) := by decide +kernel
theorem dL_law_558 : decode cL_law 558 = .ok (.aload_n 0, 1) := by decide +kernel
theorem dL_law_559 : decode cL_law 559 = .ok (.iload 4, 2) := by decide +kernel
theorem dL_law_561 : decode cL_law 561 = .ok (.iconst 5, 1) := by decide +kernel
theorem dL_law_562 : decode cL_law 562 = .ok (.iadd, 1) := by decide +kernel
theorem dL_law_563 : decode cL_law 563 = .ok (.iaload, 1) := by decide +kernel
theorem dL_law_564 : decode cL_law 564 = .ok (.aload_n 0, 1) := by decide +kernel
theorem dL_law_565 : decode cL_law 565 = .ok (.iload 4, 2) := by decide +kernel
theorem dL_law_567 : decode cL_law 567 = .ok (.bipush 6, 2) := by decide +kernel
theorem dL_law_569 : decode cL_law 569 = .ok (.iadd, 1) := by decide +kernel
theorem dL_law_570 : decode cL_law 570 = .ok (.iaload, 1) := by decide +kernel
theorem dL_law_571 : decode cL_law 571 = .ok (.invokevirtual 114, 3) := by decide +kernel
theorem dL_law_574 : decode cL_law 574 = .ok (.if_icmp .eq 1348, 3) := by decide +kernel
theorem dL_law_577 : decode cL_law 577 = .ok (.iconst 0, 1) := by decide +kernel
theorem dL_law_578 : decode cL_law 578 = .ok (.ireturn, 1) := by decide +kernel
theorem dL_law_579 : decode cL_law 579 = .ok (.aload_n 1, 1) := by decide +kernel
theorem dL_law_580 : decode cL_law 580 = .ok (.aload_n 0, 1) := by decide +kernel
theorem dL_law_581 : decode cL_law 581 = .ok (.iload 4, 2) := by decide +kernel
theorem dL_law_583 : decode cL_law 583 = .ok (.iconst 1, 1) := by decide +kernel
theorem dL_law_584 : decode cL_law 584 = .ok (.iadd, 1) := by decide +kernel
theorem dL_law_585 : decode cL_law 585 = .ok (.iaload, 1) := by decide +kernel
theorem dL_law_586 : decode cL_law 586 = .ok (.aload_n 0, 1) := by decide +kernel
theorem dL_law_587 : decode cL_law 587 = .ok (.iload 4, 2) := by decide +kernel
theorem dL_law_589 : decode cL_law 589 = .ok (.iconst 2, 1) := by decide +kernel
theorem dL_law_590 : decode cL_law 590 = .ok (.iadd, 1) := by decide +kernel
theorem dL_law_591 : decode cL_law 591 = .ok (.iaload, 1) := by decide +kernel
theorem dL_law_592 : decode cL_law 592 = .ok (.aload_n 0, 1) := by decide +kernel
theorem dL_law_593 : decode cL_law 593 = .ok (.iload 4, 2) := by decide +kernel
theorem dL_law_595 : decode cL_law 595 = .ok (.iconst 3, 1) := by decide +kernel
theorem dL_law_596 : decode cL_law 596 = .ok (.iadd, 1) := by decide +kernel
theorem dL_law_597 : decode cL_law 597 = .ok (.iaload, 1) := by decide +kernel
theorem dL_law_598 : decode cL_law 598 = .ok (.aload_n 0, 1) := by decide +kernel
theorem dL_law_599 : decode cL_law 599 = .ok (.iload 4, 2) := by decide +kernel
theorem dL_law_601 : decode cL_law 601 = .ok (.iconst 4, 1) := by decide +kernel
theorem dL_law_602 : decode cL_law 602 = .ok (.iadd, 1) := by decide +kernel
theorem dL_law_603 : decode cL_law 603 = .ok (.iaload, 1) := by decide +kernel
theorem dL_law_604 : decode cL_law 604 = .ok (.invokevirtual 115, 3) := by decide +kernel
theorem dL_law_607 : decode cL_law 607 = .ok (.aload_n 2, 1) := by decide +kernel
theorem dL_law_608 : decode cL_law 608 = .ok (.aload_n 0, 1) := by decide +kernel
theorem dL_law_609 : decode cL_law 609 = .ok (.iload 4, 2) := by decide +kernel
theorem dL_law_611 : decode cL_law 611 = .ok (.iconst 1, 1) := by decide +kernel
theorem dL_law_612 : decode cL_law 612 = .ok (.iadd, 1) := by decide +kernel
theorem dL_law_613 : decode cL_law 613 = .ok (.iaload, 1) := by decide +kernel
theorem dL_law_614 : decode cL_law 614 = .ok (.aload_n 0, 1) := by decide +kernel
theorem dL_law_615 : decode cL_law 615 = .ok (.iload 4, 2) := by decide +kernel
theorem dL_law_617 : decode cL_law 617 = .ok (.iconst 2, 1) := by decide +kernel
theorem dL_law_618 : decode cL_law 618 = .ok (.iadd, 1) := by decide +kernel
theorem dL_law_619 : decode cL_law 619 = .ok (.iaload, 1) := by decide +kernel
theorem dL_law_620 : decode cL_law 620 = .ok (.aload_n 0, 1) := by decide +kernel
theorem dL_law_621 : decode cL_law 621 = .ok (.iload 4, 2) := by decide +kernel
theorem dL_law_623 : decode cL_law 623 = .ok (.iconst 3, 1) := by decide +kernel
theorem dL_law_624 : decode cL_law 624 = .ok (.iadd, 1) := by decide +kernel
theorem dL_law_625 : decode cL_law 625 = .ok (.iaload, 1) := by decide +kernel
theorem dL_law_626 : decode cL_law 626 = .ok (.aload_n 0, 1) := by decide +kernel
theorem dL_law_627 : decode cL_law 627 = .ok (.iload 4, 2) := by decide +kernel
theorem dL_law_629 : decode cL_law 629 = .ok (.iconst 4, 1) := by decide +kernel
theorem dL_law_630 : decode cL_law 630 = .ok (.iadd, 1) := by decide +kernel
theorem dL_law_631 : decode cL_law 631 = .ok (.iaload, 1) := by decide +kernel
theorem dL_law_632 : decode cL_law 632 = .ok (.invokevirtual 118, 3) := by decide +kernel
theorem dL_law_635 : decode cL_law 635 = .ok (.if_icmp .eq 1287, 3) := by decide +kernel
theorem dL_law_638 : decode cL_law 638 = .ok (.iconst 0, 1) := by decide +kernel
theorem dL_law_639 : decode cL_law 639 = .ok (.ireturn, 1) := by decide +kernel
theorem dL_law_640 : decode cL_law 640 = .ok (.aload_n 1, 1) := by decide +kernel
theorem dL_law_641 : decode cL_law 641 = .ok (.invokevirtual 119, 3) := by decide +kernel
theorem dL_law_644 : decode cL_law 644 = .ok (.aload_n 2, 1) := by decide +kernel
theorem dL_law_645 : decode cL_law 645 = .ok (.invokevirtual 122, 3) := by decide +kernel
theorem dL_law_648 : decode cL_law 648 = .ok (.if_icmp .eq 1274, 3) := by decide +kernel
theorem dL_law_651 : decode cL_law 651 = .ok (.iconst 0, 1) := by decide +kernel
theorem dL_law_652 : decode cL_law 652 = .ok (.ireturn, 1) := by decide +kernel
theorem dL_law_653 : decode cL_law 653 = .ok (.aload_n 1, 1) := by decide +kernel
theorem dL_law_654 : decode cL_law 654 = .ok (.aload_n 0, 1) := by decide +kernel
theorem dL_law_655 : decode cL_law 655 = .ok (.iload 4, 2) := by decide +kernel
theorem dL_law_657 : decode cL_law 657 = .ok (.iconst 1, 1) := by decide +kernel
theorem dL_law_658 : decode cL_law 658 = .ok (.iadd, 1) := by decide +kernel
theorem dL_law_659 : decode cL_law 659 = .ok (.iaload, 1) := by decide +kernel
theorem dL_law_660 : decode cL_law 660 = .ok (.aload_n 3, 1) := by decide +kernel
theorem dL_law_661 : decode cL_law 661 = .ok (.invokestatic 123, 3) := by decide +kernel
theorem dL_law_664 : decode cL_law 664 = .ok (.istore 5, 2) := by decide +kernel
theorem dL_law_666 : decode cL_law 666 = .ok (.aload_n 2, 1) := by decide +kernel
theorem dL_law_667 : decode cL_law 667 = .ok (.aload_n 0, 1) := by decide +kernel
theorem dL_law_668 : decode cL_law 668 = .ok (.iload 4, 2) := by decide +kernel
theorem dL_law_670 : decode cL_law 670 = .ok (.iconst 1, 1) := by decide +kernel
theorem dL_law_671 : decode cL_law 671 = .ok (.iadd, 1) := by decide +kernel
theorem dL_law_672 : decode cL_law 672 = .ok (.iaload, 1) := by decide +kernel
theorem dL_law_673 : decode cL_law 673 = .ok (.invokevirtual 126, 3) := by decide +kernel
theorem dL_law_676 : decode cL_law 676 = .ok (.istore 6, 2) := by decide +kernel
theorem dL_law_678 : decode cL_law 678 = .ok (.aload_n 2, 1) := by decide +kernel
theorem dL_law_679 : decode cL_law 679 = .ok (.invokevirtual 89, 3) := by decide +kernel
theorem dL_law_682 : decode cL_law 682 = .ok (.iload 5, 2) := by decide +kernel
theorem dL_law_684 : decode cL_law 684 = .ok (.if_icmp .eq 5, 3) := by decide +kernel
theorem dL_law_687 : decode cL_law 687 = .ok (.iconst 0, 1) := by decide +kernel
theorem dL_law_688 : decode cL_law 688 = .ok (.ireturn, 1) := by decide +kernel
theorem dL_law_689 : decode cL_law 689 = .ok (.iload 5, 2) := by decide +kernel
theorem dL_law_691 : decode cL_law 691 = .ok (.ifCond .ne 15, 3) := by decide +kernel
theorem dL_law_694 : decode cL_law 694 = .ok (.aload_n 3, 1) := by decide +kernel
theorem dL_law_695 : decode cL_law 695 = .ok (.iconst 0, 1) := by decide +kernel
theorem dL_law_696 : decode cL_law 696 = .ok (.laload, 1) := by decide +kernel
theorem dL_law_697 : decode cL_law 697 = .ok (.iload 6, 2) := by decide +kernel
theorem dL_law_699 : decode cL_law 699 = .ok (.i2l, 1) := by decide +kernel
theorem dL_law_700 : decode cL_law 700 = .ok (.lcmp, 1) := by decide +kernel
theorem dL_law_701 : decode cL_law 701 = .ok (.ifCond .eq 5, 3) := by decide +kernel
theorem dL_law_704 : decode cL_law 704 = .ok (.iconst 0, 1) := by decide +kernel
theorem dL_law_705 : decode cL_law 705 = .ok (.ireturn, 1) := by decide +kernel
theorem dL_law_706 : decode cL_law 706 = .ok (.goto 1216, 3) := by decide +kernel
theorem dL_law_709 : decode cL_law 709 = .ok (.aload_n 1, 1) := by decide +kernel
theorem dL_law_710 : decode cL_law 710 = .ok (.aload_n 0, 1) := by decide +kernel
theorem dL_law_711 : decode cL_law 711 = .ok (.iload 4, 2) := by decide +kernel
theorem dL_law_713 : decode cL_law 713 = .ok (.iconst 1, 1) := by decide +kernel
theorem dL_law_714 : decode cL_law 714 = .ok (.iadd, 1) := by decide +kernel
theorem dL_law_715 : decode cL_law 715 = .ok (.iaload, 1) := by decide +kernel
theorem dL_law_716 : decode cL_law 716 = .ok (.aload_n 0, 1) := by decide +kernel
theorem dL_law_717 : decode cL_law 717 = .ok (.iload 4, 2) := by decide +kernel
theorem dL_law_719 : decode cL_law 719 = .ok (.iconst 2, 1) := by decide +kernel
theorem dL_law_720 : decode cL_law 720 = .ok (.iadd, 1) := by decide +kernel
theorem dL_law_721 : decode cL_law 721 = .ok (.iaload, 1) := by decide +kernel
theorem dL_law_722 : decode cL_law 722 = .ok (.aload_n 3, 1) := by decide +kernel
theorem dL_law_723 : decode cL_law 723 = .ok (.invokestatic 127, 3) := by decide +kernel
theorem dL_law_726 : decode cL_law 726 = .ok (.istore 5, 2) := by decide +kernel
theorem dL_law_728 : decode cL_law 728 = .ok (.aload_n 2, 1) := by decide +kernel
theorem dL_law_729 : decode cL_law 729 = .ok (.aload_n 0, 1) := by decide +kernel
theorem dL_law_730 : decode cL_law 730 = .ok (.iload 4, 2) := by decide +kernel
theorem dL_law_732 : decode cL_law 732 = .ok (.iconst 1, 1) := by decide +kernel
theorem dL_law_733 : decode cL_law 733 = .ok (.iadd, 1) := by decide +kernel
theorem dL_law_734 : decode cL_law 734 = .ok (.iaload, 1) := by decide +kernel
theorem dL_law_735 : decode cL_law 735 = .ok (.aload_n 0, 1) := by decide +kernel
theorem dL_law_736 : decode cL_law 736 = .ok (.iload 4, 2) := by decide +kernel
theorem dL_law_738 : decode cL_law 738 = .ok (.iconst 2, 1) := by decide +kernel
theorem dL_law_739 : decode cL_law 739 = .ok (.iadd, 1) := by decide +kernel
theorem dL_law_740 : decode cL_law 740 = .ok (.iaload, 1) := by decide +kernel
theorem dL_law_741 : decode cL_law 741 = .ok (.invokevirtual 129, 3) := by decide +kernel
theorem dL_law_744 : decode cL_law 744 = .ok (.istore 6, 2) := by decide +kernel
theorem dL_law_746 : decode cL_law 746 = .ok (.aload_n 2, 1) := by decide +kernel
theorem dL_law_747 : decode cL_law 747 = .ok (.invokevirtual 89, 3) := by decide +kernel
theorem dL_law_750 : decode cL_law 750 = .ok (.iload 5, 2) := by decide +kernel
theorem dL_law_752 : decode cL_law 752 = .ok (.if_icmp .eq 5, 3) := by decide +kernel
theorem dL_law_755 : decode cL_law 755 = .ok (.iconst 0, 1) := by decide +kernel
theorem dL_law_756 : decode cL_law 756 = .ok (.ireturn, 1) := by decide +kernel
theorem dL_law_757 : decode cL_law 757 = .ok (.iload 5, 2) := by decide +kernel
theorem dL_law_759 : decode cL_law 759 = .ok (.ifCond .ne 15, 3) := by decide +kernel
theorem dL_law_762 : decode cL_law 762 = .ok (.aload_n 3, 1) := by decide +kernel
theorem dL_law_763 : decode cL_law 763 = .ok (.iconst 0, 1) := by decide +kernel
theorem dL_law_764 : decode cL_law 764 = .ok (.laload, 1) := by decide +kernel
theorem dL_law_765 : decode cL_law 765 = .ok (.iload 6, 2) := by decide +kernel
theorem dL_law_767 : decode cL_law 767 = .ok (.i2l, 1) := by decide +kernel
theorem dL_law_768 : decode cL_law 768 = .ok (.lcmp, 1) := by decide +kernel
theorem dL_law_769 : decode cL_law 769 = .ok (.ifCond .eq 5, 3) := by decide +kernel
theorem dL_law_772 : decode cL_law 772 = .ok (.iconst 0, 1) := by decide +kernel
theorem dL_law_773 : decode cL_law 773 = .ok (.ireturn, 1) := by decide +kernel
theorem dL_law_774 : decode cL_law 774 = .ok (.goto 1148, 3) := by decide +kernel
theorem dL_law_777 : decode cL_law 777 = .ok (.aload_n 1, 1) := by decide +kernel
theorem dL_law_778 : decode cL_law 778 = .ok (.aload_n 0, 1) := by decide +kernel
theorem dL_law_779 : decode cL_law 779 = .ok (.iload 4, 2) := by decide +kernel
theorem dL_law_781 : decode cL_law 781 = .ok (.iconst 1, 1) := by decide +kernel
theorem dL_law_782 : decode cL_law 782 = .ok (.iadd, 1) := by decide +kernel
theorem dL_law_783 : decode cL_law 783 = .ok (.iaload, 1) := by decide +kernel
theorem dL_law_784 : decode cL_law 784 = .ok (.aload_n 0, 1) := by decide +kernel
theorem dL_law_785 : decode cL_law 785 = .ok (.iload 4, 2) := by decide +kernel
theorem dL_law_787 : decode cL_law 787 = .ok (.iconst 2, 1) := by decide +kernel
theorem dL_law_788 : decode cL_law 788 = .ok (.iadd, 1) := by decide +kernel
theorem dL_law_789 : decode cL_law 789 = .ok (.iaload, 1) := by decide +kernel
theorem dL_law_790 : decode cL_law 790 = .ok (.aload_n 3, 1) := by decide +kernel
theorem dL_law_791 : decode cL_law 791 = .ok (.invokestatic 130, 3) := by decide +kernel
theorem dL_law_794 : decode cL_law 794 = .ok (.istore 5, 2) := by decide +kernel
theorem dL_law_796 : decode cL_law 796 = .ok (.aload_n 2, 1) := by decide +kernel
theorem dL_law_797 : decode cL_law 797 = .ok (.aload_n 0, 1) := by decide +kernel
theorem dL_law_798 : decode cL_law 798 = .ok (.iload 4, 2) := by decide +kernel
theorem dL_law_800 : decode cL_law 800 = .ok (.iconst 1, 1) := by decide +kernel
theorem dL_law_801 : decode cL_law 801 = .ok (.iadd, 1) := by decide +kernel
theorem dL_law_802 : decode cL_law 802 = .ok (.iaload, 1) := by decide +kernel
theorem dL_law_803 : decode cL_law 803 = .ok (.aload_n 0, 1) := by decide +kernel
theorem dL_law_804 : decode cL_law 804 = .ok (.iload 4, 2) := by decide +kernel
theorem dL_law_806 : decode cL_law 806 = .ok (.iconst 2, 1) := by decide +kernel
theorem dL_law_807 : decode cL_law 807 = .ok (.iadd, 1) := by decide +kernel
theorem dL_law_808 : decode cL_law 808 = .ok (.iaload, 1) := by decide +kernel
theorem dL_law_809 : decode cL_law 809 = .ok (.invokevirtual 132, 3) := by decide +kernel
theorem dL_law_812 : decode cL_law 812 = .ok (.istore 6, 2) := by decide +kernel
theorem dL_law_814 : decode cL_law 814 = .ok (.aload_n 2, 1) := by decide +kernel
theorem dL_law_815 : decode cL_law 815 = .ok (.invokevirtual 89, 3) := by decide +kernel
theorem dL_law_818 : decode cL_law 818 = .ok (.iload 5, 2) := by decide +kernel
theorem dL_law_820 : decode cL_law 820 = .ok (.if_icmp .eq 5, 3) := by decide +kernel
theorem dL_law_823 : decode cL_law 823 = .ok (.iconst 0, 1) := by decide +kernel
theorem dL_law_824 : decode cL_law 824 = .ok (.ireturn, 1) := by decide +kernel
theorem dL_law_825 : decode cL_law 825 = .ok (.iload 5, 2) := by decide +kernel
theorem dL_law_827 : decode cL_law 827 = .ok (.ifCond .ne 15, 3) := by decide +kernel
theorem dL_law_830 : decode cL_law 830 = .ok (.aload_n 3, 1) := by decide +kernel
theorem dL_law_831 : decode cL_law 831 = .ok (.iconst 0, 1) := by decide +kernel
theorem dL_law_832 : decode cL_law 832 = .ok (.laload, 1) := by decide +kernel
theorem dL_law_833 : decode cL_law 833 = .ok (.iload 6, 2) := by decide +kernel
theorem dL_law_835 : decode cL_law 835 = .ok (.i2l, 1) := by decide +kernel
theorem dL_law_836 : decode cL_law 836 = .ok (.lcmp, 1) := by decide +kernel
theorem dL_law_837 : decode cL_law 837 = .ok (.ifCond .eq 5, 3) := by decide +kernel
theorem dL_law_840 : decode cL_law 840 = .ok (.iconst 0, 1) := by decide +kernel
theorem dL_law_841 : decode cL_law 841 = .ok (.ireturn, 1) := by decide +kernel
theorem dL_law_842 : decode cL_law 842 = .ok (.goto 1080, 3) := by decide +kernel
theorem dL_law_845 : decode cL_law 845 = .ok (.aload_n 1, 1) := by decide +kernel
theorem dL_law_846 : decode cL_law 846 = .ok (.aload_n 0, 1) := by decide +kernel
theorem dL_law_847 : decode cL_law 847 = .ok (.iload 4, 2) := by decide +kernel
theorem dL_law_849 : decode cL_law 849 = .ok (.iconst 1, 1) := by decide +kernel
theorem dL_law_850 : decode cL_law 850 = .ok (.iadd, 1) := by decide +kernel
theorem dL_law_851 : decode cL_law 851 = .ok (.iaload, 1) := by decide +kernel
theorem dL_law_852 : decode cL_law 852 = .ok (.aload_n 0, 1) := by decide +kernel
theorem dL_law_853 : decode cL_law 853 = .ok (.iload 4, 2) := by decide +kernel
theorem dL_law_855 : decode cL_law 855 = .ok (.iconst 2, 1) := by decide +kernel
theorem dL_law_856 : decode cL_law 856 = .ok (.iadd, 1) := by decide +kernel
theorem dL_law_857 : decode cL_law 857 = .ok (.iaload, 1) := by decide +kernel
theorem dL_law_858 : decode cL_law 858 = .ok (.aload_n 0, 1) := by decide +kernel
theorem dL_law_859 : decode cL_law 859 = .ok (.iload 4, 2) := by decide +kernel
theorem dL_law_861 : decode cL_law 861 = .ok (.iconst 3, 1) := by decide +kernel
theorem dL_law_862 : decode cL_law 862 = .ok (.iadd, 1) := by decide +kernel
theorem dL_law_863 : decode cL_law 863 = .ok (.iaload, 1) := by decide +kernel
theorem dL_law_864 : decode cL_law 864 = .ok (.ifCond .eq 7, 3) := by decide +kernel
theorem dL_law_867 : decode cL_law 867 = .ok (.iconst 1, 1) := by decide +kernel
theorem dL_law_868 : decode cL_law 868 = .ok (.goto 4, 3) := by decide +kernel
theorem dL_law_871 : decode cL_law 871 = .ok (.iconst 0, 1) := by decide +kernel
theorem dL_law_872 : decode cL_law 872 = .ok (.aload_n 3, 1) := by decide +kernel
theorem dL_law_873 : decode cL_law 873 = .ok (.invokestatic 133, 3) := by decide +kernel
theorem dL_law_876 : decode cL_law 876 = .ok (.istore 5, 2) := by decide +kernel
theorem dL_law_878 : decode cL_law 878 = .ok (.aload_n 2, 1) := by decide +kernel
theorem dL_law_879 : decode cL_law 879 = .ok (.aload_n 0, 1) := by decide +kernel
theorem dL_law_880 : decode cL_law 880 = .ok (.iload 4, 2) := by decide +kernel
theorem dL_law_882 : decode cL_law 882 = .ok (.iconst 1, 1) := by decide +kernel
theorem dL_law_883 : decode cL_law 883 = .ok (.iadd, 1) := by decide +kernel
theorem dL_law_884 : decode cL_law 884 = .ok (.iaload, 1) := by decide +kernel
theorem dL_law_885 : decode cL_law 885 = .ok (.aload_n 0, 1) := by decide +kernel
theorem dL_law_886 : decode cL_law 886 = .ok (.iload 4, 2) := by decide +kernel
theorem dL_law_888 : decode cL_law 888 = .ok (.iconst 2, 1) := by decide +kernel
theorem dL_law_889 : decode cL_law 889 = .ok (.iadd, 1) := by decide +kernel
theorem dL_law_890 : decode cL_law 890 = .ok (.iaload, 1) := by decide +kernel
theorem dL_law_891 : decode cL_law 891 = .ok (.aload_n 0, 1) := by decide +kernel
theorem dL_law_892 : decode cL_law 892 = .ok (.iload 4, 2) := by decide +kernel
theorem dL_law_894 : decode cL_law 894 = .ok (.iconst 3, 1) := by decide +kernel
theorem dL_law_895 : decode cL_law 895 = .ok (.iadd, 1) := by decide +kernel
theorem dL_law_896 : decode cL_law 896 = .ok (.iaload, 1) := by decide +kernel
theorem dL_law_897 : decode cL_law 897 = .ok (.ifCond .eq 7, 3) := by decide +kernel
theorem dL_law_900 : decode cL_law 900 = .ok (.iconst 1, 1) := by decide +kernel
theorem dL_law_901 : decode cL_law 901 = .ok (.goto 4, 3) := by decide +kernel
theorem dL_law_904 : decode cL_law 904 = .ok (.iconst 0, 1) := by decide +kernel
theorem dL_law_905 : decode cL_law 905 = .ok (.invokevirtual 136, 3) := by decide +kernel
theorem dL_law_908 : decode cL_law 908 = .ok (.istore 6, 2) := by decide +kernel
theorem dL_law_910 : decode cL_law 910 = .ok (.aload_n 2, 1) := by decide +kernel
theorem dL_law_911 : decode cL_law 911 = .ok (.invokevirtual 89, 3) := by decide +kernel
theorem dL_law_914 : decode cL_law 914 = .ok (.iload 5, 2) := by decide +kernel
theorem dL_law_916 : decode cL_law 916 = .ok (.if_icmp .eq 5, 3) := by decide +kernel
theorem dL_law_919 : decode cL_law 919 = .ok (.iconst 0, 1) := by decide +kernel
theorem dL_law_920 : decode cL_law 920 = .ok (.ireturn, 1) := by decide +kernel
theorem dL_law_921 : decode cL_law 921 = .ok (.iload 5, 2) := by decide +kernel
theorem dL_law_923 : decode cL_law 923 = .ok (.ifCond .ne 15, 3) := by decide +kernel
theorem dL_law_926 : decode cL_law 926 = .ok (.aload_n 3, 1) := by decide +kernel
theorem dL_law_927 : decode cL_law 927 = .ok (.iconst 0, 1) := by decide +kernel
theorem dL_law_928 : decode cL_law 928 = .ok (.laload, 1) := by decide +kernel
theorem dL_law_929 : decode cL_law 929 = .ok (.iload 6, 2) := by decide +kernel
theorem dL_law_931 : decode cL_law 931 = .ok (.i2l, 1) := by decide +kernel
theorem dL_law_932 : decode cL_law 932 = .ok (.lcmp, 1) := by decide +kernel
theorem dL_law_933 : decode cL_law 933 = .ok (.ifCond .eq 5, 3) := by decide +kernel
theorem dL_law_936 : decode cL_law 936 = .ok (.iconst 0, 1) := by decide +kernel
theorem dL_law_937 : decode cL_law 937 = .ok (.ireturn, 1) := by decide +kernel
theorem dL_law_938 : decode cL_law 938 = .ok (.goto 984, 3) := by decide +kernel
theorem dL_law_941 : decode cL_law 941 = .ok (.aload_n 1, 1) := by decide +kernel
theorem dL_law_942 : decode cL_law 942 = .ok (.aload_n 0, 1) := by decide +kernel
theorem dL_law_943 : decode cL_law 943 = .ok (.iload 4, 2) := by decide +kernel
theorem dL_law_945 : decode cL_law 945 = .ok (.iconst 1, 1) := by decide +kernel
theorem dL_law_946 : decode cL_law 946 = .ok (.iadd, 1) := by decide +kernel
theorem dL_law_947 : decode cL_law 947 = .ok (.iaload, 1) := by decide +kernel
theorem dL_law_948 : decode cL_law 948 = .ok (.aload_n 0, 1) := by decide +kernel
theorem dL_law_949 : decode cL_law 949 = .ok (.iload 4, 2) := by decide +kernel
theorem dL_law_951 : decode cL_law 951 = .ok (.iconst 2, 1) := by decide +kernel
theorem dL_law_952 : decode cL_law 952 = .ok (.iadd, 1) := by decide +kernel
theorem dL_law_953 : decode cL_law 953 = .ok (.iaload, 1) := by decide +kernel
theorem dL_law_954 : decode cL_law 954 = .ok (.aload_n 0, 1) := by decide +kernel
theorem dL_law_955 : decode cL_law 955 = .ok (.iload 4, 2) := by decide +kernel
theorem dL_law_957 : decode cL_law 957 = .ok (.iconst 3, 1) := by decide +kernel
theorem dL_law_958 : decode cL_law 958 = .ok (.iadd, 1) := by decide +kernel
theorem dL_law_959 : decode cL_law 959 = .ok (.iaload, 1) := by decide +kernel
theorem dL_law_960 : decode cL_law 960 = .ok (.ifCond .eq 7, 3) := by decide +kernel
theorem dL_law_963 : decode cL_law 963 = .ok (.iconst 1, 1) := by decide +kernel
theorem dL_law_964 : decode cL_law 964 = .ok (.goto 4, 3) := by decide +kernel
theorem dL_law_967 : decode cL_law 967 = .ok (.iconst 0, 1) := by decide +kernel
theorem dL_law_968 : decode cL_law 968 = .ok (.aload_n 3, 1) := by decide +kernel
theorem dL_law_969 : decode cL_law 969 = .ok (.invokestatic 137, 3) := by decide +kernel
theorem dL_law_972 : decode cL_law 972 = .ok (.istore 5, 2) := by decide +kernel
theorem dL_law_974 : decode cL_law 974 = .ok (.aload_n 2, 1) := by decide +kernel
theorem dL_law_975 : decode cL_law 975 = .ok (.aload_n 0, 1) := by decide +kernel
theorem dL_law_976 : decode cL_law 976 = .ok (.iload 4, 2) := by decide +kernel
theorem dL_law_978 : decode cL_law 978 = .ok (.iconst 1, 1) := by decide +kernel
theorem dL_law_979 : decode cL_law 979 = .ok (.iadd, 1) := by decide +kernel
theorem dL_law_980 : decode cL_law 980 = .ok (.iaload, 1) := by decide +kernel
theorem dL_law_981 : decode cL_law 981 = .ok (.aload_n 0, 1) := by decide +kernel
theorem dL_law_982 : decode cL_law 982 = .ok (.iload 4, 2) := by decide +kernel
theorem dL_law_984 : decode cL_law 984 = .ok (.iconst 2, 1) := by decide +kernel
theorem dL_law_985 : decode cL_law 985 = .ok (.iadd, 1) := by decide +kernel
theorem dL_law_986 : decode cL_law 986 = .ok (.iaload, 1) := by decide +kernel
theorem dL_law_987 : decode cL_law 987 = .ok (.aload_n 0, 1) := by decide +kernel
theorem dL_law_988 : decode cL_law 988 = .ok (.iload 4, 2) := by decide +kernel
theorem dL_law_990 : decode cL_law 990 = .ok (.iconst 3, 1) := by decide +kernel
theorem dL_law_991 : decode cL_law 991 = .ok (.iadd, 1) := by decide +kernel
theorem dL_law_992 : decode cL_law 992 = .ok (.iaload, 1) := by decide +kernel
theorem dL_law_993 : decode cL_law 993 = .ok (.ifCond .eq 7, 3) := by decide +kernel
theorem dL_law_996 : decode cL_law 996 = .ok (.iconst 1, 1) := by decide +kernel
theorem dL_law_997 : decode cL_law 997 = .ok (.goto 4, 3) := by decide +kernel
theorem dL_law_1000 : decode cL_law 1000 = .ok (.iconst 0, 1) := by decide +kernel
theorem dL_law_1001 : decode cL_law 1001 = .ok (.invokevirtual 139, 3) := by decide +kernel
theorem dL_law_1004 : decode cL_law 1004 = .ok (.lstore 6, 2) := by decide +kernel
theorem dL_law_1006 : decode cL_law 1006 = .ok (.aload_n 2, 1) := by decide +kernel
theorem dL_law_1007 : decode cL_law 1007 = .ok (.invokevirtual 89, 3) := by decide +kernel
theorem dL_law_1010 : decode cL_law 1010 = .ok (.iload 5, 2) := by decide +kernel
theorem dL_law_1012 : decode cL_law 1012 = .ok (.if_icmp .eq 5, 3) := by decide +kernel
theorem dL_law_1015 : decode cL_law 1015 = .ok (.iconst 0, 1) := by decide +kernel
theorem dL_law_1016 : decode cL_law 1016 = .ok (.ireturn, 1) := by decide +kernel
theorem dL_law_1017 : decode cL_law 1017 = .ok (.iload 5, 2) := by decide +kernel
theorem dL_law_1019 : decode cL_law 1019 = .ok (.ifCond .ne 14, 3) := by decide +kernel
theorem dL_law_1022 : decode cL_law 1022 = .ok (.aload_n 3, 1) := by decide +kernel
theorem dL_law_1023 : decode cL_law 1023 = .ok (.iconst 0, 1) := by decide +kernel
theorem dL_law_1024 : decode cL_law 1024 = .ok (.laload, 1) := by decide +kernel
theorem dL_law_1025 : decode cL_law 1025 = .ok (.lload 6, 2) := by decide +kernel
theorem dL_law_1027 : decode cL_law 1027 = .ok (.lcmp, 1) := by decide +kernel
theorem dL_law_1028 : decode cL_law 1028 = .ok (.ifCond .eq 5, 3) := by decide +kernel
theorem dL_law_1031 : decode cL_law 1031 = .ok (.iconst 0, 1) := by decide +kernel
theorem dL_law_1032 : decode cL_law 1032 = .ok (.ireturn, 1) := by decide +kernel
theorem dL_law_1033 : decode cL_law 1033 = .ok (.goto 889, 3) := by decide +kernel
theorem dL_law_1036 : decode cL_law 1036 = .ok (.aload_n 1, 1) := by decide +kernel
theorem dL_law_1037 : decode cL_law 1037 = .ok (.aload_n 0, 1) := by decide +kernel
theorem dL_law_1038 : decode cL_law 1038 = .ok (.iload 4, 2) := by decide +kernel
theorem dL_law_1040 : decode cL_law 1040 = .ok (.iconst 1, 1) := by decide +kernel
theorem dL_law_1041 : decode cL_law 1041 = .ok (.iadd, 1) := by decide +kernel
theorem dL_law_1042 : decode cL_law 1042 = .ok (.iaload, 1) := by decide +kernel
theorem dL_law_1043 : decode cL_law 1043 = .ok (.aload_n 0, 1) := by decide +kernel
theorem dL_law_1044 : decode cL_law 1044 = .ok (.iload 4, 2) := by decide +kernel
theorem dL_law_1046 : decode cL_law 1046 = .ok (.iconst 2, 1) := by decide +kernel
theorem dL_law_1047 : decode cL_law 1047 = .ok (.iadd, 1) := by decide +kernel
theorem dL_law_1048 : decode cL_law 1048 = .ok (.iaload, 1) := by decide +kernel
theorem dL_law_1049 : decode cL_law 1049 = .ok (.aload_n 3, 1) := by decide +kernel
theorem dL_law_1050 : decode cL_law 1050 = .ok (.invokestatic 140, 3) := by decide +kernel
theorem dL_law_1053 : decode cL_law 1053 = .ok (.istore 5, 2) := by decide +kernel
theorem dL_law_1055 : decode cL_law 1055 = .ok (.aload_n 2, 1) := by decide +kernel
theorem dL_law_1056 : decode cL_law 1056 = .ok (.aload_n 0, 1) := by decide +kernel
theorem dL_law_1057 : decode cL_law 1057 = .ok (.iload 4, 2) := by decide +kernel
theorem dL_law_1059 : decode cL_law 1059 = .ok (.iconst 1, 1) := by decide +kernel
theorem dL_law_1060 : decode cL_law 1060 = .ok (.iadd, 1) := by decide +kernel
theorem dL_law_1061 : decode cL_law 1061 = .ok (.iaload, 1) := by decide +kernel
theorem dL_law_1062 : decode cL_law 1062 = .ok (.aload_n 0, 1) := by decide +kernel
theorem dL_law_1063 : decode cL_law 1063 = .ok (.iload 4, 2) := by decide +kernel
theorem dL_law_1065 : decode cL_law 1065 = .ok (.iconst 2, 1) := by decide +kernel
theorem dL_law_1066 : decode cL_law 1066 = .ok (.iadd, 1) := by decide +kernel
theorem dL_law_1067 : decode cL_law 1067 = .ok (.iaload, 1) := by decide +kernel
theorem dL_law_1068 : decode cL_law 1068 = .ok (.invokevirtual 142, 3) := by decide +kernel
theorem dL_law_1071 : decode cL_law 1071 = .ok (.istore 6, 2) := by decide +kernel
theorem dL_law_1073 : decode cL_law 1073 = .ok (.aload_n 2, 1) := by decide +kernel
theorem dL_law_1074 : decode cL_law 1074 = .ok (.invokevirtual 89, 3) := by decide +kernel
theorem dL_law_1077 : decode cL_law 1077 = .ok (.iload 5, 2) := by decide +kernel
theorem dL_law_1079 : decode cL_law 1079 = .ok (.if_icmp .eq 5, 3) := by decide +kernel
theorem dL_law_1082 : decode cL_law 1082 = .ok (.iconst 0, 1) := by decide +kernel
theorem dL_law_1083 : decode cL_law 1083 = .ok (.ireturn, 1) := by decide +kernel
theorem dL_law_1084 : decode cL_law 1084 = .ok (.iload 5, 2) := by decide +kernel
theorem dL_law_1086 : decode cL_law 1086 = .ok (.ifCond .ne 15, 3) := by decide +kernel
theorem dL_law_1089 : decode cL_law 1089 = .ok (.aload_n 3, 1) := by decide +kernel
theorem dL_law_1090 : decode cL_law 1090 = .ok (.iconst 0, 1) := by decide +kernel
theorem dL_law_1091 : decode cL_law 1091 = .ok (.laload, 1) := by decide +kernel
theorem dL_law_1092 : decode cL_law 1092 = .ok (.iload 6, 2) := by decide +kernel
theorem dL_law_1094 : decode cL_law 1094 = .ok (.i2l, 1) := by decide +kernel
theorem dL_law_1095 : decode cL_law 1095 = .ok (.lcmp, 1) := by decide +kernel
theorem dL_law_1096 : decode cL_law 1096 = .ok (.ifCond .eq 5, 3) := by decide +kernel
theorem dL_law_1099 : decode cL_law 1099 = .ok (.iconst 0, 1) := by decide +kernel
theorem dL_law_1100 : decode cL_law 1100 = .ok (.ireturn, 1) := by decide +kernel
theorem dL_law_1101 : decode cL_law 1101 = .ok (.goto 821, 3) := by decide +kernel
theorem dL_law_1104 : decode cL_law 1104 = .ok (.aload_n 1, 1) := by decide +kernel
theorem dL_law_1105 : decode cL_law 1105 = .ok (.aload_n 0, 1) := by decide +kernel
theorem dL_law_1106 : decode cL_law 1106 = .ok (.iload 4, 2) := by decide +kernel
theorem dL_law_1108 : decode cL_law 1108 = .ok (.iconst 1, 1) := by decide +kernel
theorem dL_law_1109 : decode cL_law 1109 = .ok (.iadd, 1) := by decide +kernel
theorem dL_law_1110 : decode cL_law 1110 = .ok (.iaload, 1) := by decide +kernel
theorem dL_law_1111 : decode cL_law 1111 = .ok (.aload_n 0, 1) := by decide +kernel
theorem dL_law_1112 : decode cL_law 1112 = .ok (.iload 4, 2) := by decide +kernel
theorem dL_law_1114 : decode cL_law 1114 = .ok (.iconst 2, 1) := by decide +kernel
theorem dL_law_1115 : decode cL_law 1115 = .ok (.iadd, 1) := by decide +kernel
theorem dL_law_1116 : decode cL_law 1116 = .ok (.iaload, 1) := by decide +kernel
theorem dL_law_1117 : decode cL_law 1117 = .ok (.aload_n 0, 1) := by decide +kernel
theorem dL_law_1118 : decode cL_law 1118 = .ok (.iload 4, 2) := by decide +kernel
theorem dL_law_1120 : decode cL_law 1120 = .ok (.iconst 3, 1) := by decide +kernel
theorem dL_law_1121 : decode cL_law 1121 = .ok (.iadd, 1) := by decide +kernel
theorem dL_law_1122 : decode cL_law 1122 = .ok (.iaload, 1) := by decide +kernel
theorem dL_law_1123 : decode cL_law 1123 = .ok (.aload_n 0, 1) := by decide +kernel
theorem dL_law_1124 : decode cL_law 1124 = .ok (.iload 4, 2) := by decide +kernel
theorem dL_law_1126 : decode cL_law 1126 = .ok (.iconst 4, 1) := by decide +kernel
theorem dL_law_1127 : decode cL_law 1127 = .ok (.iadd, 1) := by decide +kernel
theorem dL_law_1128 : decode cL_law 1128 = .ok (.iaload, 1) := by decide +kernel
theorem dL_law_1129 : decode cL_law 1129 = .ok (.ifCond .eq 7, 3) := by decide +kernel
theorem dL_law_1132 : decode cL_law 1132 = .ok (.iconst 1, 1) := by decide +kernel
theorem dL_law_1133 : decode cL_law 1133 = .ok (.goto 4, 3) := by decide +kernel
theorem dL_law_1136 : decode cL_law 1136 = .ok (.iconst 0, 1) := by decide +kernel
theorem dL_law_1137 : decode cL_law 1137 = .ok (.aload_n 3, 1) := by decide +kernel
theorem dL_law_1138 : decode cL_law 1138 = .ok (.invokestatic 143, 3) := by decide +kernel
theorem dL_law_1141 : decode cL_law 1141 = .ok (.istore 5, 2) := by decide +kernel
theorem dL_law_1143 : decode cL_law 1143 = .ok (.aload_n 2, 1) := by decide +kernel
theorem dL_law_1144 : decode cL_law 1144 = .ok (.aload_n 0, 1) := by decide +kernel
theorem dL_law_1145 : decode cL_law 1145 = .ok (.iload 4, 2) := by decide +kernel
theorem dL_law_1147 : decode cL_law 1147 = .ok (.iconst 1, 1) := by decide +kernel
theorem dL_law_1148 : decode cL_law 1148 = .ok (.iadd, 1) := by decide +kernel
theorem dL_law_1149 : decode cL_law 1149 = .ok (.iaload, 1) := by decide +kernel
theorem dL_law_1150 : decode cL_law 1150 = .ok (.aload_n 0, 1) := by decide +kernel
theorem dL_law_1151 : decode cL_law 1151 = .ok (.iload 4, 2) := by decide +kernel
theorem dL_law_1153 : decode cL_law 1153 = .ok (.iconst 2, 1) := by decide +kernel
theorem dL_law_1154 : decode cL_law 1154 = .ok (.iadd, 1) := by decide +kernel
theorem dL_law_1155 : decode cL_law 1155 = .ok (.iaload, 1) := by decide +kernel
theorem dL_law_1156 : decode cL_law 1156 = .ok (.aload_n 0, 1) := by decide +kernel
theorem dL_law_1157 : decode cL_law 1157 = .ok (.iload 4, 2) := by decide +kernel
theorem dL_law_1159 : decode cL_law 1159 = .ok (.iconst 3, 1) := by decide +kernel
theorem dL_law_1160 : decode cL_law 1160 = .ok (.iadd, 1) := by decide +kernel
theorem dL_law_1161 : decode cL_law 1161 = .ok (.iaload, 1) := by decide +kernel
theorem dL_law_1162 : decode cL_law 1162 = .ok (.aload_n 0, 1) := by decide +kernel
theorem dL_law_1163 : decode cL_law 1163 = .ok (.iload 4, 2) := by decide +kernel
theorem dL_law_1165 : decode cL_law 1165 = .ok (.iconst 4, 1) := by decide +kernel
theorem dL_law_1166 : decode cL_law 1166 = .ok (.iadd, 1) := by decide +kernel
theorem dL_law_1167 : decode cL_law 1167 = .ok (.iaload, 1) := by decide +kernel
theorem dL_law_1168 : decode cL_law 1168 = .ok (.ifCond .eq 7, 3) := by decide +kernel
theorem dL_law_1171 : decode cL_law 1171 = .ok (.iconst 1, 1) := by decide +kernel
theorem dL_law_1172 : decode cL_law 1172 = .ok (.goto 4, 3) := by decide +kernel
theorem dL_law_1175 : decode cL_law 1175 = .ok (.iconst 0, 1) := by decide +kernel
theorem dL_law_1176 : decode cL_law 1176 = .ok (.invokevirtual 146, 3) := by decide +kernel
theorem dL_law_1179 : decode cL_law 1179 = .ok (.lstore 6, 2) := by decide +kernel
theorem dL_law_1181 : decode cL_law 1181 = .ok (.aload_n 2, 1) := by decide +kernel
theorem dL_law_1182 : decode cL_law 1182 = .ok (.invokevirtual 89, 3) := by decide +kernel
theorem dL_law_1185 : decode cL_law 1185 = .ok (.iload 5, 2) := by decide +kernel
theorem dL_law_1187 : decode cL_law 1187 = .ok (.if_icmp .eq 5, 3) := by decide +kernel
theorem dL_law_1190 : decode cL_law 1190 = .ok (.iconst 0, 1) := by decide +kernel
theorem dL_law_1191 : decode cL_law 1191 = .ok (.ireturn, 1) := by decide +kernel
theorem dL_law_1192 : decode cL_law 1192 = .ok (.iload 5, 2) := by decide +kernel
theorem dL_law_1194 : decode cL_law 1194 = .ok (.ifCond .ne 14, 3) := by decide +kernel
theorem dL_law_1197 : decode cL_law 1197 = .ok (.aload_n 3, 1) := by decide +kernel
theorem dL_law_1198 : decode cL_law 1198 = .ok (.iconst 0, 1) := by decide +kernel
theorem dL_law_1199 : decode cL_law 1199 = .ok (.laload, 1) := by decide +kernel
theorem dL_law_1200 : decode cL_law 1200 = .ok (.lload 6, 2) := by decide +kernel
theorem dL_law_1202 : decode cL_law 1202 = .ok (.lcmp, 1) := by decide +kernel
theorem dL_law_1203 : decode cL_law 1203 = .ok (.ifCond .eq 5, 3) := by decide +kernel
theorem dL_law_1206 : decode cL_law 1206 = .ok (.iconst 0, 1) := by decide +kernel
theorem dL_law_1207 : decode cL_law 1207 = .ok (.ireturn, 1) := by decide +kernel
theorem dL_law_1208 : decode cL_law 1208 = .ok (.goto 714, 3) := by decide +kernel
theorem dL_law_1211 : decode cL_law 1211 = .ok (.aload_n 1, 1) := by decide +kernel
theorem dL_law_1212 : decode cL_law 1212 = .ok (.aload_n 0, 1) := by decide +kernel
theorem dL_law_1213 : decode cL_law 1213 = .ok (.iload 4, 2) := by decide +kernel
theorem dL_law_1215 : decode cL_law 1215 = .ok (.iconst 1, 1) := by decide +kernel
theorem dL_law_1216 : decode cL_law 1216 = .ok (.iadd, 1) := by decide +kernel
theorem dL_law_1217 : decode cL_law 1217 = .ok (.iaload, 1) := by decide +kernel
theorem dL_law_1218 : decode cL_law 1218 = .ok (.aload_n 0, 1) := by decide +kernel
theorem dL_law_1219 : decode cL_law 1219 = .ok (.iload 4, 2) := by decide +kernel
theorem dL_law_1221 : decode cL_law 1221 = .ok (.iconst 2, 1) := by decide +kernel
theorem dL_law_1222 : decode cL_law 1222 = .ok (.iadd, 1) := by decide +kernel
theorem dL_law_1223 : decode cL_law 1223 = .ok (.iaload, 1) := by decide +kernel
theorem dL_law_1224 : decode cL_law 1224 = .ok (.aload_n 3, 1) := by decide +kernel
theorem dL_law_1225 : decode cL_law 1225 = .ok (.invokestatic 147, 3) := by decide +kernel
theorem dL_law_1228 : decode cL_law 1228 = .ok (.istore 5, 2) := by decide +kernel
theorem dL_law_1230 : decode cL_law 1230 = .ok (.aload_n 2, 1) := by decide +kernel
theorem dL_law_1231 : decode cL_law 1231 = .ok (.aload_n 0, 1) := by decide +kernel
theorem dL_law_1232 : decode cL_law 1232 = .ok (.iload 4, 2) := by decide +kernel
theorem dL_law_1234 : decode cL_law 1234 = .ok (.iconst 1, 1) := by decide +kernel
theorem dL_law_1235 : decode cL_law 1235 = .ok (.iadd, 1) := by decide +kernel
theorem dL_law_1236 : decode cL_law 1236 = .ok (.iaload, 1) := by decide +kernel
theorem dL_law_1237 : decode cL_law 1237 = .ok (.aload_n 0, 1) := by decide +kernel
theorem dL_law_1238 : decode cL_law 1238 = .ok (.iload 4, 2) := by decide +kernel
theorem dL_law_1240 : decode cL_law 1240 = .ok (.iconst 2, 1) := by decide +kernel
theorem dL_law_1241 : decode cL_law 1241 = .ok (.iadd, 1) := by decide +kernel
theorem dL_law_1242 : decode cL_law 1242 = .ok (.iaload, 1) := by decide +kernel
theorem dL_law_1243 : decode cL_law 1243 = .ok (.invokevirtual 149, 3) := by decide +kernel
theorem dL_law_1246 : decode cL_law 1246 = .ok (.istore 6, 2) := by decide +kernel
theorem dL_law_1248 : decode cL_law 1248 = .ok (.aload_n 2, 1) := by decide +kernel
theorem dL_law_1249 : decode cL_law 1249 = .ok (.invokevirtual 89, 3) := by decide +kernel
theorem dL_law_1252 : decode cL_law 1252 = .ok (.iload 5, 2) := by decide +kernel
theorem dL_law_1254 : decode cL_law 1254 = .ok (.if_icmp .eq 5, 3) := by decide +kernel
theorem dL_law_1257 : decode cL_law 1257 = .ok (.iconst 0, 1) := by decide +kernel
theorem dL_law_1258 : decode cL_law 1258 = .ok (.ireturn, 1) := by decide +kernel
theorem dL_law_1259 : decode cL_law 1259 = .ok (.iload 5, 2) := by decide +kernel
theorem dL_law_1261 : decode cL_law 1261 = .ok (.ifCond .ne 15, 3) := by decide +kernel
theorem dL_law_1264 : decode cL_law 1264 = .ok (.aload_n 3, 1) := by decide +kernel
theorem dL_law_1265 : decode cL_law 1265 = .ok (.iconst 0, 1) := by decide +kernel
theorem dL_law_1266 : decode cL_law 1266 = .ok (.laload, 1) := by decide +kernel
theorem dL_law_1267 : decode cL_law 1267 = .ok (.iload 6, 2) := by decide +kernel
theorem dL_law_1269 : decode cL_law 1269 = .ok (.i2l, 1) := by decide +kernel
theorem dL_law_1270 : decode cL_law 1270 = .ok (.lcmp, 1) := by decide +kernel
theorem dL_law_1271 : decode cL_law 1271 = .ok (.ifCond .eq 5, 3) := by decide +kernel
theorem dL_law_1274 : decode cL_law 1274 = .ok (.iconst 0, 1) := by decide +kernel
theorem dL_law_1275 : decode cL_law 1275 = .ok (.ireturn, 1) := by decide +kernel
theorem dL_law_1276 : decode cL_law 1276 = .ok (.goto 646, 3) := by decide +kernel
theorem dL_law_1279 : decode cL_law 1279 = .ok (.aload_n 1, 1) := by decide +kernel
theorem dL_law_1280 : decode cL_law 1280 = .ok (.aload_n 0, 1) := by decide +kernel
theorem dL_law_1281 : decode cL_law 1281 = .ok (.iload 4, 2) := by decide +kernel
theorem dL_law_1283 : decode cL_law 1283 = .ok (.iconst 1, 1) := by decide +kernel
theorem dL_law_1284 : decode cL_law 1284 = .ok (.iadd, 1) := by decide +kernel
theorem dL_law_1285 : decode cL_law 1285 = .ok (.iaload, 1) := by decide +kernel
theorem dL_law_1286 : decode cL_law 1286 = .ok (.aload_n 0, 1) := by decide +kernel
theorem dL_law_1287 : decode cL_law 1287 = .ok (.iload 4, 2) := by decide +kernel
theorem dL_law_1289 : decode cL_law 1289 = .ok (.iconst 2, 1) := by decide +kernel
theorem dL_law_1290 : decode cL_law 1290 = .ok (.iadd, 1) := by decide +kernel
theorem dL_law_1291 : decode cL_law 1291 = .ok (.iaload, 1) := by decide +kernel
theorem dL_law_1292 : decode cL_law 1292 = .ok (.aload_n 3, 1) := by decide +kernel
theorem dL_law_1293 : decode cL_law 1293 = .ok (.invokestatic 150, 3) := by decide +kernel
theorem dL_law_1296 : decode cL_law 1296 = .ok (.istore 5, 2) := by decide +kernel
theorem dL_law_1298 : decode cL_law 1298 = .ok (.aload_n 2, 1) := by decide +kernel
theorem dL_law_1299 : decode cL_law 1299 = .ok (.aload_n 0, 1) := by decide +kernel
theorem dL_law_1300 : decode cL_law 1300 = .ok (.iload 4, 2) := by decide +kernel
theorem dL_law_1302 : decode cL_law 1302 = .ok (.iconst 1, 1) := by decide +kernel
theorem dL_law_1303 : decode cL_law 1303 = .ok (.iadd, 1) := by decide +kernel
theorem dL_law_1304 : decode cL_law 1304 = .ok (.iaload, 1) := by decide +kernel
theorem dL_law_1305 : decode cL_law 1305 = .ok (.aload_n 0, 1) := by decide +kernel
theorem dL_law_1306 : decode cL_law 1306 = .ok (.iload 4, 2) := by decide +kernel
theorem dL_law_1308 : decode cL_law 1308 = .ok (.iconst 2, 1) := by decide +kernel
theorem dL_law_1309 : decode cL_law 1309 = .ok (.iadd, 1) := by decide +kernel
theorem dL_law_1310 : decode cL_law 1310 = .ok (.iaload, 1) := by decide +kernel
theorem dL_law_1311 : decode cL_law 1311 = .ok (.invokevirtual 152, 3) := by decide +kernel
theorem dL_law_1314 : decode cL_law 1314 = .ok (.istore 6, 2) := by decide +kernel
theorem dL_law_1316 : decode cL_law 1316 = .ok (.aload_n 2, 1) := by decide +kernel
theorem dL_law_1317 : decode cL_law 1317 = .ok (.invokevirtual 89, 3) := by decide +kernel
theorem dL_law_1320 : decode cL_law 1320 = .ok (.iload 5, 2) := by decide +kernel
theorem dL_law_1322 : decode cL_law 1322 = .ok (.if_icmp .eq 5, 3) := by decide +kernel
theorem dL_law_1325 : decode cL_law 1325 = .ok (.iconst 0, 1) := by decide +kernel
theorem dL_law_1326 : decode cL_law 1326 = .ok (.ireturn, 1) := by decide +kernel
theorem dL_law_1327 : decode cL_law 1327 = .ok (.iload 5, 2) := by decide +kernel
theorem dL_law_1329 : decode cL_law 1329 = .ok (.ifCond .ne 15, 3) := by decide +kernel
theorem dL_law_1332 : decode cL_law 1332 = .ok (.aload_n 3, 1) := by decide +kernel
theorem dL_law_1333 : decode cL_law 1333 = .ok (.iconst 0, 1) := by decide +kernel
theorem dL_law_1334 : decode cL_law 1334 = .ok (.laload, 1) := by decide +kernel
theorem dL_law_1335 : decode cL_law 1335 = .ok (.iload 6, 2) := by decide +kernel
theorem dL_law_1337 : decode cL_law 1337 = .ok (.i2l, 1) := by decide +kernel
theorem dL_law_1338 : decode cL_law 1338 = .ok (.lcmp, 1) := by decide +kernel
theorem dL_law_1339 : decode cL_law 1339 = .ok (.ifCond .eq 5, 3) := by decide +kernel
theorem dL_law_1342 : decode cL_law 1342 = .ok (.iconst 0, 1) := by decide +kernel
theorem dL_law_1343 : decode cL_law 1343 = .ok (.ireturn, 1) := by decide +kernel
theorem dL_law_1344 : decode cL_law 1344 = .ok (.goto 578, 3) := by decide +kernel
theorem dL_law_1347 : decode cL_law 1347 = .ok (.aload_n 1, 1) := by decide +kernel
theorem dL_law_1348 : decode cL_law 1348 = .ok (.aload_n 0, 1) := by decide +kernel
theorem dL_law_1349 : decode cL_law 1349 = .ok (.iload 4, 2) := by decide +kernel
theorem dL_law_1351 : decode cL_law 1351 = .ok (.iconst 1, 1) := by decide +kernel
theorem dL_law_1352 : decode cL_law 1352 = .ok (.iadd, 1) := by decide +kernel
theorem dL_law_1353 : decode cL_law 1353 = .ok (.iaload, 1) := by decide +kernel
theorem dL_law_1354 : decode cL_law 1354 = .ok (.aload_n 0, 1) := by decide +kernel
theorem dL_law_1355 : decode cL_law 1355 = .ok (.iload 4, 2) := by decide +kernel
theorem dL_law_1357 : decode cL_law 1357 = .ok (.iconst 2, 1) := by decide +kernel
theorem dL_law_1358 : decode cL_law 1358 = .ok (.iadd, 1) := by decide +kernel
theorem dL_law_1359 : decode cL_law 1359 = .ok (.iaload, 1) := by decide +kernel
theorem dL_law_1360 : decode cL_law 1360 = .ok (.aload_n 3, 1) := by decide +kernel
theorem dL_law_1361 : decode cL_law 1361 = .ok (.invokestatic 153, 3) := by decide +kernel
theorem dL_law_1364 : decode cL_law 1364 = .ok (.istore 5, 2) := by decide +kernel
theorem dL_law_1366 : decode cL_law 1366 = .ok (.aload_n 2, 1) := by decide +kernel
theorem dL_law_1367 : decode cL_law 1367 = .ok (.aload_n 0, 1) := by decide +kernel
theorem dL_law_1368 : decode cL_law 1368 = .ok (.iload 4, 2) := by decide +kernel
theorem dL_law_1370 : decode cL_law 1370 = .ok (.iconst 1, 1) := by decide +kernel
theorem dL_law_1371 : decode cL_law 1371 = .ok (.iadd, 1) := by decide +kernel
theorem dL_law_1372 : decode cL_law 1372 = .ok (.iaload, 1) := by decide +kernel
theorem dL_law_1373 : decode cL_law 1373 = .ok (.aload_n 0, 1) := by decide +kernel
theorem dL_law_1374 : decode cL_law 1374 = .ok (.iload 4, 2) := by decide +kernel
theorem dL_law_1376 : decode cL_law 1376 = .ok (.iconst 2, 1) := by decide +kernel
theorem dL_law_1377 : decode cL_law 1377 = .ok (.iadd, 1) := by decide +kernel
theorem dL_law_1378 : decode cL_law 1378 = .ok (.iaload, 1) := by decide +kernel
theorem dL_law_1379 : decode cL_law 1379 = .ok (.invokevirtual 155, 3) := by decide +kernel
theorem dL_law_1382 : decode cL_law 1382 = .ok (.istore 6, 2) := by decide +kernel
theorem dL_law_1384 : decode cL_law 1384 = .ok (.aload_n 2, 1) := by decide +kernel
theorem dL_law_1385 : decode cL_law 1385 = .ok (.invokevirtual 89, 3) := by decide +kernel
theorem dL_law_1388 : decode cL_law 1388 = .ok (.iload 5, 2) := by decide +kernel
theorem dL_law_1390 : decode cL_law 1390 = .ok (.if_icmp .eq 5, 3) := by decide +kernel
theorem dL_law_1393 : decode cL_law 1393 = .ok (.iconst 0, 1) := by decide +kernel
theorem dL_law_1394 : decode cL_law 1394 = .ok (.ireturn, 1) := by decide +kernel
theorem dL_law_1395 : decode cL_law 1395 = .ok (.iload 5, 2) := by decide +kernel
theorem dL_law_1397 : decode cL_law 1397 = .ok (.ifCond .ne 15, 3) := by decide +kernel
theorem dL_law_1400 : decode cL_law 1400 = .ok (.aload_n 3, 1) := by decide +kernel
theorem dL_law_1401 : decode cL_law 1401 = .ok (.iconst 0, 1) := by decide +kernel
theorem dL_law_1402 : decode cL_law 1402 = .ok (.laload, 1) := by decide +kernel
theorem dL_law_1403 : decode cL_law 1403 = .ok (.iload 6, 2) := by decide +kernel
theorem dL_law_1405 : decode cL_law 1405 = .ok (.i2l, 1) := by decide +kernel
theorem dL_law_1406 : decode cL_law 1406 = .ok (.lcmp, 1) := by decide +kernel
theorem dL_law_1407 : decode cL_law 1407 = .ok (.ifCond .eq 5, 3) := by decide +kernel
theorem dL_law_1410 : decode cL_law 1410 = .ok (.iconst 0, 1) := by decide +kernel
theorem dL_law_1411 : decode cL_law 1411 = .ok (.ireturn, 1) := by decide +kernel
theorem dL_law_1412 : decode cL_law 1412 = .ok (.goto 510, 3) := by decide +kernel
theorem dL_law_1415 : decode cL_law 1415 = .ok (.aload_n 1, 1) := by decide +kernel
theorem dL_law_1416 : decode cL_law 1416 = .ok (.aload_n 0, 1) := by decide +kernel
theorem dL_law_1417 : decode cL_law 1417 = .ok (.iload 4, 2) := by decide +kernel
theorem dL_law_1419 : decode cL_law 1419 = .ok (.iconst 1, 1) := by decide +kernel
theorem dL_law_1420 : decode cL_law 1420 = .ok (.iadd, 1) := by decide +kernel
theorem dL_law_1421 : decode cL_law 1421 = .ok (.iaload, 1) := by decide +kernel
theorem dL_law_1422 : decode cL_law 1422 = .ok (.aload_n 0, 1) := by decide +kernel
theorem dL_law_1423 : decode cL_law 1423 = .ok (.iload 4, 2) := by decide +kernel
theorem dL_law_1425 : decode cL_law 1425 = .ok (.iconst 2, 1) := by decide +kernel
theorem dL_law_1426 : decode cL_law 1426 = .ok (.iadd, 1) := by decide +kernel
theorem dL_law_1427 : decode cL_law 1427 = .ok (.iaload, 1) := by decide +kernel
theorem dL_law_1428 : decode cL_law 1428 = .ok (.aload_n 0, 1) := by decide +kernel
theorem dL_law_1429 : decode cL_law 1429 = .ok (.iload 4, 2) := by decide +kernel
theorem dL_law_1431 : decode cL_law 1431 = .ok (.iconst 3, 1) := by decide +kernel
theorem dL_law_1432 : decode cL_law 1432 = .ok (.iadd, 1) := by decide +kernel
theorem dL_law_1433 : decode cL_law 1433 = .ok (.iaload, 1) := by decide +kernel
theorem dL_law_1434 : decode cL_law 1434 = .ok (.aload_n 3, 1) := by decide +kernel
theorem dL_law_1435 : decode cL_law 1435 = .ok (.invokestatic 156, 3) := by decide +kernel
theorem dL_law_1438 : decode cL_law 1438 = .ok (.istore 5, 2) := by decide +kernel
theorem dL_law_1440 : decode cL_law 1440 = .ok (.aload_n 2, 1) := by decide +kernel
theorem dL_law_1441 : decode cL_law 1441 = .ok (.aload_n 0, 1) := by decide +kernel
theorem dL_law_1442 : decode cL_law 1442 = .ok (.iload 4, 2) := by decide +kernel
theorem dL_law_1444 : decode cL_law 1444 = .ok (.iconst 1, 1) := by decide +kernel
theorem dL_law_1445 : decode cL_law 1445 = .ok (.iadd, 1) := by decide +kernel
theorem dL_law_1446 : decode cL_law 1446 = .ok (.iaload, 1) := by decide +kernel
theorem dL_law_1447 : decode cL_law 1447 = .ok (.aload_n 0, 1) := by decide +kernel
theorem dL_law_1448 : decode cL_law 1448 = .ok (.iload 4, 2) := by decide +kernel
theorem dL_law_1450 : decode cL_law 1450 = .ok (.iconst 2, 1) := by decide +kernel
theorem dL_law_1451 : decode cL_law 1451 = .ok (.iadd, 1) := by decide +kernel
theorem dL_law_1452 : decode cL_law 1452 = .ok (.iaload, 1) := by decide +kernel
theorem dL_law_1453 : decode cL_law 1453 = .ok (.aload_n 0, 1) := by decide +kernel
theorem dL_law_1454 : decode cL_law 1454 = .ok (.iload 4, 2) := by decide +kernel
theorem dL_law_1456 : decode cL_law 1456 = .ok (.iconst 3, 1) := by decide +kernel
theorem dL_law_1457 : decode cL_law 1457 = .ok (.iadd, 1) := by decide +kernel
theorem dL_law_1458 : decode cL_law 1458 = .ok (.iaload, 1) := by decide +kernel
theorem dL_law_1459 : decode cL_law 1459 = .ok (.invokevirtual 159, 3) := by decide +kernel
theorem dL_law_1462 : decode cL_law 1462 = .ok (.istore 6, 2) := by decide +kernel
theorem dL_law_1464 : decode cL_law 1464 = .ok (.aload_n 2, 1) := by decide +kernel
theorem dL_law_1465 : decode cL_law 1465 = .ok (.invokevirtual 89, 3) := by decide +kernel
theorem dL_law_1468 : decode cL_law 1468 = .ok (.iload 5, 2) := by decide +kernel
theorem dL_law_1470 : decode cL_law 1470 = .ok (.if_icmp .eq 5, 3) := by decide +kernel
theorem dL_law_1473 : decode cL_law 1473 = .ok (.iconst 0, 1) := by decide +kernel
theorem dL_law_1474 : decode cL_law 1474 = .ok (.ireturn, 1) := by decide +kernel
theorem dL_law_1475 : decode cL_law 1475 = .ok (.iload 5, 2) := by decide +kernel
theorem dL_law_1477 : decode cL_law 1477 = .ok (.ifCond .ne 15, 3) := by decide +kernel
theorem dL_law_1480 : decode cL_law 1480 = .ok (.aload_n 3, 1) := by decide +kernel
theorem dL_law_1481 : decode cL_law 1481 = .ok (.iconst 0, 1) := by decide +kernel
theorem dL_law_1482 : decode cL_law 1482 = .ok (.laload, 1) := by decide +kernel
theorem dL_law_1483 : decode cL_law 1483 = .ok (.iload 6, 2) := by decide +kernel
theorem dL_law_1485 : decode cL_law 1485 = .ok (.i2l, 1) := by decide +kernel
theorem dL_law_1486 : decode cL_law 1486 = .ok (.lcmp, 1) := by decide +kernel
theorem dL_law_1487 : decode cL_law 1487 = .ok (.ifCond .eq 5, 3) := by decide +kernel
theorem dL_law_1490 : decode cL_law 1490 = .ok (.iconst 0, 1) := by decide +kernel
theorem dL_law_1491 : decode cL_law 1491 = .ok (.ireturn, 1) := by decide +kernel
theorem dL_law_1492 : decode cL_law 1492 = .ok (.goto 430, 3) := by decide +kernel
theorem dL_law_1495 : decode cL_law 1495 = .ok (.aload_n 1, 1) := by decide +kernel
theorem dL_law_1496 : decode cL_law 1496 = .ok (.aload_n 0, 1) := by decide +kernel
theorem dL_law_1497 : decode cL_law 1497 = .ok (.iload 4, 2) := by decide +kernel
theorem dL_law_1499 : decode cL_law 1499 = .ok (.iconst 1, 1) := by decide +kernel
theorem dL_law_1500 : decode cL_law 1500 = .ok (.iadd, 1) := by decide +kernel
theorem dL_law_1501 : decode cL_law 1501 = .ok (.iaload, 1) := by decide +kernel
theorem dL_law_1502 : decode cL_law 1502 = .ok (.aload_n 0, 1) := by decide +kernel
theorem dL_law_1503 : decode cL_law 1503 = .ok (.iload 4, 2) := by decide +kernel
theorem dL_law_1505 : decode cL_law 1505 = .ok (.iconst 2, 1) := by decide +kernel
theorem dL_law_1506 : decode cL_law 1506 = .ok (.iadd, 1) := by decide +kernel
theorem dL_law_1507 : decode cL_law 1507 = .ok (.iaload, 1) := by decide +kernel
theorem dL_law_1508 : decode cL_law 1508 = .ok (.aload_n 3, 1) := by decide +kernel
theorem dL_law_1509 : decode cL_law 1509 = .ok (.invokestatic 160, 3) := by decide +kernel
theorem dL_law_1512 : decode cL_law 1512 = .ok (.istore 5, 2) := by decide +kernel
theorem dL_law_1514 : decode cL_law 1514 = .ok (.aload_n 2, 1) := by decide +kernel
theorem dL_law_1515 : decode cL_law 1515 = .ok (.aload_n 0, 1) := by decide +kernel
theorem dL_law_1516 : decode cL_law 1516 = .ok (.iload 4, 2) := by decide +kernel
theorem dL_law_1518 : decode cL_law 1518 = .ok (.iconst 1, 1) := by decide +kernel
theorem dL_law_1519 : decode cL_law 1519 = .ok (.iadd, 1) := by decide +kernel
theorem dL_law_1520 : decode cL_law 1520 = .ok (.iaload, 1) := by decide +kernel
theorem dL_law_1521 : decode cL_law 1521 = .ok (.aload_n 0, 1) := by decide +kernel
theorem dL_law_1522 : decode cL_law 1522 = .ok (.iload 4, 2) := by decide +kernel
theorem dL_law_1524 : decode cL_law 1524 = .ok (.iconst 2, 1) := by decide +kernel
theorem dL_law_1525 : decode cL_law 1525 = .ok (.iadd, 1) := by decide +kernel
theorem dL_law_1526 : decode cL_law 1526 = .ok (.iaload, 1) := by decide +kernel
theorem dL_law_1527 : decode cL_law 1527 = .ok (.invokevirtual 162, 3) := by decide +kernel
theorem dL_law_1530 : decode cL_law 1530 = .ok (.istore 6, 2) := by decide +kernel
theorem dL_law_1532 : decode cL_law 1532 = .ok (.aload_n 2, 1) := by decide +kernel
theorem dL_law_1533 : decode cL_law 1533 = .ok (.invokevirtual 89, 3) := by decide +kernel
theorem dL_law_1536 : decode cL_law 1536 = .ok (.iload 5, 2) := by decide +kernel
theorem dL_law_1538 : decode cL_law 1538 = .ok (.if_icmp .eq 5, 3) := by decide +kernel
theorem dL_law_1541 : decode cL_law 1541 = .ok (.iconst 0, 1) := by decide +kernel
theorem dL_law_1542 : decode cL_law 1542 = .ok (.ireturn, 1) := by decide +kernel
theorem dL_law_1543 : decode cL_law 1543 = .ok (.iload 5, 2) := by decide +kernel
theorem dL_law_1545 : decode cL_law 1545 = .ok (.ifCond .ne 15, 3) := by decide +kernel
theorem dL_law_1548 : decode cL_law 1548 = .ok (.aload_n 3, 1) := by decide +kernel
theorem dL_law_1549 : decode cL_law 1549 = .ok (.iconst 0, 1) := by decide +kernel
theorem dL_law_1550 : decode cL_law 1550 = .ok (.laload, 1) := by decide +kernel
theorem dL_law_1551 : decode cL_law 1551 = .ok (.iload 6, 2) := by decide +kernel
theorem dL_law_1553 : decode cL_law 1553 = .ok (.i2l, 1) := by decide +kernel
theorem dL_law_1554 : decode cL_law 1554 = .ok (.lcmp, 1) := by decide +kernel
theorem dL_law_1555 : decode cL_law 1555 = .ok (.ifCond .eq 5, 3) := by decide +kernel
theorem dL_law_1558 : decode cL_law 1558 = .ok (.iconst 0, 1) := by decide +kernel
theorem dL_law_1559 : decode cL_law 1559 = .ok (.ireturn, 1) := by decide +kernel
theorem dL_law_1560 : decode cL_law 1560 = .ok (.goto 362, 3) := by decide +kernel
theorem dL_law_1563 : decode cL_law 1563 = .ok (.aload_n 1, 1) := by decide +kernel
theorem dL_law_1564 : decode cL_law 1564 = .ok (.aload_n 0, 1) := by decide +kernel
theorem dL_law_1565 : decode cL_law 1565 = .ok (.iload 4, 2) := by decide +kernel
theorem dL_law_1567 : decode cL_law 1567 = .ok (.iconst 1, 1) := by decide +kernel
theorem dL_law_1568 : decode cL_law 1568 = .ok (.iadd, 1) := by decide +kernel
theorem dL_law_1569 : decode cL_law 1569 = .ok (.iaload, 1) := by decide +kernel
theorem dL_law_1570 : decode cL_law 1570 = .ok (.aload_n 0, 1) := by decide +kernel
theorem dL_law_1571 : decode cL_law 1571 = .ok (.iload 4, 2) := by decide +kernel
theorem dL_law_1573 : decode cL_law 1573 = .ok (.iconst 2, 1) := by decide +kernel
theorem dL_law_1574 : decode cL_law 1574 = .ok (.iadd, 1) := by decide +kernel
theorem dL_law_1575 : decode cL_law 1575 = .ok (.iaload, 1) := by decide +kernel
theorem dL_law_1576 : decode cL_law 1576 = .ok (.aload_n 0, 1) := by decide +kernel
theorem dL_law_1577 : decode cL_law 1577 = .ok (.iload 4, 2) := by decide +kernel
theorem dL_law_1579 : decode cL_law 1579 = .ok (.iconst 3, 1) := by decide +kernel
theorem dL_law_1580 : decode cL_law 1580 = .ok (.iadd, 1) := by decide +kernel
theorem dL_law_1581 : decode cL_law 1581 = .ok (.iaload, 1) := by decide +kernel
theorem dL_law_1582 : decode cL_law 1582 = .ok (.aload_n 0, 1) := by decide +kernel
theorem dL_law_1583 : decode cL_law 1583 = .ok (.iload 4, 2) := by decide +kernel
theorem dL_law_1585 : decode cL_law 1585 = .ok (.iconst 4, 1) := by decide +kernel
theorem dL_law_1586 : decode cL_law 1586 = .ok (.iadd, 1) := by decide +kernel
theorem dL_law_1587 : decode cL_law 1587 = .ok (.iaload, 1) := by decide +kernel
theorem dL_law_1588 : decode cL_law 1588 = .ok (.aload_n 0, 1) := by decide +kernel
theorem dL_law_1589 : decode cL_law 1589 = .ok (.iload 4, 2) := by decide +kernel
theorem dL_law_1591 : decode cL_law 1591 = .ok (.iconst 5, 1) := by decide +kernel
theorem dL_law_1592 : decode cL_law 1592 = .ok (.iadd, 1) := by decide +kernel
theorem dL_law_1593 : decode cL_law 1593 = .ok (.iaload, 1) := by decide +kernel
theorem dL_law_1594 : decode cL_law 1594 = .ok (.aload_n 0, 1) := by decide +kernel
theorem dL_law_1595 : decode cL_law 1595 = .ok (.iload 4, 2) := by decide +kernel
theorem dL_law_1597 : decode cL_law 1597 = .ok (.bipush 6, 2) := by decide +kernel
theorem dL_law_1599 : decode cL_law 1599 = .ok (.iadd, 1) := by decide +kernel
theorem dL_law_1600 : decode cL_law 1600 = .ok (.iaload, 1) := by decide +kernel
theorem dL_law_1601 : decode cL_law 1601 = .ok (.aload_n 3, 1) := by decide +kernel
theorem dL_law_1602 : decode cL_law 1602 = .ok (.invokestatic 163, 3) := by decide +kernel
theorem dL_law_1605 : decode cL_law 1605 = .ok (.istore 5, 2) := by decide +kernel
theorem dL_law_1607 : decode cL_law 1607 = .ok (.aload_n 2, 1) := by decide +kernel
theorem dL_law_1608 : decode cL_law 1608 = .ok (.aload_n 0, 1) := by decide +kernel
theorem dL_law_1609 : decode cL_law 1609 = .ok (.iload 4, 2) := by decide +kernel
theorem dL_law_1611 : decode cL_law 1611 = .ok (.iconst 1, 1) := by decide +kernel
theorem dL_law_1612 : decode cL_law 1612 = .ok (.iadd, 1) := by decide +kernel
theorem dL_law_1613 : decode cL_law 1613 = .ok (.iaload, 1) := by decide +kernel
theorem dL_law_1614 : decode cL_law 1614 = .ok (.aload_n 0, 1) := by decide +kernel
theorem dL_law_1615 : decode cL_law 1615 = .ok (.iload 4, 2) := by decide +kernel
theorem dL_law_1617 : decode cL_law 1617 = .ok (.iconst 2, 1) := by decide +kernel
theorem dL_law_1618 : decode cL_law 1618 = .ok (.iadd, 1) := by decide +kernel
theorem dL_law_1619 : decode cL_law 1619 = .ok (.iaload, 1) := by decide +kernel
theorem dL_law_1620 : decode cL_law 1620 = .ok (.aload_n 0, 1) := by decide +kernel
theorem dL_law_1621 : decode cL_law 1621 = .ok (.iload 4, 2) := by decide +kernel
theorem dL_law_1623 : decode cL_law 1623 = .ok (.iconst 3, 1) := by decide +kernel
theorem dL_law_1624 : decode cL_law 1624 = .ok (.iadd, 1) := by decide +kernel
theorem dL_law_1625 : decode cL_law 1625 = .ok (.iaload, 1) := by decide +kernel
theorem dL_law_1626 : decode cL_law 1626 = .ok (.aload_n 0, 1) := by decide +kernel
theorem dL_law_1627 : decode cL_law 1627 = .ok (.iload 4, 2) := by decide +kernel
theorem dL_law_1629 : decode cL_law 1629 = .ok (.iconst 4, 1) := by decide +kernel
theorem dL_law_1630 : decode cL_law 1630 = .ok (.iadd, 1) := by decide +kernel
theorem dL_law_1631 : decode cL_law 1631 = .ok (.iaload, 1) := by decide +kernel
theorem dL_law_1632 : decode cL_law 1632 = .ok (.aload_n 0, 1) := by decide +kernel
theorem dL_law_1633 : decode cL_law 1633 = .ok (.iload 4, 2) := by decide +kernel
theorem dL_law_1635 : decode cL_law 1635 = .ok (.iconst 5, 1) := by decide +kernel
theorem dL_law_1636 : decode cL_law 1636 = .ok (.iadd, 1) := by decide +kernel
theorem dL_law_1637 : decode cL_law 1637 = .ok (.iaload, 1) := by decide +kernel
theorem dL_law_1638 : decode cL_law 1638 = .ok (.aload_n 0, 1) := by decide +kernel
theorem dL_law_1639 : decode cL_law 1639 = .ok (.iload 4, 2) := by decide +kernel
theorem dL_law_1641 : decode cL_law 1641 = .ok (.bipush 6, 2) := by decide +kernel
theorem dL_law_1643 : decode cL_law 1643 = .ok (.iadd, 1) := by decide +kernel
theorem dL_law_1644 : decode cL_law 1644 = .ok (.iaload, 1) := by decide +kernel
theorem dL_law_1645 : decode cL_law 1645 = .ok (.invokevirtual 166, 3) := by decide +kernel
theorem dL_law_1648 : decode cL_law 1648 = .ok (.istore 6, 2) := by decide +kernel
theorem dL_law_1650 : decode cL_law 1650 = .ok (.aload_n 2, 1) := by decide +kernel
theorem dL_law_1651 : decode cL_law 1651 = .ok (.invokevirtual 89, 3) := by decide +kernel
theorem dL_law_1654 : decode cL_law 1654 = .ok (.iload 5, 2) := by decide +kernel
theorem dL_law_1656 : decode cL_law 1656 = .ok (.if_icmp .eq 5, 3) := by decide +kernel
theorem dL_law_1659 : decode cL_law 1659 = .ok (.iconst 0, 1) := by decide +kernel
theorem dL_law_1660 : decode cL_law 1660 = .ok (.ireturn, 1) := by decide +kernel
theorem dL_law_1661 : decode cL_law 1661 = .ok (.iload 5, 2) := by decide +kernel
theorem dL_law_1663 : decode cL_law 1663 = .ok (.ifCond .ne 15, 3) := by decide +kernel
theorem dL_law_1666 : decode cL_law 1666 = .ok (.aload_n 3, 1) := by decide +kernel
theorem dL_law_1667 : decode cL_law 1667 = .ok (.iconst 0, 1) := by decide +kernel
theorem dL_law_1668 : decode cL_law 1668 = .ok (.laload, 1) := by decide +kernel
theorem dL_law_1669 : decode cL_law 1669 = .ok (.iload 6, 2) := by decide +kernel
theorem dL_law_1671 : decode cL_law 1671 = .ok (.i2l, 1) := by decide +kernel
theorem dL_law_1672 : decode cL_law 1672 = .ok (.lcmp, 1) := by decide +kernel
theorem dL_law_1673 : decode cL_law 1673 = .ok (.ifCond .eq 5, 3) := by decide +kernel
theorem dL_law_1676 : decode cL_law 1676 = .ok (.iconst 0, 1) := by decide +kernel
theorem dL_law_1677 : decode cL_law 1677 = .ok (.ireturn, 1) := by decide +kernel
theorem dL_law_1678 : decode cL_law 1678 = .ok (.goto 244, 3) := by decide +kernel
theorem dL_law_1681 : decode cL_law 1681 = .ok (.aload_n 1, 1) := by decide +kernel
theorem dL_law_1682 : decode cL_law 1682 = .ok (.aload_n 0, 1) := by decide +kernel
theorem dL_law_1683 : decode cL_law 1683 = .ok (.iload 4, 2) := by decide +kernel
theorem dL_law_1685 : decode cL_law 1685 = .ok (.iconst 1, 1) := by decide +kernel
theorem dL_law_1686 : decode cL_law 1686 = .ok (.iadd, 1) := by decide +kernel
theorem dL_law_1687 : decode cL_law 1687 = .ok (.iaload, 1) := by decide +kernel
theorem dL_law_1688 : decode cL_law 1688 = .ok (.aload_n 0, 1) := by decide +kernel
theorem dL_law_1689 : decode cL_law 1689 = .ok (.iload 4, 2) := by decide +kernel
theorem dL_law_1691 : decode cL_law 1691 = .ok (.iconst 2, 1) := by decide +kernel
theorem dL_law_1692 : decode cL_law 1692 = .ok (.iadd, 1) := by decide +kernel
theorem dL_law_1693 : decode cL_law 1693 = .ok (.iaload, 1) := by decide +kernel
theorem dL_law_1694 : decode cL_law 1694 = .ok (.aload_n 3, 1) := by decide +kernel
theorem dL_law_1695 : decode cL_law 1695 = .ok (.invokestatic 167, 3) := by decide +kernel
theorem dL_law_1698 : decode cL_law 1698 = .ok (.istore 5, 2) := by decide +kernel
theorem dL_law_1700 : decode cL_law 1700 = .ok (.aload_n 2, 1) := by decide +kernel
theorem dL_law_1701 : decode cL_law 1701 = .ok (.aload_n 0, 1) := by decide +kernel
theorem dL_law_1702 : decode cL_law 1702 = .ok (.iload 4, 2) := by decide +kernel
theorem dL_law_1704 : decode cL_law 1704 = .ok (.iconst 1, 1) := by decide +kernel
theorem dL_law_1705 : decode cL_law 1705 = .ok (.iadd, 1) := by decide +kernel
theorem dL_law_1706 : decode cL_law 1706 = .ok (.iaload, 1) := by decide +kernel
theorem dL_law_1707 : decode cL_law 1707 = .ok (.aload_n 0, 1) := by decide +kernel
theorem dL_law_1708 : decode cL_law 1708 = .ok (.iload 4, 2) := by decide +kernel
theorem dL_law_1710 : decode cL_law 1710 = .ok (.iconst 2, 1) := by decide +kernel
theorem dL_law_1711 : decode cL_law 1711 = .ok (.iadd, 1) := by decide +kernel
theorem dL_law_1712 : decode cL_law 1712 = .ok (.iaload, 1) := by decide +kernel
theorem dL_law_1713 : decode cL_law 1713 = .ok (.invokevirtual 169, 3) := by decide +kernel
theorem dL_law_1716 : decode cL_law 1716 = .ok (.istore 6, 2) := by decide +kernel
theorem dL_law_1718 : decode cL_law 1718 = .ok (.aload_n 2, 1) := by decide +kernel
theorem dL_law_1719 : decode cL_law 1719 = .ok (.invokevirtual 89, 3) := by decide +kernel
theorem dL_law_1722 : decode cL_law 1722 = .ok (.iload 5, 2) := by decide +kernel
theorem dL_law_1724 : decode cL_law 1724 = .ok (.if_icmp .eq 5, 3) := by decide +kernel
theorem dL_law_1727 : decode cL_law 1727 = .ok (.iconst 0, 1) := by decide +kernel
theorem dL_law_1728 : decode cL_law 1728 = .ok (.ireturn, 1) := by decide +kernel
theorem dL_law_1729 : decode cL_law 1729 = .ok (.iload 5, 2) := by decide +kernel
theorem dL_law_1731 : decode cL_law 1731 = .ok (.ifCond .ne 15, 3) := by decide +kernel
theorem dL_law_1734 : decode cL_law 1734 = .ok (.aload_n 3, 1) := by decide +kernel
theorem dL_law_1735 : decode cL_law 1735 = .ok (.iconst 0, 1) := by decide +kernel
theorem dL_law_1736 : decode cL_law 1736 = .ok (.laload, 1) := by decide +kernel
theorem dL_law_1737 : decode cL_law 1737 = .ok (.iload 6, 2) := by decide +kernel
theorem dL_law_1739 : decode cL_law 1739 = .ok (.i2l, 1) := by decide +kernel
theorem dL_law_1740 : decode cL_law 1740 = .ok (.lcmp, 1) := by decide +kernel
theorem dL_law_1741 : decode cL_law 1741 = .ok (.ifCond .eq 5, 3) := by decide +kernel
theorem dL_law_1744 : decode cL_law 1744 = .ok (.iconst 0, 1) := by decide +kernel
theorem dL_law_1745 : decode cL_law 1745 = .ok (.ireturn, 1) := by decide +kernel
theorem dL_law_1746 : decode cL_law 1746 = .ok (.goto 176, 3) := by decide +kernel
theorem dL_law_1749 : decode cL_law 1749 = .ok (.aload_n 1, 1) := by decide +kernel
theorem dL_law_1750 : decode cL_law 1750 = .ok (.aload_n 0, 1) := by decide +kernel
theorem dL_law_1751 : decode cL_law 1751 = .ok (.iload 4, 2) := by decide +kernel
theorem dL_law_1753 : decode cL_law 1753 = .ok (.iconst 1, 1) := by decide +kernel
theorem dL_law_1754 : decode cL_law 1754 = .ok (.iadd, 1) := by decide +kernel
theorem dL_law_1755 : decode cL_law 1755 = .ok (.iaload, 1) := by decide +kernel
theorem dL_law_1756 : decode cL_law 1756 = .ok (.aload_n 0, 1) := by decide +kernel
theorem dL_law_1757 : decode cL_law 1757 = .ok (.iload 4, 2) := by decide +kernel
theorem dL_law_1759 : decode cL_law 1759 = .ok (.iconst 2, 1) := by decide +kernel
theorem dL_law_1760 : decode cL_law 1760 = .ok (.iadd, 1) := by decide +kernel
theorem dL_law_1761 : decode cL_law 1761 = .ok (.iaload, 1) := by decide +kernel
theorem dL_law_1762 : decode cL_law 1762 = .ok (.aload_n 0, 1) := by decide +kernel
theorem dL_law_1763 : decode cL_law 1763 = .ok (.iload 4, 2) := by decide +kernel
theorem dL_law_1765 : decode cL_law 1765 = .ok (.iconst 3, 1) := by decide +kernel
theorem dL_law_1766 : decode cL_law 1766 = .ok (.iadd, 1) := by decide +kernel
theorem dL_law_1767 : decode cL_law 1767 = .ok (.iaload, 1) := by decide +kernel
theorem dL_law_1768 : decode cL_law 1768 = .ok (.aload_n 3, 1) := by decide +kernel
theorem dL_law_1769 : decode cL_law 1769 = .ok (.invokestatic 170, 3) := by decide +kernel
theorem dL_law_1772 : decode cL_law 1772 = .ok (.istore 5, 2) := by decide +kernel
theorem dL_law_1774 : decode cL_law 1774 = .ok (.aload_n 2, 1) := by decide +kernel
theorem dL_law_1775 : decode cL_law 1775 = .ok (.aload_n 0, 1) := by decide +kernel
theorem dL_law_1776 : decode cL_law 1776 = .ok (.iload 4, 2) := by decide +kernel
theorem dL_law_1778 : decode cL_law 1778 = .ok (.iconst 1, 1) := by decide +kernel
theorem dL_law_1779 : decode cL_law 1779 = .ok (.iadd, 1) := by decide +kernel
theorem dL_law_1780 : decode cL_law 1780 = .ok (.iaload, 1) := by decide +kernel
theorem dL_law_1781 : decode cL_law 1781 = .ok (.aload_n 0, 1) := by decide +kernel
theorem dL_law_1782 : decode cL_law 1782 = .ok (.iload 4, 2) := by decide +kernel
theorem dL_law_1784 : decode cL_law 1784 = .ok (.iconst 2, 1) := by decide +kernel
theorem dL_law_1785 : decode cL_law 1785 = .ok (.iadd, 1) := by decide +kernel
theorem dL_law_1786 : decode cL_law 1786 = .ok (.iaload, 1) := by decide +kernel
theorem dL_law_1787 : decode cL_law 1787 = .ok (.aload_n 0, 1) := by decide +kernel
theorem dL_law_1788 : decode cL_law 1788 = .ok (.iload 4, 2) := by decide +kernel
theorem dL_law_1790 : decode cL_law 1790 = .ok (.iconst 3, 1) := by decide +kernel
theorem dL_law_1791 : decode cL_law 1791 = .ok (.iadd, 1) := by decide +kernel
theorem dL_law_1792 : decode cL_law 1792 = .ok (.iaload, 1) := by decide +kernel
theorem dL_law_1793 : decode cL_law 1793 = .ok (.invokevirtual 172, 3) := by decide +kernel
theorem dL_law_1796 : decode cL_law 1796 = .ok (.istore 6, 2) := by decide +kernel
theorem dL_law_1798 : decode cL_law 1798 = .ok (.aload_n 2, 1) := by decide +kernel
theorem dL_law_1799 : decode cL_law 1799 = .ok (.invokevirtual 89, 3) := by decide +kernel
theorem dL_law_1802 : decode cL_law 1802 = .ok (.iload 5, 2) := by decide +kernel
theorem dL_law_1804 : decode cL_law 1804 = .ok (.if_icmp .eq 5, 3) := by decide +kernel
theorem dL_law_1807 : decode cL_law 1807 = .ok (.iconst 0, 1) := by decide +kernel
theorem dL_law_1808 : decode cL_law 1808 = .ok (.ireturn, 1) := by decide +kernel
theorem dL_law_1809 : decode cL_law 1809 = .ok (.iload 5, 2) := by decide +kernel
theorem dL_law_1811 : decode cL_law 1811 = .ok (.ifCond .ne 15, 3) := by decide +kernel
theorem dL_law_1814 : decode cL_law 1814 = .ok (.aload_n 3, 1) := by decide +kernel
theorem dL_law_1815 : decode cL_law 1815 = .ok (.iconst 0, 1) := by decide +kernel
theorem dL_law_1816 : decode cL_law 1816 = .ok (.laload, 1) := by decide +kernel
theorem dL_law_1817 : decode cL_law 1817 = .ok (.iload 6, 2) := by decide +kernel
theorem dL_law_1819 : decode cL_law 1819 = .ok (.i2l, 1) := by decide +kernel
theorem dL_law_1820 : decode cL_law 1820 = .ok (.lcmp, 1) := by decide +kernel
theorem dL_law_1821 : decode cL_law 1821 = .ok (.ifCond .eq 5, 3) := by decide +kernel
theorem dL_law_1824 : decode cL_law 1824 = .ok (.iconst 0, 1) := by decide +kernel
theorem dL_law_1825 : decode cL_law 1825 = .ok (.ireturn, 1) := by decide +kernel
theorem dL_law_1826 : decode cL_law 1826 = .ok (.goto 96, 3) := by decide +kernel
theorem dL_law_1829 : decode cL_law 1829 = .ok (.aload_n 1, 1) := by decide +kernel
theorem dL_law_1830 : decode cL_law 1830 = .ok (.aload_n 0, 1) := by decide +kernel
theorem dL_law_1831 : decode cL_law 1831 = .ok (.iload 4, 2) := by decide +kernel
theorem dL_law_1833 : decode cL_law 1833 = .ok (.iconst 1, 1) := by decide +kernel
theorem dL_law_1834 : decode cL_law 1834 = .ok (.iadd, 1) := by decide +kernel
theorem dL_law_1835 : decode cL_law 1835 = .ok (.iaload, 1) := by decide +kernel
theorem dL_law_1836 : decode cL_law 1836 = .ok (.aload_n 0, 1) := by decide +kernel
theorem dL_law_1837 : decode cL_law 1837 = .ok (.iload 4, 2) := by decide +kernel
theorem dL_law_1839 : decode cL_law 1839 = .ok (.iconst 2, 1) := by decide +kernel
theorem dL_law_1840 : decode cL_law 1840 = .ok (.iadd, 1) := by decide +kernel
theorem dL_law_1841 : decode cL_law 1841 = .ok (.iaload, 1) := by decide +kernel
theorem dL_law_1842 : decode cL_law 1842 = .ok (.aload_n 3, 1) := by decide +kernel
theorem dL_law_1843 : decode cL_law 1843 = .ok (.invokestatic 173, 3) := by decide +kernel
theorem dL_law_1846 : decode cL_law 1846 = .ok (.istore 5, 2) := by decide +kernel
theorem dL_law_1848 : decode cL_law 1848 = .ok (.aload_n 2, 1) := by decide +kernel
theorem dL_law_1849 : decode cL_law 1849 = .ok (.aload_n 0, 1) := by decide +kernel
theorem dL_law_1850 : decode cL_law 1850 = .ok (.iload 4, 2) := by decide +kernel
theorem dL_law_1852 : decode cL_law 1852 = .ok (.iconst 1, 1) := by decide +kernel
theorem dL_law_1853 : decode cL_law 1853 = .ok (.iadd, 1) := by decide +kernel
theorem dL_law_1854 : decode cL_law 1854 = .ok (.iaload, 1) := by decide +kernel
theorem dL_law_1855 : decode cL_law 1855 = .ok (.aload_n 0, 1) := by decide +kernel
theorem dL_law_1856 : decode cL_law 1856 = .ok (.iload 4, 2) := by decide +kernel
theorem dL_law_1858 : decode cL_law 1858 = .ok (.iconst 2, 1) := by decide +kernel
theorem dL_law_1859 : decode cL_law 1859 = .ok (.iadd, 1) := by decide +kernel
theorem dL_law_1860 : decode cL_law 1860 = .ok (.iaload, 1) := by decide +kernel
theorem dL_law_1861 : decode cL_law 1861 = .ok (.invokevirtual 175, 3) := by decide +kernel
theorem dL_law_1864 : decode cL_law 1864 = .ok (.istore 6, 2) := by decide +kernel
theorem dL_law_1866 : decode cL_law 1866 = .ok (.aload_n 2, 1) := by decide +kernel
theorem dL_law_1867 : decode cL_law 1867 = .ok (.invokevirtual 89, 3) := by decide +kernel
theorem dL_law_1870 : decode cL_law 1870 = .ok (.iload 5, 2) := by decide +kernel
theorem dL_law_1872 : decode cL_law 1872 = .ok (.if_icmp .eq 5, 3) := by decide +kernel
theorem dL_law_1875 : decode cL_law 1875 = .ok (.iconst 0, 1) := by decide +kernel
theorem dL_law_1876 : decode cL_law 1876 = .ok (.ireturn, 1) := by decide +kernel
theorem dL_law_1877 : decode cL_law 1877 = .ok (.iload 5, 2) := by decide +kernel
theorem dL_law_1879 : decode cL_law 1879 = .ok (.ifCond .ne 15, 3) := by decide +kernel
theorem dL_law_1882 : decode cL_law 1882 = .ok (.aload_n 3, 1) := by decide +kernel
theorem dL_law_1883 : decode cL_law 1883 = .ok (.iconst 0, 1) := by decide +kernel
theorem dL_law_1884 : decode cL_law 1884 = .ok (.laload, 1) := by decide +kernel
theorem dL_law_1885 : decode cL_law 1885 = .ok (.iload 6, 2) := by decide +kernel
theorem dL_law_1887 : decode cL_law 1887 = .ok (.i2l, 1) := by decide +kernel
theorem dL_law_1888 : decode cL_law 1888 = .ok (.lcmp, 1) := by decide +kernel
theorem dL_law_1889 : decode cL_law 1889 = .ok (.ifCond .eq 5, 3) := by decide +kernel
theorem dL_law_1892 : decode cL_law 1892 = .ok (.iconst 0, 1) := by decide +kernel
theorem dL_law_1893 : decode cL_law 1893 = .ok (.ireturn, 1) := by decide +kernel
theorem dL_law_1894 : decode cL_law 1894 = .ok (.goto 28, 3) := by decide +kernel
theorem dL_law_1897 : decode cL_law 1897 = .ok (.aload_n 1, 1) := by decide +kernel
theorem dL_law_1898 : decode cL_law 1898 = .ok (.aload_n 0, 1) := by decide +kernel
theorem dL_law_1899 : decode cL_law 1899 = .ok (.iload 4, 2) := by decide +kernel
theorem dL_law_1901 : decode cL_law 1901 = .ok (.iconst 1, 1) := by decide +kernel
theorem dL_law_1902 : decode cL_law 1902 = .ok (.iadd, 1) := by decide +kernel
theorem dL_law_1903 : decode cL_law 1903 = .ok (.iaload, 1) := by decide +kernel
theorem dL_law_1904 : decode cL_law 1904 = .ok (.invokevirtual 176, 3) := by decide +kernel
theorem dL_law_1907 : decode cL_law 1907 = .ok (.aload_n 2, 1) := by decide +kernel
theorem dL_law_1908 : decode cL_law 1908 = .ok (.aload_n 0, 1) := by decide +kernel
theorem dL_law_1909 : decode cL_law 1909 = .ok (.iload 4, 2) := by decide +kernel
theorem dL_law_1911 : decode cL_law 1911 = .ok (.iconst 1, 1) := by decide +kernel
theorem dL_law_1912 : decode cL_law 1912 = .ok (.iadd, 1) := by decide +kernel
theorem dL_law_1913 : decode cL_law 1913 = .ok (.iaload, 1) := by decide +kernel
theorem dL_law_1914 : decode cL_law 1914 = .ok (.invokevirtual 179, 3) := by decide +kernel
theorem dL_law_1917 : decode cL_law 1917 = .ok (.if_icmp .eq 5, 3) := by decide +kernel
theorem dL_law_1920 : decode cL_law 1920 = .ok (.iconst 0, 1) := by decide +kernel
theorem dL_law_1921 : decode cL_law 1921 = .ok (.ireturn, 1) := by decide +kernel
theorem dL_law_1922 : decode cL_law 1922 = .ok (.iinc 4 7, 3) := by decide +kernel
theorem dL_law_1925 : decode cL_law 1925 = .ok (.goto (-1902), 3) := by decide +kernel
theorem dL_law_1928 : decode cL_law 1928 = .ok (.iconst 1, 1) := by decide +kernel
theorem dL_law_1929 : decode cL_law 1929 = .ok (.ireturn, 1) := by decide +kernel
