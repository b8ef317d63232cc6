/-! decode rows -/
theorem dT_differentCount_0 : decode prog_6_method_21_code 0 = .ok (.iconst 0, 1) := by decide +kernel
theorem dT_differentCount_1 : decode prog_6_method_21_code 1 = .ok (.istore_n 1, 1) := by decide +kernel
theorem dT_differentCount_2 : decode prog_6_method_21_code 2 = .ok (.iconst 0, 1) := by decide +kernel
theorem dT_differentCount_3 : decode prog_6_method_21_code 3 = .ok (.istore_n 2, 1) := by decide +kernel
theorem dT_differentCount_4 : decode prog_6_method_21_code 4 = .ok (.iload_n 2, 1) := by decide +kernel
theorem dT_differentCount_5 : decode prog_6_method_21_code 5 = .ok (.aload_n 0, 1) := by decide +kernel
theorem dT_differentCount_6 : decode prog_6_method_21_code 6 = .ok (.getfield 34, 3) := by decide +kernel
theorem dT_differentCount_9 : decode prog_6_method_21_code 9 = .ok (.if_icmp .ge 20, 3) := by decide +kernel
theorem dT_differentCount_12 : decode prog_6_method_21_code 12 = .ok (.aload_n 0, 1) := by decide +kernel
theorem dT_differentCount_13 : decode prog_6_method_21_code 13 = .ok (.iload_n 2, 1) := by decide +kernel
theorem dT_differentCount_14 : decode prog_6_method_21_code 14 = .ok (.invokevirtual 67, 3) := by decide +kernel
theorem dT_differentCount_17 : decode prog_6_method_21_code 17 = .ok (.ifCond .eq 6, 3) := by decide +kernel
theorem dT_differentCount_20 : decode prog_6_method_21_code 20 = .ok (.iinc 1 1, 3) := by decide +kernel
theorem dT_differentCount_23 : decode prog_6_method_21_code 23 = .ok (.iinc 2 1, 3) := by decide +kernel
theorem dT_differentCount_26 : decode prog_6_method_21_code 26 = .ok (.goto (-22), 3) := by decide +kernel
theorem dT_differentCount_29 : decode prog_6_method_21_code 29 = .ok (.iload_n 1, 1) := by decide +kernel
theorem dT_differentCount_30 : decode prog_6_method_21_code 30 = .ok (.ireturn, 1) := by decide +kernel
theorem dT_isFirstOfItsLike_0 : decode prog_6_method_22_code 0 = .ok (.iconst 0, 1) := by decide +kernel
theorem dT_isFirstOfItsLike_1 : decode prog_6_method_22_code 1 = .ok (.istore_n 2, 1) := by decide +kernel
theorem dT_isFirstOfItsLike_2 : decode prog_6_method_22_code 2 = .ok (.iload_n 2, 1) := by decide +kernel
theorem dT_isFirstOfItsLike_3 : decode prog_6_method_22_code 3 = .ok (.iload_n 1, 1) := by decide +kernel
theorem dT_isFirstOfItsLike_4 : decode prog_6_method_22_code 4 = .ok (.if_icmp .ge 21, 3) := by decide +kernel
theorem dT_isFirstOfItsLike_7 : decode prog_6_method_22_code 7 = .ok (.aload_n 0, 1) := by decide +kernel
theorem dT_isFirstOfItsLike_8 : decode prog_6_method_22_code 8 = .ok (.iload_n 1, 1) := by decide +kernel
theorem dT_isFirstOfItsLike_9 : decode prog_6_method_22_code 9 = .ok (.aload_n 0, 1) := by decide +kernel
theorem dT_isFirstOfItsLike_10 : decode prog_6_method_22_code 10 = .ok (.iload_n 2, 1) := by decide +kernel
theorem dT_isFirstOfItsLike_11 : decode prog_6_method_22_code 11 = .ok (.invokevirtual 70, 3) := by decide +kernel
theorem dT_isFirstOfItsLike_14 : decode prog_6_method_22_code 14 = .ok (.ifCond .eq 5, 3) := by decide +kernel
theorem dT_isFirstOfItsLike_17 : decode prog_6_method_22_code 17 = .ok (.iconst 0, 1) := by decide +kernel
theorem dT_isFirstOfItsLike_18 : decode prog_6_method_22_code 18 = .ok (.ireturn, 1) := by decide +kernel
theorem dT_isFirstOfItsLike_19 : decode prog_6_method_22_code 19 = .ok (.iinc 2 1, 3) := by decide +kernel
theorem dT_isFirstOfItsLike_22 : decode prog_6_method_22_code 22 = .ok (.goto (-20), 3) := by decide +kernel
theorem dT_isFirstOfItsLike_25 : decode prog_6_method_22_code 25 = .ok (.iconst 1, 1) := by decide +kernel
theorem dT_isFirstOfItsLike_26 : decode prog_6_method_22_code 26 = .ok (.ireturn, 1) := by decide +kernel
theorem dT_matches_0 : decode prog_6_method_23_code 0 = .ok (.aload_n 0, 1) := by decide +kernel
theorem dT_matches_1 : decode prog_6_method_23_code 1 = .ok (.iload_n 1, 1) := by decide +kernel
theorem dT_matches_2 : decode prog_6_method_23_code 2 = .ok (.aload_n 2, 1) := by decide +kernel
theorem dT_matches_3 : decode prog_6_method_23_code 3 = .ok (.iload_n 3, 1) := by decide +kernel
theorem dT_matches_4 : decode prog_6_method_23_code 4 = .ok (.invokevirtual 74, 3) := by decide +kernel
theorem dT_matches_7 : decode prog_6_method_23_code 7 = .ok (.ifCond .ne 5, 3) := by decide +kernel
theorem dT_matches_10 : decode prog_6_method_23_code 10 = .ok (.iconst 0, 1) := by decide +kernel
theorem dT_matches_11 : decode prog_6_method_23_code 11 = .ok (.ireturn, 1) := by decide +kernel
theorem dT_matches_12 : decode prog_6_method_23_code 12 = .ok (.iconst 1, 1) := by decide +kernel
theorem dT_matches_13 : decode prog_6_method_23_code 13 = .ok (.istore 4, 2) := by decide +kernel
theorem dT_matches_15 : decode prog_6_method_23_code 15 = .ok (.iload 4, 2) := by decide +kernel
theorem dT_matches_17 : decode prog_6_method_23_code 17 = .ok (.aload_n 0, 1) := by decide +kernel
theorem dT_matches_18 : decode prog_6_method_23_code 18 = .ok (.getfield 19, 3) := by decide +kernel
theorem dT_matches_21 : decode prog_6_method_23_code 21 = .ok (.iload_n 1, 1) := by decide +kernel
theorem dT_matches_22 : decode prog_6_method_23_code 22 = .ok (.iaload, 1) := by decide +kernel
theorem dT_matches_23 : decode prog_6_method_23_code 23 = .ok (.if_icmp .ge 27, 3) := by decide +kernel
theorem dT_matches_26 : decode prog_6_method_23_code 26 = .ok (.aload_n 0, 1) := by decide +kernel
theorem dT_matches_27 : decode prog_6_method_23_code 27 = .ok (.iload_n 1, 1) := by decide +kernel
theorem dT_matches_28 : decode prog_6_method_23_code 28 = .ok (.iload 4, 2) := by decide +kernel
theorem dT_matches_30 : decode prog_6_method_23_code 30 = .ok (.iadd, 1) := by decide +kernel
theorem dT_matches_31 : decode prog_6_method_23_code 31 = .ok (.aload_n 2, 1) := by decide +kernel
theorem dT_matches_32 : decode prog_6_method_23_code 32 = .ok (.iload_n 3, 1) := by decide +kernel
theorem dT_matches_33 : decode prog_6_method_23_code 33 = .ok (.iload 4, 2) := by decide +kernel
theorem dT_matches_35 : decode prog_6_method_23_code 35 = .ok (.iadd, 1) := by decide +kernel
theorem dT_matches_36 : decode prog_6_method_23_code 36 = .ok (.invokevirtual 74, 3) := by decide +kernel
theorem dT_matches_39 : decode prog_6_method_23_code 39 = .ok (.ifCond .ne 5, 3) := by decide +kernel
theorem dT_matches_42 : decode prog_6_method_23_code 42 = .ok (.iconst 0, 1) := by decide +kernel
theorem dT_matches_43 : decode prog_6_method_23_code 43 = .ok (.ireturn, 1) := by decide +kernel
theorem dT_matches_44 : decode prog_6_method_23_code 44 = .ok (.iinc 4 1, 3) := by decide +kernel
theorem dT_matches_47 : decode prog_6_method_23_code 47 = .ok (.goto (-32), 3) := by decide +kernel
theorem dT_matches_50 : decode prog_6_method_23_code 50 = .ok (.aload_n 0, 1) := by decide +kernel
theorem dT_matches_51 : decode prog_6_method_23_code 51 = .ok (.iload_n 1, 1) := by decide +kernel
theorem dT_matches_52 : decode prog_6_method_23_code 52 = .ok (.aload_n 2, 1) := by decide +kernel
theorem dT_matches_53 : decode prog_6_method_23_code 53 = .ok (.iload_n 3, 1) := by decide +kernel
theorem dT_matches_54 : decode prog_6_method_23_code 54 = .ok (.invokevirtual 77, 3) := by decide +kernel
theorem dT_matches_57 : decode prog_6_method_23_code 57 = .ok (.ifCond .eq 17, 3) := by decide +kernel
theorem dT_matches_60 : decode prog_6_method_23_code 60 = .ok (.aload_n 0, 1) := by decide +kernel
theorem dT_matches_61 : decode prog_6_method_23_code 61 = .ok (.iload_n 1, 1) := by decide +kernel
theorem dT_matches_62 : decode prog_6_method_23_code 62 = .ok (.aload_n 2, 1) := by decide +kernel
theorem dT_matches_63 : decode prog_6_method_23_code 63 = .ok (.iload_n 3, 1) := by decide +kernel
theorem dT_matches_64 : decode prog_6_method_23_code 64 = .ok (.invokevirtual 80, 3) := by decide +kernel
theorem dT_matches_67 : decode prog_6_method_23_code 67 = .ok (.ifCond .eq 7, 3) := by decide +kernel
theorem dT_matches_70 : decode prog_6_method_23_code 70 = .ok (.iconst 1, 1) := by decide +kernel
theorem dT_matches_71 : decode prog_6_method_23_code 71 = .ok (.goto 4, 3) := by decide +kernel
theorem dT_matches_74 : decode prog_6_method_23_code 74 = .ok (.iconst 0, 1) := by decide +kernel
theorem dT_matches_75 : decode prog_6_method_23_code 75 = .ok (.ireturn, 1) := by decide +kernel
theorem dT_sameNode_0 : decode prog_6_method_24_code 0 = .ok (.aload_n 0, 1) := by decide +kernel
theorem dT_sameNode_1 : decode prog_6_method_24_code 1 = .ok (.getfield 15, 3) := by decide +kernel
theorem dT_sameNode_4 : decode prog_6_method_24_code 4 = .ok (.iload_n 1, 1) := by decide +kernel
theorem dT_sameNode_5 : decode prog_6_method_24_code 5 = .ok (.iaload, 1) := by decide +kernel
theorem dT_sameNode_6 : decode prog_6_method_24_code 6 = .ok (.aload_n 2, 1) := by decide +kernel
theorem dT_sameNode_7 : decode prog_6_method_24_code 7 = .ok (.getfield 15, 3) := by decide +kernel
theorem dT_sameNode_10 : decode prog_6_method_24_code 10 = .ok (.iload_n 3, 1) := by decide +kernel
theorem dT_sameNode_11 : decode prog_6_method_24_code 11 = .ok (.iaload, 1) := by decide +kernel
theorem dT_sameNode_12 : decode prog_6_method_24_code 12 = .ok (.if_icmp .ne 48, 3) := by decide +kernel
theorem dT_sameNode_15 : decode prog_6_method_24_code 15 = .ok (.aload_n 0, 1) := by decide +kernel
theorem dT_sameNode_16 : decode prog_6_method_24_code 16 = .ok (.getfield 19, 3) := by decide +kernel
theorem dT_sameNode_19 : decode prog_6_method_24_code 19 = .ok (.iload_n 1, 1) := by decide +kernel
theorem dT_sameNode_20 : decode prog_6_method_24_code 20 = .ok (.iaload, 1) := by decide +kernel
theorem dT_sameNode_21 : decode prog_6_method_24_code 21 = .ok (.aload_n 2, 1) := by decide +kernel
theorem dT_sameNode_22 : decode prog_6_method_24_code 22 = .ok (.getfield 19, 3) := by decide +kernel
theorem dT_sameNode_25 : decode prog_6_method_24_code 25 = .ok (.iload_n 3, 1) := by decide +kernel
theorem dT_sameNode_26 : decode prog_6_method_24_code 26 = .ok (.iaload, 1) := by decide +kernel
theorem dT_sameNode_27 : decode prog_6_method_24_code 27 = .ok (.if_icmp .ne 33, 3) := by decide +kernel
theorem dT_sameNode_30 : decode prog_6_method_24_code 30 = .ok (.aload_n 0, 1) := by decide +kernel
theorem dT_sameNode_31 : decode prog_6_method_24_code 31 = .ok (.iload_n 1, 1) := by decide +kernel
theorem dT_sameNode_32 : decode prog_6_method_24_code 32 = .ok (.invokevirtual 63, 3) := by decide +kernel
theorem dT_sameNode_35 : decode prog_6_method_24_code 35 = .ok (.aload_n 2, 1) := by decide +kernel
theorem dT_sameNode_36 : decode prog_6_method_24_code 36 = .ok (.iload_n 3, 1) := by decide +kernel
theorem dT_sameNode_37 : decode prog_6_method_24_code 37 = .ok (.invokevirtual 63, 3) := by decide +kernel
theorem dT_sameNode_40 : decode prog_6_method_24_code 40 = .ok (.if_icmp .ne 20, 3) := by decide +kernel
theorem dT_sameNode_43 : decode prog_6_method_24_code 43 = .ok (.aload_n 0, 1) := by decide +kernel
theorem dT_sameNode_44 : decode prog_6_method_24_code 44 = .ok (.iload_n 1, 1) := by decide +kernel
theorem dT_sameNode_45 : decode prog_6_method_24_code 45 = .ok (.invokevirtual 83, 3) := by decide +kernel
theorem dT_sameNode_48 : decode prog_6_method_24_code 48 = .ok (.aload_n 2, 1) := by decide +kernel
theorem dT_sameNode_49 : decode prog_6_method_24_code 49 = .ok (.iload_n 3, 1) := by decide +kernel
theorem dT_sameNode_50 : decode prog_6_method_24_code 50 = .ok (.invokevirtual 83, 3) := by decide +kernel
theorem dT_sameNode_53 : decode prog_6_method_24_code 53 = .ok (.if_icmp .ne 7, 3) := by decide +kernel
theorem dT_sameNode_56 : decode prog_6_method_24_code 56 = .ok (.iconst 1, 1) := by decide +kernel
theorem dT_sameNode_57 : decode prog_6_method_24_code 57 = .ok (.goto 4, 3) := by decide +kernel
theorem dT_sameNode_60 : decode prog_6_method_24_code 60 = .ok (.iconst 0, 1) := by decide +kernel
theorem dT_sameNode_61 : decode prog_6_method_24_code 61 = .ok (.ireturn, 1) := by decide +kernel
theorem dT_sameLetters_0 : decode prog_6_method_25_code 0 = .ok (.aload_n 0, 1) := by decide +kernel
theorem dT_sameLetters_1 : decode prog_6_method_25_code 1 = .ok (.iload_n 1, 1) := by decide +kernel
theorem dT_sameLetters_2 : decode prog_6_method_25_code 2 = .ok (.invokevirtual 63, 3) := by decide +kernel
theorem dT_sameLetters_5 : decode prog_6_method_25_code 5 = .ok (.istore 4, 2) := by decide +kernel
theorem dT_sameLetters_7 : decode prog_6_method_25_code 7 = .ok (.iconst 0, 1) := by decide +kernel
theorem dT_sameLetters_8 : decode prog_6_method_25_code 8 = .ok (.istore 5, 2) := by decide +kernel
theorem dT_sameLetters_10 : decode prog_6_method_25_code 10 = .ok (.iload 5, 2) := by decide +kernel
theorem dT_sameLetters_12 : decode prog_6_method_25_code 12 = .ok (.iload 4, 2) := by decide +kernel
theorem dT_sameLetters_14 : decode prog_6_method_25_code 14 = .ok (.if_icmp .ge 46, 3) := by decide +kernel
theorem dT_sameLetters_17 : decode prog_6_method_25_code 17 = .ok (.aload_n 0, 1) := by decide +kernel
theorem dT_sameLetters_18 : decode prog_6_method_25_code 18 = .ok (.getfield 9, 3) := by decide +kernel
theorem dT_sameLetters_21 : decode prog_6_method_25_code 21 = .ok (.aload_n 0, 1) := by decide +kernel
theorem dT_sameLetters_22 : decode prog_6_method_25_code 22 = .ok (.getfield 22, 3) := by decide +kernel
theorem dT_sameLetters_25 : decode prog_6_method_25_code 25 = .ok (.iload_n 1, 1) := by decide +kernel
theorem dT_sameLetters_26 : decode prog_6_method_25_code 26 = .ok (.iaload, 1) := by decide +kernel
theorem dT_sameLetters_27 : decode prog_6_method_25_code 27 = .ok (.iload 5, 2) := by decide +kernel
theorem dT_sameLetters_29 : decode prog_6_method_25_code 29 = .ok (.iadd, 1) := by decide +kernel
theorem dT_sameLetters_30 : decode prog_6_method_25_code 30 = .ok (.invokevirtual 86, 3) := by decide +kernel
theorem dT_sameLetters_33 : decode prog_6_method_25_code 33 = .ok (.aload_n 2, 1) := by decide +kernel
theorem dT_sameLetters_34 : decode prog_6_method_25_code 34 = .ok (.getfield 9, 3) := by decide +kernel
theorem dT_sameLetters_37 : decode prog_6_method_25_code 37 = .ok (.aload_n 2, 1) := by decide +kernel
theorem dT_sameLetters_38 : decode prog_6_method_25_code 38 = .ok (.getfield 22, 3) := by decide +kernel
theorem dT_sameLetters_41 : decode prog_6_method_25_code 41 = .ok (.iload_n 3, 1) := by decide +kernel
theorem dT_sameLetters_42 : decode prog_6_method_25_code 42 = .ok (.iaload, 1) := by decide +kernel
theorem dT_sameLetters_43 : decode prog_6_method_25_code 43 = .ok (.iload 5, 2) := by decide +kernel
theorem dT_sameLetters_45 : decode prog_6_method_25_code 45 = .ok (.iadd, 1) := by decide +kernel
theorem dT_sameLetters_46 : decode prog_6_method_25_code 46 = .ok (.invokevirtual 86, 3) := by decide +kernel
theorem dT_sameLetters_49 : decode prog_6_method_25_code 49 = .ok (.if_icmp .eq 5, 3) := by decide +kernel
theorem dT_sameLetters_52 : decode prog_6_method_25_code 52 = .ok (.iconst 0, 1) := by decide +kernel
theorem dT_sameLetters_53 : decode prog_6_method_25_code 53 = .ok (.ireturn, 1) := by decide +kernel
theorem dT_sameLetters_54 : decode prog_6_method_25_code 54 = .ok (.iinc 5 1, 3) := by decide +kernel
theorem dT_sameLetters_57 : decode prog_6_method_25_code 57 = .ok (.goto (-47), 3) := by decide +kernel
theorem dT_sameLetters_60 : decode prog_6_method_25_code 60 = .ok (.iconst 1, 1) := by decide +kernel
theorem dT_sameLetters_61 : decode prog_6_method_25_code 61 = .ok (.ireturn, 1) := by decide +kernel
theorem dT_sameFaults_0 : decode prog_6_method_26_code 0 = .ok (.aload_n 0, 1) := by decide +kernel
theorem dT_sameFaults_1 : decode prog_6_method_26_code 1 = .ok (.iload_n 1, 1) := by decide +kernel
theorem dT_sameFaults_2 : decode prog_6_method_26_code 2 = .ok (.invokevirtual 83, 3) := by decide +kernel
theorem dT_sameFaults_5 : decode prog_6_method_26_code 5 = .ok (.istore 4, 2) := by decide +kernel
theorem dT_sameFaults_7 : decode prog_6_method_26_code 7 = .ok (.iconst 4, 1) := by decide +kernel
theorem dT_sameFaults_8 : decode prog_6_method_26_code 8 = .ok (.aload_n 0, 1) := by decide +kernel
theorem dT_sameFaults_9 : decode prog_6_method_26_code 9 = .ok (.getfield 22, 3) := by decide +kernel
theorem dT_sameFaults_12 : decode prog_6_method_26_code 12 = .ok (.iload_n 1, 1) := by decide +kernel
theorem dT_sameFaults_13 : decode prog_6_method_26_code 13 = .ok (.iaload, 1) := by decide +kernel
theorem dT_sameFaults_14 : decode prog_6_method_26_code 14 = .ok (.aload_n 2, 1) := by decide +kernel
theorem dT_sameFaults_15 : decode prog_6_method_26_code 15 = .ok (.getfield 22, 3) := by decide +kernel
theorem dT_sameFaults_18 : decode prog_6_method_26_code 18 = .ok (.iload_n 3, 1) := by decide +kernel
theorem dT_sameFaults_19 : decode prog_6_method_26_code 19 = .ok (.iaload, 1) := by decide +kernel
theorem dT_sameFaults_20 : decode prog_6_method_26_code 20 = .ok (.isub, 1) := by decide +kernel
theorem dT_sameFaults_21 : decode prog_6_method_26_code 21 = .ok (.imul, 1) := by decide +kernel
theorem dT_sameFaults_22 : decode prog_6_method_26_code 22 = .ok (.istore 5, 2) := by decide +kernel
theorem dT_sameFaults_24 : decode prog_6_method_26_code 24 = .ok (.iconst 0, 1) := by decide +kernel
theorem dT_sameFaults_25 : decode prog_6_method_26_code 25 = .ok (.istore 6, 2) := by decide +kernel
theorem dT_sameFaults_27 : decode prog_6_method_26_code 27 = .ok (.iload 6, 2) := by decide +kernel
theorem dT_sameFaults_29 : decode prog_6_method_26_code 29 = .ok (.iload 4, 2) := by decide +kernel
theorem dT_sameFaults_31 : decode prog_6_method_26_code 31 = .ok (.if_icmp .ge 53, 3) := by decide +kernel
theorem dT_sameFaults_34 : decode prog_6_method_26_code 34 = .ok (.aload_n 0, 1) := by decide +kernel
theorem dT_sameFaults_35 : decode prog_6_method_26_code 35 = .ok (.getfield 31, 3) := by decide +kernel
theorem dT_sameFaults_38 : decode prog_6_method_26_code 38 = .ok (.aload_n 0, 1) := by decide +kernel
theorem dT_sameFaults_39 : decode prog_6_method_26_code 39 = .ok (.getfield 28, 3) := by decide +kernel
theorem dT_sameFaults_42 : decode prog_6_method_26_code 42 = .ok (.iload_n 1, 1) := by decide +kernel
theorem dT_sameFaults_43 : decode prog_6_method_26_code 43 = .ok (.iaload, 1) := by decide +kernel
theorem dT_sameFaults_44 : decode prog_6_method_26_code 44 = .ok (.iload 6, 2) := by decide +kernel
theorem dT_sameFaults_46 : decode prog_6_method_26_code 46 = .ok (.iadd, 1) := by decide +kernel
theorem dT_sameFaults_47 : decode prog_6_method_26_code 47 = .ok (.iaload, 1) := by decide +kernel
theorem dT_sameFaults_48 : decode prog_6_method_26_code 48 = .ok (.istore 7, 2) := by decide +kernel
theorem dT_sameFaults_50 : decode prog_6_method_26_code 50 = .ok (.aload_n 2, 1) := by decide +kernel
theorem dT_sameFaults_51 : decode prog_6_method_26_code 51 = .ok (.getfield 31, 3) := by decide +kernel
theorem dT_sameFaults_54 : decode prog_6_method_26_code 54 = .ok (.aload_n 2, 1) := by decide +kernel
theorem dT_sameFaults_55 : decode prog_6_method_26_code 55 = .ok (.getfield 28, 3) := by decide +kernel
theorem dT_sameFaults_58 : decode prog_6_method_26_code 58 = .ok (.iload_n 3, 1) := by decide +kernel
theorem dT_sameFaults_59 : decode prog_6_method_26_code 59 = .ok (.iaload, 1) := by decide +kernel
theorem dT_sameFaults_60 : decode prog_6_method_26_code 60 = .ok (.iload 6, 2) := by decide +kernel
theorem dT_sameFaults_62 : decode prog_6_method_26_code 62 = .ok (.iadd, 1) := by decide +kernel
theorem dT_sameFaults_63 : decode prog_6_method_26_code 63 = .ok (.iaload, 1) := by decide +kernel
theorem dT_sameFaults_64 : decode prog_6_method_26_code 64 = .ok (.istore 8, 2) := by decide +kernel
theorem dT_sameFaults_66 : decode prog_6_method_26_code 66 = .ok (.iload 7, 2) := by decide +kernel
theorem dT_sameFaults_68 : decode prog_6_method_26_code 68 = .ok (.iload 8, 2) := by decide +kernel
theorem dT_sameFaults_70 : decode prog_6_method_26_code 70 = .ok (.isub, 1) := by decide +kernel
theorem dT_sameFaults_71 : decode prog_6_method_26_code 71 = .ok (.iload 5, 2) := by decide +kernel
theorem dT_sameFaults_73 : decode prog_6_method_26_code 73 = .ok (.if_icmp .eq 5, 3) := by decide +kernel
theorem dT_sameFaults_76 : decode prog_6_method_26_code 76 = .ok (.iconst 0, 1) := by decide +kernel
theorem dT_sameFaults_77 : decode prog_6_method_26_code 77 = .ok (.ireturn, 1) := by decide +kernel
theorem dT_sameFaults_78 : decode prog_6_method_26_code 78 = .ok (.iinc 6 1, 3) := by decide +kernel
theorem dT_sameFaults_81 : decode prog_6_method_26_code 81 = .ok (.goto (-54), 3) := by decide +kernel
theorem dT_sameFaults_84 : decode prog_6_method_26_code 84 = .ok (.iconst 1, 1) := by decide +kernel
theorem dT_sameFaults_85 : decode prog_6_method_26_code 85 = .ok (.ireturn, 1) := by decide +kernel
