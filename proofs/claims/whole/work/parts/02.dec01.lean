/-! decode rows -/
theorem dM_blanks_0 : decode prog_8_method_3_code 0 = .ok (.iload_n 2, 1) := by decide +kernel
theorem dM_blanks_1 : decode prog_8_method_3_code 1 = .ok (.istore_n 3, 1) := by decide +kernel
theorem dM_blanks_2 : decode prog_8_method_3_code 2 = .ok (.iconst 1, 1) := by decide +kernel
theorem dM_blanks_3 : decode prog_8_method_3_code 3 = .ok (.istore 4, 2) := by decide +kernel
theorem dM_blanks_5 : decode prog_8_method_3_code 5 = .ok (.iload 4, 2) := by decide +kernel
theorem dM_blanks_7 : decode prog_8_method_3_code 7 = .ok (.ifCond .eq 99, 3) := by decide +kernel
theorem dM_blanks_10 : decode prog_8_method_3_code 10 = .ok (.iload_n 3, 1) := by decide +kernel
theorem dM_blanks_11 : decode prog_8_method_3_code 11 = .ok (.aload_n 0, 1) := by decide +kernel
theorem dM_blanks_12 : decode prog_8_method_3_code 12 = .ok (.getfield 13, 3) := by decide +kernel
theorem dM_blanks_15 : decode prog_8_method_3_code 15 = .ok (.iload_n 1, 1) := by decide +kernel
theorem dM_blanks_16 : decode prog_8_method_3_code 16 = .ok (.iaload, 1) := by decide +kernel
theorem dM_blanks_17 : decode prog_8_method_3_code 17 = .ok (.if_icmp .ge 89, 3) := by decide +kernel
theorem dM_blanks_20 : decode prog_8_method_3_code 20 = .ok (.aload_n 0, 1) := by decide +kernel
theorem dM_blanks_21 : decode prog_8_method_3_code 21 = .ok (.iload_n 1, 1) := by decide +kernel
theorem dM_blanks_22 : decode prog_8_method_3_code 22 = .ok (.iload_n 3, 1) := by decide +kernel
theorem dM_blanks_23 : decode prog_8_method_3_code 23 = .ok (.invokevirtual 111, 3) := by decide +kernel
theorem dM_blanks_26 : decode prog_8_method_3_code 26 = .ok (.istore 5, 2) := by decide +kernel
theorem dM_blanks_28 : decode prog_8_method_3_code 28 = .ok (.iload 5, 2) := by decide +kernel
theorem dM_blanks_30 : decode prog_8_method_3_code 30 = .ok (.bipush 32, 2) := by decide +kernel
theorem dM_blanks_32 : decode prog_8_method_3_code 32 = .ok (.if_icmp .eq 17, 3) := by decide +kernel
theorem dM_blanks_35 : decode prog_8_method_3_code 35 = .ok (.iload 5, 2) := by decide +kernel
theorem dM_blanks_37 : decode prog_8_method_3_code 37 = .ok (.bipush 10, 2) := by decide +kernel
theorem dM_blanks_39 : decode prog_8_method_3_code 39 = .ok (.if_icmp .eq 10, 3) := by decide +kernel
theorem dM_blanks_42 : decode prog_8_method_3_code 42 = .ok (.iload 5, 2) := by decide +kernel
theorem dM_blanks_44 : decode prog_8_method_3_code 44 = .ok (.bipush 35, 2) := by decide +kernel
theorem dM_blanks_46 : decode prog_8_method_3_code 46 = .ok (.if_icmp .ne 7, 3) := by decide +kernel
theorem dM_blanks_49 : decode prog_8_method_3_code 49 = .ok (.iconst 1, 1) := by decide +kernel
theorem dM_blanks_50 : decode prog_8_method_3_code 50 = .ok (.goto 4, 3) := by decide +kernel
theorem dM_blanks_53 : decode prog_8_method_3_code 53 = .ok (.iconst 0, 1) := by decide +kernel
theorem dM_blanks_54 : decode prog_8_method_3_code 54 = .ok (.istore 4, 2) := by decide +kernel
theorem dM_blanks_56 : decode prog_8_method_3_code 56 = .ok (.iload 4, 2) := by decide +kernel
theorem dM_blanks_58 : decode prog_8_method_3_code 58 = .ok (.ifCond .eq 9, 3) := by decide +kernel
theorem dM_blanks_61 : decode prog_8_method_3_code 61 = .ok (.iload_n 3, 1) := by decide +kernel
theorem dM_blanks_62 : decode prog_8_method_3_code 62 = .ok (.iconst 1, 1) := by decide +kernel
theorem dM_blanks_63 : decode prog_8_method_3_code 63 = .ok (.iadd, 1) := by decide +kernel
theorem dM_blanks_64 : decode prog_8_method_3_code 64 = .ok (.goto 4, 3) := by decide +kernel
theorem dM_blanks_67 : decode prog_8_method_3_code 67 = .ok (.iload_n 3, 1) := by decide +kernel
theorem dM_blanks_68 : decode prog_8_method_3_code 68 = .ok (.istore_n 3, 1) := by decide +kernel
theorem dM_blanks_69 : decode prog_8_method_3_code 69 = .ok (.iload 5, 2) := by decide +kernel
theorem dM_blanks_71 : decode prog_8_method_3_code 71 = .ok (.bipush 35, 2) := by decide +kernel
theorem dM_blanks_73 : decode prog_8_method_3_code 73 = .ok (.if_icmp .ne 30, 3) := by decide +kernel
theorem dM_blanks_76 : decode prog_8_method_3_code 76 = .ok (.iload_n 3, 1) := by decide +kernel
theorem dM_blanks_77 : decode prog_8_method_3_code 77 = .ok (.aload_n 0, 1) := by decide +kernel
theorem dM_blanks_78 : decode prog_8_method_3_code 78 = .ok (.getfield 13, 3) := by decide +kernel
theorem dM_blanks_81 : decode prog_8_method_3_code 81 = .ok (.iload_n 1, 1) := by decide +kernel
theorem dM_blanks_82 : decode prog_8_method_3_code 82 = .ok (.iaload, 1) := by decide +kernel
theorem dM_blanks_83 : decode prog_8_method_3_code 83 = .ok (.if_icmp .ge 20, 3) := by decide +kernel
theorem dM_blanks_86 : decode prog_8_method_3_code 86 = .ok (.aload_n 0, 1) := by decide +kernel
theorem dM_blanks_87 : decode prog_8_method_3_code 87 = .ok (.iload_n 1, 1) := by decide +kernel
theorem dM_blanks_88 : decode prog_8_method_3_code 88 = .ok (.iload_n 3, 1) := by decide +kernel
theorem dM_blanks_89 : decode prog_8_method_3_code 89 = .ok (.invokevirtual 111, 3) := by decide +kernel
theorem dM_blanks_92 : decode prog_8_method_3_code 92 = .ok (.bipush 10, 2) := by decide +kernel
theorem dM_blanks_94 : decode prog_8_method_3_code 94 = .ok (.if_icmp .eq 9, 3) := by decide +kernel
theorem dM_blanks_97 : decode prog_8_method_3_code 97 = .ok (.iinc 3 1, 3) := by decide +kernel
theorem dM_blanks_100 : decode prog_8_method_3_code 100 = .ok (.goto (-31), 3) := by decide +kernel
theorem dM_blanks_103 : decode prog_8_method_3_code 103 = .ok (.goto (-98), 3) := by decide +kernel
theorem dM_blanks_106 : decode prog_8_method_3_code 106 = .ok (.iload_n 3, 1) := by decide +kernel
theorem dM_blanks_107 : decode prog_8_method_3_code 107 = .ok (.ireturn, 1) := by decide +kernel
theorem dM_among_0 : decode prog_8_method_4_code 0 = .ok (.iload_n 1, 1) := by decide +kernel
theorem dM_among_1 : decode prog_8_method_4_code 1 = .ok (.ifCond .eq 23, 3) := by decide +kernel
theorem dM_among_4 : decode prog_8_method_4_code 4 = .ok (.iload_n 0, 1) := by decide +kernel
theorem dM_among_5 : decode prog_8_method_4_code 5 = .ok (.bipush 48, 2) := by decide +kernel
theorem dM_among_7 : decode prog_8_method_4_code 7 = .ok (.if_icmp .lt 13, 3) := by decide +kernel
theorem dM_among_10 : decode prog_8_method_4_code 10 = .ok (.iload_n 0, 1) := by decide +kernel
theorem dM_among_11 : decode prog_8_method_4_code 11 = .ok (.bipush 57, 2) := by decide +kernel
theorem dM_among_13 : decode prog_8_method_4_code 13 = .ok (.if_icmp .gt 7, 3) := by decide +kernel
theorem dM_among_16 : decode prog_8_method_4_code 16 = .ok (.iconst 1, 1) := by decide +kernel
theorem dM_among_17 : decode prog_8_method_4_code 17 = .ok (.goto 24, 3) := by decide +kernel
theorem dM_among_20 : decode prog_8_method_4_code 20 = .ok (.iconst 0, 1) := by decide +kernel
theorem dM_among_21 : decode prog_8_method_4_code 21 = .ok (.goto 20, 3) := by decide +kernel
theorem dM_among_24 : decode prog_8_method_4_code 24 = .ok (.iload_n 0, 1) := by decide +kernel
theorem dM_among_25 : decode prog_8_method_4_code 25 = .ok (.bipush 97, 2) := by decide +kernel
theorem dM_among_27 : decode prog_8_method_4_code 27 = .ok (.if_icmp .lt 13, 3) := by decide +kernel
theorem dM_among_30 : decode prog_8_method_4_code 30 = .ok (.iload_n 0, 1) := by decide +kernel
theorem dM_among_31 : decode prog_8_method_4_code 31 = .ok (.bipush 122, 2) := by decide +kernel
theorem dM_among_33 : decode prog_8_method_4_code 33 = .ok (.if_icmp .gt 7, 3) := by decide +kernel
theorem dM_among_36 : decode prog_8_method_4_code 36 = .ok (.iconst 1, 1) := by decide +kernel
theorem dM_among_37 : decode prog_8_method_4_code 37 = .ok (.goto 4, 3) := by decide +kernel
theorem dM_among_40 : decode prog_8_method_4_code 40 = .ok (.iconst 0, 1) := by decide +kernel
theorem dM_among_41 : decode prog_8_method_4_code 41 = .ok (.ireturn, 1) := by decide +kernel
theorem dM_behind_0 : decode prog_8_method_5_code 0 = .ok (.iload_n 2, 1) := by decide +kernel
theorem dM_behind_1 : decode prog_8_method_5_code 1 = .ok (.aload_n 0, 1) := by decide +kernel
theorem dM_behind_2 : decode prog_8_method_5_code 2 = .ok (.getfield 13, 3) := by decide +kernel
theorem dM_behind_5 : decode prog_8_method_5_code 5 = .ok (.iload_n 1, 1) := by decide +kernel
theorem dM_behind_6 : decode prog_8_method_5_code 6 = .ok (.iaload, 1) := by decide +kernel
theorem dM_behind_7 : decode prog_8_method_5_code 7 = .ok (.if_icmp .lt 5, 3) := by decide +kernel
theorem dM_behind_10 : decode prog_8_method_5_code 10 = .ok (.iload_n 2, 1) := by decide +kernel
theorem dM_behind_11 : decode prog_8_method_5_code 11 = .ok (.ireturn, 1) := by decide +kernel
theorem dM_behind_12 : decode prog_8_method_5_code 12 = .ok (.aload_n 0, 1) := by decide +kernel
theorem dM_behind_13 : decode prog_8_method_5_code 13 = .ok (.iload_n 1, 1) := by decide +kernel
theorem dM_behind_14 : decode prog_8_method_5_code 14 = .ok (.iload_n 2, 1) := by decide +kernel
theorem dM_behind_15 : decode prog_8_method_5_code 15 = .ok (.invokevirtual 111, 3) := by decide +kernel
theorem dM_behind_18 : decode prog_8_method_5_code 18 = .ok (.istore_n 3, 1) := by decide +kernel
theorem dM_behind_19 : decode prog_8_method_5_code 19 = .ok (.iload_n 3, 1) := by decide +kernel
theorem dM_behind_20 : decode prog_8_method_5_code 20 = .ok (.iconst 0, 1) := by decide +kernel
theorem dM_behind_21 : decode prog_8_method_5_code 21 = .ok (.invokestatic 115, 3) := by decide +kernel
theorem dM_behind_24 : decode prog_8_method_5_code 24 = .ok (.istore 4, 2) := by decide +kernel
theorem dM_behind_26 : decode prog_8_method_5_code 26 = .ok (.iload 4, 2) := by decide +kernel
theorem dM_behind_28 : decode prog_8_method_5_code 28 = .ok (.ifCond .ne 15, 3) := by decide +kernel
theorem dM_behind_31 : decode prog_8_method_5_code 31 = .ok (.iload_n 3, 1) := by decide +kernel
theorem dM_behind_32 : decode prog_8_method_5_code 32 = .ok (.iconst 1, 1) := by decide +kernel
theorem dM_behind_33 : decode prog_8_method_5_code 33 = .ok (.invokestatic 115, 3) := by decide +kernel
theorem dM_behind_36 : decode prog_8_method_5_code 36 = .ok (.ifCond .ne 7, 3) := by decide +kernel
theorem dM_behind_39 : decode prog_8_method_5_code 39 = .ok (.iload_n 2, 1) := by decide +kernel
theorem dM_behind_40 : decode prog_8_method_5_code 40 = .ok (.iconst 1, 1) := by decide +kernel
theorem dM_behind_41 : decode prog_8_method_5_code 41 = .ok (.iadd, 1) := by decide +kernel
theorem dM_behind_42 : decode prog_8_method_5_code 42 = .ok (.ireturn, 1) := by decide +kernel
theorem dM_behind_43 : decode prog_8_method_5_code 43 = .ok (.iload_n 2, 1) := by decide +kernel
theorem dM_behind_44 : decode prog_8_method_5_code 44 = .ok (.istore 5, 2) := by decide +kernel
theorem dM_behind_46 : decode prog_8_method_5_code 46 = .ok (.iload 5, 2) := by decide +kernel
theorem dM_behind_48 : decode prog_8_method_5_code 48 = .ok (.aload_n 0, 1) := by decide +kernel
theorem dM_behind_49 : decode prog_8_method_5_code 49 = .ok (.getfield 13, 3) := by decide +kernel
theorem dM_behind_52 : decode prog_8_method_5_code 52 = .ok (.iload_n 1, 1) := by decide +kernel
theorem dM_behind_53 : decode prog_8_method_5_code 53 = .ok (.iaload, 1) := by decide +kernel
theorem dM_behind_54 : decode prog_8_method_5_code 54 = .ok (.if_icmp .ge 32, 3) := by decide +kernel
theorem dM_behind_57 : decode prog_8_method_5_code 57 = .ok (.aload_n 0, 1) := by decide +kernel
theorem dM_behind_58 : decode prog_8_method_5_code 58 = .ok (.iload_n 1, 1) := by decide +kernel
theorem dM_behind_59 : decode prog_8_method_5_code 59 = .ok (.iload 5, 2) := by decide +kernel
theorem dM_behind_61 : decode prog_8_method_5_code 61 = .ok (.invokevirtual 111, 3) := by decide +kernel
theorem dM_behind_64 : decode prog_8_method_5_code 64 = .ok (.iload 4, 2) := by decide +kernel
theorem dM_behind_66 : decode prog_8_method_5_code 66 = .ok (.ifCond .ne 7, 3) := by decide +kernel
theorem dM_behind_69 : decode prog_8_method_5_code 69 = .ok (.iconst 1, 1) := by decide +kernel
theorem dM_behind_70 : decode prog_8_method_5_code 70 = .ok (.goto 4, 3) := by decide +kernel
theorem dM_behind_73 : decode prog_8_method_5_code 73 = .ok (.iconst 0, 1) := by decide +kernel
theorem dM_behind_74 : decode prog_8_method_5_code 74 = .ok (.invokestatic 115, 3) := by decide +kernel
theorem dM_behind_77 : decode prog_8_method_5_code 77 = .ok (.ifCond .eq 9, 3) := by decide +kernel
theorem dM_behind_80 : decode prog_8_method_5_code 80 = .ok (.iinc 5 1, 3) := by decide +kernel
theorem dM_behind_83 : decode prog_8_method_5_code 83 = .ok (.goto (-37), 3) := by decide +kernel
theorem dM_behind_86 : decode prog_8_method_5_code 86 = .ok (.iload 5, 2) := by decide +kernel
theorem dM_behind_88 : decode prog_8_method_5_code 88 = .ok (.ireturn, 1) := by decide +kernel
theorem dM_kindOf_0 : decode prog_8_method_6_code 0 = .ok (.aload_n 0, 1) := by decide +kernel
theorem dM_kindOf_1 : decode prog_8_method_6_code 1 = .ok (.iload_n 1, 1) := by decide +kernel
theorem dM_kindOf_2 : decode prog_8_method_6_code 2 = .ok (.iload_n 2, 1) := by decide +kernel
theorem dM_kindOf_3 : decode prog_8_method_6_code 3 = .ok (.invokevirtual 111, 3) := by decide +kernel
theorem dM_kindOf_6 : decode prog_8_method_6_code 6 = .ok (.istore 4, 2) := by decide +kernel
theorem dM_kindOf_8 : decode prog_8_method_6_code 8 = .ok (.aload_n 0, 1) := by decide +kernel
theorem dM_kindOf_9 : decode prog_8_method_6_code 9 = .ok (.iload_n 1, 1) := by decide +kernel
theorem dM_kindOf_10 : decode prog_8_method_6_code 10 = .ok (.iload_n 2, 1) := by decide +kernel
theorem dM_kindOf_11 : decode prog_8_method_6_code 11 = .ok (.iconst 1, 1) := by decide +kernel
theorem dM_kindOf_12 : decode prog_8_method_6_code 12 = .ok (.iadd, 1) := by decide +kernel
theorem dM_kindOf_13 : decode prog_8_method_6_code 13 = .ok (.invokevirtual 111, 3) := by decide +kernel
theorem dM_kindOf_16 : decode prog_8_method_6_code 16 = .ok (.istore 5, 2) := by decide +kernel
theorem dM_kindOf_18 : decode prog_8_method_6_code 18 = .ok (.iload 4, 2) := by decide +kernel
theorem dM_kindOf_20 : decode prog_8_method_6_code 20 = .ok (.iconst 1, 1) := by decide +kernel
theorem dM_kindOf_21 : decode prog_8_method_6_code 21 = .ok (.invokestatic 115, 3) := by decide +kernel
theorem dM_kindOf_24 : decode prog_8_method_6_code 24 = .ok (.ifCond .eq 5, 3) := by decide +kernel
theorem dM_kindOf_27 : decode prog_8_method_6_code 27 = .ok (.iconst 2, 1) := by decide +kernel
theorem dM_kindOf_28 : decode prog_8_method_6_code 28 = .ok (.ireturn, 1) := by decide +kernel
theorem dM_kindOf_29 : decode prog_8_method_6_code 29 = .ok (.iload 4, 2) := by decide +kernel
theorem dM_kindOf_31 : decode prog_8_method_6_code 31 = .ok (.iconst 0, 1) := by decide +kernel
theorem dM_kindOf_32 : decode prog_8_method_6_code 32 = .ok (.invokestatic 115, 3) := by decide +kernel
theorem dM_kindOf_35 : decode prog_8_method_6_code 35 = .ok (.ifCond .eq 137, 3) := by decide +kernel
theorem dM_kindOf_38 : decode prog_8_method_6_code 38 = .ok (.iload_n 3, 1) := by decide +kernel
theorem dM_kindOf_39 : decode prog_8_method_6_code 39 = .ok (.iload_n 2, 1) := by decide +kernel
theorem dM_kindOf_40 : decode prog_8_method_6_code 40 = .ok (.isub, 1) := by decide +kernel
theorem dM_kindOf_41 : decode prog_8_method_6_code 41 = .ok (.iconst 2, 1) := by decide +kernel
theorem dM_kindOf_42 : decode prog_8_method_6_code 42 = .ok (.if_icmp .ne 19, 3) := by decide +kernel
theorem dM_kindOf_45 : decode prog_8_method_6_code 45 = .ok (.iload 4, 2) := by decide +kernel
theorem dM_kindOf_47 : decode prog_8_method_6_code 47 = .ok (.bipush 105, 2) := by decide +kernel
theorem dM_kindOf_49 : decode prog_8_method_6_code 49 = .ok (.if_icmp .ne 12, 3) := by decide +kernel
theorem dM_kindOf_52 : decode prog_8_method_6_code 52 = .ok (.iload 5, 2) := by decide +kernel
theorem dM_kindOf_54 : decode prog_8_method_6_code 54 = .ok (.bipush 102, 2) := by decide +kernel
theorem dM_kindOf_56 : decode prog_8_method_6_code 56 = .ok (.if_icmp .ne 5, 3) := by decide +kernel
theorem dM_kindOf_59 : decode prog_8_method_6_code 59 = .ok (.iconst 3, 1) := by decide +kernel
theorem dM_kindOf_60 : decode prog_8_method_6_code 60 = .ok (.ireturn, 1) := by decide +kernel
theorem dM_kindOf_61 : decode prog_8_method_6_code 61 = .ok (.aload_n 0, 1) := by decide +kernel
theorem dM_kindOf_62 : decode prog_8_method_6_code 62 = .ok (.iload_n 1, 1) := by decide +kernel
theorem dM_kindOf_63 : decode prog_8_method_6_code 63 = .ok (.iload_n 2, 1) := by decide +kernel
theorem dM_kindOf_64 : decode prog_8_method_6_code 64 = .ok (.iconst 2, 1) := by decide +kernel
theorem dM_kindOf_65 : decode prog_8_method_6_code 65 = .ok (.iadd, 1) := by decide +kernel
theorem dM_kindOf_66 : decode prog_8_method_6_code 66 = .ok (.invokevirtual 111, 3) := by decide +kernel
theorem dM_kindOf_69 : decode prog_8_method_6_code 69 = .ok (.istore 6, 2) := by decide +kernel
theorem dM_kindOf_71 : decode prog_8_method_6_code 71 = .ok (.aload_n 0, 1) := by decide +kernel
theorem dM_kindOf_72 : decode prog_8_method_6_code 72 = .ok (.iload_n 1, 1) := by decide +kernel
theorem dM_kindOf_73 : decode prog_8_method_6_code 73 = .ok (.iload_n 2, 1) := by decide +kernel
theorem dM_kindOf_74 : decode prog_8_method_6_code 74 = .ok (.iconst 3, 1) := by decide +kernel
theorem dM_kindOf_75 : decode prog_8_method_6_code 75 = .ok (.iadd, 1) := by decide +kernel
theorem dM_kindOf_76 : decode prog_8_method_6_code 76 = .ok (.invokevirtual 111, 3) := by decide +kernel
theorem dM_kindOf_79 : decode prog_8_method_6_code 79 = .ok (.istore 7, 2) := by decide +kernel
theorem dM_kindOf_81 : decode prog_8_method_6_code 81 = .ok (.iload_n 3, 1) := by decide +kernel
theorem dM_kindOf_82 : decode prog_8_method_6_code 82 = .ok (.iload_n 2, 1) := by decide +kernel
theorem dM_kindOf_83 : decode prog_8_method_6_code 83 = .ok (.isub, 1) := by decide +kernel
theorem dM_kindOf_84 : decode prog_8_method_6_code 84 = .ok (.iconst 4, 1) := by decide +kernel
theorem dM_kindOf_85 : decode prog_8_method_6_code 85 = .ok (.if_icmp .ne 33, 3) := by decide +kernel
theorem dM_kindOf_88 : decode prog_8_method_6_code 88 = .ok (.iload 4, 2) := by decide +kernel
theorem dM_kindOf_90 : decode prog_8_method_6_code 90 = .ok (.bipush 101, 2) := by decide +kernel
theorem dM_kindOf_92 : decode prog_8_method_6_code 92 = .ok (.if_icmp .ne 26, 3) := by decide +kernel
theorem dM_kindOf_95 : decode prog_8_method_6_code 95 = .ok (.iload 5, 2) := by decide +kernel
theorem dM_kindOf_97 : decode prog_8_method_6_code 97 = .ok (.bipush 108, 2) := by decide +kernel
theorem dM_kindOf_99 : decode prog_8_method_6_code 99 = .ok (.if_icmp .ne 19, 3) := by decide +kernel
theorem dM_kindOf_102 : decode prog_8_method_6_code 102 = .ok (.iload 6, 2) := by decide +kernel
theorem dM_kindOf_104 : decode prog_8_method_6_code 104 = .ok (.bipush 115, 2) := by decide +kernel
theorem dM_kindOf_106 : decode prog_8_method_6_code 106 = .ok (.if_icmp .ne 12, 3) := by decide +kernel
theorem dM_kindOf_109 : decode prog_8_method_6_code 109 = .ok (.iload 7, 2) := by decide +kernel
theorem dM_kindOf_111 : decode prog_8_method_6_code 111 = .ok (.bipush 101, 2) := by decide +kernel
theorem dM_kindOf_113 : decode prog_8_method_6_code 113 = .ok (.if_icmp .ne 5, 3) := by decide +kernel
theorem dM_kindOf_116 : decode prog_8_method_6_code 116 = .ok (.iconst 4, 1) := by decide +kernel
theorem dM_kindOf_117 : decode prog_8_method_6_code 117 = .ok (.ireturn, 1) := by decide +kernel
theorem dM_kindOf_118 : decode prog_8_method_6_code 118 = .ok (.iload_n 3, 1) := by decide +kernel
theorem dM_kindOf_119 : decode prog_8_method_6_code 119 = .ok (.iload_n 2, 1) := by decide +kernel
theorem dM_kindOf_120 : decode prog_8_method_6_code 120 = .ok (.isub, 1) := by decide +kernel
theorem dM_kindOf_121 : decode prog_8_method_6_code 121 = .ok (.iconst 5, 1) := by decide +kernel
theorem dM_kindOf_122 : decode prog_8_method_6_code 122 = .ok (.if_icmp .ne 48, 3) := by decide +kernel
theorem dM_kindOf_125 : decode prog_8_method_6_code 125 = .ok (.iload 4, 2) := by decide +kernel
theorem dM_kindOf_127 : decode prog_8_method_6_code 127 = .ok (.bipush 119, 2) := by decide +kernel
theorem dM_kindOf_129 : decode prog_8_method_6_code 129 = .ok (.if_icmp .ne 41, 3) := by decide +kernel
theorem dM_kindOf_132 : decode prog_8_method_6_code 132 = .ok (.iload 5, 2) := by decide +kernel
theorem dM_kindOf_134 : decode prog_8_method_6_code 134 = .ok (.bipush 104, 2) := by decide +kernel
theorem dM_kindOf_136 : decode prog_8_method_6_code 136 = .ok (.if_icmp .ne 34, 3) := by decide +kernel
theorem dM_kindOf_139 : decode prog_8_method_6_code 139 = .ok (.iload 6, 2) := by decide +kernel
theorem dM_kindOf_141 : decode prog_8_method_6_code 141 = .ok (.bipush 105, 2) := by decide +kernel
theorem dM_kindOf_143 : decode prog_8_method_6_code 143 = .ok (.if_icmp .ne 27, 3) := by decide +kernel
theorem dM_kindOf_146 : decode prog_8_method_6_code 146 = .ok (.iload 7, 2) := by decide +kernel
theorem dM_kindOf_148 : decode prog_8_method_6_code 148 = .ok (.bipush 108, 2) := by decide +kernel
theorem dM_kindOf_150 : decode prog_8_method_6_code 150 = .ok (.if_icmp .ne 20, 3) := by decide +kernel
theorem dM_kindOf_153 : decode prog_8_method_6_code 153 = .ok (.aload_n 0, 1) := by decide +kernel
theorem dM_kindOf_154 : decode prog_8_method_6_code 154 = .ok (.iload_n 1, 1) := by decide +kernel
theorem dM_kindOf_155 : decode prog_8_method_6_code 155 = .ok (.iload_n 2, 1) := by decide +kernel
theorem dM_kindOf_156 : decode prog_8_method_6_code 156 = .ok (.iconst 4, 1) := by decide +kernel
theorem dM_kindOf_157 : decode prog_8_method_6_code 157 = .ok (.iadd, 1) := by decide +kernel
theorem dM_kindOf_158 : decode prog_8_method_6_code 158 = .ok (.invokevirtual 111, 3) := by decide +kernel
theorem dM_kindOf_161 : decode prog_8_method_6_code 161 = .ok (.bipush 101, 2) := by decide +kernel
theorem dM_kindOf_163 : decode prog_8_method_6_code 163 = .ok (.if_icmp .ne 7, 3) := by decide +kernel
theorem dM_kindOf_166 : decode prog_8_method_6_code 166 = .ok (.iconst 5, 1) := by decide +kernel
theorem dM_kindOf_167 : decode prog_8_method_6_code 167 = .ok (.goto 4, 3) := by decide +kernel
theorem dM_kindOf_170 : decode prog_8_method_6_code 170 = .ok (.iconst 1, 1) := by decide +kernel
theorem dM_kindOf_171 : decode prog_8_method_6_code 171 = .ok (.ireturn, 1) := by decide +kernel
theorem dM_kindOf_172 : decode prog_8_method_6_code 172 = .ok (.iload 4, 2) := by decide +kernel
theorem dM_kindOf_174 : decode prog_8_method_6_code 174 = .ok (.lookupswitch 120 #[(40, 99), (41, 102), (42, 111), (43, 105), (45, 108), (59, 90), (60, 114), (61, 117), (123, 93), (125, 96)], 90) := by decide +kernel
theorem dM_kindOf_264 : decode prog_8_method_6_code 264 = .ok (.bipush 6, 2) := by decide +kernel
theorem dM_kindOf_266 : decode prog_8_method_6_code 266 = .ok (.ireturn, 1) := by decide +kernel
theorem dM_kindOf_267 : decode prog_8_method_6_code 267 = .ok (.bipush 7, 2) := by decide +kernel
theorem dM_kindOf_269 : decode prog_8_method_6_code 269 = .ok (.ireturn, 1) := by decide +kernel
theorem dM_kindOf_270 : decode prog_8_method_6_code 270 = .ok (.bipush 8, 2) := by decide +kernel
theorem dM_kindOf_272 : decode prog_8_method_6_code 272 = .ok (.ireturn, 1) := by decide +kernel
theorem dM_kindOf_273 : decode prog_8_method_6_code 273 = .ok (.bipush 9, 2) := by decide +kernel
theorem dM_kindOf_275 : decode prog_8_method_6_code 275 = .ok (.ireturn, 1) := by decide +kernel
theorem dM_kindOf_276 : decode prog_8_method_6_code 276 = .ok (.bipush 10, 2) := by decide +kernel
theorem dM_kindOf_278 : decode prog_8_method_6_code 278 = .ok (.ireturn, 1) := by decide +kernel
theorem dM_kindOf_279 : decode prog_8_method_6_code 279 = .ok (.bipush 11, 2) := by decide +kernel
theorem dM_kindOf_281 : decode prog_8_method_6_code 281 = .ok (.ireturn, 1) := by decide +kernel
theorem dM_kindOf_282 : decode prog_8_method_6_code 282 = .ok (.bipush 12, 2) := by decide +kernel
theorem dM_kindOf_284 : decode prog_8_method_6_code 284 = .ok (.ireturn, 1) := by decide +kernel
theorem dM_kindOf_285 : decode prog_8_method_6_code 285 = .ok (.bipush 13, 2) := by decide +kernel
theorem dM_kindOf_287 : decode prog_8_method_6_code 287 = .ok (.ireturn, 1) := by decide +kernel
theorem dM_kindOf_288 : decode prog_8_method_6_code 288 = .ok (.bipush 14, 2) := by decide +kernel
theorem dM_kindOf_290 : decode prog_8_method_6_code 290 = .ok (.ireturn, 1) := by decide +kernel
theorem dM_kindOf_291 : decode prog_8_method_6_code 291 = .ok (.bipush 15, 2) := by decide +kernel
theorem dM_kindOf_293 : decode prog_8_method_6_code 293 = .ok (.ireturn, 1) := by decide +kernel
theorem dM_kindOf_294 : decode prog_8_method_6_code 294 = .ok (.iload_n 2, 1) := by decide +kernel
theorem dM_kindOf_295 : decode prog_8_method_6_code 295 = .ok (.aload_n 0, 1) := by decide +kernel
theorem dM_kindOf_296 : decode prog_8_method_6_code 296 = .ok (.getfield 13, 3) := by decide +kernel
theorem dM_kindOf_299 : decode prog_8_method_6_code 299 = .ok (.iload_n 1, 1) := by decide +kernel
theorem dM_kindOf_300 : decode prog_8_method_6_code 300 = .ok (.iaload, 1) := by decide +kernel
theorem dM_kindOf_301 : decode prog_8_method_6_code 301 = .ok (.if_icmp .ge 8, 3) := by decide +kernel
theorem dM_kindOf_304 : decode prog_8_method_6_code 304 = .ok (.bipush 16, 2) := by decide +kernel
theorem dM_kindOf_306 : decode prog_8_method_6_code 306 = .ok (.goto 5, 3) := by decide +kernel
theorem dM_kindOf_309 : decode prog_8_method_6_code 309 = .ok (.bipush 17, 2) := by decide +kernel
theorem dM_kindOf_311 : decode prog_8_method_6_code 311 = .ok (.ireturn, 1) := by decide +kernel
theorem dM_cut_0 : decode prog_8_method_7_code 0 = .ok (.aload_n 0, 1) := by decide +kernel
theorem dM_cut_1 : decode prog_8_method_7_code 1 = .ok (.iconst 0, 1) := by decide +kernel
theorem dM_cut_2 : decode prog_8_method_7_code 2 = .ok (.putfield 119, 3) := by decide +kernel
theorem dM_cut_5 : decode prog_8_method_7_code 5 = .ok (.iconst 0, 1) := by decide +kernel
theorem dM_cut_6 : decode prog_8_method_7_code 6 = .ok (.istore_n 2, 1) := by decide +kernel
theorem dM_cut_7 : decode prog_8_method_7_code 7 = .ok (.iconst 0, 1) := by decide +kernel
theorem dM_cut_8 : decode prog_8_method_7_code 8 = .ok (.istore_n 3, 1) := by decide +kernel
theorem dM_cut_9 : decode prog_8_method_7_code 9 = .ok (.iload_n 3, 1) := by decide +kernel
theorem dM_cut_10 : decode prog_8_method_7_code 10 = .ok (.bipush 17, 2) := by decide +kernel
theorem dM_cut_12 : decode prog_8_method_7_code 12 = .ok (.if_icmp .eq 74, 3) := by decide +kernel
theorem dM_cut_15 : decode prog_8_method_7_code 15 = .ok (.aload_n 0, 1) := by decide +kernel
theorem dM_cut_16 : decode prog_8_method_7_code 16 = .ok (.iload_n 1, 1) := by decide +kernel
theorem dM_cut_17 : decode prog_8_method_7_code 17 = .ok (.iload_n 2, 1) := by decide +kernel
theorem dM_cut_18 : decode prog_8_method_7_code 18 = .ok (.invokevirtual 123, 3) := by decide +kernel
theorem dM_cut_21 : decode prog_8_method_7_code 21 = .ok (.istore_n 2, 1) := by decide +kernel
theorem dM_cut_22 : decode prog_8_method_7_code 22 = .ok (.aload_n 0, 1) := by decide +kernel
theorem dM_cut_23 : decode prog_8_method_7_code 23 = .ok (.iload_n 1, 1) := by decide +kernel
theorem dM_cut_24 : decode prog_8_method_7_code 24 = .ok (.iload_n 2, 1) := by decide +kernel
theorem dM_cut_25 : decode prog_8_method_7_code 25 = .ok (.invokevirtual 127, 3) := by decide +kernel
theorem dM_cut_28 : decode prog_8_method_7_code 28 = .ok (.istore 4, 2) := by decide +kernel
theorem dM_cut_30 : decode prog_8_method_7_code 30 = .ok (.aload_n 0, 1) := by decide +kernel
theorem dM_cut_31 : decode prog_8_method_7_code 31 = .ok (.iload_n 1, 1) := by decide +kernel
theorem dM_cut_32 : decode prog_8_method_7_code 32 = .ok (.iload_n 2, 1) := by decide +kernel
theorem dM_cut_33 : decode prog_8_method_7_code 33 = .ok (.iload 4, 2) := by decide +kernel
theorem dM_cut_35 : decode prog_8_method_7_code 35 = .ok (.invokevirtual 130, 3) := by decide +kernel
theorem dM_cut_38 : decode prog_8_method_7_code 38 = .ok (.istore_n 3, 1) := by decide +kernel
theorem dM_cut_39 : decode prog_8_method_7_code 39 = .ok (.aload_n 0, 1) := by decide +kernel
theorem dM_cut_40 : decode prog_8_method_7_code 40 = .ok (.getfield 56, 3) := by decide +kernel
theorem dM_cut_43 : decode prog_8_method_7_code 43 = .ok (.aload_n 0, 1) := by decide +kernel
theorem dM_cut_44 : decode prog_8_method_7_code 44 = .ok (.getfield 119, 3) := by decide +kernel
theorem dM_cut_47 : decode prog_8_method_7_code 47 = .ok (.iload_n 3, 1) := by decide +kernel
theorem dM_cut_48 : decode prog_8_method_7_code 48 = .ok (.iastore, 1) := by decide +kernel
theorem dM_cut_49 : decode prog_8_method_7_code 49 = .ok (.aload_n 0, 1) := by decide +kernel
theorem dM_cut_50 : decode prog_8_method_7_code 50 = .ok (.getfield 59, 3) := by decide +kernel
theorem dM_cut_53 : decode prog_8_method_7_code 53 = .ok (.aload_n 0, 1) := by decide +kernel
theorem dM_cut_54 : decode prog_8_method_7_code 54 = .ok (.getfield 119, 3) := by decide +kernel
theorem dM_cut_57 : decode prog_8_method_7_code 57 = .ok (.iload_n 2, 1) := by decide +kernel
theorem dM_cut_58 : decode prog_8_method_7_code 58 = .ok (.iastore, 1) := by decide +kernel
theorem dM_cut_59 : decode prog_8_method_7_code 59 = .ok (.aload_n 0, 1) := by decide +kernel
theorem dM_cut_60 : decode prog_8_method_7_code 60 = .ok (.getfield 62, 3) := by decide +kernel
theorem dM_cut_63 : decode prog_8_method_7_code 63 = .ok (.aload_n 0, 1) := by decide +kernel
theorem dM_cut_64 : decode prog_8_method_7_code 64 = .ok (.getfield 119, 3) := by decide +kernel
theorem dM_cut_67 : decode prog_8_method_7_code 67 = .ok (.iload 4, 2) := by decide +kernel
theorem dM_cut_69 : decode prog_8_method_7_code 69 = .ok (.iastore, 1) := by decide +kernel
theorem dM_cut_70 : decode prog_8_method_7_code 70 = .ok (.aload_n 0, 1) := by decide +kernel
theorem dM_cut_71 : decode prog_8_method_7_code 71 = .ok (.dup, 1) := by decide +kernel
theorem dM_cut_72 : decode prog_8_method_7_code 72 = .ok (.getfield 119, 3) := by decide +kernel
theorem dM_cut_75 : decode prog_8_method_7_code 75 = .ok (.iconst 1, 1) := by decide +kernel
theorem dM_cut_76 : decode prog_8_method_7_code 76 = .ok (.iadd, 1) := by decide +kernel
theorem dM_cut_77 : decode prog_8_method_7_code 77 = .ok (.putfield 119, 3) := by decide +kernel
theorem dM_cut_80 : decode prog_8_method_7_code 80 = .ok (.iload 4, 2) := by decide +kernel
theorem dM_cut_82 : decode prog_8_method_7_code 82 = .ok (.istore_n 2, 1) := by decide +kernel
theorem dM_cut_83 : decode prog_8_method_7_code 83 = .ok (.goto (-74), 3) := by decide +kernel
theorem dM_cut_86 : decode prog_8_method_7_code 86 = .ok (.return_, 1) := by decide +kernel
theorem dM_current_0 : decode prog_8_method_8_code 0 = .ok (.aload_n 0, 1) := by decide +kernel
theorem dM_current_1 : decode prog_8_method_8_code 1 = .ok (.getfield 56, 3) := by decide +kernel
theorem dM_current_4 : decode prog_8_method_8_code 4 = .ok (.aload_n 0, 1) := by decide +kernel
theorem dM_current_5 : decode prog_8_method_8_code 5 = .ok (.getfield 134, 3) := by decide +kernel
theorem dM_current_8 : decode prog_8_method_8_code 8 = .ok (.iaload, 1) := by decide +kernel
theorem dM_current_9 : decode prog_8_method_8_code 9 = .ok (.ireturn, 1) := by decide +kernel
theorem dM_starts_0 : decode prog_8_method_9_code 0 = .ok (.iload_n 0, 1) := by decide +kernel
theorem dM_starts_1 : decode prog_8_method_9_code 1 = .ok (.iconst 1, 1) := by decide +kernel
theorem dM_starts_2 : decode prog_8_method_9_code 2 = .ok (.if_icmp .eq 42, 3) := by decide +kernel
theorem dM_starts_5 : decode prog_8_method_9_code 5 = .ok (.iload_n 0, 1) := by decide +kernel
theorem dM_starts_6 : decode prog_8_method_9_code 6 = .ok (.iconst 2, 1) := by decide +kernel
theorem dM_starts_7 : decode prog_8_method_9_code 7 = .ok (.if_icmp .eq 37, 3) := by decide +kernel
theorem dM_starts_10 : decode prog_8_method_9_code 10 = .ok (.iload_n 0, 1) := by decide +kernel
theorem dM_starts_11 : decode prog_8_method_9_code 11 = .ok (.iconst 3, 1) := by decide +kernel
theorem dM_starts_12 : decode prog_8_method_9_code 12 = .ok (.if_icmp .eq 32, 3) := by decide +kernel
theorem dM_starts_15 : decode prog_8_method_9_code 15 = .ok (.iload_n 0, 1) := by decide +kernel
theorem dM_starts_16 : decode prog_8_method_9_code 16 = .ok (.iconst 5, 1) := by decide +kernel
theorem dM_starts_17 : decode prog_8_method_9_code 17 = .ok (.if_icmp .eq 27, 3) := by decide +kernel
theorem dM_starts_20 : decode prog_8_method_9_code 20 = .ok (.iload_n 0, 1) := by decide +kernel
theorem dM_starts_21 : decode prog_8_method_9_code 21 = .ok (.bipush 6, 2) := by decide +kernel
theorem dM_starts_23 : decode prog_8_method_9_code 23 = .ok (.if_icmp .eq 21, 3) := by decide +kernel
theorem dM_starts_26 : decode prog_8_method_9_code 26 = .ok (.iload_n 0, 1) := by decide +kernel
theorem dM_starts_27 : decode prog_8_method_9_code 27 = .ok (.bipush 7, 2) := by decide +kernel
theorem dM_starts_29 : decode prog_8_method_9_code 29 = .ok (.if_icmp .eq 15, 3) := by decide +kernel
theorem dM_starts_32 : decode prog_8_method_9_code 32 = .ok (.iload_n 0, 1) := by decide +kernel
theorem dM_starts_33 : decode prog_8_method_9_code 33 = .ok (.bipush 9, 2) := by decide +kernel
theorem dM_starts_35 : decode prog_8_method_9_code 35 = .ok (.if_icmp .eq 9, 3) := by decide +kernel
theorem dM_starts_38 : decode prog_8_method_9_code 38 = .ok (.iload_n 0, 1) := by decide +kernel
theorem dM_starts_39 : decode prog_8_method_9_code 39 = .ok (.bipush 12, 2) := by decide +kernel
theorem dM_starts_41 : decode prog_8_method_9_code 41 = .ok (.if_icmp .ne 7, 3) := by decide +kernel
theorem dM_starts_44 : decode prog_8_method_9_code 44 = .ok (.iconst 1, 1) := by decide +kernel
theorem dM_starts_45 : decode prog_8_method_9_code 45 = .ok (.goto 4, 3) := by decide +kernel
theorem dM_starts_48 : decode prog_8_method_9_code 48 = .ok (.iconst 0, 1) := by decide +kernel
theorem dM_starts_49 : decode prog_8_method_9_code 49 = .ok (.ireturn, 1) := by decide +kernel
theorem dM_begins_0 : decode prog_8_method_10_code 0 = .ok (.aload_n 0, 1) := by decide +kernel
theorem dM_begins_1 : decode prog_8_method_10_code 1 = .ok (.invokevirtual 137, 3) := by decide +kernel
theorem dM_begins_4 : decode prog_8_method_10_code 4 = .ok (.istore_n 2, 1) := by decide +kernel
theorem dM_begins_5 : decode prog_8_method_10_code 5 = .ok (.iload_n 2, 1) := by decide +kernel
theorem dM_begins_6 : decode prog_8_method_10_code 6 = .ok (.invokestatic 141, 3) := by decide +kernel
theorem dM_begins_9 : decode prog_8_method_10_code 9 = .ok (.ifCond .eq 29, 3) := by decide +kernel
theorem dM_begins_12 : decode prog_8_method_10_code 12 = .ok (.iload_n 1, 1) := by decide +kernel
theorem dM_begins_13 : decode prog_8_method_10_code 13 = .ok (.bipush 6, 2) := by decide +kernel
theorem dM_begins_15 : decode prog_8_method_10_code 15 = .ok (.if_icmp .ne 19, 3) := by decide +kernel
theorem dM_begins_18 : decode prog_8_method_10_code 18 = .ok (.iload_n 2, 1) := by decide +kernel
theorem dM_begins_19 : decode prog_8_method_10_code 19 = .ok (.iconst 3, 1) := by decide +kernel
theorem dM_begins_20 : decode prog_8_method_10_code 20 = .ok (.if_icmp .eq 18, 3) := by decide +kernel
theorem dM_begins_23 : decode prog_8_method_10_code 23 = .ok (.iload_n 2, 1) := by decide +kernel
theorem dM_begins_24 : decode prog_8_method_10_code 24 = .ok (.iconst 5, 1) := by decide +kernel
theorem dM_begins_25 : decode prog_8_method_10_code 25 = .ok (.if_icmp .eq 13, 3) := by decide +kernel
theorem dM_begins_28 : decode prog_8_method_10_code 28 = .ok (.iload_n 2, 1) := by decide +kernel
theorem dM_begins_29 : decode prog_8_method_10_code 29 = .ok (.bipush 7, 2) := by decide +kernel
theorem dM_begins_31 : decode prog_8_method_10_code 31 = .ok (.if_icmp .eq 7, 3) := by decide +kernel
theorem dM_begins_34 : decode prog_8_method_10_code 34 = .ok (.iconst 1, 1) := by decide +kernel
theorem dM_begins_35 : decode prog_8_method_10_code 35 = .ok (.goto 4, 3) := by decide +kernel
theorem dM_begins_38 : decode prog_8_method_10_code 38 = .ok (.iconst 0, 1) := by decide +kernel
theorem dM_begins_39 : decode prog_8_method_10_code 39 = .ok (.ireturn, 1) := by decide +kernel
theorem dM_make_0 : decode prog_8_method_11_code 0 = .ok (.aload_n 0, 1) := by decide +kernel
theorem dM_make_1 : decode prog_8_method_11_code 1 = .ok (.getfield 65, 3) := by decide +kernel
theorem dM_make_4 : decode prog_8_method_11_code 4 = .ok (.aload_n 0, 1) := by decide +kernel
theorem dM_make_5 : decode prog_8_method_11_code 5 = .ok (.getfield 145, 3) := by decide +kernel
theorem dM_make_8 : decode prog_8_method_11_code 8 = .ok (.iload_n 1, 1) := by decide +kernel
theorem dM_make_9 : decode prog_8_method_11_code 9 = .ok (.iastore, 1) := by decide +kernel
theorem dM_make_10 : decode prog_8_method_11_code 10 = .ok (.aload_n 0, 1) := by decide +kernel
theorem dM_make_11 : decode prog_8_method_11_code 11 = .ok (.getfield 68, 3) := by decide +kernel
theorem dM_make_14 : decode prog_8_method_11_code 14 = .ok (.aload_n 0, 1) := by decide +kernel
theorem dM_make_15 : decode prog_8_method_11_code 15 = .ok (.getfield 145, 3) := by decide +kernel
theorem dM_make_18 : decode prog_8_method_11_code 18 = .ok (.iload_n 2, 1) := by decide +kernel
theorem dM_make_19 : decode prog_8_method_11_code 19 = .ok (.iastore, 1) := by decide +kernel
theorem dM_make_20 : decode prog_8_method_11_code 20 = .ok (.aload_n 0, 1) := by decide +kernel
theorem dM_make_21 : decode prog_8_method_11_code 21 = .ok (.getfield 74, 3) := by decide +kernel
theorem dM_make_24 : decode prog_8_method_11_code 24 = .ok (.aload_n 0, 1) := by decide +kernel
theorem dM_make_25 : decode prog_8_method_11_code 25 = .ok (.getfield 145, 3) := by decide +kernel
theorem dM_make_28 : decode prog_8_method_11_code 28 = .ok (.iload_n 3, 1) := by decide +kernel
theorem dM_make_29 : decode prog_8_method_11_code 29 = .ok (.iastore, 1) := by decide +kernel
theorem dM_make_30 : decode prog_8_method_11_code 30 = .ok (.aload_n 0, 1) := by decide +kernel
theorem dM_make_31 : decode prog_8_method_11_code 31 = .ok (.getfield 71, 3) := by decide +kernel
theorem dM_make_34 : decode prog_8_method_11_code 34 = .ok (.aload_n 0, 1) := by decide +kernel
theorem dM_make_35 : decode prog_8_method_11_code 35 = .ok (.getfield 145, 3) := by decide +kernel
theorem dM_make_38 : decode prog_8_method_11_code 38 = .ok (.iload 4, 2) := by decide +kernel
theorem dM_make_40 : decode prog_8_method_11_code 40 = .ok (.iastore, 1) := by decide +kernel
theorem dM_make_41 : decode prog_8_method_11_code 41 = .ok (.aload_n 0, 1) := by decide +kernel
theorem dM_make_42 : decode prog_8_method_11_code 42 = .ok (.getfield 77, 3) := by decide +kernel
theorem dM_make_45 : decode prog_8_method_11_code 45 = .ok (.aload_n 0, 1) := by decide +kernel
theorem dM_make_46 : decode prog_8_method_11_code 46 = .ok (.getfield 145, 3) := by decide +kernel
theorem dM_make_49 : decode prog_8_method_11_code 49 = .ok (.iload 5, 2) := by decide +kernel
theorem dM_make_51 : decode prog_8_method_11_code 51 = .ok (.iastore, 1) := by decide +kernel
theorem dM_make_52 : decode prog_8_method_11_code 52 = .ok (.aload_n 0, 1) := by decide +kernel
theorem dM_make_53 : decode prog_8_method_11_code 53 = .ok (.getfield 80, 3) := by decide +kernel
theorem dM_make_56 : decode prog_8_method_11_code 56 = .ok (.aload_n 0, 1) := by decide +kernel
theorem dM_make_57 : decode prog_8_method_11_code 57 = .ok (.getfield 145, 3) := by decide +kernel
theorem dM_make_60 : decode prog_8_method_11_code 60 = .ok (.iconst 0, 1) := by decide +kernel
theorem dM_make_61 : decode prog_8_method_11_code 61 = .ok (.iastore, 1) := by decide +kernel
theorem dM_make_62 : decode prog_8_method_11_code 62 = .ok (.aload_n 0, 1) := by decide +kernel
theorem dM_make_63 : decode prog_8_method_11_code 63 = .ok (.getfield 83, 3) := by decide +kernel
theorem dM_make_66 : decode prog_8_method_11_code 66 = .ok (.aload_n 0, 1) := by decide +kernel
theorem dM_make_67 : decode prog_8_method_11_code 67 = .ok (.getfield 145, 3) := by decide +kernel
theorem dM_make_70 : decode prog_8_method_11_code 70 = .ok (.iconst (-1), 1) := by decide +kernel
theorem dM_make_71 : decode prog_8_method_11_code 71 = .ok (.iastore, 1) := by decide +kernel
theorem dM_make_72 : decode prog_8_method_11_code 72 = .ok (.aload_n 0, 1) := by decide +kernel
theorem dM_make_73 : decode prog_8_method_11_code 73 = .ok (.getfield 86, 3) := by decide +kernel
theorem dM_make_76 : decode prog_8_method_11_code 76 = .ok (.aload_n 0, 1) := by decide +kernel
theorem dM_make_77 : decode prog_8_method_11_code 77 = .ok (.getfield 145, 3) := by decide +kernel
theorem dM_make_80 : decode prog_8_method_11_code 80 = .ok (.iconst (-1), 1) := by decide +kernel
theorem dM_make_81 : decode prog_8_method_11_code 81 = .ok (.iastore, 1) := by decide +kernel
theorem dM_make_82 : decode prog_8_method_11_code 82 = .ok (.aload_n 0, 1) := by decide +kernel
theorem dM_make_83 : decode prog_8_method_11_code 83 = .ok (.getfield 89, 3) := by decide +kernel
theorem dM_make_86 : decode prog_8_method_11_code 86 = .ok (.aload_n 0, 1) := by decide +kernel
theorem dM_make_87 : decode prog_8_method_11_code 87 = .ok (.getfield 145, 3) := by decide +kernel
theorem dM_make_90 : decode prog_8_method_11_code 90 = .ok (.iconst (-1), 1) := by decide +kernel
theorem dM_make_91 : decode prog_8_method_11_code 91 = .ok (.iastore, 1) := by decide +kernel
theorem dM_make_92 : decode prog_8_method_11_code 92 = .ok (.aload_n 0, 1) := by decide +kernel
theorem dM_make_93 : decode prog_8_method_11_code 93 = .ok (.getfield 95, 3) := by decide +kernel
theorem dM_make_96 : decode prog_8_method_11_code 96 = .ok (.aload_n 0, 1) := by decide +kernel
theorem dM_make_97 : decode prog_8_method_11_code 97 = .ok (.getfield 148, 3) := by decide +kernel
theorem dM_make_100 : decode prog_8_method_11_code 100 = .ok (.aload_n 0, 1) := by decide +kernel
theorem dM_make_101 : decode prog_8_method_11_code 101 = .ok (.getfield 145, 3) := by decide +kernel
theorem dM_make_104 : decode prog_8_method_11_code 104 = .ok (.iastore, 1) := by decide +kernel
theorem dM_make_105 : decode prog_8_method_11_code 105 = .ok (.aload_n 0, 1) := by decide +kernel
theorem dM_make_106 : decode prog_8_method_11_code 106 = .ok (.dup, 1) := by decide +kernel
theorem dM_make_107 : decode prog_8_method_11_code 107 = .ok (.getfield 148, 3) := by decide +kernel
theorem dM_make_110 : decode prog_8_method_11_code 110 = .ok (.iconst 1, 1) := by decide +kernel
theorem dM_make_111 : decode prog_8_method_11_code 111 = .ok (.iadd, 1) := by decide +kernel
theorem dM_make_112 : decode prog_8_method_11_code 112 = .ok (.putfield 148, 3) := by decide +kernel
theorem dM_make_115 : decode prog_8_method_11_code 115 = .ok (.aload_n 0, 1) := by decide +kernel
theorem dM_make_116 : decode prog_8_method_11_code 116 = .ok (.dup, 1) := by decide +kernel
theorem dM_make_117 : decode prog_8_method_11_code 117 = .ok (.getfield 145, 3) := by decide +kernel
theorem dM_make_120 : decode prog_8_method_11_code 120 = .ok (.iconst 1, 1) := by decide +kernel
theorem dM_make_121 : decode prog_8_method_11_code 121 = .ok (.iadd, 1) := by decide +kernel
theorem dM_make_122 : decode prog_8_method_11_code 122 = .ok (.putfield 145, 3) := by decide +kernel
theorem dM_make_125 : decode prog_8_method_11_code 125 = .ok (.return_, 1) := by decide +kernel
theorem dM_take_0 : decode prog_8_method_12_code 0 = .ok (.aload_n 0, 1) := by decide +kernel
theorem dM_take_1 : decode prog_8_method_12_code 1 = .ok (.aload_n 0, 1) := by decide +kernel
theorem dM_take_2 : decode prog_8_method_12_code 2 = .ok (.getfield 56, 3) := by decide +kernel
theorem dM_take_5 : decode prog_8_method_12_code 5 = .ok (.aload_n 0, 1) := by decide +kernel
theorem dM_take_6 : decode prog_8_method_12_code 6 = .ok (.getfield 134, 3) := by decide +kernel
theorem dM_take_9 : decode prog_8_method_12_code 9 = .ok (.iaload, 1) := by decide +kernel
theorem dM_take_10 : decode prog_8_method_12_code 10 = .ok (.aload_n 0, 1) := by decide +kernel
theorem dM_take_11 : decode prog_8_method_12_code 11 = .ok (.getfield 151, 3) := by decide +kernel
theorem dM_take_14 : decode prog_8_method_12_code 14 = .ok (.aload_n 0, 1) := by decide +kernel
theorem dM_take_15 : decode prog_8_method_12_code 15 = .ok (.getfield 59, 3) := by decide +kernel
theorem dM_take_18 : decode prog_8_method_12_code 18 = .ok (.aload_n 0, 1) := by decide +kernel
theorem dM_take_19 : decode prog_8_method_12_code 19 = .ok (.getfield 134, 3) := by decide +kernel
theorem dM_take_22 : decode prog_8_method_12_code 22 = .ok (.iaload, 1) := by decide +kernel
theorem dM_take_23 : decode prog_8_method_12_code 23 = .ok (.aload_n 0, 1) := by decide +kernel
theorem dM_take_24 : decode prog_8_method_12_code 24 = .ok (.getfield 62, 3) := by decide +kernel
theorem dM_take_27 : decode prog_8_method_12_code 27 = .ok (.aload_n 0, 1) := by decide +kernel
theorem dM_take_28 : decode prog_8_method_12_code 28 = .ok (.getfield 134, 3) := by decide +kernel
theorem dM_take_31 : decode prog_8_method_12_code 31 = .ok (.iaload, 1) := by decide +kernel
theorem dM_take_32 : decode prog_8_method_12_code 32 = .ok (.iconst 0, 1) := by decide +kernel
theorem dM_take_33 : decode prog_8_method_12_code 33 = .ok (.invokevirtual 154, 3) := by decide +kernel
theorem dM_take_36 : decode prog_8_method_12_code 36 = .ok (.aload_n 0, 1) := by decide +kernel
theorem dM_take_37 : decode prog_8_method_12_code 37 = .ok (.aload_n 0, 1) := by decide +kernel
theorem dM_take_38 : decode prog_8_method_12_code 38 = .ok (.getfield 62, 3) := by decide +kernel
theorem dM_take_41 : decode prog_8_method_12_code 41 = .ok (.aload_n 0, 1) := by decide +kernel
theorem dM_take_42 : decode prog_8_method_12_code 42 = .ok (.getfield 134, 3) := by decide +kernel
theorem dM_take_45 : decode prog_8_method_12_code 45 = .ok (.iaload, 1) := by decide +kernel
theorem dM_take_46 : decode prog_8_method_12_code 46 = .ok (.putfield 151, 3) := by decide +kernel
theorem dM_take_49 : decode prog_8_method_12_code 49 = .ok (.aload_n 0, 1) := by decide +kernel
theorem dM_take_50 : decode prog_8_method_12_code 50 = .ok (.dup, 1) := by decide +kernel
theorem dM_take_51 : decode prog_8_method_12_code 51 = .ok (.getfield 134, 3) := by decide +kernel
theorem dM_take_54 : decode prog_8_method_12_code 54 = .ok (.iconst 1, 1) := by decide +kernel
theorem dM_take_55 : decode prog_8_method_12_code 55 = .ok (.iadd, 1) := by decide +kernel
theorem dM_take_56 : decode prog_8_method_12_code 56 = .ok (.putfield 134, 3) := by decide +kernel
theorem dM_take_59 : decode prog_8_method_12_code 59 = .ok (.return_, 1) := by decide +kernel
theorem dM_lack_0 : decode prog_8_method_13_code 0 = .ok (.aload_n 0, 1) := by decide +kernel
theorem dM_lack_1 : decode prog_8_method_13_code 1 = .ok (.iload_n 1, 1) := by decide +kernel
theorem dM_lack_2 : decode prog_8_method_13_code 2 = .ok (.aload_n 0, 1) := by decide +kernel
theorem dM_lack_3 : decode prog_8_method_13_code 3 = .ok (.getfield 151, 3) := by decide +kernel
theorem dM_lack_6 : decode prog_8_method_13_code 6 = .ok (.aload_n 0, 1) := by decide +kernel
theorem dM_lack_7 : decode prog_8_method_13_code 7 = .ok (.getfield 151, 3) := by decide +kernel
theorem dM_lack_10 : decode prog_8_method_13_code 10 = .ok (.aload_n 0, 1) := by decide +kernel
theorem dM_lack_11 : decode prog_8_method_13_code 11 = .ok (.getfield 151, 3) := by decide +kernel
theorem dM_lack_14 : decode prog_8_method_13_code 14 = .ok (.iload_n 2, 1) := by decide +kernel
theorem dM_lack_15 : decode prog_8_method_13_code 15 = .ok (.invokevirtual 154, 3) := by decide +kernel
theorem dM_lack_18 : decode prog_8_method_13_code 18 = .ok (.return_, 1) := by decide +kernel
theorem dM_expect_0 : decode prog_8_method_14_code 0 = .ok (.aload_n 0, 1) := by decide +kernel
theorem dM_expect_1 : decode prog_8_method_14_code 1 = .ok (.invokevirtual 137, 3) := by decide +kernel
theorem dM_expect_4 : decode prog_8_method_14_code 4 = .ok (.iload_n 1, 1) := by decide +kernel
theorem dM_expect_5 : decode prog_8_method_14_code 5 = .ok (.if_icmp .ne 10, 3) := by decide +kernel
theorem dM_expect_8 : decode prog_8_method_14_code 8 = .ok (.aload_n 0, 1) := by decide +kernel
theorem dM_expect_9 : decode prog_8_method_14_code 9 = .ok (.invokevirtual 158, 3) := by decide +kernel
theorem dM_expect_12 : decode prog_8_method_14_code 12 = .ok (.goto 9, 3) := by decide +kernel
theorem dM_expect_15 : decode prog_8_method_14_code 15 = .ok (.aload_n 0, 1) := by decide +kernel
theorem dM_expect_16 : decode prog_8_method_14_code 16 = .ok (.iload_n 1, 1) := by decide +kernel
theorem dM_expect_17 : decode prog_8_method_14_code 17 = .ok (.iconst 2, 1) := by decide +kernel
theorem dM_expect_18 : decode prog_8_method_14_code 18 = .ok (.invokevirtual 161, 3) := by decide +kernel
theorem dM_expect_21 : decode prog_8_method_14_code 21 = .ok (.return_, 1) := by decide +kernel
theorem dM_leaveOut_0 : decode prog_8_method_15_code 0 = .ok (.aload_n 0, 1) := by decide +kernel
theorem dM_leaveOut_1 : decode prog_8_method_15_code 1 = .ok (.getfield 17, 3) := by decide +kernel
theorem dM_leaveOut_4 : decode prog_8_method_15_code 4 = .ok (.bipush 61, 2) := by decide +kernel
theorem dM_leaveOut_6 : decode prog_8_method_15_code 6 = .ok (.iload_n 1, 1) := by decide +kernel
theorem dM_leaveOut_7 : decode prog_8_method_15_code 7 = .ok (.imul, 1) := by decide +kernel
theorem dM_leaveOut_8 : decode prog_8_method_15_code 8 = .ok (.aload_n 0, 1) := by decide +kernel
theorem dM_leaveOut_9 : decode prog_8_method_15_code 9 = .ok (.getfield 59, 3) := by decide +kernel
theorem dM_leaveOut_12 : decode prog_8_method_15_code 12 = .ok (.aload_n 0, 1) := by decide +kernel
theorem dM_leaveOut_13 : decode prog_8_method_15_code 13 = .ok (.getfield 134, 3) := by decide +kernel
theorem dM_leaveOut_16 : decode prog_8_method_15_code 16 = .ok (.iaload, 1) := by decide +kernel
theorem dM_leaveOut_17 : decode prog_8_method_15_code 17 = .ok (.iadd, 1) := by decide +kernel
theorem dM_leaveOut_18 : decode prog_8_method_15_code 18 = .ok (.aload_n 0, 1) := by decide +kernel
theorem dM_leaveOut_19 : decode prog_8_method_15_code 19 = .ok (.invokevirtual 137, 3) := by decide +kernel
theorem dM_leaveOut_22 : decode prog_8_method_15_code 22 = .ok (.invokestatic 141, 3) := by decide +kernel
theorem dM_leaveOut_25 : decode prog_8_method_15_code 25 = .ok (.ifCond .eq 7, 3) := by decide +kernel
theorem dM_leaveOut_28 : decode prog_8_method_15_code 28 = .ok (.iconst 3, 1) := by decide +kernel
theorem dM_leaveOut_29 : decode prog_8_method_15_code 29 = .ok (.goto 4, 3) := by decide +kernel
theorem dM_leaveOut_32 : decode prog_8_method_15_code 32 = .ok (.iconst 1, 1) := by decide +kernel
theorem dM_leaveOut_33 : decode prog_8_method_15_code 33 = .ok (.iastore, 1) := by decide +kernel
theorem dM_leaveOut_34 : decode prog_8_method_15_code 34 = .ok (.aload_n 0, 1) := by decide +kernel
theorem dM_leaveOut_35 : decode prog_8_method_15_code 35 = .ok (.dup, 1) := by decide +kernel
theorem dM_leaveOut_36 : decode prog_8_method_15_code 36 = .ok (.getfield 134, 3) := by decide +kernel
theorem dM_leaveOut_39 : decode prog_8_method_15_code 39 = .ok (.iconst 1, 1) := by decide +kernel
theorem dM_leaveOut_40 : decode prog_8_method_15_code 40 = .ok (.iadd, 1) := by decide +kernel
theorem dM_leaveOut_41 : decode prog_8_method_15_code 41 = .ok (.putfield 134, 3) := by decide +kernel
theorem dM_leaveOut_44 : decode prog_8_method_15_code 44 = .ok (.return_, 1) := by decide +kernel
theorem dM_reduce_0 : decode prog_8_method_16_code 0 = .ok (.aload_n 0, 1) := by decide +kernel
theorem dM_reduce_1 : decode prog_8_method_16_code 1 = .ok (.getfield 95, 3) := by decide +kernel
theorem dM_reduce_4 : decode prog_8_method_16_code 4 = .ok (.iload_n 2, 1) := by decide +kernel
theorem dM_reduce_5 : decode prog_8_method_16_code 5 = .ok (.iaload, 1) := by decide +kernel
theorem dM_reduce_6 : decode prog_8_method_16_code 6 = .ok (.istore_n 3, 1) := by decide +kernel
theorem dM_reduce_7 : decode prog_8_method_16_code 7 = .ok (.aload_n 0, 1) := by decide +kernel
theorem dM_reduce_8 : decode prog_8_method_16_code 8 = .ok (.getfield 95, 3) := by decide +kernel
theorem dM_reduce_11 : decode prog_8_method_16_code 11 = .ok (.aload_n 0, 1) := by decide +kernel
theorem dM_reduce_12 : decode prog_8_method_16_code 12 = .ok (.getfield 148, 3) := by decide +kernel
theorem dM_reduce_15 : decode prog_8_method_16_code 15 = .ok (.iconst 1, 1) := by decide +kernel
theorem dM_reduce_16 : decode prog_8_method_16_code 16 = .ok (.isub, 1) := by decide +kernel
theorem dM_reduce_17 : decode prog_8_method_16_code 17 = .ok (.iaload, 1) := by decide +kernel
theorem dM_reduce_18 : decode prog_8_method_16_code 18 = .ok (.istore 4, 2) := by decide +kernel
theorem dM_reduce_20 : decode prog_8_method_16_code 20 = .ok (.aload_n 0, 1) := by decide +kernel
theorem dM_reduce_21 : decode prog_8_method_16_code 21 = .ok (.getfield 148, 3) := by decide +kernel
theorem dM_reduce_24 : decode prog_8_method_16_code 24 = .ok (.iload_n 2, 1) := by decide +kernel
theorem dM_reduce_25 : decode prog_8_method_16_code 25 = .ok (.isub, 1) := by decide +kernel
theorem dM_reduce_26 : decode prog_8_method_16_code 26 = .ok (.istore 5, 2) := by decide +kernel
theorem dM_reduce_28 : decode prog_8_method_16_code 28 = .ok (.iload_n 2, 1) := by decide +kernel
theorem dM_reduce_29 : decode prog_8_method_16_code 29 = .ok (.istore 6, 2) := by decide +kernel
theorem dM_reduce_31 : decode prog_8_method_16_code 31 = .ok (.iload 6, 2) := by decide +kernel
theorem dM_reduce_33 : decode prog_8_method_16_code 33 = .ok (.aload_n 0, 1) := by decide +kernel
theorem dM_reduce_34 : decode prog_8_method_16_code 34 = .ok (.getfield 148, 3) := by decide +kernel
theorem dM_reduce_37 : decode prog_8_method_16_code 37 = .ok (.if_icmp .ge 61, 3) := by decide +kernel
theorem dM_reduce_40 : decode prog_8_method_16_code 40 = .ok (.aload_n 0, 1) := by decide +kernel
theorem dM_reduce_41 : decode prog_8_method_16_code 41 = .ok (.getfield 89, 3) := by decide +kernel
theorem dM_reduce_44 : decode prog_8_method_16_code 44 = .ok (.aload_n 0, 1) := by decide +kernel
theorem dM_reduce_45 : decode prog_8_method_16_code 45 = .ok (.getfield 95, 3) := by decide +kernel
theorem dM_reduce_48 : decode prog_8_method_16_code 48 = .ok (.iload 6, 2) := by decide +kernel
theorem dM_reduce_50 : decode prog_8_method_16_code 50 = .ok (.iaload, 1) := by decide +kernel
theorem dM_reduce_51 : decode prog_8_method_16_code 51 = .ok (.aload_n 0, 1) := by decide +kernel
theorem dM_reduce_52 : decode prog_8_method_16_code 52 = .ok (.getfield 145, 3) := by decide +kernel
theorem dM_reduce_55 : decode prog_8_method_16_code 55 = .ok (.iastore, 1) := by decide +kernel
theorem dM_reduce_56 : decode prog_8_method_16_code 56 = .ok (.aload_n 0, 1) := by decide +kernel
theorem dM_reduce_57 : decode prog_8_method_16_code 57 = .ok (.getfield 86, 3) := by decide +kernel
theorem dM_reduce_60 : decode prog_8_method_16_code 60 = .ok (.aload_n 0, 1) := by decide +kernel
theorem dM_reduce_61 : decode prog_8_method_16_code 61 = .ok (.getfield 95, 3) := by decide +kernel
theorem dM_reduce_64 : decode prog_8_method_16_code 64 = .ok (.iload 6, 2) := by decide +kernel
theorem dM_reduce_66 : decode prog_8_method_16_code 66 = .ok (.iaload, 1) := by decide +kernel
theorem dM_reduce_67 : decode prog_8_method_16_code 67 = .ok (.iload 6, 2) := by decide +kernel
theorem dM_reduce_69 : decode prog_8_method_16_code 69 = .ok (.iconst 1, 1) := by decide +kernel
theorem dM_reduce_70 : decode prog_8_method_16_code 70 = .ok (.iadd, 1) := by decide +kernel
theorem dM_reduce_71 : decode prog_8_method_16_code 71 = .ok (.aload_n 0, 1) := by decide +kernel
theorem dM_reduce_72 : decode prog_8_method_16_code 72 = .ok (.getfield 148, 3) := by decide +kernel
theorem dM_reduce_75 : decode prog_8_method_16_code 75 = .ok (.if_icmp .ge 15, 3) := by decide +kernel
theorem dM_reduce_78 : decode prog_8_method_16_code 78 = .ok (.aload_n 0, 1) := by decide +kernel
theorem dM_reduce_79 : decode prog_8_method_16_code 79 = .ok (.getfield 95, 3) := by decide +kernel
theorem dM_reduce_82 : decode prog_8_method_16_code 82 = .ok (.iload 6, 2) := by decide +kernel
theorem dM_reduce_84 : decode prog_8_method_16_code 84 = .ok (.iconst 1, 1) := by decide +kernel
theorem dM_reduce_85 : decode prog_8_method_16_code 85 = .ok (.iadd, 1) := by decide +kernel
theorem dM_reduce_86 : decode prog_8_method_16_code 86 = .ok (.iaload, 1) := by decide +kernel
theorem dM_reduce_87 : decode prog_8_method_16_code 87 = .ok (.goto 4, 3) := by decide +kernel
theorem dM_reduce_90 : decode prog_8_method_16_code 90 = .ok (.iconst (-1), 1) := by decide +kernel
theorem dM_reduce_91 : decode prog_8_method_16_code 91 = .ok (.iastore, 1) := by decide +kernel
theorem dM_reduce_92 : decode prog_8_method_16_code 92 = .ok (.iinc 6 1, 3) := by decide +kernel
theorem dM_reduce_95 : decode prog_8_method_16_code 95 = .ok (.goto (-64), 3) := by decide +kernel
theorem dM_reduce_98 : decode prog_8_method_16_code 98 = .ok (.aload_n 0, 1) := by decide +kernel
theorem dM_reduce_99 : decode prog_8_method_16_code 99 = .ok (.iload_n 2, 1) := by decide +kernel
theorem dM_reduce_100 : decode prog_8_method_16_code 100 = .ok (.putfield 148, 3) := by decide +kernel
theorem dM_reduce_103 : decode prog_8_method_16_code 103 = .ok (.aload_n 0, 1) := by decide +kernel
theorem dM_reduce_104 : decode prog_8_method_16_code 104 = .ok (.iload_n 1, 1) := by decide +kernel
theorem dM_reduce_105 : decode prog_8_method_16_code 105 = .ok (.aload_n 0, 1) := by decide +kernel
theorem dM_reduce_106 : decode prog_8_method_16_code 106 = .ok (.getfield 68, 3) := by decide +kernel
theorem dM_reduce_109 : decode prog_8_method_16_code 109 = .ok (.iload_n 3, 1) := by decide +kernel
theorem dM_reduce_110 : decode prog_8_method_16_code 110 = .ok (.iaload, 1) := by decide +kernel
theorem dM_reduce_111 : decode prog_8_method_16_code 111 = .ok (.aload_n 0, 1) := by decide +kernel
theorem dM_reduce_112 : decode prog_8_method_16_code 112 = .ok (.getfield 74, 3) := by decide +kernel
theorem dM_reduce_115 : decode prog_8_method_16_code 115 = .ok (.iload_n 3, 1) := by decide +kernel
theorem dM_reduce_116 : decode prog_8_method_16_code 116 = .ok (.iaload, 1) := by decide +kernel
theorem dM_reduce_117 : decode prog_8_method_16_code 117 = .ok (.aload_n 0, 1) := by decide +kernel
theorem dM_reduce_118 : decode prog_8_method_16_code 118 = .ok (.getfield 71, 3) := by decide +kernel
theorem dM_reduce_121 : decode prog_8_method_16_code 121 = .ok (.iload 4, 2) := by decide +kernel
theorem dM_reduce_123 : decode prog_8_method_16_code 123 = .ok (.iaload, 1) := by decide +kernel
theorem dM_reduce_124 : decode prog_8_method_16_code 124 = .ok (.iconst 0, 1) := by decide +kernel
theorem dM_reduce_125 : decode prog_8_method_16_code 125 = .ok (.invokevirtual 154, 3) := by decide +kernel
theorem dM_reduce_128 : decode prog_8_method_16_code 128 = .ok (.aload_n 0, 1) := by decide +kernel
theorem dM_reduce_129 : decode prog_8_method_16_code 129 = .ok (.getfield 83, 3) := by decide +kernel
theorem dM_reduce_132 : decode prog_8_method_16_code 132 = .ok (.aload_n 0, 1) := by decide +kernel
theorem dM_reduce_133 : decode prog_8_method_16_code 133 = .ok (.getfield 145, 3) := by decide +kernel
theorem dM_reduce_136 : decode prog_8_method_16_code 136 = .ok (.iconst 1, 1) := by decide +kernel
theorem dM_reduce_137 : decode prog_8_method_16_code 137 = .ok (.isub, 1) := by decide +kernel
theorem dM_reduce_138 : decode prog_8_method_16_code 138 = .ok (.iload_n 3, 1) := by decide +kernel
theorem dM_reduce_139 : decode prog_8_method_16_code 139 = .ok (.iastore, 1) := by decide +kernel
theorem dM_reduce_140 : decode prog_8_method_16_code 140 = .ok (.aload_n 0, 1) := by decide +kernel
theorem dM_reduce_141 : decode prog_8_method_16_code 141 = .ok (.getfield 80, 3) := by decide +kernel
theorem dM_reduce_144 : decode prog_8_method_16_code 144 = .ok (.aload_n 0, 1) := by decide +kernel
theorem dM_reduce_145 : decode prog_8_method_16_code 145 = .ok (.getfield 145, 3) := by decide +kernel
theorem dM_reduce_148 : decode prog_8_method_16_code 148 = .ok (.iconst 1, 1) := by decide +kernel
theorem dM_reduce_149 : decode prog_8_method_16_code 149 = .ok (.isub, 1) := by decide +kernel
theorem dM_reduce_150 : decode prog_8_method_16_code 150 = .ok (.iload 5, 2) := by decide +kernel
theorem dM_reduce_152 : decode prog_8_method_16_code 152 = .ok (.iastore, 1) := by decide +kernel
theorem dM_reduce_153 : decode prog_8_method_16_code 153 = .ok (.return_, 1) := by decide +kernel
