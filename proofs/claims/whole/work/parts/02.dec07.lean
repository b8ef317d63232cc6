/-! decode rows -/
theorem dK_behindOwn_0 : decode prog_5_method_8_code 0 = .ok (.aload_n 0, 1) := by decide +kernel
theorem dK_behindOwn_1 : decode prog_5_method_8_code 1 = .ok (.getfield 9, 3) := by decide +kernel
theorem dK_behindOwn_4 : decode prog_5_method_8_code 4 = .ok (.iload_n 1, 1) := by decide +kernel
theorem dK_behindOwn_5 : decode prog_5_method_8_code 5 = .ok (.invokevirtual 48, 3) := by decide +kernel
theorem dK_behindOwn_8 : decode prog_5_method_8_code 8 = .ok (.istore_n 2, 1) := by decide +kernel
theorem dK_behindOwn_9 : decode prog_5_method_8_code 9 = .ok (.iload_n 1, 1) := by decide +kernel
theorem dK_behindOwn_10 : decode prog_5_method_8_code 10 = .ok (.istore_n 3, 1) := by decide +kernel
theorem dK_behindOwn_11 : decode prog_5_method_8_code 11 = .ok (.iload_n 2, 1) := by decide +kernel
theorem dK_behindOwn_12 : decode prog_5_method_8_code 12 = .ok (.invokestatic 50, 3) := by decide +kernel
theorem dK_behindOwn_15 : decode prog_5_method_8_code 15 = .ok (.ifCond .eq 34, 3) := by decide +kernel
theorem dK_behindOwn_18 : decode prog_5_method_8_code 18 = .ok (.iload_n 3, 1) := by decide +kernel
theorem dK_behindOwn_19 : decode prog_5_method_8_code 19 = .ok (.aload_n 0, 1) := by decide +kernel
theorem dK_behindOwn_20 : decode prog_5_method_8_code 20 = .ok (.getfield 9, 3) := by decide +kernel
theorem dK_behindOwn_23 : decode prog_5_method_8_code 23 = .ok (.getfield 32, 3) := by decide +kernel
theorem dK_behindOwn_26 : decode prog_5_method_8_code 26 = .ok (.if_icmp .ge 75, 3) := by decide +kernel
theorem dK_behindOwn_29 : decode prog_5_method_8_code 29 = .ok (.aload_n 0, 1) := by decide +kernel
theorem dK_behindOwn_30 : decode prog_5_method_8_code 30 = .ok (.getfield 9, 3) := by decide +kernel
theorem dK_behindOwn_33 : decode prog_5_method_8_code 33 = .ok (.iload_n 3, 1) := by decide +kernel
theorem dK_behindOwn_34 : decode prog_5_method_8_code 34 = .ok (.invokevirtual 48, 3) := by decide +kernel
theorem dK_behindOwn_37 : decode prog_5_method_8_code 37 = .ok (.invokestatic 50, 3) := by decide +kernel
theorem dK_behindOwn_40 : decode prog_5_method_8_code 40 = .ok (.ifCond .eq 61, 3) := by decide +kernel
theorem dK_behindOwn_43 : decode prog_5_method_8_code 43 = .ok (.iinc 3 1, 3) := by decide +kernel
theorem dK_behindOwn_46 : decode prog_5_method_8_code 46 = .ok (.goto (-28), 3) := by decide +kernel
theorem dK_behindOwn_49 : decode prog_5_method_8_code 49 = .ok (.iload_n 2, 1) := by decide +kernel
theorem dK_behindOwn_50 : decode prog_5_method_8_code 50 = .ok (.invokestatic 54, 3) := by decide +kernel
theorem dK_behindOwn_53 : decode prog_5_method_8_code 53 = .ok (.ifCond .eq 34, 3) := by decide +kernel
theorem dK_behindOwn_56 : decode prog_5_method_8_code 56 = .ok (.iload_n 3, 1) := by decide +kernel
theorem dK_behindOwn_57 : decode prog_5_method_8_code 57 = .ok (.aload_n 0, 1) := by decide +kernel
theorem dK_behindOwn_58 : decode prog_5_method_8_code 58 = .ok (.getfield 9, 3) := by decide +kernel
theorem dK_behindOwn_61 : decode prog_5_method_8_code 61 = .ok (.getfield 32, 3) := by decide +kernel
theorem dK_behindOwn_64 : decode prog_5_method_8_code 64 = .ok (.if_icmp .ge 37, 3) := by decide +kernel
theorem dK_behindOwn_67 : decode prog_5_method_8_code 67 = .ok (.aload_n 0, 1) := by decide +kernel
theorem dK_behindOwn_68 : decode prog_5_method_8_code 68 = .ok (.getfield 9, 3) := by decide +kernel
theorem dK_behindOwn_71 : decode prog_5_method_8_code 71 = .ok (.iload_n 3, 1) := by decide +kernel
theorem dK_behindOwn_72 : decode prog_5_method_8_code 72 = .ok (.invokevirtual 48, 3) := by decide +kernel
theorem dK_behindOwn_75 : decode prog_5_method_8_code 75 = .ok (.invokestatic 54, 3) := by decide +kernel
theorem dK_behindOwn_78 : decode prog_5_method_8_code 78 = .ok (.ifCond .eq 23, 3) := by decide +kernel
theorem dK_behindOwn_81 : decode prog_5_method_8_code 81 = .ok (.iinc 3 1, 3) := by decide +kernel
theorem dK_behindOwn_84 : decode prog_5_method_8_code 84 = .ok (.goto (-28), 3) := by decide +kernel
theorem dK_behindOwn_87 : decode prog_5_method_8_code 87 = .ok (.iload_n 3, 1) := by decide +kernel
theorem dK_behindOwn_88 : decode prog_5_method_8_code 88 = .ok (.aload_n 0, 1) := by decide +kernel
theorem dK_behindOwn_89 : decode prog_5_method_8_code 89 = .ok (.getfield 9, 3) := by decide +kernel
theorem dK_behindOwn_92 : decode prog_5_method_8_code 92 = .ok (.getfield 32, 3) := by decide +kernel
theorem dK_behindOwn_95 : decode prog_5_method_8_code 95 = .ok (.if_icmp .ge 6, 3) := by decide +kernel
theorem dK_behindOwn_98 : decode prog_5_method_8_code 98 = .ok (.iinc 3 1, 3) := by decide +kernel
theorem dK_behindOwn_101 : decode prog_5_method_8_code 101 = .ok (.iload_n 3, 1) := by decide +kernel
theorem dK_behindOwn_102 : decode prog_5_method_8_code 102 = .ok (.ireturn, 1) := by decide +kernel
theorem dK_kindOf_0 : decode prog_5_method_9_code 0 = .ok (.iload_n 1, 1) := by decide +kernel
theorem dK_kindOf_1 : decode prog_5_method_9_code 1 = .ok (.iload_n 2, 1) := by decide +kernel
theorem dK_kindOf_2 : decode prog_5_method_9_code 2 = .ok (.if_icmp .lt 6, 3) := by decide +kernel
theorem dK_kindOf_5 : decode prog_5_method_9_code 5 = .ok (.bipush 17, 2) := by decide +kernel
theorem dK_kindOf_7 : decode prog_5_method_9_code 7 = .ok (.ireturn, 1) := by decide +kernel
theorem dK_kindOf_8 : decode prog_5_method_9_code 8 = .ok (.aload_n 0, 1) := by decide +kernel
theorem dK_kindOf_9 : decode prog_5_method_9_code 9 = .ok (.getfield 9, 3) := by decide +kernel
theorem dK_kindOf_12 : decode prog_5_method_9_code 12 = .ok (.iload_n 1, 1) := by decide +kernel
theorem dK_kindOf_13 : decode prog_5_method_9_code 13 = .ok (.invokevirtual 48, 3) := by decide +kernel
theorem dK_kindOf_16 : decode prog_5_method_9_code 16 = .ok (.istore_n 3, 1) := by decide +kernel
theorem dK_kindOf_17 : decode prog_5_method_9_code 17 = .ok (.iload_n 3, 1) := by decide +kernel
theorem dK_kindOf_18 : decode prog_5_method_9_code 18 = .ok (.invokestatic 50, 3) := by decide +kernel
theorem dK_kindOf_21 : decode prog_5_method_9_code 21 = .ok (.ifCond .eq 10, 3) := by decide +kernel
theorem dK_kindOf_24 : decode prog_5_method_9_code 24 = .ok (.aload_n 0, 1) := by decide +kernel
theorem dK_kindOf_25 : decode prog_5_method_9_code 25 = .ok (.iload_n 1, 1) := by decide +kernel
theorem dK_kindOf_26 : decode prog_5_method_9_code 26 = .ok (.iload_n 2, 1) := by decide +kernel
theorem dK_kindOf_27 : decode prog_5_method_9_code 27 = .ok (.invokevirtual 57, 3) := by decide +kernel
theorem dK_kindOf_30 : decode prog_5_method_9_code 30 = .ok (.ireturn, 1) := by decide +kernel
theorem dK_kindOf_31 : decode prog_5_method_9_code 31 = .ok (.iload_n 3, 1) := by decide +kernel
theorem dK_kindOf_32 : decode prog_5_method_9_code 32 = .ok (.invokestatic 54, 3) := by decide +kernel
theorem dK_kindOf_35 : decode prog_5_method_9_code 35 = .ok (.ifCond .eq 7, 3) := by decide +kernel
theorem dK_kindOf_38 : decode prog_5_method_9_code 38 = .ok (.iconst 2, 1) := by decide +kernel
theorem dK_kindOf_39 : decode prog_5_method_9_code 39 = .ok (.goto 7, 3) := by decide +kernel
theorem dK_kindOf_42 : decode prog_5_method_9_code 42 = .ok (.iload_n 3, 1) := by decide +kernel
theorem dK_kindOf_43 : decode prog_5_method_9_code 43 = .ok (.invokestatic 60, 3) := by decide +kernel
theorem dK_kindOf_46 : decode prog_5_method_9_code 46 = .ok (.ireturn, 1) := by decide +kernel
theorem dK_wordKind_0 : decode prog_5_method_10_code 0 = .ok (.aload_n 0, 1) := by decide +kernel
theorem dK_wordKind_1 : decode prog_5_method_10_code 1 = .ok (.iload_n 1, 1) := by decide +kernel
theorem dK_wordKind_2 : decode prog_5_method_10_code 2 = .ok (.iload_n 2, 1) := by decide +kernel
theorem dK_wordKind_3 : decode prog_5_method_10_code 3 = .ok (.ldc 63, 2) := by decide +kernel
theorem dK_wordKind_5 : decode prog_5_method_10_code 5 = .ok (.invokevirtual 65, 3) := by decide +kernel
theorem dK_wordKind_8 : decode prog_5_method_10_code 8 = .ok (.ifCond .eq 5, 3) := by decide +kernel
theorem dK_wordKind_11 : decode prog_5_method_10_code 11 = .ok (.iconst 3, 1) := by decide +kernel
theorem dK_wordKind_12 : decode prog_5_method_10_code 12 = .ok (.ireturn, 1) := by decide +kernel
theorem dK_wordKind_13 : decode prog_5_method_10_code 13 = .ok (.aload_n 0, 1) := by decide +kernel
theorem dK_wordKind_14 : decode prog_5_method_10_code 14 = .ok (.iload_n 1, 1) := by decide +kernel
theorem dK_wordKind_15 : decode prog_5_method_10_code 15 = .ok (.iload_n 2, 1) := by decide +kernel
theorem dK_wordKind_16 : decode prog_5_method_10_code 16 = .ok (.ldc 69, 2) := by decide +kernel
theorem dK_wordKind_18 : decode prog_5_method_10_code 18 = .ok (.invokevirtual 65, 3) := by decide +kernel
theorem dK_wordKind_21 : decode prog_5_method_10_code 21 = .ok (.ifCond .eq 5, 3) := by decide +kernel
theorem dK_wordKind_24 : decode prog_5_method_10_code 24 = .ok (.iconst 4, 1) := by decide +kernel
theorem dK_wordKind_25 : decode prog_5_method_10_code 25 = .ok (.ireturn, 1) := by decide +kernel
theorem dK_wordKind_26 : decode prog_5_method_10_code 26 = .ok (.aload_n 0, 1) := by decide +kernel
theorem dK_wordKind_27 : decode prog_5_method_10_code 27 = .ok (.iload_n 1, 1) := by decide +kernel
theorem dK_wordKind_28 : decode prog_5_method_10_code 28 = .ok (.iload_n 2, 1) := by decide +kernel
theorem dK_wordKind_29 : decode prog_5_method_10_code 29 = .ok (.ldc 71, 2) := by decide +kernel
theorem dK_wordKind_31 : decode prog_5_method_10_code 31 = .ok (.invokevirtual 65, 3) := by decide +kernel
theorem dK_wordKind_34 : decode prog_5_method_10_code 34 = .ok (.ifCond .eq 7, 3) := by decide +kernel
theorem dK_wordKind_37 : decode prog_5_method_10_code 37 = .ok (.iconst 5, 1) := by decide +kernel
theorem dK_wordKind_38 : decode prog_5_method_10_code 38 = .ok (.goto 4, 3) := by decide +kernel
theorem dK_wordKind_41 : decode prog_5_method_10_code 41 = .ok (.iconst 1, 1) := by decide +kernel
theorem dK_wordKind_42 : decode prog_5_method_10_code 42 = .ok (.ireturn, 1) := by decide +kernel
theorem dK_spells_0 : decode prog_5_method_11_code 0 = .ok (.iload_n 2, 1) := by decide +kernel
theorem dK_spells_1 : decode prog_5_method_11_code 1 = .ok (.iload_n 1, 1) := by decide +kernel
theorem dK_spells_2 : decode prog_5_method_11_code 2 = .ok (.isub, 1) := by decide +kernel
theorem dK_spells_3 : decode prog_5_method_11_code 3 = .ok (.aload_n 3, 1) := by decide +kernel
theorem dK_spells_4 : decode prog_5_method_11_code 4 = .ok (.invokevirtual 73, 3) := by decide +kernel
theorem dK_spells_7 : decode prog_5_method_11_code 7 = .ok (.if_icmp .eq 5, 3) := by decide +kernel
theorem dK_spells_10 : decode prog_5_method_11_code 10 = .ok (.iconst 0, 1) := by decide +kernel
theorem dK_spells_11 : decode prog_5_method_11_code 11 = .ok (.ireturn, 1) := by decide +kernel
theorem dK_spells_12 : decode prog_5_method_11_code 12 = .ok (.iconst 0, 1) := by decide +kernel
theorem dK_spells_13 : decode prog_5_method_11_code 13 = .ok (.istore 4, 2) := by decide +kernel
theorem dK_spells_15 : decode prog_5_method_11_code 15 = .ok (.iload 4, 2) := by decide +kernel
theorem dK_spells_17 : decode prog_5_method_11_code 17 = .ok (.aload_n 3, 1) := by decide +kernel
theorem dK_spells_18 : decode prog_5_method_11_code 18 = .ok (.invokevirtual 73, 3) := by decide +kernel
theorem dK_spells_21 : decode prog_5_method_11_code 21 = .ok (.if_icmp .ge 31, 3) := by decide +kernel
theorem dK_spells_24 : decode prog_5_method_11_code 24 = .ok (.aload_n 0, 1) := by decide +kernel
theorem dK_spells_25 : decode prog_5_method_11_code 25 = .ok (.getfield 9, 3) := by decide +kernel
theorem dK_spells_28 : decode prog_5_method_11_code 28 = .ok (.iload_n 1, 1) := by decide +kernel
theorem dK_spells_29 : decode prog_5_method_11_code 29 = .ok (.iload 4, 2) := by decide +kernel
theorem dK_spells_31 : decode prog_5_method_11_code 31 = .ok (.iadd, 1) := by decide +kernel
theorem dK_spells_32 : decode prog_5_method_11_code 32 = .ok (.invokevirtual 48, 3) := by decide +kernel
theorem dK_spells_35 : decode prog_5_method_11_code 35 = .ok (.aload_n 3, 1) := by decide +kernel
theorem dK_spells_36 : decode prog_5_method_11_code 36 = .ok (.iload 4, 2) := by decide +kernel
theorem dK_spells_38 : decode prog_5_method_11_code 38 = .ok (.invokevirtual 79, 3) := by decide +kernel
theorem dK_spells_41 : decode prog_5_method_11_code 41 = .ok (.if_icmp .eq 5, 3) := by decide +kernel
theorem dK_spells_44 : decode prog_5_method_11_code 44 = .ok (.iconst 0, 1) := by decide +kernel
theorem dK_spells_45 : decode prog_5_method_11_code 45 = .ok (.ireturn, 1) := by decide +kernel
theorem dK_spells_46 : decode prog_5_method_11_code 46 = .ok (.iinc 4 1, 3) := by decide +kernel
theorem dK_spells_49 : decode prog_5_method_11_code 49 = .ok (.goto (-34), 3) := by decide +kernel
theorem dK_spells_52 : decode prog_5_method_11_code 52 = .ok (.iconst 1, 1) := by decide +kernel
theorem dK_spells_53 : decode prog_5_method_11_code 53 = .ok (.ireturn, 1) := by decide +kernel
theorem dK_signKind_0 : decode prog_5_method_12_code 0 = .ok (.ldc 83, 2) := by decide +kernel
theorem dK_signKind_2 : decode prog_5_method_12_code 2 = .ok (.iload_n 0, 1) := by decide +kernel
theorem dK_signKind_3 : decode prog_5_method_12_code 3 = .ok (.i2c, 1) := by decide +kernel
theorem dK_signKind_4 : decode prog_5_method_12_code 4 = .ok (.invokevirtual 85, 3) := by decide +kernel
theorem dK_signKind_7 : decode prog_5_method_12_code 7 = .ok (.istore_n 1, 1) := by decide +kernel
theorem dK_signKind_8 : decode prog_5_method_12_code 8 = .ok (.iload_n 1, 1) := by decide +kernel
theorem dK_signKind_9 : decode prog_5_method_12_code 9 = .ok (.ifCond .ge 8, 3) := by decide +kernel
theorem dK_signKind_12 : decode prog_5_method_12_code 12 = .ok (.bipush 16, 2) := by decide +kernel
theorem dK_signKind_14 : decode prog_5_method_12_code 14 = .ok (.goto 7, 3) := by decide +kernel
theorem dK_signKind_17 : decode prog_5_method_12_code 17 = .ok (.bipush 6, 2) := by decide +kernel
theorem dK_signKind_19 : decode prog_5_method_12_code 19 = .ok (.iload_n 1, 1) := by decide +kernel
theorem dK_signKind_20 : decode prog_5_method_12_code 20 = .ok (.iadd, 1) := by decide +kernel
theorem dK_signKind_21 : decode prog_5_method_12_code 21 = .ok (.ireturn, 1) := by decide +kernel
theorem dK_isSmallLetter_0 : decode prog_5_method_13_code 0 = .ok (.iload_n 0, 1) := by decide +kernel
theorem dK_isSmallLetter_1 : decode prog_5_method_13_code 1 = .ok (.bipush 97, 2) := by decide +kernel
theorem dK_isSmallLetter_3 : decode prog_5_method_13_code 3 = .ok (.if_icmp .lt 13, 3) := by decide +kernel
theorem dK_isSmallLetter_6 : decode prog_5_method_13_code 6 = .ok (.iload_n 0, 1) := by decide +kernel
theorem dK_isSmallLetter_7 : decode prog_5_method_13_code 7 = .ok (.bipush 122, 2) := by decide +kernel
theorem dK_isSmallLetter_9 : decode prog_5_method_13_code 9 = .ok (.if_icmp .gt 7, 3) := by decide +kernel
theorem dK_isSmallLetter_12 : decode prog_5_method_13_code 12 = .ok (.iconst 1, 1) := by decide +kernel
theorem dK_isSmallLetter_13 : decode prog_5_method_13_code 13 = .ok (.goto 4, 3) := by decide +kernel
theorem dK_isSmallLetter_16 : decode prog_5_method_13_code 16 = .ok (.iconst 0, 1) := by decide +kernel
theorem dK_isSmallLetter_17 : decode prog_5_method_13_code 17 = .ok (.ireturn, 1) := by decide +kernel
theorem dK_isDigit_0 : decode prog_5_method_14_code 0 = .ok (.iload_n 0, 1) := by decide +kernel
theorem dK_isDigit_1 : decode prog_5_method_14_code 1 = .ok (.bipush 48, 2) := by decide +kernel
theorem dK_isDigit_3 : decode prog_5_method_14_code 3 = .ok (.if_icmp .lt 13, 3) := by decide +kernel
theorem dK_isDigit_6 : decode prog_5_method_14_code 6 = .ok (.iload_n 0, 1) := by decide +kernel
theorem dK_isDigit_7 : decode prog_5_method_14_code 7 = .ok (.bipush 57, 2) := by decide +kernel
theorem dK_isDigit_9 : decode prog_5_method_14_code 9 = .ok (.if_icmp .gt 7, 3) := by decide +kernel
theorem dK_isDigit_12 : decode prog_5_method_14_code 12 = .ok (.iconst 1, 1) := by decide +kernel
theorem dK_isDigit_13 : decode prog_5_method_14_code 13 = .ok (.goto 4, 3) := by decide +kernel
theorem dK_isDigit_16 : decode prog_5_method_14_code 16 = .ok (.iconst 0, 1) := by decide +kernel
theorem dK_isDigit_17 : decode prog_5_method_14_code 17 = .ok (.ireturn, 1) := by decide +kernel
theorem dT_init_0 : decode prog_6_method_1_code 0 = .ok (.aload_n 0, 1) := by decide +kernel
theorem dT_init_1 : decode prog_6_method_1_code 1 = .ok (.invokespecial 3, 3) := by decide +kernel
theorem dT_init_4 : decode prog_6_method_1_code 4 = .ok (.aload_n 0, 1) := by decide +kernel
theorem dT_init_5 : decode prog_6_method_1_code 5 = .ok (.aload_n 1, 1) := by decide +kernel
theorem dT_init_6 : decode prog_6_method_1_code 6 = .ok (.putfield 9, 3) := by decide +kernel
theorem dT_init_9 : decode prog_6_method_1_code 9 = .ok (.aload_n 0, 1) := by decide +kernel
theorem dT_init_10 : decode prog_6_method_1_code 10 = .ok (.sipush 363, 3) := by decide +kernel
theorem dT_init_13 : decode prog_6_method_1_code 13 = .ok (.newarray .int, 2) := by decide +kernel
theorem dT_init_15 : decode prog_6_method_1_code 15 = .ok (.putfield 15, 3) := by decide +kernel
theorem dT_init_18 : decode prog_6_method_1_code 18 = .ok (.aload_n 0, 1) := by decide +kernel
theorem dT_init_19 : decode prog_6_method_1_code 19 = .ok (.sipush 363, 3) := by decide +kernel
theorem dT_init_22 : decode prog_6_method_1_code 22 = .ok (.newarray .int, 2) := by decide +kernel
theorem dT_init_24 : decode prog_6_method_1_code 24 = .ok (.putfield 19, 3) := by decide +kernel
theorem dT_init_27 : decode prog_6_method_1_code 27 = .ok (.aload_n 0, 1) := by decide +kernel
theorem dT_init_28 : decode prog_6_method_1_code 28 = .ok (.sipush 363, 3) := by decide +kernel
theorem dT_init_31 : decode prog_6_method_1_code 31 = .ok (.newarray .int, 2) := by decide +kernel
theorem dT_init_33 : decode prog_6_method_1_code 33 = .ok (.putfield 22, 3) := by decide +kernel
theorem dT_init_36 : decode prog_6_method_1_code 36 = .ok (.aload_n 0, 1) := by decide +kernel
theorem dT_init_37 : decode prog_6_method_1_code 37 = .ok (.sipush 363, 3) := by decide +kernel
theorem dT_init_40 : decode prog_6_method_1_code 40 = .ok (.newarray .int, 2) := by decide +kernel
theorem dT_init_42 : decode prog_6_method_1_code 42 = .ok (.putfield 25, 3) := by decide +kernel
theorem dT_init_45 : decode prog_6_method_1_code 45 = .ok (.aload_n 0, 1) := by decide +kernel
theorem dT_init_46 : decode prog_6_method_1_code 46 = .ok (.sipush 363, 3) := by decide +kernel
theorem dT_init_49 : decode prog_6_method_1_code 49 = .ok (.newarray .int, 2) := by decide +kernel
theorem dT_init_51 : decode prog_6_method_1_code 51 = .ok (.putfield 28, 3) := by decide +kernel
theorem dT_init_54 : decode prog_6_method_1_code 54 = .ok (.aload_n 0, 1) := by decide +kernel
theorem dT_init_55 : decode prog_6_method_1_code 55 = .ok (.sipush 180, 3) := by decide +kernel
theorem dT_init_58 : decode prog_6_method_1_code 58 = .ok (.newarray .int, 2) := by decide +kernel
theorem dT_init_60 : decode prog_6_method_1_code 60 = .ok (.putfield 31, 3) := by decide +kernel
theorem dT_init_63 : decode prog_6_method_1_code 63 = .ok (.aload_n 0, 1) := by decide +kernel
theorem dT_init_64 : decode prog_6_method_1_code 64 = .ok (.iconst 0, 1) := by decide +kernel
theorem dT_init_65 : decode prog_6_method_1_code 65 = .ok (.putfield 34, 3) := by decide +kernel
theorem dT_init_68 : decode prog_6_method_1_code 68 = .ok (.aload_n 0, 1) := by decide +kernel
theorem dT_init_69 : decode prog_6_method_1_code 69 = .ok (.iconst 0, 1) := by decide +kernel
theorem dT_init_70 : decode prog_6_method_1_code 70 = .ok (.putfield 38, 3) := by decide +kernel
theorem dT_init_73 : decode prog_6_method_1_code 73 = .ok (.return_, 1) := by decide +kernel
theorem dT_clear_0 : decode prog_6_method_2_code 0 = .ok (.aload_n 0, 1) := by decide +kernel
theorem dT_clear_1 : decode prog_6_method_2_code 1 = .ok (.iconst 0, 1) := by decide +kernel
theorem dT_clear_2 : decode prog_6_method_2_code 2 = .ok (.putfield 34, 3) := by decide +kernel
theorem dT_clear_5 : decode prog_6_method_2_code 5 = .ok (.aload_n 0, 1) := by decide +kernel
theorem dT_clear_6 : decode prog_6_method_2_code 6 = .ok (.iconst 0, 1) := by decide +kernel
theorem dT_clear_7 : decode prog_6_method_2_code 7 = .ok (.putfield 38, 3) := by decide +kernel
theorem dT_clear_10 : decode prog_6_method_2_code 10 = .ok (.return_, 1) := by decide +kernel
theorem dT_add_0 : decode prog_6_method_3_code 0 = .ok (.aload_n 0, 1) := by decide +kernel
theorem dT_add_1 : decode prog_6_method_3_code 1 = .ok (.getfield 34, 3) := by decide +kernel
theorem dT_add_4 : decode prog_6_method_3_code 4 = .ok (.sipush 362, 3) := by decide +kernel
theorem dT_add_7 : decode prog_6_method_3_code 7 = .ok (.if_icmp .lt 7, 3) := by decide +kernel
theorem dT_add_10 : decode prog_6_method_3_code 10 = .ok (.sipush 361, 3) := by decide +kernel
theorem dT_add_13 : decode prog_6_method_3_code 13 = .ok (.ireturn, 1) := by decide +kernel
theorem dT_add_14 : decode prog_6_method_3_code 14 = .ok (.aload_n 0, 1) := by decide +kernel
theorem dT_add_15 : decode prog_6_method_3_code 15 = .ok (.getfield 15, 3) := by decide +kernel
theorem dT_add_18 : decode prog_6_method_3_code 18 = .ok (.aload_n 0, 1) := by decide +kernel
theorem dT_add_19 : decode prog_6_method_3_code 19 = .ok (.getfield 34, 3) := by decide +kernel
theorem dT_add_22 : decode prog_6_method_3_code 22 = .ok (.iload_n 1, 1) := by decide +kernel
theorem dT_add_23 : decode prog_6_method_3_code 23 = .ok (.iastore, 1) := by decide +kernel
theorem dT_add_24 : decode prog_6_method_3_code 24 = .ok (.aload_n 0, 1) := by decide +kernel
theorem dT_add_25 : decode prog_6_method_3_code 25 = .ok (.getfield 19, 3) := by decide +kernel
theorem dT_add_28 : decode prog_6_method_3_code 28 = .ok (.aload_n 0, 1) := by decide +kernel
theorem dT_add_29 : decode prog_6_method_3_code 29 = .ok (.getfield 34, 3) := by decide +kernel
theorem dT_add_32 : decode prog_6_method_3_code 32 = .ok (.iconst 1, 1) := by decide +kernel
theorem dT_add_33 : decode prog_6_method_3_code 33 = .ok (.iastore, 1) := by decide +kernel
theorem dT_add_34 : decode prog_6_method_3_code 34 = .ok (.aload_n 0, 1) := by decide +kernel
theorem dT_add_35 : decode prog_6_method_3_code 35 = .ok (.getfield 22, 3) := by decide +kernel
theorem dT_add_38 : decode prog_6_method_3_code 38 = .ok (.aload_n 0, 1) := by decide +kernel
theorem dT_add_39 : decode prog_6_method_3_code 39 = .ok (.getfield 34, 3) := by decide +kernel
theorem dT_add_42 : decode prog_6_method_3_code 42 = .ok (.iload_n 2, 1) := by decide +kernel
theorem dT_add_43 : decode prog_6_method_3_code 43 = .ok (.iastore, 1) := by decide +kernel
theorem dT_add_44 : decode prog_6_method_3_code 44 = .ok (.aload_n 0, 1) := by decide +kernel
theorem dT_add_45 : decode prog_6_method_3_code 45 = .ok (.getfield 25, 3) := by decide +kernel
theorem dT_add_48 : decode prog_6_method_3_code 48 = .ok (.aload_n 0, 1) := by decide +kernel
theorem dT_add_49 : decode prog_6_method_3_code 49 = .ok (.getfield 34, 3) := by decide +kernel
theorem dT_add_52 : decode prog_6_method_3_code 52 = .ok (.iload_n 3, 1) := by decide +kernel
theorem dT_add_53 : decode prog_6_method_3_code 53 = .ok (.iastore, 1) := by decide +kernel
theorem dT_add_54 : decode prog_6_method_3_code 54 = .ok (.aload_n 0, 1) := by decide +kernel
theorem dT_add_55 : decode prog_6_method_3_code 55 = .ok (.getfield 28, 3) := by decide +kernel
theorem dT_add_58 : decode prog_6_method_3_code 58 = .ok (.aload_n 0, 1) := by decide +kernel
theorem dT_add_59 : decode prog_6_method_3_code 59 = .ok (.getfield 34, 3) := by decide +kernel
theorem dT_add_62 : decode prog_6_method_3_code 62 = .ok (.aload_n 0, 1) := by decide +kernel
theorem dT_add_63 : decode prog_6_method_3_code 63 = .ok (.getfield 38, 3) := by decide +kernel
theorem dT_add_66 : decode prog_6_method_3_code 66 = .ok (.iastore, 1) := by decide +kernel
theorem dT_add_67 : decode prog_6_method_3_code 67 = .ok (.aload_n 0, 1) := by decide +kernel
theorem dT_add_68 : decode prog_6_method_3_code 68 = .ok (.dup, 1) := by decide +kernel
theorem dT_add_69 : decode prog_6_method_3_code 69 = .ok (.getfield 34, 3) := by decide +kernel
theorem dT_add_72 : decode prog_6_method_3_code 72 = .ok (.iconst 1, 1) := by decide +kernel
theorem dT_add_73 : decode prog_6_method_3_code 73 = .ok (.iadd, 1) := by decide +kernel
theorem dT_add_74 : decode prog_6_method_3_code 74 = .ok (.putfield 34, 3) := by decide +kernel
theorem dT_add_77 : decode prog_6_method_3_code 77 = .ok (.aload_n 0, 1) := by decide +kernel
theorem dT_add_78 : decode prog_6_method_3_code 78 = .ok (.getfield 34, 3) := by decide +kernel
theorem dT_add_81 : decode prog_6_method_3_code 81 = .ok (.iconst 1, 1) := by decide +kernel
theorem dT_add_82 : decode prog_6_method_3_code 82 = .ok (.isub, 1) := by decide +kernel
theorem dT_add_83 : decode prog_6_method_3_code 83 = .ok (.ireturn, 1) := by decide +kernel
theorem dT_addFault_0 : decode prog_6_method_4_code 0 = .ok (.aload_n 0, 1) := by decide +kernel
theorem dT_addFault_1 : decode prog_6_method_4_code 1 = .ok (.getfield 38, 3) := by decide +kernel
theorem dT_addFault_4 : decode prog_6_method_4_code 4 = .ok (.sipush 180, 3) := by decide +kernel
theorem dT_addFault_7 : decode prog_6_method_4_code 7 = .ok (.if_icmp .ge 27, 3) := by decide +kernel
theorem dT_addFault_10 : decode prog_6_method_4_code 10 = .ok (.aload_n 0, 1) := by decide +kernel
theorem dT_addFault_11 : decode prog_6_method_4_code 11 = .ok (.getfield 31, 3) := by decide +kernel
theorem dT_addFault_14 : decode prog_6_method_4_code 14 = .ok (.aload_n 0, 1) := by decide +kernel
theorem dT_addFault_15 : decode prog_6_method_4_code 15 = .ok (.getfield 38, 3) := by decide +kernel
theorem dT_addFault_18 : decode prog_6_method_4_code 18 = .ok (.iconst 4, 1) := by decide +kernel
theorem dT_addFault_19 : decode prog_6_method_4_code 19 = .ok (.iload_n 1, 1) := by decide +kernel
theorem dT_addFault_20 : decode prog_6_method_4_code 20 = .ok (.imul, 1) := by decide +kernel
theorem dT_addFault_21 : decode prog_6_method_4_code 21 = .ok (.iload_n 2, 1) := by decide +kernel
theorem dT_addFault_22 : decode prog_6_method_4_code 22 = .ok (.iadd, 1) := by decide +kernel
theorem dT_addFault_23 : decode prog_6_method_4_code 23 = .ok (.iastore, 1) := by decide +kernel
theorem dT_addFault_24 : decode prog_6_method_4_code 24 = .ok (.aload_n 0, 1) := by decide +kernel
theorem dT_addFault_25 : decode prog_6_method_4_code 25 = .ok (.dup, 1) := by decide +kernel
theorem dT_addFault_26 : decode prog_6_method_4_code 26 = .ok (.getfield 38, 3) := by decide +kernel
theorem dT_addFault_29 : decode prog_6_method_4_code 29 = .ok (.iconst 1, 1) := by decide +kernel
theorem dT_addFault_30 : decode prog_6_method_4_code 30 = .ok (.iadd, 1) := by decide +kernel
theorem dT_addFault_31 : decode prog_6_method_4_code 31 = .ok (.putfield 38, 3) := by decide +kernel
theorem dT_addFault_34 : decode prog_6_method_4_code 34 = .ok (.return_, 1) := by decide +kernel
theorem dT_wrap_0 : decode prog_6_method_5_code 0 = .ok (.aload_n 0, 1) := by decide +kernel
theorem dT_wrap_1 : decode prog_6_method_5_code 1 = .ok (.iload_n 1, 1) := by decide +kernel
theorem dT_wrap_2 : decode prog_6_method_5_code 2 = .ok (.invokevirtual 41, 3) := by decide +kernel
theorem dT_wrap_5 : decode prog_6_method_5_code 5 = .ok (.ifCond .eq 13, 3) := by decide +kernel
theorem dT_wrap_8 : decode prog_6_method_5_code 8 = .ok (.aload_n 0, 1) := by decide +kernel
theorem dT_wrap_9 : decode prog_6_method_5_code 9 = .ok (.getfield 34, 3) := by decide +kernel
theorem dT_wrap_12 : decode prog_6_method_5_code 12 = .ok (.sipush 362, 3) := by decide +kernel
theorem dT_wrap_15 : decode prog_6_method_5_code 15 = .ok (.if_icmp .lt 4, 3) := by decide +kernel
theorem dT_wrap_18 : decode prog_6_method_5_code 18 = .ok (.return_, 1) := by decide +kernel
theorem dT_wrap_19 : decode prog_6_method_5_code 19 = .ok (.aload_n 0, 1) := by decide +kernel
theorem dT_wrap_20 : decode prog_6_method_5_code 20 = .ok (.aload_n 0, 1) := by decide +kernel
theorem dT_wrap_21 : decode prog_6_method_5_code 21 = .ok (.getfield 15, 3) := by decide +kernel
theorem dT_wrap_24 : decode prog_6_method_5_code 24 = .ok (.iload_n 1, 1) := by decide +kernel
theorem dT_wrap_25 : decode prog_6_method_5_code 25 = .ok (.invokevirtual 45, 3) := by decide +kernel
theorem dT_wrap_28 : decode prog_6_method_5_code 28 = .ok (.aload_n 0, 1) := by decide +kernel
theorem dT_wrap_29 : decode prog_6_method_5_code 29 = .ok (.aload_n 0, 1) := by decide +kernel
theorem dT_wrap_30 : decode prog_6_method_5_code 30 = .ok (.getfield 19, 3) := by decide +kernel
theorem dT_wrap_33 : decode prog_6_method_5_code 33 = .ok (.iload_n 1, 1) := by decide +kernel
theorem dT_wrap_34 : decode prog_6_method_5_code 34 = .ok (.invokevirtual 45, 3) := by decide +kernel
theorem dT_wrap_37 : decode prog_6_method_5_code 37 = .ok (.aload_n 0, 1) := by decide +kernel
theorem dT_wrap_38 : decode prog_6_method_5_code 38 = .ok (.aload_n 0, 1) := by decide +kernel
theorem dT_wrap_39 : decode prog_6_method_5_code 39 = .ok (.getfield 22, 3) := by decide +kernel
theorem dT_wrap_42 : decode prog_6_method_5_code 42 = .ok (.iload_n 1, 1) := by decide +kernel
theorem dT_wrap_43 : decode prog_6_method_5_code 43 = .ok (.invokevirtual 45, 3) := by decide +kernel
theorem dT_wrap_46 : decode prog_6_method_5_code 46 = .ok (.aload_n 0, 1) := by decide +kernel
theorem dT_wrap_47 : decode prog_6_method_5_code 47 = .ok (.aload_n 0, 1) := by decide +kernel
theorem dT_wrap_48 : decode prog_6_method_5_code 48 = .ok (.getfield 25, 3) := by decide +kernel
theorem dT_wrap_51 : decode prog_6_method_5_code 51 = .ok (.iload_n 1, 1) := by decide +kernel
theorem dT_wrap_52 : decode prog_6_method_5_code 52 = .ok (.invokevirtual 45, 3) := by decide +kernel
theorem dT_wrap_55 : decode prog_6_method_5_code 55 = .ok (.aload_n 0, 1) := by decide +kernel
theorem dT_wrap_56 : decode prog_6_method_5_code 56 = .ok (.aload_n 0, 1) := by decide +kernel
theorem dT_wrap_57 : decode prog_6_method_5_code 57 = .ok (.getfield 28, 3) := by decide +kernel
theorem dT_wrap_60 : decode prog_6_method_5_code 60 = .ok (.iload_n 1, 1) := by decide +kernel
theorem dT_wrap_61 : decode prog_6_method_5_code 61 = .ok (.invokevirtual 45, 3) := by decide +kernel
theorem dT_wrap_64 : decode prog_6_method_5_code 64 = .ok (.aload_n 0, 1) := by decide +kernel
theorem dT_wrap_65 : decode prog_6_method_5_code 65 = .ok (.dup, 1) := by decide +kernel
theorem dT_wrap_66 : decode prog_6_method_5_code 66 = .ok (.getfield 34, 3) := by decide +kernel
theorem dT_wrap_69 : decode prog_6_method_5_code 69 = .ok (.iconst 1, 1) := by decide +kernel
theorem dT_wrap_70 : decode prog_6_method_5_code 70 = .ok (.iadd, 1) := by decide +kernel
theorem dT_wrap_71 : decode prog_6_method_5_code 71 = .ok (.putfield 34, 3) := by decide +kernel
theorem dT_wrap_74 : decode prog_6_method_5_code 74 = .ok (.aload_n 0, 1) := by decide +kernel
theorem dT_wrap_75 : decode prog_6_method_5_code 75 = .ok (.getfield 15, 3) := by decide +kernel
theorem dT_wrap_78 : decode prog_6_method_5_code 78 = .ok (.iload_n 1, 1) := by decide +kernel
theorem dT_wrap_79 : decode prog_6_method_5_code 79 = .ok (.iload_n 2, 1) := by decide +kernel
theorem dT_wrap_80 : decode prog_6_method_5_code 80 = .ok (.iastore, 1) := by decide +kernel
theorem dT_wrap_81 : decode prog_6_method_5_code 81 = .ok (.return_, 1) := by decide +kernel
theorem dT_shift_0 : decode prog_6_method_6_code 0 = .ok (.aload_n 1, 1) := by decide +kernel
theorem dT_shift_1 : decode prog_6_method_6_code 1 = .ok (.iload_n 2, 1) := by decide +kernel
theorem dT_shift_2 : decode prog_6_method_6_code 2 = .ok (.aload_n 1, 1) := by decide +kernel
theorem dT_shift_3 : decode prog_6_method_6_code 3 = .ok (.iload_n 2, 1) := by decide +kernel
theorem dT_shift_4 : decode prog_6_method_6_code 4 = .ok (.iconst 1, 1) := by decide +kernel
theorem dT_shift_5 : decode prog_6_method_6_code 5 = .ok (.iadd, 1) := by decide +kernel
theorem dT_shift_6 : decode prog_6_method_6_code 6 = .ok (.aload_n 0, 1) := by decide +kernel
theorem dT_shift_7 : decode prog_6_method_6_code 7 = .ok (.getfield 34, 3) := by decide +kernel
theorem dT_shift_10 : decode prog_6_method_6_code 10 = .ok (.iload_n 2, 1) := by decide +kernel
theorem dT_shift_11 : decode prog_6_method_6_code 11 = .ok (.isub, 1) := by decide +kernel
theorem dT_shift_12 : decode prog_6_method_6_code 12 = .ok (.invokestatic 49, 3) := by decide +kernel
theorem dT_shift_15 : decode prog_6_method_6_code 15 = .ok (.return_, 1) := by decide +kernel
theorem dT_close_0 : decode prog_6_method_7_code 0 = .ok (.aload_n 0, 1) := by decide +kernel
theorem dT_close_1 : decode prog_6_method_7_code 1 = .ok (.iload_n 1, 1) := by decide +kernel
theorem dT_close_2 : decode prog_6_method_7_code 2 = .ok (.invokevirtual 41, 3) := by decide +kernel
theorem dT_close_5 : decode prog_6_method_7_code 5 = .ok (.ifCond .eq 15, 3) := by decide +kernel
theorem dT_close_8 : decode prog_6_method_7_code 8 = .ok (.aload_n 0, 1) := by decide +kernel
theorem dT_close_9 : decode prog_6_method_7_code 9 = .ok (.getfield 19, 3) := by decide +kernel
theorem dT_close_12 : decode prog_6_method_7_code 12 = .ok (.iload_n 1, 1) := by decide +kernel
theorem dT_close_13 : decode prog_6_method_7_code 13 = .ok (.aload_n 0, 1) := by decide +kernel
theorem dT_close_14 : decode prog_6_method_7_code 14 = .ok (.getfield 34, 3) := by decide +kernel
theorem dT_close_17 : decode prog_6_method_7_code 17 = .ok (.iload_n 1, 1) := by decide +kernel
theorem dT_close_18 : decode prog_6_method_7_code 18 = .ok (.isub, 1) := by decide +kernel
theorem dT_close_19 : decode prog_6_method_7_code 19 = .ok (.iastore, 1) := by decide +kernel
theorem dT_close_20 : decode prog_6_method_7_code 20 = .ok (.return_, 1) := by decide +kernel
theorem dT_finish_0 : decode prog_6_method_8_code 0 = .ok (.aload_n 0, 1) := by decide +kernel
theorem dT_finish_1 : decode prog_6_method_8_code 1 = .ok (.getfield 22, 3) := by decide +kernel
theorem dT_finish_4 : decode prog_6_method_8_code 4 = .ok (.aload_n 0, 1) := by decide +kernel
theorem dT_finish_5 : decode prog_6_method_8_code 5 = .ok (.getfield 34, 3) := by decide +kernel
theorem dT_finish_8 : decode prog_6_method_8_code 8 = .ok (.aload_n 0, 1) := by decide +kernel
theorem dT_finish_9 : decode prog_6_method_8_code 9 = .ok (.getfield 9, 3) := by decide +kernel
theorem dT_finish_12 : decode prog_6_method_8_code 12 = .ok (.getfield 55, 3) := by decide +kernel
theorem dT_finish_15 : decode prog_6_method_8_code 15 = .ok (.iastore, 1) := by decide +kernel
theorem dT_finish_16 : decode prog_6_method_8_code 16 = .ok (.aload_n 0, 1) := by decide +kernel
theorem dT_finish_17 : decode prog_6_method_8_code 17 = .ok (.getfield 28, 3) := by decide +kernel
theorem dT_finish_20 : decode prog_6_method_8_code 20 = .ok (.aload_n 0, 1) := by decide +kernel
theorem dT_finish_21 : decode prog_6_method_8_code 21 = .ok (.getfield 34, 3) := by decide +kernel
theorem dT_finish_24 : decode prog_6_method_8_code 24 = .ok (.aload_n 0, 1) := by decide +kernel
theorem dT_finish_25 : decode prog_6_method_8_code 25 = .ok (.getfield 38, 3) := by decide +kernel
theorem dT_finish_28 : decode prog_6_method_8_code 28 = .ok (.iastore, 1) := by decide +kernel
theorem dT_finish_29 : decode prog_6_method_8_code 29 = .ok (.return_, 1) := by decide +kernel
theorem dT_has_0 : decode prog_6_method_9_code 0 = .ok (.iload_n 1, 1) := by decide +kernel
theorem dT_has_1 : decode prog_6_method_9_code 1 = .ok (.ifCond .lt 15, 3) := by decide +kernel
theorem dT_has_4 : decode prog_6_method_9_code 4 = .ok (.iload_n 1, 1) := by decide +kernel
theorem dT_has_5 : decode prog_6_method_9_code 5 = .ok (.aload_n 0, 1) := by decide +kernel
theorem dT_has_6 : decode prog_6_method_9_code 6 = .ok (.getfield 34, 3) := by decide +kernel
theorem dT_has_9 : decode prog_6_method_9_code 9 = .ok (.if_icmp .ge 7, 3) := by decide +kernel
theorem dT_has_12 : decode prog_6_method_9_code 12 = .ok (.iconst 1, 1) := by decide +kernel
theorem dT_has_13 : decode prog_6_method_9_code 13 = .ok (.goto 4, 3) := by decide +kernel
theorem dT_has_16 : decode prog_6_method_9_code 16 = .ok (.iconst 0, 1) := by decide +kernel
theorem dT_has_17 : decode prog_6_method_9_code 17 = .ok (.ireturn, 1) := by decide +kernel
theorem dT_isLeaf_0 : decode prog_6_method_10_code 0 = .ok (.aload_n 0, 1) := by decide +kernel
theorem dT_isLeaf_1 : decode prog_6_method_10_code 1 = .ok (.getfield 15, 3) := by decide +kernel
theorem dT_isLeaf_4 : decode prog_6_method_10_code 4 = .ok (.iload_n 1, 1) := by decide +kernel
theorem dT_isLeaf_5 : decode prog_6_method_10_code 5 = .ok (.iaload, 1) := by decide +kernel
theorem dT_isLeaf_6 : decode prog_6_method_10_code 6 = .ok (.bipush 20, 2) := by decide +kernel
theorem dT_isLeaf_8 : decode prog_6_method_10_code 8 = .ok (.if_icmp .ge 7, 3) := by decide +kernel
theorem dT_isLeaf_11 : decode prog_6_method_10_code 11 = .ok (.iconst 1, 1) := by decide +kernel
theorem dT_isLeaf_12 : decode prog_6_method_10_code 12 = .ok (.goto 4, 3) := by decide +kernel
theorem dT_isLeaf_15 : decode prog_6_method_10_code 15 = .ok (.iconst 0, 1) := by decide +kernel
theorem dT_isLeaf_16 : decode prog_6_method_10_code 16 = .ok (.ireturn, 1) := by decide +kernel
theorem dT_isStatement_0 : decode prog_6_method_11_code 0 = .ok (.aload_n 0, 1) := by decide +kernel
theorem dT_isStatement_1 : decode prog_6_method_11_code 1 = .ok (.getfield 15, 3) := by decide +kernel
theorem dT_isStatement_4 : decode prog_6_method_11_code 4 = .ok (.iload_n 1, 1) := by decide +kernel
theorem dT_isStatement_5 : decode prog_6_method_11_code 5 = .ok (.iaload, 1) := by decide +kernel
theorem dT_isStatement_6 : decode prog_6_method_11_code 6 = .ok (.bipush 21, 2) := by decide +kernel
theorem dT_isStatement_8 : decode prog_6_method_11_code 8 = .ok (.if_icmp .lt 18, 3) := by decide +kernel
theorem dT_isStatement_11 : decode prog_6_method_11_code 11 = .ok (.aload_n 0, 1) := by decide +kernel
theorem dT_isStatement_12 : decode prog_6_method_11_code 12 = .ok (.getfield 15, 3) := by decide +kernel
theorem dT_isStatement_15 : decode prog_6_method_11_code 15 = .ok (.iload_n 1, 1) := by decide +kernel
theorem dT_isStatement_16 : decode prog_6_method_11_code 16 = .ok (.iaload, 1) := by decide +kernel
theorem dT_isStatement_17 : decode prog_6_method_11_code 17 = .ok (.bipush 25, 2) := by decide +kernel
theorem dT_isStatement_19 : decode prog_6_method_11_code 19 = .ok (.if_icmp .gt 7, 3) := by decide +kernel
theorem dT_isStatement_22 : decode prog_6_method_11_code 22 = .ok (.iconst 1, 1) := by decide +kernel
theorem dT_isStatement_23 : decode prog_6_method_11_code 23 = .ok (.goto 4, 3) := by decide +kernel
theorem dT_isStatement_26 : decode prog_6_method_11_code 26 = .ok (.iconst 0, 1) := by decide +kernel
theorem dT_isStatement_27 : decode prog_6_method_11_code 27 = .ok (.ireturn, 1) := by decide +kernel
theorem dT_isMissing_0 : decode prog_6_method_12_code 0 = .ok (.aload_n 0, 1) := by decide +kernel
theorem dT_isMissing_1 : decode prog_6_method_12_code 1 = .ok (.iload_n 1, 1) := by decide +kernel
theorem dT_isMissing_2 : decode prog_6_method_12_code 2 = .ok (.invokevirtual 60, 3) := by decide +kernel
theorem dT_isMissing_5 : decode prog_6_method_12_code 5 = .ok (.ifCond .eq 26, 3) := by decide +kernel
theorem dT_isMissing_8 : decode prog_6_method_12_code 8 = .ok (.aload_n 0, 1) := by decide +kernel
theorem dT_isMissing_9 : decode prog_6_method_12_code 9 = .ok (.getfield 15, 3) := by decide +kernel
theorem dT_isMissing_12 : decode prog_6_method_12_code 12 = .ok (.iload_n 1, 1) := by decide +kernel
theorem dT_isMissing_13 : decode prog_6_method_12_code 13 = .ok (.iaload, 1) := by decide +kernel
theorem dT_isMissing_14 : decode prog_6_method_12_code 14 = .ok (.bipush 17, 2) := by decide +kernel
theorem dT_isMissing_16 : decode prog_6_method_12_code 16 = .ok (.if_icmp .eq 15, 3) := by decide +kernel
theorem dT_isMissing_19 : decode prog_6_method_12_code 19 = .ok (.aload_n 0, 1) := by decide +kernel
theorem dT_isMissing_20 : decode prog_6_method_12_code 20 = .ok (.iload_n 1, 1) := by decide +kernel
theorem dT_isMissing_21 : decode prog_6_method_12_code 21 = .ok (.invokevirtual 63, 3) := by decide +kernel
theorem dT_isMissing_24 : decode prog_6_method_12_code 24 = .ok (.ifCond .ne 7, 3) := by decide +kernel
theorem dT_isMissing_27 : decode prog_6_method_12_code 27 = .ok (.iconst 1, 1) := by decide +kernel
theorem dT_isMissing_28 : decode prog_6_method_12_code 28 = .ok (.goto 4, 3) := by decide +kernel
theorem dT_isMissing_31 : decode prog_6_method_12_code 31 = .ok (.iconst 0, 1) := by decide +kernel
theorem dT_isMissing_32 : decode prog_6_method_12_code 32 = .ok (.ireturn, 1) := by decide +kernel
theorem dT_stretchOf_0 : decode prog_6_method_13_code 0 = .ok (.aload_n 0, 1) := by decide +kernel
theorem dT_stretchOf_1 : decode prog_6_method_13_code 1 = .ok (.getfield 22, 3) := by decide +kernel
theorem dT_stretchOf_4 : decode prog_6_method_13_code 4 = .ok (.iload_n 1, 1) := by decide +kernel
theorem dT_stretchOf_5 : decode prog_6_method_13_code 5 = .ok (.aload_n 0, 1) := by decide +kernel
theorem dT_stretchOf_6 : decode prog_6_method_13_code 6 = .ok (.getfield 19, 3) := by decide +kernel
theorem dT_stretchOf_9 : decode prog_6_method_13_code 9 = .ok (.iload_n 1, 1) := by decide +kernel
theorem dT_stretchOf_10 : decode prog_6_method_13_code 10 = .ok (.iaload, 1) := by decide +kernel
theorem dT_stretchOf_11 : decode prog_6_method_13_code 11 = .ok (.iadd, 1) := by decide +kernel
theorem dT_stretchOf_12 : decode prog_6_method_13_code 12 = .ok (.iaload, 1) := by decide +kernel
theorem dT_stretchOf_13 : decode prog_6_method_13_code 13 = .ok (.aload_n 0, 1) := by decide +kernel
theorem dT_stretchOf_14 : decode prog_6_method_13_code 14 = .ok (.getfield 22, 3) := by decide +kernel
theorem dT_stretchOf_17 : decode prog_6_method_13_code 17 = .ok (.iload_n 1, 1) := by decide +kernel
theorem dT_stretchOf_18 : decode prog_6_method_13_code 18 = .ok (.iaload, 1) := by decide +kernel
theorem dT_stretchOf_19 : decode prog_6_method_13_code 19 = .ok (.isub, 1) := by decide +kernel
theorem dT_stretchOf_20 : decode prog_6_method_13_code 20 = .ok (.ireturn, 1) := by decide +kernel
theorem dT_faultsIn_0 : decode prog_6_method_14_code 0 = .ok (.aload_n 0, 1) := by decide +kernel
theorem dT_faultsIn_1 : decode prog_6_method_14_code 1 = .ok (.getfield 28, 3) := by decide +kernel
theorem dT_faultsIn_4 : decode prog_6_method_14_code 4 = .ok (.iload_n 1, 1) := by decide +kernel
theorem dT_faultsIn_5 : decode prog_6_method_14_code 5 = .ok (.aload_n 0, 1) := by decide +kernel
theorem dT_faultsIn_6 : decode prog_6_method_14_code 6 = .ok (.getfield 19, 3) := by decide +kernel
theorem dT_faultsIn_9 : decode prog_6_method_14_code 9 = .ok (.iload_n 1, 1) := by decide +kernel
theorem dT_faultsIn_10 : decode prog_6_method_14_code 10 = .ok (.iaload, 1) := by decide +kernel
theorem dT_faultsIn_11 : decode prog_6_method_14_code 11 = .ok (.iadd, 1) := by decide +kernel
theorem dT_faultsIn_12 : decode prog_6_method_14_code 12 = .ok (.iaload, 1) := by decide +kernel
theorem dT_faultsIn_13 : decode prog_6_method_14_code 13 = .ok (.aload_n 0, 1) := by decide +kernel
theorem dT_faultsIn_14 : decode prog_6_method_14_code 14 = .ok (.getfield 28, 3) := by decide +kernel
theorem dT_faultsIn_17 : decode prog_6_method_14_code 17 = .ok (.iload_n 1, 1) := by decide +kernel
theorem dT_faultsIn_18 : decode prog_6_method_14_code 18 = .ok (.iaload, 1) := by decide +kernel
theorem dT_faultsIn_19 : decode prog_6_method_14_code 19 = .ok (.isub, 1) := by decide +kernel
theorem dT_faultsIn_20 : decode prog_6_method_14_code 20 = .ok (.ireturn, 1) := by decide +kernel
theorem dT_ownPlaceOf_0 : decode prog_6_method_15_code 0 = .ok (.iload_n 1, 1) := by decide +kernel
theorem dT_ownPlaceOf_1 : decode prog_6_method_15_code 1 = .ok (.istore_n 2, 1) := by decide +kernel
theorem dT_ownPlaceOf_2 : decode prog_6_method_15_code 2 = .ok (.iload_n 2, 1) := by decide +kernel
theorem dT_ownPlaceOf_3 : decode prog_6_method_15_code 3 = .ok (.aload_n 0, 1) := by decide +kernel
theorem dT_ownPlaceOf_4 : decode prog_6_method_15_code 4 = .ok (.getfield 34, 3) := by decide +kernel
theorem dT_ownPlaceOf_7 : decode prog_6_method_15_code 7 = .ok (.iconst 1, 1) := by decide +kernel
theorem dT_ownPlaceOf_8 : decode prog_6_method_15_code 8 = .ok (.isub, 1) := by decide +kernel
theorem dT_ownPlaceOf_9 : decode prog_6_method_15_code 9 = .ok (.if_icmp .ge 17, 3) := by decide +kernel
theorem dT_ownPlaceOf_12 : decode prog_6_method_15_code 12 = .ok (.aload_n 0, 1) := by decide +kernel
theorem dT_ownPlaceOf_13 : decode prog_6_method_15_code 13 = .ok (.iload_n 2, 1) := by decide +kernel
theorem dT_ownPlaceOf_14 : decode prog_6_method_15_code 14 = .ok (.invokevirtual 60, 3) := by decide +kernel
theorem dT_ownPlaceOf_17 : decode prog_6_method_15_code 17 = .ok (.ifCond .ne 9, 3) := by decide +kernel
theorem dT_ownPlaceOf_20 : decode prog_6_method_15_code 20 = .ok (.iinc 2 1, 3) := by decide +kernel
theorem dT_ownPlaceOf_23 : decode prog_6_method_15_code 23 = .ok (.goto (-21), 3) := by decide +kernel
theorem dT_ownPlaceOf_26 : decode prog_6_method_15_code 26 = .ok (.aload_n 0, 1) := by decide +kernel
theorem dT_ownPlaceOf_27 : decode prog_6_method_15_code 27 = .ok (.getfield 25, 3) := by decide +kernel
theorem dT_ownPlaceOf_30 : decode prog_6_method_15_code 30 = .ok (.iload_n 2, 1) := by decide +kernel
theorem dT_ownPlaceOf_31 : decode prog_6_method_15_code 31 = .ok (.iaload, 1) := by decide +kernel
theorem dT_ownPlaceOf_32 : decode prog_6_method_15_code 32 = .ok (.ireturn, 1) := by decide +kernel
theorem dT_childrenOf_0 : decode prog_6_method_16_code 0 = .ok (.iload_n 1, 1) := by decide +kernel
theorem dT_childrenOf_1 : decode prog_6_method_16_code 1 = .ok (.aload_n 0, 1) := by decide +kernel
theorem dT_childrenOf_2 : decode prog_6_method_16_code 2 = .ok (.getfield 19, 3) := by decide +kernel
theorem dT_childrenOf_5 : decode prog_6_method_16_code 5 = .ok (.iload_n 1, 1) := by decide +kernel
theorem dT_childrenOf_6 : decode prog_6_method_16_code 6 = .ok (.iaload, 1) := by decide +kernel
theorem dT_childrenOf_7 : decode prog_6_method_16_code 7 = .ok (.iadd, 1) := by decide +kernel
theorem dT_childrenOf_8 : decode prog_6_method_16_code 8 = .ok (.istore_n 2, 1) := by decide +kernel
theorem dT_childrenOf_9 : decode prog_6_method_16_code 9 = .ok (.iload_n 1, 1) := by decide +kernel
theorem dT_childrenOf_10 : decode prog_6_method_16_code 10 = .ok (.iconst 1, 1) := by decide +kernel
theorem dT_childrenOf_11 : decode prog_6_method_16_code 11 = .ok (.iadd, 1) := by decide +kernel
theorem dT_childrenOf_12 : decode prog_6_method_16_code 12 = .ok (.istore_n 3, 1) := by decide +kernel
theorem dT_childrenOf_13 : decode prog_6_method_16_code 13 = .ok (.iconst 0, 1) := by decide +kernel
theorem dT_childrenOf_14 : decode prog_6_method_16_code 14 = .ok (.istore 4, 2) := by decide +kernel
theorem dT_childrenOf_16 : decode prog_6_method_16_code 16 = .ok (.iload_n 3, 1) := by decide +kernel
theorem dT_childrenOf_17 : decode prog_6_method_16_code 17 = .ok (.iload_n 2, 1) := by decide +kernel
theorem dT_childrenOf_18 : decode prog_6_method_16_code 18 = .ok (.if_icmp .ge 27, 3) := by decide +kernel
theorem dT_childrenOf_21 : decode prog_6_method_16_code 21 = .ok (.iload 4, 2) := by decide +kernel
theorem dT_childrenOf_23 : decode prog_6_method_16_code 23 = .ok (.aload_n 0, 1) := by decide +kernel
theorem dT_childrenOf_24 : decode prog_6_method_16_code 24 = .ok (.getfield 34, 3) := by decide +kernel
theorem dT_childrenOf_27 : decode prog_6_method_16_code 27 = .ok (.if_icmp .ge 18, 3) := by decide +kernel
theorem dT_childrenOf_30 : decode prog_6_method_16_code 30 = .ok (.iload_n 3, 1) := by decide +kernel
theorem dT_childrenOf_31 : decode prog_6_method_16_code 31 = .ok (.aload_n 0, 1) := by decide +kernel
theorem dT_childrenOf_32 : decode prog_6_method_16_code 32 = .ok (.getfield 19, 3) := by decide +kernel
theorem dT_childrenOf_35 : decode prog_6_method_16_code 35 = .ok (.iload_n 3, 1) := by decide +kernel
theorem dT_childrenOf_36 : decode prog_6_method_16_code 36 = .ok (.iaload, 1) := by decide +kernel
theorem dT_childrenOf_37 : decode prog_6_method_16_code 37 = .ok (.iadd, 1) := by decide +kernel
theorem dT_childrenOf_38 : decode prog_6_method_16_code 38 = .ok (.istore_n 3, 1) := by decide +kernel
theorem dT_childrenOf_39 : decode prog_6_method_16_code 39 = .ok (.iinc 4 1, 3) := by decide +kernel
theorem dT_childrenOf_42 : decode prog_6_method_16_code 42 = .ok (.goto (-26), 3) := by decide +kernel
theorem dT_childrenOf_45 : decode prog_6_method_16_code 45 = .ok (.iload 4, 2) := by decide +kernel
theorem dT_childrenOf_47 : decode prog_6_method_16_code 47 = .ok (.ireturn, 1) := by decide +kernel
theorem dT_childOf_0 : decode prog_6_method_17_code 0 = .ok (.iload_n 2, 1) := by decide +kernel
theorem dT_childOf_1 : decode prog_6_method_17_code 1 = .ok (.ifCond .lt 11, 3) := by decide +kernel
theorem dT_childOf_4 : decode prog_6_method_17_code 4 = .ok (.iload_n 2, 1) := by decide +kernel
theorem dT_childOf_5 : decode prog_6_method_17_code 5 = .ok (.aload_n 0, 1) := by decide +kernel
theorem dT_childOf_6 : decode prog_6_method_17_code 6 = .ok (.getfield 34, 3) := by decide +kernel
theorem dT_childOf_9 : decode prog_6_method_17_code 9 = .ok (.if_icmp .lt 5, 3) := by decide +kernel
theorem dT_childOf_12 : decode prog_6_method_17_code 12 = .ok (.iconst (-1), 1) := by decide +kernel
theorem dT_childOf_13 : decode prog_6_method_17_code 13 = .ok (.ireturn, 1) := by decide +kernel
theorem dT_childOf_14 : decode prog_6_method_17_code 14 = .ok (.iload_n 1, 1) := by decide +kernel
theorem dT_childOf_15 : decode prog_6_method_17_code 15 = .ok (.aload_n 0, 1) := by decide +kernel
theorem dT_childOf_16 : decode prog_6_method_17_code 16 = .ok (.getfield 19, 3) := by decide +kernel
theorem dT_childOf_19 : decode prog_6_method_17_code 19 = .ok (.iload_n 1, 1) := by decide +kernel
theorem dT_childOf_20 : decode prog_6_method_17_code 20 = .ok (.iaload, 1) := by decide +kernel
theorem dT_childOf_21 : decode prog_6_method_17_code 21 = .ok (.iadd, 1) := by decide +kernel
theorem dT_childOf_22 : decode prog_6_method_17_code 22 = .ok (.istore_n 3, 1) := by decide +kernel
theorem dT_childOf_23 : decode prog_6_method_17_code 23 = .ok (.iload_n 1, 1) := by decide +kernel
theorem dT_childOf_24 : decode prog_6_method_17_code 24 = .ok (.iconst 1, 1) := by decide +kernel
theorem dT_childOf_25 : decode prog_6_method_17_code 25 = .ok (.iadd, 1) := by decide +kernel
theorem dT_childOf_26 : decode prog_6_method_17_code 26 = .ok (.istore 4, 2) := by decide +kernel
theorem dT_childOf_28 : decode prog_6_method_17_code 28 = .ok (.iconst 0, 1) := by decide +kernel
theorem dT_childOf_29 : decode prog_6_method_17_code 29 = .ok (.istore 5, 2) := by decide +kernel
theorem dT_childOf_31 : decode prog_6_method_17_code 31 = .ok (.iload 5, 2) := by decide +kernel
theorem dT_childOf_33 : decode prog_6_method_17_code 33 = .ok (.iload_n 2, 1) := by decide +kernel
theorem dT_childOf_34 : decode prog_6_method_17_code 34 = .ok (.if_icmp .ge 27, 3) := by decide +kernel
theorem dT_childOf_37 : decode prog_6_method_17_code 37 = .ok (.iload 4, 2) := by decide +kernel
theorem dT_childOf_39 : decode prog_6_method_17_code 39 = .ok (.iload_n 3, 1) := by decide +kernel
theorem dT_childOf_40 : decode prog_6_method_17_code 40 = .ok (.if_icmp .ge 21, 3) := by decide +kernel
theorem dT_childOf_43 : decode prog_6_method_17_code 43 = .ok (.iload 4, 2) := by decide +kernel
theorem dT_childOf_45 : decode prog_6_method_17_code 45 = .ok (.aload_n 0, 1) := by decide +kernel
theorem dT_childOf_46 : decode prog_6_method_17_code 46 = .ok (.getfield 19, 3) := by decide +kernel
theorem dT_childOf_49 : decode prog_6_method_17_code 49 = .ok (.iload 4, 2) := by decide +kernel
theorem dT_childOf_51 : decode prog_6_method_17_code 51 = .ok (.iaload, 1) := by decide +kernel
theorem dT_childOf_52 : decode prog_6_method_17_code 52 = .ok (.iadd, 1) := by decide +kernel
theorem dT_childOf_53 : decode prog_6_method_17_code 53 = .ok (.istore 4, 2) := by decide +kernel
theorem dT_childOf_55 : decode prog_6_method_17_code 55 = .ok (.iinc 5 1, 3) := by decide +kernel
theorem dT_childOf_58 : decode prog_6_method_17_code 58 = .ok (.goto (-27), 3) := by decide +kernel
theorem dT_childOf_61 : decode prog_6_method_17_code 61 = .ok (.iload 4, 2) := by decide +kernel
theorem dT_childOf_63 : decode prog_6_method_17_code 63 = .ok (.iload_n 3, 1) := by decide +kernel
theorem dT_childOf_64 : decode prog_6_method_17_code 64 = .ok (.if_icmp .ge 8, 3) := by decide +kernel
theorem dT_childOf_67 : decode prog_6_method_17_code 67 = .ok (.iload 4, 2) := by decide +kernel
theorem dT_childOf_69 : decode prog_6_method_17_code 69 = .ok (.goto 4, 3) := by decide +kernel
theorem dT_childOf_72 : decode prog_6_method_17_code 72 = .ok (.iconst (-1), 1) := by decide +kernel
theorem dT_childOf_73 : decode prog_6_method_17_code 73 = .ok (.ireturn, 1) := by decide +kernel
theorem dT_parentOf_0 : decode prog_6_method_18_code 0 = .ok (.iload_n 1, 1) := by decide +kernel
theorem dT_parentOf_1 : decode prog_6_method_18_code 1 = .ok (.iconst 1, 1) := by decide +kernel
theorem dT_parentOf_2 : decode prog_6_method_18_code 2 = .ok (.isub, 1) := by decide +kernel
theorem dT_parentOf_3 : decode prog_6_method_18_code 3 = .ok (.istore_n 2, 1) := by decide +kernel
theorem dT_parentOf_4 : decode prog_6_method_18_code 4 = .ok (.iload_n 2, 1) := by decide +kernel
theorem dT_parentOf_5 : decode prog_6_method_18_code 5 = .ok (.ifCond .lt 23, 3) := by decide +kernel
theorem dT_parentOf_8 : decode prog_6_method_18_code 8 = .ok (.iload_n 2, 1) := by decide +kernel
theorem dT_parentOf_9 : decode prog_6_method_18_code 9 = .ok (.aload_n 0, 1) := by decide +kernel
theorem dT_parentOf_10 : decode prog_6_method_18_code 10 = .ok (.getfield 19, 3) := by decide +kernel
theorem dT_parentOf_13 : decode prog_6_method_18_code 13 = .ok (.iload_n 2, 1) := by decide +kernel
theorem dT_parentOf_14 : decode prog_6_method_18_code 14 = .ok (.iaload, 1) := by decide +kernel
theorem dT_parentOf_15 : decode prog_6_method_18_code 15 = .ok (.iadd, 1) := by decide +kernel
theorem dT_parentOf_16 : decode prog_6_method_18_code 16 = .ok (.iload_n 1, 1) := by decide +kernel
theorem dT_parentOf_17 : decode prog_6_method_18_code 17 = .ok (.if_icmp .le 5, 3) := by decide +kernel
theorem dT_parentOf_20 : decode prog_6_method_18_code 20 = .ok (.iload_n 2, 1) := by decide +kernel
theorem dT_parentOf_21 : decode prog_6_method_18_code 21 = .ok (.ireturn, 1) := by decide +kernel
theorem dT_parentOf_22 : decode prog_6_method_18_code 22 = .ok (.iinc 2 (-1), 3) := by decide +kernel
theorem dT_parentOf_25 : decode prog_6_method_18_code 25 = .ok (.goto (-21), 3) := by decide +kernel
theorem dT_parentOf_28 : decode prog_6_method_18_code 28 = .ok (.iconst (-1), 1) := by decide +kernel
theorem dT_parentOf_29 : decode prog_6_method_18_code 29 = .ok (.ireturn, 1) := by decide +kernel
theorem dT_leafAt_0 : decode prog_6_method_19_code 0 = .ok (.iload_n 1, 1) := by decide +kernel
theorem dT_leafAt_1 : decode prog_6_method_19_code 1 = .ok (.ifCond .lt 14, 3) := by decide +kernel
theorem dT_leafAt_4 : decode prog_6_method_19_code 4 = .ok (.iload_n 1, 1) := by decide +kernel
theorem dT_leafAt_5 : decode prog_6_method_19_code 5 = .ok (.aload_n 0, 1) := by decide +kernel
theorem dT_leafAt_6 : decode prog_6_method_19_code 6 = .ok (.getfield 9, 3) := by decide +kernel
theorem dT_leafAt_9 : decode prog_6_method_19_code 9 = .ok (.getfield 55, 3) := by decide +kernel
theorem dT_leafAt_12 : decode prog_6_method_19_code 12 = .ok (.if_icmp .le 5, 3) := by decide +kernel
theorem dT_leafAt_15 : decode prog_6_method_19_code 15 = .ok (.iconst (-1), 1) := by decide +kernel
theorem dT_leafAt_16 : decode prog_6_method_19_code 16 = .ok (.ireturn, 1) := by decide +kernel
theorem dT_leafAt_17 : decode prog_6_method_19_code 17 = .ok (.iconst 0, 1) := by decide +kernel
theorem dT_leafAt_18 : decode prog_6_method_19_code 18 = .ok (.istore_n 2, 1) := by decide +kernel
theorem dT_leafAt_19 : decode prog_6_method_19_code 19 = .ok (.iload_n 2, 1) := by decide +kernel
theorem dT_leafAt_20 : decode prog_6_method_19_code 20 = .ok (.aload_n 0, 1) := by decide +kernel
theorem dT_leafAt_21 : decode prog_6_method_19_code 21 = .ok (.getfield 34, 3) := by decide +kernel
theorem dT_leafAt_24 : decode prog_6_method_19_code 24 = .ok (.if_icmp .ge 31, 3) := by decide +kernel
theorem dT_leafAt_27 : decode prog_6_method_19_code 27 = .ok (.aload_n 0, 1) := by decide +kernel
theorem dT_leafAt_28 : decode prog_6_method_19_code 28 = .ok (.iload_n 2, 1) := by decide +kernel
theorem dT_leafAt_29 : decode prog_6_method_19_code 29 = .ok (.invokevirtual 60, 3) := by decide +kernel
theorem dT_leafAt_32 : decode prog_6_method_19_code 32 = .ok (.ifCond .eq 17, 3) := by decide +kernel
theorem dT_leafAt_35 : decode prog_6_method_19_code 35 = .ok (.iload_n 1, 1) := by decide +kernel
theorem dT_leafAt_36 : decode prog_6_method_19_code 36 = .ok (.aload_n 0, 1) := by decide +kernel
theorem dT_leafAt_37 : decode prog_6_method_19_code 37 = .ok (.getfield 22, 3) := by decide +kernel
theorem dT_leafAt_40 : decode prog_6_method_19_code 40 = .ok (.iload_n 2, 1) := by decide +kernel
theorem dT_leafAt_41 : decode prog_6_method_19_code 41 = .ok (.iconst 1, 1) := by decide +kernel
theorem dT_leafAt_42 : decode prog_6_method_19_code 42 = .ok (.iadd, 1) := by decide +kernel
theorem dT_leafAt_43 : decode prog_6_method_19_code 43 = .ok (.iaload, 1) := by decide +kernel
theorem dT_leafAt_44 : decode prog_6_method_19_code 44 = .ok (.if_icmp .ge 5, 3) := by decide +kernel
theorem dT_leafAt_47 : decode prog_6_method_19_code 47 = .ok (.iload_n 2, 1) := by decide +kernel
theorem dT_leafAt_48 : decode prog_6_method_19_code 48 = .ok (.ireturn, 1) := by decide +kernel
theorem dT_leafAt_49 : decode prog_6_method_19_code 49 = .ok (.iinc 2 1, 3) := by decide +kernel
theorem dT_leafAt_52 : decode prog_6_method_19_code 52 = .ok (.goto (-33), 3) := by decide +kernel
theorem dT_leafAt_55 : decode prog_6_method_19_code 55 = .ok (.aload_n 0, 1) := by decide +kernel
theorem dT_leafAt_56 : decode prog_6_method_19_code 56 = .ok (.getfield 34, 3) := by decide +kernel
theorem dT_leafAt_59 : decode prog_6_method_19_code 59 = .ok (.iconst 1, 1) := by decide +kernel
theorem dT_leafAt_60 : decode prog_6_method_19_code 60 = .ok (.isub, 1) := by decide +kernel
theorem dT_leafAt_61 : decode prog_6_method_19_code 61 = .ok (.ireturn, 1) := by decide +kernel
theorem dT_leafCount_0 : decode prog_6_method_20_code 0 = .ok (.iconst 0, 1) := by decide +kernel
theorem dT_leafCount_1 : decode prog_6_method_20_code 1 = .ok (.istore_n 1, 1) := by decide +kernel
theorem dT_leafCount_2 : decode prog_6_method_20_code 2 = .ok (.iconst 0, 1) := by decide +kernel
theorem dT_leafCount_3 : decode prog_6_method_20_code 3 = .ok (.istore_n 2, 1) := by decide +kernel
theorem dT_leafCount_4 : decode prog_6_method_20_code 4 = .ok (.iload_n 2, 1) := by decide +kernel
theorem dT_leafCount_5 : decode prog_6_method_20_code 5 = .ok (.aload_n 0, 1) := by decide +kernel
theorem dT_leafCount_6 : decode prog_6_method_20_code 6 = .ok (.getfield 34, 3) := by decide +kernel
theorem dT_leafCount_9 : decode prog_6_method_20_code 9 = .ok (.if_icmp .ge 20, 3) := by decide +kernel
theorem dT_leafCount_12 : decode prog_6_method_20_code 12 = .ok (.aload_n 0, 1) := by decide +kernel
theorem dT_leafCount_13 : decode prog_6_method_20_code 13 = .ok (.iload_n 2, 1) := by decide +kernel
theorem dT_leafCount_14 : decode prog_6_method_20_code 14 = .ok (.invokevirtual 60, 3) := by decide +kernel
theorem dT_leafCount_17 : decode prog_6_method_20_code 17 = .ok (.ifCond .eq 6, 3) := by decide +kernel
theorem dT_leafCount_20 : decode prog_6_method_20_code 20 = .ok (.iinc 1 1, 3) := by decide +kernel
theorem dT_leafCount_23 : decode prog_6_method_20_code 23 = .ok (.iinc 2 1, 3) := by decide +kernel
theorem dT_leafCount_26 : decode prog_6_method_20_code 26 = .ok (.goto (-22), 3) := by decide +kernel
theorem dT_leafCount_29 : decode prog_6_method_20_code 29 = .ok (.iload_n 1, 1) := by decide +kernel
theorem dT_leafCount_30 : decode prog_6_method_20_code 30 = .ok (.ireturn, 1) := by decide +kernel
