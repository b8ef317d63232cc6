/-! decode rows -/
theorem dR_statementFollows_0 : decode prog_4_method_10_code 0 = .ok (.aload_n 0, 1) := by decide +kernel
theorem dR_statementFollows_1 : decode prog_4_method_10_code 1 = .ok (.getfield 27, 3) := by decide +kernel
theorem dR_statementFollows_4 : decode prog_4_method_10_code 4 = .ok (.invokevirtual 81, 3) := by decide +kernel
theorem dR_statementFollows_7 : decode prog_4_method_10_code 7 = .ok (.istore_n 2, 1) := by decide +kernel
theorem dR_statementFollows_8 : decode prog_4_method_10_code 8 = .ok (.iload_n 2, 1) := by decide +kernel
theorem dR_statementFollows_9 : decode prog_4_method_10_code 9 = .ok (.iconst 3, 1) := by decide +kernel
theorem dR_statementFollows_10 : decode prog_4_method_10_code 10 = .ok (.if_icmp .eq 14, 3) := by decide +kernel
theorem dR_statementFollows_13 : decode prog_4_method_10_code 13 = .ok (.iload_n 2, 1) := by decide +kernel
theorem dR_statementFollows_14 : decode prog_4_method_10_code 14 = .ok (.iconst 5, 1) := by decide +kernel
theorem dR_statementFollows_15 : decode prog_4_method_10_code 15 = .ok (.if_icmp .eq 9, 3) := by decide +kernel
theorem dR_statementFollows_18 : decode prog_4_method_10_code 18 = .ok (.iload_n 2, 1) := by decide +kernel
theorem dR_statementFollows_19 : decode prog_4_method_10_code 19 = .ok (.bipush 7, 2) := by decide +kernel
theorem dR_statementFollows_21 : decode prog_4_method_10_code 21 = .ok (.if_icmp .ne 7, 3) := by decide +kernel
theorem dR_statementFollows_24 : decode prog_4_method_10_code 24 = .ok (.iconst 1, 1) := by decide +kernel
theorem dR_statementFollows_25 : decode prog_4_method_10_code 25 = .ok (.goto 4, 3) := by decide +kernel
theorem dR_statementFollows_28 : decode prog_4_method_10_code 28 = .ok (.iconst 0, 1) := by decide +kernel
theorem dR_statementFollows_29 : decode prog_4_method_10_code 29 = .ok (.istore_n 3, 1) := by decide +kernel
theorem dR_statementFollows_30 : decode prog_4_method_10_code 30 = .ok (.iload_n 2, 1) := by decide +kernel
theorem dR_statementFollows_31 : decode prog_4_method_10_code 31 = .ok (.invokestatic 98, 3) := by decide +kernel
theorem dR_statementFollows_34 : decode prog_4_method_10_code 34 = .ok (.ifCond .eq 17, 3) := by decide +kernel
theorem dR_statementFollows_37 : decode prog_4_method_10_code 37 = .ok (.iload_n 3, 1) := by decide +kernel
theorem dR_statementFollows_38 : decode prog_4_method_10_code 38 = .ok (.ifCond .eq 9, 3) := by decide +kernel
theorem dR_statementFollows_41 : decode prog_4_method_10_code 41 = .ok (.iload_n 1, 1) := by decide +kernel
theorem dR_statementFollows_42 : decode prog_4_method_10_code 42 = .ok (.bipush 6, 2) := by decide +kernel
theorem dR_statementFollows_44 : decode prog_4_method_10_code 44 = .ok (.if_icmp .ge 7, 3) := by decide +kernel
theorem dR_statementFollows_47 : decode prog_4_method_10_code 47 = .ok (.iconst 1, 1) := by decide +kernel
theorem dR_statementFollows_48 : decode prog_4_method_10_code 48 = .ok (.goto 4, 3) := by decide +kernel
theorem dR_statementFollows_51 : decode prog_4_method_10_code 51 = .ok (.iconst 0, 1) := by decide +kernel
theorem dR_statementFollows_52 : decode prog_4_method_10_code 52 = .ok (.ireturn, 1) := by decide +kernel
theorem dR_canBegin_0 : decode prog_4_method_11_code 0 = .ok (.iload_n 0, 1) := by decide +kernel
theorem dR_canBegin_1 : decode prog_4_method_11_code 1 = .ok (.tableswitch 65 1 12 #[63, 63, 63, 65, 63, 63, 63, 65, 63, 65, 65, 63], 63) := by decide +kernel
theorem dR_canBegin_64 : decode prog_4_method_11_code 64 = .ok (.iconst 1, 1) := by decide +kernel
theorem dR_canBegin_65 : decode prog_4_method_11_code 65 = .ok (.ireturn, 1) := by decide +kernel
theorem dR_canBegin_66 : decode prog_4_method_11_code 66 = .ok (.iconst 0, 1) := by decide +kernel
theorem dR_canBegin_67 : decode prog_4_method_11_code 67 = .ok (.ireturn, 1) := by decide +kernel
theorem dR_statement_0 : decode prog_4_method_12_code 0 = .ok (.aload_n 0, 1) := by decide +kernel
theorem dR_statement_1 : decode prog_4_method_12_code 1 = .ok (.getfield 27, 3) := by decide +kernel
theorem dR_statement_4 : decode prog_4_method_12_code 4 = .ok (.invokevirtual 81, 3) := by decide +kernel
theorem dR_statement_7 : decode prog_4_method_12_code 7 = .ok (.tableswitch 64 3 7 #[48, 64, 56, 33, 40], 33) := by decide +kernel
theorem dR_statement_40 : decode prog_4_method_12_code 40 = .ok (.aload_n 0, 1) := by decide +kernel
theorem dR_statement_41 : decode prog_4_method_12_code 41 = .ok (.invokevirtual 117, 3) := by decide +kernel
theorem dR_statement_44 : decode prog_4_method_12_code 44 = .ok (.goto 31, 3) := by decide +kernel
theorem dR_statement_47 : decode prog_4_method_12_code 47 = .ok (.aload_n 0, 1) := by decide +kernel
theorem dR_statement_48 : decode prog_4_method_12_code 48 = .ok (.iload_n 1, 1) := by decide +kernel
theorem dR_statement_49 : decode prog_4_method_12_code 49 = .ok (.invokevirtual 120, 3) := by decide +kernel
theorem dR_statement_52 : decode prog_4_method_12_code 52 = .ok (.goto 23, 3) := by decide +kernel
theorem dR_statement_55 : decode prog_4_method_12_code 55 = .ok (.aload_n 0, 1) := by decide +kernel
theorem dR_statement_56 : decode prog_4_method_12_code 56 = .ok (.iload_n 1, 1) := by decide +kernel
theorem dR_statement_57 : decode prog_4_method_12_code 57 = .ok (.invokevirtual 123, 3) := by decide +kernel
theorem dR_statement_60 : decode prog_4_method_12_code 60 = .ok (.goto 15, 3) := by decide +kernel
theorem dR_statement_63 : decode prog_4_method_12_code 63 = .ok (.aload_n 0, 1) := by decide +kernel
theorem dR_statement_64 : decode prog_4_method_12_code 64 = .ok (.iload_n 1, 1) := by decide +kernel
theorem dR_statement_65 : decode prog_4_method_12_code 65 = .ok (.invokevirtual 126, 3) := by decide +kernel
theorem dR_statement_68 : decode prog_4_method_12_code 68 = .ok (.goto 7, 3) := by decide +kernel
theorem dR_statement_71 : decode prog_4_method_12_code 71 = .ok (.aload_n 0, 1) := by decide +kernel
theorem dR_statement_72 : decode prog_4_method_12_code 72 = .ok (.invokevirtual 129, 3) := by decide +kernel
theorem dR_statement_75 : decode prog_4_method_12_code 75 = .ok (.return_, 1) := by decide +kernel
theorem dR_emptyStatement_0 : decode prog_4_method_13_code 0 = .ok (.aload_n 0, 1) := by decide +kernel
theorem dR_emptyStatement_1 : decode prog_4_method_13_code 1 = .ok (.bipush 25, 2) := by decide +kernel
theorem dR_emptyStatement_3 : decode prog_4_method_13_code 3 = .ok (.invokevirtual 60, 3) := by decide +kernel
theorem dR_emptyStatement_6 : decode prog_4_method_13_code 6 = .ok (.istore_n 1, 1) := by decide +kernel
theorem dR_emptyStatement_7 : decode prog_4_method_13_code 7 = .ok (.aload_n 0, 1) := by decide +kernel
theorem dR_emptyStatement_8 : decode prog_4_method_13_code 8 = .ok (.invokevirtual 68, 3) := by decide +kernel
theorem dR_emptyStatement_11 : decode prog_4_method_13_code 11 = .ok (.aload_n 0, 1) := by decide +kernel
theorem dR_emptyStatement_12 : decode prog_4_method_13_code 12 = .ok (.getfield 20, 3) := by decide +kernel
theorem dR_emptyStatement_15 : decode prog_4_method_13_code 15 = .ok (.iload_n 1, 1) := by decide +kernel
theorem dR_emptyStatement_16 : decode prog_4_method_13_code 16 = .ok (.invokevirtual 71, 3) := by decide +kernel
theorem dR_emptyStatement_19 : decode prog_4_method_13_code 19 = .ok (.return_, 1) := by decide +kernel
theorem dR_block_0 : decode prog_4_method_14_code 0 = .ok (.aload_n 0, 1) := by decide +kernel
theorem dR_block_1 : decode prog_4_method_14_code 1 = .ok (.bipush 21, 2) := by decide +kernel
theorem dR_block_3 : decode prog_4_method_14_code 3 = .ok (.invokevirtual 60, 3) := by decide +kernel
theorem dR_block_6 : decode prog_4_method_14_code 6 = .ok (.istore_n 2, 1) := by decide +kernel
theorem dR_block_7 : decode prog_4_method_14_code 7 = .ok (.aload_n 0, 1) := by decide +kernel
theorem dR_block_8 : decode prog_4_method_14_code 8 = .ok (.invokevirtual 68, 3) := by decide +kernel
theorem dR_block_11 : decode prog_4_method_14_code 11 = .ok (.aload_n 0, 1) := by decide +kernel
theorem dR_block_12 : decode prog_4_method_14_code 12 = .ok (.iload_n 1, 1) := by decide +kernel
theorem dR_block_13 : decode prog_4_method_14_code 13 = .ok (.iconst 1, 1) := by decide +kernel
theorem dR_block_14 : decode prog_4_method_14_code 14 = .ok (.iadd, 1) := by decide +kernel
theorem dR_block_15 : decode prog_4_method_14_code 15 = .ok (.invokevirtual 64, 3) := by decide +kernel
theorem dR_block_18 : decode prog_4_method_14_code 18 = .ok (.aload_n 0, 1) := by decide +kernel
theorem dR_block_19 : decode prog_4_method_14_code 19 = .ok (.bipush 8, 2) := by decide +kernel
theorem dR_block_21 : decode prog_4_method_14_code 21 = .ok (.invokevirtual 132, 3) := by decide +kernel
theorem dR_block_24 : decode prog_4_method_14_code 24 = .ok (.aload_n 0, 1) := by decide +kernel
theorem dR_block_25 : decode prog_4_method_14_code 25 = .ok (.getfield 20, 3) := by decide +kernel
theorem dR_block_28 : decode prog_4_method_14_code 28 = .ok (.iload_n 2, 1) := by decide +kernel
theorem dR_block_29 : decode prog_4_method_14_code 29 = .ok (.invokevirtual 71, 3) := by decide +kernel
theorem dR_block_32 : decode prog_4_method_14_code 32 = .ok (.return_, 1) := by decide +kernel
theorem dR_ifStatement_0 : decode prog_4_method_15_code 0 = .ok (.aload_n 0, 1) := by decide +kernel
theorem dR_ifStatement_1 : decode prog_4_method_15_code 1 = .ok (.bipush 22, 2) := by decide +kernel
theorem dR_ifStatement_3 : decode prog_4_method_15_code 3 = .ok (.invokevirtual 60, 3) := by decide +kernel
theorem dR_ifStatement_6 : decode prog_4_method_15_code 6 = .ok (.istore_n 2, 1) := by decide +kernel
theorem dR_ifStatement_7 : decode prog_4_method_15_code 7 = .ok (.aload_n 0, 1) := by decide +kernel
theorem dR_ifStatement_8 : decode prog_4_method_15_code 8 = .ok (.invokevirtual 68, 3) := by decide +kernel
theorem dR_ifStatement_11 : decode prog_4_method_15_code 11 = .ok (.aload_n 0, 1) := by decide +kernel
theorem dR_ifStatement_12 : decode prog_4_method_15_code 12 = .ok (.invokevirtual 135, 3) := by decide +kernel
theorem dR_ifStatement_15 : decode prog_4_method_15_code 15 = .ok (.aload_n 0, 1) := by decide +kernel
theorem dR_ifStatement_16 : decode prog_4_method_15_code 16 = .ok (.iload_n 1, 1) := by decide +kernel
theorem dR_ifStatement_17 : decode prog_4_method_15_code 17 = .ok (.iconst 1, 1) := by decide +kernel
theorem dR_ifStatement_18 : decode prog_4_method_15_code 18 = .ok (.iadd, 1) := by decide +kernel
theorem dR_ifStatement_19 : decode prog_4_method_15_code 19 = .ok (.invokevirtual 138, 3) := by decide +kernel
theorem dR_ifStatement_22 : decode prog_4_method_15_code 22 = .ok (.aload_n 0, 1) := by decide +kernel
theorem dR_ifStatement_23 : decode prog_4_method_15_code 23 = .ok (.getfield 27, 3) := by decide +kernel
theorem dR_ifStatement_26 : decode prog_4_method_15_code 26 = .ok (.invokevirtual 81, 3) := by decide +kernel
theorem dR_ifStatement_29 : decode prog_4_method_15_code 29 = .ok (.iconst 4, 1) := by decide +kernel
theorem dR_ifStatement_30 : decode prog_4_method_15_code 30 = .ok (.if_icmp .ne 14, 3) := by decide +kernel
theorem dR_ifStatement_33 : decode prog_4_method_15_code 33 = .ok (.aload_n 0, 1) := by decide +kernel
theorem dR_ifStatement_34 : decode prog_4_method_15_code 34 = .ok (.invokevirtual 68, 3) := by decide +kernel
theorem dR_ifStatement_37 : decode prog_4_method_15_code 37 = .ok (.aload_n 0, 1) := by decide +kernel
theorem dR_ifStatement_38 : decode prog_4_method_15_code 38 = .ok (.iload_n 1, 1) := by decide +kernel
theorem dR_ifStatement_39 : decode prog_4_method_15_code 39 = .ok (.iconst 1, 1) := by decide +kernel
theorem dR_ifStatement_40 : decode prog_4_method_15_code 40 = .ok (.iadd, 1) := by decide +kernel
theorem dR_ifStatement_41 : decode prog_4_method_15_code 41 = .ok (.invokevirtual 138, 3) := by decide +kernel
theorem dR_ifStatement_44 : decode prog_4_method_15_code 44 = .ok (.aload_n 0, 1) := by decide +kernel
theorem dR_ifStatement_45 : decode prog_4_method_15_code 45 = .ok (.getfield 20, 3) := by decide +kernel
theorem dR_ifStatement_48 : decode prog_4_method_15_code 48 = .ok (.iload_n 2, 1) := by decide +kernel
theorem dR_ifStatement_49 : decode prog_4_method_15_code 49 = .ok (.invokevirtual 71, 3) := by decide +kernel
theorem dR_ifStatement_52 : decode prog_4_method_15_code 52 = .ok (.return_, 1) := by decide +kernel
theorem dR_whileStatement_0 : decode prog_4_method_16_code 0 = .ok (.aload_n 0, 1) := by decide +kernel
theorem dR_whileStatement_1 : decode prog_4_method_16_code 1 = .ok (.bipush 23, 2) := by decide +kernel
theorem dR_whileStatement_3 : decode prog_4_method_16_code 3 = .ok (.invokevirtual 60, 3) := by decide +kernel
theorem dR_whileStatement_6 : decode prog_4_method_16_code 6 = .ok (.istore_n 2, 1) := by decide +kernel
theorem dR_whileStatement_7 : decode prog_4_method_16_code 7 = .ok (.aload_n 0, 1) := by decide +kernel
theorem dR_whileStatement_8 : decode prog_4_method_16_code 8 = .ok (.invokevirtual 68, 3) := by decide +kernel
theorem dR_whileStatement_11 : decode prog_4_method_16_code 11 = .ok (.aload_n 0, 1) := by decide +kernel
theorem dR_whileStatement_12 : decode prog_4_method_16_code 12 = .ok (.invokevirtual 135, 3) := by decide +kernel
theorem dR_whileStatement_15 : decode prog_4_method_16_code 15 = .ok (.aload_n 0, 1) := by decide +kernel
theorem dR_whileStatement_16 : decode prog_4_method_16_code 16 = .ok (.iload_n 1, 1) := by decide +kernel
theorem dR_whileStatement_17 : decode prog_4_method_16_code 17 = .ok (.iconst 1, 1) := by decide +kernel
theorem dR_whileStatement_18 : decode prog_4_method_16_code 18 = .ok (.iadd, 1) := by decide +kernel
theorem dR_whileStatement_19 : decode prog_4_method_16_code 19 = .ok (.invokevirtual 138, 3) := by decide +kernel
theorem dR_whileStatement_22 : decode prog_4_method_16_code 22 = .ok (.aload_n 0, 1) := by decide +kernel
theorem dR_whileStatement_23 : decode prog_4_method_16_code 23 = .ok (.getfield 20, 3) := by decide +kernel
theorem dR_whileStatement_26 : decode prog_4_method_16_code 26 = .ok (.iload_n 2, 1) := by decide +kernel
theorem dR_whileStatement_27 : decode prog_4_method_16_code 27 = .ok (.invokevirtual 71, 3) := by decide +kernel
theorem dR_whileStatement_30 : decode prog_4_method_16_code 30 = .ok (.return_, 1) := by decide +kernel
theorem dR_simpleStatement_0 : decode prog_4_method_17_code 0 = .ok (.aload_n 0, 1) := by decide +kernel
theorem dR_simpleStatement_1 : decode prog_4_method_17_code 1 = .ok (.bipush 24, 2) := by decide +kernel
theorem dR_simpleStatement_3 : decode prog_4_method_17_code 3 = .ok (.invokevirtual 60, 3) := by decide +kernel
theorem dR_simpleStatement_6 : decode prog_4_method_17_code 6 = .ok (.istore_n 1, 1) := by decide +kernel
theorem dR_simpleStatement_7 : decode prog_4_method_17_code 7 = .ok (.aload_n 0, 1) := by decide +kernel
theorem dR_simpleStatement_8 : decode prog_4_method_17_code 8 = .ok (.iconst 0, 1) := by decide +kernel
theorem dR_simpleStatement_9 : decode prog_4_method_17_code 9 = .ok (.invokevirtual 141, 3) := by decide +kernel
theorem dR_simpleStatement_12 : decode prog_4_method_17_code 12 = .ok (.aload_n 0, 1) := by decide +kernel
theorem dR_simpleStatement_13 : decode prog_4_method_17_code 13 = .ok (.bipush 6, 2) := by decide +kernel
theorem dR_simpleStatement_15 : decode prog_4_method_17_code 15 = .ok (.invokevirtual 132, 3) := by decide +kernel
theorem dR_simpleStatement_18 : decode prog_4_method_17_code 18 = .ok (.aload_n 0, 1) := by decide +kernel
theorem dR_simpleStatement_19 : decode prog_4_method_17_code 19 = .ok (.getfield 20, 3) := by decide +kernel
theorem dR_simpleStatement_22 : decode prog_4_method_17_code 22 = .ok (.iload_n 1, 1) := by decide +kernel
theorem dR_simpleStatement_23 : decode prog_4_method_17_code 23 = .ok (.invokevirtual 71, 3) := by decide +kernel
theorem dR_simpleStatement_26 : decode prog_4_method_17_code 26 = .ok (.return_, 1) := by decide +kernel
theorem dR_condition_0 : decode prog_4_method_18_code 0 = .ok (.aload_n 0, 1) := by decide +kernel
theorem dR_condition_1 : decode prog_4_method_18_code 1 = .ok (.bipush 9, 2) := by decide +kernel
theorem dR_condition_3 : decode prog_4_method_18_code 3 = .ok (.invokevirtual 132, 3) := by decide +kernel
theorem dR_condition_6 : decode prog_4_method_18_code 6 = .ok (.aload_n 0, 1) := by decide +kernel
theorem dR_condition_7 : decode prog_4_method_18_code 7 = .ok (.iconst 0, 1) := by decide +kernel
theorem dR_condition_8 : decode prog_4_method_18_code 8 = .ok (.invokevirtual 141, 3) := by decide +kernel
theorem dR_condition_11 : decode prog_4_method_18_code 11 = .ok (.aload_n 0, 1) := by decide +kernel
theorem dR_condition_12 : decode prog_4_method_18_code 12 = .ok (.bipush 10, 2) := by decide +kernel
theorem dR_condition_14 : decode prog_4_method_18_code 14 = .ok (.invokevirtual 132, 3) := by decide +kernel
theorem dR_condition_17 : decode prog_4_method_18_code 17 = .ok (.return_, 1) := by decide +kernel
theorem dR_part_0 : decode prog_4_method_19_code 0 = .ok (.aload_n 0, 1) := by decide +kernel
theorem dR_part_1 : decode prog_4_method_19_code 1 = .ok (.iload_n 1, 1) := by decide +kernel
theorem dR_part_2 : decode prog_4_method_19_code 2 = .ok (.invokevirtual 108, 3) := by decide +kernel
theorem dR_part_5 : decode prog_4_method_19_code 5 = .ok (.ifCond .eq 9, 3) := by decide +kernel
theorem dR_part_8 : decode prog_4_method_19_code 8 = .ok (.aload_n 0, 1) := by decide +kernel
theorem dR_part_9 : decode prog_4_method_19_code 9 = .ok (.iload_n 1, 1) := by decide +kernel
theorem dR_part_10 : decode prog_4_method_19_code 10 = .ok (.invokevirtual 111, 3) := by decide +kernel
theorem dR_part_13 : decode prog_4_method_19_code 13 = .ok (.return_, 1) := by decide +kernel
theorem dR_part_14 : decode prog_4_method_19_code 14 = .ok (.aload_n 0, 1) := by decide +kernel
theorem dR_part_15 : decode prog_4_method_19_code 15 = .ok (.bipush 25, 2) := by decide +kernel
theorem dR_part_17 : decode prog_4_method_19_code 17 = .ok (.invokevirtual 60, 3) := by decide +kernel
theorem dR_part_20 : decode prog_4_method_19_code 20 = .ok (.istore_n 2, 1) := by decide +kernel
theorem dR_part_21 : decode prog_4_method_19_code 21 = .ok (.aload_n 0, 1) := by decide +kernel
theorem dR_part_22 : decode prog_4_method_19_code 22 = .ok (.bipush 6, 2) := by decide +kernel
theorem dR_part_24 : decode prog_4_method_19_code 24 = .ok (.aload_n 0, 1) := by decide +kernel
theorem dR_part_25 : decode prog_4_method_19_code 25 = .ok (.getfield 27, 3) := by decide +kernel
theorem dR_part_28 : decode prog_4_method_19_code 28 = .ok (.invokevirtual 81, 3) := by decide +kernel
theorem dR_part_31 : decode prog_4_method_19_code 31 = .ok (.invokestatic 98, 3) := by decide +kernel
theorem dR_part_34 : decode prog_4_method_19_code 34 = .ok (.ifCond .eq 7, 3) := by decide +kernel
theorem dR_part_37 : decode prog_4_method_19_code 37 = .ok (.iconst 3, 1) := by decide +kernel
theorem dR_part_38 : decode prog_4_method_19_code 38 = .ok (.goto 4, 3) := by decide +kernel
theorem dR_part_41 : decode prog_4_method_19_code 41 = .ok (.iconst 2, 1) := by decide +kernel
theorem dR_part_42 : decode prog_4_method_19_code 42 = .ok (.invokevirtual 102, 3) := by decide +kernel
theorem dR_part_45 : decode prog_4_method_19_code 45 = .ok (.aload_n 0, 1) := by decide +kernel
theorem dR_part_46 : decode prog_4_method_19_code 46 = .ok (.getfield 20, 3) := by decide +kernel
theorem dR_part_49 : decode prog_4_method_19_code 49 = .ok (.iload_n 2, 1) := by decide +kernel
theorem dR_part_50 : decode prog_4_method_19_code 50 = .ok (.invokevirtual 71, 3) := by decide +kernel
theorem dR_part_53 : decode prog_4_method_19_code 53 = .ok (.return_, 1) := by decide +kernel
theorem dR_expression_0 : decode prog_4_method_20_code 0 = .ok (.aload_n 0, 1) := by decide +kernel
theorem dR_expression_1 : decode prog_4_method_20_code 1 = .ok (.getfield 51, 3) := by decide +kernel
theorem dR_expression_4 : decode prog_4_method_20_code 4 = .ok (.istore_n 2, 1) := by decide +kernel
theorem dR_expression_5 : decode prog_4_method_20_code 5 = .ok (.aload_n 0, 1) := by decide +kernel
theorem dR_expression_6 : decode prog_4_method_20_code 6 = .ok (.getfield 20, 3) := by decide +kernel
theorem dR_expression_9 : decode prog_4_method_20_code 9 = .ok (.getfield 144, 3) := by decide +kernel
theorem dR_expression_12 : decode prog_4_method_20_code 12 = .ok (.istore_n 3, 1) := by decide +kernel
theorem dR_expression_13 : decode prog_4_method_20_code 13 = .ok (.aload_n 0, 1) := by decide +kernel
theorem dR_expression_14 : decode prog_4_method_20_code 14 = .ok (.iload_n 1, 1) := by decide +kernel
theorem dR_expression_15 : decode prog_4_method_20_code 15 = .ok (.invokevirtual 147, 3) := by decide +kernel
theorem dR_expression_18 : decode prog_4_method_20_code 18 = .ok (.iconst 0, 1) := by decide +kernel
theorem dR_expression_19 : decode prog_4_method_20_code 19 = .ok (.istore 4, 2) := by decide +kernel
theorem dR_expression_21 : decode prog_4_method_20_code 21 = .ok (.iload 4, 2) := by decide +kernel
theorem dR_expression_23 : decode prog_4_method_20_code 23 = .ok (.bipush 60, 2) := by decide +kernel
theorem dR_expression_25 : decode prog_4_method_20_code 25 = .ok (.if_icmp .ge 100, 3) := by decide +kernel
theorem dR_expression_28 : decode prog_4_method_20_code 28 = .ok (.aload_n 0, 1) := by decide +kernel
theorem dR_expression_29 : decode prog_4_method_20_code 29 = .ok (.getfield 27, 3) := by decide +kernel
theorem dR_expression_32 : decode prog_4_method_20_code 32 = .ok (.invokevirtual 81, 3) := by decide +kernel
theorem dR_expression_35 : decode prog_4_method_20_code 35 = .ok (.invokestatic 150, 3) := by decide +kernel
theorem dR_expression_38 : decode prog_4_method_20_code 38 = .ok (.ifCond .le 87, 3) := by decide +kernel
theorem dR_expression_41 : decode prog_4_method_20_code 41 = .ok (.aload_n 0, 1) := by decide +kernel
theorem dR_expression_42 : decode prog_4_method_20_code 42 = .ok (.getfield 27, 3) := by decide +kernel
theorem dR_expression_45 : decode prog_4_method_20_code 45 = .ok (.invokevirtual 81, 3) := by decide +kernel
theorem dR_expression_48 : decode prog_4_method_20_code 48 = .ok (.invokestatic 150, 3) := by decide +kernel
theorem dR_expression_51 : decode prog_4_method_20_code 51 = .ok (.istore 5, 2) := by decide +kernel
theorem dR_expression_53 : decode prog_4_method_20_code 53 = .ok (.aload_n 0, 1) := by decide +kernel
theorem dR_expression_54 : decode prog_4_method_20_code 54 = .ok (.getfield 27, 3) := by decide +kernel
theorem dR_expression_57 : decode prog_4_method_20_code 57 = .ok (.invokevirtual 81, 3) := by decide +kernel
theorem dR_expression_60 : decode prog_4_method_20_code 60 = .ok (.bipush 15, 2) := by decide +kernel
theorem dR_expression_62 : decode prog_4_method_20_code 62 = .ok (.if_icmp .ne 10, 3) := by decide +kernel
theorem dR_expression_65 : decode prog_4_method_20_code 65 = .ok (.iload 5, 2) := by decide +kernel
theorem dR_expression_67 : decode prog_4_method_20_code 67 = .ok (.iconst 1, 1) := by decide +kernel
theorem dR_expression_68 : decode prog_4_method_20_code 68 = .ok (.iadd, 1) := by decide +kernel
theorem dR_expression_69 : decode prog_4_method_20_code 69 = .ok (.goto 5, 3) := by decide +kernel
theorem dR_expression_72 : decode prog_4_method_20_code 72 = .ok (.iload 5, 2) := by decide +kernel
theorem dR_expression_74 : decode prog_4_method_20_code 74 = .ok (.istore 6, 2) := by decide +kernel
theorem dR_expression_76 : decode prog_4_method_20_code 76 = .ok (.aload_n 0, 1) := by decide +kernel
theorem dR_expression_77 : decode prog_4_method_20_code 77 = .ok (.iload_n 2, 1) := by decide +kernel
theorem dR_expression_78 : decode prog_4_method_20_code 78 = .ok (.iload 6, 2) := by decide +kernel
theorem dR_expression_80 : decode prog_4_method_20_code 80 = .ok (.iload_n 3, 1) := by decide +kernel
theorem dR_expression_81 : decode prog_4_method_20_code 81 = .ok (.invokevirtual 153, 3) := by decide +kernel
theorem dR_expression_84 : decode prog_4_method_20_code 84 = .ok (.istore_n 3, 1) := by decide +kernel
theorem dR_expression_85 : decode prog_4_method_20_code 85 = .ok (.aload_n 0, 1) := by decide +kernel
theorem dR_expression_86 : decode prog_4_method_20_code 86 = .ok (.getfield 20, 3) := by decide +kernel
theorem dR_expression_89 : decode prog_4_method_20_code 89 = .ok (.iload_n 3, 1) := by decide +kernel
theorem dR_expression_90 : decode prog_4_method_20_code 90 = .ok (.bipush 26, 2) := by decide +kernel
theorem dR_expression_92 : decode prog_4_method_20_code 92 = .ok (.invokevirtual 156, 3) := by decide +kernel
theorem dR_expression_95 : decode prog_4_method_20_code 95 = .ok (.aload_n 0, 1) := by decide +kernel
theorem dR_expression_96 : decode prog_4_method_20_code 96 = .ok (.iload_n 3, 1) := by decide +kernel
theorem dR_expression_97 : decode prog_4_method_20_code 97 = .ok (.iload 5, 2) := by decide +kernel
theorem dR_expression_99 : decode prog_4_method_20_code 99 = .ok (.invokevirtual 159, 3) := by decide +kernel
theorem dR_expression_102 : decode prog_4_method_20_code 102 = .ok (.aload_n 0, 1) := by decide +kernel
theorem dR_expression_103 : decode prog_4_method_20_code 103 = .ok (.invokevirtual 68, 3) := by decide +kernel
theorem dR_expression_106 : decode prog_4_method_20_code 106 = .ok (.aload_n 0, 1) := by decide +kernel
theorem dR_expression_107 : decode prog_4_method_20_code 107 = .ok (.getfield 20, 3) := by decide +kernel
theorem dR_expression_110 : decode prog_4_method_20_code 110 = .ok (.getfield 144, 3) := by decide +kernel
theorem dR_expression_113 : decode prog_4_method_20_code 113 = .ok (.istore_n 3, 1) := by decide +kernel
theorem dR_expression_114 : decode prog_4_method_20_code 114 = .ok (.aload_n 0, 1) := by decide +kernel
theorem dR_expression_115 : decode prog_4_method_20_code 115 = .ok (.iload_n 1, 1) := by decide +kernel
theorem dR_expression_116 : decode prog_4_method_20_code 116 = .ok (.invokevirtual 147, 3) := by decide +kernel
theorem dR_expression_119 : decode prog_4_method_20_code 119 = .ok (.iinc 4 1, 3) := by decide +kernel
theorem dR_expression_122 : decode prog_4_method_20_code 122 = .ok (.goto (-101), 3) := by decide +kernel
theorem dR_expression_125 : decode prog_4_method_20_code 125 = .ok (.aload_n 0, 1) := by decide +kernel
theorem dR_expression_126 : decode prog_4_method_20_code 126 = .ok (.iload_n 2, 1) := by decide +kernel
theorem dR_expression_127 : decode prog_4_method_20_code 127 = .ok (.iconst 0, 1) := by decide +kernel
theorem dR_expression_128 : decode prog_4_method_20_code 128 = .ok (.iload_n 3, 1) := by decide +kernel
theorem dR_expression_129 : decode prog_4_method_20_code 129 = .ok (.invokevirtual 153, 3) := by decide +kernel
theorem dR_expression_132 : decode prog_4_method_20_code 132 = .ok (.pop, 1) := by decide +kernel
theorem dR_expression_133 : decode prog_4_method_20_code 133 = .ok (.return_, 1) := by decide +kernel
theorem dR_closeSigns_0 : decode prog_4_method_21_code 0 = .ok (.iload_n 3, 1) := by decide +kernel
theorem dR_closeSigns_1 : decode prog_4_method_21_code 1 = .ok (.istore 4, 2) := by decide +kernel
theorem dR_closeSigns_3 : decode prog_4_method_21_code 3 = .ok (.aload_n 0, 1) := by decide +kernel
theorem dR_closeSigns_4 : decode prog_4_method_21_code 4 = .ok (.getfield 51, 3) := by decide +kernel
theorem dR_closeSigns_7 : decode prog_4_method_21_code 7 = .ok (.iload_n 1, 1) := by decide +kernel
theorem dR_closeSigns_8 : decode prog_4_method_21_code 8 = .ok (.if_icmp .le 58, 3) := by decide +kernel
theorem dR_closeSigns_11 : decode prog_4_method_21_code 11 = .ok (.aload_n 0, 1) := by decide +kernel
theorem dR_closeSigns_12 : decode prog_4_method_21_code 12 = .ok (.getfield 51, 3) := by decide +kernel
theorem dR_closeSigns_15 : decode prog_4_method_21_code 15 = .ok (.ifCond .le 51, 3) := by decide +kernel
theorem dR_closeSigns_18 : decode prog_4_method_21_code 18 = .ok (.aload_n 0, 1) := by decide +kernel
theorem dR_closeSigns_19 : decode prog_4_method_21_code 19 = .ok (.getfield 41, 3) := by decide +kernel
theorem dR_closeSigns_22 : decode prog_4_method_21_code 22 = .ok (.aload_n 0, 1) := by decide +kernel
theorem dR_closeSigns_23 : decode prog_4_method_21_code 23 = .ok (.getfield 51, 3) := by decide +kernel
theorem dR_closeSigns_26 : decode prog_4_method_21_code 26 = .ok (.iconst 1, 1) := by decide +kernel
theorem dR_closeSigns_27 : decode prog_4_method_21_code 27 = .ok (.isub, 1) := by decide +kernel
theorem dR_closeSigns_28 : decode prog_4_method_21_code 28 = .ok (.iaload, 1) := by decide +kernel
theorem dR_closeSigns_29 : decode prog_4_method_21_code 29 = .ok (.iload_n 2, 1) := by decide +kernel
theorem dR_closeSigns_30 : decode prog_4_method_21_code 30 = .ok (.if_icmp .lt 36, 3) := by decide +kernel
theorem dR_closeSigns_33 : decode prog_4_method_21_code 33 = .ok (.aload_n 0, 1) := by decide +kernel
theorem dR_closeSigns_34 : decode prog_4_method_21_code 34 = .ok (.dup, 1) := by decide +kernel
theorem dR_closeSigns_35 : decode prog_4_method_21_code 35 = .ok (.getfield 51, 3) := by decide +kernel
theorem dR_closeSigns_38 : decode prog_4_method_21_code 38 = .ok (.iconst 1, 1) := by decide +kernel
theorem dR_closeSigns_39 : decode prog_4_method_21_code 39 = .ok (.isub, 1) := by decide +kernel
theorem dR_closeSigns_40 : decode prog_4_method_21_code 40 = .ok (.putfield 51, 3) := by decide +kernel
theorem dR_closeSigns_43 : decode prog_4_method_21_code 43 = .ok (.aload_n 0, 1) := by decide +kernel
theorem dR_closeSigns_44 : decode prog_4_method_21_code 44 = .ok (.getfield 38, 3) := by decide +kernel
theorem dR_closeSigns_47 : decode prog_4_method_21_code 47 = .ok (.aload_n 0, 1) := by decide +kernel
theorem dR_closeSigns_48 : decode prog_4_method_21_code 48 = .ok (.getfield 51, 3) := by decide +kernel
theorem dR_closeSigns_51 : decode prog_4_method_21_code 51 = .ok (.iaload, 1) := by decide +kernel
theorem dR_closeSigns_52 : decode prog_4_method_21_code 52 = .ok (.istore 4, 2) := by decide +kernel
theorem dR_closeSigns_54 : decode prog_4_method_21_code 54 = .ok (.aload_n 0, 1) := by decide +kernel
theorem dR_closeSigns_55 : decode prog_4_method_21_code 55 = .ok (.getfield 20, 3) := by decide +kernel
theorem dR_closeSigns_58 : decode prog_4_method_21_code 58 = .ok (.iload 4, 2) := by decide +kernel
theorem dR_closeSigns_60 : decode prog_4_method_21_code 60 = .ok (.invokevirtual 71, 3) := by decide +kernel
theorem dR_closeSigns_63 : decode prog_4_method_21_code 63 = .ok (.goto (-60), 3) := by decide +kernel
theorem dR_closeSigns_66 : decode prog_4_method_21_code 66 = .ok (.iload 4, 2) := by decide +kernel
theorem dR_closeSigns_68 : decode prog_4_method_21_code 68 = .ok (.ireturn, 1) := by decide +kernel
theorem dR_openSign_0 : decode prog_4_method_22_code 0 = .ok (.aload_n 0, 1) := by decide +kernel
theorem dR_openSign_1 : decode prog_4_method_22_code 1 = .ok (.getfield 51, 3) := by decide +kernel
theorem dR_openSign_4 : decode prog_4_method_22_code 4 = .ok (.bipush 60, 2) := by decide +kernel
theorem dR_openSign_6 : decode prog_4_method_22_code 6 = .ok (.if_icmp .ge 33, 3) := by decide +kernel
theorem dR_openSign_9 : decode prog_4_method_22_code 9 = .ok (.aload_n 0, 1) := by decide +kernel
theorem dR_openSign_10 : decode prog_4_method_22_code 10 = .ok (.getfield 38, 3) := by decide +kernel
theorem dR_openSign_13 : decode prog_4_method_22_code 13 = .ok (.aload_n 0, 1) := by decide +kernel
theorem dR_openSign_14 : decode prog_4_method_22_code 14 = .ok (.getfield 51, 3) := by decide +kernel
theorem dR_openSign_17 : decode prog_4_method_22_code 17 = .ok (.iload_n 1, 1) := by decide +kernel
theorem dR_openSign_18 : decode prog_4_method_22_code 18 = .ok (.iastore, 1) := by decide +kernel
theorem dR_openSign_19 : decode prog_4_method_22_code 19 = .ok (.aload_n 0, 1) := by decide +kernel
theorem dR_openSign_20 : decode prog_4_method_22_code 20 = .ok (.getfield 41, 3) := by decide +kernel
theorem dR_openSign_23 : decode prog_4_method_22_code 23 = .ok (.aload_n 0, 1) := by decide +kernel
theorem dR_openSign_24 : decode prog_4_method_22_code 24 = .ok (.getfield 51, 3) := by decide +kernel
theorem dR_openSign_27 : decode prog_4_method_22_code 27 = .ok (.iload_n 2, 1) := by decide +kernel
theorem dR_openSign_28 : decode prog_4_method_22_code 28 = .ok (.iastore, 1) := by decide +kernel
theorem dR_openSign_29 : decode prog_4_method_22_code 29 = .ok (.aload_n 0, 1) := by decide +kernel
theorem dR_openSign_30 : decode prog_4_method_22_code 30 = .ok (.dup, 1) := by decide +kernel
theorem dR_openSign_31 : decode prog_4_method_22_code 31 = .ok (.getfield 51, 3) := by decide +kernel
theorem dR_openSign_34 : decode prog_4_method_22_code 34 = .ok (.iconst 1, 1) := by decide +kernel
theorem dR_openSign_35 : decode prog_4_method_22_code 35 = .ok (.iadd, 1) := by decide +kernel
theorem dR_openSign_36 : decode prog_4_method_22_code 36 = .ok (.putfield 51, 3) := by decide +kernel
theorem dR_openSign_39 : decode prog_4_method_22_code 39 = .ok (.return_, 1) := by decide +kernel
theorem dR_bindingOf_0 : decode prog_4_method_23_code 0 = .ok (.iload_n 0, 1) := by decide +kernel
theorem dR_bindingOf_1 : decode prog_4_method_23_code 1 = .ok (.tableswitch 45 11 15 #[39, 41, 43, 37, 35], 35) := by decide +kernel
theorem dR_bindingOf_36 : decode prog_4_method_23_code 36 = .ok (.iconst 1, 1) := by decide +kernel
theorem dR_bindingOf_37 : decode prog_4_method_23_code 37 = .ok (.ireturn, 1) := by decide +kernel
theorem dR_bindingOf_38 : decode prog_4_method_23_code 38 = .ok (.iconst 2, 1) := by decide +kernel
theorem dR_bindingOf_39 : decode prog_4_method_23_code 39 = .ok (.ireturn, 1) := by decide +kernel
theorem dR_bindingOf_40 : decode prog_4_method_23_code 40 = .ok (.iconst 3, 1) := by decide +kernel
theorem dR_bindingOf_41 : decode prog_4_method_23_code 41 = .ok (.ireturn, 1) := by decide +kernel
theorem dR_bindingOf_42 : decode prog_4_method_23_code 42 = .ok (.iconst 3, 1) := by decide +kernel
theorem dR_bindingOf_43 : decode prog_4_method_23_code 43 = .ok (.ireturn, 1) := by decide +kernel
theorem dR_bindingOf_44 : decode prog_4_method_23_code 44 = .ok (.iconst 4, 1) := by decide +kernel
theorem dR_bindingOf_45 : decode prog_4_method_23_code 45 = .ok (.ireturn, 1) := by decide +kernel
theorem dR_bindingOf_46 : decode prog_4_method_23_code 46 = .ok (.iconst 0, 1) := by decide +kernel
theorem dR_bindingOf_47 : decode prog_4_method_23_code 47 = .ok (.ireturn, 1) := by decide +kernel
theorem dR_operand_0 : decode prog_4_method_24_code 0 = .ok (.aload_n 0, 1) := by decide +kernel
theorem dR_operand_1 : decode prog_4_method_24_code 1 = .ok (.getfield 27, 3) := by decide +kernel
theorem dR_operand_4 : decode prog_4_method_24_code 4 = .ok (.invokevirtual 81, 3) := by decide +kernel
theorem dR_operand_7 : decode prog_4_method_24_code 7 = .ok (.istore_n 2, 1) := by decide +kernel
theorem dR_operand_8 : decode prog_4_method_24_code 8 = .ok (.iload_n 2, 1) := by decide +kernel
theorem dR_operand_9 : decode prog_4_method_24_code 9 = .ok (.bipush 9, 2) := by decide +kernel
theorem dR_operand_11 : decode prog_4_method_24_code 11 = .ok (.if_icmp .eq 9, 3) := by decide +kernel
theorem dR_operand_14 : decode prog_4_method_24_code 14 = .ok (.iload_n 2, 1) := by decide +kernel
theorem dR_operand_15 : decode prog_4_method_24_code 15 = .ok (.bipush 12, 2) := by decide +kernel
theorem dR_operand_17 : decode prog_4_method_24_code 17 = .ok (.if_icmp .ne 7, 3) := by decide +kernel
theorem dR_operand_20 : decode prog_4_method_24_code 20 = .ok (.iconst 1, 1) := by decide +kernel
theorem dR_operand_21 : decode prog_4_method_24_code 21 = .ok (.goto 4, 3) := by decide +kernel
theorem dR_operand_24 : decode prog_4_method_24_code 24 = .ok (.iconst 0, 1) := by decide +kernel
theorem dR_operand_25 : decode prog_4_method_24_code 25 = .ok (.istore_n 3, 1) := by decide +kernel
theorem dR_operand_26 : decode prog_4_method_24_code 26 = .ok (.iload_n 2, 1) := by decide +kernel
theorem dR_operand_27 : decode prog_4_method_24_code 27 = .ok (.iconst 1, 1) := by decide +kernel
theorem dR_operand_28 : decode prog_4_method_24_code 28 = .ok (.if_icmp .eq 8, 3) := by decide +kernel
theorem dR_operand_31 : decode prog_4_method_24_code 31 = .ok (.iload_n 2, 1) := by decide +kernel
theorem dR_operand_32 : decode prog_4_method_24_code 32 = .ok (.iconst 2, 1) := by decide +kernel
theorem dR_operand_33 : decode prog_4_method_24_code 33 = .ok (.if_icmp .ne 10, 3) := by decide +kernel
theorem dR_operand_36 : decode prog_4_method_24_code 36 = .ok (.aload_n 0, 1) := by decide +kernel
theorem dR_operand_37 : decode prog_4_method_24_code 37 = .ok (.invokevirtual 68, 3) := by decide +kernel
theorem dR_operand_40 : decode prog_4_method_24_code 40 = .ok (.goto 50, 3) := by decide +kernel
theorem dR_operand_43 : decode prog_4_method_24_code 43 = .ok (.iload_n 3, 1) := by decide +kernel
theorem dR_operand_44 : decode prog_4_method_24_code 44 = .ok (.ifCond .ne 12, 3) := by decide +kernel
theorem dR_operand_47 : decode prog_4_method_24_code 47 = .ok (.aload_n 0, 1) := by decide +kernel
theorem dR_operand_48 : decode prog_4_method_24_code 48 = .ok (.iconst 1, 1) := by decide +kernel
theorem dR_operand_49 : decode prog_4_method_24_code 49 = .ok (.iconst 2, 1) := by decide +kernel
theorem dR_operand_50 : decode prog_4_method_24_code 50 = .ok (.invokevirtual 102, 3) := by decide +kernel
theorem dR_operand_53 : decode prog_4_method_24_code 53 = .ok (.goto 37, 3) := by decide +kernel
theorem dR_operand_56 : decode prog_4_method_24_code 56 = .ok (.iload_n 1, 1) := by decide +kernel
theorem dR_operand_57 : decode prog_4_method_24_code 57 = .ok (.bipush 6, 2) := by decide +kernel
theorem dR_operand_59 : decode prog_4_method_24_code 59 = .ok (.if_icmp .lt 12, 3) := by decide +kernel
theorem dR_operand_62 : decode prog_4_method_24_code 62 = .ok (.aload_n 0, 1) := by decide +kernel
theorem dR_operand_63 : decode prog_4_method_24_code 63 = .ok (.iconst 1, 1) := by decide +kernel
theorem dR_operand_64 : decode prog_4_method_24_code 64 = .ok (.iconst 3, 1) := by decide +kernel
theorem dR_operand_65 : decode prog_4_method_24_code 65 = .ok (.invokevirtual 102, 3) := by decide +kernel
theorem dR_operand_68 : decode prog_4_method_24_code 68 = .ok (.goto 22, 3) := by decide +kernel
theorem dR_operand_71 : decode prog_4_method_24_code 71 = .ok (.iload_n 2, 1) := by decide +kernel
theorem dR_operand_72 : decode prog_4_method_24_code 72 = .ok (.bipush 9, 2) := by decide +kernel
theorem dR_operand_74 : decode prog_4_method_24_code 74 = .ok (.if_icmp .ne 11, 3) := by decide +kernel
theorem dR_operand_77 : decode prog_4_method_24_code 77 = .ok (.aload_n 0, 1) := by decide +kernel
theorem dR_operand_78 : decode prog_4_method_24_code 78 = .ok (.iload_n 1, 1) := by decide +kernel
theorem dR_operand_79 : decode prog_4_method_24_code 79 = .ok (.invokevirtual 162, 3) := by decide +kernel
theorem dR_operand_82 : decode prog_4_method_24_code 82 = .ok (.goto 8, 3) := by decide +kernel
theorem dR_operand_85 : decode prog_4_method_24_code 85 = .ok (.aload_n 0, 1) := by decide +kernel
theorem dR_operand_86 : decode prog_4_method_24_code 86 = .ok (.iload_n 1, 1) := by decide +kernel
theorem dR_operand_87 : decode prog_4_method_24_code 87 = .ok (.invokevirtual 165, 3) := by decide +kernel
theorem dR_operand_90 : decode prog_4_method_24_code 90 = .ok (.return_, 1) := by decide +kernel
theorem dR_parentheses_0 : decode prog_4_method_25_code 0 = .ok (.aload_n 0, 1) := by decide +kernel
theorem dR_parentheses_1 : decode prog_4_method_25_code 1 = .ok (.bipush 28, 2) := by decide +kernel
theorem dR_parentheses_3 : decode prog_4_method_25_code 3 = .ok (.invokevirtual 60, 3) := by decide +kernel
theorem dR_parentheses_6 : decode prog_4_method_25_code 6 = .ok (.istore_n 2, 1) := by decide +kernel
theorem dR_parentheses_7 : decode prog_4_method_25_code 7 = .ok (.aload_n 0, 1) := by decide +kernel
theorem dR_parentheses_8 : decode prog_4_method_25_code 8 = .ok (.invokevirtual 68, 3) := by decide +kernel
theorem dR_parentheses_11 : decode prog_4_method_25_code 11 = .ok (.aload_n 0, 1) := by decide +kernel
theorem dR_parentheses_12 : decode prog_4_method_25_code 12 = .ok (.iload_n 1, 1) := by decide +kernel
theorem dR_parentheses_13 : decode prog_4_method_25_code 13 = .ok (.iconst 1, 1) := by decide +kernel
theorem dR_parentheses_14 : decode prog_4_method_25_code 14 = .ok (.iadd, 1) := by decide +kernel
theorem dR_parentheses_15 : decode prog_4_method_25_code 15 = .ok (.invokevirtual 141, 3) := by decide +kernel
theorem dR_parentheses_18 : decode prog_4_method_25_code 18 = .ok (.aload_n 0, 1) := by decide +kernel
theorem dR_parentheses_19 : decode prog_4_method_25_code 19 = .ok (.bipush 10, 2) := by decide +kernel
theorem dR_parentheses_21 : decode prog_4_method_25_code 21 = .ok (.invokevirtual 132, 3) := by decide +kernel
theorem dR_parentheses_24 : decode prog_4_method_25_code 24 = .ok (.aload_n 0, 1) := by decide +kernel
theorem dR_parentheses_25 : decode prog_4_method_25_code 25 = .ok (.getfield 20, 3) := by decide +kernel
theorem dR_parentheses_28 : decode prog_4_method_25_code 28 = .ok (.iload_n 2, 1) := by decide +kernel
theorem dR_parentheses_29 : decode prog_4_method_25_code 29 = .ok (.invokevirtual 71, 3) := by decide +kernel
theorem dR_parentheses_32 : decode prog_4_method_25_code 32 = .ok (.return_, 1) := by decide +kernel
theorem dR_negative_0 : decode prog_4_method_26_code 0 = .ok (.aload_n 0, 1) := by decide +kernel
theorem dR_negative_1 : decode prog_4_method_26_code 1 = .ok (.bipush 27, 2) := by decide +kernel
theorem dR_negative_3 : decode prog_4_method_26_code 3 = .ok (.invokevirtual 60, 3) := by decide +kernel
theorem dR_negative_6 : decode prog_4_method_26_code 6 = .ok (.istore_n 2, 1) := by decide +kernel
theorem dR_negative_7 : decode prog_4_method_26_code 7 = .ok (.aload_n 0, 1) := by decide +kernel
theorem dR_negative_8 : decode prog_4_method_26_code 8 = .ok (.invokevirtual 68, 3) := by decide +kernel
theorem dR_negative_11 : decode prog_4_method_26_code 11 = .ok (.aload_n 0, 1) := by decide +kernel
theorem dR_negative_12 : decode prog_4_method_26_code 12 = .ok (.iload_n 1, 1) := by decide +kernel
theorem dR_negative_13 : decode prog_4_method_26_code 13 = .ok (.iconst 1, 1) := by decide +kernel
theorem dR_negative_14 : decode prog_4_method_26_code 14 = .ok (.iadd, 1) := by decide +kernel
theorem dR_negative_15 : decode prog_4_method_26_code 15 = .ok (.invokevirtual 147, 3) := by decide +kernel
theorem dR_negative_18 : decode prog_4_method_26_code 18 = .ok (.aload_n 0, 1) := by decide +kernel
theorem dR_negative_19 : decode prog_4_method_26_code 19 = .ok (.getfield 20, 3) := by decide +kernel
theorem dR_negative_22 : decode prog_4_method_26_code 22 = .ok (.iload_n 2, 1) := by decide +kernel
theorem dR_negative_23 : decode prog_4_method_26_code 23 = .ok (.invokevirtual 71, 3) := by decide +kernel
theorem dR_negative_26 : decode prog_4_method_26_code 26 = .ok (.return_, 1) := by decide +kernel
theorem dK_init_0 : decode prog_5_method_1_code 0 = .ok (.aload_n 0, 1) := by decide +kernel
theorem dK_init_1 : decode prog_5_method_1_code 1 = .ok (.invokespecial 3, 3) := by decide +kernel
theorem dK_init_4 : decode prog_5_method_1_code 4 = .ok (.aload_n 0, 1) := by decide +kernel
theorem dK_init_5 : decode prog_5_method_1_code 5 = .ok (.aload_n 1, 1) := by decide +kernel
theorem dK_init_6 : decode prog_5_method_1_code 6 = .ok (.putfield 9, 3) := by decide +kernel
theorem dK_init_9 : decode prog_5_method_1_code 9 = .ok (.aload_n 0, 1) := by decide +kernel
theorem dK_init_10 : decode prog_5_method_1_code 10 = .ok (.bipush 61, 2) := by decide +kernel
theorem dK_init_12 : decode prog_5_method_1_code 12 = .ok (.newarray .int, 2) := by decide +kernel
theorem dK_init_14 : decode prog_5_method_1_code 14 = .ok (.putfield 15, 3) := by decide +kernel
theorem dK_init_17 : decode prog_5_method_1_code 17 = .ok (.aload_n 0, 1) := by decide +kernel
theorem dK_init_18 : decode prog_5_method_1_code 18 = .ok (.bipush 61, 2) := by decide +kernel
theorem dK_init_20 : decode prog_5_method_1_code 20 = .ok (.newarray .int, 2) := by decide +kernel
theorem dK_init_22 : decode prog_5_method_1_code 22 = .ok (.putfield 19, 3) := by decide +kernel
theorem dK_init_25 : decode prog_5_method_1_code 25 = .ok (.aload_n 0, 1) := by decide +kernel
theorem dK_init_26 : decode prog_5_method_1_code 26 = .ok (.bipush 61, 2) := by decide +kernel
theorem dK_init_28 : decode prog_5_method_1_code 28 = .ok (.newarray .int, 2) := by decide +kernel
theorem dK_init_30 : decode prog_5_method_1_code 30 = .ok (.putfield 22, 3) := by decide +kernel
theorem dK_init_33 : decode prog_5_method_1_code 33 = .ok (.aload_n 0, 1) := by decide +kernel
theorem dK_init_34 : decode prog_5_method_1_code 34 = .ok (.iconst 0, 1) := by decide +kernel
theorem dK_init_35 : decode prog_5_method_1_code 35 = .ok (.putfield 25, 3) := by decide +kernel
theorem dK_init_38 : decode prog_5_method_1_code 38 = .ok (.aload_n 0, 1) := by decide +kernel
theorem dK_init_39 : decode prog_5_method_1_code 39 = .ok (.iconst 0, 1) := by decide +kernel
theorem dK_init_40 : decode prog_5_method_1_code 40 = .ok (.putfield 29, 3) := by decide +kernel
theorem dK_init_43 : decode prog_5_method_1_code 43 = .ok (.return_, 1) := by decide +kernel
theorem dK_kind_0 : decode prog_5_method_2_code 0 = .ok (.aload_n 0, 1) := by decide +kernel
theorem dK_kind_1 : decode prog_5_method_2_code 1 = .ok (.getfield 29, 3) := by decide +kernel
theorem dK_kind_4 : decode prog_5_method_2_code 4 = .ok (.aload_n 0, 1) := by decide +kernel
theorem dK_kind_5 : decode prog_5_method_2_code 5 = .ok (.getfield 25, 3) := by decide +kernel
theorem dK_kind_8 : decode prog_5_method_2_code 8 = .ok (.if_icmp .ge 15, 3) := by decide +kernel
theorem dK_kind_11 : decode prog_5_method_2_code 11 = .ok (.aload_n 0, 1) := by decide +kernel
theorem dK_kind_12 : decode prog_5_method_2_code 12 = .ok (.getfield 15, 3) := by decide +kernel
theorem dK_kind_15 : decode prog_5_method_2_code 15 = .ok (.aload_n 0, 1) := by decide +kernel
theorem dK_kind_16 : decode prog_5_method_2_code 16 = .ok (.getfield 29, 3) := by decide +kernel
theorem dK_kind_19 : decode prog_5_method_2_code 19 = .ok (.iaload, 1) := by decide +kernel
theorem dK_kind_20 : decode prog_5_method_2_code 20 = .ok (.goto 5, 3) := by decide +kernel
theorem dK_kind_23 : decode prog_5_method_2_code 23 = .ok (.bipush 17, 2) := by decide +kernel
theorem dK_kind_25 : decode prog_5_method_2_code 25 = .ok (.ireturn, 1) := by decide +kernel
theorem dK_own_0 : decode prog_5_method_3_code 0 = .ok (.aload_n 0, 1) := by decide +kernel
theorem dK_own_1 : decode prog_5_method_3_code 1 = .ok (.getfield 29, 3) := by decide +kernel
theorem dK_own_4 : decode prog_5_method_3_code 4 = .ok (.aload_n 0, 1) := by decide +kernel
theorem dK_own_5 : decode prog_5_method_3_code 5 = .ok (.getfield 25, 3) := by decide +kernel
theorem dK_own_8 : decode prog_5_method_3_code 8 = .ok (.if_icmp .ge 15, 3) := by decide +kernel
theorem dK_own_11 : decode prog_5_method_3_code 11 = .ok (.aload_n 0, 1) := by decide +kernel
theorem dK_own_12 : decode prog_5_method_3_code 12 = .ok (.getfield 19, 3) := by decide +kernel
theorem dK_own_15 : decode prog_5_method_3_code 15 = .ok (.aload_n 0, 1) := by decide +kernel
theorem dK_own_16 : decode prog_5_method_3_code 16 = .ok (.getfield 29, 3) := by decide +kernel
theorem dK_own_19 : decode prog_5_method_3_code 19 = .ok (.iaload, 1) := by decide +kernel
theorem dK_own_20 : decode prog_5_method_3_code 20 = .ok (.goto 10, 3) := by decide +kernel
theorem dK_own_23 : decode prog_5_method_3_code 23 = .ok (.aload_n 0, 1) := by decide +kernel
theorem dK_own_24 : decode prog_5_method_3_code 24 = .ok (.getfield 9, 3) := by decide +kernel
theorem dK_own_27 : decode prog_5_method_3_code 27 = .ok (.getfield 32, 3) := by decide +kernel
theorem dK_own_30 : decode prog_5_method_3_code 30 = .ok (.ireturn, 1) := by decide +kernel
theorem dK_end_0 : decode prog_5_method_4_code 0 = .ok (.aload_n 0, 1) := by decide +kernel
theorem dK_end_1 : decode prog_5_method_4_code 1 = .ok (.getfield 29, 3) := by decide +kernel
theorem dK_end_4 : decode prog_5_method_4_code 4 = .ok (.aload_n 0, 1) := by decide +kernel
theorem dK_end_5 : decode prog_5_method_4_code 5 = .ok (.getfield 25, 3) := by decide +kernel
theorem dK_end_8 : decode prog_5_method_4_code 8 = .ok (.if_icmp .ge 15, 3) := by decide +kernel
theorem dK_end_11 : decode prog_5_method_4_code 11 = .ok (.aload_n 0, 1) := by decide +kernel
theorem dK_end_12 : decode prog_5_method_4_code 12 = .ok (.getfield 22, 3) := by decide +kernel
theorem dK_end_15 : decode prog_5_method_4_code 15 = .ok (.aload_n 0, 1) := by decide +kernel
theorem dK_end_16 : decode prog_5_method_4_code 16 = .ok (.getfield 29, 3) := by decide +kernel
theorem dK_end_19 : decode prog_5_method_4_code 19 = .ok (.iaload, 1) := by decide +kernel
theorem dK_end_20 : decode prog_5_method_4_code 20 = .ok (.goto 10, 3) := by decide +kernel
theorem dK_end_23 : decode prog_5_method_4_code 23 = .ok (.aload_n 0, 1) := by decide +kernel
theorem dK_end_24 : decode prog_5_method_4_code 24 = .ok (.getfield 9, 3) := by decide +kernel
theorem dK_end_27 : decode prog_5_method_4_code 27 = .ok (.getfield 32, 3) := by decide +kernel
theorem dK_end_30 : decode prog_5_method_4_code 30 = .ok (.ireturn, 1) := by decide +kernel
theorem dK_advance_0 : decode prog_5_method_5_code 0 = .ok (.aload_n 0, 1) := by decide +kernel
theorem dK_advance_1 : decode prog_5_method_5_code 1 = .ok (.getfield 29, 3) := by decide +kernel
theorem dK_advance_4 : decode prog_5_method_5_code 4 = .ok (.aload_n 0, 1) := by decide +kernel
theorem dK_advance_5 : decode prog_5_method_5_code 5 = .ok (.getfield 25, 3) := by decide +kernel
theorem dK_advance_8 : decode prog_5_method_5_code 8 = .ok (.iconst 1, 1) := by decide +kernel
theorem dK_advance_9 : decode prog_5_method_5_code 9 = .ok (.isub, 1) := by decide +kernel
theorem dK_advance_10 : decode prog_5_method_5_code 10 = .ok (.if_icmp .ge 13, 3) := by decide +kernel
theorem dK_advance_13 : decode prog_5_method_5_code 13 = .ok (.aload_n 0, 1) := by decide +kernel
theorem dK_advance_14 : decode prog_5_method_5_code 14 = .ok (.dup, 1) := by decide +kernel
theorem dK_advance_15 : decode prog_5_method_5_code 15 = .ok (.getfield 29, 3) := by decide +kernel
theorem dK_advance_18 : decode prog_5_method_5_code 18 = .ok (.iconst 1, 1) := by decide +kernel
theorem dK_advance_19 : decode prog_5_method_5_code 19 = .ok (.iadd, 1) := by decide +kernel
theorem dK_advance_20 : decode prog_5_method_5_code 20 = .ok (.putfield 29, 3) := by decide +kernel
theorem dK_advance_23 : decode prog_5_method_5_code 23 = .ok (.return_, 1) := by decide +kernel
theorem dK_cut_0 : decode prog_5_method_6_code 0 = .ok (.aload_n 0, 1) := by decide +kernel
theorem dK_cut_1 : decode prog_5_method_6_code 1 = .ok (.iconst 0, 1) := by decide +kernel
theorem dK_cut_2 : decode prog_5_method_6_code 2 = .ok (.putfield 25, 3) := by decide +kernel
theorem dK_cut_5 : decode prog_5_method_6_code 5 = .ok (.aload_n 0, 1) := by decide +kernel
theorem dK_cut_6 : decode prog_5_method_6_code 6 = .ok (.iconst 0, 1) := by decide +kernel
theorem dK_cut_7 : decode prog_5_method_6_code 7 = .ok (.putfield 29, 3) := by decide +kernel
theorem dK_cut_10 : decode prog_5_method_6_code 10 = .ok (.iconst (-1), 1) := by decide +kernel
theorem dK_cut_11 : decode prog_5_method_6_code 11 = .ok (.istore_n 1, 1) := by decide +kernel
theorem dK_cut_12 : decode prog_5_method_6_code 12 = .ok (.iconst 0, 1) := by decide +kernel
theorem dK_cut_13 : decode prog_5_method_6_code 13 = .ok (.istore_n 2, 1) := by decide +kernel
theorem dK_cut_14 : decode prog_5_method_6_code 14 = .ok (.aload_n 0, 1) := by decide +kernel
theorem dK_cut_15 : decode prog_5_method_6_code 15 = .ok (.getfield 25, 3) := by decide +kernel
theorem dK_cut_18 : decode prog_5_method_6_code 18 = .ok (.bipush 61, 2) := by decide +kernel
theorem dK_cut_20 : decode prog_5_method_6_code 20 = .ok (.if_icmp .ge 71, 3) := by decide +kernel
theorem dK_cut_23 : decode prog_5_method_6_code 23 = .ok (.iload_n 1, 1) := by decide +kernel
theorem dK_cut_24 : decode prog_5_method_6_code 24 = .ok (.bipush 17, 2) := by decide +kernel
theorem dK_cut_26 : decode prog_5_method_6_code 26 = .ok (.if_icmp .eq 65, 3) := by decide +kernel
theorem dK_cut_29 : decode prog_5_method_6_code 29 = .ok (.aload_n 0, 1) := by decide +kernel
theorem dK_cut_30 : decode prog_5_method_6_code 30 = .ok (.iload_n 2, 1) := by decide +kernel
theorem dK_cut_31 : decode prog_5_method_6_code 31 = .ok (.invokevirtual 37, 3) := by decide +kernel
theorem dK_cut_34 : decode prog_5_method_6_code 34 = .ok (.istore_n 3, 1) := by decide +kernel
theorem dK_cut_35 : decode prog_5_method_6_code 35 = .ok (.aload_n 0, 1) := by decide +kernel
theorem dK_cut_36 : decode prog_5_method_6_code 36 = .ok (.iload_n 3, 1) := by decide +kernel
theorem dK_cut_37 : decode prog_5_method_6_code 37 = .ok (.invokevirtual 41, 3) := by decide +kernel
theorem dK_cut_40 : decode prog_5_method_6_code 40 = .ok (.istore_n 2, 1) := by decide +kernel
theorem dK_cut_41 : decode prog_5_method_6_code 41 = .ok (.aload_n 0, 1) := by decide +kernel
theorem dK_cut_42 : decode prog_5_method_6_code 42 = .ok (.iload_n 3, 1) := by decide +kernel
theorem dK_cut_43 : decode prog_5_method_6_code 43 = .ok (.iload_n 2, 1) := by decide +kernel
theorem dK_cut_44 : decode prog_5_method_6_code 44 = .ok (.invokevirtual 44, 3) := by decide +kernel
theorem dK_cut_47 : decode prog_5_method_6_code 47 = .ok (.istore_n 1, 1) := by decide +kernel
theorem dK_cut_48 : decode prog_5_method_6_code 48 = .ok (.aload_n 0, 1) := by decide +kernel
theorem dK_cut_49 : decode prog_5_method_6_code 49 = .ok (.getfield 15, 3) := by decide +kernel
theorem dK_cut_52 : decode prog_5_method_6_code 52 = .ok (.aload_n 0, 1) := by decide +kernel
theorem dK_cut_53 : decode prog_5_method_6_code 53 = .ok (.getfield 25, 3) := by decide +kernel
theorem dK_cut_56 : decode prog_5_method_6_code 56 = .ok (.iload_n 1, 1) := by decide +kernel
theorem dK_cut_57 : decode prog_5_method_6_code 57 = .ok (.iastore, 1) := by decide +kernel
theorem dK_cut_58 : decode prog_5_method_6_code 58 = .ok (.aload_n 0, 1) := by decide +kernel
theorem dK_cut_59 : decode prog_5_method_6_code 59 = .ok (.getfield 19, 3) := by decide +kernel
theorem dK_cut_62 : decode prog_5_method_6_code 62 = .ok (.aload_n 0, 1) := by decide +kernel
theorem dK_cut_63 : decode prog_5_method_6_code 63 = .ok (.getfield 25, 3) := by decide +kernel
theorem dK_cut_66 : decode prog_5_method_6_code 66 = .ok (.iload_n 3, 1) := by decide +kernel
theorem dK_cut_67 : decode prog_5_method_6_code 67 = .ok (.iastore, 1) := by decide +kernel
theorem dK_cut_68 : decode prog_5_method_6_code 68 = .ok (.aload_n 0, 1) := by decide +kernel
theorem dK_cut_69 : decode prog_5_method_6_code 69 = .ok (.getfield 22, 3) := by decide +kernel
theorem dK_cut_72 : decode prog_5_method_6_code 72 = .ok (.aload_n 0, 1) := by decide +kernel
theorem dK_cut_73 : decode prog_5_method_6_code 73 = .ok (.getfield 25, 3) := by decide +kernel
theorem dK_cut_76 : decode prog_5_method_6_code 76 = .ok (.iload_n 2, 1) := by decide +kernel
theorem dK_cut_77 : decode prog_5_method_6_code 77 = .ok (.iastore, 1) := by decide +kernel
theorem dK_cut_78 : decode prog_5_method_6_code 78 = .ok (.aload_n 0, 1) := by decide +kernel
theorem dK_cut_79 : decode prog_5_method_6_code 79 = .ok (.dup, 1) := by decide +kernel
theorem dK_cut_80 : decode prog_5_method_6_code 80 = .ok (.getfield 25, 3) := by decide +kernel
theorem dK_cut_83 : decode prog_5_method_6_code 83 = .ok (.iconst 1, 1) := by decide +kernel
theorem dK_cut_84 : decode prog_5_method_6_code 84 = .ok (.iadd, 1) := by decide +kernel
theorem dK_cut_85 : decode prog_5_method_6_code 85 = .ok (.putfield 25, 3) := by decide +kernel
theorem dK_cut_88 : decode prog_5_method_6_code 88 = .ok (.goto (-74), 3) := by decide +kernel
theorem dK_cut_91 : decode prog_5_method_6_code 91 = .ok (.return_, 1) := by decide +kernel
theorem dK_behindBlanks_0 : decode prog_5_method_7_code 0 = .ok (.iconst 0, 1) := by decide +kernel
theorem dK_behindBlanks_1 : decode prog_5_method_7_code 1 = .ok (.istore_n 2, 1) := by decide +kernel
theorem dK_behindBlanks_2 : decode prog_5_method_7_code 2 = .ok (.iload_n 1, 1) := by decide +kernel
theorem dK_behindBlanks_3 : decode prog_5_method_7_code 3 = .ok (.istore_n 3, 1) := by decide +kernel
theorem dK_behindBlanks_4 : decode prog_5_method_7_code 4 = .ok (.iload_n 3, 1) := by decide +kernel
theorem dK_behindBlanks_5 : decode prog_5_method_7_code 5 = .ok (.aload_n 0, 1) := by decide +kernel
theorem dK_behindBlanks_6 : decode prog_5_method_7_code 6 = .ok (.getfield 9, 3) := by decide +kernel
theorem dK_behindBlanks_9 : decode prog_5_method_7_code 9 = .ok (.getfield 32, 3) := by decide +kernel
theorem dK_behindBlanks_12 : decode prog_5_method_7_code 12 = .ok (.if_icmp .ge 57, 3) := by decide +kernel
theorem dK_behindBlanks_15 : decode prog_5_method_7_code 15 = .ok (.aload_n 0, 1) := by decide +kernel
theorem dK_behindBlanks_16 : decode prog_5_method_7_code 16 = .ok (.getfield 9, 3) := by decide +kernel
theorem dK_behindBlanks_19 : decode prog_5_method_7_code 19 = .ok (.iload_n 3, 1) := by decide +kernel
theorem dK_behindBlanks_20 : decode prog_5_method_7_code 20 = .ok (.invokevirtual 48, 3) := by decide +kernel
theorem dK_behindBlanks_23 : decode prog_5_method_7_code 23 = .ok (.istore 4, 2) := by decide +kernel
theorem dK_behindBlanks_25 : decode prog_5_method_7_code 25 = .ok (.iload 4, 2) := by decide +kernel
theorem dK_behindBlanks_27 : decode prog_5_method_7_code 27 = .ok (.bipush 10, 2) := by decide +kernel
theorem dK_behindBlanks_29 : decode prog_5_method_7_code 29 = .ok (.if_icmp .ne 8, 3) := by decide +kernel
theorem dK_behindBlanks_32 : decode prog_5_method_7_code 32 = .ok (.iconst 0, 1) := by decide +kernel
theorem dK_behindBlanks_33 : decode prog_5_method_7_code 33 = .ok (.istore_n 2, 1) := by decide +kernel
theorem dK_behindBlanks_34 : decode prog_5_method_7_code 34 = .ok (.goto 29, 3) := by decide +kernel
theorem dK_behindBlanks_37 : decode prog_5_method_7_code 37 = .ok (.iload 4, 2) := by decide +kernel
theorem dK_behindBlanks_39 : decode prog_5_method_7_code 39 = .ok (.bipush 35, 2) := by decide +kernel
theorem dK_behindBlanks_41 : decode prog_5_method_7_code 41 = .ok (.if_icmp .ne 8, 3) := by decide +kernel
theorem dK_behindBlanks_44 : decode prog_5_method_7_code 44 = .ok (.iconst 1, 1) := by decide +kernel
theorem dK_behindBlanks_45 : decode prog_5_method_7_code 45 = .ok (.istore_n 2, 1) := by decide +kernel
theorem dK_behindBlanks_46 : decode prog_5_method_7_code 46 = .ok (.goto 17, 3) := by decide +kernel
theorem dK_behindBlanks_49 : decode prog_5_method_7_code 49 = .ok (.iload 4, 2) := by decide +kernel
theorem dK_behindBlanks_51 : decode prog_5_method_7_code 51 = .ok (.bipush 32, 2) := by decide +kernel
theorem dK_behindBlanks_53 : decode prog_5_method_7_code 53 = .ok (.if_icmp .eq 10, 3) := by decide +kernel
theorem dK_behindBlanks_56 : decode prog_5_method_7_code 56 = .ok (.iload_n 2, 1) := by decide +kernel
theorem dK_behindBlanks_57 : decode prog_5_method_7_code 57 = .ok (.ifCond .ne 6, 3) := by decide +kernel
theorem dK_behindBlanks_60 : decode prog_5_method_7_code 60 = .ok (.goto 9, 3) := by decide +kernel
theorem dK_behindBlanks_63 : decode prog_5_method_7_code 63 = .ok (.iinc 3 1, 3) := by decide +kernel
theorem dK_behindBlanks_66 : decode prog_5_method_7_code 66 = .ok (.goto (-62), 3) := by decide +kernel
theorem dK_behindBlanks_69 : decode prog_5_method_7_code 69 = .ok (.iload_n 3, 1) := by decide +kernel
theorem dK_behindBlanks_70 : decode prog_5_method_7_code 70 = .ok (.ireturn, 1) := by decide +kernel
