/-! decode rows -/
theorem dX_init_0 : decode prog_1_method_1_code 0 = .ok (.aload_n 0, 1) := by decide +kernel
theorem dX_init_1 : decode prog_1_method_1_code 1 = .ok (.invokespecial 3, 3) := by decide +kernel
theorem dX_init_4 : decode prog_1_method_1_code 4 = .ok (.new 9, 3) := by decide +kernel
theorem dX_init_7 : decode prog_1_method_1_code 7 = .ok (.dup, 1) := by decide +kernel
theorem dX_init_8 : decode prog_1_method_1_code 8 = .ok (.new 11, 3) := by decide +kernel
theorem dX_init_11 : decode prog_1_method_1_code 11 = .ok (.dup, 1) := by decide +kernel
theorem dX_init_12 : decode prog_1_method_1_code 12 = .ok (.bipush 60, 2) := by decide +kernel
theorem dX_init_14 : decode prog_1_method_1_code 14 = .ok (.invokespecial 13, 3) := by decide +kernel
theorem dX_init_17 : decode prog_1_method_1_code 17 = .ok (.invokespecial 16, 3) := by decide +kernel
theorem dX_init_20 : decode prog_1_method_1_code 20 = .ok (.astore_n 1, 1) := by decide +kernel
theorem dX_init_21 : decode prog_1_method_1_code 21 = .ok (.aload_n 1, 1) := by decide +kernel
theorem dX_init_22 : decode prog_1_method_1_code 22 = .ok (.invokevirtual 19, 3) := by decide +kernel
theorem dX_init_25 : decode prog_1_method_1_code 25 = .ok (.aload_n 0, 1) := by decide +kernel
theorem dX_init_26 : decode prog_1_method_1_code 26 = .ok (.aload_n 1, 1) := by decide +kernel
theorem dX_init_27 : decode prog_1_method_1_code 27 = .ok (.putfield 22, 3) := by decide +kernel
theorem dX_init_30 : decode prog_1_method_1_code 30 = .ok (.aload_n 0, 1) := by decide +kernel
theorem dX_init_31 : decode prog_1_method_1_code 31 = .ok (.new 9, 3) := by decide +kernel
theorem dX_init_34 : decode prog_1_method_1_code 34 = .ok (.dup, 1) := by decide +kernel
theorem dX_init_35 : decode prog_1_method_1_code 35 = .ok (.new 11, 3) := by decide +kernel
theorem dX_init_38 : decode prog_1_method_1_code 38 = .ok (.dup, 1) := by decide +kernel
theorem dX_init_39 : decode prog_1_method_1_code 39 = .ok (.bipush 60, 2) := by decide +kernel
theorem dX_init_41 : decode prog_1_method_1_code 41 = .ok (.invokespecial 13, 3) := by decide +kernel
theorem dX_init_44 : decode prog_1_method_1_code 44 = .ok (.invokespecial 16, 3) := by decide +kernel
theorem dX_init_47 : decode prog_1_method_1_code 47 = .ok (.putfield 26, 3) := by decide +kernel
theorem dX_init_50 : decode prog_1_method_1_code 50 = .ok (.aload_n 0, 1) := by decide +kernel
theorem dX_init_51 : decode prog_1_method_1_code 51 = .ok (.new 11, 3) := by decide +kernel
theorem dX_init_54 : decode prog_1_method_1_code 54 = .ok (.dup, 1) := by decide +kernel
theorem dX_init_55 : decode prog_1_method_1_code 55 = .ok (.bipush 20, 2) := by decide +kernel
theorem dX_init_57 : decode prog_1_method_1_code 57 = .ok (.invokespecial 13, 3) := by decide +kernel
theorem dX_init_60 : decode prog_1_method_1_code 60 = .ok (.putfield 29, 3) := by decide +kernel
theorem dX_init_63 : decode prog_1_method_1_code 63 = .ok (.aload_n 0, 1) := by decide +kernel
theorem dX_init_64 : decode prog_1_method_1_code 64 = .ok (.new 33, 3) := by decide +kernel
theorem dX_init_67 : decode prog_1_method_1_code 67 = .ok (.dup, 1) := by decide +kernel
theorem dX_init_68 : decode prog_1_method_1_code 68 = .ok (.invokespecial 35, 3) := by decide +kernel
theorem dX_init_71 : decode prog_1_method_1_code 71 = .ok (.putfield 36, 3) := by decide +kernel
theorem dX_init_74 : decode prog_1_method_1_code 74 = .ok (.aload_n 0, 1) := by decide +kernel
theorem dX_init_75 : decode prog_1_method_1_code 75 = .ok (.iconst 0, 1) := by decide +kernel
theorem dX_init_76 : decode prog_1_method_1_code 76 = .ok (.putfield 40, 3) := by decide +kernel
theorem dX_init_79 : decode prog_1_method_1_code 79 = .ok (.aload_n 0, 1) := by decide +kernel
theorem dX_init_80 : decode prog_1_method_1_code 80 = .ok (.iconst 0, 1) := by decide +kernel
theorem dX_init_81 : decode prog_1_method_1_code 81 = .ok (.putfield 44, 3) := by decide +kernel
theorem dX_init_84 : decode prog_1_method_1_code 84 = .ok (.return_, 1) := by decide +kernel
theorem dX_type_0 : decode prog_1_method_2_code 0 = .ok (.iload_n 1, 1) := by decide +kernel
theorem dX_type_1 : decode prog_1_method_2_code 1 = .ok (.bipush 10, 2) := by decide +kernel
theorem dX_type_3 : decode prog_1_method_2_code 3 = .ok (.if_icmp .eq 15, 3) := by decide +kernel
theorem dX_type_6 : decode prog_1_method_2_code 6 = .ok (.iload_n 1, 1) := by decide +kernel
theorem dX_type_7 : decode prog_1_method_2_code 7 = .ok (.bipush 32, 2) := by decide +kernel
theorem dX_type_9 : decode prog_1_method_2_code 9 = .ok (.if_icmp .lt 13, 3) := by decide +kernel
theorem dX_type_12 : decode prog_1_method_2_code 12 = .ok (.iload_n 1, 1) := by decide +kernel
theorem dX_type_13 : decode prog_1_method_2_code 13 = .ok (.bipush 126, 2) := by decide +kernel
theorem dX_type_15 : decode prog_1_method_2_code 15 = .ok (.if_icmp .gt 7, 3) := by decide +kernel
theorem dX_type_18 : decode prog_1_method_2_code 18 = .ok (.iconst 1, 1) := by decide +kernel
theorem dX_type_19 : decode prog_1_method_2_code 19 = .ok (.goto 4, 3) := by decide +kernel
theorem dX_type_22 : decode prog_1_method_2_code 22 = .ok (.iconst 0, 1) := by decide +kernel
theorem dX_type_23 : decode prog_1_method_2_code 23 = .ok (.istore_n 2, 1) := by decide +kernel
theorem dX_type_24 : decode prog_1_method_2_code 24 = .ok (.iload_n 2, 1) := by decide +kernel
theorem dX_type_25 : decode prog_1_method_2_code 25 = .ok (.ifCond .eq 18, 3) := by decide +kernel
theorem dX_type_28 : decode prog_1_method_2_code 28 = .ok (.aload_n 0, 1) := by decide +kernel
theorem dX_type_29 : decode prog_1_method_2_code 29 = .ok (.getfield 29, 3) := by decide +kernel
theorem dX_type_32 : decode prog_1_method_2_code 32 = .ok (.iload_n 1, 1) := by decide +kernel
theorem dX_type_33 : decode prog_1_method_2_code 33 = .ok (.invokevirtual 47, 3) := by decide +kernel
theorem dX_type_36 : decode prog_1_method_2_code 36 = .ok (.ifCond .eq 7, 3) := by decide +kernel
theorem dX_type_39 : decode prog_1_method_2_code 39 = .ok (.iconst 1, 1) := by decide +kernel
theorem dX_type_40 : decode prog_1_method_2_code 40 = .ok (.goto 4, 3) := by decide +kernel
theorem dX_type_43 : decode prog_1_method_2_code 43 = .ok (.iconst 0, 1) := by decide +kernel
theorem dX_type_44 : decode prog_1_method_2_code 44 = .ok (.ireturn, 1) := by decide +kernel
theorem dX_edit_0 : decode prog_1_method_3_code 0 = .ok (.aload_n 0, 1) := by decide +kernel
theorem dX_edit_1 : decode prog_1_method_3_code 1 = .ok (.iload_n 1, 1) := by decide +kernel
theorem dX_edit_2 : decode prog_1_method_3_code 2 = .ok (.iload_n 2, 1) := by decide +kernel
theorem dX_edit_3 : decode prog_1_method_3_code 3 = .ok (.invokevirtual 51, 3) := by decide +kernel
theorem dX_edit_6 : decode prog_1_method_3_code 6 = .ok (.istore_n 3, 1) := by decide +kernel
theorem dX_edit_7 : decode prog_1_method_3_code 7 = .ok (.iload_n 3, 1) := by decide +kernel
theorem dX_edit_8 : decode prog_1_method_3_code 8 = .ok (.ifCond .eq 71, 3) := by decide +kernel
theorem dX_edit_11 : decode prog_1_method_3_code 11 = .ok (.aload_n 0, 1) := by decide +kernel
theorem dX_edit_12 : decode prog_1_method_3_code 12 = .ok (.getfield 36, 3) := by decide +kernel
theorem dX_edit_15 : decode prog_1_method_3_code 15 = .ok (.aload_n 0, 1) := by decide +kernel
theorem dX_edit_16 : decode prog_1_method_3_code 16 = .ok (.getfield 22, 3) := by decide +kernel
theorem dX_edit_19 : decode prog_1_method_3_code 19 = .ok (.getfield 55, 3) := by decide +kernel
theorem dX_edit_22 : decode prog_1_method_3_code 22 = .ok (.invokevirtual 58, 3) := by decide +kernel
theorem dX_edit_25 : decode prog_1_method_3_code 25 = .ok (.aload_n 0, 1) := by decide +kernel
theorem dX_edit_26 : decode prog_1_method_3_code 26 = .ok (.getfield 26, 3) := by decide +kernel
theorem dX_edit_29 : decode prog_1_method_3_code 29 = .ok (.getfield 55, 3) := by decide +kernel
theorem dX_edit_32 : decode prog_1_method_3_code 32 = .ok (.aload_n 0, 1) := by decide +kernel
theorem dX_edit_33 : decode prog_1_method_3_code 33 = .ok (.getfield 22, 3) := by decide +kernel
theorem dX_edit_36 : decode prog_1_method_3_code 36 = .ok (.getfield 55, 3) := by decide +kernel
theorem dX_edit_39 : decode prog_1_method_3_code 39 = .ok (.iload_n 1, 1) := by decide +kernel
theorem dX_edit_40 : decode prog_1_method_3_code 40 = .ok (.iload_n 2, 1) := by decide +kernel
theorem dX_edit_41 : decode prog_1_method_3_code 41 = .ok (.aload_n 0, 1) := by decide +kernel
theorem dX_edit_42 : decode prog_1_method_3_code 42 = .ok (.getfield 29, 3) := by decide +kernel
theorem dX_edit_45 : decode prog_1_method_3_code 45 = .ok (.invokevirtual 61, 3) := by decide +kernel
theorem dX_edit_48 : decode prog_1_method_3_code 48 = .ok (.aload_n 0, 1) := by decide +kernel
theorem dX_edit_49 : decode prog_1_method_3_code 49 = .ok (.getfield 26, 3) := by decide +kernel
theorem dX_edit_52 : decode prog_1_method_3_code 52 = .ok (.invokevirtual 19, 3) := by decide +kernel
theorem dX_edit_55 : decode prog_1_method_3_code 55 = .ok (.aload_n 0, 1) := by decide +kernel
theorem dX_edit_56 : decode prog_1_method_3_code 56 = .ok (.invokevirtual 65, 3) := by decide +kernel
theorem dX_edit_59 : decode prog_1_method_3_code 59 = .ok (.aload_n 0, 1) := by decide +kernel
theorem dX_edit_60 : decode prog_1_method_3_code 60 = .ok (.aload_n 0, 1) := by decide +kernel
theorem dX_edit_61 : decode prog_1_method_3_code 61 = .ok (.iload_n 1, 1) := by decide +kernel
theorem dX_edit_62 : decode prog_1_method_3_code 62 = .ok (.iload_n 2, 1) := by decide +kernel
theorem dX_edit_63 : decode prog_1_method_3_code 63 = .ok (.invokevirtual 68, 3) := by decide +kernel
theorem dX_edit_66 : decode prog_1_method_3_code 66 = .ok (.putfield 44, 3) := by decide +kernel
theorem dX_edit_69 : decode prog_1_method_3_code 69 = .ok (.aload_n 0, 1) := by decide +kernel
theorem dX_edit_70 : decode prog_1_method_3_code 70 = .ok (.dup, 1) := by decide +kernel
theorem dX_edit_71 : decode prog_1_method_3_code 71 = .ok (.getfield 40, 3) := by decide +kernel
theorem dX_edit_74 : decode prog_1_method_3_code 74 = .ok (.iconst 1, 1) := by decide +kernel
theorem dX_edit_75 : decode prog_1_method_3_code 75 = .ok (.iadd, 1) := by decide +kernel
theorem dX_edit_76 : decode prog_1_method_3_code 76 = .ok (.putfield 40, 3) := by decide +kernel
theorem dX_edit_79 : decode prog_1_method_3_code 79 = .ok (.aload_n 0, 1) := by decide +kernel
theorem dX_edit_80 : decode prog_1_method_3_code 80 = .ok (.getfield 29, 3) := by decide +kernel
theorem dX_edit_83 : decode prog_1_method_3_code 83 = .ok (.invokevirtual 72, 3) := by decide +kernel
theorem dX_edit_86 : decode prog_1_method_3_code 86 = .ok (.iload_n 3, 1) := by decide +kernel
theorem dX_edit_87 : decode prog_1_method_3_code 87 = .ok (.ireturn, 1) := by decide +kernel
theorem dX_undo_0 : decode prog_1_method_4_code 0 = .ok (.aload_n 0, 1) := by decide +kernel
theorem dX_undo_1 : decode prog_1_method_4_code 1 = .ok (.getfield 36, 3) := by decide +kernel
theorem dX_undo_4 : decode prog_1_method_4_code 4 = .ok (.aload_n 0, 1) := by decide +kernel
theorem dX_undo_5 : decode prog_1_method_4_code 5 = .ok (.getfield 22, 3) := by decide +kernel
theorem dX_undo_8 : decode prog_1_method_4_code 8 = .ok (.getfield 55, 3) := by decide +kernel
theorem dX_undo_11 : decode prog_1_method_4_code 11 = .ok (.invokevirtual 75, 3) := by decide +kernel
theorem dX_undo_14 : decode prog_1_method_4_code 14 = .ok (.ifCond .ne 5, 3) := by decide +kernel
theorem dX_undo_17 : decode prog_1_method_4_code 17 = .ok (.iconst 0, 1) := by decide +kernel
theorem dX_undo_18 : decode prog_1_method_4_code 18 = .ok (.ireturn, 1) := by decide +kernel
theorem dX_undo_19 : decode prog_1_method_4_code 19 = .ok (.aload_n 0, 1) := by decide +kernel
theorem dX_undo_20 : decode prog_1_method_4_code 20 = .ok (.getfield 22, 3) := by decide +kernel
theorem dX_undo_23 : decode prog_1_method_4_code 23 = .ok (.invokevirtual 19, 3) := by decide +kernel
theorem dX_undo_26 : decode prog_1_method_4_code 26 = .ok (.aload_n 0, 1) := by decide +kernel
theorem dX_undo_27 : decode prog_1_method_4_code 27 = .ok (.dup, 1) := by decide +kernel
theorem dX_undo_28 : decode prog_1_method_4_code 28 = .ok (.getfield 40, 3) := by decide +kernel
theorem dX_undo_31 : decode prog_1_method_4_code 31 = .ok (.iconst 1, 1) := by decide +kernel
theorem dX_undo_32 : decode prog_1_method_4_code 32 = .ok (.isub, 1) := by decide +kernel
theorem dX_undo_33 : decode prog_1_method_4_code 33 = .ok (.putfield 40, 3) := by decide +kernel
theorem dX_undo_36 : decode prog_1_method_4_code 36 = .ok (.iconst 1, 1) := by decide +kernel
theorem dX_undo_37 : decode prog_1_method_4_code 37 = .ok (.ireturn, 1) := by decide +kernel
theorem dX_length_0 : decode prog_1_method_5_code 0 = .ok (.aload_n 0, 1) := by decide +kernel
theorem dX_length_1 : decode prog_1_method_5_code 1 = .ok (.getfield 22, 3) := by decide +kernel
theorem dX_length_4 : decode prog_1_method_5_code 4 = .ok (.getfield 55, 3) := by decide +kernel
theorem dX_length_7 : decode prog_1_method_5_code 7 = .ok (.getfield 79, 3) := by decide +kernel
theorem dX_length_10 : decode prog_1_method_5_code 10 = .ok (.ireturn, 1) := by decide +kernel
theorem dX_letter_0 : decode prog_1_method_6_code 0 = .ok (.aload_n 0, 1) := by decide +kernel
theorem dX_letter_1 : decode prog_1_method_6_code 1 = .ok (.getfield 22, 3) := by decide +kernel
theorem dX_letter_4 : decode prog_1_method_6_code 4 = .ok (.getfield 55, 3) := by decide +kernel
theorem dX_letter_7 : decode prog_1_method_6_code 7 = .ok (.iload_n 1, 1) := by decide +kernel
theorem dX_letter_8 : decode prog_1_method_6_code 8 = .ok (.invokevirtual 82, 3) := by decide +kernel
theorem dX_letter_11 : decode prog_1_method_6_code 11 = .ok (.ireturn, 1) := by decide +kernel
theorem dX_node_0 : decode prog_1_method_7_code 0 = .ok (.aload_n 0, 1) := by decide +kernel
theorem dX_node_1 : decode prog_1_method_7_code 1 = .ok (.getfield 22, 3) := by decide +kernel
theorem dX_node_4 : decode prog_1_method_7_code 4 = .ok (.getfield 86, 3) := by decide +kernel
theorem dX_node_7 : decode prog_1_method_7_code 7 = .ok (.astore_n 3, 1) := by decide +kernel
theorem dX_node_8 : decode prog_1_method_7_code 8 = .ok (.aload_n 3, 1) := by decide +kernel
theorem dX_node_9 : decode prog_1_method_7_code 9 = .ok (.iload_n 1, 1) := by decide +kernel
theorem dX_node_10 : decode prog_1_method_7_code 10 = .ok (.invokevirtual 90, 3) := by decide +kernel
theorem dX_node_13 : decode prog_1_method_7_code 13 = .ok (.ifCond .ne 5, 3) := by decide +kernel
theorem dX_node_16 : decode prog_1_method_7_code 16 = .ok (.iconst (-1), 1) := by decide +kernel
theorem dX_node_17 : decode prog_1_method_7_code 17 = .ok (.ireturn, 1) := by decide +kernel
theorem dX_node_18 : decode prog_1_method_7_code 18 = .ok (.iload_n 2, 1) := by decide +kernel
theorem dX_node_19 : decode prog_1_method_7_code 19 = .ok (.tableswitch 114 0 8 #[49, 56, 63, 69, 75, 81, 87, 101, 107], 49) := by decide +kernel
theorem dX_node_68 : decode prog_1_method_7_code 68 = .ok (.aload_n 3, 1) := by decide +kernel
theorem dX_node_69 : decode prog_1_method_7_code 69 = .ok (.getfield 95, 3) := by decide +kernel
theorem dX_node_72 : decode prog_1_method_7_code 72 = .ok (.iload_n 1, 1) := by decide +kernel
theorem dX_node_73 : decode prog_1_method_7_code 73 = .ok (.iaload, 1) := by decide +kernel
theorem dX_node_74 : decode prog_1_method_7_code 74 = .ok (.ireturn, 1) := by decide +kernel
theorem dX_node_75 : decode prog_1_method_7_code 75 = .ok (.aload_n 3, 1) := by decide +kernel
theorem dX_node_76 : decode prog_1_method_7_code 76 = .ok (.getfield 99, 3) := by decide +kernel
theorem dX_node_79 : decode prog_1_method_7_code 79 = .ok (.iload_n 1, 1) := by decide +kernel
theorem dX_node_80 : decode prog_1_method_7_code 80 = .ok (.iaload, 1) := by decide +kernel
theorem dX_node_81 : decode prog_1_method_7_code 81 = .ok (.ireturn, 1) := by decide +kernel
theorem dX_node_82 : decode prog_1_method_7_code 82 = .ok (.aload_n 3, 1) := by decide +kernel
theorem dX_node_83 : decode prog_1_method_7_code 83 = .ok (.iload_n 1, 1) := by decide +kernel
theorem dX_node_84 : decode prog_1_method_7_code 84 = .ok (.invokevirtual 102, 3) := by decide +kernel
theorem dX_node_87 : decode prog_1_method_7_code 87 = .ok (.ireturn, 1) := by decide +kernel
theorem dX_node_88 : decode prog_1_method_7_code 88 = .ok (.aload_n 3, 1) := by decide +kernel
theorem dX_node_89 : decode prog_1_method_7_code 89 = .ok (.iload_n 1, 1) := by decide +kernel
theorem dX_node_90 : decode prog_1_method_7_code 90 = .ok (.invokevirtual 105, 3) := by decide +kernel
theorem dX_node_93 : decode prog_1_method_7_code 93 = .ok (.ireturn, 1) := by decide +kernel
theorem dX_node_94 : decode prog_1_method_7_code 94 = .ok (.aload_n 3, 1) := by decide +kernel
theorem dX_node_95 : decode prog_1_method_7_code 95 = .ok (.iload_n 1, 1) := by decide +kernel
theorem dX_node_96 : decode prog_1_method_7_code 96 = .ok (.invokevirtual 108, 3) := by decide +kernel
theorem dX_node_99 : decode prog_1_method_7_code 99 = .ok (.ireturn, 1) := by decide +kernel
theorem dX_node_100 : decode prog_1_method_7_code 100 = .ok (.aload_n 3, 1) := by decide +kernel
theorem dX_node_101 : decode prog_1_method_7_code 101 = .ok (.iload_n 1, 1) := by decide +kernel
theorem dX_node_102 : decode prog_1_method_7_code 102 = .ok (.invokevirtual 111, 3) := by decide +kernel
theorem dX_node_105 : decode prog_1_method_7_code 105 = .ok (.ireturn, 1) := by decide +kernel
theorem dX_node_106 : decode prog_1_method_7_code 106 = .ok (.aload_n 3, 1) := by decide +kernel
theorem dX_node_107 : decode prog_1_method_7_code 107 = .ok (.iload_n 1, 1) := by decide +kernel
theorem dX_node_108 : decode prog_1_method_7_code 108 = .ok (.invokevirtual 114, 3) := by decide +kernel
theorem dX_node_111 : decode prog_1_method_7_code 111 = .ok (.ifCond .eq 7, 3) := by decide +kernel
theorem dX_node_114 : decode prog_1_method_7_code 114 = .ok (.iconst 1, 1) := by decide +kernel
theorem dX_node_115 : decode prog_1_method_7_code 115 = .ok (.goto 4, 3) := by decide +kernel
theorem dX_node_118 : decode prog_1_method_7_code 118 = .ok (.iconst 0, 1) := by decide +kernel
theorem dX_node_119 : decode prog_1_method_7_code 119 = .ok (.ireturn, 1) := by decide +kernel
theorem dX_node_120 : decode prog_1_method_7_code 120 = .ok (.aload_n 3, 1) := by decide +kernel
theorem dX_node_121 : decode prog_1_method_7_code 121 = .ok (.iload_n 1, 1) := by decide +kernel
theorem dX_node_122 : decode prog_1_method_7_code 122 = .ok (.invokevirtual 117, 3) := by decide +kernel
theorem dX_node_125 : decode prog_1_method_7_code 125 = .ok (.ireturn, 1) := by decide +kernel
theorem dX_node_126 : decode prog_1_method_7_code 126 = .ok (.aload_n 3, 1) := by decide +kernel
theorem dX_node_127 : decode prog_1_method_7_code 127 = .ok (.getfield 120, 3) := by decide +kernel
theorem dX_node_130 : decode prog_1_method_7_code 130 = .ok (.iload_n 1, 1) := by decide +kernel
theorem dX_node_131 : decode prog_1_method_7_code 131 = .ok (.iaload, 1) := by decide +kernel
theorem dX_node_132 : decode prog_1_method_7_code 132 = .ok (.ireturn, 1) := by decide +kernel
theorem dX_node_133 : decode prog_1_method_7_code 133 = .ok (.iconst (-1), 1) := by decide +kernel
theorem dX_node_134 : decode prog_1_method_7_code 134 = .ok (.ireturn, 1) := by decide +kernel
theorem dX_child_0 : decode prog_1_method_8_code 0 = .ok (.aload_n 0, 1) := by decide +kernel
theorem dX_child_1 : decode prog_1_method_8_code 1 = .ok (.getfield 22, 3) := by decide +kernel
theorem dX_child_4 : decode prog_1_method_8_code 4 = .ok (.getfield 86, 3) := by decide +kernel
theorem dX_child_7 : decode prog_1_method_8_code 7 = .ok (.iload_n 1, 1) := by decide +kernel
theorem dX_child_8 : decode prog_1_method_8_code 8 = .ok (.invokevirtual 90, 3) := by decide +kernel
theorem dX_child_11 : decode prog_1_method_8_code 11 = .ok (.ifCond .eq 18, 3) := by decide +kernel
theorem dX_child_14 : decode prog_1_method_8_code 14 = .ok (.aload_n 0, 1) := by decide +kernel
theorem dX_child_15 : decode prog_1_method_8_code 15 = .ok (.getfield 22, 3) := by decide +kernel
theorem dX_child_18 : decode prog_1_method_8_code 18 = .ok (.getfield 86, 3) := by decide +kernel
theorem dX_child_21 : decode prog_1_method_8_code 21 = .ok (.iload_n 1, 1) := by decide +kernel
theorem dX_child_22 : decode prog_1_method_8_code 22 = .ok (.iload_n 2, 1) := by decide +kernel
theorem dX_child_23 : decode prog_1_method_8_code 23 = .ok (.invokevirtual 123, 3) := by decide +kernel
theorem dX_child_26 : decode prog_1_method_8_code 26 = .ok (.goto 4, 3) := by decide +kernel
theorem dX_child_29 : decode prog_1_method_8_code 29 = .ok (.iconst (-1), 1) := by decide +kernel
theorem dX_child_30 : decode prog_1_method_8_code 30 = .ok (.ireturn, 1) := by decide +kernel
theorem dX_find_0 : decode prog_1_method_9_code 0 = .ok (.aload_n 0, 1) := by decide +kernel
theorem dX_find_1 : decode prog_1_method_9_code 1 = .ok (.getfield 22, 3) := by decide +kernel
theorem dX_find_4 : decode prog_1_method_9_code 4 = .ok (.getfield 86, 3) := by decide +kernel
theorem dX_find_7 : decode prog_1_method_9_code 7 = .ok (.iload_n 1, 1) := by decide +kernel
theorem dX_find_8 : decode prog_1_method_9_code 8 = .ok (.invokevirtual 126, 3) := by decide +kernel
theorem dX_find_11 : decode prog_1_method_9_code 11 = .ok (.ireturn, 1) := by decide +kernel
theorem dX_equal_0 : decode prog_1_method_10_code 0 = .ok (.aload_n 0, 1) := by decide +kernel
theorem dX_equal_1 : decode prog_1_method_10_code 1 = .ok (.getfield 22, 3) := by decide +kernel
theorem dX_equal_4 : decode prog_1_method_10_code 4 = .ok (.getfield 86, 3) := by decide +kernel
theorem dX_equal_7 : decode prog_1_method_10_code 7 = .ok (.astore_n 3, 1) := by decide +kernel
theorem dX_equal_8 : decode prog_1_method_10_code 8 = .ok (.aload_n 3, 1) := by decide +kernel
theorem dX_equal_9 : decode prog_1_method_10_code 9 = .ok (.iload_n 1, 1) := by decide +kernel
theorem dX_equal_10 : decode prog_1_method_10_code 10 = .ok (.invokevirtual 90, 3) := by decide +kernel
theorem dX_equal_13 : decode prog_1_method_10_code 13 = .ok (.ifCond .eq 25, 3) := by decide +kernel
theorem dX_equal_16 : decode prog_1_method_10_code 16 = .ok (.aload_n 3, 1) := by decide +kernel
theorem dX_equal_17 : decode prog_1_method_10_code 17 = .ok (.iload_n 2, 1) := by decide +kernel
theorem dX_equal_18 : decode prog_1_method_10_code 18 = .ok (.invokevirtual 90, 3) := by decide +kernel
theorem dX_equal_21 : decode prog_1_method_10_code 21 = .ok (.ifCond .eq 17, 3) := by decide +kernel
theorem dX_equal_24 : decode prog_1_method_10_code 24 = .ok (.aload_n 3, 1) := by decide +kernel
theorem dX_equal_25 : decode prog_1_method_10_code 25 = .ok (.iload_n 1, 1) := by decide +kernel
theorem dX_equal_26 : decode prog_1_method_10_code 26 = .ok (.aload_n 3, 1) := by decide +kernel
theorem dX_equal_27 : decode prog_1_method_10_code 27 = .ok (.iload_n 2, 1) := by decide +kernel
theorem dX_equal_28 : decode prog_1_method_10_code 28 = .ok (.invokevirtual 129, 3) := by decide +kernel
theorem dX_equal_31 : decode prog_1_method_10_code 31 = .ok (.ifCond .eq 7, 3) := by decide +kernel
theorem dX_equal_34 : decode prog_1_method_10_code 34 = .ok (.iconst 1, 1) := by decide +kernel
theorem dX_equal_35 : decode prog_1_method_10_code 35 = .ok (.goto 4, 3) := by decide +kernel
theorem dX_equal_38 : decode prog_1_method_10_code 38 = .ok (.iconst 0, 1) := by decide +kernel
theorem dX_equal_39 : decode prog_1_method_10_code 39 = .ok (.ireturn, 1) := by decide +kernel
theorem dX_fault_0 : decode prog_1_method_11_code 0 = .ok (.aload_n 0, 1) := by decide +kernel
theorem dX_fault_1 : decode prog_1_method_11_code 1 = .ok (.getfield 22, 3) := by decide +kernel
theorem dX_fault_4 : decode prog_1_method_11_code 4 = .ok (.getfield 86, 3) := by decide +kernel
theorem dX_fault_7 : decode prog_1_method_11_code 7 = .ok (.astore_n 2, 1) := by decide +kernel
theorem dX_fault_8 : decode prog_1_method_11_code 8 = .ok (.iload_n 1, 1) := by decide +kernel
theorem dX_fault_9 : decode prog_1_method_11_code 9 = .ok (.ifCond .lt 20, 3) := by decide +kernel
theorem dX_fault_12 : decode prog_1_method_11_code 12 = .ok (.iload_n 1, 1) := by decide +kernel
theorem dX_fault_13 : decode prog_1_method_11_code 13 = .ok (.aload_n 2, 1) := by decide +kernel
theorem dX_fault_14 : decode prog_1_method_11_code 14 = .ok (.getfield 133, 3) := by decide +kernel
theorem dX_fault_17 : decode prog_1_method_11_code 17 = .ok (.if_icmp .ge 12, 3) := by decide +kernel
theorem dX_fault_20 : decode prog_1_method_11_code 20 = .ok (.aload_n 2, 1) := by decide +kernel
theorem dX_fault_21 : decode prog_1_method_11_code 21 = .ok (.getfield 136, 3) := by decide +kernel
theorem dX_fault_24 : decode prog_1_method_11_code 24 = .ok (.iload_n 1, 1) := by decide +kernel
theorem dX_fault_25 : decode prog_1_method_11_code 25 = .ok (.iaload, 1) := by decide +kernel
theorem dX_fault_26 : decode prog_1_method_11_code 26 = .ok (.goto 4, 3) := by decide +kernel
theorem dX_fault_29 : decode prog_1_method_11_code 29 = .ok (.iconst (-1), 1) := by decide +kernel
theorem dX_fault_30 : decode prog_1_method_11_code 30 = .ok (.ireturn, 1) := by decide +kernel
theorem dX_count_0 : decode prog_1_method_12_code 0 = .ok (.iload_n 1, 1) := by decide +kernel
theorem dX_count_1 : decode prog_1_method_12_code 1 = .ok (.tableswitch 117 0 7 #[47, 58, 69, 80, 91, 96, 104, 109], 47) := by decide +kernel
theorem dX_count_48 : decode prog_1_method_12_code 48 = .ok (.aload_n 0, 1) := by decide +kernel
theorem dX_count_49 : decode prog_1_method_12_code 49 = .ok (.getfield 22, 3) := by decide +kernel
theorem dX_count_52 : decode prog_1_method_12_code 52 = .ok (.getfield 86, 3) := by decide +kernel
theorem dX_count_55 : decode prog_1_method_12_code 55 = .ok (.getfield 139, 3) := by decide +kernel
theorem dX_count_58 : decode prog_1_method_12_code 58 = .ok (.ireturn, 1) := by decide +kernel
theorem dX_count_59 : decode prog_1_method_12_code 59 = .ok (.aload_n 0, 1) := by decide +kernel
theorem dX_count_60 : decode prog_1_method_12_code 60 = .ok (.getfield 22, 3) := by decide +kernel
theorem dX_count_63 : decode prog_1_method_12_code 63 = .ok (.getfield 86, 3) := by decide +kernel
theorem dX_count_66 : decode prog_1_method_12_code 66 = .ok (.invokevirtual 142, 3) := by decide +kernel
theorem dX_count_69 : decode prog_1_method_12_code 69 = .ok (.ireturn, 1) := by decide +kernel
theorem dX_count_70 : decode prog_1_method_12_code 70 = .ok (.aload_n 0, 1) := by decide +kernel
theorem dX_count_71 : decode prog_1_method_12_code 71 = .ok (.getfield 22, 3) := by decide +kernel
theorem dX_count_74 : decode prog_1_method_12_code 74 = .ok (.getfield 86, 3) := by decide +kernel
theorem dX_count_77 : decode prog_1_method_12_code 77 = .ok (.getfield 133, 3) := by decide +kernel
theorem dX_count_80 : decode prog_1_method_12_code 80 = .ok (.ireturn, 1) := by decide +kernel
theorem dX_count_81 : decode prog_1_method_12_code 81 = .ok (.aload_n 0, 1) := by decide +kernel
theorem dX_count_82 : decode prog_1_method_12_code 82 = .ok (.getfield 22, 3) := by decide +kernel
theorem dX_count_85 : decode prog_1_method_12_code 85 = .ok (.getfield 86, 3) := by decide +kernel
theorem dX_count_88 : decode prog_1_method_12_code 88 = .ok (.invokevirtual 146, 3) := by decide +kernel
theorem dX_count_91 : decode prog_1_method_12_code 91 = .ok (.ireturn, 1) := by decide +kernel
theorem dX_count_92 : decode prog_1_method_12_code 92 = .ok (.aload_n 0, 1) := by decide +kernel
theorem dX_count_93 : decode prog_1_method_12_code 93 = .ok (.getfield 40, 3) := by decide +kernel
theorem dX_count_96 : decode prog_1_method_12_code 96 = .ok (.ireturn, 1) := by decide +kernel
theorem dX_count_97 : decode prog_1_method_12_code 97 = .ok (.aload_n 0, 1) := by decide +kernel
theorem dX_count_98 : decode prog_1_method_12_code 98 = .ok (.getfield 36, 3) := by decide +kernel
theorem dX_count_101 : decode prog_1_method_12_code 101 = .ok (.getfield 149, 3) := by decide +kernel
theorem dX_count_104 : decode prog_1_method_12_code 104 = .ok (.ireturn, 1) := by decide +kernel
theorem dX_count_105 : decode prog_1_method_12_code 105 = .ok (.aload_n 0, 1) := by decide +kernel
theorem dX_count_106 : decode prog_1_method_12_code 106 = .ok (.getfield 44, 3) := by decide +kernel
theorem dX_count_109 : decode prog_1_method_12_code 109 = .ok (.ireturn, 1) := by decide +kernel
theorem dX_count_110 : decode prog_1_method_12_code 110 = .ok (.aload_n 0, 1) := by decide +kernel
theorem dX_count_111 : decode prog_1_method_12_code 111 = .ok (.getfield 29, 3) := by decide +kernel
theorem dX_count_114 : decode prog_1_method_12_code 114 = .ok (.getfield 79, 3) := by decide +kernel
theorem dX_count_117 : decode prog_1_method_12_code 117 = .ok (.ireturn, 1) := by decide +kernel
theorem dX_count_118 : decode prog_1_method_12_code 118 = .ok (.iconst (-1), 1) := by decide +kernel
theorem dX_count_119 : decode prog_1_method_12_code 119 = .ok (.ireturn, 1) := by decide +kernel
theorem dX_fits_0 : decode prog_1_method_13_code 0 = .ok (.aload_n 0, 1) := by decide +kernel
theorem dX_fits_1 : decode prog_1_method_13_code 1 = .ok (.getfield 22, 3) := by decide +kernel
theorem dX_fits_4 : decode prog_1_method_13_code 4 = .ok (.getfield 55, 3) := by decide +kernel
theorem dX_fits_7 : decode prog_1_method_13_code 7 = .ok (.getfield 79, 3) := by decide +kernel
theorem dX_fits_10 : decode prog_1_method_13_code 10 = .ok (.istore_n 3, 1) := by decide +kernel
theorem dX_fits_11 : decode prog_1_method_13_code 11 = .ok (.iload_n 1, 1) := by decide +kernel
theorem dX_fits_12 : decode prog_1_method_13_code 12 = .ok (.ifCond .lt 14, 3) := by decide +kernel
theorem dX_fits_15 : decode prog_1_method_13_code 15 = .ok (.iload_n 2, 1) := by decide +kernel
theorem dX_fits_16 : decode prog_1_method_13_code 16 = .ok (.ifCond .lt 10, 3) := by decide +kernel
theorem dX_fits_19 : decode prog_1_method_13_code 19 = .ok (.iload_n 2, 1) := by decide +kernel
theorem dX_fits_20 : decode prog_1_method_13_code 20 = .ok (.iload_n 3, 1) := by decide +kernel
theorem dX_fits_21 : decode prog_1_method_13_code 21 = .ok (.iload_n 1, 1) := by decide +kernel
theorem dX_fits_22 : decode prog_1_method_13_code 22 = .ok (.isub, 1) := by decide +kernel
theorem dX_fits_23 : decode prog_1_method_13_code 23 = .ok (.if_icmp .le 5, 3) := by decide +kernel
theorem dX_fits_26 : decode prog_1_method_13_code 26 = .ok (.iconst 0, 1) := by decide +kernel
theorem dX_fits_27 : decode prog_1_method_13_code 27 = .ok (.ireturn, 1) := by decide +kernel
theorem dX_fits_28 : decode prog_1_method_13_code 28 = .ok (.iload_n 3, 1) := by decide +kernel
theorem dX_fits_29 : decode prog_1_method_13_code 29 = .ok (.iload_n 2, 1) := by decide +kernel
theorem dX_fits_30 : decode prog_1_method_13_code 30 = .ok (.isub, 1) := by decide +kernel
theorem dX_fits_31 : decode prog_1_method_13_code 31 = .ok (.aload_n 0, 1) := by decide +kernel
theorem dX_fits_32 : decode prog_1_method_13_code 32 = .ok (.getfield 29, 3) := by decide +kernel
theorem dX_fits_35 : decode prog_1_method_13_code 35 = .ok (.getfield 79, 3) := by decide +kernel
theorem dX_fits_38 : decode prog_1_method_13_code 38 = .ok (.iadd, 1) := by decide +kernel
theorem dX_fits_39 : decode prog_1_method_13_code 39 = .ok (.bipush 60, 2) := by decide +kernel
theorem dX_fits_41 : decode prog_1_method_13_code 41 = .ok (.if_icmp .gt 7, 3) := by decide +kernel
theorem dX_fits_44 : decode prog_1_method_13_code 44 = .ok (.iconst 1, 1) := by decide +kernel
theorem dX_fits_45 : decode prog_1_method_13_code 45 = .ok (.goto 4, 3) := by decide +kernel
theorem dX_fits_48 : decode prog_1_method_13_code 48 = .ok (.iconst 0, 1) := by decide +kernel
theorem dX_fits_49 : decode prog_1_method_13_code 49 = .ok (.ireturn, 1) := by decide +kernel
theorem dX_takeTurns_0 : decode prog_1_method_14_code 0 = .ok (.aload_n 0, 1) := by decide +kernel
theorem dX_takeTurns_1 : decode prog_1_method_14_code 1 = .ok (.getfield 22, 3) := by decide +kernel
theorem dX_takeTurns_4 : decode prog_1_method_14_code 4 = .ok (.astore_n 1, 1) := by decide +kernel
theorem dX_takeTurns_5 : decode prog_1_method_14_code 5 = .ok (.aload_n 0, 1) := by decide +kernel
theorem dX_takeTurns_6 : decode prog_1_method_14_code 6 = .ok (.aload_n 0, 1) := by decide +kernel
theorem dX_takeTurns_7 : decode prog_1_method_14_code 7 = .ok (.getfield 26, 3) := by decide +kernel
theorem dX_takeTurns_10 : decode prog_1_method_14_code 10 = .ok (.putfield 22, 3) := by decide +kernel
theorem dX_takeTurns_13 : decode prog_1_method_14_code 13 = .ok (.aload_n 0, 1) := by decide +kernel
theorem dX_takeTurns_14 : decode prog_1_method_14_code 14 = .ok (.aload_n 1, 1) := by decide +kernel
theorem dX_takeTurns_15 : decode prog_1_method_14_code 15 = .ok (.putfield 26, 3) := by decide +kernel
theorem dX_takeTurns_18 : decode prog_1_method_14_code 18 = .ok (.return_, 1) := by decide +kernel
theorem dX_keptCount_0 : decode prog_1_method_15_code 0 = .ok (.iconst 0, 1) := by decide +kernel
theorem dX_keptCount_1 : decode prog_1_method_15_code 1 = .ok (.istore_n 3, 1) := by decide +kernel
theorem dX_keptCount_2 : decode prog_1_method_15_code 2 = .ok (.iconst 0, 1) := by decide +kernel
theorem dX_keptCount_3 : decode prog_1_method_15_code 3 = .ok (.istore 4, 2) := by decide +kernel
theorem dX_keptCount_5 : decode prog_1_method_15_code 5 = .ok (.iload 4, 2) := by decide +kernel
theorem dX_keptCount_7 : decode prog_1_method_15_code 7 = .ok (.aload_n 0, 1) := by decide +kernel
theorem dX_keptCount_8 : decode prog_1_method_15_code 8 = .ok (.getfield 22, 3) := by decide +kernel
theorem dX_keptCount_11 : decode prog_1_method_15_code 11 = .ok (.getfield 86, 3) := by decide +kernel
theorem dX_keptCount_14 : decode prog_1_method_15_code 14 = .ok (.getfield 139, 3) := by decide +kernel
theorem dX_keptCount_17 : decode prog_1_method_15_code 17 = .ok (.if_icmp .ge 38, 3) := by decide +kernel
theorem dX_keptCount_20 : decode prog_1_method_15_code 20 = .ok (.aload_n 0, 1) := by decide +kernel
theorem dX_keptCount_21 : decode prog_1_method_15_code 21 = .ok (.getfield 22, 3) := by decide +kernel
theorem dX_keptCount_24 : decode prog_1_method_15_code 24 = .ok (.getfield 86, 3) := by decide +kernel
theorem dX_keptCount_27 : decode prog_1_method_15_code 27 = .ok (.iload 4, 2) := by decide +kernel
theorem dX_keptCount_29 : decode prog_1_method_15_code 29 = .ok (.invokevirtual 152, 3) := by decide +kernel
theorem dX_keptCount_32 : decode prog_1_method_15_code 32 = .ok (.ifCond .eq 17, 3) := by decide +kernel
theorem dX_keptCount_35 : decode prog_1_method_15_code 35 = .ok (.aload_n 0, 1) := by decide +kernel
theorem dX_keptCount_36 : decode prog_1_method_15_code 36 = .ok (.iload 4, 2) := by decide +kernel
theorem dX_keptCount_38 : decode prog_1_method_15_code 38 = .ok (.iload_n 1, 1) := by decide +kernel
theorem dX_keptCount_39 : decode prog_1_method_15_code 39 = .ok (.iload_n 2, 1) := by decide +kernel
theorem dX_keptCount_40 : decode prog_1_method_15_code 40 = .ok (.invokevirtual 155, 3) := by decide +kernel
theorem dX_keptCount_43 : decode prog_1_method_15_code 43 = .ok (.ifCond .eq 6, 3) := by decide +kernel
theorem dX_keptCount_46 : decode prog_1_method_15_code 46 = .ok (.iinc 3 1, 3) := by decide +kernel
theorem dX_keptCount_49 : decode prog_1_method_15_code 49 = .ok (.iinc 4 1, 3) := by decide +kernel
theorem dX_keptCount_52 : decode prog_1_method_15_code 52 = .ok (.goto (-47), 3) := by decide +kernel
theorem dX_keptCount_55 : decode prog_1_method_15_code 55 = .ok (.iload_n 3, 1) := by decide +kernel
theorem dX_keptCount_56 : decode prog_1_method_15_code 56 = .ok (.ireturn, 1) := by decide +kernel
theorem dX_isKept_0 : decode prog_1_method_16_code 0 = .ok (.aload_n 0, 1) := by decide +kernel
theorem dX_isKept_1 : decode prog_1_method_16_code 1 = .ok (.getfield 26, 3) := by decide +kernel
theorem dX_isKept_4 : decode prog_1_method_16_code 4 = .ok (.getfield 86, 3) := by decide +kernel
theorem dX_isKept_7 : decode prog_1_method_16_code 7 = .ok (.astore 4, 2) := by decide +kernel
theorem dX_isKept_9 : decode prog_1_method_16_code 9 = .ok (.aload_n 0, 1) := by decide +kernel
theorem dX_isKept_10 : decode prog_1_method_16_code 10 = .ok (.getfield 22, 3) := by decide +kernel
theorem dX_isKept_13 : decode prog_1_method_16_code 13 = .ok (.getfield 86, 3) := by decide +kernel
theorem dX_isKept_16 : decode prog_1_method_16_code 16 = .ok (.getfield 99, 3) := by decide +kernel
theorem dX_isKept_19 : decode prog_1_method_16_code 19 = .ok (.iload_n 1, 1) := by decide +kernel
theorem dX_isKept_20 : decode prog_1_method_16_code 20 = .ok (.iaload, 1) := by decide +kernel
theorem dX_isKept_21 : decode prog_1_method_16_code 21 = .ok (.istore 5, 2) := by decide +kernel
theorem dX_isKept_23 : decode prog_1_method_16_code 23 = .ok (.iconst 0, 1) := by decide +kernel
theorem dX_isKept_24 : decode prog_1_method_16_code 24 = .ok (.istore 6, 2) := by decide +kernel
theorem dX_isKept_26 : decode prog_1_method_16_code 26 = .ok (.iload 6, 2) := by decide +kernel
theorem dX_isKept_28 : decode prog_1_method_16_code 28 = .ok (.aload 4, 2) := by decide +kernel
theorem dX_isKept_30 : decode prog_1_method_16_code 30 = .ok (.getfield 139, 3) := by decide +kernel
theorem dX_isKept_33 : decode prog_1_method_16_code 33 = .ok (.if_icmp .ge 109, 3) := by decide +kernel
theorem dX_isKept_36 : decode prog_1_method_16_code 36 = .ok (.aload 4, 2) := by decide +kernel
theorem dX_isKept_38 : decode prog_1_method_16_code 38 = .ok (.getfield 99, 3) := by decide +kernel
theorem dX_isKept_41 : decode prog_1_method_16_code 41 = .ok (.iload 6, 2) := by decide +kernel
theorem dX_isKept_43 : decode prog_1_method_16_code 43 = .ok (.iaload, 1) := by decide +kernel
theorem dX_isKept_44 : decode prog_1_method_16_code 44 = .ok (.istore 7, 2) := by decide +kernel
theorem dX_isKept_46 : decode prog_1_method_16_code 46 = .ok (.iload 7, 2) := by decide +kernel
theorem dX_isKept_48 : decode prog_1_method_16_code 48 = .ok (.iload 5, 2) := by decide +kernel
theorem dX_isKept_50 : decode prog_1_method_16_code 50 = .ok (.if_icmp .ne 21, 3) := by decide +kernel
theorem dX_isKept_53 : decode prog_1_method_16_code 53 = .ok (.iload 7, 2) := by decide +kernel
theorem dX_isKept_55 : decode prog_1_method_16_code 55 = .ok (.aload 4, 2) := by decide +kernel
theorem dX_isKept_57 : decode prog_1_method_16_code 57 = .ok (.iload 6, 2) := by decide +kernel
theorem dX_isKept_59 : decode prog_1_method_16_code 59 = .ok (.invokevirtual 102, 3) := by decide +kernel
theorem dX_isKept_62 : decode prog_1_method_16_code 62 = .ok (.iadd, 1) := by decide +kernel
theorem dX_isKept_63 : decode prog_1_method_16_code 63 = .ok (.iload_n 2, 1) := by decide +kernel
theorem dX_isKept_64 : decode prog_1_method_16_code 64 = .ok (.if_icmp .gt 7, 3) := by decide +kernel
theorem dX_isKept_67 : decode prog_1_method_16_code 67 = .ok (.iconst 1, 1) := by decide +kernel
theorem dX_isKept_68 : decode prog_1_method_16_code 68 = .ok (.goto 4, 3) := by decide +kernel
theorem dX_isKept_71 : decode prog_1_method_16_code 71 = .ok (.iconst 0, 1) := by decide +kernel
theorem dX_isKept_72 : decode prog_1_method_16_code 72 = .ok (.istore 8, 2) := by decide +kernel
theorem dX_isKept_74 : decode prog_1_method_16_code 74 = .ok (.iload 7, 2) := by decide +kernel
theorem dX_isKept_76 : decode prog_1_method_16_code 76 = .ok (.iload_n 2, 1) := by decide +kernel
theorem dX_isKept_77 : decode prog_1_method_16_code 77 = .ok (.iload_n 3, 1) := by decide +kernel
theorem dX_isKept_78 : decode prog_1_method_16_code 78 = .ok (.iadd, 1) := by decide +kernel
theorem dX_isKept_79 : decode prog_1_method_16_code 79 = .ok (.if_icmp .lt 24, 3) := by decide +kernel
theorem dX_isKept_82 : decode prog_1_method_16_code 82 = .ok (.iload 5, 2) := by decide +kernel
theorem dX_isKept_84 : decode prog_1_method_16_code 84 = .ok (.iload 7, 2) := by decide +kernel
theorem dX_isKept_86 : decode prog_1_method_16_code 86 = .ok (.iload_n 3, 1) := by decide +kernel
theorem dX_isKept_87 : decode prog_1_method_16_code 87 = .ok (.isub, 1) := by decide +kernel
theorem dX_isKept_88 : decode prog_1_method_16_code 88 = .ok (.aload_n 0, 1) := by decide +kernel
theorem dX_isKept_89 : decode prog_1_method_16_code 89 = .ok (.getfield 29, 3) := by decide +kernel
theorem dX_isKept_92 : decode prog_1_method_16_code 92 = .ok (.getfield 79, 3) := by decide +kernel
theorem dX_isKept_95 : decode prog_1_method_16_code 95 = .ok (.iadd, 1) := by decide +kernel
theorem dX_isKept_96 : decode prog_1_method_16_code 96 = .ok (.if_icmp .ne 7, 3) := by decide +kernel
theorem dX_isKept_99 : decode prog_1_method_16_code 99 = .ok (.iconst 1, 1) := by decide +kernel
theorem dX_isKept_100 : decode prog_1_method_16_code 100 = .ok (.goto 4, 3) := by decide +kernel
theorem dX_isKept_103 : decode prog_1_method_16_code 103 = .ok (.iconst 0, 1) := by decide +kernel
theorem dX_isKept_104 : decode prog_1_method_16_code 104 = .ok (.istore 9, 2) := by decide +kernel
theorem dX_isKept_106 : decode prog_1_method_16_code 106 = .ok (.iload 8, 2) := by decide +kernel
theorem dX_isKept_108 : decode prog_1_method_16_code 108 = .ok (.ifCond .ne 8, 3) := by decide +kernel
theorem dX_isKept_111 : decode prog_1_method_16_code 111 = .ok (.iload 9, 2) := by decide +kernel
theorem dX_isKept_113 : decode prog_1_method_16_code 113 = .ok (.ifCond .eq 23, 3) := by decide +kernel
theorem dX_isKept_116 : decode prog_1_method_16_code 116 = .ok (.aload_n 0, 1) := by decide +kernel
theorem dX_isKept_117 : decode prog_1_method_16_code 117 = .ok (.getfield 22, 3) := by decide +kernel
theorem dX_isKept_120 : decode prog_1_method_16_code 120 = .ok (.getfield 86, 3) := by decide +kernel
theorem dX_isKept_123 : decode prog_1_method_16_code 123 = .ok (.iload_n 1, 1) := by decide +kernel
theorem dX_isKept_124 : decode prog_1_method_16_code 124 = .ok (.aload 4, 2) := by decide +kernel
theorem dX_isKept_126 : decode prog_1_method_16_code 126 = .ok (.iload 6, 2) := by decide +kernel
theorem dX_isKept_128 : decode prog_1_method_16_code 128 = .ok (.invokevirtual 129, 3) := by decide +kernel
theorem dX_isKept_131 : decode prog_1_method_16_code 131 = .ok (.ifCond .eq 5, 3) := by decide +kernel
theorem dX_isKept_134 : decode prog_1_method_16_code 134 = .ok (.iconst 1, 1) := by decide +kernel
theorem dX_isKept_135 : decode prog_1_method_16_code 135 = .ok (.ireturn, 1) := by decide +kernel
theorem dX_isKept_136 : decode prog_1_method_16_code 136 = .ok (.iinc 6 1, 3) := by decide +kernel
theorem dX_isKept_139 : decode prog_1_method_16_code 139 = .ok (.goto (-113), 3) := by decide +kernel
theorem dX_isKept_142 : decode prog_1_method_16_code 142 = .ok (.iconst 0, 1) := by decide +kernel
theorem dX_isKept_143 : decode prog_1_method_16_code 143 = .ok (.ireturn, 1) := by decide +kernel
theorem dM_init_0 : decode prog_8_method_1_code 0 = .ok (.aload_n 0, 1) := by decide +kernel
theorem dM_init_1 : decode prog_8_method_1_code 1 = .ok (.invokespecial 1, 3) := by decide +kernel
theorem dM_init_4 : decode prog_8_method_1_code 4 = .ok (.aload_n 0, 1) := by decide +kernel
theorem dM_init_5 : decode prog_8_method_1_code 5 = .ok (.bipush 120, 2) := by decide +kernel
theorem dM_init_7 : decode prog_8_method_1_code 7 = .ok (.newarray .char, 2) := by decide +kernel
theorem dM_init_9 : decode prog_8_method_1_code 9 = .ok (.putfield 7, 3) := by decide +kernel
theorem dM_init_12 : decode prog_8_method_1_code 12 = .ok (.aload_n 0, 1) := by decide +kernel
theorem dM_init_13 : decode prog_8_method_1_code 13 = .ok (.iconst 2, 1) := by decide +kernel
theorem dM_init_14 : decode prog_8_method_1_code 14 = .ok (.newarray .int, 2) := by decide +kernel
theorem dM_init_16 : decode prog_8_method_1_code 16 = .ok (.putfield 13, 3) := by decide +kernel
theorem dM_init_19 : decode prog_8_method_1_code 19 = .ok (.aload_n 0, 1) := by decide +kernel
theorem dM_init_20 : decode prog_8_method_1_code 20 = .ok (.bipush 122, 2) := by decide +kernel
theorem dM_init_22 : decode prog_8_method_1_code 22 = .ok (.newarray .int, 2) := by decide +kernel
theorem dM_init_24 : decode prog_8_method_1_code 24 = .ok (.putfield 17, 3) := by decide +kernel
theorem dM_init_27 : decode prog_8_method_1_code 27 = .ok (.aload_n 0, 1) := by decide +kernel
theorem dM_init_28 : decode prog_8_method_1_code 28 = .ok (.iconst 2, 1) := by decide +kernel
theorem dM_init_29 : decode prog_8_method_1_code 29 = .ok (.newarray .int, 2) := by decide +kernel
theorem dM_init_31 : decode prog_8_method_1_code 31 = .ok (.putfield 20, 3) := by decide +kernel
theorem dM_init_34 : decode prog_8_method_1_code 34 = .ok (.aload_n 0, 1) := by decide +kernel
theorem dM_init_35 : decode prog_8_method_1_code 35 = .ok (.sipush 800, 3) := by decide +kernel
theorem dM_init_38 : decode prog_8_method_1_code 38 = .ok (.newarray .int, 2) := by decide +kernel
theorem dM_init_40 : decode prog_8_method_1_code 40 = .ok (.putfield 23, 3) := by decide +kernel
theorem dM_init_43 : decode prog_8_method_1_code 43 = .ok (.aload_n 0, 1) := by decide +kernel
theorem dM_init_44 : decode prog_8_method_1_code 44 = .ok (.sipush 800, 3) := by decide +kernel
theorem dM_init_47 : decode prog_8_method_1_code 47 = .ok (.newarray .int, 2) := by decide +kernel
theorem dM_init_49 : decode prog_8_method_1_code 49 = .ok (.putfield 26, 3) := by decide +kernel
theorem dM_init_52 : decode prog_8_method_1_code 52 = .ok (.aload_n 0, 1) := by decide +kernel
theorem dM_init_53 : decode prog_8_method_1_code 53 = .ok (.sipush 800, 3) := by decide +kernel
theorem dM_init_56 : decode prog_8_method_1_code 56 = .ok (.newarray .int, 2) := by decide +kernel
theorem dM_init_58 : decode prog_8_method_1_code 58 = .ok (.putfield 29, 3) := by decide +kernel
theorem dM_init_61 : decode prog_8_method_1_code 61 = .ok (.aload_n 0, 1) := by decide +kernel
theorem dM_init_62 : decode prog_8_method_1_code 62 = .ok (.sipush 800, 3) := by decide +kernel
theorem dM_init_65 : decode prog_8_method_1_code 65 = .ok (.newarray .int, 2) := by decide +kernel
theorem dM_init_67 : decode prog_8_method_1_code 67 = .ok (.putfield 32, 3) := by decide +kernel
theorem dM_init_70 : decode prog_8_method_1_code 70 = .ok (.aload_n 0, 1) := by decide +kernel
theorem dM_init_71 : decode prog_8_method_1_code 71 = .ok (.sipush 800, 3) := by decide +kernel
theorem dM_init_74 : decode prog_8_method_1_code 74 = .ok (.newarray .int, 2) := by decide +kernel
theorem dM_init_76 : decode prog_8_method_1_code 76 = .ok (.putfield 35, 3) := by decide +kernel
theorem dM_init_79 : decode prog_8_method_1_code 79 = .ok (.aload_n 0, 1) := by decide +kernel
theorem dM_init_80 : decode prog_8_method_1_code 80 = .ok (.sipush 800, 3) := by decide +kernel
theorem dM_init_83 : decode prog_8_method_1_code 83 = .ok (.newarray .int, 2) := by decide +kernel
theorem dM_init_85 : decode prog_8_method_1_code 85 = .ok (.putfield 38, 3) := by decide +kernel
theorem dM_init_88 : decode prog_8_method_1_code 88 = .ok (.aload_n 0, 1) := by decide +kernel
theorem dM_init_89 : decode prog_8_method_1_code 89 = .ok (.sipush 800, 3) := by decide +kernel
theorem dM_init_92 : decode prog_8_method_1_code 92 = .ok (.newarray .int, 2) := by decide +kernel
theorem dM_init_94 : decode prog_8_method_1_code 94 = .ok (.putfield 41, 3) := by decide +kernel
theorem dM_init_97 : decode prog_8_method_1_code 97 = .ok (.aload_n 0, 1) := by decide +kernel
theorem dM_init_98 : decode prog_8_method_1_code 98 = .ok (.sipush 800, 3) := by decide +kernel
theorem dM_init_101 : decode prog_8_method_1_code 101 = .ok (.newarray .int, 2) := by decide +kernel
theorem dM_init_103 : decode prog_8_method_1_code 103 = .ok (.putfield 44, 3) := by decide +kernel
theorem dM_init_106 : decode prog_8_method_1_code 106 = .ok (.aload_n 0, 1) := by decide +kernel
theorem dM_init_107 : decode prog_8_method_1_code 107 = .ok (.sipush 180, 3) := by decide +kernel
theorem dM_init_110 : decode prog_8_method_1_code 110 = .ok (.newarray .char, 2) := by decide +kernel
theorem dM_init_112 : decode prog_8_method_1_code 112 = .ok (.putfield 47, 3) := by decide +kernel
theorem dM_init_115 : decode prog_8_method_1_code 115 = .ok (.aload_n 0, 1) := by decide +kernel
theorem dM_init_116 : decode prog_8_method_1_code 116 = .ok (.iconst 3, 1) := by decide +kernel
theorem dM_init_117 : decode prog_8_method_1_code 117 = .ok (.newarray .int, 2) := by decide +kernel
theorem dM_init_119 : decode prog_8_method_1_code 119 = .ok (.putfield 50, 3) := by decide +kernel
theorem dM_init_122 : decode prog_8_method_1_code 122 = .ok (.aload_n 0, 1) := by decide +kernel
theorem dM_init_123 : decode prog_8_method_1_code 123 = .ok (.bipush 20, 2) := by decide +kernel
theorem dM_init_125 : decode prog_8_method_1_code 125 = .ok (.newarray .char, 2) := by decide +kernel
theorem dM_init_127 : decode prog_8_method_1_code 127 = .ok (.putfield 53, 3) := by decide +kernel
theorem dM_init_130 : decode prog_8_method_1_code 130 = .ok (.aload_n 0, 1) := by decide +kernel
theorem dM_init_131 : decode prog_8_method_1_code 131 = .ok (.bipush 61, 2) := by decide +kernel
theorem dM_init_133 : decode prog_8_method_1_code 133 = .ok (.newarray .int, 2) := by decide +kernel
theorem dM_init_135 : decode prog_8_method_1_code 135 = .ok (.putfield 56, 3) := by decide +kernel
theorem dM_init_138 : decode prog_8_method_1_code 138 = .ok (.aload_n 0, 1) := by decide +kernel
theorem dM_init_139 : decode prog_8_method_1_code 139 = .ok (.bipush 61, 2) := by decide +kernel
theorem dM_init_141 : decode prog_8_method_1_code 141 = .ok (.newarray .int, 2) := by decide +kernel
theorem dM_init_143 : decode prog_8_method_1_code 143 = .ok (.putfield 59, 3) := by decide +kernel
theorem dM_init_146 : decode prog_8_method_1_code 146 = .ok (.aload_n 0, 1) := by decide +kernel
theorem dM_init_147 : decode prog_8_method_1_code 147 = .ok (.bipush 61, 2) := by decide +kernel
theorem dM_init_149 : decode prog_8_method_1_code 149 = .ok (.newarray .int, 2) := by decide +kernel
theorem dM_init_151 : decode prog_8_method_1_code 151 = .ok (.putfield 62, 3) := by decide +kernel
theorem dM_init_154 : decode prog_8_method_1_code 154 = .ok (.aload_n 0, 1) := by decide +kernel
theorem dM_init_155 : decode prog_8_method_1_code 155 = .ok (.sipush 400, 3) := by decide +kernel
theorem dM_init_158 : decode prog_8_method_1_code 158 = .ok (.newarray .int, 2) := by decide +kernel
theorem dM_init_160 : decode prog_8_method_1_code 160 = .ok (.putfield 65, 3) := by decide +kernel
theorem dM_init_163 : decode prog_8_method_1_code 163 = .ok (.aload_n 0, 1) := by decide +kernel
theorem dM_init_164 : decode prog_8_method_1_code 164 = .ok (.sipush 400, 3) := by decide +kernel
theorem dM_init_167 : decode prog_8_method_1_code 167 = .ok (.newarray .int, 2) := by decide +kernel
theorem dM_init_169 : decode prog_8_method_1_code 169 = .ok (.putfield 68, 3) := by decide +kernel
theorem dM_init_172 : decode prog_8_method_1_code 172 = .ok (.aload_n 0, 1) := by decide +kernel
theorem dM_init_173 : decode prog_8_method_1_code 173 = .ok (.sipush 400, 3) := by decide +kernel
theorem dM_init_176 : decode prog_8_method_1_code 176 = .ok (.newarray .int, 2) := by decide +kernel
theorem dM_init_178 : decode prog_8_method_1_code 178 = .ok (.putfield 71, 3) := by decide +kernel
theorem dM_init_181 : decode prog_8_method_1_code 181 = .ok (.aload_n 0, 1) := by decide +kernel
theorem dM_init_182 : decode prog_8_method_1_code 182 = .ok (.sipush 400, 3) := by decide +kernel
theorem dM_init_185 : decode prog_8_method_1_code 185 = .ok (.newarray .int, 2) := by decide +kernel
theorem dM_init_187 : decode prog_8_method_1_code 187 = .ok (.putfield 74, 3) := by decide +kernel
theorem dM_init_190 : decode prog_8_method_1_code 190 = .ok (.aload_n 0, 1) := by decide +kernel
theorem dM_init_191 : decode prog_8_method_1_code 191 = .ok (.sipush 400, 3) := by decide +kernel
theorem dM_init_194 : decode prog_8_method_1_code 194 = .ok (.newarray .int, 2) := by decide +kernel
theorem dM_init_196 : decode prog_8_method_1_code 196 = .ok (.putfield 77, 3) := by decide +kernel
theorem dM_init_199 : decode prog_8_method_1_code 199 = .ok (.aload_n 0, 1) := by decide +kernel
theorem dM_init_200 : decode prog_8_method_1_code 200 = .ok (.sipush 400, 3) := by decide +kernel
theorem dM_init_203 : decode prog_8_method_1_code 203 = .ok (.newarray .int, 2) := by decide +kernel
theorem dM_init_205 : decode prog_8_method_1_code 205 = .ok (.putfield 80, 3) := by decide +kernel
theorem dM_init_208 : decode prog_8_method_1_code 208 = .ok (.aload_n 0, 1) := by decide +kernel
theorem dM_init_209 : decode prog_8_method_1_code 209 = .ok (.sipush 400, 3) := by decide +kernel
theorem dM_init_212 : decode prog_8_method_1_code 212 = .ok (.newarray .int, 2) := by decide +kernel
theorem dM_init_214 : decode prog_8_method_1_code 214 = .ok (.putfield 83, 3) := by decide +kernel
theorem dM_init_217 : decode prog_8_method_1_code 217 = .ok (.aload_n 0, 1) := by decide +kernel
theorem dM_init_218 : decode prog_8_method_1_code 218 = .ok (.sipush 400, 3) := by decide +kernel
theorem dM_init_221 : decode prog_8_method_1_code 221 = .ok (.newarray .int, 2) := by decide +kernel
theorem dM_init_223 : decode prog_8_method_1_code 223 = .ok (.putfield 86, 3) := by decide +kernel
theorem dM_init_226 : decode prog_8_method_1_code 226 = .ok (.aload_n 0, 1) := by decide +kernel
theorem dM_init_227 : decode prog_8_method_1_code 227 = .ok (.sipush 400, 3) := by decide +kernel
theorem dM_init_230 : decode prog_8_method_1_code 230 = .ok (.newarray .int, 2) := by decide +kernel
theorem dM_init_232 : decode prog_8_method_1_code 232 = .ok (.putfield 89, 3) := by decide +kernel
theorem dM_init_235 : decode prog_8_method_1_code 235 = .ok (.aload_n 0, 1) := by decide +kernel
theorem dM_init_236 : decode prog_8_method_1_code 236 = .ok (.sipush 400, 3) := by decide +kernel
theorem dM_init_239 : decode prog_8_method_1_code 239 = .ok (.newarray .int, 2) := by decide +kernel
theorem dM_init_241 : decode prog_8_method_1_code 241 = .ok (.putfield 92, 3) := by decide +kernel
theorem dM_init_244 : decode prog_8_method_1_code 244 = .ok (.aload_n 0, 1) := by decide +kernel
theorem dM_init_245 : decode prog_8_method_1_code 245 = .ok (.sipush 400, 3) := by decide +kernel
theorem dM_init_248 : decode prog_8_method_1_code 248 = .ok (.newarray .int, 2) := by decide +kernel
theorem dM_init_250 : decode prog_8_method_1_code 250 = .ok (.putfield 95, 3) := by decide +kernel
theorem dM_init_253 : decode prog_8_method_1_code 253 = .ok (.aload_n 0, 1) := by decide +kernel
theorem dM_init_254 : decode prog_8_method_1_code 254 = .ok (.sipush 200, 3) := by decide +kernel
theorem dM_init_257 : decode prog_8_method_1_code 257 = .ok (.newarray .int, 2) := by decide +kernel
theorem dM_init_259 : decode prog_8_method_1_code 259 = .ok (.putfield 98, 3) := by decide +kernel
theorem dM_init_262 : decode prog_8_method_1_code 262 = .ok (.aload_n 0, 1) := by decide +kernel
theorem dM_init_263 : decode prog_8_method_1_code 263 = .ok (.sipush 200, 3) := by decide +kernel
theorem dM_init_266 : decode prog_8_method_1_code 266 = .ok (.newarray .int, 2) := by decide +kernel
theorem dM_init_268 : decode prog_8_method_1_code 268 = .ok (.putfield 101, 3) := by decide +kernel
theorem dM_init_271 : decode prog_8_method_1_code 271 = .ok (.aload_n 0, 1) := by decide +kernel
theorem dM_init_272 : decode prog_8_method_1_code 272 = .ok (.sipush 200, 3) := by decide +kernel
theorem dM_init_275 : decode prog_8_method_1_code 275 = .ok (.newarray .int, 2) := by decide +kernel
theorem dM_init_277 : decode prog_8_method_1_code 277 = .ok (.putfield 104, 3) := by decide +kernel
theorem dM_init_280 : decode prog_8_method_1_code 280 = .ok (.aload_n 0, 1) := by decide +kernel
theorem dM_init_281 : decode prog_8_method_1_code 281 = .ok (.iconst 0, 1) := by decide +kernel
theorem dM_init_282 : decode prog_8_method_1_code 282 = .ok (.invokevirtual 107, 3) := by decide +kernel
theorem dM_init_285 : decode prog_8_method_1_code 285 = .ok (.return_, 1) := by decide +kernel
theorem dM_look_0 : decode prog_8_method_2_code 0 = .ok (.iload_n 2, 1) := by decide +kernel
theorem dM_look_1 : decode prog_8_method_2_code 1 = .ok (.aload_n 0, 1) := by decide +kernel
theorem dM_look_2 : decode prog_8_method_2_code 2 = .ok (.getfield 13, 3) := by decide +kernel
theorem dM_look_5 : decode prog_8_method_2_code 5 = .ok (.iload_n 1, 1) := by decide +kernel
theorem dM_look_6 : decode prog_8_method_2_code 6 = .ok (.iaload, 1) := by decide +kernel
theorem dM_look_7 : decode prog_8_method_2_code 7 = .ok (.if_icmp .ge 17, 3) := by decide +kernel
theorem dM_look_10 : decode prog_8_method_2_code 10 = .ok (.aload_n 0, 1) := by decide +kernel
theorem dM_look_11 : decode prog_8_method_2_code 11 = .ok (.getfield 7, 3) := by decide +kernel
theorem dM_look_14 : decode prog_8_method_2_code 14 = .ok (.bipush 60, 2) := by decide +kernel
theorem dM_look_16 : decode prog_8_method_2_code 16 = .ok (.iload_n 1, 1) := by decide +kernel
theorem dM_look_17 : decode prog_8_method_2_code 17 = .ok (.imul, 1) := by decide +kernel
theorem dM_look_18 : decode prog_8_method_2_code 18 = .ok (.iload_n 2, 1) := by decide +kernel
theorem dM_look_19 : decode prog_8_method_2_code 19 = .ok (.iadd, 1) := by decide +kernel
theorem dM_look_20 : decode prog_8_method_2_code 20 = .ok (.caload, 1) := by decide +kernel
theorem dM_look_21 : decode prog_8_method_2_code 21 = .ok (.goto 4, 3) := by decide +kernel
theorem dM_look_24 : decode prog_8_method_2_code 24 = .ok (.iconst 0, 1) := by decide +kernel
theorem dM_look_25 : decode prog_8_method_2_code 25 = .ok (.ireturn, 1) := by decide +kernel
