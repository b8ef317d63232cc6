/-! decode rows -/
theorem dM_add_0 : decode prog_8_method_17_code 0 = .ok (.aload_n 0, 1) := by decide +kernel
theorem dM_add_1 : decode prog_8_method_17_code 1 = .ok (.getfield 98, 3) := by decide +kernel
theorem dM_add_4 : decode prog_8_method_17_code 4 = .ok (.aload_n 0, 1) := by decide +kernel
theorem dM_add_5 : decode prog_8_method_17_code 5 = .ok (.getfield 165, 3) := by decide +kernel
theorem dM_add_8 : decode prog_8_method_17_code 8 = .ok (.iload_n 1, 1) := by decide +kernel
theorem dM_add_9 : decode prog_8_method_17_code 9 = .ok (.iastore, 1) := by decide +kernel
theorem dM_add_10 : decode prog_8_method_17_code 10 = .ok (.aload_n 0, 1) := by decide +kernel
theorem dM_add_11 : decode prog_8_method_17_code 11 = .ok (.getfield 101, 3) := by decide +kernel
theorem dM_add_14 : decode prog_8_method_17_code 14 = .ok (.aload_n 0, 1) := by decide +kernel
theorem dM_add_15 : decode prog_8_method_17_code 15 = .ok (.getfield 165, 3) := by decide +kernel
theorem dM_add_18 : decode prog_8_method_17_code 18 = .ok (.iload_n 2, 1) := by decide +kernel
theorem dM_add_19 : decode prog_8_method_17_code 19 = .ok (.iastore, 1) := by decide +kernel
theorem dM_add_20 : decode prog_8_method_17_code 20 = .ok (.aload_n 0, 1) := by decide +kernel
theorem dM_add_21 : decode prog_8_method_17_code 21 = .ok (.getfield 104, 3) := by decide +kernel
theorem dM_add_24 : decode prog_8_method_17_code 24 = .ok (.aload_n 0, 1) := by decide +kernel
theorem dM_add_25 : decode prog_8_method_17_code 25 = .ok (.getfield 165, 3) := by decide +kernel
theorem dM_add_28 : decode prog_8_method_17_code 28 = .ok (.iload_n 3, 1) := by decide +kernel
theorem dM_add_29 : decode prog_8_method_17_code 29 = .ok (.iastore, 1) := by decide +kernel
theorem dM_add_30 : decode prog_8_method_17_code 30 = .ok (.aload_n 0, 1) := by decide +kernel
theorem dM_add_31 : decode prog_8_method_17_code 31 = .ok (.dup, 1) := by decide +kernel
theorem dM_add_32 : decode prog_8_method_17_code 32 = .ok (.getfield 165, 3) := by decide +kernel
theorem dM_add_35 : decode prog_8_method_17_code 35 = .ok (.iconst 1, 1) := by decide +kernel
theorem dM_add_36 : decode prog_8_method_17_code 36 = .ok (.iadd, 1) := by decide +kernel
theorem dM_add_37 : decode prog_8_method_17_code 37 = .ok (.putfield 165, 3) := by decide +kernel
theorem dM_add_40 : decode prog_8_method_17_code 40 = .ok (.return_, 1) := by decide +kernel
theorem dM_perform_0 : decode prog_8_method_18_code 0 = .ok (.iload_n 2, 1) := by decide +kernel
theorem dM_perform_1 : decode prog_8_method_18_code 1 = .ok (.tableswitch 143 0 8 #[51, 61, 68, 79, 87, 95, 103, 111, 133], 51) := by decide +kernel
theorem dM_perform_52 : decode prog_8_method_18_code 52 = .ok (.aload_n 0, 1) := by decide +kernel
theorem dM_perform_53 : decode prog_8_method_18_code 53 = .ok (.iload_n 3, 1) := by decide +kernel
theorem dM_perform_54 : decode prog_8_method_18_code 54 = .ok (.iload 4, 2) := by decide +kernel
theorem dM_perform_56 : decode prog_8_method_18_code 56 = .ok (.invokevirtual 168, 3) := by decide +kernel
theorem dM_perform_59 : decode prog_8_method_18_code 59 = .ok (.goto 90, 3) := by decide +kernel
theorem dM_perform_62 : decode prog_8_method_18_code 62 = .ok (.aload_n 0, 1) := by decide +kernel
theorem dM_perform_63 : decode prog_8_method_18_code 63 = .ok (.invokevirtual 158, 3) := by decide +kernel
theorem dM_perform_66 : decode prog_8_method_18_code 66 = .ok (.goto 83, 3) := by decide +kernel
theorem dM_perform_69 : decode prog_8_method_18_code 69 = .ok (.aload_n 0, 1) := by decide +kernel
theorem dM_perform_70 : decode prog_8_method_18_code 70 = .ok (.iload_n 1, 1) := by decide +kernel
theorem dM_perform_71 : decode prog_8_method_18_code 71 = .ok (.iload_n 3, 1) := by decide +kernel
theorem dM_perform_72 : decode prog_8_method_18_code 72 = .ok (.iload 4, 2) := by decide +kernel
theorem dM_perform_74 : decode prog_8_method_18_code 74 = .ok (.invokevirtual 171, 3) := by decide +kernel
theorem dM_perform_77 : decode prog_8_method_18_code 77 = .ok (.goto 72, 3) := by decide +kernel
theorem dM_perform_80 : decode prog_8_method_18_code 80 = .ok (.aload_n 0, 1) := by decide +kernel
theorem dM_perform_81 : decode prog_8_method_18_code 81 = .ok (.iload_n 3, 1) := by decide +kernel
theorem dM_perform_82 : decode prog_8_method_18_code 82 = .ok (.invokevirtual 175, 3) := by decide +kernel
theorem dM_perform_85 : decode prog_8_method_18_code 85 = .ok (.goto 64, 3) := by decide +kernel
theorem dM_perform_88 : decode prog_8_method_18_code 88 = .ok (.aload_n 0, 1) := by decide +kernel
theorem dM_perform_89 : decode prog_8_method_18_code 89 = .ok (.iload_n 3, 1) := by decide +kernel
theorem dM_perform_90 : decode prog_8_method_18_code 90 = .ok (.invokevirtual 178, 3) := by decide +kernel
theorem dM_perform_93 : decode prog_8_method_18_code 93 = .ok (.goto 56, 3) := by decide +kernel
theorem dM_perform_96 : decode prog_8_method_18_code 96 = .ok (.aload_n 0, 1) := by decide +kernel
theorem dM_perform_97 : decode prog_8_method_18_code 97 = .ok (.iload_n 3, 1) := by decide +kernel
theorem dM_perform_98 : decode prog_8_method_18_code 98 = .ok (.invokevirtual 181, 3) := by decide +kernel
theorem dM_perform_101 : decode prog_8_method_18_code 101 = .ok (.goto 48, 3) := by decide +kernel
theorem dM_perform_104 : decode prog_8_method_18_code 104 = .ok (.aload_n 0, 1) := by decide +kernel
theorem dM_perform_105 : decode prog_8_method_18_code 105 = .ok (.iload_n 3, 1) := by decide +kernel
theorem dM_perform_106 : decode prog_8_method_18_code 106 = .ok (.invokevirtual 184, 3) := by decide +kernel
theorem dM_perform_109 : decode prog_8_method_18_code 109 = .ok (.goto 40, 3) := by decide +kernel
theorem dM_perform_112 : decode prog_8_method_18_code 112 = .ok (.aload_n 0, 1) := by decide +kernel
theorem dM_perform_113 : decode prog_8_method_18_code 113 = .ok (.bipush 8, 2) := by decide +kernel
theorem dM_perform_115 : decode prog_8_method_18_code 115 = .ok (.iload_n 3, 1) := by decide +kernel
theorem dM_perform_116 : decode prog_8_method_18_code 116 = .ok (.aload_n 0, 1) := by decide +kernel
theorem dM_perform_117 : decode prog_8_method_18_code 117 = .ok (.getfield 148, 3) := by decide +kernel
theorem dM_perform_120 : decode prog_8_method_18_code 120 = .ok (.invokevirtual 187, 3) := by decide +kernel
theorem dM_perform_123 : decode prog_8_method_18_code 123 = .ok (.aload_n 0, 1) := by decide +kernel
theorem dM_perform_124 : decode prog_8_method_18_code 124 = .ok (.bipush 9, 2) := by decide +kernel
theorem dM_perform_126 : decode prog_8_method_18_code 126 = .ok (.iload_n 3, 1) := by decide +kernel
theorem dM_perform_127 : decode prog_8_method_18_code 127 = .ok (.iconst 0, 1) := by decide +kernel
theorem dM_perform_128 : decode prog_8_method_18_code 128 = .ok (.invokevirtual 187, 3) := by decide +kernel
theorem dM_perform_131 : decode prog_8_method_18_code 131 = .ok (.goto 18, 3) := by decide +kernel
theorem dM_perform_134 : decode prog_8_method_18_code 134 = .ok (.aload_n 0, 1) := by decide +kernel
theorem dM_perform_135 : decode prog_8_method_18_code 135 = .ok (.iload_n 3, 1) := by decide +kernel
theorem dM_perform_136 : decode prog_8_method_18_code 136 = .ok (.iload 4, 2) := by decide +kernel
theorem dM_perform_138 : decode prog_8_method_18_code 138 = .ok (.invokevirtual 190, 3) := by decide +kernel
theorem dM_perform_141 : decode prog_8_method_18_code 141 = .ok (.goto 8, 3) := by decide +kernel
theorem dM_perform_144 : decode prog_8_method_18_code 144 = .ok (.aload_n 0, 1) := by decide +kernel
theorem dM_perform_145 : decode prog_8_method_18_code 145 = .ok (.iload_n 3, 1) := by decide +kernel
theorem dM_perform_146 : decode prog_8_method_18_code 146 = .ok (.invokevirtual 193, 3) := by decide +kernel
theorem dM_perform_149 : decode prog_8_method_18_code 149 = .ok (.return_, 1) := by decide +kernel
theorem dM_list_0 : decode prog_8_method_19_code 0 = .ok (.aload_n 0, 1) := by decide +kernel
theorem dM_list_1 : decode prog_8_method_19_code 1 = .ok (.invokevirtual 137, 3) := by decide +kernel
theorem dM_list_4 : decode prog_8_method_19_code 4 = .ok (.istore 4, 2) := by decide +kernel
theorem dM_list_6 : decode prog_8_method_19_code 6 = .ok (.iload 4, 2) := by decide +kernel
theorem dM_list_8 : decode prog_8_method_19_code 8 = .ok (.bipush 17, 2) := by decide +kernel
theorem dM_list_10 : decode prog_8_method_19_code 10 = .ok (.if_icmp .eq 15, 3) := by decide +kernel
theorem dM_list_13 : decode prog_8_method_19_code 13 = .ok (.iload_n 3, 1) := by decide +kernel
theorem dM_list_14 : decode prog_8_method_19_code 14 = .ok (.iconst 1, 1) := by decide +kernel
theorem dM_list_15 : decode prog_8_method_19_code 15 = .ok (.if_icmp .ne 11, 3) := by decide +kernel
theorem dM_list_18 : decode prog_8_method_19_code 18 = .ok (.iload 4, 2) := by decide +kernel
theorem dM_list_20 : decode prog_8_method_19_code 20 = .ok (.bipush 8, 2) := by decide +kernel
theorem dM_list_22 : decode prog_8_method_19_code 22 = .ok (.if_icmp .ne 4, 3) := by decide +kernel
theorem dM_list_25 : decode prog_8_method_19_code 25 = .ok (.return_, 1) := by decide +kernel
theorem dM_list_26 : decode prog_8_method_19_code 26 = .ok (.aload_n 0, 1) := by decide +kernel
theorem dM_list_27 : decode prog_8_method_19_code 27 = .ok (.iconst 2, 1) := by decide +kernel
theorem dM_list_28 : decode prog_8_method_19_code 28 = .ok (.iload_n 2, 1) := by decide +kernel
theorem dM_list_29 : decode prog_8_method_19_code 29 = .ok (.iload_n 3, 1) := by decide +kernel
theorem dM_list_30 : decode prog_8_method_19_code 30 = .ok (.invokevirtual 187, 3) := by decide +kernel
theorem dM_list_33 : decode prog_8_method_19_code 33 = .ok (.aload_n 0, 1) := by decide +kernel
theorem dM_list_34 : decode prog_8_method_19_code 34 = .ok (.iload_n 2, 1) := by decide +kernel
theorem dM_list_35 : decode prog_8_method_19_code 35 = .ok (.invokevirtual 196, 3) := by decide +kernel
theorem dM_list_38 : decode prog_8_method_19_code 38 = .ok (.ifCond .eq 13, 3) := by decide +kernel
theorem dM_list_41 : decode prog_8_method_19_code 41 = .ok (.aload_n 0, 1) := by decide +kernel
theorem dM_list_42 : decode prog_8_method_19_code 42 = .ok (.iconst 3, 1) := by decide +kernel
theorem dM_list_43 : decode prog_8_method_19_code 43 = .ok (.iload_n 2, 1) := by decide +kernel
theorem dM_list_44 : decode prog_8_method_19_code 44 = .ok (.iconst 0, 1) := by decide +kernel
theorem dM_list_45 : decode prog_8_method_19_code 45 = .ok (.invokevirtual 187, 3) := by decide +kernel
theorem dM_list_48 : decode prog_8_method_19_code 48 = .ok (.goto 8, 3) := by decide +kernel
theorem dM_list_51 : decode prog_8_method_19_code 51 = .ok (.aload_n 0, 1) := by decide +kernel
theorem dM_list_52 : decode prog_8_method_19_code 52 = .ok (.iload_n 1, 1) := by decide +kernel
theorem dM_list_53 : decode prog_8_method_19_code 53 = .ok (.invokevirtual 199, 3) := by decide +kernel
theorem dM_list_56 : decode prog_8_method_19_code 56 = .ok (.return_, 1) := by decide +kernel
theorem dM_statement_0 : decode prog_8_method_20_code 0 = .ok (.aload_n 0, 1) := by decide +kernel
theorem dM_statement_1 : decode prog_8_method_20_code 1 = .ok (.getfield 148, 3) := by decide +kernel
theorem dM_statement_4 : decode prog_8_method_20_code 4 = .ok (.istore_n 2, 1) := by decide +kernel
theorem dM_statement_5 : decode prog_8_method_20_code 5 = .ok (.aload_n 0, 1) := by decide +kernel
theorem dM_statement_6 : decode prog_8_method_20_code 6 = .ok (.invokevirtual 137, 3) := by decide +kernel
theorem dM_statement_9 : decode prog_8_method_20_code 9 = .ok (.istore_n 3, 1) := by decide +kernel
theorem dM_statement_10 : decode prog_8_method_20_code 10 = .ok (.iload_n 3, 1) := by decide +kernel
theorem dM_statement_11 : decode prog_8_method_20_code 11 = .ok (.bipush 6, 2) := by decide +kernel
theorem dM_statement_13 : decode prog_8_method_20_code 13 = .ok (.if_icmp .ne 18, 3) := by decide +kernel
theorem dM_statement_16 : decode prog_8_method_20_code 16 = .ok (.aload_n 0, 1) := by decide +kernel
theorem dM_statement_17 : decode prog_8_method_20_code 17 = .ok (.iconst 0, 1) := by decide +kernel
theorem dM_statement_18 : decode prog_8_method_20_code 18 = .ok (.bipush 25, 2) := by decide +kernel
theorem dM_statement_20 : decode prog_8_method_20_code 20 = .ok (.iload_n 2, 1) := by decide +kernel
theorem dM_statement_21 : decode prog_8_method_20_code 21 = .ok (.invokevirtual 187, 3) := by decide +kernel
theorem dM_statement_24 : decode prog_8_method_20_code 24 = .ok (.aload_n 0, 1) := by decide +kernel
theorem dM_statement_25 : decode prog_8_method_20_code 25 = .ok (.invokevirtual 158, 3) := by decide +kernel
theorem dM_statement_28 : decode prog_8_method_20_code 28 = .ok (.goto 148, 3) := by decide +kernel
theorem dM_statement_31 : decode prog_8_method_20_code 31 = .ok (.iload_n 3, 1) := by decide +kernel
theorem dM_statement_32 : decode prog_8_method_20_code 32 = .ok (.bipush 7, 2) := by decide +kernel
theorem dM_statement_34 : decode prog_8_method_20_code 34 = .ok (.if_icmp .ne 35, 3) := by decide +kernel
theorem dM_statement_37 : decode prog_8_method_20_code 37 = .ok (.aload_n 0, 1) := by decide +kernel
theorem dM_statement_38 : decode prog_8_method_20_code 38 = .ok (.iconst 0, 1) := by decide +kernel
theorem dM_statement_39 : decode prog_8_method_20_code 39 = .ok (.bipush 21, 2) := by decide +kernel
theorem dM_statement_41 : decode prog_8_method_20_code 41 = .ok (.iload_n 2, 1) := by decide +kernel
theorem dM_statement_42 : decode prog_8_method_20_code 42 = .ok (.invokevirtual 187, 3) := by decide +kernel
theorem dM_statement_45 : decode prog_8_method_20_code 45 = .ok (.aload_n 0, 1) := by decide +kernel
theorem dM_statement_46 : decode prog_8_method_20_code 46 = .ok (.iconst 4, 1) := by decide +kernel
theorem dM_statement_47 : decode prog_8_method_20_code 47 = .ok (.bipush 8, 2) := by decide +kernel
theorem dM_statement_49 : decode prog_8_method_20_code 49 = .ok (.iconst 0, 1) := by decide +kernel
theorem dM_statement_50 : decode prog_8_method_20_code 50 = .ok (.invokevirtual 187, 3) := by decide +kernel
theorem dM_statement_53 : decode prog_8_method_20_code 53 = .ok (.aload_n 0, 1) := by decide +kernel
theorem dM_statement_54 : decode prog_8_method_20_code 54 = .ok (.iconst 2, 1) := by decide +kernel
theorem dM_statement_55 : decode prog_8_method_20_code 55 = .ok (.iload_n 1, 1) := by decide +kernel
theorem dM_statement_56 : decode prog_8_method_20_code 56 = .ok (.iconst 1, 1) := by decide +kernel
theorem dM_statement_57 : decode prog_8_method_20_code 57 = .ok (.iadd, 1) := by decide +kernel
theorem dM_statement_58 : decode prog_8_method_20_code 58 = .ok (.iconst 1, 1) := by decide +kernel
theorem dM_statement_59 : decode prog_8_method_20_code 59 = .ok (.invokevirtual 187, 3) := by decide +kernel
theorem dM_statement_62 : decode prog_8_method_20_code 62 = .ok (.aload_n 0, 1) := by decide +kernel
theorem dM_statement_63 : decode prog_8_method_20_code 63 = .ok (.invokevirtual 158, 3) := by decide +kernel
theorem dM_statement_66 : decode prog_8_method_20_code 66 = .ok (.goto 110, 3) := by decide +kernel
theorem dM_statement_69 : decode prog_8_method_20_code 69 = .ok (.iload_n 3, 1) := by decide +kernel
theorem dM_statement_70 : decode prog_8_method_20_code 70 = .ok (.iconst 3, 1) := by decide +kernel
theorem dM_statement_71 : decode prog_8_method_20_code 71 = .ok (.if_icmp .eq 8, 3) := by decide +kernel
theorem dM_statement_74 : decode prog_8_method_20_code 74 = .ok (.iload_n 3, 1) := by decide +kernel
theorem dM_statement_75 : decode prog_8_method_20_code 75 = .ok (.iconst 5, 1) := by decide +kernel
theorem dM_statement_76 : decode prog_8_method_20_code 76 = .ok (.if_icmp .ne 76, 3) := by decide +kernel
theorem dM_statement_79 : decode prog_8_method_20_code 79 = .ok (.aload_n 0, 1) := by decide +kernel
theorem dM_statement_80 : decode prog_8_method_20_code 80 = .ok (.iconst 0, 1) := by decide +kernel
theorem dM_statement_81 : decode prog_8_method_20_code 81 = .ok (.iload_n 3, 1) := by decide +kernel
theorem dM_statement_82 : decode prog_8_method_20_code 82 = .ok (.iconst 3, 1) := by decide +kernel
theorem dM_statement_83 : decode prog_8_method_20_code 83 = .ok (.if_icmp .ne 8, 3) := by decide +kernel
theorem dM_statement_86 : decode prog_8_method_20_code 86 = .ok (.bipush 22, 2) := by decide +kernel
theorem dM_statement_88 : decode prog_8_method_20_code 88 = .ok (.goto 5, 3) := by decide +kernel
theorem dM_statement_91 : decode prog_8_method_20_code 91 = .ok (.bipush 23, 2) := by decide +kernel
theorem dM_statement_93 : decode prog_8_method_20_code 93 = .ok (.iload_n 2, 1) := by decide +kernel
theorem dM_statement_94 : decode prog_8_method_20_code 94 = .ok (.invokevirtual 187, 3) := by decide +kernel
theorem dM_statement_97 : decode prog_8_method_20_code 97 = .ok (.iload_n 3, 1) := by decide +kernel
theorem dM_statement_98 : decode prog_8_method_20_code 98 = .ok (.iconst 3, 1) := by decide +kernel
theorem dM_statement_99 : decode prog_8_method_20_code 99 = .ok (.if_icmp .ne 12, 3) := by decide +kernel
theorem dM_statement_102 : decode prog_8_method_20_code 102 = .ok (.aload_n 0, 1) := by decide +kernel
theorem dM_statement_103 : decode prog_8_method_20_code 103 = .ok (.iconst 5, 1) := by decide +kernel
theorem dM_statement_104 : decode prog_8_method_20_code 104 = .ok (.iload_n 1, 1) := by decide +kernel
theorem dM_statement_105 : decode prog_8_method_20_code 105 = .ok (.iconst 1, 1) := by decide +kernel
theorem dM_statement_106 : decode prog_8_method_20_code 106 = .ok (.iadd, 1) := by decide +kernel
theorem dM_statement_107 : decode prog_8_method_20_code 107 = .ok (.iconst 0, 1) := by decide +kernel
theorem dM_statement_108 : decode prog_8_method_20_code 108 = .ok (.invokevirtual 187, 3) := by decide +kernel
theorem dM_statement_111 : decode prog_8_method_20_code 111 = .ok (.aload_n 0, 1) := by decide +kernel
theorem dM_statement_112 : decode prog_8_method_20_code 112 = .ok (.bipush 6, 2) := by decide +kernel
theorem dM_statement_114 : decode prog_8_method_20_code 114 = .ok (.iload_n 1, 1) := by decide +kernel
theorem dM_statement_115 : decode prog_8_method_20_code 115 = .ok (.iconst 1, 1) := by decide +kernel
theorem dM_statement_116 : decode prog_8_method_20_code 116 = .ok (.iadd, 1) := by decide +kernel
theorem dM_statement_117 : decode prog_8_method_20_code 117 = .ok (.iconst 0, 1) := by decide +kernel
theorem dM_statement_118 : decode prog_8_method_20_code 118 = .ok (.invokevirtual 187, 3) := by decide +kernel
theorem dM_statement_121 : decode prog_8_method_20_code 121 = .ok (.aload_n 0, 1) := by decide +kernel
theorem dM_statement_122 : decode prog_8_method_20_code 122 = .ok (.iconst 4, 1) := by decide +kernel
theorem dM_statement_123 : decode prog_8_method_20_code 123 = .ok (.bipush 10, 2) := by decide +kernel
theorem dM_statement_125 : decode prog_8_method_20_code 125 = .ok (.iconst 0, 1) := by decide +kernel
theorem dM_statement_126 : decode prog_8_method_20_code 126 = .ok (.invokevirtual 187, 3) := by decide +kernel
theorem dM_statement_129 : decode prog_8_method_20_code 129 = .ok (.aload_n 0, 1) := by decide +kernel
theorem dM_statement_130 : decode prog_8_method_20_code 130 = .ok (.bipush 7, 2) := by decide +kernel
theorem dM_statement_132 : decode prog_8_method_20_code 132 = .ok (.iconst 0, 1) := by decide +kernel
theorem dM_statement_133 : decode prog_8_method_20_code 133 = .ok (.iconst 0, 1) := by decide +kernel
theorem dM_statement_134 : decode prog_8_method_20_code 134 = .ok (.invokevirtual 187, 3) := by decide +kernel
theorem dM_statement_137 : decode prog_8_method_20_code 137 = .ok (.aload_n 0, 1) := by decide +kernel
theorem dM_statement_138 : decode prog_8_method_20_code 138 = .ok (.iconst 4, 1) := by decide +kernel
theorem dM_statement_139 : decode prog_8_method_20_code 139 = .ok (.bipush 9, 2) := by decide +kernel
theorem dM_statement_141 : decode prog_8_method_20_code 141 = .ok (.iconst 0, 1) := by decide +kernel
theorem dM_statement_142 : decode prog_8_method_20_code 142 = .ok (.invokevirtual 187, 3) := by decide +kernel
theorem dM_statement_145 : decode prog_8_method_20_code 145 = .ok (.aload_n 0, 1) := by decide +kernel
theorem dM_statement_146 : decode prog_8_method_20_code 146 = .ok (.invokevirtual 158, 3) := by decide +kernel
theorem dM_statement_149 : decode prog_8_method_20_code 149 = .ok (.goto 27, 3) := by decide +kernel
theorem dM_statement_152 : decode prog_8_method_20_code 152 = .ok (.aload_n 0, 1) := by decide +kernel
theorem dM_statement_153 : decode prog_8_method_20_code 153 = .ok (.iconst 0, 1) := by decide +kernel
theorem dM_statement_154 : decode prog_8_method_20_code 154 = .ok (.bipush 24, 2) := by decide +kernel
theorem dM_statement_156 : decode prog_8_method_20_code 156 = .ok (.iload_n 2, 1) := by decide +kernel
theorem dM_statement_157 : decode prog_8_method_20_code 157 = .ok (.invokevirtual 187, 3) := by decide +kernel
theorem dM_statement_160 : decode prog_8_method_20_code 160 = .ok (.aload_n 0, 1) := by decide +kernel
theorem dM_statement_161 : decode prog_8_method_20_code 161 = .ok (.iconst 4, 1) := by decide +kernel
theorem dM_statement_162 : decode prog_8_method_20_code 162 = .ok (.bipush 6, 2) := by decide +kernel
theorem dM_statement_164 : decode prog_8_method_20_code 164 = .ok (.iconst 0, 1) := by decide +kernel
theorem dM_statement_165 : decode prog_8_method_20_code 165 = .ok (.invokevirtual 187, 3) := by decide +kernel
theorem dM_statement_168 : decode prog_8_method_20_code 168 = .ok (.aload_n 0, 1) := by decide +kernel
theorem dM_statement_169 : decode prog_8_method_20_code 169 = .ok (.bipush 7, 2) := by decide +kernel
theorem dM_statement_171 : decode prog_8_method_20_code 171 = .ok (.iconst 0, 1) := by decide +kernel
theorem dM_statement_172 : decode prog_8_method_20_code 172 = .ok (.iconst 0, 1) := by decide +kernel
theorem dM_statement_173 : decode prog_8_method_20_code 173 = .ok (.invokevirtual 187, 3) := by decide +kernel
theorem dM_statement_176 : decode prog_8_method_20_code 176 = .ok (.return_, 1) := by decide +kernel
theorem dM_other_0 : decode prog_8_method_21_code 0 = .ok (.aload_n 0, 1) := by decide +kernel
theorem dM_other_1 : decode prog_8_method_21_code 1 = .ok (.invokevirtual 137, 3) := by decide +kernel
theorem dM_other_4 : decode prog_8_method_21_code 4 = .ok (.iconst 4, 1) := by decide +kernel
theorem dM_other_5 : decode prog_8_method_21_code 5 = .ok (.if_icmp .eq 4, 3) := by decide +kernel
theorem dM_other_8 : decode prog_8_method_21_code 8 = .ok (.return_, 1) := by decide +kernel
theorem dM_other_9 : decode prog_8_method_21_code 9 = .ok (.aload_n 0, 1) := by decide +kernel
theorem dM_other_10 : decode prog_8_method_21_code 10 = .ok (.invokevirtual 158, 3) := by decide +kernel
theorem dM_other_13 : decode prog_8_method_21_code 13 = .ok (.aload_n 0, 1) := by decide +kernel
theorem dM_other_14 : decode prog_8_method_21_code 14 = .ok (.bipush 6, 2) := by decide +kernel
theorem dM_other_16 : decode prog_8_method_21_code 16 = .ok (.iload_n 1, 1) := by decide +kernel
theorem dM_other_17 : decode prog_8_method_21_code 17 = .ok (.iconst 0, 1) := by decide +kernel
theorem dM_other_18 : decode prog_8_method_21_code 18 = .ok (.invokevirtual 187, 3) := by decide +kernel
theorem dM_other_21 : decode prog_8_method_21_code 21 = .ok (.return_, 1) := by decide +kernel
theorem dM_part_0 : decode prog_8_method_22_code 0 = .ok (.aload_n 0, 1) := by decide +kernel
theorem dM_part_1 : decode prog_8_method_22_code 1 = .ok (.iload_n 1, 1) := by decide +kernel
theorem dM_part_2 : decode prog_8_method_22_code 2 = .ok (.invokevirtual 196, 3) := by decide +kernel
theorem dM_part_5 : decode prog_8_method_22_code 5 = .ok (.ifCond .eq 11, 3) := by decide +kernel
theorem dM_part_8 : decode prog_8_method_22_code 8 = .ok (.aload_n 0, 1) := by decide +kernel
theorem dM_part_9 : decode prog_8_method_22_code 9 = .ok (.iconst 3, 1) := by decide +kernel
theorem dM_part_10 : decode prog_8_method_22_code 10 = .ok (.iload_n 1, 1) := by decide +kernel
theorem dM_part_11 : decode prog_8_method_22_code 11 = .ok (.iconst 0, 1) := by decide +kernel
theorem dM_part_12 : decode prog_8_method_22_code 12 = .ok (.invokevirtual 187, 3) := by decide +kernel
theorem dM_part_15 : decode prog_8_method_22_code 15 = .ok (.return_, 1) := by decide +kernel
theorem dM_part_16 : decode prog_8_method_22_code 16 = .ok (.aload_n 0, 1) := by decide +kernel
theorem dM_part_17 : decode prog_8_method_22_code 17 = .ok (.iconst 0, 1) := by decide +kernel
theorem dM_part_18 : decode prog_8_method_22_code 18 = .ok (.bipush 25, 2) := by decide +kernel
theorem dM_part_20 : decode prog_8_method_22_code 20 = .ok (.aload_n 0, 1) := by decide +kernel
theorem dM_part_21 : decode prog_8_method_22_code 21 = .ok (.getfield 148, 3) := by decide +kernel
theorem dM_part_24 : decode prog_8_method_22_code 24 = .ok (.invokevirtual 187, 3) := by decide +kernel
theorem dM_part_27 : decode prog_8_method_22_code 27 = .ok (.aload_n 0, 1) := by decide +kernel
theorem dM_part_28 : decode prog_8_method_22_code 28 = .ok (.bipush 6, 2) := by decide +kernel
theorem dM_part_30 : decode prog_8_method_22_code 30 = .ok (.aload_n 0, 1) := by decide +kernel
theorem dM_part_31 : decode prog_8_method_22_code 31 = .ok (.invokevirtual 137, 3) := by decide +kernel
theorem dM_part_34 : decode prog_8_method_22_code 34 = .ok (.invokestatic 141, 3) := by decide +kernel
theorem dM_part_37 : decode prog_8_method_22_code 37 = .ok (.ifCond .eq 7, 3) := by decide +kernel
theorem dM_part_40 : decode prog_8_method_22_code 40 = .ok (.iconst 3, 1) := by decide +kernel
theorem dM_part_41 : decode prog_8_method_22_code 41 = .ok (.goto 4, 3) := by decide +kernel
theorem dM_part_44 : decode prog_8_method_22_code 44 = .ok (.iconst 2, 1) := by decide +kernel
theorem dM_part_45 : decode prog_8_method_22_code 45 = .ok (.invokevirtual 161, 3) := by decide +kernel
theorem dM_part_48 : decode prog_8_method_22_code 48 = .ok (.return_, 1) := by decide +kernel
theorem dM_level_0 : decode prog_8_method_23_code 0 = .ok (.iload_n 0, 1) := by decide +kernel
theorem dM_level_1 : decode prog_8_method_23_code 1 = .ok (.bipush 13, 2) := by decide +kernel
theorem dM_level_3 : decode prog_8_method_23_code 3 = .ok (.if_icmp .ne 7, 3) := by decide +kernel
theorem dM_level_6 : decode prog_8_method_23_code 6 = .ok (.iconst 4, 1) := by decide +kernel
theorem dM_level_7 : decode prog_8_method_23_code 7 = .ok (.goto 24, 3) := by decide +kernel
theorem dM_level_10 : decode prog_8_method_23_code 10 = .ok (.iload_n 0, 1) := by decide +kernel
theorem dM_level_11 : decode prog_8_method_23_code 11 = .ok (.bipush 14, 2) := by decide +kernel
theorem dM_level_13 : decode prog_8_method_23_code 13 = .ok (.if_icmp .ne 7, 3) := by decide +kernel
theorem dM_level_16 : decode prog_8_method_23_code 16 = .ok (.iconst 2, 1) := by decide +kernel
theorem dM_level_17 : decode prog_8_method_23_code 17 = .ok (.goto 14, 3) := by decide +kernel
theorem dM_level_20 : decode prog_8_method_23_code 20 = .ok (.iload_n 0, 1) := by decide +kernel
theorem dM_level_21 : decode prog_8_method_23_code 21 = .ok (.bipush 15, 2) := by decide +kernel
theorem dM_level_23 : decode prog_8_method_23_code 23 = .ok (.if_icmp .ne 7, 3) := by decide +kernel
theorem dM_level_26 : decode prog_8_method_23_code 26 = .ok (.iconst 1, 1) := by decide +kernel
theorem dM_level_27 : decode prog_8_method_23_code 27 = .ok (.goto 4, 3) := by decide +kernel
theorem dM_level_30 : decode prog_8_method_23_code 30 = .ok (.iconst 3, 1) := by decide +kernel
theorem dM_level_31 : decode prog_8_method_23_code 31 = .ok (.ireturn, 1) := by decide +kernel
theorem dM_more_0 : decode prog_8_method_24_code 0 = .ok (.aload_n 0, 1) := by decide +kernel
theorem dM_more_1 : decode prog_8_method_24_code 1 = .ok (.invokevirtual 137, 3) := by decide +kernel
theorem dM_more_4 : decode prog_8_method_24_code 4 = .ok (.istore_n 3, 1) := by decide +kernel
theorem dM_more_5 : decode prog_8_method_24_code 5 = .ok (.iload_n 3, 1) := by decide +kernel
theorem dM_more_6 : decode prog_8_method_24_code 6 = .ok (.bipush 11, 2) := by decide +kernel
theorem dM_more_8 : decode prog_8_method_24_code 8 = .ok (.if_icmp .lt 13, 3) := by decide +kernel
theorem dM_more_11 : decode prog_8_method_24_code 11 = .ok (.iload_n 3, 1) := by decide +kernel
theorem dM_more_12 : decode prog_8_method_24_code 12 = .ok (.bipush 15, 2) := by decide +kernel
theorem dM_more_14 : decode prog_8_method_24_code 14 = .ok (.if_icmp .gt 7, 3) := by decide +kernel
theorem dM_more_17 : decode prog_8_method_24_code 17 = .ok (.iconst 1, 1) := by decide +kernel
theorem dM_more_18 : decode prog_8_method_24_code 18 = .ok (.goto 4, 3) := by decide +kernel
theorem dM_more_21 : decode prog_8_method_24_code 21 = .ok (.iconst 0, 1) := by decide +kernel
theorem dM_more_22 : decode prog_8_method_24_code 22 = .ok (.istore 4, 2) := by decide +kernel
theorem dM_more_24 : decode prog_8_method_24_code 24 = .ok (.iconst 1, 1) := by decide +kernel
theorem dM_more_25 : decode prog_8_method_24_code 25 = .ok (.istore 5, 2) := by decide +kernel
theorem dM_more_27 : decode prog_8_method_24_code 27 = .ok (.iload 5, 2) := by decide +kernel
theorem dM_more_29 : decode prog_8_method_24_code 29 = .ok (.ifCond .eq 90, 3) := by decide +kernel
theorem dM_more_32 : decode prog_8_method_24_code 32 = .ok (.aload_n 0, 1) := by decide +kernel
theorem dM_more_33 : decode prog_8_method_24_code 33 = .ok (.getfield 148, 3) := by decide +kernel
theorem dM_more_36 : decode prog_8_method_24_code 36 = .ok (.iload_n 2, 1) := by decide +kernel
theorem dM_more_37 : decode prog_8_method_24_code 37 = .ok (.isub, 1) := by decide +kernel
theorem dM_more_38 : decode prog_8_method_24_code 38 = .ok (.iconst 3, 1) := by decide +kernel
theorem dM_more_39 : decode prog_8_method_24_code 39 = .ok (.if_icmp .lt 80, 3) := by decide +kernel
theorem dM_more_42 : decode prog_8_method_24_code 42 = .ok (.aload_n 0, 1) := by decide +kernel
theorem dM_more_43 : decode prog_8_method_24_code 43 = .ok (.getfield 65, 3) := by decide +kernel
theorem dM_more_46 : decode prog_8_method_24_code 46 = .ok (.aload_n 0, 1) := by decide +kernel
theorem dM_more_47 : decode prog_8_method_24_code 47 = .ok (.getfield 95, 3) := by decide +kernel
theorem dM_more_50 : decode prog_8_method_24_code 50 = .ok (.aload_n 0, 1) := by decide +kernel
theorem dM_more_51 : decode prog_8_method_24_code 51 = .ok (.getfield 148, 3) := by decide +kernel
theorem dM_more_54 : decode prog_8_method_24_code 54 = .ok (.iconst 2, 1) := by decide +kernel
theorem dM_more_55 : decode prog_8_method_24_code 55 = .ok (.isub, 1) := by decide +kernel
theorem dM_more_56 : decode prog_8_method_24_code 56 = .ok (.iaload, 1) := by decide +kernel
theorem dM_more_57 : decode prog_8_method_24_code 57 = .ok (.iaload, 1) := by decide +kernel
theorem dM_more_58 : decode prog_8_method_24_code 58 = .ok (.invokestatic 202, 3) := by decide +kernel
theorem dM_more_61 : decode prog_8_method_24_code 61 = .ok (.istore 6, 2) := by decide +kernel
theorem dM_more_63 : decode prog_8_method_24_code 63 = .ok (.iload 4, 2) := by decide +kernel
theorem dM_more_65 : decode prog_8_method_24_code 65 = .ok (.ifCond .eq 27, 3) := by decide +kernel
theorem dM_more_68 : decode prog_8_method_24_code 68 = .ok (.iload 6, 2) := by decide +kernel
theorem dM_more_70 : decode prog_8_method_24_code 70 = .ok (.iload_n 3, 1) := by decide +kernel
theorem dM_more_71 : decode prog_8_method_24_code 71 = .ok (.invokestatic 202, 3) := by decide +kernel
theorem dM_more_74 : decode prog_8_method_24_code 74 = .ok (.if_icmp .gt 18, 3) := by decide +kernel
theorem dM_more_77 : decode prog_8_method_24_code 77 = .ok (.iload 6, 2) := by decide +kernel
theorem dM_more_79 : decode prog_8_method_24_code 79 = .ok (.iload_n 3, 1) := by decide +kernel
theorem dM_more_80 : decode prog_8_method_24_code 80 = .ok (.invokestatic 202, 3) := by decide +kernel
theorem dM_more_83 : decode prog_8_method_24_code 83 = .ok (.if_icmp .ne 13, 3) := by decide +kernel
theorem dM_more_86 : decode prog_8_method_24_code 86 = .ok (.iload_n 3, 1) := by decide +kernel
theorem dM_more_87 : decode prog_8_method_24_code 87 = .ok (.bipush 15, 2) := by decide +kernel
theorem dM_more_89 : decode prog_8_method_24_code 89 = .ok (.if_icmp .eq 7, 3) := by decide +kernel
theorem dM_more_92 : decode prog_8_method_24_code 92 = .ok (.iconst 1, 1) := by decide +kernel
theorem dM_more_93 : decode prog_8_method_24_code 93 = .ok (.goto 4, 3) := by decide +kernel
theorem dM_more_96 : decode prog_8_method_24_code 96 = .ok (.iconst 0, 1) := by decide +kernel
theorem dM_more_97 : decode prog_8_method_24_code 97 = .ok (.istore 5, 2) := by decide +kernel
theorem dM_more_99 : decode prog_8_method_24_code 99 = .ok (.iload 5, 2) := by decide +kernel
theorem dM_more_101 : decode prog_8_method_24_code 101 = .ok (.ifCond .eq 15, 3) := by decide +kernel
theorem dM_more_104 : decode prog_8_method_24_code 104 = .ok (.aload_n 0, 1) := by decide +kernel
theorem dM_more_105 : decode prog_8_method_24_code 105 = .ok (.bipush 26, 2) := by decide +kernel
theorem dM_more_107 : decode prog_8_method_24_code 107 = .ok (.aload_n 0, 1) := by decide +kernel
theorem dM_more_108 : decode prog_8_method_24_code 108 = .ok (.getfield 148, 3) := by decide +kernel
theorem dM_more_111 : decode prog_8_method_24_code 111 = .ok (.iconst 3, 1) := by decide +kernel
theorem dM_more_112 : decode prog_8_method_24_code 112 = .ok (.isub, 1) := by decide +kernel
theorem dM_more_113 : decode prog_8_method_24_code 113 = .ok (.invokevirtual 168, 3) := by decide +kernel
theorem dM_more_116 : decode prog_8_method_24_code 116 = .ok (.goto (-89), 3) := by decide +kernel
theorem dM_more_119 : decode prog_8_method_24_code 119 = .ok (.iload 4, 2) := by decide +kernel
theorem dM_more_121 : decode prog_8_method_24_code 121 = .ok (.ifCond .ne 4, 3) := by decide +kernel
theorem dM_more_124 : decode prog_8_method_24_code 124 = .ok (.return_, 1) := by decide +kernel
theorem dM_more_125 : decode prog_8_method_24_code 125 = .ok (.aload_n 0, 1) := by decide +kernel
theorem dM_more_126 : decode prog_8_method_24_code 126 = .ok (.invokevirtual 158, 3) := by decide +kernel
theorem dM_more_129 : decode prog_8_method_24_code 129 = .ok (.aload_n 0, 1) := by decide +kernel
theorem dM_more_130 : decode prog_8_method_24_code 130 = .ok (.bipush 8, 2) := by decide +kernel
theorem dM_more_132 : decode prog_8_method_24_code 132 = .ok (.iload_n 1, 1) := by decide +kernel
theorem dM_more_133 : decode prog_8_method_24_code 133 = .ok (.iload_n 2, 1) := by decide +kernel
theorem dM_more_134 : decode prog_8_method_24_code 134 = .ok (.invokevirtual 187, 3) := by decide +kernel
theorem dM_more_137 : decode prog_8_method_24_code 137 = .ok (.aload_n 0, 1) := by decide +kernel
theorem dM_more_138 : decode prog_8_method_24_code 138 = .ok (.bipush 9, 2) := by decide +kernel
theorem dM_more_140 : decode prog_8_method_24_code 140 = .ok (.iload_n 1, 1) := by decide +kernel
theorem dM_more_141 : decode prog_8_method_24_code 141 = .ok (.iconst 0, 1) := by decide +kernel
theorem dM_more_142 : decode prog_8_method_24_code 142 = .ok (.invokevirtual 187, 3) := by decide +kernel
theorem dM_more_145 : decode prog_8_method_24_code 145 = .ok (.return_, 1) := by decide +kernel
theorem dM_operand_0 : decode prog_8_method_25_code 0 = .ok (.aload_n 0, 1) := by decide +kernel
theorem dM_operand_1 : decode prog_8_method_25_code 1 = .ok (.invokevirtual 137, 3) := by decide +kernel
theorem dM_operand_4 : decode prog_8_method_25_code 4 = .ok (.istore_n 2, 1) := by decide +kernel
theorem dM_operand_5 : decode prog_8_method_25_code 5 = .ok (.iload_n 2, 1) := by decide +kernel
theorem dM_operand_6 : decode prog_8_method_25_code 6 = .ok (.iconst 1, 1) := by decide +kernel
theorem dM_operand_7 : decode prog_8_method_25_code 7 = .ok (.if_icmp .eq 8, 3) := by decide +kernel
theorem dM_operand_10 : decode prog_8_method_25_code 10 = .ok (.iload_n 2, 1) := by decide +kernel
theorem dM_operand_11 : decode prog_8_method_25_code 11 = .ok (.iconst 2, 1) := by decide +kernel
theorem dM_operand_12 : decode prog_8_method_25_code 12 = .ok (.if_icmp .ne 10, 3) := by decide +kernel
theorem dM_operand_15 : decode prog_8_method_25_code 15 = .ok (.aload_n 0, 1) := by decide +kernel
theorem dM_operand_16 : decode prog_8_method_25_code 16 = .ok (.invokevirtual 158, 3) := by decide +kernel
theorem dM_operand_19 : decode prog_8_method_25_code 19 = .ok (.goto 113, 3) := by decide +kernel
theorem dM_operand_22 : decode prog_8_method_25_code 22 = .ok (.iload_n 1, 1) := by decide +kernel
theorem dM_operand_23 : decode prog_8_method_25_code 23 = .ok (.bipush 6, 2) := by decide +kernel
theorem dM_operand_25 : decode prog_8_method_25_code 25 = .ok (.if_icmp .eq 45, 3) := by decide +kernel
theorem dM_operand_28 : decode prog_8_method_25_code 28 = .ok (.iload_n 2, 1) := by decide +kernel
theorem dM_operand_29 : decode prog_8_method_25_code 29 = .ok (.bipush 9, 2) := by decide +kernel
theorem dM_operand_31 : decode prog_8_method_25_code 31 = .ok (.if_icmp .ne 39, 3) := by decide +kernel
theorem dM_operand_34 : decode prog_8_method_25_code 34 = .ok (.aload_n 0, 1) := by decide +kernel
theorem dM_operand_35 : decode prog_8_method_25_code 35 = .ok (.iconst 0, 1) := by decide +kernel
theorem dM_operand_36 : decode prog_8_method_25_code 36 = .ok (.bipush 28, 2) := by decide +kernel
theorem dM_operand_38 : decode prog_8_method_25_code 38 = .ok (.aload_n 0, 1) := by decide +kernel
theorem dM_operand_39 : decode prog_8_method_25_code 39 = .ok (.getfield 148, 3) := by decide +kernel
theorem dM_operand_42 : decode prog_8_method_25_code 42 = .ok (.invokevirtual 187, 3) := by decide +kernel
theorem dM_operand_45 : decode prog_8_method_25_code 45 = .ok (.aload_n 0, 1) := by decide +kernel
theorem dM_operand_46 : decode prog_8_method_25_code 46 = .ok (.iconst 4, 1) := by decide +kernel
theorem dM_operand_47 : decode prog_8_method_25_code 47 = .ok (.bipush 10, 2) := by decide +kernel
theorem dM_operand_49 : decode prog_8_method_25_code 49 = .ok (.iconst 0, 1) := by decide +kernel
theorem dM_operand_50 : decode prog_8_method_25_code 50 = .ok (.invokevirtual 187, 3) := by decide +kernel
theorem dM_operand_53 : decode prog_8_method_25_code 53 = .ok (.aload_n 0, 1) := by decide +kernel
theorem dM_operand_54 : decode prog_8_method_25_code 54 = .ok (.bipush 7, 2) := by decide +kernel
theorem dM_operand_56 : decode prog_8_method_25_code 56 = .ok (.iload_n 1, 1) := by decide +kernel
theorem dM_operand_57 : decode prog_8_method_25_code 57 = .ok (.iconst 1, 1) := by decide +kernel
theorem dM_operand_58 : decode prog_8_method_25_code 58 = .ok (.iadd, 1) := by decide +kernel
theorem dM_operand_59 : decode prog_8_method_25_code 59 = .ok (.iconst 0, 1) := by decide +kernel
theorem dM_operand_60 : decode prog_8_method_25_code 60 = .ok (.invokevirtual 187, 3) := by decide +kernel
theorem dM_operand_63 : decode prog_8_method_25_code 63 = .ok (.aload_n 0, 1) := by decide +kernel
theorem dM_operand_64 : decode prog_8_method_25_code 64 = .ok (.invokevirtual 158, 3) := by decide +kernel
theorem dM_operand_67 : decode prog_8_method_25_code 67 = .ok (.goto 65, 3) := by decide +kernel
theorem dM_operand_70 : decode prog_8_method_25_code 70 = .ok (.iload_n 1, 1) := by decide +kernel
theorem dM_operand_71 : decode prog_8_method_25_code 71 = .ok (.bipush 6, 2) := by decide +kernel
theorem dM_operand_73 : decode prog_8_method_25_code 73 = .ok (.if_icmp .eq 37, 3) := by decide +kernel
theorem dM_operand_76 : decode prog_8_method_25_code 76 = .ok (.iload_n 2, 1) := by decide +kernel
theorem dM_operand_77 : decode prog_8_method_25_code 77 = .ok (.bipush 12, 2) := by decide +kernel
theorem dM_operand_79 : decode prog_8_method_25_code 79 = .ok (.if_icmp .ne 31, 3) := by decide +kernel
theorem dM_operand_82 : decode prog_8_method_25_code 82 = .ok (.aload_n 0, 1) := by decide +kernel
theorem dM_operand_83 : decode prog_8_method_25_code 83 = .ok (.iconst 0, 1) := by decide +kernel
theorem dM_operand_84 : decode prog_8_method_25_code 84 = .ok (.bipush 27, 2) := by decide +kernel
theorem dM_operand_86 : decode prog_8_method_25_code 86 = .ok (.aload_n 0, 1) := by decide +kernel
theorem dM_operand_87 : decode prog_8_method_25_code 87 = .ok (.getfield 148, 3) := by decide +kernel
theorem dM_operand_90 : decode prog_8_method_25_code 90 = .ok (.invokevirtual 187, 3) := by decide +kernel
theorem dM_operand_93 : decode prog_8_method_25_code 93 = .ok (.aload_n 0, 1) := by decide +kernel
theorem dM_operand_94 : decode prog_8_method_25_code 94 = .ok (.bipush 9, 2) := by decide +kernel
theorem dM_operand_96 : decode prog_8_method_25_code 96 = .ok (.iload_n 1, 1) := by decide +kernel
theorem dM_operand_97 : decode prog_8_method_25_code 97 = .ok (.iconst 1, 1) := by decide +kernel
theorem dM_operand_98 : decode prog_8_method_25_code 98 = .ok (.iadd, 1) := by decide +kernel
theorem dM_operand_99 : decode prog_8_method_25_code 99 = .ok (.iconst 0, 1) := by decide +kernel
theorem dM_operand_100 : decode prog_8_method_25_code 100 = .ok (.invokevirtual 187, 3) := by decide +kernel
theorem dM_operand_103 : decode prog_8_method_25_code 103 = .ok (.aload_n 0, 1) := by decide +kernel
theorem dM_operand_104 : decode prog_8_method_25_code 104 = .ok (.invokevirtual 158, 3) := by decide +kernel
theorem dM_operand_107 : decode prog_8_method_25_code 107 = .ok (.goto 25, 3) := by decide +kernel
theorem dM_operand_110 : decode prog_8_method_25_code 110 = .ok (.aload_n 0, 1) := by decide +kernel
theorem dM_operand_111 : decode prog_8_method_25_code 111 = .ok (.iconst 1, 1) := by decide +kernel
theorem dM_operand_112 : decode prog_8_method_25_code 112 = .ok (.iload_n 2, 1) := by decide +kernel
theorem dM_operand_113 : decode prog_8_method_25_code 113 = .ok (.bipush 9, 2) := by decide +kernel
theorem dM_operand_115 : decode prog_8_method_25_code 115 = .ok (.if_icmp .eq 9, 3) := by decide +kernel
theorem dM_operand_118 : decode prog_8_method_25_code 118 = .ok (.iload_n 2, 1) := by decide +kernel
theorem dM_operand_119 : decode prog_8_method_25_code 119 = .ok (.bipush 12, 2) := by decide +kernel
theorem dM_operand_121 : decode prog_8_method_25_code 121 = .ok (.if_icmp .ne 7, 3) := by decide +kernel
theorem dM_operand_124 : decode prog_8_method_25_code 124 = .ok (.iconst 3, 1) := by decide +kernel
theorem dM_operand_125 : decode prog_8_method_25_code 125 = .ok (.goto 4, 3) := by decide +kernel
theorem dM_operand_128 : decode prog_8_method_25_code 128 = .ok (.iconst 2, 1) := by decide +kernel
theorem dM_operand_129 : decode prog_8_method_25_code 129 = .ok (.invokevirtual 161, 3) := by decide +kernel
theorem dM_operand_132 : decode prog_8_method_25_code 132 = .ok (.return_, 1) := by decide +kernel
theorem dM_parse_0 : decode prog_8_method_26_code 0 = .ok (.aload_n 0, 1) := by decide +kernel
theorem dM_parse_1 : decode prog_8_method_26_code 1 = .ok (.iload_n 1, 1) := by decide +kernel
theorem dM_parse_2 : decode prog_8_method_26_code 2 = .ok (.invokevirtual 206, 3) := by decide +kernel
theorem dM_parse_5 : decode prog_8_method_26_code 5 = .ok (.iconst 0, 1) := by decide +kernel
theorem dM_parse_6 : decode prog_8_method_26_code 6 = .ok (.istore_n 2, 1) := by decide +kernel
theorem dM_parse_7 : decode prog_8_method_26_code 7 = .ok (.iload_n 2, 1) := by decide +kernel
theorem dM_parse_8 : decode prog_8_method_26_code 8 = .ok (.bipush 61, 2) := by decide +kernel
theorem dM_parse_10 : decode prog_8_method_26_code 10 = .ok (.if_icmp .ge 21, 3) := by decide +kernel
theorem dM_parse_13 : decode prog_8_method_26_code 13 = .ok (.aload_n 0, 1) := by decide +kernel
theorem dM_parse_14 : decode prog_8_method_26_code 14 = .ok (.getfield 17, 3) := by decide +kernel
theorem dM_parse_17 : decode prog_8_method_26_code 17 = .ok (.bipush 61, 2) := by decide +kernel
theorem dM_parse_19 : decode prog_8_method_26_code 19 = .ok (.iload_n 1, 1) := by decide +kernel
theorem dM_parse_20 : decode prog_8_method_26_code 20 = .ok (.imul, 1) := by decide +kernel
theorem dM_parse_21 : decode prog_8_method_26_code 21 = .ok (.iload_n 2, 1) := by decide +kernel
theorem dM_parse_22 : decode prog_8_method_26_code 22 = .ok (.iadd, 1) := by decide +kernel
theorem dM_parse_23 : decode prog_8_method_26_code 23 = .ok (.iconst 0, 1) := by decide +kernel
theorem dM_parse_24 : decode prog_8_method_26_code 24 = .ok (.iastore, 1) := by decide +kernel
theorem dM_parse_25 : decode prog_8_method_26_code 25 = .ok (.iinc 2 1, 3) := by decide +kernel
theorem dM_parse_28 : decode prog_8_method_26_code 28 = .ok (.goto (-21), 3) := by decide +kernel
theorem dM_parse_31 : decode prog_8_method_26_code 31 = .ok (.aload_n 0, 1) := by decide +kernel
theorem dM_parse_32 : decode prog_8_method_26_code 32 = .ok (.iconst 0, 1) := by decide +kernel
theorem dM_parse_33 : decode prog_8_method_26_code 33 = .ok (.putfield 145, 3) := by decide +kernel
theorem dM_parse_36 : decode prog_8_method_26_code 36 = .ok (.aload_n 0, 1) := by decide +kernel
theorem dM_parse_37 : decode prog_8_method_26_code 37 = .ok (.iconst 0, 1) := by decide +kernel
theorem dM_parse_38 : decode prog_8_method_26_code 38 = .ok (.putfield 148, 3) := by decide +kernel
theorem dM_parse_41 : decode prog_8_method_26_code 41 = .ok (.aload_n 0, 1) := by decide +kernel
theorem dM_parse_42 : decode prog_8_method_26_code 42 = .ok (.iconst 0, 1) := by decide +kernel
theorem dM_parse_43 : decode prog_8_method_26_code 43 = .ok (.putfield 134, 3) := by decide +kernel
theorem dM_parse_46 : decode prog_8_method_26_code 46 = .ok (.aload_n 0, 1) := by decide +kernel
theorem dM_parse_47 : decode prog_8_method_26_code 47 = .ok (.iconst 0, 1) := by decide +kernel
theorem dM_parse_48 : decode prog_8_method_26_code 48 = .ok (.putfield 151, 3) := by decide +kernel
theorem dM_parse_51 : decode prog_8_method_26_code 51 = .ok (.aload_n 0, 1) := by decide +kernel
theorem dM_parse_52 : decode prog_8_method_26_code 52 = .ok (.iconst 0, 1) := by decide +kernel
theorem dM_parse_53 : decode prog_8_method_26_code 53 = .ok (.putfield 165, 3) := by decide +kernel
theorem dM_parse_56 : decode prog_8_method_26_code 56 = .ok (.aload_n 0, 1) := by decide +kernel
theorem dM_parse_57 : decode prog_8_method_26_code 57 = .ok (.iconst 0, 1) := by decide +kernel
theorem dM_parse_58 : decode prog_8_method_26_code 58 = .ok (.bipush 20, 2) := by decide +kernel
theorem dM_parse_60 : decode prog_8_method_26_code 60 = .ok (.iconst 0, 1) := by decide +kernel
theorem dM_parse_61 : decode prog_8_method_26_code 61 = .ok (.invokevirtual 187, 3) := by decide +kernel
theorem dM_parse_64 : decode prog_8_method_26_code 64 = .ok (.aload_n 0, 1) := by decide +kernel
theorem dM_parse_65 : decode prog_8_method_26_code 65 = .ok (.iconst 1, 1) := by decide +kernel
theorem dM_parse_66 : decode prog_8_method_26_code 66 = .ok (.iconst 0, 1) := by decide +kernel
theorem dM_parse_67 : decode prog_8_method_26_code 67 = .ok (.iconst 0, 1) := by decide +kernel
theorem dM_parse_68 : decode prog_8_method_26_code 68 = .ok (.invokevirtual 187, 3) := by decide +kernel
theorem dM_parse_71 : decode prog_8_method_26_code 71 = .ok (.aload_n 0, 1) := by decide +kernel
theorem dM_parse_72 : decode prog_8_method_26_code 72 = .ok (.iconst 2, 1) := by decide +kernel
theorem dM_parse_73 : decode prog_8_method_26_code 73 = .ok (.iconst 0, 1) := by decide +kernel
theorem dM_parse_74 : decode prog_8_method_26_code 74 = .ok (.iconst 0, 1) := by decide +kernel
theorem dM_parse_75 : decode prog_8_method_26_code 75 = .ok (.invokevirtual 187, 3) := by decide +kernel
theorem dM_parse_78 : decode prog_8_method_26_code 78 = .ok (.iconst 0, 1) := by decide +kernel
theorem dM_parse_79 : decode prog_8_method_26_code 79 = .ok (.istore_n 2, 1) := by decide +kernel
theorem dM_parse_80 : decode prog_8_method_26_code 80 = .ok (.iload_n 2, 1) := by decide +kernel
theorem dM_parse_81 : decode prog_8_method_26_code 81 = .ok (.ldc 209, 2) := by decide +kernel
theorem dM_parse_83 : decode prog_8_method_26_code 83 = .ok (.if_icmp .ge 58, 3) := by decide +kernel
theorem dM_parse_86 : decode prog_8_method_26_code 86 = .ok (.aload_n 0, 1) := by decide +kernel
theorem dM_parse_87 : decode prog_8_method_26_code 87 = .ok (.getfield 165, 3) := by decide +kernel
theorem dM_parse_90 : decode prog_8_method_26_code 90 = .ok (.ifCond .le 51, 3) := by decide +kernel
theorem dM_parse_93 : decode prog_8_method_26_code 93 = .ok (.aload_n 0, 1) := by decide +kernel
theorem dM_parse_94 : decode prog_8_method_26_code 94 = .ok (.dup, 1) := by decide +kernel
theorem dM_parse_95 : decode prog_8_method_26_code 95 = .ok (.getfield 165, 3) := by decide +kernel
theorem dM_parse_98 : decode prog_8_method_26_code 98 = .ok (.iconst 1, 1) := by decide +kernel
theorem dM_parse_99 : decode prog_8_method_26_code 99 = .ok (.isub, 1) := by decide +kernel
theorem dM_parse_100 : decode prog_8_method_26_code 100 = .ok (.putfield 165, 3) := by decide +kernel
theorem dM_parse_103 : decode prog_8_method_26_code 103 = .ok (.aload_n 0, 1) := by decide +kernel
theorem dM_parse_104 : decode prog_8_method_26_code 104 = .ok (.iload_n 1, 1) := by decide +kernel
theorem dM_parse_105 : decode prog_8_method_26_code 105 = .ok (.aload_n 0, 1) := by decide +kernel
theorem dM_parse_106 : decode prog_8_method_26_code 106 = .ok (.getfield 98, 3) := by decide +kernel
theorem dM_parse_109 : decode prog_8_method_26_code 109 = .ok (.aload_n 0, 1) := by decide +kernel
theorem dM_parse_110 : decode prog_8_method_26_code 110 = .ok (.getfield 165, 3) := by decide +kernel
theorem dM_parse_113 : decode prog_8_method_26_code 113 = .ok (.iaload, 1) := by decide +kernel
theorem dM_parse_114 : decode prog_8_method_26_code 114 = .ok (.aload_n 0, 1) := by decide +kernel
theorem dM_parse_115 : decode prog_8_method_26_code 115 = .ok (.getfield 101, 3) := by decide +kernel
theorem dM_parse_118 : decode prog_8_method_26_code 118 = .ok (.aload_n 0, 1) := by decide +kernel
theorem dM_parse_119 : decode prog_8_method_26_code 119 = .ok (.getfield 165, 3) := by decide +kernel
theorem dM_parse_122 : decode prog_8_method_26_code 122 = .ok (.iaload, 1) := by decide +kernel
theorem dM_parse_123 : decode prog_8_method_26_code 123 = .ok (.aload_n 0, 1) := by decide +kernel
theorem dM_parse_124 : decode prog_8_method_26_code 124 = .ok (.getfield 104, 3) := by decide +kernel
theorem dM_parse_127 : decode prog_8_method_26_code 127 = .ok (.aload_n 0, 1) := by decide +kernel
theorem dM_parse_128 : decode prog_8_method_26_code 128 = .ok (.getfield 165, 3) := by decide +kernel
theorem dM_parse_131 : decode prog_8_method_26_code 131 = .ok (.iaload, 1) := by decide +kernel
theorem dM_parse_132 : decode prog_8_method_26_code 132 = .ok (.invokevirtual 210, 3) := by decide +kernel
theorem dM_parse_135 : decode prog_8_method_26_code 135 = .ok (.iinc 2 1, 3) := by decide +kernel
theorem dM_parse_138 : decode prog_8_method_26_code 138 = .ok (.goto (-58), 3) := by decide +kernel
theorem dM_parse_141 : decode prog_8_method_26_code 141 = .ok (.aload_n 0, 1) := by decide +kernel
theorem dM_parse_142 : decode prog_8_method_26_code 142 = .ok (.iload_n 1, 1) := by decide +kernel
theorem dM_parse_143 : decode prog_8_method_26_code 143 = .ok (.invokevirtual 214, 3) := by decide +kernel
theorem dM_parse_146 : decode prog_8_method_26_code 146 = .ok (.return_, 1) := by decide +kernel
theorem dM_following_0 : decode prog_8_method_27_code 0 = .ok (.aload_n 0, 1) := by decide +kernel
theorem dM_following_1 : decode prog_8_method_27_code 1 = .ok (.getfield 83, 3) := by decide +kernel
theorem dM_following_4 : decode prog_8_method_27_code 4 = .ok (.iload_n 1, 1) := by decide +kernel
theorem dM_following_5 : decode prog_8_method_27_code 5 = .ok (.iaload, 1) := by decide +kernel
theorem dM_following_6 : decode prog_8_method_27_code 6 = .ok (.ifCond .lt 10, 3) := by decide +kernel
theorem dM_following_9 : decode prog_8_method_27_code 9 = .ok (.aload_n 0, 1) := by decide +kernel
theorem dM_following_10 : decode prog_8_method_27_code 10 = .ok (.getfield 83, 3) := by decide +kernel
theorem dM_following_13 : decode prog_8_method_27_code 13 = .ok (.iload_n 1, 1) := by decide +kernel
theorem dM_following_14 : decode prog_8_method_27_code 14 = .ok (.iaload, 1) := by decide +kernel
theorem dM_following_15 : decode prog_8_method_27_code 15 = .ok (.ireturn, 1) := by decide +kernel
theorem dM_following_16 : decode prog_8_method_27_code 16 = .ok (.iload_n 1, 1) := by decide +kernel
theorem dM_following_17 : decode prog_8_method_27_code 17 = .ok (.istore_n 2, 1) := by decide +kernel
theorem dM_following_18 : decode prog_8_method_27_code 18 = .ok (.iload_n 2, 1) := by decide +kernel
theorem dM_following_19 : decode prog_8_method_27_code 19 = .ok (.ifCond .lt 22, 3) := by decide +kernel
theorem dM_following_22 : decode prog_8_method_27_code 22 = .ok (.aload_n 0, 1) := by decide +kernel
theorem dM_following_23 : decode prog_8_method_27_code 23 = .ok (.getfield 86, 3) := by decide +kernel
theorem dM_following_26 : decode prog_8_method_27_code 26 = .ok (.iload_n 2, 1) := by decide +kernel
theorem dM_following_27 : decode prog_8_method_27_code 27 = .ok (.iaload, 1) := by decide +kernel
theorem dM_following_28 : decode prog_8_method_27_code 28 = .ok (.ifCond .ge 13, 3) := by decide +kernel
theorem dM_following_31 : decode prog_8_method_27_code 31 = .ok (.aload_n 0, 1) := by decide +kernel
theorem dM_following_32 : decode prog_8_method_27_code 32 = .ok (.getfield 89, 3) := by decide +kernel
theorem dM_following_35 : decode prog_8_method_27_code 35 = .ok (.iload_n 2, 1) := by decide +kernel
theorem dM_following_36 : decode prog_8_method_27_code 36 = .ok (.iaload, 1) := by decide +kernel
theorem dM_following_37 : decode prog_8_method_27_code 37 = .ok (.istore_n 2, 1) := by decide +kernel
theorem dM_following_38 : decode prog_8_method_27_code 38 = .ok (.goto (-20), 3) := by decide +kernel
theorem dM_following_41 : decode prog_8_method_27_code 41 = .ok (.iload_n 2, 1) := by decide +kernel
theorem dM_following_42 : decode prog_8_method_27_code 42 = .ok (.ifCond .ge 7, 3) := by decide +kernel
theorem dM_following_45 : decode prog_8_method_27_code 45 = .ok (.iconst (-1), 1) := by decide +kernel
theorem dM_following_46 : decode prog_8_method_27_code 46 = .ok (.goto 9, 3) := by decide +kernel
theorem dM_following_49 : decode prog_8_method_27_code 49 = .ok (.aload_n 0, 1) := by decide +kernel
theorem dM_following_50 : decode prog_8_method_27_code 50 = .ok (.getfield 86, 3) := by decide +kernel
theorem dM_following_53 : decode prog_8_method_27_code 53 = .ok (.iload_n 2, 1) := by decide +kernel
theorem dM_following_54 : decode prog_8_method_27_code 54 = .ok (.iaload, 1) := by decide +kernel
theorem dM_following_55 : decode prog_8_method_27_code 55 = .ok (.ireturn, 1) := by decide +kernel
