/-! decode rows -/
theorem dM_faultIn_0 : decode prog_8_method_45_code 0 = .ok (.aload_n 0, 1) := by decide +kernel
theorem dM_faultIn_1 : decode prog_8_method_45_code 1 = .ok (.getfield 35, 3) := by decide +kernel
theorem dM_faultIn_4 : decode prog_8_method_45_code 4 = .ok (.iload_n 1, 1) := by decide +kernel
theorem dM_faultIn_5 : decode prog_8_method_45_code 5 = .ok (.iaload, 1) := by decide +kernel
theorem dM_faultIn_6 : decode prog_8_method_45_code 6 = .ok (.ifCond .le 19, 3) := by decide +kernel
theorem dM_faultIn_9 : decode prog_8_method_45_code 9 = .ok (.iconst 4, 1) := by decide +kernel
theorem dM_faultIn_10 : decode prog_8_method_45_code 10 = .ok (.aload_n 0, 1) := by decide +kernel
theorem dM_faultIn_11 : decode prog_8_method_45_code 11 = .ok (.getfield 26, 3) := by decide +kernel
theorem dM_faultIn_14 : decode prog_8_method_45_code 14 = .ok (.iload_n 1, 1) := by decide +kernel
theorem dM_faultIn_15 : decode prog_8_method_45_code 15 = .ok (.iaload, 1) := by decide +kernel
theorem dM_faultIn_16 : decode prog_8_method_45_code 16 = .ok (.imul, 1) := by decide +kernel
theorem dM_faultIn_17 : decode prog_8_method_45_code 17 = .ok (.aload_n 0, 1) := by decide +kernel
theorem dM_faultIn_18 : decode prog_8_method_45_code 18 = .ok (.getfield 35, 3) := by decide +kernel
theorem dM_faultIn_21 : decode prog_8_method_45_code 21 = .ok (.iload_n 1, 1) := by decide +kernel
theorem dM_faultIn_22 : decode prog_8_method_45_code 22 = .ok (.iaload, 1) := by decide +kernel
theorem dM_faultIn_23 : decode prog_8_method_45_code 23 = .ok (.iadd, 1) := by decide +kernel
theorem dM_faultIn_24 : decode prog_8_method_45_code 24 = .ok (.ireturn, 1) := by decide +kernel
theorem dM_faultIn_25 : decode prog_8_method_45_code 25 = .ok (.iload_n 2, 1) := by decide +kernel
theorem dM_faultIn_26 : decode prog_8_method_45_code 26 = .ok (.istore_n 3, 1) := by decide +kernel
theorem dM_faultIn_27 : decode prog_8_method_45_code 27 = .ok (.aload_n 0, 1) := by decide +kernel
theorem dM_faultIn_28 : decode prog_8_method_45_code 28 = .ok (.getfield 26, 3) := by decide +kernel
theorem dM_faultIn_31 : decode prog_8_method_45_code 31 = .ok (.iload_n 1, 1) := by decide +kernel
theorem dM_faultIn_32 : decode prog_8_method_45_code 32 = .ok (.iaload, 1) := by decide +kernel
theorem dM_faultIn_33 : decode prog_8_method_45_code 33 = .ok (.istore 4, 2) := by decide +kernel
theorem dM_faultIn_35 : decode prog_8_method_45_code 35 = .ok (.iload 4, 2) := by decide +kernel
theorem dM_faultIn_37 : decode prog_8_method_45_code 37 = .ok (.aload_n 0, 1) := by decide +kernel
theorem dM_faultIn_38 : decode prog_8_method_45_code 38 = .ok (.getfield 29, 3) := by decide +kernel
theorem dM_faultIn_41 : decode prog_8_method_45_code 41 = .ok (.iload_n 1, 1) := by decide +kernel
theorem dM_faultIn_42 : decode prog_8_method_45_code 42 = .ok (.iaload, 1) := by decide +kernel
theorem dM_faultIn_43 : decode prog_8_method_45_code 43 = .ok (.if_icmp .ge 56, 3) := by decide +kernel
theorem dM_faultIn_46 : decode prog_8_method_45_code 46 = .ok (.aload_n 0, 1) := by decide +kernel
theorem dM_faultIn_47 : decode prog_8_method_45_code 47 = .ok (.getfield 17, 3) := by decide +kernel
theorem dM_faultIn_50 : decode prog_8_method_45_code 50 = .ok (.bipush 61, 2) := by decide +kernel
theorem dM_faultIn_52 : decode prog_8_method_45_code 52 = .ok (.aload_n 0, 1) := by decide +kernel
theorem dM_faultIn_53 : decode prog_8_method_45_code 53 = .ok (.getfield 230, 3) := by decide +kernel
theorem dM_faultIn_56 : decode prog_8_method_45_code 56 = .ok (.imul, 1) := by decide +kernel
theorem dM_faultIn_57 : decode prog_8_method_45_code 57 = .ok (.iload 4, 2) := by decide +kernel
theorem dM_faultIn_59 : decode prog_8_method_45_code 59 = .ok (.iadd, 1) := by decide +kernel
theorem dM_faultIn_60 : decode prog_8_method_45_code 60 = .ok (.iaload, 1) := by decide +kernel
theorem dM_faultIn_61 : decode prog_8_method_45_code 61 = .ok (.istore 5, 2) := by decide +kernel
theorem dM_faultIn_63 : decode prog_8_method_45_code 63 = .ok (.iload 5, 2) := by decide +kernel
theorem dM_faultIn_65 : decode prog_8_method_45_code 65 = .ok (.ifCond .le 15, 3) := by decide +kernel
theorem dM_faultIn_68 : decode prog_8_method_45_code 68 = .ok (.iload_n 3, 1) := by decide +kernel
theorem dM_faultIn_69 : decode prog_8_method_45_code 69 = .ok (.ifCond .ne 11, 3) := by decide +kernel
theorem dM_faultIn_72 : decode prog_8_method_45_code 72 = .ok (.iconst 4, 1) := by decide +kernel
theorem dM_faultIn_73 : decode prog_8_method_45_code 73 = .ok (.iload 4, 2) := by decide +kernel
theorem dM_faultIn_75 : decode prog_8_method_45_code 75 = .ok (.imul, 1) := by decide +kernel
theorem dM_faultIn_76 : decode prog_8_method_45_code 76 = .ok (.iload 5, 2) := by decide +kernel
theorem dM_faultIn_78 : decode prog_8_method_45_code 78 = .ok (.iadd, 1) := by decide +kernel
theorem dM_faultIn_79 : decode prog_8_method_45_code 79 = .ok (.ireturn, 1) := by decide +kernel
theorem dM_faultIn_80 : decode prog_8_method_45_code 80 = .ok (.iload 5, 2) := by decide +kernel
theorem dM_faultIn_82 : decode prog_8_method_45_code 82 = .ok (.ifCond .le 9, 3) := by decide +kernel
theorem dM_faultIn_85 : decode prog_8_method_45_code 85 = .ok (.iload_n 3, 1) := by decide +kernel
theorem dM_faultIn_86 : decode prog_8_method_45_code 86 = .ok (.iconst 1, 1) := by decide +kernel
theorem dM_faultIn_87 : decode prog_8_method_45_code 87 = .ok (.isub, 1) := by decide +kernel
theorem dM_faultIn_88 : decode prog_8_method_45_code 88 = .ok (.goto 4, 3) := by decide +kernel
theorem dM_faultIn_91 : decode prog_8_method_45_code 91 = .ok (.iload_n 3, 1) := by decide +kernel
theorem dM_faultIn_92 : decode prog_8_method_45_code 92 = .ok (.istore_n 3, 1) := by decide +kernel
theorem dM_faultIn_93 : decode prog_8_method_45_code 93 = .ok (.iinc 4 1, 3) := by decide +kernel
theorem dM_faultIn_96 : decode prog_8_method_45_code 96 = .ok (.goto (-61), 3) := by decide +kernel
theorem dM_faultIn_99 : decode prog_8_method_45_code 99 = .ok (.iconst (-1), 1) := by decide +kernel
theorem dM_faultIn_100 : decode prog_8_method_45_code 100 = .ok (.ireturn, 1) := by decide +kernel
theorem dM_different_0 : decode prog_8_method_46_code 0 = .ok (.iconst 0, 1) := by decide +kernel
theorem dM_different_1 : decode prog_8_method_46_code 1 = .ok (.istore_n 1, 1) := by decide +kernel
theorem dM_different_2 : decode prog_8_method_46_code 2 = .ok (.iconst 0, 1) := by decide +kernel
theorem dM_different_3 : decode prog_8_method_46_code 3 = .ok (.istore_n 2, 1) := by decide +kernel
theorem dM_different_4 : decode prog_8_method_46_code 4 = .ok (.iload_n 2, 1) := by decide +kernel
theorem dM_different_5 : decode prog_8_method_46_code 5 = .ok (.aload_n 0, 1) := by decide +kernel
theorem dM_different_6 : decode prog_8_method_46_code 6 = .ok (.getfield 20, 3) := by decide +kernel
theorem dM_different_9 : decode prog_8_method_46_code 9 = .ok (.aload_n 0, 1) := by decide +kernel
theorem dM_different_10 : decode prog_8_method_46_code 10 = .ok (.getfield 230, 3) := by decide +kernel
theorem dM_different_13 : decode prog_8_method_46_code 13 = .ok (.iaload, 1) := by decide +kernel
theorem dM_different_14 : decode prog_8_method_46_code 14 = .ok (.if_icmp .ge 66, 3) := by decide +kernel
theorem dM_different_17 : decode prog_8_method_46_code 17 = .ok (.iconst 1, 1) := by decide +kernel
theorem dM_different_18 : decode prog_8_method_46_code 18 = .ok (.istore_n 3, 1) := by decide +kernel
theorem dM_different_19 : decode prog_8_method_46_code 19 = .ok (.iconst 0, 1) := by decide +kernel
theorem dM_different_20 : decode prog_8_method_46_code 20 = .ok (.istore 4, 2) := by decide +kernel
theorem dM_different_22 : decode prog_8_method_46_code 22 = .ok (.iload 4, 2) := by decide +kernel
theorem dM_different_24 : decode prog_8_method_46_code 24 = .ok (.iload_n 2, 1) := by decide +kernel
theorem dM_different_25 : decode prog_8_method_46_code 25 = .ok (.if_icmp .ge 37, 3) := by decide +kernel
theorem dM_different_28 : decode prog_8_method_46_code 28 = .ok (.iload_n 3, 1) := by decide +kernel
theorem dM_different_29 : decode prog_8_method_46_code 29 = .ok (.ifCond .eq 33, 3) := by decide +kernel
theorem dM_different_32 : decode prog_8_method_46_code 32 = .ok (.aload_n 0, 1) := by decide +kernel
theorem dM_different_33 : decode prog_8_method_46_code 33 = .ok (.aload_n 0, 1) := by decide +kernel
theorem dM_different_34 : decode prog_8_method_46_code 34 = .ok (.getfield 230, 3) := by decide +kernel
theorem dM_different_37 : decode prog_8_method_46_code 37 = .ok (.iload_n 2, 1) := by decide +kernel
theorem dM_different_38 : decode prog_8_method_46_code 38 = .ok (.aload_n 0, 1) := by decide +kernel
theorem dM_different_39 : decode prog_8_method_46_code 39 = .ok (.getfield 230, 3) := by decide +kernel
theorem dM_different_42 : decode prog_8_method_46_code 42 = .ok (.iload 4, 2) := by decide +kernel
theorem dM_different_44 : decode prog_8_method_46_code 44 = .ok (.invokevirtual 233, 3) := by decide +kernel
theorem dM_different_47 : decode prog_8_method_46_code 47 = .ok (.ifCond .ne 7, 3) := by decide +kernel
theorem dM_different_50 : decode prog_8_method_46_code 50 = .ok (.iconst 1, 1) := by decide +kernel
theorem dM_different_51 : decode prog_8_method_46_code 51 = .ok (.goto 4, 3) := by decide +kernel
theorem dM_different_54 : decode prog_8_method_46_code 54 = .ok (.iconst 0, 1) := by decide +kernel
theorem dM_different_55 : decode prog_8_method_46_code 55 = .ok (.istore_n 3, 1) := by decide +kernel
theorem dM_different_56 : decode prog_8_method_46_code 56 = .ok (.iinc 4 1, 3) := by decide +kernel
theorem dM_different_59 : decode prog_8_method_46_code 59 = .ok (.goto (-37), 3) := by decide +kernel
theorem dM_different_62 : decode prog_8_method_46_code 62 = .ok (.iload_n 3, 1) := by decide +kernel
theorem dM_different_63 : decode prog_8_method_46_code 63 = .ok (.ifCond .eq 9, 3) := by decide +kernel
theorem dM_different_66 : decode prog_8_method_46_code 66 = .ok (.iload_n 1, 1) := by decide +kernel
theorem dM_different_67 : decode prog_8_method_46_code 67 = .ok (.iconst 1, 1) := by decide +kernel
theorem dM_different_68 : decode prog_8_method_46_code 68 = .ok (.iadd, 1) := by decide +kernel
theorem dM_different_69 : decode prog_8_method_46_code 69 = .ok (.goto 4, 3) := by decide +kernel
theorem dM_different_72 : decode prog_8_method_46_code 72 = .ok (.iload_n 1, 1) := by decide +kernel
theorem dM_different_73 : decode prog_8_method_46_code 73 = .ok (.istore_n 1, 1) := by decide +kernel
theorem dM_different_74 : decode prog_8_method_46_code 74 = .ok (.iinc 2 1, 3) := by decide +kernel
theorem dM_different_77 : decode prog_8_method_46_code 77 = .ok (.goto (-73), 3) := by decide +kernel
theorem dM_different_80 : decode prog_8_method_46_code 80 = .ok (.iload_n 1, 1) := by decide +kernel
theorem dM_different_81 : decode prog_8_method_46_code 81 = .ok (.ireturn, 1) := by decide +kernel
theorem dM_leaves_0 : decode prog_8_method_47_code 0 = .ok (.iconst 0, 1) := by decide +kernel
theorem dM_leaves_1 : decode prog_8_method_47_code 1 = .ok (.istore_n 1, 1) := by decide +kernel
theorem dM_leaves_2 : decode prog_8_method_47_code 2 = .ok (.iconst 0, 1) := by decide +kernel
theorem dM_leaves_3 : decode prog_8_method_47_code 3 = .ok (.istore_n 2, 1) := by decide +kernel
theorem dM_leaves_4 : decode prog_8_method_47_code 4 = .ok (.iload_n 2, 1) := by decide +kernel
theorem dM_leaves_5 : decode prog_8_method_47_code 5 = .ok (.aload_n 0, 1) := by decide +kernel
theorem dM_leaves_6 : decode prog_8_method_47_code 6 = .ok (.getfield 20, 3) := by decide +kernel
theorem dM_leaves_9 : decode prog_8_method_47_code 9 = .ok (.aload_n 0, 1) := by decide +kernel
theorem dM_leaves_10 : decode prog_8_method_47_code 10 = .ok (.getfield 230, 3) := by decide +kernel
theorem dM_leaves_13 : decode prog_8_method_47_code 13 = .ok (.iaload, 1) := by decide +kernel
theorem dM_leaves_14 : decode prog_8_method_47_code 14 = .ok (.if_icmp .ge 35, 3) := by decide +kernel
theorem dM_leaves_17 : decode prog_8_method_47_code 17 = .ok (.iload_n 1, 1) := by decide +kernel
theorem dM_leaves_18 : decode prog_8_method_47_code 18 = .ok (.aload_n 0, 1) := by decide +kernel
theorem dM_leaves_19 : decode prog_8_method_47_code 19 = .ok (.getfield 38, 3) := by decide +kernel
theorem dM_leaves_22 : decode prog_8_method_47_code 22 = .ok (.sipush 400, 3) := by decide +kernel
theorem dM_leaves_25 : decode prog_8_method_47_code 25 = .ok (.aload_n 0, 1) := by decide +kernel
theorem dM_leaves_26 : decode prog_8_method_47_code 26 = .ok (.getfield 230, 3) := by decide +kernel
theorem dM_leaves_29 : decode prog_8_method_47_code 29 = .ok (.imul, 1) := by decide +kernel
theorem dM_leaves_30 : decode prog_8_method_47_code 30 = .ok (.iload_n 2, 1) := by decide +kernel
theorem dM_leaves_31 : decode prog_8_method_47_code 31 = .ok (.iadd, 1) := by decide +kernel
theorem dM_leaves_32 : decode prog_8_method_47_code 32 = .ok (.iaload, 1) := by decide +kernel
theorem dM_leaves_33 : decode prog_8_method_47_code 33 = .ok (.ifCond .ne 7, 3) := by decide +kernel
theorem dM_leaves_36 : decode prog_8_method_47_code 36 = .ok (.iconst 1, 1) := by decide +kernel
theorem dM_leaves_37 : decode prog_8_method_47_code 37 = .ok (.goto 4, 3) := by decide +kernel
theorem dM_leaves_40 : decode prog_8_method_47_code 40 = .ok (.iconst 0, 1) := by decide +kernel
theorem dM_leaves_41 : decode prog_8_method_47_code 41 = .ok (.iadd, 1) := by decide +kernel
theorem dM_leaves_42 : decode prog_8_method_47_code 42 = .ok (.istore_n 1, 1) := by decide +kernel
theorem dM_leaves_43 : decode prog_8_method_47_code 43 = .ok (.iinc 2 1, 3) := by decide +kernel
theorem dM_leaves_46 : decode prog_8_method_47_code 46 = .ok (.goto (-42), 3) := by decide +kernel
theorem dM_leaves_49 : decode prog_8_method_47_code 49 = .ok (.iload_n 1, 1) := by decide +kernel
theorem dM_leaves_50 : decode prog_8_method_47_code 50 = .ok (.ireturn, 1) := by decide +kernel
theorem dM_count_0 : decode prog_8_method_48_code 0 = .ok (.iload_n 1, 1) := by decide +kernel
theorem dM_count_1 : decode prog_8_method_48_code 1 = .ok (.tableswitch 95 0 7 #[47, 57, 62, 70, 75, 80, 85, 90], 47) := by decide +kernel
theorem dM_count_48 : decode prog_8_method_48_code 48 = .ok (.aload_n 0, 1) := by decide +kernel
theorem dM_count_49 : decode prog_8_method_48_code 49 = .ok (.getfield 20, 3) := by decide +kernel
theorem dM_count_52 : decode prog_8_method_48_code 52 = .ok (.aload_n 0, 1) := by decide +kernel
theorem dM_count_53 : decode prog_8_method_48_code 53 = .ok (.getfield 230, 3) := by decide +kernel
theorem dM_count_56 : decode prog_8_method_48_code 56 = .ok (.iaload, 1) := by decide +kernel
theorem dM_count_57 : decode prog_8_method_48_code 57 = .ok (.ireturn, 1) := by decide +kernel
theorem dM_count_58 : decode prog_8_method_48_code 58 = .ok (.aload_n 0, 1) := by decide +kernel
theorem dM_count_59 : decode prog_8_method_48_code 59 = .ok (.invokevirtual 258, 3) := by decide +kernel
theorem dM_count_62 : decode prog_8_method_48_code 62 = .ok (.ireturn, 1) := by decide +kernel
theorem dM_count_63 : decode prog_8_method_48_code 63 = .ok (.aload_n 0, 1) := by decide +kernel
theorem dM_count_64 : decode prog_8_method_48_code 64 = .ok (.iconst 0, 1) := by decide +kernel
theorem dM_count_65 : decode prog_8_method_48_code 65 = .ok (.bipush 7, 2) := by decide +kernel
theorem dM_count_67 : decode prog_8_method_48_code 67 = .ok (.invokevirtual 261, 3) := by decide +kernel
theorem dM_count_70 : decode prog_8_method_48_code 70 = .ok (.ireturn, 1) := by decide +kernel
theorem dM_count_71 : decode prog_8_method_48_code 71 = .ok (.aload_n 0, 1) := by decide +kernel
theorem dM_count_72 : decode prog_8_method_48_code 72 = .ok (.invokevirtual 264, 3) := by decide +kernel
theorem dM_count_75 : decode prog_8_method_48_code 75 = .ok (.ireturn, 1) := by decide +kernel
theorem dM_count_76 : decode prog_8_method_48_code 76 = .ok (.aload_n 0, 1) := by decide +kernel
theorem dM_count_77 : decode prog_8_method_48_code 77 = .ok (.getfield 239, 3) := by decide +kernel
theorem dM_count_80 : decode prog_8_method_48_code 80 = .ok (.ireturn, 1) := by decide +kernel
theorem dM_count_81 : decode prog_8_method_48_code 81 = .ok (.aload_n 0, 1) := by decide +kernel
theorem dM_count_82 : decode prog_8_method_48_code 82 = .ok (.getfield 227, 3) := by decide +kernel
theorem dM_count_85 : decode prog_8_method_48_code 85 = .ok (.ireturn, 1) := by decide +kernel
theorem dM_count_86 : decode prog_8_method_48_code 86 = .ok (.aload_n 0, 1) := by decide +kernel
theorem dM_count_87 : decode prog_8_method_48_code 87 = .ok (.getfield 242, 3) := by decide +kernel
theorem dM_count_90 : decode prog_8_method_48_code 90 = .ok (.ireturn, 1) := by decide +kernel
theorem dM_count_91 : decode prog_8_method_48_code 91 = .ok (.aload_n 0, 1) := by decide +kernel
theorem dM_count_92 : decode prog_8_method_48_code 92 = .ok (.getfield 224, 3) := by decide +kernel
theorem dM_count_95 : decode prog_8_method_48_code 95 = .ok (.ireturn, 1) := by decide +kernel
theorem dM_count_96 : decode prog_8_method_48_code 96 = .ok (.iconst (-1), 1) := by decide +kernel
theorem dM_count_97 : decode prog_8_method_48_code 97 = .ok (.ireturn, 1) := by decide +kernel
theorem dH_init_0 : decode prog_2_method_1_code 0 = .ok (.aload_n 0, 1) := by decide +kernel
theorem dH_init_1 : decode prog_2_method_1_code 1 = .ok (.invokespecial 3, 3) := by decide +kernel
theorem dH_init_4 : decode prog_2_method_1_code 4 = .ok (.aload_n 0, 1) := by decide +kernel
theorem dH_init_5 : decode prog_2_method_1_code 5 = .ok (.iconst 3, 1) := by decide +kernel
theorem dH_init_6 : decode prog_2_method_1_code 6 = .ok (.anewarray 9, 3) := by decide +kernel
theorem dH_init_9 : decode prog_2_method_1_code 9 = .ok (.putfield 11, 3) := by decide +kernel
theorem dH_init_12 : decode prog_2_method_1_code 12 = .ok (.iconst 0, 1) := by decide +kernel
theorem dH_init_13 : decode prog_2_method_1_code 13 = .ok (.istore_n 1, 1) := by decide +kernel
theorem dH_init_14 : decode prog_2_method_1_code 14 = .ok (.iload_n 1, 1) := by decide +kernel
theorem dH_init_15 : decode prog_2_method_1_code 15 = .ok (.iconst 3, 1) := by decide +kernel
theorem dH_init_16 : decode prog_2_method_1_code 16 = .ok (.if_icmp .ge 24, 3) := by decide +kernel
theorem dH_init_19 : decode prog_2_method_1_code 19 = .ok (.aload_n 0, 1) := by decide +kernel
theorem dH_init_20 : decode prog_2_method_1_code 20 = .ok (.getfield 11, 3) := by decide +kernel
theorem dH_init_23 : decode prog_2_method_1_code 23 = .ok (.iload_n 1, 1) := by decide +kernel
theorem dH_init_24 : decode prog_2_method_1_code 24 = .ok (.new 9, 3) := by decide +kernel
theorem dH_init_27 : decode prog_2_method_1_code 27 = .ok (.dup, 1) := by decide +kernel
theorem dH_init_28 : decode prog_2_method_1_code 28 = .ok (.bipush 60, 2) := by decide +kernel
theorem dH_init_30 : decode prog_2_method_1_code 30 = .ok (.invokespecial 17, 3) := by decide +kernel
theorem dH_init_33 : decode prog_2_method_1_code 33 = .ok (.aastore, 1) := by decide +kernel
theorem dH_init_34 : decode prog_2_method_1_code 34 = .ok (.iinc 1 1, 3) := by decide +kernel
theorem dH_init_37 : decode prog_2_method_1_code 37 = .ok (.goto (-23), 3) := by decide +kernel
theorem dH_init_40 : decode prog_2_method_1_code 40 = .ok (.aload_n 0, 1) := by decide +kernel
theorem dH_init_41 : decode prog_2_method_1_code 41 = .ok (.iconst 0, 1) := by decide +kernel
theorem dH_init_42 : decode prog_2_method_1_code 42 = .ok (.putfield 20, 3) := by decide +kernel
theorem dH_init_45 : decode prog_2_method_1_code 45 = .ok (.return_, 1) := by decide +kernel
theorem dH_store_0 : decode prog_2_method_2_code 0 = .ok (.aload_n 0, 1) := by decide +kernel
theorem dH_store_1 : decode prog_2_method_2_code 1 = .ok (.getfield 20, 3) := by decide +kernel
theorem dH_store_4 : decode prog_2_method_2_code 4 = .ok (.iconst 3, 1) := by decide +kernel
theorem dH_store_5 : decode prog_2_method_2_code 5 = .ok (.if_icmp .lt 7, 3) := by decide +kernel
theorem dH_store_8 : decode prog_2_method_2_code 8 = .ok (.aload_n 0, 1) := by decide +kernel
theorem dH_store_9 : decode prog_2_method_2_code 9 = .ok (.invokevirtual 24, 3) := by decide +kernel
theorem dH_store_12 : decode prog_2_method_2_code 12 = .ok (.aload_n 0, 1) := by decide +kernel
theorem dH_store_13 : decode prog_2_method_2_code 13 = .ok (.getfield 11, 3) := by decide +kernel
theorem dH_store_16 : decode prog_2_method_2_code 16 = .ok (.aload_n 0, 1) := by decide +kernel
theorem dH_store_17 : decode prog_2_method_2_code 17 = .ok (.getfield 20, 3) := by decide +kernel
theorem dH_store_20 : decode prog_2_method_2_code 20 = .ok (.aaload, 1) := by decide +kernel
theorem dH_store_21 : decode prog_2_method_2_code 21 = .ok (.aload_n 1, 1) := by decide +kernel
theorem dH_store_22 : decode prog_2_method_2_code 22 = .ok (.invokevirtual 27, 3) := by decide +kernel
theorem dH_store_25 : decode prog_2_method_2_code 25 = .ok (.aload_n 0, 1) := by decide +kernel
theorem dH_store_26 : decode prog_2_method_2_code 26 = .ok (.dup, 1) := by decide +kernel
theorem dH_store_27 : decode prog_2_method_2_code 27 = .ok (.getfield 20, 3) := by decide +kernel
theorem dH_store_30 : decode prog_2_method_2_code 30 = .ok (.iconst 1, 1) := by decide +kernel
theorem dH_store_31 : decode prog_2_method_2_code 31 = .ok (.iadd, 1) := by decide +kernel
theorem dH_store_32 : decode prog_2_method_2_code 32 = .ok (.putfield 20, 3) := by decide +kernel
theorem dH_store_35 : decode prog_2_method_2_code 35 = .ok (.return_, 1) := by decide +kernel
theorem dH_takeLast_0 : decode prog_2_method_3_code 0 = .ok (.aload_n 0, 1) := by decide +kernel
theorem dH_takeLast_1 : decode prog_2_method_3_code 1 = .ok (.getfield 20, 3) := by decide +kernel
theorem dH_takeLast_4 : decode prog_2_method_3_code 4 = .ok (.ifCond .gt 5, 3) := by decide +kernel
theorem dH_takeLast_7 : decode prog_2_method_3_code 7 = .ok (.iconst 0, 1) := by decide +kernel
theorem dH_takeLast_8 : decode prog_2_method_3_code 8 = .ok (.ireturn, 1) := by decide +kernel
theorem dH_takeLast_9 : decode prog_2_method_3_code 9 = .ok (.aload_n 0, 1) := by decide +kernel
theorem dH_takeLast_10 : decode prog_2_method_3_code 10 = .ok (.dup, 1) := by decide +kernel
theorem dH_takeLast_11 : decode prog_2_method_3_code 11 = .ok (.getfield 20, 3) := by decide +kernel
theorem dH_takeLast_14 : decode prog_2_method_3_code 14 = .ok (.iconst 1, 1) := by decide +kernel
theorem dH_takeLast_15 : decode prog_2_method_3_code 15 = .ok (.isub, 1) := by decide +kernel
theorem dH_takeLast_16 : decode prog_2_method_3_code 16 = .ok (.putfield 20, 3) := by decide +kernel
theorem dH_takeLast_19 : decode prog_2_method_3_code 19 = .ok (.aload_n 1, 1) := by decide +kernel
theorem dH_takeLast_20 : decode prog_2_method_3_code 20 = .ok (.aload_n 0, 1) := by decide +kernel
theorem dH_takeLast_21 : decode prog_2_method_3_code 21 = .ok (.getfield 11, 3) := by decide +kernel
theorem dH_takeLast_24 : decode prog_2_method_3_code 24 = .ok (.aload_n 0, 1) := by decide +kernel
theorem dH_takeLast_25 : decode prog_2_method_3_code 25 = .ok (.getfield 20, 3) := by decide +kernel
theorem dH_takeLast_28 : decode prog_2_method_3_code 28 = .ok (.aaload, 1) := by decide +kernel
theorem dH_takeLast_29 : decode prog_2_method_3_code 29 = .ok (.invokevirtual 27, 3) := by decide +kernel
theorem dH_takeLast_32 : decode prog_2_method_3_code 32 = .ok (.iconst 1, 1) := by decide +kernel
theorem dH_takeLast_33 : decode prog_2_method_3_code 33 = .ok (.ireturn, 1) := by decide +kernel
theorem dH_giveUpFirst_0 : decode prog_2_method_4_code 0 = .ok (.aload_n 0, 1) := by decide +kernel
theorem dH_giveUpFirst_1 : decode prog_2_method_4_code 1 = .ok (.getfield 11, 3) := by decide +kernel
theorem dH_giveUpFirst_4 : decode prog_2_method_4_code 4 = .ok (.iconst 0, 1) := by decide +kernel
theorem dH_giveUpFirst_5 : decode prog_2_method_4_code 5 = .ok (.aaload, 1) := by decide +kernel
theorem dH_giveUpFirst_6 : decode prog_2_method_4_code 6 = .ok (.astore_n 1, 1) := by decide +kernel
theorem dH_giveUpFirst_7 : decode prog_2_method_4_code 7 = .ok (.iconst 1, 1) := by decide +kernel
theorem dH_giveUpFirst_8 : decode prog_2_method_4_code 8 = .ok (.istore_n 2, 1) := by decide +kernel
theorem dH_giveUpFirst_9 : decode prog_2_method_4_code 9 = .ok (.iload_n 2, 1) := by decide +kernel
theorem dH_giveUpFirst_10 : decode prog_2_method_4_code 10 = .ok (.iconst 3, 1) := by decide +kernel
theorem dH_giveUpFirst_11 : decode prog_2_method_4_code 11 = .ok (.if_icmp .ge 23, 3) := by decide +kernel
theorem dH_giveUpFirst_14 : decode prog_2_method_4_code 14 = .ok (.aload_n 0, 1) := by decide +kernel
theorem dH_giveUpFirst_15 : decode prog_2_method_4_code 15 = .ok (.getfield 11, 3) := by decide +kernel
theorem dH_giveUpFirst_18 : decode prog_2_method_4_code 18 = .ok (.iload_n 2, 1) := by decide +kernel
theorem dH_giveUpFirst_19 : decode prog_2_method_4_code 19 = .ok (.iconst 1, 1) := by decide +kernel
theorem dH_giveUpFirst_20 : decode prog_2_method_4_code 20 = .ok (.isub, 1) := by decide +kernel
theorem dH_giveUpFirst_21 : decode prog_2_method_4_code 21 = .ok (.aload_n 0, 1) := by decide +kernel
theorem dH_giveUpFirst_22 : decode prog_2_method_4_code 22 = .ok (.getfield 11, 3) := by decide +kernel
theorem dH_giveUpFirst_25 : decode prog_2_method_4_code 25 = .ok (.iload_n 2, 1) := by decide +kernel
theorem dH_giveUpFirst_26 : decode prog_2_method_4_code 26 = .ok (.aaload, 1) := by decide +kernel
theorem dH_giveUpFirst_27 : decode prog_2_method_4_code 27 = .ok (.aastore, 1) := by decide +kernel
theorem dH_giveUpFirst_28 : decode prog_2_method_4_code 28 = .ok (.iinc 2 1, 3) := by decide +kernel
theorem dH_giveUpFirst_31 : decode prog_2_method_4_code 31 = .ok (.goto (-22), 3) := by decide +kernel
theorem dH_giveUpFirst_34 : decode prog_2_method_4_code 34 = .ok (.aload_n 0, 1) := by decide +kernel
theorem dH_giveUpFirst_35 : decode prog_2_method_4_code 35 = .ok (.getfield 11, 3) := by decide +kernel
theorem dH_giveUpFirst_38 : decode prog_2_method_4_code 38 = .ok (.iconst 2, 1) := by decide +kernel
theorem dH_giveUpFirst_39 : decode prog_2_method_4_code 39 = .ok (.aload_n 1, 1) := by decide +kernel
theorem dH_giveUpFirst_40 : decode prog_2_method_4_code 40 = .ok (.aastore, 1) := by decide +kernel
theorem dH_giveUpFirst_41 : decode prog_2_method_4_code 41 = .ok (.aload_n 0, 1) := by decide +kernel
theorem dH_giveUpFirst_42 : decode prog_2_method_4_code 42 = .ok (.iconst 2, 1) := by decide +kernel
theorem dH_giveUpFirst_43 : decode prog_2_method_4_code 43 = .ok (.putfield 20, 3) := by decide +kernel
theorem dH_giveUpFirst_46 : decode prog_2_method_4_code 46 = .ok (.return_, 1) := by decide +kernel
theorem dL_init_0 : decode prog_3_method_1_code 0 = .ok (.aload_n 0, 1) := by decide +kernel
theorem dL_init_1 : decode prog_3_method_1_code 1 = .ok (.invokespecial 1, 3) := by decide +kernel
theorem dL_init_4 : decode prog_3_method_1_code 4 = .ok (.aload_n 0, 1) := by decide +kernel
theorem dL_init_5 : decode prog_3_method_1_code 5 = .ok (.iload_n 1, 1) := by decide +kernel
theorem dL_init_6 : decode prog_3_method_1_code 6 = .ok (.newarray .int, 2) := by decide +kernel
theorem dL_init_8 : decode prog_3_method_1_code 8 = .ok (.putfield 7, 3) := by decide +kernel
theorem dL_init_11 : decode prog_3_method_1_code 11 = .ok (.aload_n 0, 1) := by decide +kernel
theorem dL_init_12 : decode prog_3_method_1_code 12 = .ok (.iconst 0, 1) := by decide +kernel
theorem dL_init_13 : decode prog_3_method_1_code 13 = .ok (.putfield 13, 3) := by decide +kernel
theorem dL_init_16 : decode prog_3_method_1_code 16 = .ok (.return_, 1) := by decide +kernel
theorem dL_at_0 : decode prog_3_method_2_code 0 = .ok (.iload_n 1, 1) := by decide +kernel
theorem dL_at_1 : decode prog_3_method_2_code 1 = .ok (.ifCond .lt 20, 3) := by decide +kernel
theorem dL_at_4 : decode prog_3_method_2_code 4 = .ok (.iload_n 1, 1) := by decide +kernel
theorem dL_at_5 : decode prog_3_method_2_code 5 = .ok (.aload_n 0, 1) := by decide +kernel
theorem dL_at_6 : decode prog_3_method_2_code 6 = .ok (.getfield 13, 3) := by decide +kernel
theorem dL_at_9 : decode prog_3_method_2_code 9 = .ok (.if_icmp .ge 12, 3) := by decide +kernel
theorem dL_at_12 : decode prog_3_method_2_code 12 = .ok (.aload_n 0, 1) := by decide +kernel
theorem dL_at_13 : decode prog_3_method_2_code 13 = .ok (.getfield 7, 3) := by decide +kernel
theorem dL_at_16 : decode prog_3_method_2_code 16 = .ok (.iload_n 1, 1) := by decide +kernel
theorem dL_at_17 : decode prog_3_method_2_code 17 = .ok (.iaload, 1) := by decide +kernel
theorem dL_at_18 : decode prog_3_method_2_code 18 = .ok (.goto 4, 3) := by decide +kernel
theorem dL_at_21 : decode prog_3_method_2_code 21 = .ok (.iconst 0, 1) := by decide +kernel
theorem dL_at_22 : decode prog_3_method_2_code 22 = .ok (.ireturn, 1) := by decide +kernel
theorem dL_append_0 : decode prog_3_method_3_code 0 = .ok (.aload_n 0, 1) := by decide +kernel
theorem dL_append_1 : decode prog_3_method_3_code 1 = .ok (.getfield 13, 3) := by decide +kernel
theorem dL_append_4 : decode prog_3_method_3_code 4 = .ok (.aload_n 0, 1) := by decide +kernel
theorem dL_append_5 : decode prog_3_method_3_code 5 = .ok (.getfield 7, 3) := by decide +kernel
theorem dL_append_8 : decode prog_3_method_3_code 8 = .ok (.arraylength, 1) := by decide +kernel
theorem dL_append_9 : decode prog_3_method_3_code 9 = .ok (.if_icmp .lt 5, 3) := by decide +kernel
theorem dL_append_12 : decode prog_3_method_3_code 12 = .ok (.iconst 0, 1) := by decide +kernel
theorem dL_append_13 : decode prog_3_method_3_code 13 = .ok (.ireturn, 1) := by decide +kernel
theorem dL_append_14 : decode prog_3_method_3_code 14 = .ok (.aload_n 0, 1) := by decide +kernel
theorem dL_append_15 : decode prog_3_method_3_code 15 = .ok (.getfield 7, 3) := by decide +kernel
theorem dL_append_18 : decode prog_3_method_3_code 18 = .ok (.aload_n 0, 1) := by decide +kernel
theorem dL_append_19 : decode prog_3_method_3_code 19 = .ok (.getfield 13, 3) := by decide +kernel
theorem dL_append_22 : decode prog_3_method_3_code 22 = .ok (.iload_n 1, 1) := by decide +kernel
theorem dL_append_23 : decode prog_3_method_3_code 23 = .ok (.iastore, 1) := by decide +kernel
theorem dL_append_24 : decode prog_3_method_3_code 24 = .ok (.aload_n 0, 1) := by decide +kernel
theorem dL_append_25 : decode prog_3_method_3_code 25 = .ok (.dup, 1) := by decide +kernel
theorem dL_append_26 : decode prog_3_method_3_code 26 = .ok (.getfield 13, 3) := by decide +kernel
theorem dL_append_29 : decode prog_3_method_3_code 29 = .ok (.iconst 1, 1) := by decide +kernel
theorem dL_append_30 : decode prog_3_method_3_code 30 = .ok (.iadd, 1) := by decide +kernel
theorem dL_append_31 : decode prog_3_method_3_code 31 = .ok (.putfield 13, 3) := by decide +kernel
theorem dL_append_34 : decode prog_3_method_3_code 34 = .ok (.iconst 1, 1) := by decide +kernel
theorem dL_append_35 : decode prog_3_method_3_code 35 = .ok (.ireturn, 1) := by decide +kernel
theorem dL_clear_0 : decode prog_3_method_4_code 0 = .ok (.aload_n 0, 1) := by decide +kernel
theorem dL_clear_1 : decode prog_3_method_4_code 1 = .ok (.iconst 0, 1) := by decide +kernel
theorem dL_clear_2 : decode prog_3_method_4_code 2 = .ok (.putfield 13, 3) := by decide +kernel
theorem dL_clear_5 : decode prog_3_method_4_code 5 = .ok (.return_, 1) := by decide +kernel
theorem dL_copy_0 : decode prog_3_method_5_code 0 = .ok (.aload_n 0, 1) := by decide +kernel
theorem dL_copy_1 : decode prog_3_method_5_code 1 = .ok (.invokevirtual 17, 3) := by decide +kernel
theorem dL_copy_4 : decode prog_3_method_5_code 4 = .ok (.aload_n 0, 1) := by decide +kernel
theorem dL_copy_5 : decode prog_3_method_5_code 5 = .ok (.aload_n 1, 1) := by decide +kernel
theorem dL_copy_6 : decode prog_3_method_5_code 6 = .ok (.iconst 0, 1) := by decide +kernel
theorem dL_copy_7 : decode prog_3_method_5_code 7 = .ok (.aload_n 1, 1) := by decide +kernel
theorem dL_copy_8 : decode prog_3_method_5_code 8 = .ok (.getfield 13, 3) := by decide +kernel
theorem dL_copy_11 : decode prog_3_method_5_code 11 = .ok (.invokevirtual 20, 3) := by decide +kernel
theorem dL_copy_14 : decode prog_3_method_5_code 14 = .ok (.return_, 1) := by decide +kernel
theorem dL_splice_0 : decode prog_3_method_6_code 0 = .ok (.aload_n 0, 1) := by decide +kernel
theorem dL_splice_1 : decode prog_3_method_6_code 1 = .ok (.invokevirtual 17, 3) := by decide +kernel
theorem dL_splice_4 : decode prog_3_method_6_code 4 = .ok (.aload_n 0, 1) := by decide +kernel
theorem dL_splice_5 : decode prog_3_method_6_code 5 = .ok (.aload_n 1, 1) := by decide +kernel
theorem dL_splice_6 : decode prog_3_method_6_code 6 = .ok (.iconst 0, 1) := by decide +kernel
theorem dL_splice_7 : decode prog_3_method_6_code 7 = .ok (.iload_n 2, 1) := by decide +kernel
theorem dL_splice_8 : decode prog_3_method_6_code 8 = .ok (.invokevirtual 20, 3) := by decide +kernel
theorem dL_splice_11 : decode prog_3_method_6_code 11 = .ok (.aload_n 0, 1) := by decide +kernel
theorem dL_splice_12 : decode prog_3_method_6_code 12 = .ok (.aload 4, 2) := by decide +kernel
theorem dL_splice_14 : decode prog_3_method_6_code 14 = .ok (.iconst 0, 1) := by decide +kernel
theorem dL_splice_15 : decode prog_3_method_6_code 15 = .ok (.aload 4, 2) := by decide +kernel
theorem dL_splice_17 : decode prog_3_method_6_code 17 = .ok (.getfield 13, 3) := by decide +kernel
theorem dL_splice_20 : decode prog_3_method_6_code 20 = .ok (.invokevirtual 20, 3) := by decide +kernel
theorem dL_splice_23 : decode prog_3_method_6_code 23 = .ok (.aload_n 0, 1) := by decide +kernel
theorem dL_splice_24 : decode prog_3_method_6_code 24 = .ok (.aload_n 1, 1) := by decide +kernel
theorem dL_splice_25 : decode prog_3_method_6_code 25 = .ok (.iload_n 2, 1) := by decide +kernel
theorem dL_splice_26 : decode prog_3_method_6_code 26 = .ok (.iload_n 3, 1) := by decide +kernel
theorem dL_splice_27 : decode prog_3_method_6_code 27 = .ok (.iadd, 1) := by decide +kernel
theorem dL_splice_28 : decode prog_3_method_6_code 28 = .ok (.aload_n 1, 1) := by decide +kernel
theorem dL_splice_29 : decode prog_3_method_6_code 29 = .ok (.getfield 13, 3) := by decide +kernel
theorem dL_splice_32 : decode prog_3_method_6_code 32 = .ok (.invokevirtual 20, 3) := by decide +kernel
theorem dL_splice_35 : decode prog_3_method_6_code 35 = .ok (.return_, 1) := by decide +kernel
theorem dL_appendPart_0 : decode prog_3_method_7_code 0 = .ok (.iload_n 2, 1) := by decide +kernel
theorem dL_appendPart_1 : decode prog_3_method_7_code 1 = .ok (.istore 4, 2) := by decide +kernel
theorem dL_appendPart_3 : decode prog_3_method_7_code 3 = .ok (.iload 4, 2) := by decide +kernel
theorem dL_appendPart_5 : decode prog_3_method_7_code 5 = .ok (.iload_n 3, 1) := by decide +kernel
theorem dL_appendPart_6 : decode prog_3_method_7_code 6 = .ok (.if_icmp .ge 20, 3) := by decide +kernel
theorem dL_appendPart_9 : decode prog_3_method_7_code 9 = .ok (.aload_n 0, 1) := by decide +kernel
theorem dL_appendPart_10 : decode prog_3_method_7_code 10 = .ok (.aload_n 1, 1) := by decide +kernel
theorem dL_appendPart_11 : decode prog_3_method_7_code 11 = .ok (.iload 4, 2) := by decide +kernel
theorem dL_appendPart_13 : decode prog_3_method_7_code 13 = .ok (.invokevirtual 24, 3) := by decide +kernel
theorem dL_appendPart_16 : decode prog_3_method_7_code 16 = .ok (.invokevirtual 28, 3) := by decide +kernel
theorem dL_appendPart_19 : decode prog_3_method_7_code 19 = .ok (.pop, 1) := by decide +kernel
theorem dL_appendPart_20 : decode prog_3_method_7_code 20 = .ok (.iinc 4 1, 3) := by decide +kernel
theorem dL_appendPart_23 : decode prog_3_method_7_code 23 = .ok (.goto (-20), 3) := by decide +kernel
theorem dL_appendPart_26 : decode prog_3_method_7_code 26 = .ok (.return_, 1) := by decide +kernel
theorem dR_init_0 : decode prog_4_method_1_code 0 = .ok (.aload_n 0, 1) := by decide +kernel
theorem dR_init_1 : decode prog_4_method_1_code 1 = .ok (.invokespecial 3, 3) := by decide +kernel
theorem dR_init_4 : decode prog_4_method_1_code 4 = .ok (.aload_n 0, 1) := by decide +kernel
theorem dR_init_5 : decode prog_4_method_1_code 5 = .ok (.aload_n 1, 1) := by decide +kernel
theorem dR_init_6 : decode prog_4_method_1_code 6 = .ok (.putfield 9, 3) := by decide +kernel
theorem dR_init_9 : decode prog_4_method_1_code 9 = .ok (.aload_n 0, 1) := by decide +kernel
theorem dR_init_10 : decode prog_4_method_1_code 10 = .ok (.new 15, 3) := by decide +kernel
theorem dR_init_13 : decode prog_4_method_1_code 13 = .ok (.dup, 1) := by decide +kernel
theorem dR_init_14 : decode prog_4_method_1_code 14 = .ok (.aload_n 1, 1) := by decide +kernel
theorem dR_init_15 : decode prog_4_method_1_code 15 = .ok (.invokespecial 17, 3) := by decide +kernel
theorem dR_init_18 : decode prog_4_method_1_code 18 = .ok (.putfield 20, 3) := by decide +kernel
theorem dR_init_21 : decode prog_4_method_1_code 21 = .ok (.aload_n 0, 1) := by decide +kernel
theorem dR_init_22 : decode prog_4_method_1_code 22 = .ok (.new 24, 3) := by decide +kernel
theorem dR_init_25 : decode prog_4_method_1_code 25 = .ok (.dup, 1) := by decide +kernel
theorem dR_init_26 : decode prog_4_method_1_code 26 = .ok (.aload_n 1, 1) := by decide +kernel
theorem dR_init_27 : decode prog_4_method_1_code 27 = .ok (.invokespecial 26, 3) := by decide +kernel
theorem dR_init_30 : decode prog_4_method_1_code 30 = .ok (.putfield 27, 3) := by decide +kernel
theorem dR_init_33 : decode prog_4_method_1_code 33 = .ok (.aload_n 0, 1) := by decide +kernel
theorem dR_init_34 : decode prog_4_method_1_code 34 = .ok (.bipush 60, 2) := by decide +kernel
theorem dR_init_36 : decode prog_4_method_1_code 36 = .ok (.newarray .int, 2) := by decide +kernel
theorem dR_init_38 : decode prog_4_method_1_code 38 = .ok (.putfield 31, 3) := by decide +kernel
theorem dR_init_41 : decode prog_4_method_1_code 41 = .ok (.aload_n 0, 1) := by decide +kernel
theorem dR_init_42 : decode prog_4_method_1_code 42 = .ok (.bipush 60, 2) := by decide +kernel
theorem dR_init_44 : decode prog_4_method_1_code 44 = .ok (.newarray .int, 2) := by decide +kernel
theorem dR_init_46 : decode prog_4_method_1_code 46 = .ok (.putfield 35, 3) := by decide +kernel
theorem dR_init_49 : decode prog_4_method_1_code 49 = .ok (.aload_n 0, 1) := by decide +kernel
theorem dR_init_50 : decode prog_4_method_1_code 50 = .ok (.bipush 60, 2) := by decide +kernel
theorem dR_init_52 : decode prog_4_method_1_code 52 = .ok (.newarray .int, 2) := by decide +kernel
theorem dR_init_54 : decode prog_4_method_1_code 54 = .ok (.putfield 38, 3) := by decide +kernel
theorem dR_init_57 : decode prog_4_method_1_code 57 = .ok (.aload_n 0, 1) := by decide +kernel
theorem dR_init_58 : decode prog_4_method_1_code 58 = .ok (.bipush 60, 2) := by decide +kernel
theorem dR_init_60 : decode prog_4_method_1_code 60 = .ok (.newarray .int, 2) := by decide +kernel
theorem dR_init_62 : decode prog_4_method_1_code 62 = .ok (.putfield 41, 3) := by decide +kernel
theorem dR_init_65 : decode prog_4_method_1_code 65 = .ok (.aload_n 0, 1) := by decide +kernel
theorem dR_init_66 : decode prog_4_method_1_code 66 = .ok (.iconst 0, 1) := by decide +kernel
theorem dR_init_67 : decode prog_4_method_1_code 67 = .ok (.putfield 44, 3) := by decide +kernel
theorem dR_init_70 : decode prog_4_method_1_code 70 = .ok (.aload_n 0, 1) := by decide +kernel
theorem dR_init_71 : decode prog_4_method_1_code 71 = .ok (.iconst 0, 1) := by decide +kernel
theorem dR_init_72 : decode prog_4_method_1_code 72 = .ok (.putfield 48, 3) := by decide +kernel
theorem dR_init_75 : decode prog_4_method_1_code 75 = .ok (.aload_n 0, 1) := by decide +kernel
theorem dR_init_76 : decode prog_4_method_1_code 76 = .ok (.iconst 0, 1) := by decide +kernel
theorem dR_init_77 : decode prog_4_method_1_code 77 = .ok (.putfield 51, 3) := by decide +kernel
theorem dR_init_80 : decode prog_4_method_1_code 80 = .ok (.return_, 1) := by decide +kernel
theorem dR_read_0 : decode prog_4_method_2_code 0 = .ok (.aload_n 0, 1) := by decide +kernel
theorem dR_read_1 : decode prog_4_method_2_code 1 = .ok (.getfield 20, 3) := by decide +kernel
theorem dR_read_4 : decode prog_4_method_2_code 4 = .ok (.invokevirtual 54, 3) := by decide +kernel
theorem dR_read_7 : decode prog_4_method_2_code 7 = .ok (.aload_n 0, 1) := by decide +kernel
theorem dR_read_8 : decode prog_4_method_2_code 8 = .ok (.getfield 27, 3) := by decide +kernel
theorem dR_read_11 : decode prog_4_method_2_code 11 = .ok (.invokevirtual 57, 3) := by decide +kernel
theorem dR_read_14 : decode prog_4_method_2_code 14 = .ok (.aload_n 0, 1) := by decide +kernel
theorem dR_read_15 : decode prog_4_method_2_code 15 = .ok (.iconst 0, 1) := by decide +kernel
theorem dR_read_16 : decode prog_4_method_2_code 16 = .ok (.putfield 44, 3) := by decide +kernel
theorem dR_read_19 : decode prog_4_method_2_code 19 = .ok (.aload_n 0, 1) := by decide +kernel
theorem dR_read_20 : decode prog_4_method_2_code 20 = .ok (.iconst 0, 1) := by decide +kernel
theorem dR_read_21 : decode prog_4_method_2_code 21 = .ok (.putfield 48, 3) := by decide +kernel
theorem dR_read_24 : decode prog_4_method_2_code 24 = .ok (.aload_n 0, 1) := by decide +kernel
theorem dR_read_25 : decode prog_4_method_2_code 25 = .ok (.iconst 0, 1) := by decide +kernel
theorem dR_read_26 : decode prog_4_method_2_code 26 = .ok (.putfield 51, 3) := by decide +kernel
theorem dR_read_29 : decode prog_4_method_2_code 29 = .ok (.aload_n 0, 1) := by decide +kernel
theorem dR_read_30 : decode prog_4_method_2_code 30 = .ok (.bipush 20, 2) := by decide +kernel
theorem dR_read_32 : decode prog_4_method_2_code 32 = .ok (.invokevirtual 60, 3) := by decide +kernel
theorem dR_read_35 : decode prog_4_method_2_code 35 = .ok (.istore_n 1, 1) := by decide +kernel
theorem dR_read_36 : decode prog_4_method_2_code 36 = .ok (.aload_n 0, 1) := by decide +kernel
theorem dR_read_37 : decode prog_4_method_2_code 37 = .ok (.iconst 0, 1) := by decide +kernel
theorem dR_read_38 : decode prog_4_method_2_code 38 = .ok (.invokevirtual 64, 3) := by decide +kernel
theorem dR_read_41 : decode prog_4_method_2_code 41 = .ok (.aload_n 0, 1) := by decide +kernel
theorem dR_read_42 : decode prog_4_method_2_code 42 = .ok (.invokevirtual 68, 3) := by decide +kernel
theorem dR_read_45 : decode prog_4_method_2_code 45 = .ok (.aload_n 0, 1) := by decide +kernel
theorem dR_read_46 : decode prog_4_method_2_code 46 = .ok (.getfield 20, 3) := by decide +kernel
theorem dR_read_49 : decode prog_4_method_2_code 49 = .ok (.iload_n 1, 1) := by decide +kernel
theorem dR_read_50 : decode prog_4_method_2_code 50 = .ok (.invokevirtual 71, 3) := by decide +kernel
theorem dR_read_53 : decode prog_4_method_2_code 53 = .ok (.aload_n 0, 1) := by decide +kernel
theorem dR_read_54 : decode prog_4_method_2_code 54 = .ok (.getfield 20, 3) := by decide +kernel
theorem dR_read_57 : decode prog_4_method_2_code 57 = .ok (.invokevirtual 74, 3) := by decide +kernel
theorem dR_read_60 : decode prog_4_method_2_code 60 = .ok (.return_, 1) := by decide +kernel
theorem dR_begin_0 : decode prog_4_method_3_code 0 = .ok (.aload_n 0, 1) := by decide +kernel
theorem dR_begin_1 : decode prog_4_method_3_code 1 = .ok (.getfield 20, 3) := by decide +kernel
theorem dR_begin_4 : decode prog_4_method_3_code 4 = .ok (.iload_n 1, 1) := by decide +kernel
theorem dR_begin_5 : decode prog_4_method_3_code 5 = .ok (.aload_n 0, 1) := by decide +kernel
theorem dR_begin_6 : decode prog_4_method_3_code 6 = .ok (.getfield 44, 3) := by decide +kernel
theorem dR_begin_9 : decode prog_4_method_3_code 9 = .ok (.aload_n 0, 1) := by decide +kernel
theorem dR_begin_10 : decode prog_4_method_3_code 10 = .ok (.getfield 44, 3) := by decide +kernel
theorem dR_begin_13 : decode prog_4_method_3_code 13 = .ok (.invokevirtual 77, 3) := by decide +kernel
theorem dR_begin_16 : decode prog_4_method_3_code 16 = .ok (.ireturn, 1) := by decide +kernel
theorem dR_take_0 : decode prog_4_method_4_code 0 = .ok (.aload_n 0, 1) := by decide +kernel
theorem dR_take_1 : decode prog_4_method_4_code 1 = .ok (.getfield 20, 3) := by decide +kernel
theorem dR_take_4 : decode prog_4_method_4_code 4 = .ok (.aload_n 0, 1) := by decide +kernel
theorem dR_take_5 : decode prog_4_method_4_code 5 = .ok (.getfield 27, 3) := by decide +kernel
theorem dR_take_8 : decode prog_4_method_4_code 8 = .ok (.invokevirtual 81, 3) := by decide +kernel
theorem dR_take_11 : decode prog_4_method_4_code 11 = .ok (.aload_n 0, 1) := by decide +kernel
theorem dR_take_12 : decode prog_4_method_4_code 12 = .ok (.getfield 44, 3) := by decide +kernel
theorem dR_take_15 : decode prog_4_method_4_code 15 = .ok (.aload_n 0, 1) := by decide +kernel
theorem dR_take_16 : decode prog_4_method_4_code 16 = .ok (.getfield 27, 3) := by decide +kernel
theorem dR_take_19 : decode prog_4_method_4_code 19 = .ok (.invokevirtual 85, 3) := by decide +kernel
theorem dR_take_22 : decode prog_4_method_4_code 22 = .ok (.invokevirtual 77, 3) := by decide +kernel
theorem dR_take_25 : decode prog_4_method_4_code 25 = .ok (.pop, 1) := by decide +kernel
theorem dR_take_26 : decode prog_4_method_4_code 26 = .ok (.iconst 0, 1) := by decide +kernel
theorem dR_take_27 : decode prog_4_method_4_code 27 = .ok (.istore_n 1, 1) := by decide +kernel
theorem dR_take_28 : decode prog_4_method_4_code 28 = .ok (.iload_n 1, 1) := by decide +kernel
theorem dR_take_29 : decode prog_4_method_4_code 29 = .ok (.aload_n 0, 1) := by decide +kernel
theorem dR_take_30 : decode prog_4_method_4_code 30 = .ok (.getfield 48, 3) := by decide +kernel
theorem dR_take_33 : decode prog_4_method_4_code 33 = .ok (.if_icmp .ge 28, 3) := by decide +kernel
theorem dR_take_36 : decode prog_4_method_4_code 36 = .ok (.aload_n 0, 1) := by decide +kernel
theorem dR_take_37 : decode prog_4_method_4_code 37 = .ok (.getfield 20, 3) := by decide +kernel
theorem dR_take_40 : decode prog_4_method_4_code 40 = .ok (.aload_n 0, 1) := by decide +kernel
theorem dR_take_41 : decode prog_4_method_4_code 41 = .ok (.getfield 31, 3) := by decide +kernel
theorem dR_take_44 : decode prog_4_method_4_code 44 = .ok (.iload_n 1, 1) := by decide +kernel
theorem dR_take_45 : decode prog_4_method_4_code 45 = .ok (.iaload, 1) := by decide +kernel
theorem dR_take_46 : decode prog_4_method_4_code 46 = .ok (.aload_n 0, 1) := by decide +kernel
theorem dR_take_47 : decode prog_4_method_4_code 47 = .ok (.getfield 35, 3) := by decide +kernel
theorem dR_take_50 : decode prog_4_method_4_code 50 = .ok (.iload_n 1, 1) := by decide +kernel
theorem dR_take_51 : decode prog_4_method_4_code 51 = .ok (.iaload, 1) := by decide +kernel
theorem dR_take_52 : decode prog_4_method_4_code 52 = .ok (.invokevirtual 88, 3) := by decide +kernel
theorem dR_take_55 : decode prog_4_method_4_code 55 = .ok (.iinc 1 1, 3) := by decide +kernel
theorem dR_take_58 : decode prog_4_method_4_code 58 = .ok (.goto (-30), 3) := by decide +kernel
theorem dR_take_61 : decode prog_4_method_4_code 61 = .ok (.aload_n 0, 1) := by decide +kernel
theorem dR_take_62 : decode prog_4_method_4_code 62 = .ok (.iconst 0, 1) := by decide +kernel
theorem dR_take_63 : decode prog_4_method_4_code 63 = .ok (.putfield 48, 3) := by decide +kernel
theorem dR_take_66 : decode prog_4_method_4_code 66 = .ok (.aload_n 0, 1) := by decide +kernel
theorem dR_take_67 : decode prog_4_method_4_code 67 = .ok (.aload_n 0, 1) := by decide +kernel
theorem dR_take_68 : decode prog_4_method_4_code 68 = .ok (.getfield 27, 3) := by decide +kernel
theorem dR_take_71 : decode prog_4_method_4_code 71 = .ok (.invokevirtual 92, 3) := by decide +kernel
theorem dR_take_74 : decode prog_4_method_4_code 74 = .ok (.putfield 44, 3) := by decide +kernel
theorem dR_take_77 : decode prog_4_method_4_code 77 = .ok (.aload_n 0, 1) := by decide +kernel
theorem dR_take_78 : decode prog_4_method_4_code 78 = .ok (.getfield 27, 3) := by decide +kernel
theorem dR_take_81 : decode prog_4_method_4_code 81 = .ok (.invokevirtual 95, 3) := by decide +kernel
theorem dR_take_84 : decode prog_4_method_4_code 84 = .ok (.return_, 1) := by decide +kernel
theorem dR_skip_0 : decode prog_4_method_5_code 0 = .ok (.aload_n 0, 1) := by decide +kernel
theorem dR_skip_1 : decode prog_4_method_5_code 1 = .ok (.getfield 48, 3) := by decide +kernel
theorem dR_skip_4 : decode prog_4_method_5_code 4 = .ok (.bipush 60, 2) := by decide +kernel
theorem dR_skip_6 : decode prog_4_method_5_code 6 = .ok (.if_icmp .ge 56, 3) := by decide +kernel
theorem dR_skip_9 : decode prog_4_method_5_code 9 = .ok (.aload_n 0, 1) := by decide +kernel
theorem dR_skip_10 : decode prog_4_method_5_code 10 = .ok (.getfield 31, 3) := by decide +kernel
theorem dR_skip_13 : decode prog_4_method_5_code 13 = .ok (.aload_n 0, 1) := by decide +kernel
theorem dR_skip_14 : decode prog_4_method_5_code 14 = .ok (.getfield 48, 3) := by decide +kernel
theorem dR_skip_17 : decode prog_4_method_5_code 17 = .ok (.aload_n 0, 1) := by decide +kernel
theorem dR_skip_18 : decode prog_4_method_5_code 18 = .ok (.getfield 27, 3) := by decide +kernel
theorem dR_skip_21 : decode prog_4_method_5_code 21 = .ok (.invokevirtual 85, 3) := by decide +kernel
theorem dR_skip_24 : decode prog_4_method_5_code 24 = .ok (.iastore, 1) := by decide +kernel
theorem dR_skip_25 : decode prog_4_method_5_code 25 = .ok (.aload_n 0, 1) := by decide +kernel
theorem dR_skip_26 : decode prog_4_method_5_code 26 = .ok (.getfield 35, 3) := by decide +kernel
theorem dR_skip_29 : decode prog_4_method_5_code 29 = .ok (.aload_n 0, 1) := by decide +kernel
theorem dR_skip_30 : decode prog_4_method_5_code 30 = .ok (.getfield 48, 3) := by decide +kernel
theorem dR_skip_33 : decode prog_4_method_5_code 33 = .ok (.aload_n 0, 1) := by decide +kernel
theorem dR_skip_34 : decode prog_4_method_5_code 34 = .ok (.getfield 27, 3) := by decide +kernel
theorem dR_skip_37 : decode prog_4_method_5_code 37 = .ok (.invokevirtual 81, 3) := by decide +kernel
theorem dR_skip_40 : decode prog_4_method_5_code 40 = .ok (.invokestatic 98, 3) := by decide +kernel
theorem dR_skip_43 : decode prog_4_method_5_code 43 = .ok (.ifCond .eq 7, 3) := by decide +kernel
theorem dR_skip_46 : decode prog_4_method_5_code 46 = .ok (.iconst 3, 1) := by decide +kernel
theorem dR_skip_47 : decode prog_4_method_5_code 47 = .ok (.goto 4, 3) := by decide +kernel
theorem dR_skip_50 : decode prog_4_method_5_code 50 = .ok (.iconst 1, 1) := by decide +kernel
theorem dR_skip_51 : decode prog_4_method_5_code 51 = .ok (.iastore, 1) := by decide +kernel
theorem dR_skip_52 : decode prog_4_method_5_code 52 = .ok (.aload_n 0, 1) := by decide +kernel
theorem dR_skip_53 : decode prog_4_method_5_code 53 = .ok (.dup, 1) := by decide +kernel
theorem dR_skip_54 : decode prog_4_method_5_code 54 = .ok (.getfield 48, 3) := by decide +kernel
theorem dR_skip_57 : decode prog_4_method_5_code 57 = .ok (.iconst 1, 1) := by decide +kernel
theorem dR_skip_58 : decode prog_4_method_5_code 58 = .ok (.iadd, 1) := by decide +kernel
theorem dR_skip_59 : decode prog_4_method_5_code 59 = .ok (.putfield 48, 3) := by decide +kernel
theorem dR_skip_62 : decode prog_4_method_5_code 62 = .ok (.aload_n 0, 1) := by decide +kernel
theorem dR_skip_63 : decode prog_4_method_5_code 63 = .ok (.getfield 27, 3) := by decide +kernel
theorem dR_skip_66 : decode prog_4_method_5_code 66 = .ok (.invokevirtual 95, 3) := by decide +kernel
theorem dR_skip_69 : decode prog_4_method_5_code 69 = .ok (.return_, 1) := by decide +kernel
theorem dR_miss_0 : decode prog_4_method_6_code 0 = .ok (.aload_n 0, 1) := by decide +kernel
theorem dR_miss_1 : decode prog_4_method_6_code 1 = .ok (.getfield 20, 3) := by decide +kernel
theorem dR_miss_4 : decode prog_4_method_6_code 4 = .ok (.iload_n 1, 1) := by decide +kernel
theorem dR_miss_5 : decode prog_4_method_6_code 5 = .ok (.aload_n 0, 1) := by decide +kernel
theorem dR_miss_6 : decode prog_4_method_6_code 6 = .ok (.getfield 44, 3) := by decide +kernel
theorem dR_miss_9 : decode prog_4_method_6_code 9 = .ok (.aload_n 0, 1) := by decide +kernel
theorem dR_miss_10 : decode prog_4_method_6_code 10 = .ok (.getfield 44, 3) := by decide +kernel
theorem dR_miss_13 : decode prog_4_method_6_code 13 = .ok (.invokevirtual 77, 3) := by decide +kernel
theorem dR_miss_16 : decode prog_4_method_6_code 16 = .ok (.pop, 1) := by decide +kernel
theorem dR_miss_17 : decode prog_4_method_6_code 17 = .ok (.aload_n 0, 1) := by decide +kernel
theorem dR_miss_18 : decode prog_4_method_6_code 18 = .ok (.getfield 20, 3) := by decide +kernel
theorem dR_miss_21 : decode prog_4_method_6_code 21 = .ok (.aload_n 0, 1) := by decide +kernel
theorem dR_miss_22 : decode prog_4_method_6_code 22 = .ok (.getfield 44, 3) := by decide +kernel
theorem dR_miss_25 : decode prog_4_method_6_code 25 = .ok (.iload_n 2, 1) := by decide +kernel
theorem dR_miss_26 : decode prog_4_method_6_code 26 = .ok (.invokevirtual 88, 3) := by decide +kernel
theorem dR_miss_29 : decode prog_4_method_6_code 29 = .ok (.return_, 1) := by decide +kernel
theorem dR_expect_0 : decode prog_4_method_7_code 0 = .ok (.aload_n 0, 1) := by decide +kernel
theorem dR_expect_1 : decode prog_4_method_7_code 1 = .ok (.getfield 27, 3) := by decide +kernel
theorem dR_expect_4 : decode prog_4_method_7_code 4 = .ok (.invokevirtual 81, 3) := by decide +kernel
theorem dR_expect_7 : decode prog_4_method_7_code 7 = .ok (.iload_n 1, 1) := by decide +kernel
theorem dR_expect_8 : decode prog_4_method_7_code 8 = .ok (.if_icmp .ne 10, 3) := by decide +kernel
theorem dR_expect_11 : decode prog_4_method_7_code 11 = .ok (.aload_n 0, 1) := by decide +kernel
theorem dR_expect_12 : decode prog_4_method_7_code 12 = .ok (.invokevirtual 68, 3) := by decide +kernel
theorem dR_expect_15 : decode prog_4_method_7_code 15 = .ok (.goto 9, 3) := by decide +kernel
theorem dR_expect_18 : decode prog_4_method_7_code 18 = .ok (.aload_n 0, 1) := by decide +kernel
theorem dR_expect_19 : decode prog_4_method_7_code 19 = .ok (.iload_n 1, 1) := by decide +kernel
theorem dR_expect_20 : decode prog_4_method_7_code 20 = .ok (.iconst 2, 1) := by decide +kernel
theorem dR_expect_21 : decode prog_4_method_7_code 21 = .ok (.invokevirtual 102, 3) := by decide +kernel
theorem dR_expect_24 : decode prog_4_method_7_code 24 = .ok (.return_, 1) := by decide +kernel
theorem dR_list_0 : decode prog_4_method_8_code 0 = .ok (.iconst 0, 1) := by decide +kernel
theorem dR_list_1 : decode prog_4_method_8_code 1 = .ok (.istore_n 2, 1) := by decide +kernel
theorem dR_list_2 : decode prog_4_method_8_code 2 = .ok (.iload_n 2, 1) := by decide +kernel
theorem dR_list_3 : decode prog_4_method_8_code 3 = .ok (.bipush 60, 2) := by decide +kernel
theorem dR_list_5 : decode prog_4_method_8_code 5 = .ok (.if_icmp .ge 37, 3) := by decide +kernel
theorem dR_list_8 : decode prog_4_method_8_code 8 = .ok (.aload_n 0, 1) := by decide +kernel
theorem dR_list_9 : decode prog_4_method_8_code 9 = .ok (.iload_n 1, 1) := by decide +kernel
theorem dR_list_10 : decode prog_4_method_8_code 10 = .ok (.invokevirtual 105, 3) := by decide +kernel
theorem dR_list_13 : decode prog_4_method_8_code 13 = .ok (.ifCond .ne 29, 3) := by decide +kernel
theorem dR_list_16 : decode prog_4_method_8_code 16 = .ok (.aload_n 0, 1) := by decide +kernel
theorem dR_list_17 : decode prog_4_method_8_code 17 = .ok (.iload_n 1, 1) := by decide +kernel
theorem dR_list_18 : decode prog_4_method_8_code 18 = .ok (.invokevirtual 108, 3) := by decide +kernel
theorem dR_list_21 : decode prog_4_method_8_code 21 = .ok (.ifCond .eq 11, 3) := by decide +kernel
theorem dR_list_24 : decode prog_4_method_8_code 24 = .ok (.aload_n 0, 1) := by decide +kernel
theorem dR_list_25 : decode prog_4_method_8_code 25 = .ok (.iload_n 1, 1) := by decide +kernel
theorem dR_list_26 : decode prog_4_method_8_code 26 = .ok (.invokevirtual 111, 3) := by decide +kernel
theorem dR_list_29 : decode prog_4_method_8_code 29 = .ok (.goto 7, 3) := by decide +kernel
theorem dR_list_32 : decode prog_4_method_8_code 32 = .ok (.aload_n 0, 1) := by decide +kernel
theorem dR_list_33 : decode prog_4_method_8_code 33 = .ok (.invokevirtual 114, 3) := by decide +kernel
theorem dR_list_36 : decode prog_4_method_8_code 36 = .ok (.iinc 2 1, 3) := by decide +kernel
theorem dR_list_39 : decode prog_4_method_8_code 39 = .ok (.goto (-37), 3) := by decide +kernel
theorem dR_list_42 : decode prog_4_method_8_code 42 = .ok (.return_, 1) := by decide +kernel
theorem dR_listEnds_0 : decode prog_4_method_9_code 0 = .ok (.iload_n 1, 1) := by decide +kernel
theorem dR_listEnds_1 : decode prog_4_method_9_code 1 = .ok (.ifCond .le 7, 3) := by decide +kernel
theorem dR_listEnds_4 : decode prog_4_method_9_code 4 = .ok (.iconst 1, 1) := by decide +kernel
theorem dR_listEnds_5 : decode prog_4_method_9_code 5 = .ok (.goto 4, 3) := by decide +kernel
theorem dR_listEnds_8 : decode prog_4_method_9_code 8 = .ok (.iconst 0, 1) := by decide +kernel
theorem dR_listEnds_9 : decode prog_4_method_9_code 9 = .ok (.istore_n 2, 1) := by decide +kernel
theorem dR_listEnds_10 : decode prog_4_method_9_code 10 = .ok (.aload_n 0, 1) := by decide +kernel
theorem dR_listEnds_11 : decode prog_4_method_9_code 11 = .ok (.getfield 27, 3) := by decide +kernel
theorem dR_listEnds_14 : decode prog_4_method_9_code 14 = .ok (.invokevirtual 81, 3) := by decide +kernel
theorem dR_listEnds_17 : decode prog_4_method_9_code 17 = .ok (.bipush 17, 2) := by decide +kernel
theorem dR_listEnds_19 : decode prog_4_method_9_code 19 = .ok (.if_icmp .eq 19, 3) := by decide +kernel
theorem dR_listEnds_22 : decode prog_4_method_9_code 22 = .ok (.iload_n 2, 1) := by decide +kernel
theorem dR_listEnds_23 : decode prog_4_method_9_code 23 = .ok (.ifCond .eq 19, 3) := by decide +kernel
theorem dR_listEnds_26 : decode prog_4_method_9_code 26 = .ok (.aload_n 0, 1) := by decide +kernel
theorem dR_listEnds_27 : decode prog_4_method_9_code 27 = .ok (.getfield 27, 3) := by decide +kernel
theorem dR_listEnds_30 : decode prog_4_method_9_code 30 = .ok (.invokevirtual 81, 3) := by decide +kernel
theorem dR_listEnds_33 : decode prog_4_method_9_code 33 = .ok (.bipush 8, 2) := by decide +kernel
theorem dR_listEnds_35 : decode prog_4_method_9_code 35 = .ok (.if_icmp .ne 7, 3) := by decide +kernel
theorem dR_listEnds_38 : decode prog_4_method_9_code 38 = .ok (.iconst 1, 1) := by decide +kernel
theorem dR_listEnds_39 : decode prog_4_method_9_code 39 = .ok (.goto 4, 3) := by decide +kernel
theorem dR_listEnds_42 : decode prog_4_method_9_code 42 = .ok (.iconst 0, 1) := by decide +kernel
theorem dR_listEnds_43 : decode prog_4_method_9_code 43 = .ok (.ireturn, 1) := by decide +kernel
