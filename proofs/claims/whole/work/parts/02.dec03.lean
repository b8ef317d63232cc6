/-! decode rows -/
theorem dM_number_0 : decode prog_8_method_28_code 0 = .ok (.iconst 0, 1) := by decide +kernel
theorem dM_number_1 : decode prog_8_method_28_code 1 = .ok (.istore_n 2, 1) := by decide +kernel
theorem dM_number_2 : decode prog_8_method_28_code 2 = .ok (.aload_n 0, 1) := by decide +kernel
theorem dM_number_3 : decode prog_8_method_28_code 3 = .ok (.getfield 95, 3) := by decide +kernel
theorem dM_number_6 : decode prog_8_method_28_code 6 = .ok (.iconst 0, 1) := by decide +kernel
theorem dM_number_7 : decode prog_8_method_28_code 7 = .ok (.iaload, 1) := by decide +kernel
theorem dM_number_8 : decode prog_8_method_28_code 8 = .ok (.istore_n 3, 1) := by decide +kernel
theorem dM_number_9 : decode prog_8_method_28_code 9 = .ok (.iload_n 3, 1) := by decide +kernel
theorem dM_number_10 : decode prog_8_method_28_code 10 = .ok (.ifCond .lt 148, 3) := by decide +kernel
theorem dM_number_13 : decode prog_8_method_28_code 13 = .ok (.sipush 400, 3) := by decide +kernel
theorem dM_number_16 : decode prog_8_method_28_code 16 = .ok (.iload_n 1, 1) := by decide +kernel
theorem dM_number_17 : decode prog_8_method_28_code 17 = .ok (.imul, 1) := by decide +kernel
theorem dM_number_18 : decode prog_8_method_28_code 18 = .ok (.iload_n 2, 1) := by decide +kernel
theorem dM_number_19 : decode prog_8_method_28_code 19 = .ok (.iadd, 1) := by decide +kernel
theorem dM_number_20 : decode prog_8_method_28_code 20 = .ok (.istore 4, 2) := by decide +kernel
theorem dM_number_22 : decode prog_8_method_28_code 22 = .ok (.aload_n 0, 1) := by decide +kernel
theorem dM_number_23 : decode prog_8_method_28_code 23 = .ok (.getfield 92, 3) := by decide +kernel
theorem dM_number_26 : decode prog_8_method_28_code 26 = .ok (.iload_n 3, 1) := by decide +kernel
theorem dM_number_27 : decode prog_8_method_28_code 27 = .ok (.iload_n 2, 1) := by decide +kernel
theorem dM_number_28 : decode prog_8_method_28_code 28 = .ok (.iastore, 1) := by decide +kernel
theorem dM_number_29 : decode prog_8_method_28_code 29 = .ok (.aload_n 0, 1) := by decide +kernel
theorem dM_number_30 : decode prog_8_method_28_code 30 = .ok (.getfield 23, 3) := by decide +kernel
theorem dM_number_33 : decode prog_8_method_28_code 33 = .ok (.iload 4, 2) := by decide +kernel
theorem dM_number_35 : decode prog_8_method_28_code 35 = .ok (.aload_n 0, 1) := by decide +kernel
theorem dM_number_36 : decode prog_8_method_28_code 36 = .ok (.getfield 65, 3) := by decide +kernel
theorem dM_number_39 : decode prog_8_method_28_code 39 = .ok (.iload_n 3, 1) := by decide +kernel
theorem dM_number_40 : decode prog_8_method_28_code 40 = .ok (.iaload, 1) := by decide +kernel
theorem dM_number_41 : decode prog_8_method_28_code 41 = .ok (.iastore, 1) := by decide +kernel
theorem dM_number_42 : decode prog_8_method_28_code 42 = .ok (.aload_n 0, 1) := by decide +kernel
theorem dM_number_43 : decode prog_8_method_28_code 43 = .ok (.getfield 26, 3) := by decide +kernel
theorem dM_number_46 : decode prog_8_method_28_code 46 = .ok (.iload 4, 2) := by decide +kernel
theorem dM_number_48 : decode prog_8_method_28_code 48 = .ok (.aload_n 0, 1) := by decide +kernel
theorem dM_number_49 : decode prog_8_method_28_code 49 = .ok (.getfield 68, 3) := by decide +kernel
theorem dM_number_52 : decode prog_8_method_28_code 52 = .ok (.iload_n 3, 1) := by decide +kernel
theorem dM_number_53 : decode prog_8_method_28_code 53 = .ok (.iaload, 1) := by decide +kernel
theorem dM_number_54 : decode prog_8_method_28_code 54 = .ok (.iastore, 1) := by decide +kernel
theorem dM_number_55 : decode prog_8_method_28_code 55 = .ok (.aload_n 0, 1) := by decide +kernel
theorem dM_number_56 : decode prog_8_method_28_code 56 = .ok (.getfield 29, 3) := by decide +kernel
theorem dM_number_59 : decode prog_8_method_28_code 59 = .ok (.iload 4, 2) := by decide +kernel
theorem dM_number_61 : decode prog_8_method_28_code 61 = .ok (.aload_n 0, 1) := by decide +kernel
theorem dM_number_62 : decode prog_8_method_28_code 62 = .ok (.getfield 71, 3) := by decide +kernel
theorem dM_number_65 : decode prog_8_method_28_code 65 = .ok (.iload_n 3, 1) := by decide +kernel
theorem dM_number_66 : decode prog_8_method_28_code 66 = .ok (.iaload, 1) := by decide +kernel
theorem dM_number_67 : decode prog_8_method_28_code 67 = .ok (.iastore, 1) := by decide +kernel
theorem dM_number_68 : decode prog_8_method_28_code 68 = .ok (.aload_n 0, 1) := by decide +kernel
theorem dM_number_69 : decode prog_8_method_28_code 69 = .ok (.getfield 32, 3) := by decide +kernel
theorem dM_number_72 : decode prog_8_method_28_code 72 = .ok (.iload 4, 2) := by decide +kernel
theorem dM_number_74 : decode prog_8_method_28_code 74 = .ok (.aload_n 0, 1) := by decide +kernel
theorem dM_number_75 : decode prog_8_method_28_code 75 = .ok (.getfield 74, 3) := by decide +kernel
theorem dM_number_78 : decode prog_8_method_28_code 78 = .ok (.iload_n 3, 1) := by decide +kernel
theorem dM_number_79 : decode prog_8_method_28_code 79 = .ok (.iaload, 1) := by decide +kernel
theorem dM_number_80 : decode prog_8_method_28_code 80 = .ok (.iastore, 1) := by decide +kernel
theorem dM_number_81 : decode prog_8_method_28_code 81 = .ok (.aload_n 0, 1) := by decide +kernel
theorem dM_number_82 : decode prog_8_method_28_code 82 = .ok (.getfield 35, 3) := by decide +kernel
theorem dM_number_85 : decode prog_8_method_28_code 85 = .ok (.iload 4, 2) := by decide +kernel
theorem dM_number_87 : decode prog_8_method_28_code 87 = .ok (.aload_n 0, 1) := by decide +kernel
theorem dM_number_88 : decode prog_8_method_28_code 88 = .ok (.getfield 77, 3) := by decide +kernel
theorem dM_number_91 : decode prog_8_method_28_code 91 = .ok (.iload_n 3, 1) := by decide +kernel
theorem dM_number_92 : decode prog_8_method_28_code 92 = .ok (.iaload, 1) := by decide +kernel
theorem dM_number_93 : decode prog_8_method_28_code 93 = .ok (.iastore, 1) := by decide +kernel
theorem dM_number_94 : decode prog_8_method_28_code 94 = .ok (.aload_n 0, 1) := by decide +kernel
theorem dM_number_95 : decode prog_8_method_28_code 95 = .ok (.getfield 38, 3) := by decide +kernel
theorem dM_number_98 : decode prog_8_method_28_code 98 = .ok (.iload 4, 2) := by decide +kernel
theorem dM_number_100 : decode prog_8_method_28_code 100 = .ok (.aload_n 0, 1) := by decide +kernel
theorem dM_number_101 : decode prog_8_method_28_code 101 = .ok (.getfield 80, 3) := by decide +kernel
theorem dM_number_104 : decode prog_8_method_28_code 104 = .ok (.iload_n 3, 1) := by decide +kernel
theorem dM_number_105 : decode prog_8_method_28_code 105 = .ok (.iaload, 1) := by decide +kernel
theorem dM_number_106 : decode prog_8_method_28_code 106 = .ok (.iastore, 1) := by decide +kernel
theorem dM_number_107 : decode prog_8_method_28_code 107 = .ok (.aload_n 0, 1) := by decide +kernel
theorem dM_number_108 : decode prog_8_method_28_code 108 = .ok (.getfield 41, 3) := by decide +kernel
theorem dM_number_111 : decode prog_8_method_28_code 111 = .ok (.iload 4, 2) := by decide +kernel
theorem dM_number_113 : decode prog_8_method_28_code 113 = .ok (.aload_n 0, 1) := by decide +kernel
theorem dM_number_114 : decode prog_8_method_28_code 114 = .ok (.getfield 89, 3) := by decide +kernel
theorem dM_number_117 : decode prog_8_method_28_code 117 = .ok (.iload_n 3, 1) := by decide +kernel
theorem dM_number_118 : decode prog_8_method_28_code 118 = .ok (.iaload, 1) := by decide +kernel
theorem dM_number_119 : decode prog_8_method_28_code 119 = .ok (.ifCond .ge 7, 3) := by decide +kernel
theorem dM_number_122 : decode prog_8_method_28_code 122 = .ok (.iconst (-1), 1) := by decide +kernel
theorem dM_number_123 : decode prog_8_method_28_code 123 = .ok (.goto 14, 3) := by decide +kernel
theorem dM_number_126 : decode prog_8_method_28_code 126 = .ok (.aload_n 0, 1) := by decide +kernel
theorem dM_number_127 : decode prog_8_method_28_code 127 = .ok (.getfield 92, 3) := by decide +kernel
theorem dM_number_130 : decode prog_8_method_28_code 130 = .ok (.aload_n 0, 1) := by decide +kernel
theorem dM_number_131 : decode prog_8_method_28_code 131 = .ok (.getfield 89, 3) := by decide +kernel
theorem dM_number_134 : decode prog_8_method_28_code 134 = .ok (.iload_n 3, 1) := by decide +kernel
theorem dM_number_135 : decode prog_8_method_28_code 135 = .ok (.iaload, 1) := by decide +kernel
theorem dM_number_136 : decode prog_8_method_28_code 136 = .ok (.iaload, 1) := by decide +kernel
theorem dM_number_137 : decode prog_8_method_28_code 137 = .ok (.iastore, 1) := by decide +kernel
theorem dM_number_138 : decode prog_8_method_28_code 138 = .ok (.aload_n 0, 1) := by decide +kernel
theorem dM_number_139 : decode prog_8_method_28_code 139 = .ok (.getfield 44, 3) := by decide +kernel
theorem dM_number_142 : decode prog_8_method_28_code 142 = .ok (.iload 4, 2) := by decide +kernel
theorem dM_number_144 : decode prog_8_method_28_code 144 = .ok (.iconst 1, 1) := by decide +kernel
theorem dM_number_145 : decode prog_8_method_28_code 145 = .ok (.iastore, 1) := by decide +kernel
theorem dM_number_146 : decode prog_8_method_28_code 146 = .ok (.iinc 2 1, 3) := by decide +kernel
theorem dM_number_149 : decode prog_8_method_28_code 149 = .ok (.aload_n 0, 1) := by decide +kernel
theorem dM_number_150 : decode prog_8_method_28_code 150 = .ok (.iload_n 3, 1) := by decide +kernel
theorem dM_number_151 : decode prog_8_method_28_code 151 = .ok (.invokevirtual 217, 3) := by decide +kernel
theorem dM_number_154 : decode prog_8_method_28_code 154 = .ok (.istore_n 3, 1) := by decide +kernel
theorem dM_number_155 : decode prog_8_method_28_code 155 = .ok (.goto (-146), 3) := by decide +kernel
theorem dM_number_158 : decode prog_8_method_28_code 158 = .ok (.aload_n 0, 1) := by decide +kernel
theorem dM_number_159 : decode prog_8_method_28_code 159 = .ok (.getfield 20, 3) := by decide +kernel
theorem dM_number_162 : decode prog_8_method_28_code 162 = .ok (.iload_n 1, 1) := by decide +kernel
theorem dM_number_163 : decode prog_8_method_28_code 163 = .ok (.iload_n 2, 1) := by decide +kernel
theorem dM_number_164 : decode prog_8_method_28_code 164 = .ok (.iastore, 1) := by decide +kernel
theorem dM_number_165 : decode prog_8_method_28_code 165 = .ok (.iload_n 2, 1) := by decide +kernel
theorem dM_number_166 : decode prog_8_method_28_code 166 = .ok (.iconst 1, 1) := by decide +kernel
theorem dM_number_167 : decode prog_8_method_28_code 167 = .ok (.isub, 1) := by decide +kernel
theorem dM_number_168 : decode prog_8_method_28_code 168 = .ok (.istore_n 3, 1) := by decide +kernel
theorem dM_number_169 : decode prog_8_method_28_code 169 = .ok (.iload_n 3, 1) := by decide +kernel
theorem dM_number_170 : decode prog_8_method_28_code 170 = .ok (.ifCond .le 47, 3) := by decide +kernel
theorem dM_number_173 : decode prog_8_method_28_code 173 = .ok (.aload_n 0, 1) := by decide +kernel
theorem dM_number_174 : decode prog_8_method_28_code 174 = .ok (.getfield 44, 3) := by decide +kernel
theorem dM_number_177 : decode prog_8_method_28_code 177 = .ok (.sipush 400, 3) := by decide +kernel
theorem dM_number_180 : decode prog_8_method_28_code 180 = .ok (.iload_n 1, 1) := by decide +kernel
theorem dM_number_181 : decode prog_8_method_28_code 181 = .ok (.imul, 1) := by decide +kernel
theorem dM_number_182 : decode prog_8_method_28_code 182 = .ok (.aload_n 0, 1) := by decide +kernel
theorem dM_number_183 : decode prog_8_method_28_code 183 = .ok (.getfield 41, 3) := by decide +kernel
theorem dM_number_186 : decode prog_8_method_28_code 186 = .ok (.sipush 400, 3) := by decide +kernel
theorem dM_number_189 : decode prog_8_method_28_code 189 = .ok (.iload_n 1, 1) := by decide +kernel
theorem dM_number_190 : decode prog_8_method_28_code 190 = .ok (.imul, 1) := by decide +kernel
theorem dM_number_191 : decode prog_8_method_28_code 191 = .ok (.iload_n 3, 1) := by decide +kernel
theorem dM_number_192 : decode prog_8_method_28_code 192 = .ok (.iadd, 1) := by decide +kernel
theorem dM_number_193 : decode prog_8_method_28_code 193 = .ok (.iaload, 1) := by decide +kernel
theorem dM_number_194 : decode prog_8_method_28_code 194 = .ok (.iadd, 1) := by decide +kernel
theorem dM_number_195 : decode prog_8_method_28_code 195 = .ok (.dup2, 1) := by decide +kernel
theorem dM_number_196 : decode prog_8_method_28_code 196 = .ok (.iaload, 1) := by decide +kernel
theorem dM_number_197 : decode prog_8_method_28_code 197 = .ok (.aload_n 0, 1) := by decide +kernel
theorem dM_number_198 : decode prog_8_method_28_code 198 = .ok (.getfield 44, 3) := by decide +kernel
theorem dM_number_201 : decode prog_8_method_28_code 201 = .ok (.sipush 400, 3) := by decide +kernel
theorem dM_number_204 : decode prog_8_method_28_code 204 = .ok (.iload_n 1, 1) := by decide +kernel
theorem dM_number_205 : decode prog_8_method_28_code 205 = .ok (.imul, 1) := by decide +kernel
theorem dM_number_206 : decode prog_8_method_28_code 206 = .ok (.iload_n 3, 1) := by decide +kernel
theorem dM_number_207 : decode prog_8_method_28_code 207 = .ok (.iadd, 1) := by decide +kernel
theorem dM_number_208 : decode prog_8_method_28_code 208 = .ok (.iaload, 1) := by decide +kernel
theorem dM_number_209 : decode prog_8_method_28_code 209 = .ok (.iadd, 1) := by decide +kernel
theorem dM_number_210 : decode prog_8_method_28_code 210 = .ok (.iastore, 1) := by decide +kernel
theorem dM_number_211 : decode prog_8_method_28_code 211 = .ok (.iinc 3 (-1), 3) := by decide +kernel
theorem dM_number_214 : decode prog_8_method_28_code 214 = .ok (.goto (-45), 3) := by decide +kernel
theorem dM_number_217 : decode prog_8_method_28_code 217 = .ok (.return_, 1) := by decide +kernel
theorem dM_sameLeaf_0 : decode prog_8_method_29_code 0 = .ok (.aload_n 0, 1) := by decide +kernel
theorem dM_sameLeaf_1 : decode prog_8_method_29_code 1 = .ok (.getfield 29, 3) := by decide +kernel
theorem dM_sameLeaf_4 : decode prog_8_method_29_code 4 = .ok (.iload_n 2, 1) := by decide +kernel
theorem dM_sameLeaf_5 : decode prog_8_method_29_code 5 = .ok (.iaload, 1) := by decide +kernel
theorem dM_sameLeaf_6 : decode prog_8_method_29_code 6 = .ok (.aload_n 0, 1) := by decide +kernel
theorem dM_sameLeaf_7 : decode prog_8_method_29_code 7 = .ok (.getfield 26, 3) := by decide +kernel
theorem dM_sameLeaf_10 : decode prog_8_method_29_code 10 = .ok (.iload_n 2, 1) := by decide +kernel
theorem dM_sameLeaf_11 : decode prog_8_method_29_code 11 = .ok (.iaload, 1) := by decide +kernel
theorem dM_sameLeaf_12 : decode prog_8_method_29_code 12 = .ok (.isub, 1) := by decide +kernel
theorem dM_sameLeaf_13 : decode prog_8_method_29_code 13 = .ok (.istore 5, 2) := by decide +kernel
theorem dM_sameLeaf_15 : decode prog_8_method_29_code 15 = .ok (.aload_n 0, 1) := by decide +kernel
theorem dM_sameLeaf_16 : decode prog_8_method_29_code 16 = .ok (.getfield 35, 3) := by decide +kernel
theorem dM_sameLeaf_19 : decode prog_8_method_29_code 19 = .ok (.iload_n 2, 1) := by decide +kernel
theorem dM_sameLeaf_20 : decode prog_8_method_29_code 20 = .ok (.iaload, 1) := by decide +kernel
theorem dM_sameLeaf_21 : decode prog_8_method_29_code 21 = .ok (.aload_n 0, 1) := by decide +kernel
theorem dM_sameLeaf_22 : decode prog_8_method_29_code 22 = .ok (.getfield 35, 3) := by decide +kernel
theorem dM_sameLeaf_25 : decode prog_8_method_29_code 25 = .ok (.iload 4, 2) := by decide +kernel
theorem dM_sameLeaf_27 : decode prog_8_method_29_code 27 = .ok (.iaload, 1) := by decide +kernel
theorem dM_sameLeaf_28 : decode prog_8_method_29_code 28 = .ok (.if_icmp .ne 23, 3) := by decide +kernel
theorem dM_sameLeaf_31 : decode prog_8_method_29_code 31 = .ok (.iload 5, 2) := by decide +kernel
theorem dM_sameLeaf_33 : decode prog_8_method_29_code 33 = .ok (.aload_n 0, 1) := by decide +kernel
theorem dM_sameLeaf_34 : decode prog_8_method_29_code 34 = .ok (.getfield 29, 3) := by decide +kernel
theorem dM_sameLeaf_37 : decode prog_8_method_29_code 37 = .ok (.iload 4, 2) := by decide +kernel
theorem dM_sameLeaf_39 : decode prog_8_method_29_code 39 = .ok (.iaload, 1) := by decide +kernel
theorem dM_sameLeaf_40 : decode prog_8_method_29_code 40 = .ok (.aload_n 0, 1) := by decide +kernel
theorem dM_sameLeaf_41 : decode prog_8_method_29_code 41 = .ok (.getfield 26, 3) := by decide +kernel
theorem dM_sameLeaf_44 : decode prog_8_method_29_code 44 = .ok (.iload 4, 2) := by decide +kernel
theorem dM_sameLeaf_46 : decode prog_8_method_29_code 46 = .ok (.iaload, 1) := by decide +kernel
theorem dM_sameLeaf_47 : decode prog_8_method_29_code 47 = .ok (.isub, 1) := by decide +kernel
theorem dM_sameLeaf_48 : decode prog_8_method_29_code 48 = .ok (.if_icmp .eq 5, 3) := by decide +kernel
theorem dM_sameLeaf_51 : decode prog_8_method_29_code 51 = .ok (.iconst 0, 1) := by decide +kernel
theorem dM_sameLeaf_52 : decode prog_8_method_29_code 52 = .ok (.ireturn, 1) := by decide +kernel
theorem dM_sameLeaf_53 : decode prog_8_method_29_code 53 = .ok (.iconst 0, 1) := by decide +kernel
theorem dM_sameLeaf_54 : decode prog_8_method_29_code 54 = .ok (.istore 6, 2) := by decide +kernel
theorem dM_sameLeaf_56 : decode prog_8_method_29_code 56 = .ok (.iload 6, 2) := by decide +kernel
theorem dM_sameLeaf_58 : decode prog_8_method_29_code 58 = .ok (.iload 5, 2) := by decide +kernel
theorem dM_sameLeaf_60 : decode prog_8_method_29_code 60 = .ok (.if_icmp .ge 97, 3) := by decide +kernel
theorem dM_sameLeaf_63 : decode prog_8_method_29_code 63 = .ok (.aload_n 0, 1) := by decide +kernel
theorem dM_sameLeaf_64 : decode prog_8_method_29_code 64 = .ok (.getfield 7, 3) := by decide +kernel
theorem dM_sameLeaf_67 : decode prog_8_method_29_code 67 = .ok (.bipush 60, 2) := by decide +kernel
theorem dM_sameLeaf_69 : decode prog_8_method_29_code 69 = .ok (.iload_n 1, 1) := by decide +kernel
theorem dM_sameLeaf_70 : decode prog_8_method_29_code 70 = .ok (.imul, 1) := by decide +kernel
theorem dM_sameLeaf_71 : decode prog_8_method_29_code 71 = .ok (.aload_n 0, 1) := by decide +kernel
theorem dM_sameLeaf_72 : decode prog_8_method_29_code 72 = .ok (.getfield 26, 3) := by decide +kernel
theorem dM_sameLeaf_75 : decode prog_8_method_29_code 75 = .ok (.iload_n 2, 1) := by decide +kernel
theorem dM_sameLeaf_76 : decode prog_8_method_29_code 76 = .ok (.iaload, 1) := by decide +kernel
theorem dM_sameLeaf_77 : decode prog_8_method_29_code 77 = .ok (.iadd, 1) := by decide +kernel
theorem dM_sameLeaf_78 : decode prog_8_method_29_code 78 = .ok (.iload 6, 2) := by decide +kernel
theorem dM_sameLeaf_80 : decode prog_8_method_29_code 80 = .ok (.iadd, 1) := by decide +kernel
theorem dM_sameLeaf_81 : decode prog_8_method_29_code 81 = .ok (.caload, 1) := by decide +kernel
theorem dM_sameLeaf_82 : decode prog_8_method_29_code 82 = .ok (.aload_n 0, 1) := by decide +kernel
theorem dM_sameLeaf_83 : decode prog_8_method_29_code 83 = .ok (.getfield 7, 3) := by decide +kernel
theorem dM_sameLeaf_86 : decode prog_8_method_29_code 86 = .ok (.bipush 60, 2) := by decide +kernel
theorem dM_sameLeaf_88 : decode prog_8_method_29_code 88 = .ok (.iload_n 3, 1) := by decide +kernel
theorem dM_sameLeaf_89 : decode prog_8_method_29_code 89 = .ok (.imul, 1) := by decide +kernel
theorem dM_sameLeaf_90 : decode prog_8_method_29_code 90 = .ok (.aload_n 0, 1) := by decide +kernel
theorem dM_sameLeaf_91 : decode prog_8_method_29_code 91 = .ok (.getfield 26, 3) := by decide +kernel
theorem dM_sameLeaf_94 : decode prog_8_method_29_code 94 = .ok (.iload 4, 2) := by decide +kernel
theorem dM_sameLeaf_96 : decode prog_8_method_29_code 96 = .ok (.iaload, 1) := by decide +kernel
theorem dM_sameLeaf_97 : decode prog_8_method_29_code 97 = .ok (.iadd, 1) := by decide +kernel
theorem dM_sameLeaf_98 : decode prog_8_method_29_code 98 = .ok (.iload 6, 2) := by decide +kernel
theorem dM_sameLeaf_100 : decode prog_8_method_29_code 100 = .ok (.iadd, 1) := by decide +kernel
theorem dM_sameLeaf_101 : decode prog_8_method_29_code 101 = .ok (.caload, 1) := by decide +kernel
theorem dM_sameLeaf_102 : decode prog_8_method_29_code 102 = .ok (.if_icmp .eq 5, 3) := by decide +kernel
theorem dM_sameLeaf_105 : decode prog_8_method_29_code 105 = .ok (.iconst 0, 1) := by decide +kernel
theorem dM_sameLeaf_106 : decode prog_8_method_29_code 106 = .ok (.ireturn, 1) := by decide +kernel
theorem dM_sameLeaf_107 : decode prog_8_method_29_code 107 = .ok (.aload_n 0, 1) := by decide +kernel
theorem dM_sameLeaf_108 : decode prog_8_method_29_code 108 = .ok (.getfield 17, 3) := by decide +kernel
theorem dM_sameLeaf_111 : decode prog_8_method_29_code 111 = .ok (.bipush 61, 2) := by decide +kernel
theorem dM_sameLeaf_113 : decode prog_8_method_29_code 113 = .ok (.iload_n 1, 1) := by decide +kernel
theorem dM_sameLeaf_114 : decode prog_8_method_29_code 114 = .ok (.imul, 1) := by decide +kernel
theorem dM_sameLeaf_115 : decode prog_8_method_29_code 115 = .ok (.aload_n 0, 1) := by decide +kernel
theorem dM_sameLeaf_116 : decode prog_8_method_29_code 116 = .ok (.getfield 26, 3) := by decide +kernel
theorem dM_sameLeaf_119 : decode prog_8_method_29_code 119 = .ok (.iload_n 2, 1) := by decide +kernel
theorem dM_sameLeaf_120 : decode prog_8_method_29_code 120 = .ok (.iaload, 1) := by decide +kernel
theorem dM_sameLeaf_121 : decode prog_8_method_29_code 121 = .ok (.iadd, 1) := by decide +kernel
theorem dM_sameLeaf_122 : decode prog_8_method_29_code 122 = .ok (.iload 6, 2) := by decide +kernel
theorem dM_sameLeaf_124 : decode prog_8_method_29_code 124 = .ok (.iadd, 1) := by decide +kernel
theorem dM_sameLeaf_125 : decode prog_8_method_29_code 125 = .ok (.iaload, 1) := by decide +kernel
theorem dM_sameLeaf_126 : decode prog_8_method_29_code 126 = .ok (.aload_n 0, 1) := by decide +kernel
theorem dM_sameLeaf_127 : decode prog_8_method_29_code 127 = .ok (.getfield 17, 3) := by decide +kernel
theorem dM_sameLeaf_130 : decode prog_8_method_29_code 130 = .ok (.bipush 61, 2) := by decide +kernel
theorem dM_sameLeaf_132 : decode prog_8_method_29_code 132 = .ok (.iload_n 3, 1) := by decide +kernel
theorem dM_sameLeaf_133 : decode prog_8_method_29_code 133 = .ok (.imul, 1) := by decide +kernel
theorem dM_sameLeaf_134 : decode prog_8_method_29_code 134 = .ok (.aload_n 0, 1) := by decide +kernel
theorem dM_sameLeaf_135 : decode prog_8_method_29_code 135 = .ok (.getfield 26, 3) := by decide +kernel
theorem dM_sameLeaf_138 : decode prog_8_method_29_code 138 = .ok (.iload 4, 2) := by decide +kernel
theorem dM_sameLeaf_140 : decode prog_8_method_29_code 140 = .ok (.iaload, 1) := by decide +kernel
theorem dM_sameLeaf_141 : decode prog_8_method_29_code 141 = .ok (.iadd, 1) := by decide +kernel
theorem dM_sameLeaf_142 : decode prog_8_method_29_code 142 = .ok (.iload 6, 2) := by decide +kernel
theorem dM_sameLeaf_144 : decode prog_8_method_29_code 144 = .ok (.iadd, 1) := by decide +kernel
theorem dM_sameLeaf_145 : decode prog_8_method_29_code 145 = .ok (.iaload, 1) := by decide +kernel
theorem dM_sameLeaf_146 : decode prog_8_method_29_code 146 = .ok (.if_icmp .eq 5, 3) := by decide +kernel
theorem dM_sameLeaf_149 : decode prog_8_method_29_code 149 = .ok (.iconst 0, 1) := by decide +kernel
theorem dM_sameLeaf_150 : decode prog_8_method_29_code 150 = .ok (.ireturn, 1) := by decide +kernel
theorem dM_sameLeaf_151 : decode prog_8_method_29_code 151 = .ok (.iinc 6 1, 3) := by decide +kernel
theorem dM_sameLeaf_154 : decode prog_8_method_29_code 154 = .ok (.goto (-98), 3) := by decide +kernel
theorem dM_sameLeaf_157 : decode prog_8_method_29_code 157 = .ok (.iconst 1, 1) := by decide +kernel
theorem dM_sameLeaf_158 : decode prog_8_method_29_code 158 = .ok (.ireturn, 1) := by decide +kernel
theorem dM_alike_0 : decode prog_8_method_30_code 0 = .ok (.sipush 400, 3) := by decide +kernel
theorem dM_alike_3 : decode prog_8_method_30_code 3 = .ok (.iload_n 1, 1) := by decide +kernel
theorem dM_alike_4 : decode prog_8_method_30_code 4 = .ok (.imul, 1) := by decide +kernel
theorem dM_alike_5 : decode prog_8_method_30_code 5 = .ok (.iload_n 2, 1) := by decide +kernel
theorem dM_alike_6 : decode prog_8_method_30_code 6 = .ok (.iadd, 1) := by decide +kernel
theorem dM_alike_7 : decode prog_8_method_30_code 7 = .ok (.istore 5, 2) := by decide +kernel
theorem dM_alike_9 : decode prog_8_method_30_code 9 = .ok (.sipush 400, 3) := by decide +kernel
theorem dM_alike_12 : decode prog_8_method_30_code 12 = .ok (.iload_n 3, 1) := by decide +kernel
theorem dM_alike_13 : decode prog_8_method_30_code 13 = .ok (.imul, 1) := by decide +kernel
theorem dM_alike_14 : decode prog_8_method_30_code 14 = .ok (.iload 4, 2) := by decide +kernel
theorem dM_alike_16 : decode prog_8_method_30_code 16 = .ok (.iadd, 1) := by decide +kernel
theorem dM_alike_17 : decode prog_8_method_30_code 17 = .ok (.istore 6, 2) := by decide +kernel
theorem dM_alike_19 : decode prog_8_method_30_code 19 = .ok (.aload_n 0, 1) := by decide +kernel
theorem dM_alike_20 : decode prog_8_method_30_code 20 = .ok (.getfield 44, 3) := by decide +kernel
theorem dM_alike_23 : decode prog_8_method_30_code 23 = .ok (.iload 5, 2) := by decide +kernel
theorem dM_alike_25 : decode prog_8_method_30_code 25 = .ok (.iaload, 1) := by decide +kernel
theorem dM_alike_26 : decode prog_8_method_30_code 26 = .ok (.aload_n 0, 1) := by decide +kernel
theorem dM_alike_27 : decode prog_8_method_30_code 27 = .ok (.getfield 44, 3) := by decide +kernel
theorem dM_alike_30 : decode prog_8_method_30_code 30 = .ok (.iload 6, 2) := by decide +kernel
theorem dM_alike_32 : decode prog_8_method_30_code 32 = .ok (.iaload, 1) := by decide +kernel
theorem dM_alike_33 : decode prog_8_method_30_code 33 = .ok (.if_icmp .eq 5, 3) := by decide +kernel
theorem dM_alike_36 : decode prog_8_method_30_code 36 = .ok (.iconst 0, 1) := by decide +kernel
theorem dM_alike_37 : decode prog_8_method_30_code 37 = .ok (.ireturn, 1) := by decide +kernel
theorem dM_alike_38 : decode prog_8_method_30_code 38 = .ok (.iconst 0, 1) := by decide +kernel
theorem dM_alike_39 : decode prog_8_method_30_code 39 = .ok (.istore 7, 2) := by decide +kernel
theorem dM_alike_41 : decode prog_8_method_30_code 41 = .ok (.iload 7, 2) := by decide +kernel
theorem dM_alike_43 : decode prog_8_method_30_code 43 = .ok (.aload_n 0, 1) := by decide +kernel
theorem dM_alike_44 : decode prog_8_method_30_code 44 = .ok (.getfield 44, 3) := by decide +kernel
theorem dM_alike_47 : decode prog_8_method_30_code 47 = .ok (.iload 5, 2) := by decide +kernel
theorem dM_alike_49 : decode prog_8_method_30_code 49 = .ok (.iaload, 1) := by decide +kernel
theorem dM_alike_50 : decode prog_8_method_30_code 50 = .ok (.if_icmp .ge 91, 3) := by decide +kernel
theorem dM_alike_53 : decode prog_8_method_30_code 53 = .ok (.aload_n 0, 1) := by decide +kernel
theorem dM_alike_54 : decode prog_8_method_30_code 54 = .ok (.getfield 23, 3) := by decide +kernel
theorem dM_alike_57 : decode prog_8_method_30_code 57 = .ok (.iload 5, 2) := by decide +kernel
theorem dM_alike_59 : decode prog_8_method_30_code 59 = .ok (.iload 7, 2) := by decide +kernel
theorem dM_alike_61 : decode prog_8_method_30_code 61 = .ok (.iadd, 1) := by decide +kernel
theorem dM_alike_62 : decode prog_8_method_30_code 62 = .ok (.iaload, 1) := by decide +kernel
theorem dM_alike_63 : decode prog_8_method_30_code 63 = .ok (.aload_n 0, 1) := by decide +kernel
theorem dM_alike_64 : decode prog_8_method_30_code 64 = .ok (.getfield 23, 3) := by decide +kernel
theorem dM_alike_67 : decode prog_8_method_30_code 67 = .ok (.iload 6, 2) := by decide +kernel
theorem dM_alike_69 : decode prog_8_method_30_code 69 = .ok (.iload 7, 2) := by decide +kernel
theorem dM_alike_71 : decode prog_8_method_30_code 71 = .ok (.iadd, 1) := by decide +kernel
theorem dM_alike_72 : decode prog_8_method_30_code 72 = .ok (.iaload, 1) := by decide +kernel
theorem dM_alike_73 : decode prog_8_method_30_code 73 = .ok (.if_icmp .ne 26, 3) := by decide +kernel
theorem dM_alike_76 : decode prog_8_method_30_code 76 = .ok (.aload_n 0, 1) := by decide +kernel
theorem dM_alike_77 : decode prog_8_method_30_code 77 = .ok (.getfield 38, 3) := by decide +kernel
theorem dM_alike_80 : decode prog_8_method_30_code 80 = .ok (.iload 5, 2) := by decide +kernel
theorem dM_alike_82 : decode prog_8_method_30_code 82 = .ok (.iload 7, 2) := by decide +kernel
theorem dM_alike_84 : decode prog_8_method_30_code 84 = .ok (.iadd, 1) := by decide +kernel
theorem dM_alike_85 : decode prog_8_method_30_code 85 = .ok (.iaload, 1) := by decide +kernel
theorem dM_alike_86 : decode prog_8_method_30_code 86 = .ok (.aload_n 0, 1) := by decide +kernel
theorem dM_alike_87 : decode prog_8_method_30_code 87 = .ok (.getfield 38, 3) := by decide +kernel
theorem dM_alike_90 : decode prog_8_method_30_code 90 = .ok (.iload 6, 2) := by decide +kernel
theorem dM_alike_92 : decode prog_8_method_30_code 92 = .ok (.iload 7, 2) := by decide +kernel
theorem dM_alike_94 : decode prog_8_method_30_code 94 = .ok (.iadd, 1) := by decide +kernel
theorem dM_alike_95 : decode prog_8_method_30_code 95 = .ok (.iaload, 1) := by decide +kernel
theorem dM_alike_96 : decode prog_8_method_30_code 96 = .ok (.if_icmp .eq 5, 3) := by decide +kernel
theorem dM_alike_99 : decode prog_8_method_30_code 99 = .ok (.iconst 0, 1) := by decide +kernel
theorem dM_alike_100 : decode prog_8_method_30_code 100 = .ok (.ireturn, 1) := by decide +kernel
theorem dM_alike_101 : decode prog_8_method_30_code 101 = .ok (.aload_n 0, 1) := by decide +kernel
theorem dM_alike_102 : decode prog_8_method_30_code 102 = .ok (.getfield 38, 3) := by decide +kernel
theorem dM_alike_105 : decode prog_8_method_30_code 105 = .ok (.iload 5, 2) := by decide +kernel
theorem dM_alike_107 : decode prog_8_method_30_code 107 = .ok (.iload 7, 2) := by decide +kernel
theorem dM_alike_109 : decode prog_8_method_30_code 109 = .ok (.iadd, 1) := by decide +kernel
theorem dM_alike_110 : decode prog_8_method_30_code 110 = .ok (.iaload, 1) := by decide +kernel
theorem dM_alike_111 : decode prog_8_method_30_code 111 = .ok (.ifCond .ne 24, 3) := by decide +kernel
theorem dM_alike_114 : decode prog_8_method_30_code 114 = .ok (.aload_n 0, 1) := by decide +kernel
theorem dM_alike_115 : decode prog_8_method_30_code 115 = .ok (.iload_n 1, 1) := by decide +kernel
theorem dM_alike_116 : decode prog_8_method_30_code 116 = .ok (.iload 5, 2) := by decide +kernel
theorem dM_alike_118 : decode prog_8_method_30_code 118 = .ok (.iload 7, 2) := by decide +kernel
theorem dM_alike_120 : decode prog_8_method_30_code 120 = .ok (.iadd, 1) := by decide +kernel
theorem dM_alike_121 : decode prog_8_method_30_code 121 = .ok (.iload_n 3, 1) := by decide +kernel
theorem dM_alike_122 : decode prog_8_method_30_code 122 = .ok (.iload 6, 2) := by decide +kernel
theorem dM_alike_124 : decode prog_8_method_30_code 124 = .ok (.iload 7, 2) := by decide +kernel
theorem dM_alike_126 : decode prog_8_method_30_code 126 = .ok (.iadd, 1) := by decide +kernel
theorem dM_alike_127 : decode prog_8_method_30_code 127 = .ok (.invokevirtual 220, 3) := by decide +kernel
theorem dM_alike_130 : decode prog_8_method_30_code 130 = .ok (.ifCond .ne 5, 3) := by decide +kernel
theorem dM_alike_133 : decode prog_8_method_30_code 133 = .ok (.iconst 0, 1) := by decide +kernel
theorem dM_alike_134 : decode prog_8_method_30_code 134 = .ok (.ireturn, 1) := by decide +kernel
theorem dM_alike_135 : decode prog_8_method_30_code 135 = .ok (.iinc 7 1, 3) := by decide +kernel
theorem dM_alike_138 : decode prog_8_method_30_code 138 = .ok (.goto (-97), 3) := by decide +kernel
theorem dM_alike_141 : decode prog_8_method_30_code 141 = .ok (.iconst 1, 1) := by decide +kernel
theorem dM_alike_142 : decode prog_8_method_30_code 142 = .ok (.ireturn, 1) := by decide +kernel
theorem dM_type_0 : decode prog_8_method_31_code 0 = .ok (.iload_n 1, 1) := by decide +kernel
theorem dM_type_1 : decode prog_8_method_31_code 1 = .ok (.bipush 10, 2) := by decide +kernel
theorem dM_type_3 : decode prog_8_method_31_code 3 = .ok (.if_icmp .eq 15, 3) := by decide +kernel
theorem dM_type_6 : decode prog_8_method_31_code 6 = .ok (.iload_n 1, 1) := by decide +kernel
theorem dM_type_7 : decode prog_8_method_31_code 7 = .ok (.bipush 32, 2) := by decide +kernel
theorem dM_type_9 : decode prog_8_method_31_code 9 = .ok (.if_icmp .lt 18, 3) := by decide +kernel
theorem dM_type_12 : decode prog_8_method_31_code 12 = .ok (.iload_n 1, 1) := by decide +kernel
theorem dM_type_13 : decode prog_8_method_31_code 13 = .ok (.bipush 126, 2) := by decide +kernel
theorem dM_type_15 : decode prog_8_method_31_code 15 = .ok (.if_icmp .gt 12, 3) := by decide +kernel
theorem dM_type_18 : decode prog_8_method_31_code 18 = .ok (.aload_n 0, 1) := by decide +kernel
theorem dM_type_19 : decode prog_8_method_31_code 19 = .ok (.getfield 224, 3) := by decide +kernel
theorem dM_type_22 : decode prog_8_method_31_code 22 = .ok (.bipush 20, 2) := by decide +kernel
theorem dM_type_24 : decode prog_8_method_31_code 24 = .ok (.if_icmp .lt 5, 3) := by decide +kernel
theorem dM_type_27 : decode prog_8_method_31_code 27 = .ok (.iconst 0, 1) := by decide +kernel
theorem dM_type_28 : decode prog_8_method_31_code 28 = .ok (.ireturn, 1) := by decide +kernel
theorem dM_type_29 : decode prog_8_method_31_code 29 = .ok (.aload_n 0, 1) := by decide +kernel
theorem dM_type_30 : decode prog_8_method_31_code 30 = .ok (.getfield 53, 3) := by decide +kernel
theorem dM_type_33 : decode prog_8_method_31_code 33 = .ok (.aload_n 0, 1) := by decide +kernel
theorem dM_type_34 : decode prog_8_method_31_code 34 = .ok (.getfield 224, 3) := by decide +kernel
theorem dM_type_37 : decode prog_8_method_31_code 37 = .ok (.iload_n 1, 1) := by decide +kernel
theorem dM_type_38 : decode prog_8_method_31_code 38 = .ok (.castore, 1) := by decide +kernel
theorem dM_type_39 : decode prog_8_method_31_code 39 = .ok (.aload_n 0, 1) := by decide +kernel
theorem dM_type_40 : decode prog_8_method_31_code 40 = .ok (.dup, 1) := by decide +kernel
theorem dM_type_41 : decode prog_8_method_31_code 41 = .ok (.getfield 224, 3) := by decide +kernel
theorem dM_type_44 : decode prog_8_method_31_code 44 = .ok (.iconst 1, 1) := by decide +kernel
theorem dM_type_45 : decode prog_8_method_31_code 45 = .ok (.iadd, 1) := by decide +kernel
theorem dM_type_46 : decode prog_8_method_31_code 46 = .ok (.putfield 224, 3) := by decide +kernel
theorem dM_type_49 : decode prog_8_method_31_code 49 = .ok (.iconst 1, 1) := by decide +kernel
theorem dM_type_50 : decode prog_8_method_31_code 50 = .ok (.ireturn, 1) := by decide +kernel
theorem dM_keep_0 : decode prog_8_method_32_code 0 = .ok (.aload_n 0, 1) := by decide +kernel
theorem dM_keep_1 : decode prog_8_method_32_code 1 = .ok (.getfield 227, 3) := by decide +kernel
theorem dM_keep_4 : decode prog_8_method_32_code 4 = .ok (.iconst 3, 1) := by decide +kernel
theorem dM_keep_5 : decode prog_8_method_32_code 5 = .ok (.if_icmp .ne 61, 3) := by decide +kernel
theorem dM_keep_8 : decode prog_8_method_32_code 8 = .ok (.iconst 0, 1) := by decide +kernel
theorem dM_keep_9 : decode prog_8_method_32_code 9 = .ok (.istore_n 1, 1) := by decide +kernel
theorem dM_keep_10 : decode prog_8_method_32_code 10 = .ok (.iload_n 1, 1) := by decide +kernel
theorem dM_keep_11 : decode prog_8_method_32_code 11 = .ok (.bipush 120, 2) := by decide +kernel
theorem dM_keep_13 : decode prog_8_method_32_code 13 = .ok (.if_icmp .ge 24, 3) := by decide +kernel
theorem dM_keep_16 : decode prog_8_method_32_code 16 = .ok (.aload_n 0, 1) := by decide +kernel
theorem dM_keep_17 : decode prog_8_method_32_code 17 = .ok (.getfield 47, 3) := by decide +kernel
theorem dM_keep_20 : decode prog_8_method_32_code 20 = .ok (.iload_n 1, 1) := by decide +kernel
theorem dM_keep_21 : decode prog_8_method_32_code 21 = .ok (.aload_n 0, 1) := by decide +kernel
theorem dM_keep_22 : decode prog_8_method_32_code 22 = .ok (.getfield 47, 3) := by decide +kernel
theorem dM_keep_25 : decode prog_8_method_32_code 25 = .ok (.iload_n 1, 1) := by decide +kernel
theorem dM_keep_26 : decode prog_8_method_32_code 26 = .ok (.bipush 60, 2) := by decide +kernel
theorem dM_keep_28 : decode prog_8_method_32_code 28 = .ok (.iadd, 1) := by decide +kernel
theorem dM_keep_29 : decode prog_8_method_32_code 29 = .ok (.caload, 1) := by decide +kernel
theorem dM_keep_30 : decode prog_8_method_32_code 30 = .ok (.castore, 1) := by decide +kernel
theorem dM_keep_31 : decode prog_8_method_32_code 31 = .ok (.iinc 1 1, 3) := by decide +kernel
theorem dM_keep_34 : decode prog_8_method_32_code 34 = .ok (.goto (-24), 3) := by decide +kernel
theorem dM_keep_37 : decode prog_8_method_32_code 37 = .ok (.aload_n 0, 1) := by decide +kernel
theorem dM_keep_38 : decode prog_8_method_32_code 38 = .ok (.getfield 50, 3) := by decide +kernel
theorem dM_keep_41 : decode prog_8_method_32_code 41 = .ok (.iconst 0, 1) := by decide +kernel
theorem dM_keep_42 : decode prog_8_method_32_code 42 = .ok (.aload_n 0, 1) := by decide +kernel
theorem dM_keep_43 : decode prog_8_method_32_code 43 = .ok (.getfield 50, 3) := by decide +kernel
theorem dM_keep_46 : decode prog_8_method_32_code 46 = .ok (.iconst 1, 1) := by decide +kernel
theorem dM_keep_47 : decode prog_8_method_32_code 47 = .ok (.iaload, 1) := by decide +kernel
theorem dM_keep_48 : decode prog_8_method_32_code 48 = .ok (.iastore, 1) := by decide +kernel
theorem dM_keep_49 : decode prog_8_method_32_code 49 = .ok (.aload_n 0, 1) := by decide +kernel
theorem dM_keep_50 : decode prog_8_method_32_code 50 = .ok (.getfield 50, 3) := by decide +kernel
theorem dM_keep_53 : decode prog_8_method_32_code 53 = .ok (.iconst 1, 1) := by decide +kernel
theorem dM_keep_54 : decode prog_8_method_32_code 54 = .ok (.aload_n 0, 1) := by decide +kernel
theorem dM_keep_55 : decode prog_8_method_32_code 55 = .ok (.getfield 50, 3) := by decide +kernel
theorem dM_keep_58 : decode prog_8_method_32_code 58 = .ok (.iconst 2, 1) := by decide +kernel
theorem dM_keep_59 : decode prog_8_method_32_code 59 = .ok (.iaload, 1) := by decide +kernel
theorem dM_keep_60 : decode prog_8_method_32_code 60 = .ok (.iastore, 1) := by decide +kernel
theorem dM_keep_61 : decode prog_8_method_32_code 61 = .ok (.aload_n 0, 1) := by decide +kernel
theorem dM_keep_62 : decode prog_8_method_32_code 62 = .ok (.iconst 2, 1) := by decide +kernel
theorem dM_keep_63 : decode prog_8_method_32_code 63 = .ok (.putfield 227, 3) := by decide +kernel
theorem dM_keep_66 : decode prog_8_method_32_code 66 = .ok (.iconst 0, 1) := by decide +kernel
theorem dM_keep_67 : decode prog_8_method_32_code 67 = .ok (.istore_n 1, 1) := by decide +kernel
theorem dM_keep_68 : decode prog_8_method_32_code 68 = .ok (.iload_n 1, 1) := by decide +kernel
theorem dM_keep_69 : decode prog_8_method_32_code 69 = .ok (.aload_n 0, 1) := by decide +kernel
theorem dM_keep_70 : decode prog_8_method_32_code 70 = .ok (.getfield 13, 3) := by decide +kernel
theorem dM_keep_73 : decode prog_8_method_32_code 73 = .ok (.aload_n 0, 1) := by decide +kernel
theorem dM_keep_74 : decode prog_8_method_32_code 74 = .ok (.getfield 230, 3) := by decide +kernel
theorem dM_keep_77 : decode prog_8_method_32_code 77 = .ok (.iaload, 1) := by decide +kernel
theorem dM_keep_78 : decode prog_8_method_32_code 78 = .ok (.if_icmp .ge 37, 3) := by decide +kernel
theorem dM_keep_81 : decode prog_8_method_32_code 81 = .ok (.aload_n 0, 1) := by decide +kernel
theorem dM_keep_82 : decode prog_8_method_32_code 82 = .ok (.getfield 47, 3) := by decide +kernel
theorem dM_keep_85 : decode prog_8_method_32_code 85 = .ok (.bipush 60, 2) := by decide +kernel
theorem dM_keep_87 : decode prog_8_method_32_code 87 = .ok (.aload_n 0, 1) := by decide +kernel
theorem dM_keep_88 : decode prog_8_method_32_code 88 = .ok (.getfield 227, 3) := by decide +kernel
theorem dM_keep_91 : decode prog_8_method_32_code 91 = .ok (.imul, 1) := by decide +kernel
theorem dM_keep_92 : decode prog_8_method_32_code 92 = .ok (.iload_n 1, 1) := by decide +kernel
theorem dM_keep_93 : decode prog_8_method_32_code 93 = .ok (.iadd, 1) := by decide +kernel
theorem dM_keep_94 : decode prog_8_method_32_code 94 = .ok (.aload_n 0, 1) := by decide +kernel
theorem dM_keep_95 : decode prog_8_method_32_code 95 = .ok (.getfield 7, 3) := by decide +kernel
theorem dM_keep_98 : decode prog_8_method_32_code 98 = .ok (.bipush 60, 2) := by decide +kernel
theorem dM_keep_100 : decode prog_8_method_32_code 100 = .ok (.aload_n 0, 1) := by decide +kernel
theorem dM_keep_101 : decode prog_8_method_32_code 101 = .ok (.getfield 230, 3) := by decide +kernel
theorem dM_keep_104 : decode prog_8_method_32_code 104 = .ok (.imul, 1) := by decide +kernel
theorem dM_keep_105 : decode prog_8_method_32_code 105 = .ok (.iload_n 1, 1) := by decide +kernel
theorem dM_keep_106 : decode prog_8_method_32_code 106 = .ok (.iadd, 1) := by decide +kernel
theorem dM_keep_107 : decode prog_8_method_32_code 107 = .ok (.caload, 1) := by decide +kernel
theorem dM_keep_108 : decode prog_8_method_32_code 108 = .ok (.castore, 1) := by decide +kernel
theorem dM_keep_109 : decode prog_8_method_32_code 109 = .ok (.iinc 1 1, 3) := by decide +kernel
theorem dM_keep_112 : decode prog_8_method_32_code 112 = .ok (.goto (-44), 3) := by decide +kernel
theorem dM_keep_115 : decode prog_8_method_32_code 115 = .ok (.aload_n 0, 1) := by decide +kernel
theorem dM_keep_116 : decode prog_8_method_32_code 116 = .ok (.getfield 50, 3) := by decide +kernel
theorem dM_keep_119 : decode prog_8_method_32_code 119 = .ok (.aload_n 0, 1) := by decide +kernel
theorem dM_keep_120 : decode prog_8_method_32_code 120 = .ok (.getfield 227, 3) := by decide +kernel
theorem dM_keep_123 : decode prog_8_method_32_code 123 = .ok (.aload_n 0, 1) := by decide +kernel
theorem dM_keep_124 : decode prog_8_method_32_code 124 = .ok (.getfield 13, 3) := by decide +kernel
theorem dM_keep_127 : decode prog_8_method_32_code 127 = .ok (.aload_n 0, 1) := by decide +kernel
theorem dM_keep_128 : decode prog_8_method_32_code 128 = .ok (.getfield 230, 3) := by decide +kernel
theorem dM_keep_131 : decode prog_8_method_32_code 131 = .ok (.iaload, 1) := by decide +kernel
theorem dM_keep_132 : decode prog_8_method_32_code 132 = .ok (.iastore, 1) := by decide +kernel
theorem dM_keep_133 : decode prog_8_method_32_code 133 = .ok (.aload_n 0, 1) := by decide +kernel
theorem dM_keep_134 : decode prog_8_method_32_code 134 = .ok (.dup, 1) := by decide +kernel
theorem dM_keep_135 : decode prog_8_method_32_code 135 = .ok (.getfield 227, 3) := by decide +kernel
theorem dM_keep_138 : decode prog_8_method_32_code 138 = .ok (.iconst 1, 1) := by decide +kernel
theorem dM_keep_139 : decode prog_8_method_32_code 139 = .ok (.iadd, 1) := by decide +kernel
theorem dM_keep_140 : decode prog_8_method_32_code 140 = .ok (.putfield 227, 3) := by decide +kernel
theorem dM_keep_143 : decode prog_8_method_32_code 143 = .ok (.return_, 1) := by decide +kernel
theorem dM_reused_0 : decode prog_8_method_33_code 0 = .ok (.aload_n 0, 1) := by decide +kernel
theorem dM_reused_1 : decode prog_8_method_33_code 1 = .ok (.getfield 26, 3) := by decide +kernel
theorem dM_reused_4 : decode prog_8_method_33_code 4 = .ok (.sipush 400, 3) := by decide +kernel
theorem dM_reused_7 : decode prog_8_method_33_code 7 = .ok (.iconst 1, 1) := by decide +kernel
theorem dM_reused_8 : decode prog_8_method_33_code 8 = .ok (.iload_n 1, 1) := by decide +kernel
theorem dM_reused_9 : decode prog_8_method_33_code 9 = .ok (.isub, 1) := by decide +kernel
theorem dM_reused_10 : decode prog_8_method_33_code 10 = .ok (.imul, 1) := by decide +kernel
theorem dM_reused_11 : decode prog_8_method_33_code 11 = .ok (.iload_n 2, 1) := by decide +kernel
theorem dM_reused_12 : decode prog_8_method_33_code 12 = .ok (.iadd, 1) := by decide +kernel
theorem dM_reused_13 : decode prog_8_method_33_code 13 = .ok (.iaload, 1) := by decide +kernel
theorem dM_reused_14 : decode prog_8_method_33_code 14 = .ok (.istore 6, 2) := by decide +kernel
theorem dM_reused_16 : decode prog_8_method_33_code 16 = .ok (.iconst 0, 1) := by decide +kernel
theorem dM_reused_17 : decode prog_8_method_33_code 17 = .ok (.istore 7, 2) := by decide +kernel
theorem dM_reused_19 : decode prog_8_method_33_code 19 = .ok (.iload 7, 2) := by decide +kernel
theorem dM_reused_21 : decode prog_8_method_33_code 21 = .ok (.aload_n 0, 1) := by decide +kernel
theorem dM_reused_22 : decode prog_8_method_33_code 22 = .ok (.getfield 20, 3) := by decide +kernel
theorem dM_reused_25 : decode prog_8_method_33_code 25 = .ok (.iload_n 1, 1) := by decide +kernel
theorem dM_reused_26 : decode prog_8_method_33_code 26 = .ok (.iaload, 1) := by decide +kernel
theorem dM_reused_27 : decode prog_8_method_33_code 27 = .ok (.if_icmp .ge 110, 3) := by decide +kernel
theorem dM_reused_30 : decode prog_8_method_33_code 30 = .ok (.aload_n 0, 1) := by decide +kernel
theorem dM_reused_31 : decode prog_8_method_33_code 31 = .ok (.getfield 26, 3) := by decide +kernel
theorem dM_reused_34 : decode prog_8_method_33_code 34 = .ok (.sipush 400, 3) := by decide +kernel
theorem dM_reused_37 : decode prog_8_method_33_code 37 = .ok (.iload_n 1, 1) := by decide +kernel
theorem dM_reused_38 : decode prog_8_method_33_code 38 = .ok (.imul, 1) := by decide +kernel
theorem dM_reused_39 : decode prog_8_method_33_code 39 = .ok (.iload 7, 2) := by decide +kernel
theorem dM_reused_41 : decode prog_8_method_33_code 41 = .ok (.iadd, 1) := by decide +kernel
theorem dM_reused_42 : decode prog_8_method_33_code 42 = .ok (.iaload, 1) := by decide +kernel
theorem dM_reused_43 : decode prog_8_method_33_code 43 = .ok (.istore 8, 2) := by decide +kernel
theorem dM_reused_45 : decode prog_8_method_33_code 45 = .ok (.iload 8, 2) := by decide +kernel
theorem dM_reused_47 : decode prog_8_method_33_code 47 = .ok (.iload 6, 2) := by decide +kernel
theorem dM_reused_49 : decode prog_8_method_33_code 49 = .ok (.if_icmp .ne 24, 3) := by decide +kernel
theorem dM_reused_52 : decode prog_8_method_33_code 52 = .ok (.aload_n 0, 1) := by decide +kernel
theorem dM_reused_53 : decode prog_8_method_33_code 53 = .ok (.getfield 29, 3) := by decide +kernel
theorem dM_reused_56 : decode prog_8_method_33_code 56 = .ok (.sipush 400, 3) := by decide +kernel
theorem dM_reused_59 : decode prog_8_method_33_code 59 = .ok (.iload_n 1, 1) := by decide +kernel
theorem dM_reused_60 : decode prog_8_method_33_code 60 = .ok (.imul, 1) := by decide +kernel
theorem dM_reused_61 : decode prog_8_method_33_code 61 = .ok (.iload 7, 2) := by decide +kernel
theorem dM_reused_63 : decode prog_8_method_33_code 63 = .ok (.iadd, 1) := by decide +kernel
theorem dM_reused_64 : decode prog_8_method_33_code 64 = .ok (.iaload, 1) := by decide +kernel
theorem dM_reused_65 : decode prog_8_method_33_code 65 = .ok (.iload_n 3, 1) := by decide +kernel
theorem dM_reused_66 : decode prog_8_method_33_code 66 = .ok (.if_icmp .gt 7, 3) := by decide +kernel
theorem dM_reused_69 : decode prog_8_method_33_code 69 = .ok (.iconst 1, 1) := by decide +kernel
theorem dM_reused_70 : decode prog_8_method_33_code 70 = .ok (.goto 4, 3) := by decide +kernel
theorem dM_reused_73 : decode prog_8_method_33_code 73 = .ok (.iconst 0, 1) := by decide +kernel
theorem dM_reused_74 : decode prog_8_method_33_code 74 = .ok (.istore 9, 2) := by decide +kernel
theorem dM_reused_76 : decode prog_8_method_33_code 76 = .ok (.iload 8, 2) := by decide +kernel
theorem dM_reused_78 : decode prog_8_method_33_code 78 = .ok (.iload_n 3, 1) := by decide +kernel
theorem dM_reused_79 : decode prog_8_method_33_code 79 = .ok (.iload 4, 2) := by decide +kernel
theorem dM_reused_81 : decode prog_8_method_33_code 81 = .ok (.iadd, 1) := by decide +kernel
theorem dM_reused_82 : decode prog_8_method_33_code 82 = .ok (.if_icmp .lt 20, 3) := by decide +kernel
theorem dM_reused_85 : decode prog_8_method_33_code 85 = .ok (.iload 6, 2) := by decide +kernel
theorem dM_reused_87 : decode prog_8_method_33_code 87 = .ok (.iload 8, 2) := by decide +kernel
theorem dM_reused_89 : decode prog_8_method_33_code 89 = .ok (.iload 4, 2) := by decide +kernel
theorem dM_reused_91 : decode prog_8_method_33_code 91 = .ok (.isub, 1) := by decide +kernel
theorem dM_reused_92 : decode prog_8_method_33_code 92 = .ok (.iload 5, 2) := by decide +kernel
theorem dM_reused_94 : decode prog_8_method_33_code 94 = .ok (.iadd, 1) := by decide +kernel
theorem dM_reused_95 : decode prog_8_method_33_code 95 = .ok (.if_icmp .ne 7, 3) := by decide +kernel
theorem dM_reused_98 : decode prog_8_method_33_code 98 = .ok (.iconst 1, 1) := by decide +kernel
theorem dM_reused_99 : decode prog_8_method_33_code 99 = .ok (.goto 4, 3) := by decide +kernel
theorem dM_reused_102 : decode prog_8_method_33_code 102 = .ok (.iconst 0, 1) := by decide +kernel
theorem dM_reused_103 : decode prog_8_method_33_code 103 = .ok (.istore 10, 2) := by decide +kernel
theorem dM_reused_105 : decode prog_8_method_33_code 105 = .ok (.iload 9, 2) := by decide +kernel
theorem dM_reused_107 : decode prog_8_method_33_code 107 = .ok (.ifCond .ne 8, 3) := by decide +kernel
theorem dM_reused_110 : decode prog_8_method_33_code 110 = .ok (.iload 10, 2) := by decide +kernel
theorem dM_reused_112 : decode prog_8_method_33_code 112 = .ok (.ifCond .eq 19, 3) := by decide +kernel
theorem dM_reused_115 : decode prog_8_method_33_code 115 = .ok (.aload_n 0, 1) := by decide +kernel
theorem dM_reused_116 : decode prog_8_method_33_code 116 = .ok (.iconst 1, 1) := by decide +kernel
theorem dM_reused_117 : decode prog_8_method_33_code 117 = .ok (.iload_n 1, 1) := by decide +kernel
theorem dM_reused_118 : decode prog_8_method_33_code 118 = .ok (.isub, 1) := by decide +kernel
theorem dM_reused_119 : decode prog_8_method_33_code 119 = .ok (.iload_n 2, 1) := by decide +kernel
theorem dM_reused_120 : decode prog_8_method_33_code 120 = .ok (.iload_n 1, 1) := by decide +kernel
theorem dM_reused_121 : decode prog_8_method_33_code 121 = .ok (.iload 7, 2) := by decide +kernel
theorem dM_reused_123 : decode prog_8_method_33_code 123 = .ok (.invokevirtual 233, 3) := by decide +kernel
theorem dM_reused_126 : decode prog_8_method_33_code 126 = .ok (.ifCond .eq 5, 3) := by decide +kernel
theorem dM_reused_129 : decode prog_8_method_33_code 129 = .ok (.iconst 1, 1) := by decide +kernel
theorem dM_reused_130 : decode prog_8_method_33_code 130 = .ok (.ireturn, 1) := by decide +kernel
theorem dM_reused_131 : decode prog_8_method_33_code 131 = .ok (.iinc 7 1, 3) := by decide +kernel
theorem dM_reused_134 : decode prog_8_method_33_code 134 = .ok (.goto (-115), 3) := by decide +kernel
theorem dM_reused_137 : decode prog_8_method_33_code 137 = .ok (.iconst 0, 1) := by decide +kernel
theorem dM_reused_138 : decode prog_8_method_33_code 138 = .ok (.ireturn, 1) := by decide +kernel
