/-! decode rows -/
theorem dM_edit_0 : decode prog_8_method_34_code 0 = .ok (.aload_n 0, 1) := by decide +kernel
theorem dM_edit_1 : decode prog_8_method_34_code 1 = .ok (.getfield 224, 3) := by decide +kernel
theorem dM_edit_4 : decode prog_8_method_34_code 4 = .ok (.istore_n 3, 1) := by decide +kernel
theorem dM_edit_5 : decode prog_8_method_34_code 5 = .ok (.aload_n 0, 1) := by decide +kernel
theorem dM_edit_6 : decode prog_8_method_34_code 6 = .ok (.iconst 0, 1) := by decide +kernel
theorem dM_edit_7 : decode prog_8_method_34_code 7 = .ok (.putfield 224, 3) := by decide +kernel
theorem dM_edit_10 : decode prog_8_method_34_code 10 = .ok (.iload_n 1, 1) := by decide +kernel
theorem dM_edit_11 : decode prog_8_method_34_code 11 = .ok (.ifCond .lt 53, 3) := by decide +kernel
theorem dM_edit_14 : decode prog_8_method_34_code 14 = .ok (.iload_n 2, 1) := by decide +kernel
theorem dM_edit_15 : decode prog_8_method_34_code 15 = .ok (.ifCond .lt 49, 3) := by decide +kernel
theorem dM_edit_18 : decode prog_8_method_34_code 18 = .ok (.iload_n 1, 1) := by decide +kernel
theorem dM_edit_19 : decode prog_8_method_34_code 19 = .ok (.aload_n 0, 1) := by decide +kernel
theorem dM_edit_20 : decode prog_8_method_34_code 20 = .ok (.getfield 13, 3) := by decide +kernel
theorem dM_edit_23 : decode prog_8_method_34_code 23 = .ok (.aload_n 0, 1) := by decide +kernel
theorem dM_edit_24 : decode prog_8_method_34_code 24 = .ok (.getfield 230, 3) := by decide +kernel
theorem dM_edit_27 : decode prog_8_method_34_code 27 = .ok (.iaload, 1) := by decide +kernel
theorem dM_edit_28 : decode prog_8_method_34_code 28 = .ok (.if_icmp .gt 36, 3) := by decide +kernel
theorem dM_edit_31 : decode prog_8_method_34_code 31 = .ok (.iload_n 2, 1) := by decide +kernel
theorem dM_edit_32 : decode prog_8_method_34_code 32 = .ok (.aload_n 0, 1) := by decide +kernel
theorem dM_edit_33 : decode prog_8_method_34_code 33 = .ok (.getfield 13, 3) := by decide +kernel
theorem dM_edit_36 : decode prog_8_method_34_code 36 = .ok (.aload_n 0, 1) := by decide +kernel
theorem dM_edit_37 : decode prog_8_method_34_code 37 = .ok (.getfield 230, 3) := by decide +kernel
theorem dM_edit_40 : decode prog_8_method_34_code 40 = .ok (.iaload, 1) := by decide +kernel
theorem dM_edit_41 : decode prog_8_method_34_code 41 = .ok (.iload_n 1, 1) := by decide +kernel
theorem dM_edit_42 : decode prog_8_method_34_code 42 = .ok (.isub, 1) := by decide +kernel
theorem dM_edit_43 : decode prog_8_method_34_code 43 = .ok (.if_icmp .gt 21, 3) := by decide +kernel
theorem dM_edit_46 : decode prog_8_method_34_code 46 = .ok (.aload_n 0, 1) := by decide +kernel
theorem dM_edit_47 : decode prog_8_method_34_code 47 = .ok (.getfield 13, 3) := by decide +kernel
theorem dM_edit_50 : decode prog_8_method_34_code 50 = .ok (.aload_n 0, 1) := by decide +kernel
theorem dM_edit_51 : decode prog_8_method_34_code 51 = .ok (.getfield 230, 3) := by decide +kernel
theorem dM_edit_54 : decode prog_8_method_34_code 54 = .ok (.iaload, 1) := by decide +kernel
theorem dM_edit_55 : decode prog_8_method_34_code 55 = .ok (.iload_n 2, 1) := by decide +kernel
theorem dM_edit_56 : decode prog_8_method_34_code 56 = .ok (.isub, 1) := by decide +kernel
theorem dM_edit_57 : decode prog_8_method_34_code 57 = .ok (.iload_n 3, 1) := by decide +kernel
theorem dM_edit_58 : decode prog_8_method_34_code 58 = .ok (.iadd, 1) := by decide +kernel
theorem dM_edit_59 : decode prog_8_method_34_code 59 = .ok (.bipush 60, 2) := by decide +kernel
theorem dM_edit_61 : decode prog_8_method_34_code 61 = .ok (.if_icmp .le 5, 3) := by decide +kernel
theorem dM_edit_64 : decode prog_8_method_34_code 64 = .ok (.iconst 0, 1) := by decide +kernel
theorem dM_edit_65 : decode prog_8_method_34_code 65 = .ok (.ireturn, 1) := by decide +kernel
theorem dM_edit_66 : decode prog_8_method_34_code 66 = .ok (.aload_n 0, 1) := by decide +kernel
theorem dM_edit_67 : decode prog_8_method_34_code 67 = .ok (.invokevirtual 236, 3) := by decide +kernel
theorem dM_edit_70 : decode prog_8_method_34_code 70 = .ok (.aload_n 0, 1) := by decide +kernel
theorem dM_edit_71 : decode prog_8_method_34_code 71 = .ok (.getfield 230, 3) := by decide +kernel
theorem dM_edit_74 : decode prog_8_method_34_code 74 = .ok (.istore 4, 2) := by decide +kernel
theorem dM_edit_76 : decode prog_8_method_34_code 76 = .ok (.aload_n 0, 1) := by decide +kernel
theorem dM_edit_77 : decode prog_8_method_34_code 77 = .ok (.iconst 1, 1) := by decide +kernel
theorem dM_edit_78 : decode prog_8_method_34_code 78 = .ok (.aload_n 0, 1) := by decide +kernel
theorem dM_edit_79 : decode prog_8_method_34_code 79 = .ok (.getfield 230, 3) := by decide +kernel
theorem dM_edit_82 : decode prog_8_method_34_code 82 = .ok (.isub, 1) := by decide +kernel
theorem dM_edit_83 : decode prog_8_method_34_code 83 = .ok (.putfield 230, 3) := by decide +kernel
theorem dM_edit_86 : decode prog_8_method_34_code 86 = .ok (.aload_n 0, 1) := by decide +kernel
theorem dM_edit_87 : decode prog_8_method_34_code 87 = .ok (.getfield 13, 3) := by decide +kernel
theorem dM_edit_90 : decode prog_8_method_34_code 90 = .ok (.iload 4, 2) := by decide +kernel
theorem dM_edit_92 : decode prog_8_method_34_code 92 = .ok (.iaload, 1) := by decide +kernel
theorem dM_edit_93 : decode prog_8_method_34_code 93 = .ok (.iload_n 2, 1) := by decide +kernel
theorem dM_edit_94 : decode prog_8_method_34_code 94 = .ok (.isub, 1) := by decide +kernel
theorem dM_edit_95 : decode prog_8_method_34_code 95 = .ok (.iload_n 3, 1) := by decide +kernel
theorem dM_edit_96 : decode prog_8_method_34_code 96 = .ok (.iadd, 1) := by decide +kernel
theorem dM_edit_97 : decode prog_8_method_34_code 97 = .ok (.istore 5, 2) := by decide +kernel
theorem dM_edit_99 : decode prog_8_method_34_code 99 = .ok (.iconst 0, 1) := by decide +kernel
theorem dM_edit_100 : decode prog_8_method_34_code 100 = .ok (.istore 6, 2) := by decide +kernel
theorem dM_edit_102 : decode prog_8_method_34_code 102 = .ok (.iload 6, 2) := by decide +kernel
theorem dM_edit_104 : decode prog_8_method_34_code 104 = .ok (.iload 5, 2) := by decide +kernel
theorem dM_edit_106 : decode prog_8_method_34_code 106 = .ok (.if_icmp .ge 90, 3) := by decide +kernel
theorem dM_edit_109 : decode prog_8_method_34_code 109 = .ok (.iload 6, 2) := by decide +kernel
theorem dM_edit_111 : decode prog_8_method_34_code 111 = .ok (.iload_n 1, 1) := by decide +kernel
theorem dM_edit_112 : decode prog_8_method_34_code 112 = .ok (.if_icmp .lt 15, 3) := by decide +kernel
theorem dM_edit_115 : decode prog_8_method_34_code 115 = .ok (.iload 6, 2) := by decide +kernel
theorem dM_edit_117 : decode prog_8_method_34_code 117 = .ok (.iload_n 1, 1) := by decide +kernel
theorem dM_edit_118 : decode prog_8_method_34_code 118 = .ok (.iload_n 3, 1) := by decide +kernel
theorem dM_edit_119 : decode prog_8_method_34_code 119 = .ok (.iadd, 1) := by decide +kernel
theorem dM_edit_120 : decode prog_8_method_34_code 120 = .ok (.if_icmp .ge 7, 3) := by decide +kernel
theorem dM_edit_123 : decode prog_8_method_34_code 123 = .ok (.iconst 1, 1) := by decide +kernel
theorem dM_edit_124 : decode prog_8_method_34_code 124 = .ok (.goto 4, 3) := by decide +kernel
theorem dM_edit_127 : decode prog_8_method_34_code 127 = .ok (.iconst 0, 1) := by decide +kernel
theorem dM_edit_128 : decode prog_8_method_34_code 128 = .ok (.istore 7, 2) := by decide +kernel
theorem dM_edit_130 : decode prog_8_method_34_code 130 = .ok (.aload_n 0, 1) := by decide +kernel
theorem dM_edit_131 : decode prog_8_method_34_code 131 = .ok (.getfield 7, 3) := by decide +kernel
theorem dM_edit_134 : decode prog_8_method_34_code 134 = .ok (.bipush 60, 2) := by decide +kernel
theorem dM_edit_136 : decode prog_8_method_34_code 136 = .ok (.aload_n 0, 1) := by decide +kernel
theorem dM_edit_137 : decode prog_8_method_34_code 137 = .ok (.getfield 230, 3) := by decide +kernel
theorem dM_edit_140 : decode prog_8_method_34_code 140 = .ok (.imul, 1) := by decide +kernel
theorem dM_edit_141 : decode prog_8_method_34_code 141 = .ok (.iload 6, 2) := by decide +kernel
theorem dM_edit_143 : decode prog_8_method_34_code 143 = .ok (.iadd, 1) := by decide +kernel
theorem dM_edit_144 : decode prog_8_method_34_code 144 = .ok (.iload 7, 2) := by decide +kernel
theorem dM_edit_146 : decode prog_8_method_34_code 146 = .ok (.ifCond .eq 15, 3) := by decide +kernel
theorem dM_edit_149 : decode prog_8_method_34_code 149 = .ok (.aload_n 0, 1) := by decide +kernel
theorem dM_edit_150 : decode prog_8_method_34_code 150 = .ok (.getfield 53, 3) := by decide +kernel
theorem dM_edit_153 : decode prog_8_method_34_code 153 = .ok (.iload 6, 2) := by decide +kernel
theorem dM_edit_155 : decode prog_8_method_34_code 155 = .ok (.iload_n 1, 1) := by decide +kernel
theorem dM_edit_156 : decode prog_8_method_34_code 156 = .ok (.isub, 1) := by decide +kernel
theorem dM_edit_157 : decode prog_8_method_34_code 157 = .ok (.caload, 1) := by decide +kernel
theorem dM_edit_158 : decode prog_8_method_34_code 158 = .ok (.goto 31, 3) := by decide +kernel
theorem dM_edit_161 : decode prog_8_method_34_code 161 = .ok (.aload_n 0, 1) := by decide +kernel
theorem dM_edit_162 : decode prog_8_method_34_code 162 = .ok (.getfield 7, 3) := by decide +kernel
theorem dM_edit_165 : decode prog_8_method_34_code 165 = .ok (.bipush 60, 2) := by decide +kernel
theorem dM_edit_167 : decode prog_8_method_34_code 167 = .ok (.iload 4, 2) := by decide +kernel
theorem dM_edit_169 : decode prog_8_method_34_code 169 = .ok (.imul, 1) := by decide +kernel
theorem dM_edit_170 : decode prog_8_method_34_code 170 = .ok (.iload 6, 2) := by decide +kernel
theorem dM_edit_172 : decode prog_8_method_34_code 172 = .ok (.iload_n 1, 1) := by decide +kernel
theorem dM_edit_173 : decode prog_8_method_34_code 173 = .ok (.if_icmp .ge 8, 3) := by decide +kernel
theorem dM_edit_176 : decode prog_8_method_34_code 176 = .ok (.iload 6, 2) := by decide +kernel
theorem dM_edit_178 : decode prog_8_method_34_code 178 = .ok (.goto 9, 3) := by decide +kernel
theorem dM_edit_181 : decode prog_8_method_34_code 181 = .ok (.iload 6, 2) := by decide +kernel
theorem dM_edit_183 : decode prog_8_method_34_code 183 = .ok (.iload_n 3, 1) := by decide +kernel
theorem dM_edit_184 : decode prog_8_method_34_code 184 = .ok (.isub, 1) := by decide +kernel
theorem dM_edit_185 : decode prog_8_method_34_code 185 = .ok (.iload_n 2, 1) := by decide +kernel
theorem dM_edit_186 : decode prog_8_method_34_code 186 = .ok (.iadd, 1) := by decide +kernel
theorem dM_edit_187 : decode prog_8_method_34_code 187 = .ok (.iadd, 1) := by decide +kernel
theorem dM_edit_188 : decode prog_8_method_34_code 188 = .ok (.caload, 1) := by decide +kernel
theorem dM_edit_189 : decode prog_8_method_34_code 189 = .ok (.castore, 1) := by decide +kernel
theorem dM_edit_190 : decode prog_8_method_34_code 190 = .ok (.iinc 6 1, 3) := by decide +kernel
theorem dM_edit_193 : decode prog_8_method_34_code 193 = .ok (.goto (-91), 3) := by decide +kernel
theorem dM_edit_196 : decode prog_8_method_34_code 196 = .ok (.aload_n 0, 1) := by decide +kernel
theorem dM_edit_197 : decode prog_8_method_34_code 197 = .ok (.getfield 13, 3) := by decide +kernel
theorem dM_edit_200 : decode prog_8_method_34_code 200 = .ok (.aload_n 0, 1) := by decide +kernel
theorem dM_edit_201 : decode prog_8_method_34_code 201 = .ok (.getfield 230, 3) := by decide +kernel
theorem dM_edit_204 : decode prog_8_method_34_code 204 = .ok (.iload 5, 2) := by decide +kernel
theorem dM_edit_206 : decode prog_8_method_34_code 206 = .ok (.iastore, 1) := by decide +kernel
theorem dM_edit_207 : decode prog_8_method_34_code 207 = .ok (.aload_n 0, 1) := by decide +kernel
theorem dM_edit_208 : decode prog_8_method_34_code 208 = .ok (.aload_n 0, 1) := by decide +kernel
theorem dM_edit_209 : decode prog_8_method_34_code 209 = .ok (.getfield 230, 3) := by decide +kernel
theorem dM_edit_212 : decode prog_8_method_34_code 212 = .ok (.invokevirtual 107, 3) := by decide +kernel
theorem dM_edit_215 : decode prog_8_method_34_code 215 = .ok (.aload_n 0, 1) := by decide +kernel
theorem dM_edit_216 : decode prog_8_method_34_code 216 = .ok (.dup, 1) := by decide +kernel
theorem dM_edit_217 : decode prog_8_method_34_code 217 = .ok (.getfield 239, 3) := by decide +kernel
theorem dM_edit_220 : decode prog_8_method_34_code 220 = .ok (.iconst 1, 1) := by decide +kernel
theorem dM_edit_221 : decode prog_8_method_34_code 221 = .ok (.iadd, 1) := by decide +kernel
theorem dM_edit_222 : decode prog_8_method_34_code 222 = .ok (.putfield 239, 3) := by decide +kernel
theorem dM_edit_225 : decode prog_8_method_34_code 225 = .ok (.aload_n 0, 1) := by decide +kernel
theorem dM_edit_226 : decode prog_8_method_34_code 226 = .ok (.iconst 0, 1) := by decide +kernel
theorem dM_edit_227 : decode prog_8_method_34_code 227 = .ok (.putfield 242, 3) := by decide +kernel
theorem dM_edit_230 : decode prog_8_method_34_code 230 = .ok (.iconst 0, 1) := by decide +kernel
theorem dM_edit_231 : decode prog_8_method_34_code 231 = .ok (.istore 6, 2) := by decide +kernel
theorem dM_edit_233 : decode prog_8_method_34_code 233 = .ok (.iload 6, 2) := by decide +kernel
theorem dM_edit_235 : decode prog_8_method_34_code 235 = .ok (.aload_n 0, 1) := by decide +kernel
theorem dM_edit_236 : decode prog_8_method_34_code 236 = .ok (.getfield 20, 3) := by decide +kernel
theorem dM_edit_239 : decode prog_8_method_34_code 239 = .ok (.aload_n 0, 1) := by decide +kernel
theorem dM_edit_240 : decode prog_8_method_34_code 240 = .ok (.getfield 230, 3) := by decide +kernel
theorem dM_edit_243 : decode prog_8_method_34_code 243 = .ok (.iaload, 1) := by decide +kernel
theorem dM_edit_244 : decode prog_8_method_34_code 244 = .ok (.if_icmp .ge 65, 3) := by decide +kernel
theorem dM_edit_247 : decode prog_8_method_34_code 247 = .ok (.aload_n 0, 1) := by decide +kernel
theorem dM_edit_248 : decode prog_8_method_34_code 248 = .ok (.getfield 23, 3) := by decide +kernel
theorem dM_edit_251 : decode prog_8_method_34_code 251 = .ok (.sipush 400, 3) := by decide +kernel
theorem dM_edit_254 : decode prog_8_method_34_code 254 = .ok (.aload_n 0, 1) := by decide +kernel
theorem dM_edit_255 : decode prog_8_method_34_code 255 = .ok (.getfield 230, 3) := by decide +kernel
theorem dM_edit_258 : decode prog_8_method_34_code 258 = .ok (.imul, 1) := by decide +kernel
theorem dM_edit_259 : decode prog_8_method_34_code 259 = .ok (.iload 6, 2) := by decide +kernel
theorem dM_edit_261 : decode prog_8_method_34_code 261 = .ok (.iadd, 1) := by decide +kernel
theorem dM_edit_262 : decode prog_8_method_34_code 262 = .ok (.iaload, 1) := by decide +kernel
theorem dM_edit_263 : decode prog_8_method_34_code 263 = .ok (.istore 7, 2) := by decide +kernel
theorem dM_edit_265 : decode prog_8_method_34_code 265 = .ok (.iload 7, 2) := by decide +kernel
theorem dM_edit_267 : decode prog_8_method_34_code 267 = .ok (.bipush 21, 2) := by decide +kernel
theorem dM_edit_269 : decode prog_8_method_34_code 269 = .ok (.if_icmp .lt 34, 3) := by decide +kernel
theorem dM_edit_272 : decode prog_8_method_34_code 272 = .ok (.iload 7, 2) := by decide +kernel
theorem dM_edit_274 : decode prog_8_method_34_code 274 = .ok (.bipush 25, 2) := by decide +kernel
theorem dM_edit_276 : decode prog_8_method_34_code 276 = .ok (.if_icmp .gt 27, 3) := by decide +kernel
theorem dM_edit_279 : decode prog_8_method_34_code 279 = .ok (.aload_n 0, 1) := by decide +kernel
theorem dM_edit_280 : decode prog_8_method_34_code 280 = .ok (.iload 4, 2) := by decide +kernel
theorem dM_edit_282 : decode prog_8_method_34_code 282 = .ok (.iload 6, 2) := by decide +kernel
theorem dM_edit_284 : decode prog_8_method_34_code 284 = .ok (.iload_n 1, 1) := by decide +kernel
theorem dM_edit_285 : decode prog_8_method_34_code 285 = .ok (.iload_n 2, 1) := by decide +kernel
theorem dM_edit_286 : decode prog_8_method_34_code 286 = .ok (.iload_n 3, 1) := by decide +kernel
theorem dM_edit_287 : decode prog_8_method_34_code 287 = .ok (.invokevirtual 245, 3) := by decide +kernel
theorem dM_edit_290 : decode prog_8_method_34_code 290 = .ok (.ifCond .eq 13, 3) := by decide +kernel
theorem dM_edit_293 : decode prog_8_method_34_code 293 = .ok (.aload_n 0, 1) := by decide +kernel
theorem dM_edit_294 : decode prog_8_method_34_code 294 = .ok (.dup, 1) := by decide +kernel
theorem dM_edit_295 : decode prog_8_method_34_code 295 = .ok (.getfield 242, 3) := by decide +kernel
theorem dM_edit_298 : decode prog_8_method_34_code 298 = .ok (.iconst 1, 1) := by decide +kernel
theorem dM_edit_299 : decode prog_8_method_34_code 299 = .ok (.iadd, 1) := by decide +kernel
theorem dM_edit_300 : decode prog_8_method_34_code 300 = .ok (.putfield 242, 3) := by decide +kernel
theorem dM_edit_303 : decode prog_8_method_34_code 303 = .ok (.iinc 6 1, 3) := by decide +kernel
theorem dM_edit_306 : decode prog_8_method_34_code 306 = .ok (.goto (-73), 3) := by decide +kernel
theorem dM_edit_309 : decode prog_8_method_34_code 309 = .ok (.iconst 1, 1) := by decide +kernel
theorem dM_edit_310 : decode prog_8_method_34_code 310 = .ok (.ireturn, 1) := by decide +kernel
theorem dM_undo_0 : decode prog_8_method_35_code 0 = .ok (.aload_n 0, 1) := by decide +kernel
theorem dM_undo_1 : decode prog_8_method_35_code 1 = .ok (.getfield 227, 3) := by decide +kernel
theorem dM_undo_4 : decode prog_8_method_35_code 4 = .ok (.ifCond .ne 5, 3) := by decide +kernel
theorem dM_undo_7 : decode prog_8_method_35_code 7 = .ok (.iconst 0, 1) := by decide +kernel
theorem dM_undo_8 : decode prog_8_method_35_code 8 = .ok (.ireturn, 1) := by decide +kernel
theorem dM_undo_9 : decode prog_8_method_35_code 9 = .ok (.aload_n 0, 1) := by decide +kernel
theorem dM_undo_10 : decode prog_8_method_35_code 10 = .ok (.dup, 1) := by decide +kernel
theorem dM_undo_11 : decode prog_8_method_35_code 11 = .ok (.getfield 227, 3) := by decide +kernel
theorem dM_undo_14 : decode prog_8_method_35_code 14 = .ok (.iconst 1, 1) := by decide +kernel
theorem dM_undo_15 : decode prog_8_method_35_code 15 = .ok (.isub, 1) := by decide +kernel
theorem dM_undo_16 : decode prog_8_method_35_code 16 = .ok (.putfield 227, 3) := by decide +kernel
theorem dM_undo_19 : decode prog_8_method_35_code 19 = .ok (.aload_n 0, 1) := by decide +kernel
theorem dM_undo_20 : decode prog_8_method_35_code 20 = .ok (.dup, 1) := by decide +kernel
theorem dM_undo_21 : decode prog_8_method_35_code 21 = .ok (.getfield 239, 3) := by decide +kernel
theorem dM_undo_24 : decode prog_8_method_35_code 24 = .ok (.iconst 1, 1) := by decide +kernel
theorem dM_undo_25 : decode prog_8_method_35_code 25 = .ok (.isub, 1) := by decide +kernel
theorem dM_undo_26 : decode prog_8_method_35_code 26 = .ok (.putfield 239, 3) := by decide +kernel
theorem dM_undo_29 : decode prog_8_method_35_code 29 = .ok (.aload_n 0, 1) := by decide +kernel
theorem dM_undo_30 : decode prog_8_method_35_code 30 = .ok (.getfield 13, 3) := by decide +kernel
theorem dM_undo_33 : decode prog_8_method_35_code 33 = .ok (.aload_n 0, 1) := by decide +kernel
theorem dM_undo_34 : decode prog_8_method_35_code 34 = .ok (.getfield 230, 3) := by decide +kernel
theorem dM_undo_37 : decode prog_8_method_35_code 37 = .ok (.aload_n 0, 1) := by decide +kernel
theorem dM_undo_38 : decode prog_8_method_35_code 38 = .ok (.getfield 50, 3) := by decide +kernel
theorem dM_undo_41 : decode prog_8_method_35_code 41 = .ok (.aload_n 0, 1) := by decide +kernel
theorem dM_undo_42 : decode prog_8_method_35_code 42 = .ok (.getfield 227, 3) := by decide +kernel
theorem dM_undo_45 : decode prog_8_method_35_code 45 = .ok (.iaload, 1) := by decide +kernel
theorem dM_undo_46 : decode prog_8_method_35_code 46 = .ok (.iastore, 1) := by decide +kernel
theorem dM_undo_47 : decode prog_8_method_35_code 47 = .ok (.iconst 0, 1) := by decide +kernel
theorem dM_undo_48 : decode prog_8_method_35_code 48 = .ok (.istore_n 1, 1) := by decide +kernel
theorem dM_undo_49 : decode prog_8_method_35_code 49 = .ok (.iload_n 1, 1) := by decide +kernel
theorem dM_undo_50 : decode prog_8_method_35_code 50 = .ok (.aload_n 0, 1) := by decide +kernel
theorem dM_undo_51 : decode prog_8_method_35_code 51 = .ok (.getfield 13, 3) := by decide +kernel
theorem dM_undo_54 : decode prog_8_method_35_code 54 = .ok (.aload_n 0, 1) := by decide +kernel
theorem dM_undo_55 : decode prog_8_method_35_code 55 = .ok (.getfield 230, 3) := by decide +kernel
theorem dM_undo_58 : decode prog_8_method_35_code 58 = .ok (.iaload, 1) := by decide +kernel
theorem dM_undo_59 : decode prog_8_method_35_code 59 = .ok (.if_icmp .ge 37, 3) := by decide +kernel
theorem dM_undo_62 : decode prog_8_method_35_code 62 = .ok (.aload_n 0, 1) := by decide +kernel
theorem dM_undo_63 : decode prog_8_method_35_code 63 = .ok (.getfield 7, 3) := by decide +kernel
theorem dM_undo_66 : decode prog_8_method_35_code 66 = .ok (.bipush 60, 2) := by decide +kernel
theorem dM_undo_68 : decode prog_8_method_35_code 68 = .ok (.aload_n 0, 1) := by decide +kernel
theorem dM_undo_69 : decode prog_8_method_35_code 69 = .ok (.getfield 230, 3) := by decide +kernel
theorem dM_undo_72 : decode prog_8_method_35_code 72 = .ok (.imul, 1) := by decide +kernel
theorem dM_undo_73 : decode prog_8_method_35_code 73 = .ok (.iload_n 1, 1) := by decide +kernel
theorem dM_undo_74 : decode prog_8_method_35_code 74 = .ok (.iadd, 1) := by decide +kernel
theorem dM_undo_75 : decode prog_8_method_35_code 75 = .ok (.aload_n 0, 1) := by decide +kernel
theorem dM_undo_76 : decode prog_8_method_35_code 76 = .ok (.getfield 47, 3) := by decide +kernel
theorem dM_undo_79 : decode prog_8_method_35_code 79 = .ok (.bipush 60, 2) := by decide +kernel
theorem dM_undo_81 : decode prog_8_method_35_code 81 = .ok (.aload_n 0, 1) := by decide +kernel
theorem dM_undo_82 : decode prog_8_method_35_code 82 = .ok (.getfield 227, 3) := by decide +kernel
theorem dM_undo_85 : decode prog_8_method_35_code 85 = .ok (.imul, 1) := by decide +kernel
theorem dM_undo_86 : decode prog_8_method_35_code 86 = .ok (.iload_n 1, 1) := by decide +kernel
theorem dM_undo_87 : decode prog_8_method_35_code 87 = .ok (.iadd, 1) := by decide +kernel
theorem dM_undo_88 : decode prog_8_method_35_code 88 = .ok (.caload, 1) := by decide +kernel
theorem dM_undo_89 : decode prog_8_method_35_code 89 = .ok (.castore, 1) := by decide +kernel
theorem dM_undo_90 : decode prog_8_method_35_code 90 = .ok (.iinc 1 1, 3) := by decide +kernel
theorem dM_undo_93 : decode prog_8_method_35_code 93 = .ok (.goto (-44), 3) := by decide +kernel
theorem dM_undo_96 : decode prog_8_method_35_code 96 = .ok (.aload_n 0, 1) := by decide +kernel
theorem dM_undo_97 : decode prog_8_method_35_code 97 = .ok (.aload_n 0, 1) := by decide +kernel
theorem dM_undo_98 : decode prog_8_method_35_code 98 = .ok (.getfield 230, 3) := by decide +kernel
theorem dM_undo_101 : decode prog_8_method_35_code 101 = .ok (.invokevirtual 107, 3) := by decide +kernel
theorem dM_undo_104 : decode prog_8_method_35_code 104 = .ok (.iconst 1, 1) := by decide +kernel
theorem dM_undo_105 : decode prog_8_method_35_code 105 = .ok (.ireturn, 1) := by decide +kernel
theorem dM_length_0 : decode prog_8_method_36_code 0 = .ok (.aload_n 0, 1) := by decide +kernel
theorem dM_length_1 : decode prog_8_method_36_code 1 = .ok (.getfield 13, 3) := by decide +kernel
theorem dM_length_4 : decode prog_8_method_36_code 4 = .ok (.aload_n 0, 1) := by decide +kernel
theorem dM_length_5 : decode prog_8_method_36_code 5 = .ok (.getfield 230, 3) := by decide +kernel
theorem dM_length_8 : decode prog_8_method_36_code 8 = .ok (.iaload, 1) := by decide +kernel
theorem dM_length_9 : decode prog_8_method_36_code 9 = .ok (.ireturn, 1) := by decide +kernel
theorem dM_letter_0 : decode prog_8_method_37_code 0 = .ok (.iload_n 1, 1) := by decide +kernel
theorem dM_letter_1 : decode prog_8_method_37_code 1 = .ok (.ifCond .lt 16, 3) := by decide +kernel
theorem dM_letter_4 : decode prog_8_method_37_code 4 = .ok (.iload_n 1, 1) := by decide +kernel
theorem dM_letter_5 : decode prog_8_method_37_code 5 = .ok (.aload_n 0, 1) := by decide +kernel
theorem dM_letter_6 : decode prog_8_method_37_code 6 = .ok (.getfield 13, 3) := by decide +kernel
theorem dM_letter_9 : decode prog_8_method_37_code 9 = .ok (.aload_n 0, 1) := by decide +kernel
theorem dM_letter_10 : decode prog_8_method_37_code 10 = .ok (.getfield 230, 3) := by decide +kernel
theorem dM_letter_13 : decode prog_8_method_37_code 13 = .ok (.iaload, 1) := by decide +kernel
theorem dM_letter_14 : decode prog_8_method_37_code 14 = .ok (.if_icmp .lt 7, 3) := by decide +kernel
theorem dM_letter_17 : decode prog_8_method_37_code 17 = .ok (.iconst 0, 1) := by decide +kernel
theorem dM_letter_18 : decode prog_8_method_37_code 18 = .ok (.goto 17, 3) := by decide +kernel
theorem dM_letter_21 : decode prog_8_method_37_code 21 = .ok (.aload_n 0, 1) := by decide +kernel
theorem dM_letter_22 : decode prog_8_method_37_code 22 = .ok (.getfield 7, 3) := by decide +kernel
theorem dM_letter_25 : decode prog_8_method_37_code 25 = .ok (.bipush 60, 2) := by decide +kernel
theorem dM_letter_27 : decode prog_8_method_37_code 27 = .ok (.aload_n 0, 1) := by decide +kernel
theorem dM_letter_28 : decode prog_8_method_37_code 28 = .ok (.getfield 230, 3) := by decide +kernel
theorem dM_letter_31 : decode prog_8_method_37_code 31 = .ok (.imul, 1) := by decide +kernel
theorem dM_letter_32 : decode prog_8_method_37_code 32 = .ok (.iload_n 1, 1) := by decide +kernel
theorem dM_letter_33 : decode prog_8_method_37_code 33 = .ok (.iadd, 1) := by decide +kernel
theorem dM_letter_34 : decode prog_8_method_37_code 34 = .ok (.caload, 1) := by decide +kernel
theorem dM_letter_35 : decode prog_8_method_37_code 35 = .ok (.ireturn, 1) := by decide +kernel
theorem dM_there_0 : decode prog_8_method_38_code 0 = .ok (.iload_n 1, 1) := by decide +kernel
theorem dM_there_1 : decode prog_8_method_38_code 1 = .ok (.ifCond .lt 20, 3) := by decide +kernel
theorem dM_there_4 : decode prog_8_method_38_code 4 = .ok (.iload_n 1, 1) := by decide +kernel
theorem dM_there_5 : decode prog_8_method_38_code 5 = .ok (.aload_n 0, 1) := by decide +kernel
theorem dM_there_6 : decode prog_8_method_38_code 6 = .ok (.getfield 20, 3) := by decide +kernel
theorem dM_there_9 : decode prog_8_method_38_code 9 = .ok (.aload_n 0, 1) := by decide +kernel
theorem dM_there_10 : decode prog_8_method_38_code 10 = .ok (.getfield 230, 3) := by decide +kernel
theorem dM_there_13 : decode prog_8_method_38_code 13 = .ok (.iaload, 1) := by decide +kernel
theorem dM_there_14 : decode prog_8_method_38_code 14 = .ok (.if_icmp .ge 7, 3) := by decide +kernel
theorem dM_there_17 : decode prog_8_method_38_code 17 = .ok (.iconst 1, 1) := by decide +kernel
theorem dM_there_18 : decode prog_8_method_38_code 18 = .ok (.goto 4, 3) := by decide +kernel
theorem dM_there_21 : decode prog_8_method_38_code 21 = .ok (.iconst 0, 1) := by decide +kernel
theorem dM_there_22 : decode prog_8_method_38_code 22 = .ok (.ireturn, 1) := by decide +kernel
theorem dM_faultsOf_0 : decode prog_8_method_39_code 0 = .ok (.aload_n 0, 1) := by decide +kernel
theorem dM_faultsOf_1 : decode prog_8_method_39_code 1 = .ok (.getfield 38, 3) := by decide +kernel
theorem dM_faultsOf_4 : decode prog_8_method_39_code 4 = .ok (.iload_n 1, 1) := by decide +kernel
theorem dM_faultsOf_5 : decode prog_8_method_39_code 5 = .ok (.iaload, 1) := by decide +kernel
theorem dM_faultsOf_6 : decode prog_8_method_39_code 6 = .ok (.ifCond .le 5, 3) := by decide +kernel
theorem dM_faultsOf_9 : decode prog_8_method_39_code 9 = .ok (.iconst 0, 1) := by decide +kernel
theorem dM_faultsOf_10 : decode prog_8_method_39_code 10 = .ok (.ireturn, 1) := by decide +kernel
theorem dM_faultsOf_11 : decode prog_8_method_39_code 11 = .ok (.aload_n 0, 1) := by decide +kernel
theorem dM_faultsOf_12 : decode prog_8_method_39_code 12 = .ok (.getfield 35, 3) := by decide +kernel
theorem dM_faultsOf_15 : decode prog_8_method_39_code 15 = .ok (.iload_n 1, 1) := by decide +kernel
theorem dM_faultsOf_16 : decode prog_8_method_39_code 16 = .ok (.iaload, 1) := by decide +kernel
theorem dM_faultsOf_17 : decode prog_8_method_39_code 17 = .ok (.ifCond .le 7, 3) := by decide +kernel
theorem dM_faultsOf_20 : decode prog_8_method_39_code 20 = .ok (.iconst 1, 1) := by decide +kernel
theorem dM_faultsOf_21 : decode prog_8_method_39_code 21 = .ok (.goto 4, 3) := by decide +kernel
theorem dM_faultsOf_24 : decode prog_8_method_39_code 24 = .ok (.iconst 0, 1) := by decide +kernel
theorem dM_faultsOf_25 : decode prog_8_method_39_code 25 = .ok (.istore_n 2, 1) := by decide +kernel
theorem dM_faultsOf_26 : decode prog_8_method_39_code 26 = .ok (.aload_n 0, 1) := by decide +kernel
theorem dM_faultsOf_27 : decode prog_8_method_39_code 27 = .ok (.getfield 26, 3) := by decide +kernel
theorem dM_faultsOf_30 : decode prog_8_method_39_code 30 = .ok (.iload_n 1, 1) := by decide +kernel
theorem dM_faultsOf_31 : decode prog_8_method_39_code 31 = .ok (.iaload, 1) := by decide +kernel
theorem dM_faultsOf_32 : decode prog_8_method_39_code 32 = .ok (.istore_n 3, 1) := by decide +kernel
theorem dM_faultsOf_33 : decode prog_8_method_39_code 33 = .ok (.iload_n 3, 1) := by decide +kernel
theorem dM_faultsOf_34 : decode prog_8_method_39_code 34 = .ok (.aload_n 0, 1) := by decide +kernel
theorem dM_faultsOf_35 : decode prog_8_method_39_code 35 = .ok (.getfield 29, 3) := by decide +kernel
theorem dM_faultsOf_38 : decode prog_8_method_39_code 38 = .ok (.iload_n 1, 1) := by decide +kernel
theorem dM_faultsOf_39 : decode prog_8_method_39_code 39 = .ok (.iaload, 1) := by decide +kernel
theorem dM_faultsOf_40 : decode prog_8_method_39_code 40 = .ok (.if_icmp .ge 34, 3) := by decide +kernel
theorem dM_faultsOf_43 : decode prog_8_method_39_code 43 = .ok (.iload_n 2, 1) := by decide +kernel
theorem dM_faultsOf_44 : decode prog_8_method_39_code 44 = .ok (.aload_n 0, 1) := by decide +kernel
theorem dM_faultsOf_45 : decode prog_8_method_39_code 45 = .ok (.getfield 17, 3) := by decide +kernel
theorem dM_faultsOf_48 : decode prog_8_method_39_code 48 = .ok (.bipush 61, 2) := by decide +kernel
theorem dM_faultsOf_50 : decode prog_8_method_39_code 50 = .ok (.aload_n 0, 1) := by decide +kernel
theorem dM_faultsOf_51 : decode prog_8_method_39_code 51 = .ok (.getfield 230, 3) := by decide +kernel
theorem dM_faultsOf_54 : decode prog_8_method_39_code 54 = .ok (.imul, 1) := by decide +kernel
theorem dM_faultsOf_55 : decode prog_8_method_39_code 55 = .ok (.iload_n 3, 1) := by decide +kernel
theorem dM_faultsOf_56 : decode prog_8_method_39_code 56 = .ok (.iadd, 1) := by decide +kernel
theorem dM_faultsOf_57 : decode prog_8_method_39_code 57 = .ok (.iaload, 1) := by decide +kernel
theorem dM_faultsOf_58 : decode prog_8_method_39_code 58 = .ok (.ifCond .le 7, 3) := by decide +kernel
theorem dM_faultsOf_61 : decode prog_8_method_39_code 61 = .ok (.iconst 1, 1) := by decide +kernel
theorem dM_faultsOf_62 : decode prog_8_method_39_code 62 = .ok (.goto 4, 3) := by decide +kernel
theorem dM_faultsOf_65 : decode prog_8_method_39_code 65 = .ok (.iconst 0, 1) := by decide +kernel
theorem dM_faultsOf_66 : decode prog_8_method_39_code 66 = .ok (.iadd, 1) := by decide +kernel
theorem dM_faultsOf_67 : decode prog_8_method_39_code 67 = .ok (.istore_n 2, 1) := by decide +kernel
theorem dM_faultsOf_68 : decode prog_8_method_39_code 68 = .ok (.iinc 3 1, 3) := by decide +kernel
theorem dM_faultsOf_71 : decode prog_8_method_39_code 71 = .ok (.goto (-38), 3) := by decide +kernel
theorem dM_faultsOf_74 : decode prog_8_method_39_code 74 = .ok (.iload_n 2, 1) := by decide +kernel
theorem dM_faultsOf_75 : decode prog_8_method_39_code 75 = .ok (.ireturn, 1) := by decide +kernel
theorem dM_node_0 : decode prog_8_method_40_code 0 = .ok (.aload_n 0, 1) := by decide +kernel
theorem dM_node_1 : decode prog_8_method_40_code 1 = .ok (.iload_n 1, 1) := by decide +kernel
theorem dM_node_2 : decode prog_8_method_40_code 2 = .ok (.invokevirtual 249, 3) := by decide +kernel
theorem dM_node_5 : decode prog_8_method_40_code 5 = .ok (.ifCond .ne 5, 3) := by decide +kernel
theorem dM_node_8 : decode prog_8_method_40_code 8 = .ok (.iconst (-1), 1) := by decide +kernel
theorem dM_node_9 : decode prog_8_method_40_code 9 = .ok (.ireturn, 1) := by decide +kernel
theorem dM_node_10 : decode prog_8_method_40_code 10 = .ok (.sipush 400, 3) := by decide +kernel
theorem dM_node_13 : decode prog_8_method_40_code 13 = .ok (.aload_n 0, 1) := by decide +kernel
theorem dM_node_14 : decode prog_8_method_40_code 14 = .ok (.getfield 230, 3) := by decide +kernel
theorem dM_node_17 : decode prog_8_method_40_code 17 = .ok (.imul, 1) := by decide +kernel
theorem dM_node_18 : decode prog_8_method_40_code 18 = .ok (.iload_n 1, 1) := by decide +kernel
theorem dM_node_19 : decode prog_8_method_40_code 19 = .ok (.iadd, 1) := by decide +kernel
theorem dM_node_20 : decode prog_8_method_40_code 20 = .ok (.istore_n 3, 1) := by decide +kernel
theorem dM_node_21 : decode prog_8_method_40_code 21 = .ok (.iconst 0, 1) := by decide +kernel
theorem dM_node_22 : decode prog_8_method_40_code 22 = .ok (.istore 4, 2) := by decide +kernel
theorem dM_node_24 : decode prog_8_method_40_code 24 = .ok (.iconst 0, 1) := by decide +kernel
theorem dM_node_25 : decode prog_8_method_40_code 25 = .ok (.istore 5, 2) := by decide +kernel
theorem dM_node_27 : decode prog_8_method_40_code 27 = .ok (.iload 5, 2) := by decide +kernel
theorem dM_node_29 : decode prog_8_method_40_code 29 = .ok (.aload_n 0, 1) := by decide +kernel
theorem dM_node_30 : decode prog_8_method_40_code 30 = .ok (.getfield 44, 3) := by decide +kernel
theorem dM_node_33 : decode prog_8_method_40_code 33 = .ok (.iload_n 3, 1) := by decide +kernel
theorem dM_node_34 : decode prog_8_method_40_code 34 = .ok (.iaload, 1) := by decide +kernel
theorem dM_node_35 : decode prog_8_method_40_code 35 = .ok (.if_icmp .ge 28, 3) := by decide +kernel
theorem dM_node_38 : decode prog_8_method_40_code 38 = .ok (.iload_n 2, 1) := by decide +kernel
theorem dM_node_39 : decode prog_8_method_40_code 39 = .ok (.bipush 7, 2) := by decide +kernel
theorem dM_node_41 : decode prog_8_method_40_code 41 = .ok (.if_icmp .ne 22, 3) := by decide +kernel
theorem dM_node_44 : decode prog_8_method_40_code 44 = .ok (.iload 4, 2) := by decide +kernel
theorem dM_node_46 : decode prog_8_method_40_code 46 = .ok (.aload_n 0, 1) := by decide +kernel
theorem dM_node_47 : decode prog_8_method_40_code 47 = .ok (.iload_n 3, 1) := by decide +kernel
theorem dM_node_48 : decode prog_8_method_40_code 48 = .ok (.iload 5, 2) := by decide +kernel
theorem dM_node_50 : decode prog_8_method_40_code 50 = .ok (.iadd, 1) := by decide +kernel
theorem dM_node_51 : decode prog_8_method_40_code 51 = .ok (.invokevirtual 252, 3) := by decide +kernel
theorem dM_node_54 : decode prog_8_method_40_code 54 = .ok (.iadd, 1) := by decide +kernel
theorem dM_node_55 : decode prog_8_method_40_code 55 = .ok (.istore 4, 2) := by decide +kernel
theorem dM_node_57 : decode prog_8_method_40_code 57 = .ok (.iinc 5 1, 3) := by decide +kernel
theorem dM_node_60 : decode prog_8_method_40_code 60 = .ok (.goto (-33), 3) := by decide +kernel
theorem dM_node_63 : decode prog_8_method_40_code 63 = .ok (.iload_n 2, 1) := by decide +kernel
theorem dM_node_64 : decode prog_8_method_40_code 64 = .ok (.tableswitch 126 0 8 #[52, 59, 66, 80, 87, 94, 101, 116, 119], 52) := by decide +kernel
theorem dM_node_116 : decode prog_8_method_40_code 116 = .ok (.aload_n 0, 1) := by decide +kernel
theorem dM_node_117 : decode prog_8_method_40_code 117 = .ok (.getfield 23, 3) := by decide +kernel
theorem dM_node_120 : decode prog_8_method_40_code 120 = .ok (.iload_n 3, 1) := by decide +kernel
theorem dM_node_121 : decode prog_8_method_40_code 121 = .ok (.iaload, 1) := by decide +kernel
theorem dM_node_122 : decode prog_8_method_40_code 122 = .ok (.ireturn, 1) := by decide +kernel
theorem dM_node_123 : decode prog_8_method_40_code 123 = .ok (.aload_n 0, 1) := by decide +kernel
theorem dM_node_124 : decode prog_8_method_40_code 124 = .ok (.getfield 26, 3) := by decide +kernel
theorem dM_node_127 : decode prog_8_method_40_code 127 = .ok (.iload_n 3, 1) := by decide +kernel
theorem dM_node_128 : decode prog_8_method_40_code 128 = .ok (.iaload, 1) := by decide +kernel
theorem dM_node_129 : decode prog_8_method_40_code 129 = .ok (.ireturn, 1) := by decide +kernel
theorem dM_node_130 : decode prog_8_method_40_code 130 = .ok (.aload_n 0, 1) := by decide +kernel
theorem dM_node_131 : decode prog_8_method_40_code 131 = .ok (.getfield 29, 3) := by decide +kernel
theorem dM_node_134 : decode prog_8_method_40_code 134 = .ok (.iload_n 3, 1) := by decide +kernel
theorem dM_node_135 : decode prog_8_method_40_code 135 = .ok (.iaload, 1) := by decide +kernel
theorem dM_node_136 : decode prog_8_method_40_code 136 = .ok (.aload_n 0, 1) := by decide +kernel
theorem dM_node_137 : decode prog_8_method_40_code 137 = .ok (.getfield 26, 3) := by decide +kernel
theorem dM_node_140 : decode prog_8_method_40_code 140 = .ok (.iload_n 3, 1) := by decide +kernel
theorem dM_node_141 : decode prog_8_method_40_code 141 = .ok (.iaload, 1) := by decide +kernel
theorem dM_node_142 : decode prog_8_method_40_code 142 = .ok (.isub, 1) := by decide +kernel
theorem dM_node_143 : decode prog_8_method_40_code 143 = .ok (.ireturn, 1) := by decide +kernel
theorem dM_node_144 : decode prog_8_method_40_code 144 = .ok (.aload_n 0, 1) := by decide +kernel
theorem dM_node_145 : decode prog_8_method_40_code 145 = .ok (.getfield 32, 3) := by decide +kernel
theorem dM_node_148 : decode prog_8_method_40_code 148 = .ok (.iload_n 3, 1) := by decide +kernel
theorem dM_node_149 : decode prog_8_method_40_code 149 = .ok (.iaload, 1) := by decide +kernel
theorem dM_node_150 : decode prog_8_method_40_code 150 = .ok (.ireturn, 1) := by decide +kernel
theorem dM_node_151 : decode prog_8_method_40_code 151 = .ok (.aload_n 0, 1) := by decide +kernel
theorem dM_node_152 : decode prog_8_method_40_code 152 = .ok (.getfield 38, 3) := by decide +kernel
theorem dM_node_155 : decode prog_8_method_40_code 155 = .ok (.iload_n 3, 1) := by decide +kernel
theorem dM_node_156 : decode prog_8_method_40_code 156 = .ok (.iaload, 1) := by decide +kernel
theorem dM_node_157 : decode prog_8_method_40_code 157 = .ok (.ireturn, 1) := by decide +kernel
theorem dM_node_158 : decode prog_8_method_40_code 158 = .ok (.aload_n 0, 1) := by decide +kernel
theorem dM_node_159 : decode prog_8_method_40_code 159 = .ok (.getfield 41, 3) := by decide +kernel
theorem dM_node_162 : decode prog_8_method_40_code 162 = .ok (.iload_n 3, 1) := by decide +kernel
theorem dM_node_163 : decode prog_8_method_40_code 163 = .ok (.iaload, 1) := by decide +kernel
theorem dM_node_164 : decode prog_8_method_40_code 164 = .ok (.ireturn, 1) := by decide +kernel
theorem dM_node_165 : decode prog_8_method_40_code 165 = .ok (.aload_n 0, 1) := by decide +kernel
theorem dM_node_166 : decode prog_8_method_40_code 166 = .ok (.getfield 35, 3) := by decide +kernel
theorem dM_node_169 : decode prog_8_method_40_code 169 = .ok (.iload_n 3, 1) := by decide +kernel
theorem dM_node_170 : decode prog_8_method_40_code 170 = .ok (.iaload, 1) := by decide +kernel
theorem dM_node_171 : decode prog_8_method_40_code 171 = .ok (.ifCond .le 7, 3) := by decide +kernel
theorem dM_node_174 : decode prog_8_method_40_code 174 = .ok (.iconst 1, 1) := by decide +kernel
theorem dM_node_175 : decode prog_8_method_40_code 175 = .ok (.goto 4, 3) := by decide +kernel
theorem dM_node_178 : decode prog_8_method_40_code 178 = .ok (.iconst 0, 1) := by decide +kernel
theorem dM_node_179 : decode prog_8_method_40_code 179 = .ok (.ireturn, 1) := by decide +kernel
theorem dM_node_180 : decode prog_8_method_40_code 180 = .ok (.iload 4, 2) := by decide +kernel
theorem dM_node_182 : decode prog_8_method_40_code 182 = .ok (.ireturn, 1) := by decide +kernel
theorem dM_node_183 : decode prog_8_method_40_code 183 = .ok (.aload_n 0, 1) := by decide +kernel
theorem dM_node_184 : decode prog_8_method_40_code 184 = .ok (.getfield 44, 3) := by decide +kernel
theorem dM_node_187 : decode prog_8_method_40_code 187 = .ok (.iload_n 3, 1) := by decide +kernel
theorem dM_node_188 : decode prog_8_method_40_code 188 = .ok (.iaload, 1) := by decide +kernel
theorem dM_node_189 : decode prog_8_method_40_code 189 = .ok (.ireturn, 1) := by decide +kernel
theorem dM_node_190 : decode prog_8_method_40_code 190 = .ok (.iconst (-1), 1) := by decide +kernel
theorem dM_node_191 : decode prog_8_method_40_code 191 = .ok (.ireturn, 1) := by decide +kernel
theorem dM_child_0 : decode prog_8_method_41_code 0 = .ok (.aload_n 0, 1) := by decide +kernel
theorem dM_child_1 : decode prog_8_method_41_code 1 = .ok (.iload_n 1, 1) := by decide +kernel
theorem dM_child_2 : decode prog_8_method_41_code 2 = .ok (.invokevirtual 249, 3) := by decide +kernel
theorem dM_child_5 : decode prog_8_method_41_code 5 = .ok (.ifCond .eq 26, 3) := by decide +kernel
theorem dM_child_8 : decode prog_8_method_41_code 8 = .ok (.iload_n 2, 1) := by decide +kernel
theorem dM_child_9 : decode prog_8_method_41_code 9 = .ok (.ifCond .lt 22, 3) := by decide +kernel
theorem dM_child_12 : decode prog_8_method_41_code 12 = .ok (.iload_n 2, 1) := by decide +kernel
theorem dM_child_13 : decode prog_8_method_41_code 13 = .ok (.aload_n 0, 1) := by decide +kernel
theorem dM_child_14 : decode prog_8_method_41_code 14 = .ok (.getfield 38, 3) := by decide +kernel
theorem dM_child_17 : decode prog_8_method_41_code 17 = .ok (.sipush 400, 3) := by decide +kernel
theorem dM_child_20 : decode prog_8_method_41_code 20 = .ok (.aload_n 0, 1) := by decide +kernel
theorem dM_child_21 : decode prog_8_method_41_code 21 = .ok (.getfield 230, 3) := by decide +kernel
theorem dM_child_24 : decode prog_8_method_41_code 24 = .ok (.imul, 1) := by decide +kernel
theorem dM_child_25 : decode prog_8_method_41_code 25 = .ok (.iload_n 1, 1) := by decide +kernel
theorem dM_child_26 : decode prog_8_method_41_code 26 = .ok (.iadd, 1) := by decide +kernel
theorem dM_child_27 : decode prog_8_method_41_code 27 = .ok (.iaload, 1) := by decide +kernel
theorem dM_child_28 : decode prog_8_method_41_code 28 = .ok (.if_icmp .lt 5, 3) := by decide +kernel
theorem dM_child_31 : decode prog_8_method_41_code 31 = .ok (.iconst (-1), 1) := by decide +kernel
theorem dM_child_32 : decode prog_8_method_41_code 32 = .ok (.ireturn, 1) := by decide +kernel
theorem dM_child_33 : decode prog_8_method_41_code 33 = .ok (.iload_n 1, 1) := by decide +kernel
theorem dM_child_34 : decode prog_8_method_41_code 34 = .ok (.iconst 1, 1) := by decide +kernel
theorem dM_child_35 : decode prog_8_method_41_code 35 = .ok (.iadd, 1) := by decide +kernel
theorem dM_child_36 : decode prog_8_method_41_code 36 = .ok (.istore_n 3, 1) := by decide +kernel
theorem dM_child_37 : decode prog_8_method_41_code 37 = .ok (.iconst 0, 1) := by decide +kernel
theorem dM_child_38 : decode prog_8_method_41_code 38 = .ok (.istore 4, 2) := by decide +kernel
theorem dM_child_40 : decode prog_8_method_41_code 40 = .ok (.iload 4, 2) := by decide +kernel
theorem dM_child_42 : decode prog_8_method_41_code 42 = .ok (.iload_n 2, 1) := by decide +kernel
theorem dM_child_43 : decode prog_8_method_41_code 43 = .ok (.if_icmp .ge 27, 3) := by decide +kernel
theorem dM_child_46 : decode prog_8_method_41_code 46 = .ok (.iload_n 3, 1) := by decide +kernel
theorem dM_child_47 : decode prog_8_method_41_code 47 = .ok (.aload_n 0, 1) := by decide +kernel
theorem dM_child_48 : decode prog_8_method_41_code 48 = .ok (.getfield 44, 3) := by decide +kernel
theorem dM_child_51 : decode prog_8_method_41_code 51 = .ok (.sipush 400, 3) := by decide +kernel
theorem dM_child_54 : decode prog_8_method_41_code 54 = .ok (.aload_n 0, 1) := by decide +kernel
theorem dM_child_55 : decode prog_8_method_41_code 55 = .ok (.getfield 230, 3) := by decide +kernel
theorem dM_child_58 : decode prog_8_method_41_code 58 = .ok (.imul, 1) := by decide +kernel
theorem dM_child_59 : decode prog_8_method_41_code 59 = .ok (.iload_n 3, 1) := by decide +kernel
theorem dM_child_60 : decode prog_8_method_41_code 60 = .ok (.iadd, 1) := by decide +kernel
theorem dM_child_61 : decode prog_8_method_41_code 61 = .ok (.iaload, 1) := by decide +kernel
theorem dM_child_62 : decode prog_8_method_41_code 62 = .ok (.iadd, 1) := by decide +kernel
theorem dM_child_63 : decode prog_8_method_41_code 63 = .ok (.istore_n 3, 1) := by decide +kernel
theorem dM_child_64 : decode prog_8_method_41_code 64 = .ok (.iinc 4 1, 3) := by decide +kernel
theorem dM_child_67 : decode prog_8_method_41_code 67 = .ok (.goto (-27), 3) := by decide +kernel
theorem dM_child_70 : decode prog_8_method_41_code 70 = .ok (.iload_n 3, 1) := by decide +kernel
theorem dM_child_71 : decode prog_8_method_41_code 71 = .ok (.ireturn, 1) := by decide +kernel
theorem dM_find_0 : decode prog_8_method_42_code 0 = .ok (.iload_n 1, 1) := by decide +kernel
theorem dM_find_1 : decode prog_8_method_42_code 1 = .ok (.ifCond .lt 16, 3) := by decide +kernel
theorem dM_find_4 : decode prog_8_method_42_code 4 = .ok (.iload_n 1, 1) := by decide +kernel
theorem dM_find_5 : decode prog_8_method_42_code 5 = .ok (.aload_n 0, 1) := by decide +kernel
theorem dM_find_6 : decode prog_8_method_42_code 6 = .ok (.getfield 13, 3) := by decide +kernel
theorem dM_find_9 : decode prog_8_method_42_code 9 = .ok (.aload_n 0, 1) := by decide +kernel
theorem dM_find_10 : decode prog_8_method_42_code 10 = .ok (.getfield 230, 3) := by decide +kernel
theorem dM_find_13 : decode prog_8_method_42_code 13 = .ok (.iaload, 1) := by decide +kernel
theorem dM_find_14 : decode prog_8_method_42_code 14 = .ok (.if_icmp .le 5, 3) := by decide +kernel
theorem dM_find_17 : decode prog_8_method_42_code 17 = .ok (.iconst (-1), 1) := by decide +kernel
theorem dM_find_18 : decode prog_8_method_42_code 18 = .ok (.ireturn, 1) := by decide +kernel
theorem dM_find_19 : decode prog_8_method_42_code 19 = .ok (.iconst 0, 1) := by decide +kernel
theorem dM_find_20 : decode prog_8_method_42_code 20 = .ok (.istore_n 2, 1) := by decide +kernel
theorem dM_find_21 : decode prog_8_method_42_code 21 = .ok (.iload_n 2, 1) := by decide +kernel
theorem dM_find_22 : decode prog_8_method_42_code 22 = .ok (.aload_n 0, 1) := by decide +kernel
theorem dM_find_23 : decode prog_8_method_42_code 23 = .ok (.getfield 20, 3) := by decide +kernel
theorem dM_find_26 : decode prog_8_method_42_code 26 = .ok (.aload_n 0, 1) := by decide +kernel
theorem dM_find_27 : decode prog_8_method_42_code 27 = .ok (.getfield 230, 3) := by decide +kernel
theorem dM_find_30 : decode prog_8_method_42_code 30 = .ok (.iaload, 1) := by decide +kernel
theorem dM_find_31 : decode prog_8_method_42_code 31 = .ok (.if_icmp .ge 62, 3) := by decide +kernel
theorem dM_find_34 : decode prog_8_method_42_code 34 = .ok (.sipush 400, 3) := by decide +kernel
theorem dM_find_37 : decode prog_8_method_42_code 37 = .ok (.aload_n 0, 1) := by decide +kernel
theorem dM_find_38 : decode prog_8_method_42_code 38 = .ok (.getfield 230, 3) := by decide +kernel
theorem dM_find_41 : decode prog_8_method_42_code 41 = .ok (.imul, 1) := by decide +kernel
theorem dM_find_42 : decode prog_8_method_42_code 42 = .ok (.iload_n 2, 1) := by decide +kernel
theorem dM_find_43 : decode prog_8_method_42_code 43 = .ok (.iadd, 1) := by decide +kernel
theorem dM_find_44 : decode prog_8_method_42_code 44 = .ok (.istore_n 3, 1) := by decide +kernel
theorem dM_find_45 : decode prog_8_method_42_code 45 = .ok (.aload_n 0, 1) := by decide +kernel
theorem dM_find_46 : decode prog_8_method_42_code 46 = .ok (.getfield 38, 3) := by decide +kernel
theorem dM_find_49 : decode prog_8_method_42_code 49 = .ok (.iload_n 3, 1) := by decide +kernel
theorem dM_find_50 : decode prog_8_method_42_code 50 = .ok (.iaload, 1) := by decide +kernel
theorem dM_find_51 : decode prog_8_method_42_code 51 = .ok (.ifCond .ne 36, 3) := by decide +kernel
theorem dM_find_54 : decode prog_8_method_42_code 54 = .ok (.aload_n 0, 1) := by decide +kernel
theorem dM_find_55 : decode prog_8_method_42_code 55 = .ok (.getfield 23, 3) := by decide +kernel
theorem dM_find_58 : decode prog_8_method_42_code 58 = .ok (.iload_n 3, 1) := by decide +kernel
theorem dM_find_59 : decode prog_8_method_42_code 59 = .ok (.iaload, 1) := by decide +kernel
theorem dM_find_60 : decode prog_8_method_42_code 60 = .ok (.bipush 17, 2) := by decide +kernel
theorem dM_find_62 : decode prog_8_method_42_code 62 = .ok (.if_icmp .eq 23, 3) := by decide +kernel
theorem dM_find_65 : decode prog_8_method_42_code 65 = .ok (.iload_n 1, 1) := by decide +kernel
theorem dM_find_66 : decode prog_8_method_42_code 66 = .ok (.aload_n 0, 1) := by decide +kernel
theorem dM_find_67 : decode prog_8_method_42_code 67 = .ok (.getfield 26, 3) := by decide +kernel
theorem dM_find_70 : decode prog_8_method_42_code 70 = .ok (.iload_n 3, 1) := by decide +kernel
theorem dM_find_71 : decode prog_8_method_42_code 71 = .ok (.iaload, 1) := by decide +kernel
theorem dM_find_72 : decode prog_8_method_42_code 72 = .ok (.if_icmp .lt 15, 3) := by decide +kernel
theorem dM_find_75 : decode prog_8_method_42_code 75 = .ok (.iload_n 1, 1) := by decide +kernel
theorem dM_find_76 : decode prog_8_method_42_code 76 = .ok (.aload_n 0, 1) := by decide +kernel
theorem dM_find_77 : decode prog_8_method_42_code 77 = .ok (.getfield 29, 3) := by decide +kernel
theorem dM_find_80 : decode prog_8_method_42_code 80 = .ok (.iload_n 3, 1) := by decide +kernel
theorem dM_find_81 : decode prog_8_method_42_code 81 = .ok (.iaload, 1) := by decide +kernel
theorem dM_find_82 : decode prog_8_method_42_code 82 = .ok (.if_icmp .ge 5, 3) := by decide +kernel
theorem dM_find_85 : decode prog_8_method_42_code 85 = .ok (.iload_n 2, 1) := by decide +kernel
theorem dM_find_86 : decode prog_8_method_42_code 86 = .ok (.ireturn, 1) := by decide +kernel
theorem dM_find_87 : decode prog_8_method_42_code 87 = .ok (.iinc 2 1, 3) := by decide +kernel
theorem dM_find_90 : decode prog_8_method_42_code 90 = .ok (.goto (-69), 3) := by decide +kernel
theorem dM_find_93 : decode prog_8_method_42_code 93 = .ok (.iconst (-1), 1) := by decide +kernel
theorem dM_find_94 : decode prog_8_method_42_code 94 = .ok (.ireturn, 1) := by decide +kernel
theorem dM_equal_0 : decode prog_8_method_43_code 0 = .ok (.aload_n 0, 1) := by decide +kernel
theorem dM_equal_1 : decode prog_8_method_43_code 1 = .ok (.iload_n 1, 1) := by decide +kernel
theorem dM_equal_2 : decode prog_8_method_43_code 2 = .ok (.invokevirtual 249, 3) := by decide +kernel
theorem dM_equal_5 : decode prog_8_method_43_code 5 = .ok (.ifCond .eq 32, 3) := by decide +kernel
theorem dM_equal_8 : decode prog_8_method_43_code 8 = .ok (.aload_n 0, 1) := by decide +kernel
theorem dM_equal_9 : decode prog_8_method_43_code 9 = .ok (.iload_n 2, 1) := by decide +kernel
theorem dM_equal_10 : decode prog_8_method_43_code 10 = .ok (.invokevirtual 249, 3) := by decide +kernel
theorem dM_equal_13 : decode prog_8_method_43_code 13 = .ok (.ifCond .eq 24, 3) := by decide +kernel
theorem dM_equal_16 : decode prog_8_method_43_code 16 = .ok (.aload_n 0, 1) := by decide +kernel
theorem dM_equal_17 : decode prog_8_method_43_code 17 = .ok (.aload_n 0, 1) := by decide +kernel
theorem dM_equal_18 : decode prog_8_method_43_code 18 = .ok (.getfield 230, 3) := by decide +kernel
theorem dM_equal_21 : decode prog_8_method_43_code 21 = .ok (.iload_n 1, 1) := by decide +kernel
theorem dM_equal_22 : decode prog_8_method_43_code 22 = .ok (.aload_n 0, 1) := by decide +kernel
theorem dM_equal_23 : decode prog_8_method_43_code 23 = .ok (.getfield 230, 3) := by decide +kernel
theorem dM_equal_26 : decode prog_8_method_43_code 26 = .ok (.iload_n 2, 1) := by decide +kernel
theorem dM_equal_27 : decode prog_8_method_43_code 27 = .ok (.invokevirtual 233, 3) := by decide +kernel
theorem dM_equal_30 : decode prog_8_method_43_code 30 = .ok (.ifCond .eq 7, 3) := by decide +kernel
theorem dM_equal_33 : decode prog_8_method_43_code 33 = .ok (.iconst 1, 1) := by decide +kernel
theorem dM_equal_34 : decode prog_8_method_43_code 34 = .ok (.goto 4, 3) := by decide +kernel
theorem dM_equal_37 : decode prog_8_method_43_code 37 = .ok (.iconst 0, 1) := by decide +kernel
theorem dM_equal_38 : decode prog_8_method_43_code 38 = .ok (.ireturn, 1) := by decide +kernel
theorem dM_fault_0 : decode prog_8_method_44_code 0 = .ok (.iload_n 1, 1) := by decide +kernel
theorem dM_fault_1 : decode prog_8_method_44_code 1 = .ok (.istore_n 2, 1) := by decide +kernel
theorem dM_fault_2 : decode prog_8_method_44_code 2 = .ok (.iconst 0, 1) := by decide +kernel
theorem dM_fault_3 : decode prog_8_method_44_code 3 = .ok (.istore_n 3, 1) := by decide +kernel
theorem dM_fault_4 : decode prog_8_method_44_code 4 = .ok (.iload_n 3, 1) := by decide +kernel
theorem dM_fault_5 : decode prog_8_method_44_code 5 = .ok (.aload_n 0, 1) := by decide +kernel
theorem dM_fault_6 : decode prog_8_method_44_code 6 = .ok (.getfield 20, 3) := by decide +kernel
theorem dM_fault_9 : decode prog_8_method_44_code 9 = .ok (.aload_n 0, 1) := by decide +kernel
theorem dM_fault_10 : decode prog_8_method_44_code 10 = .ok (.getfield 230, 3) := by decide +kernel
theorem dM_fault_13 : decode prog_8_method_44_code 13 = .ok (.iaload, 1) := by decide +kernel
theorem dM_fault_14 : decode prog_8_method_44_code 14 = .ok (.if_icmp .ge 52, 3) := by decide +kernel
theorem dM_fault_17 : decode prog_8_method_44_code 17 = .ok (.iload_n 1, 1) := by decide +kernel
theorem dM_fault_18 : decode prog_8_method_44_code 18 = .ok (.ifCond .lt 48, 3) := by decide +kernel
theorem dM_fault_21 : decode prog_8_method_44_code 21 = .ok (.sipush 400, 3) := by decide +kernel
theorem dM_fault_24 : decode prog_8_method_44_code 24 = .ok (.aload_n 0, 1) := by decide +kernel
theorem dM_fault_25 : decode prog_8_method_44_code 25 = .ok (.getfield 230, 3) := by decide +kernel
theorem dM_fault_28 : decode prog_8_method_44_code 28 = .ok (.imul, 1) := by decide +kernel
theorem dM_fault_29 : decode prog_8_method_44_code 29 = .ok (.iload_n 3, 1) := by decide +kernel
theorem dM_fault_30 : decode prog_8_method_44_code 30 = .ok (.iadd, 1) := by decide +kernel
theorem dM_fault_31 : decode prog_8_method_44_code 31 = .ok (.istore 4, 2) := by decide +kernel
theorem dM_fault_33 : decode prog_8_method_44_code 33 = .ok (.aload_n 0, 1) := by decide +kernel
theorem dM_fault_34 : decode prog_8_method_44_code 34 = .ok (.iload 4, 2) := by decide +kernel
theorem dM_fault_36 : decode prog_8_method_44_code 36 = .ok (.invokevirtual 252, 3) := by decide +kernel
theorem dM_fault_39 : decode prog_8_method_44_code 39 = .ok (.istore 5, 2) := by decide +kernel
theorem dM_fault_41 : decode prog_8_method_44_code 41 = .ok (.iload_n 2, 1) := by decide +kernel
theorem dM_fault_42 : decode prog_8_method_44_code 42 = .ok (.iload 5, 2) := by decide +kernel
theorem dM_fault_44 : decode prog_8_method_44_code 44 = .ok (.if_icmp .ge 11, 3) := by decide +kernel
theorem dM_fault_47 : decode prog_8_method_44_code 47 = .ok (.aload_n 0, 1) := by decide +kernel
theorem dM_fault_48 : decode prog_8_method_44_code 48 = .ok (.iload 4, 2) := by decide +kernel
theorem dM_fault_50 : decode prog_8_method_44_code 50 = .ok (.iload_n 2, 1) := by decide +kernel
theorem dM_fault_51 : decode prog_8_method_44_code 51 = .ok (.invokevirtual 255, 3) := by decide +kernel
theorem dM_fault_54 : decode prog_8_method_44_code 54 = .ok (.ireturn, 1) := by decide +kernel
theorem dM_fault_55 : decode prog_8_method_44_code 55 = .ok (.iload_n 2, 1) := by decide +kernel
theorem dM_fault_56 : decode prog_8_method_44_code 56 = .ok (.iload 5, 2) := by decide +kernel
theorem dM_fault_58 : decode prog_8_method_44_code 58 = .ok (.isub, 1) := by decide +kernel
theorem dM_fault_59 : decode prog_8_method_44_code 59 = .ok (.istore_n 2, 1) := by decide +kernel
theorem dM_fault_60 : decode prog_8_method_44_code 60 = .ok (.iinc 3 1, 3) := by decide +kernel
theorem dM_fault_63 : decode prog_8_method_44_code 63 = .ok (.goto (-59), 3) := by decide +kernel
theorem dM_fault_66 : decode prog_8_method_44_code 66 = .ok (.iconst (-1), 1) := by decide +kernel
theorem dM_fault_67 : decode prog_8_method_44_code 67 = .ok (.ireturn, 1) := by decide +kernel
