/-! THE CLAIM OUT OF ONE WALK OF THE LAW'S BODY. Your part is whole_start (and what it stands on); all else here is the same for every law, but numbers. -/
def R_law : String := "SharedSyntaxLaw"
def lw_P (b : Addr) (xs : List Int32) (args : Array Value) (s : State) : Prop := args = #[.ref b] ∧ s.IntsAt b xs ∧ xs.length ≤ 1536 ∧ (Jvm.Cond.and given_1 narrow_1).before args s = true
def lw_Q (_ : Array Value) (s : State) (o : Outcome) (t : State) : Prop := o = .returned (some (.int 1)) ∧ Framed s o t [] 600000 7302250
def lw_Z (below : List Frame) (a : Array Value) (s : State) : State → Prop := fun t => ∃ o, t.status = .running ∧ Ended t below o ∧ lw_Q a s o t
/-- the law's own end, with 1 on the stack, nothing written that was there before, its room as the claim has it -/
theorem lw_ret {p : Program} {l : Launch} {e : Env} {s : State} {m : MethodId} {below : List Frame} {meth : Method} {c : Code} {b : Nat} (hx : p.tables.exec = Jvm.exec) (hb : c.code = code) (hr : meth.sig.returnType = ret) (hlocks : meth.locks = false) {pc : Nat} {H : Heap} {ls : Array Slot} (hdg : decode code pc = .ok (.ireturn, 1)) : W p l e room_1 s m #[Value.ref b] below meth c H [] 600000 7302250 (lw_Z below #[Value.ref b] s) (F0 m pc ls [.int 1]) := by
  intro T hT X
  obtain ⟨fs, hret, hrun, hended, hW, hframe⟩ := X.leave (v := some (.int 1)) (hlocks := hlocks) (fun h => by rw [hr] at h; cases h)
  have hmeth' : T.vm.method? m = some meth := X.method'
  refine ⟨T.setFrames fs, ?_, .returned (some (.int 1)), hrun, hended, rfl, ⟨_, rfl⟩, hW, hframe⟩
  jvm_step X.here [X.here.top, hx, hb, hdg, hmeth', hr, ret, narrow_b1]
  (try refine ⟨rfl, ?_⟩); (try refine ⟨rfl, ?_⟩)
  first | (intro acts; rw [hret _ acts rfl rfl rfl]) | rw [hret _ _ rfl rfl rfl]
  exact Steps.refl _
/-- what holds at the law's entry: the machine, the code, the tables' words (any of lw_tbl by 'hts w (by decide +kernel)'), the script of L ints xs at the cell b, what the Statement gives of the start (any of its parts by flat_of_before) -/
def lw_At (p : Program) (s : State) (m : MethodId) (meth : Method) (c : Code) (b L : Nat) (xs : Nat → Int32) : Prop :=
  p.tables.exec = Jvm.exec ∧ c.code = code ∧ meth.sig.returnType = ret ∧ c.maxLocals = 4 ∧ s.vm.findClass R_law = some m.cls ∧ (∀ w ∈ lw_tbl, w.before #[Value.ref b] s = true) ∧ va_X b L xs s s.heap ∧ b < s.heap.size ∧ meth.locks = false ∧ (Jvm.Cond.and given_1 narrow_1).before #[Value.ref b] s = true
/-! the law: decode rows, the world of both, the loop over an invariant of the two states -/
theorem dLw_0 : decode code 0 = .ok (.new 7, 3) := by decide +kernel
theorem dLw_3 : decode code 3 = .ok (.dup, 1) := by decide +kernel
theorem dLw_4 : decode code 4 = .ok (.invokespecial 9, 3) := by decide +kernel
theorem dLw_7 : decode code 7 = .ok (.astore_n 1, 1) := by decide +kernel
theorem dLw_8 : decode code 8 = .ok (.new 10, 3) := by decide +kernel
theorem dLw_11 : decode code 11 = .ok (.dup, 1) := by decide +kernel
theorem dLw_12 : decode code 12 = .ok (.invokespecial 12, 3) := by decide +kernel
theorem dLw_15 : decode code 15 = .ok (.astore_n 2, 1) := by decide +kernel
theorem dLw_16 : decode code 16 = .ok (.iconst 0, 1) := by decide +kernel
theorem dLw_17 : decode code 17 = .ok (.istore_n 3, 1) := by decide +kernel
theorem dLw_18 : decode code 18 = .ok (.iload_n 3, 1) := by decide +kernel
theorem dLw_19 : decode code 19 = .ok (.aload_n 0, 1) := by decide +kernel
theorem dLw_20 : decode code 20 = .ok (.arraylength, 1) := by decide +kernel
theorem dLw_21 : decode code 21 = .ok (.iconst 3, 1) := by decide +kernel
theorem dLw_22 : decode code 22 = .ok (.isub, 1) := by decide +kernel
theorem dLw_23 : decode code 23 = .ok (.if_icmp .gt 350, 3) := by decide +kernel
theorem dLw_26 : decode code 26 = .ok (.aload_n 0, 1) := by decide +kernel
theorem dLw_27 : decode code 27 = .ok (.iload_n 3, 1) := by decide +kernel
theorem dLw_28 : decode code 28 = .ok (.iaload, 1) := by decide +kernel
theorem dLw_29 : decode code 29 = .ok (.bipush 15, 2) := by decide +kernel
theorem dLw_31 : decode code 31 = .ok (.iand, 1) := by decide +kernel
theorem dLw_32 : decode code 32 = .ok (.tableswitch 335 0 10 #[60, 85, 118, 131, 144, 167, 200, 233, 256, 289, 312], 60) := by decide +kernel
theorem dLw_92 : decode code 92 = .ok (.aload_n 1, 1) := by decide +kernel
theorem dLw_93 : decode code 93 = .ok (.aload_n 0, 1) := by decide +kernel
theorem dLw_94 : decode code 94 = .ok (.iload_n 3, 1) := by decide +kernel
theorem dLw_95 : decode code 95 = .ok (.iconst 1, 1) := by decide +kernel
theorem dLw_96 : decode code 96 = .ok (.iadd, 1) := by decide +kernel
theorem dLw_97 : decode code 97 = .ok (.iaload, 1) := by decide +kernel
theorem dLw_98 : decode code 98 = .ok (.i2c, 1) := by decide +kernel
theorem dLw_99 : decode code 99 = .ok (.invokevirtual 13, 3) := by decide +kernel
theorem dLw_102 : decode code 102 = .ok (.aload_n 2, 1) := by decide +kernel
theorem dLw_103 : decode code 103 = .ok (.aload_n 0, 1) := by decide +kernel
theorem dLw_104 : decode code 104 = .ok (.iload_n 3, 1) := by decide +kernel
theorem dLw_105 : decode code 105 = .ok (.iconst 1, 1) := by decide +kernel
theorem dLw_106 : decode code 106 = .ok (.iadd, 1) := by decide +kernel
theorem dLw_107 : decode code 107 = .ok (.iaload, 1) := by decide +kernel
theorem dLw_108 : decode code 108 = .ok (.i2c, 1) := by decide +kernel
theorem dLw_109 : decode code 109 = .ok (.invokevirtual 17, 3) := by decide +kernel
theorem dLw_112 : decode code 112 = .ok (.if_icmp .eq 255, 3) := by decide +kernel
theorem dLw_115 : decode code 115 = .ok (.iconst 0, 1) := by decide +kernel
theorem dLw_116 : decode code 116 = .ok (.ireturn, 1) := by decide +kernel
theorem dLw_117 : decode code 117 = .ok (.aload_n 1, 1) := by decide +kernel
theorem dLw_118 : decode code 118 = .ok (.aload_n 0, 1) := by decide +kernel
theorem dLw_119 : decode code 119 = .ok (.iload_n 3, 1) := by decide +kernel
theorem dLw_120 : decode code 120 = .ok (.iconst 1, 1) := by decide +kernel
theorem dLw_121 : decode code 121 = .ok (.iadd, 1) := by decide +kernel
theorem dLw_122 : decode code 122 = .ok (.iaload, 1) := by decide +kernel
theorem dLw_123 : decode code 123 = .ok (.aload_n 0, 1) := by decide +kernel
theorem dLw_124 : decode code 124 = .ok (.iload_n 3, 1) := by decide +kernel
theorem dLw_125 : decode code 125 = .ok (.iconst 2, 1) := by decide +kernel
theorem dLw_126 : decode code 126 = .ok (.iadd, 1) := by decide +kernel
theorem dLw_127 : decode code 127 = .ok (.iaload, 1) := by decide +kernel
theorem dLw_128 : decode code 128 = .ok (.invokevirtual 18, 3) := by decide +kernel
theorem dLw_131 : decode code 131 = .ok (.aload_n 2, 1) := by decide +kernel
theorem dLw_132 : decode code 132 = .ok (.aload_n 0, 1) := by decide +kernel
theorem dLw_133 : decode code 133 = .ok (.iload_n 3, 1) := by decide +kernel
theorem dLw_134 : decode code 134 = .ok (.iconst 1, 1) := by decide +kernel
theorem dLw_135 : decode code 135 = .ok (.iadd, 1) := by decide +kernel
theorem dLw_136 : decode code 136 = .ok (.iaload, 1) := by decide +kernel
theorem dLw_137 : decode code 137 = .ok (.aload_n 0, 1) := by decide +kernel
theorem dLw_138 : decode code 138 = .ok (.iload_n 3, 1) := by decide +kernel
theorem dLw_139 : decode code 139 = .ok (.iconst 2, 1) := by decide +kernel
theorem dLw_140 : decode code 140 = .ok (.iadd, 1) := by decide +kernel
theorem dLw_141 : decode code 141 = .ok (.iaload, 1) := by decide +kernel
theorem dLw_142 : decode code 142 = .ok (.invokevirtual 22, 3) := by decide +kernel
theorem dLw_145 : decode code 145 = .ok (.if_icmp .eq 222, 3) := by decide +kernel
theorem dLw_148 : decode code 148 = .ok (.iconst 0, 1) := by decide +kernel
theorem dLw_149 : decode code 149 = .ok (.ireturn, 1) := by decide +kernel
theorem dLw_150 : decode code 150 = .ok (.aload_n 1, 1) := by decide +kernel
theorem dLw_151 : decode code 151 = .ok (.invokevirtual 23, 3) := by decide +kernel
theorem dLw_154 : decode code 154 = .ok (.aload_n 2, 1) := by decide +kernel
theorem dLw_155 : decode code 155 = .ok (.invokevirtual 27, 3) := by decide +kernel
theorem dLw_158 : decode code 158 = .ok (.if_icmp .eq 209, 3) := by decide +kernel
theorem dLw_161 : decode code 161 = .ok (.iconst 0, 1) := by decide +kernel
theorem dLw_162 : decode code 162 = .ok (.ireturn, 1) := by decide +kernel
theorem dLw_163 : decode code 163 = .ok (.aload_n 1, 1) := by decide +kernel
theorem dLw_164 : decode code 164 = .ok (.invokevirtual 28, 3) := by decide +kernel
theorem dLw_167 : decode code 167 = .ok (.aload_n 2, 1) := by decide +kernel
theorem dLw_168 : decode code 168 = .ok (.invokevirtual 32, 3) := by decide +kernel
theorem dLw_171 : decode code 171 = .ok (.if_icmp .eq 196, 3) := by decide +kernel
theorem dLw_174 : decode code 174 = .ok (.iconst 0, 1) := by decide +kernel
theorem dLw_175 : decode code 175 = .ok (.ireturn, 1) := by decide +kernel
theorem dLw_176 : decode code 176 = .ok (.aload_n 1, 1) := by decide +kernel
theorem dLw_177 : decode code 177 = .ok (.aload_n 0, 1) := by decide +kernel
theorem dLw_178 : decode code 178 = .ok (.iload_n 3, 1) := by decide +kernel
theorem dLw_179 : decode code 179 = .ok (.iconst 1, 1) := by decide +kernel
theorem dLw_180 : decode code 180 = .ok (.iadd, 1) := by decide +kernel
theorem dLw_181 : decode code 181 = .ok (.iaload, 1) := by decide +kernel
theorem dLw_182 : decode code 182 = .ok (.invokevirtual 33, 3) := by decide +kernel
theorem dLw_185 : decode code 185 = .ok (.aload_n 2, 1) := by decide +kernel
theorem dLw_186 : decode code 186 = .ok (.aload_n 0, 1) := by decide +kernel
theorem dLw_187 : decode code 187 = .ok (.iload_n 3, 1) := by decide +kernel
theorem dLw_188 : decode code 188 = .ok (.iconst 1, 1) := by decide +kernel
theorem dLw_189 : decode code 189 = .ok (.iadd, 1) := by decide +kernel
theorem dLw_190 : decode code 190 = .ok (.iaload, 1) := by decide +kernel
theorem dLw_191 : decode code 191 = .ok (.invokevirtual 37, 3) := by decide +kernel
theorem dLw_194 : decode code 194 = .ok (.if_icmp .eq 173, 3) := by decide +kernel
theorem dLw_197 : decode code 197 = .ok (.iconst 0, 1) := by decide +kernel
theorem dLw_198 : decode code 198 = .ok (.ireturn, 1) := by decide +kernel
theorem dLw_199 : decode code 199 = .ok (.aload_n 1, 1) := by decide +kernel
theorem dLw_200 : decode code 200 = .ok (.aload_n 0, 1) := by decide +kernel
theorem dLw_201 : decode code 201 = .ok (.iload_n 3, 1) := by decide +kernel
theorem dLw_202 : decode code 202 = .ok (.iconst 1, 1) := by decide +kernel
theorem dLw_203 : decode code 203 = .ok (.iadd, 1) := by decide +kernel
theorem dLw_204 : decode code 204 = .ok (.iaload, 1) := by decide +kernel
theorem dLw_205 : decode code 205 = .ok (.aload_n 0, 1) := by decide +kernel
theorem dLw_206 : decode code 206 = .ok (.iload_n 3, 1) := by decide +kernel
theorem dLw_207 : decode code 207 = .ok (.iconst 2, 1) := by decide +kernel
theorem dLw_208 : decode code 208 = .ok (.iadd, 1) := by decide +kernel
theorem dLw_209 : decode code 209 = .ok (.iaload, 1) := by decide +kernel
theorem dLw_210 : decode code 210 = .ok (.invokevirtual 38, 3) := by decide +kernel
theorem dLw_213 : decode code 213 = .ok (.aload_n 2, 1) := by decide +kernel
theorem dLw_214 : decode code 214 = .ok (.aload_n 0, 1) := by decide +kernel
theorem dLw_215 : decode code 215 = .ok (.iload_n 3, 1) := by decide +kernel
theorem dLw_216 : decode code 216 = .ok (.iconst 1, 1) := by decide +kernel
theorem dLw_217 : decode code 217 = .ok (.iadd, 1) := by decide +kernel
theorem dLw_218 : decode code 218 = .ok (.iaload, 1) := by decide +kernel
theorem dLw_219 : decode code 219 = .ok (.aload_n 0, 1) := by decide +kernel
theorem dLw_220 : decode code 220 = .ok (.iload_n 3, 1) := by decide +kernel
theorem dLw_221 : decode code 221 = .ok (.iconst 2, 1) := by decide +kernel
theorem dLw_222 : decode code 222 = .ok (.iadd, 1) := by decide +kernel
theorem dLw_223 : decode code 223 = .ok (.iaload, 1) := by decide +kernel
theorem dLw_224 : decode code 224 = .ok (.invokevirtual 42, 3) := by decide +kernel
theorem dLw_227 : decode code 227 = .ok (.if_icmp .eq 140, 3) := by decide +kernel
theorem dLw_230 : decode code 230 = .ok (.iconst 0, 1) := by decide +kernel
theorem dLw_231 : decode code 231 = .ok (.ireturn, 1) := by decide +kernel
theorem dLw_232 : decode code 232 = .ok (.aload_n 1, 1) := by decide +kernel
theorem dLw_233 : decode code 233 = .ok (.aload_n 0, 1) := by decide +kernel
theorem dLw_234 : decode code 234 = .ok (.iload_n 3, 1) := by decide +kernel
theorem dLw_235 : decode code 235 = .ok (.iconst 1, 1) := by decide +kernel
theorem dLw_236 : decode code 236 = .ok (.iadd, 1) := by decide +kernel
theorem dLw_237 : decode code 237 = .ok (.iaload, 1) := by decide +kernel
theorem dLw_238 : decode code 238 = .ok (.aload_n 0, 1) := by decide +kernel
theorem dLw_239 : decode code 239 = .ok (.iload_n 3, 1) := by decide +kernel
theorem dLw_240 : decode code 240 = .ok (.iconst 2, 1) := by decide +kernel
theorem dLw_241 : decode code 241 = .ok (.iadd, 1) := by decide +kernel
theorem dLw_242 : decode code 242 = .ok (.iaload, 1) := by decide +kernel
theorem dLw_243 : decode code 243 = .ok (.invokevirtual 43, 3) := by decide +kernel
theorem dLw_246 : decode code 246 = .ok (.aload_n 2, 1) := by decide +kernel
theorem dLw_247 : decode code 247 = .ok (.aload_n 0, 1) := by decide +kernel
theorem dLw_248 : decode code 248 = .ok (.iload_n 3, 1) := by decide +kernel
theorem dLw_249 : decode code 249 = .ok (.iconst 1, 1) := by decide +kernel
theorem dLw_250 : decode code 250 = .ok (.iadd, 1) := by decide +kernel
theorem dLw_251 : decode code 251 = .ok (.iaload, 1) := by decide +kernel
theorem dLw_252 : decode code 252 = .ok (.aload_n 0, 1) := by decide +kernel
theorem dLw_253 : decode code 253 = .ok (.iload_n 3, 1) := by decide +kernel
theorem dLw_254 : decode code 254 = .ok (.iconst 2, 1) := by decide +kernel
theorem dLw_255 : decode code 255 = .ok (.iadd, 1) := by decide +kernel
theorem dLw_256 : decode code 256 = .ok (.iaload, 1) := by decide +kernel
theorem dLw_257 : decode code 257 = .ok (.invokevirtual 46, 3) := by decide +kernel
theorem dLw_260 : decode code 260 = .ok (.if_icmp .eq 107, 3) := by decide +kernel
theorem dLw_263 : decode code 263 = .ok (.iconst 0, 1) := by decide +kernel
theorem dLw_264 : decode code 264 = .ok (.ireturn, 1) := by decide +kernel
theorem dLw_265 : decode code 265 = .ok (.aload_n 1, 1) := by decide +kernel
theorem dLw_266 : decode code 266 = .ok (.aload_n 0, 1) := by decide +kernel
theorem dLw_267 : decode code 267 = .ok (.iload_n 3, 1) := by decide +kernel
theorem dLw_268 : decode code 268 = .ok (.iconst 1, 1) := by decide +kernel
theorem dLw_269 : decode code 269 = .ok (.iadd, 1) := by decide +kernel
theorem dLw_270 : decode code 270 = .ok (.iaload, 1) := by decide +kernel
theorem dLw_271 : decode code 271 = .ok (.invokevirtual 47, 3) := by decide +kernel
theorem dLw_274 : decode code 274 = .ok (.aload_n 2, 1) := by decide +kernel
theorem dLw_275 : decode code 275 = .ok (.aload_n 0, 1) := by decide +kernel
theorem dLw_276 : decode code 276 = .ok (.iload_n 3, 1) := by decide +kernel
theorem dLw_277 : decode code 277 = .ok (.iconst 1, 1) := by decide +kernel
theorem dLw_278 : decode code 278 = .ok (.iadd, 1) := by decide +kernel
theorem dLw_279 : decode code 279 = .ok (.iaload, 1) := by decide +kernel
theorem dLw_280 : decode code 280 = .ok (.invokevirtual 50, 3) := by decide +kernel
theorem dLw_283 : decode code 283 = .ok (.if_icmp .eq 84, 3) := by decide +kernel
theorem dLw_286 : decode code 286 = .ok (.iconst 0, 1) := by decide +kernel
theorem dLw_287 : decode code 287 = .ok (.ireturn, 1) := by decide +kernel
theorem dLw_288 : decode code 288 = .ok (.aload_n 1, 1) := by decide +kernel
theorem dLw_289 : decode code 289 = .ok (.aload_n 0, 1) := by decide +kernel
theorem dLw_290 : decode code 290 = .ok (.iload_n 3, 1) := by decide +kernel
theorem dLw_291 : decode code 291 = .ok (.iconst 1, 1) := by decide +kernel
theorem dLw_292 : decode code 292 = .ok (.iadd, 1) := by decide +kernel
theorem dLw_293 : decode code 293 = .ok (.iaload, 1) := by decide +kernel
theorem dLw_294 : decode code 294 = .ok (.aload_n 0, 1) := by decide +kernel
theorem dLw_295 : decode code 295 = .ok (.iload_n 3, 1) := by decide +kernel
theorem dLw_296 : decode code 296 = .ok (.iconst 2, 1) := by decide +kernel
theorem dLw_297 : decode code 297 = .ok (.iadd, 1) := by decide +kernel
theorem dLw_298 : decode code 298 = .ok (.iaload, 1) := by decide +kernel
theorem dLw_299 : decode code 299 = .ok (.invokevirtual 51, 3) := by decide +kernel
theorem dLw_302 : decode code 302 = .ok (.aload_n 2, 1) := by decide +kernel
theorem dLw_303 : decode code 303 = .ok (.aload_n 0, 1) := by decide +kernel
theorem dLw_304 : decode code 304 = .ok (.iload_n 3, 1) := by decide +kernel
theorem dLw_305 : decode code 305 = .ok (.iconst 1, 1) := by decide +kernel
theorem dLw_306 : decode code 306 = .ok (.iadd, 1) := by decide +kernel
theorem dLw_307 : decode code 307 = .ok (.iaload, 1) := by decide +kernel
theorem dLw_308 : decode code 308 = .ok (.aload_n 0, 1) := by decide +kernel
theorem dLw_309 : decode code 309 = .ok (.iload_n 3, 1) := by decide +kernel
theorem dLw_310 : decode code 310 = .ok (.iconst 2, 1) := by decide +kernel
theorem dLw_311 : decode code 311 = .ok (.iadd, 1) := by decide +kernel
theorem dLw_312 : decode code 312 = .ok (.iaload, 1) := by decide +kernel
theorem dLw_313 : decode code 313 = .ok (.invokevirtual 54, 3) := by decide +kernel
theorem dLw_316 : decode code 316 = .ok (.if_icmp .eq 51, 3) := by decide +kernel
theorem dLw_319 : decode code 319 = .ok (.iconst 0, 1) := by decide +kernel
theorem dLw_320 : decode code 320 = .ok (.ireturn, 1) := by decide +kernel
theorem dLw_321 : decode code 321 = .ok (.aload_n 1, 1) := by decide +kernel
theorem dLw_322 : decode code 322 = .ok (.aload_n 0, 1) := by decide +kernel
theorem dLw_323 : decode code 323 = .ok (.iload_n 3, 1) := by decide +kernel
theorem dLw_324 : decode code 324 = .ok (.iconst 1, 1) := by decide +kernel
theorem dLw_325 : decode code 325 = .ok (.iadd, 1) := by decide +kernel
theorem dLw_326 : decode code 326 = .ok (.iaload, 1) := by decide +kernel
theorem dLw_327 : decode code 327 = .ok (.invokevirtual 55, 3) := by decide +kernel
theorem dLw_330 : decode code 330 = .ok (.aload_n 2, 1) := by decide +kernel
theorem dLw_331 : decode code 331 = .ok (.aload_n 0, 1) := by decide +kernel
theorem dLw_332 : decode code 332 = .ok (.iload_n 3, 1) := by decide +kernel
theorem dLw_333 : decode code 333 = .ok (.iconst 1, 1) := by decide +kernel
theorem dLw_334 : decode code 334 = .ok (.iadd, 1) := by decide +kernel
theorem dLw_335 : decode code 335 = .ok (.iaload, 1) := by decide +kernel
theorem dLw_336 : decode code 336 = .ok (.invokevirtual 58, 3) := by decide +kernel
theorem dLw_339 : decode code 339 = .ok (.if_icmp .eq 28, 3) := by decide +kernel
theorem dLw_342 : decode code 342 = .ok (.iconst 0, 1) := by decide +kernel
theorem dLw_343 : decode code 343 = .ok (.ireturn, 1) := by decide +kernel
theorem dLw_344 : decode code 344 = .ok (.aload_n 1, 1) := by decide +kernel
theorem dLw_345 : decode code 345 = .ok (.aload_n 0, 1) := by decide +kernel
theorem dLw_346 : decode code 346 = .ok (.iload_n 3, 1) := by decide +kernel
theorem dLw_347 : decode code 347 = .ok (.iconst 1, 1) := by decide +kernel
theorem dLw_348 : decode code 348 = .ok (.iadd, 1) := by decide +kernel
theorem dLw_349 : decode code 349 = .ok (.iaload, 1) := by decide +kernel
theorem dLw_350 : decode code 350 = .ok (.invokevirtual 59, 3) := by decide +kernel
theorem dLw_353 : decode code 353 = .ok (.aload_n 2, 1) := by decide +kernel
theorem dLw_354 : decode code 354 = .ok (.aload_n 0, 1) := by decide +kernel
theorem dLw_355 : decode code 355 = .ok (.iload_n 3, 1) := by decide +kernel
theorem dLw_356 : decode code 356 = .ok (.iconst 1, 1) := by decide +kernel
theorem dLw_357 : decode code 357 = .ok (.iadd, 1) := by decide +kernel
theorem dLw_358 : decode code 358 = .ok (.iaload, 1) := by decide +kernel
theorem dLw_359 : decode code 359 = .ok (.invokevirtual 62, 3) := by decide +kernel
theorem dLw_362 : decode code 362 = .ok (.if_icmp .eq 5, 3) := by decide +kernel
theorem dLw_365 : decode code 365 = .ok (.iconst 0, 1) := by decide +kernel
theorem dLw_366 : decode code 366 = .ok (.ireturn, 1) := by decide +kernel
theorem dLw_367 : decode code 367 = .ok (.iinc 3 3, 3) := by decide +kernel
theorem dLw_370 : decode code 370 = .ok (.goto (-352), 3) := by decide +kernel
theorem dLw_373 : decode code 373 = .ok (.iconst 1, 1) := by decide +kernel
theorem dLw_374 : decode code 374 = .ok (.ireturn, 1) := by decide +kernel
def wL (cI cC cL : ClassId) (adX bh ch adC adS adM : Nat → Nat) (zx : jX) (zm : jS) : va_W := wX cI cC cL adX bh ch adC adS zx ++ wM cI cC adM zm
def lxC : List Nat := [0, 1, 2, 3, 4, 5, 6, 7, 8, 9, 10, 11, 12, 13, 14, 15, 16, 17, 18, 19, 20, 21, 22, 23, 24, 25, 26, 27, 28, 29, 30, 31, 32, 33, 34, 35, 36, 37, 38, 39, 40, 41, 42, 43, 44, 45, 46]
def lmC : List Nat := [47, 48, 49, 50, 51, 52, 53, 54, 55, 56, 57, 58, 59, 60, 61, 62, 63, 64, 65, 66, 67, 68, 69, 70, 71, 72, 73, 74, 75, 76, 77, 78, 79]
def lxB : List Nat := [33, 34, 35, 36, 37, 38, 39, 40, 41, 42, 43, 44, 45, 46, 47, 48, 49, 50, 51, 52, 53, 54, 55, 56, 57, 58, 59, 60, 61, 62, 63, 64, 65, 66, 67, 68, 69, 70, 71, 72, 73, 74, 75, 76, 77, 78, 79, 0, 1, 2, 3, 4, 5, 6, 7, 8, 9, 10, 11, 12, 13, 14, 15, 16, 17, 18, 19, 20, 21, 22, 23, 24, 25, 26, 27, 28, 29, 30, 31, 32]
def lmB : List Nat := [0, 1, 2, 3, 4, 5, 6, 7, 8, 9, 10, 11, 12, 13, 14, 15, 16, 17, 18, 19, 20, 21, 22, 23, 24, 25, 26, 27, 28, 29, 30, 31, 32, 33, 34, 35, 36, 37, 38, 39, 40, 41, 42, 43, 44, 45, 46, 47, 48, 49, 50, 51, 52, 53, 54, 55, 56, 57, 58, 59, 60, 61, 62, 63, 64, 65, 66, 67, 68, 69, 70, 71, 72, 73, 74, 75, 76, 77, 78, 79]
theorem lxC_nd : va_nd lxC = true := by decide +kernel
theorem lmC_nd : va_nd lmC = true := by decide +kernel
theorem lxB_nd : va_nd lxB = true := by decide +kernel
theorem lmB_nd : va_nd lmB = true := by decide +kernel
theorem lx_dis : ∀ i ∈ lmC, i ∉ lxC := by decide +kernel
theorem lm_dis : ∀ i ∈ lxC, i ∉ lmC := by decide +kernel
theorem wL_mcX (cI cC cL : ClassId) (adX bh ch adC adS adM : Nat → Nat) (zx : jX) (zm : jS) : lxC.map (fun i => (wL cI cC cL adX bh ch adC adS adM zx zm)[i]?) = (wX cI cC cL adX bh ch adC adS zx).map some := rfl
theorem wL_mrX (cI cC cL : ClassId) (adX bh ch adC adS adM : Nat → Nat) (zx : jX) (zm : jS) : lmC.map (fun i => (wL cI cC cL adX bh ch adC adS adM zx zm)[i]?) = (wM cI cC adM zm).map some := rfl
theorem wL_mbX (cI cC cL : ClassId) (adX bh ch adC adS adM : Nat → Nat) (zx : jX) (zm : jS) : lxB.map (fun i => (wM cI cC adM zm ++ wX cI cC cL adX bh ch adC adS zx)[i]?) = (wL cI cC cL adX bh ch adC adS adM zx zm).map some := rfl
theorem wL_mbM (cI cC cL : ClassId) (adX bh ch adC adS adM : Nat → Nat) (zx : jX) (zm : jS) : lmB.map (fun i => (wX cI cC cL adX bh ch adC adS zx ++ wM cI cC adM zm)[i]?) = (wL cI cC cL adX bh ch adC adS adM zx zm).map some := rfl
theorem wL_subX (cI cC cL : ClassId) (adX bh ch adC adS adM : Nat → Nat) (zx : jX) (zm : jS) {D : va_G} {cl : List vw_C} {F : Nat → Prop} {H0 H : Heap} {locs : List Loc} (h : jcx D cl F H0 (wL cI cC cL adX bh ch adC adS adM zx zm) H locs) : jcx D cl F H0 (wX cI cC cL adX bh ch adC adS zx) H locs := ⟨h.1.sub lxC (fm_some (wL_mcX cI cC cL adX bh ch adC adS adM zx zm)), h.2.1.sub lxC lxC_nd (wL_mcX cI cC cL adX bh ch adC adS adM zx zm), h.2.2⟩
theorem wL_subM (cI cC cL : ClassId) (adX bh ch adC adS adM : Nat → Nat) (zx : jX) (zm : jS) {D : va_G} {cl : List vw_C} {F : Nat → Prop} {H0 H : Heap} {locs : List Loc} (h : jcx D cl F H0 (wL cI cC cL adX bh ch adC adS adM zx zm) H locs) : jcx D cl F H0 (wM cI cC adM zm) H locs := ⟨h.1.sub lmC (fm_some (wL_mrX cI cC cL adX bh ch adC adS adM zx zm)), h.2.1.sub lmC lmC_nd (wL_mrX cI cC cL adX bh ch adC adS adM zx zm), h.2.2⟩
/-- each call of the two answers alike, and keeps the invariant -/
def PStep (N : Nat) (Inv : jX → jS → Prop) : Prop := (∀ (zx : jX) (zm : jS), Inv zx zm → ∀ (v : Int32), ∃ (r : Int32) (zx1 : jX) (zm1 : jS), fX_type N ((v.toUInt32 % 65536).toInt32) zx = some (r, zx1) ∧ fM_type N ((v.toUInt32 % 65536).toInt32) zm = some (r, zm1) ∧ Inv zx1 zm1) ∧
  (∀ (zx : jX) (zm : jS), Inv zx zm → ∀ (a b : Int32), ∃ (r : Int32) (zx1 : jX) (zm1 : jS), fX_edit N a b zx = some (r, zx1) ∧ fM_edit N a b zm = some (r, zm1) ∧ Inv zx1 zm1) ∧
  (∀ (zx : jX) (zm : jS), Inv zx zm → ∃ (r : Int32) (zx1 : jX) (zm1 : jS), fX_undo N zx = some (r, zx1) ∧ fM_undo N zm = some (r, zm1) ∧ Inv zx1 zm1) ∧
  (∀ (zx : jX) (zm : jS), Inv zx zm → ∃ (r : Int32) (zx1 : jX) (zm1 : jS), fX_length N zx = some (r, zx1) ∧ fM_length N zm = some (r, zm1) ∧ Inv zx1 zm1) ∧
  (∀ (zx : jX) (zm : jS), Inv zx zm → ∀ (a : Int32), ∃ (r : Int32) (zx1 : jX) (zm1 : jS), fX_letter N a zx = some (r, zx1) ∧ fM_letter N a zm = some (r, zm1) ∧ Inv zx1 zm1) ∧
  (∀ (zx : jX) (zm : jS), Inv zx zm → ∀ (a b : Int32), ∃ (r : Int32) (zx1 : jX) (zm1 : jS), fX_node N a b zx = some (r, zx1) ∧ fM_node N a b zm = some (r, zm1) ∧ Inv zx1 zm1) ∧
  (∀ (zx : jX) (zm : jS), Inv zx zm → ∀ (a b : Int32), ∃ (r : Int32) (zx1 : jX) (zm1 : jS), fX_child N a b zx = some (r, zx1) ∧ fM_child N a b zm = some (r, zm1) ∧ Inv zx1 zm1) ∧
  (∀ (zx : jX) (zm : jS), Inv zx zm → ∀ (a : Int32), ∃ (r : Int32) (zx1 : jX) (zm1 : jS), fX_find N a zx = some (r, zx1) ∧ fM_find N a zm = some (r, zm1) ∧ Inv zx1 zm1) ∧
  (∀ (zx : jX) (zm : jS), Inv zx zm → ∀ (a b : Int32), ∃ (r : Int32) (zx1 : jX) (zm1 : jS), fX_equal N a b zx = some (r, zx1) ∧ fM_equal N a b zm = some (r, zm1) ∧ Inv zx1 zm1) ∧
  (∀ (zx : jX) (zm : jS), Inv zx zm → ∀ (a : Int32), ∃ (r : Int32) (zx1 : jX) (zm1 : jS), fX_fault N a zx = some (r, zx1) ∧ fM_fault N a zm = some (r, zm1) ∧ Inv zx1 zm1) ∧
  (∀ (zx : jX) (zm : jS), Inv zx zm → ∀ (a : Int32), ∃ (r : Int32) (zx1 : jX) (zm1 : jS), fX_count N a zx = some (r, zx1) ∧ fM_count N a zm = some (r, zm1) ∧ Inv zx1 zm1)
theorem law_in {i L : Nat} (hL : L ≤ 1536) (hi : i ≤ L) (h : ¬ Int32.ofNat L - 3 < nI i) : i + 3 ≤ L := by
  have h1 : (Int32.ofNat L - 3).toInt = (L : Int) - 3 := pk_sub_toInt (a := L) (b := 3) (by omega) (by omega)
  have h2 : ¬ (Int32.ofNat L - 3).toInt < (nI i).toInt := fun q => h (Int32.lt_iff_toInt_lt.mpr q)
  rw [h1, nI_toInt (by omega)] at h2
  omega
set_option maxHeartbeats 16000000 in
set_option maxRecDepth 100000 in
theorem law_loop {p : Program} {e : Env} {s : State} {m : MethodId} {below : List Frame} {meth : Method} {c : Code} (l : Launch) {b L : Nat} {xs : Nat → Int32} (dC : Nat → ClassId) (dI : Nat → Nat → Nat) (cI cC cL : ClassId) (sk sv adX bh ch adM : Nat → Nat) (N : Nat) (Inv : jX → jS → Prop) (cells slots : Nat) (hce : cells ≤ 600000) (hsl : slots ≤ 7302250) (hx : p.tables.exec = Jvm.exec) (hb : c.code = code) (hr : meth.sig.returnType = ret) (hml : c.maxLocals = 4) (hown : s.vm.findClass R_law = some m.cls) (hlk : meth.locks = false) {w0 : Cond} (hts : ∀ w ∈ w0 :: TB, w.before #[Value.ref b] s = true) (hX : va_X b L xs s s.heap) (hbl : b < s.heap.size) (hL : L ≤ 1536) (hK : va_K (dC, dI) vwCl [(cI, .int), (cC, .char), (cL, .object "SharedSyntax$Letters")] s) (hN : jEn sk sv (fun q => s.heap.size ≤ q) s s.heap) (hSt : PStep N Inv) : ∀ (n i : Nat) (adC adS : Nat → Nat) (zx : jX) (zm : jS) (ls : Array Slot) (H : Heap) (locs : List Loc), L + 3 - i < n → i ≤ L → lv_has ls 4 [(3, .int (nI i)), (2, .ref (adM 0)), (1, .ref (adX 0)), (0, .ref b)] → jcx (dC, dI) vwCl (fun q => s.heap.size ≤ q) s.heap (wL cI cC cL adX bh ch adC adS adM zx zm) H locs → Inv zx zm → W p l e room_1 s m #[Value.ref b] below meth c H locs cells slots (lw_Z below #[Value.ref b] s) (F0 m 18 ls []) := by
  have ht : ∀ w ∈ TB, w.before #[Value.ref b] s = true := fun w h => hts w (List.mem_cons_of_mem _ h)
  have hA : ∀ q, s.heap.size ≤ q → (fun q => s.heap.size ≤ q) q := fun q h => h
  have hbA : ¬ (fun q => s.heap.size ≤ q) b := fun h => absurd hbl (Nat.not_lt.mpr h)
  have hcs : cells + 0 ≤ room_1.cells ∧ slots + 0 ≤ room_1.slots := ⟨hce, hsl⟩
  intro n
  induction n with
  | zero => exact fun i _ _ _ _ _ _ _ h => absurd h (Nat.not_lt_zero _)
  | succ n ih =>
    intro i adC adS zx zm ls H locs hn hiL hl hC hI
    refine lv_iload_n hx hb dLw_18 rfl (lv_at hl 0 rfl) ?_
    refine lv_aload_n hx hb dLw_19 rfl (lv_at hl 3 rfl) ?_
    refine va_slen hx hb hX hbl hbA hC.2.2 dLw_20 ?_
    refine lv_iconst (v := 3) hx hb dLw_21 (by decide) ?_
    refine lv_isub hx hb dLw_22 ?_
    refine lv_icmp_gt (tgt := 373) hx hb dLw_23 (by decide) (fun c1 => ?_) (fun c1 => ?_)
    · refine lv_iconst (v := 1) hx hb dLw_373 (by decide) ?_
      refine va_forget (fun q hq => hC.2.2.2.2 q hq) ?_
      refine W.widen (k := 600000) (n := 7302250) hce hsl ?_
      exact lw_ret hx hb hr hlk dLw_374
    · have hi3 : i + 3 ≤ L := law_in hL hiL c1
      have hin0 : vp_in (nI i) L := vp_in_nI (by omega) (by omega)
      have hin1 : vp_in (nI i + 1) L := by rw [nI_1]; exact vp_in_nI (by omega) (by omega)
      have hin2 : vp_in (nI i + 2) L := by rw [show nI i + 2 = nI (i + 2) from nI_add i 2]; exact vp_in_nI (by omega) (by omega)
      have hJ : ∀ (aC aS : Nat → Nat) (zx : jX) (zm : jS) (ls : Array Slot) (H : Heap) (locs : List Loc), lv_has ls 4 [(3, .int (nI i)), (2, .ref (adM 0)), (1, .ref (adX 0)), (0, .ref b)] → jcx (dC, dI) vwCl (fun q => s.heap.size ≤ q) s.heap (wL cI cC cL adX bh ch aC aS adM zx zm) H locs → Inv zx zm → W p l e room_1 s m #[Value.ref b] below meth c H locs cells slots (lw_Z below #[Value.ref b] s) (F0 m 367 ls []) := by
        intro aC aS zx zm ls H locs hl hC hI
        refine lv_iinc (k := 0) (v := nI (i + 3)) (lv' := [(3, .int (nI (i + 3))), (2, .ref (adM 0)), (1, .ref (adX 0)), (0, .ref b)]) hx hb dLw_367 hl rfl (nI_add i 3) (by decide) rfl (fun ls hl => ?_)
        refine lv_goto (tgt := 18) hx hb dLw_370 (by decide) ?_
        exact ih (i + 3) aC aS zx zm ls H locs (by omega) (by omega) hl hC hI
      refine lv_aload_n hx hb dLw_26 rfl (lv_at hl 3 rfl) ?_
      refine lv_iload_n hx hb dLw_27 rfl (lv_at hl 0 rfl) ?_
      refine va_sld hx hb hX hbl hbA hC.2.2 hin0 dLw_28 ?_
      refine lv_bipush (v := 15) hx hb dLw_29 (by decide) ?_
      refine lv_iand hx hb dLw_31 ?_
      refine lv_topi (fun y _ => ?_)
      by_cases w0 : y = 0
      · refine lv_tableIn (tgt := 92) hx hb dLw_32 (by rw [w0]; decide) (by rw [w0]; decide) (by rw [w0]; rfl) (by decide) ?_
        obtain ⟨r, zx1, zm1, hfx, hfm, hI1⟩ := hSt.1 zx zm hI (xs (nI i + 1).toNatClampNeg)
        refine lv_aload_n hx hb dLw_92 rfl (lv_at hl 2 rfl) ?_
        refine lv_aload_n hx hb dLw_93 rfl (lv_at hl 3 rfl) ?_
        refine lv_iload_n hx hb dLw_94 rfl (lv_at hl 0 rfl) ?_
        refine lv_iconst (v := 1) hx hb dLw_95 (by decide) ?_
        refine lv_iadd hx hb dLw_96 ?_
        refine va_sld hx hb hX hbl hbA hC.2.2 hin1 dLw_97 ?_
        refine lv_i2c hx hb dLw_98 rfl ?_
        have hCx := wL_subX cI cC cL adX bh ch adC adS adM zx zm hC
        refine jcallS_i (wL_mcX cI cC cL adX bh ch adC adS adM zx zm) (wL_mrX cI cC cL adX bh ch adC adS adM zx zm) lmC_nd lx_dis (wL_mbX cI cC cL adX bh ch adC adS adM zx1 zm) lxB_nd (va_runV (C := RcX) (As := [.int (((xs (nI i + 1).toNatClampNeg).toUInt32 % 65536).toInt32)]) (rest := []) ⟨hx, hb, hml, hown, hts⟩ (cX_type l dC dI cI cC cL sk sv adX bh ch adC adS N (((xs (nI i + 1).toNatClampNeg).toUInt32 % 65536).toInt32) zx zx1 r hfx _) ⟨(callB_of 1 hts (tb_good tw482) rfl rfl rfl (ht _ tw1) (ht _ tw479) (by decide +kernel) ⟨by decide, by decide⟩), ht _ tw480, ht _ tw481⟩ (jpreV (jEn_ok sk sv) hCx hA hK hN (wX_e0 cI cC cL adX bh ch adC adS zx) rfl rfl _) rfl rfl hl.1 rfl (lv_room (Nat.le_of_ble_eq_true rfl)) dLw_99 hcs) hC hA (fun H locs hC => ?_)
        refine lv_aload_n hx hb dLw_102 rfl (lv_at hl 1 rfl) ?_
        refine lv_aload_n hx hb dLw_103 rfl (lv_at hl 3 rfl) ?_
        refine lv_iload_n hx hb dLw_104 rfl (lv_at hl 0 rfl) ?_
        refine lv_iconst (v := 1) hx hb dLw_105 (by decide) ?_
        refine lv_iadd hx hb dLw_106 ?_
        refine va_sld hx hb hX hbl hbA hC.2.2 hin1 dLw_107 ?_
        refine lv_i2c hx hb dLw_108 rfl ?_
        have hCm := wL_subM cI cC cL adX bh ch adC adS adM zx1 zm hC
        refine jcallS_i (wL_mrX cI cC cL adX bh ch adC adS adM zx1 zm) (wL_mcX cI cC cL adX bh ch adC adS adM zx1 zm) lxC_nd lm_dis (wL_mbM cI cC cL adX bh ch adC adS adM zx1 zm1) lmB_nd (va_runV (C := RcM) (As := [.int (((xs (nI i + 1).toNatClampNeg).toUInt32 % 65536).toInt32)]) (rest := [.int r]) ⟨hx, hb, hml, hown, hts⟩ (cM_type l dC dI cI cC cL sk sv adM N (((xs (nI i + 1).toNatClampNeg).toUInt32 % 65536).toInt32) zm zm1 r hfm _) ⟨(callB_of 1 hts (tb_good tw894) rfl rfl rfl (ht _ tw14) (ht _ tw891) (by decide +kernel) ⟨by decide, by decide⟩), ht _ tw892, ht _ tw893⟩ (jpreV (jEn_ok sk sv) hCm hA hK hN (wM_e0 cI cC adM zm) rfl rfl _) rfl rfl hl.1 rfl (lv_room (Nat.le_of_ble_eq_true rfl)) dLw_109 hcs) hC hA (fun H locs hC => ?_)
        refine lv_icmp_eq (tgt := 367) hx hb dLw_112 (by decide) (fun _ => ?_) (fun c => absurd rfl c)
        exact hJ adC adS zx1 zm1 ls _ _ hl hC hI1
      · by_cases w1 : y = 1
        · refine lv_tableIn (tgt := 117) hx hb dLw_32 (by rw [w1]; decide) (by rw [w1]; decide) (by rw [w1]; rfl) (by decide) ?_
          obtain ⟨r, zx1, zm1, hfx, hfm, hI1⟩ := hSt.2.1 zx zm hI (xs (nI i + 1).toNatClampNeg) (xs (nI i + 2).toNatClampNeg)
          refine lv_aload_n hx hb dLw_117 rfl (lv_at hl 2 rfl) ?_
          refine lv_aload_n hx hb dLw_118 rfl (lv_at hl 3 rfl) ?_
          refine lv_iload_n hx hb dLw_119 rfl (lv_at hl 0 rfl) ?_
          refine lv_iconst (v := 1) hx hb dLw_120 (by decide) ?_
          refine lv_iadd hx hb dLw_121 ?_
          refine va_sld hx hb hX hbl hbA hC.2.2 hin1 dLw_122 ?_
          refine lv_aload_n hx hb dLw_123 rfl (lv_at hl 3 rfl) ?_
          refine lv_iload_n hx hb dLw_124 rfl (lv_at hl 0 rfl) ?_
          refine lv_iconst (v := 2) hx hb dLw_125 (by decide) ?_
          refine lv_iadd hx hb dLw_126 ?_
          refine va_sld hx hb hX hbl hbA hC.2.2 hin2 dLw_127 ?_
          have hCx := wL_subX cI cC cL adX bh ch adC adS adM zx zm hC
          have hcx := cX_edit l dC dI cI cC cL sk sv adX bh ch adC adS N (xs (nI i + 1).toNatClampNeg) (xs (nI i + 2).toNatClampNeg) zx zx1 r hfx
          by_cases hr0 : r = 0
          · rw [if_pos hr0] at hcx
            refine jcallS_i (wL_mcX cI cC cL adX bh ch adC adS adM zx zm) (wL_mrX cI cC cL adX bh ch adC adS adM zx zm) lmC_nd lx_dis (wL_mbX cI cC cL adX bh ch adC adS adM zx1 zm) lxB_nd (va_runV (C := RcX) (As := [.int (xs (nI i + 1).toNatClampNeg), .int (xs (nI i + 2).toNatClampNeg)]) (rest := []) ⟨hx, hb, hml, hown, hts⟩ (hcx _) ⟨(callB_of 2 hts (tb_good tw490) rfl rfl rfl (ht _ tw1) (ht _ tw487) (by decide +kernel) ⟨by decide, by decide⟩), ht _ tw488, ht _ tw489⟩ (jpreV (jEn_ok sk sv) hCx hA hK hN (wX_e0 cI cC cL adX bh ch adC adS zx) rfl rfl _) rfl rfl hl.1 rfl (lv_room (Nat.le_of_ble_eq_true rfl)) dLw_128 hcs) hC hA (fun H locs hC => ?_)
            refine lv_aload_n hx hb dLw_131 rfl (lv_at hl 1 rfl) ?_
            refine lv_aload_n hx hb dLw_132 rfl (lv_at hl 3 rfl) ?_
            refine lv_iload_n hx hb dLw_133 rfl (lv_at hl 0 rfl) ?_
            refine lv_iconst (v := 1) hx hb dLw_134 (by decide) ?_
            refine lv_iadd hx hb dLw_135 ?_
            refine va_sld hx hb hX hbl hbA hC.2.2 hin1 dLw_136 ?_
            refine lv_aload_n hx hb dLw_137 rfl (lv_at hl 3 rfl) ?_
            refine lv_iload_n hx hb dLw_138 rfl (lv_at hl 0 rfl) ?_
            refine lv_iconst (v := 2) hx hb dLw_139 (by decide) ?_
            refine lv_iadd hx hb dLw_140 ?_
            refine va_sld hx hb hX hbl hbA hC.2.2 hin2 dLw_141 ?_
            have hCm := wL_subM cI cC cL adX bh ch adC adS adM zx1 zm hC
            refine jcallS_i (wL_mrX cI cC cL adX bh ch adC adS adM zx1 zm) (wL_mcX cI cC cL adX bh ch adC adS adM zx1 zm) lxC_nd lm_dis (wL_mbM cI cC cL adX bh ch adC adS adM zx1 zm1) lmB_nd (va_runV (C := RcM) (As := [.int (xs (nI i + 1).toNatClampNeg), .int (xs (nI i + 2).toNatClampNeg)]) (rest := [.int r]) ⟨hx, hb, hml, hown, hts⟩ (cM_edit l dC dI cI cC cL sk sv adM N (xs (nI i + 1).toNatClampNeg) (xs (nI i + 2).toNatClampNeg) zm zm1 r hfm _) ⟨(callB_of 2 hts (tb_good tw898) rfl rfl rfl (ht _ tw14) (ht _ tw895) (by decide +kernel) ⟨by decide, by decide⟩), ht _ tw896, ht _ tw897⟩ (jpreV (jEn_ok sk sv) hCm hA hK hN (wM_e0 cI cC adM zm) rfl rfl _) rfl rfl hl.1 rfl (lv_room (Nat.le_of_ble_eq_true rfl)) dLw_142 hcs) hC hA (fun H locs hC => ?_)
            refine lv_icmp_eq (tgt := 367) hx hb dLw_145 (by decide) (fun _ => ?_) (fun c => absurd rfl c)
            exact hJ adC adS zx1 zm1 ls _ _ hl hC hI1
          · rw [if_neg hr0] at hcx
            refine jcallS_i (wL_mcX cI cC cL adX bh ch adC adS adM zx zm) (wL_mrX cI cC cL adX bh ch adC adS adM zx zm) lmC_nd lx_dis (wL_mbX cI cC cL adX bh ch adS adC adM zx1 zm) lxB_nd (va_runV (C := RcX) (As := [.int (xs (nI i + 1).toNatClampNeg), .int (xs (nI i + 2).toNatClampNeg)]) (rest := []) ⟨hx, hb, hml, hown, hts⟩ (hcx _) ⟨(callB_of 2 hts (tb_good tw490) rfl rfl rfl (ht _ tw1) (ht _ tw487) (by decide +kernel) ⟨by decide, by decide⟩), ht _ tw488, ht _ tw489⟩ (jpreV (jEn_ok sk sv) hCx hA hK hN (wX_e0 cI cC cL adX bh ch adC adS zx) rfl rfl _) rfl rfl hl.1 rfl (lv_room (Nat.le_of_ble_eq_true rfl)) dLw_128 hcs) hC hA (fun H locs hC => ?_)
            refine lv_aload_n hx hb dLw_131 rfl (lv_at hl 1 rfl) ?_
            refine lv_aload_n hx hb dLw_132 rfl (lv_at hl 3 rfl) ?_
            refine lv_iload_n hx hb dLw_133 rfl (lv_at hl 0 rfl) ?_
            refine lv_iconst (v := 1) hx hb dLw_134 (by decide) ?_
            refine lv_iadd hx hb dLw_135 ?_
            refine va_sld hx hb hX hbl hbA hC.2.2 hin1 dLw_136 ?_
            refine lv_aload_n hx hb dLw_137 rfl (lv_at hl 3 rfl) ?_
            refine lv_iload_n hx hb dLw_138 rfl (lv_at hl 0 rfl) ?_
            refine lv_iconst (v := 2) hx hb dLw_139 (by decide) ?_
            refine lv_iadd hx hb dLw_140 ?_
            refine va_sld hx hb hX hbl hbA hC.2.2 hin2 dLw_141 ?_
            have hCm := wL_subM cI cC cL adX bh ch adS adC adM zx1 zm hC
            refine jcallS_i (wL_mrX cI cC cL adX bh ch adS adC adM zx1 zm) (wL_mcX cI cC cL adX bh ch adS adC adM zx1 zm) lxC_nd lm_dis (wL_mbM cI cC cL adX bh ch adS adC adM zx1 zm1) lmB_nd (va_runV (C := RcM) (As := [.int (xs (nI i + 1).toNatClampNeg), .int (xs (nI i + 2).toNatClampNeg)]) (rest := [.int r]) ⟨hx, hb, hml, hown, hts⟩ (cM_edit l dC dI cI cC cL sk sv adM N (xs (nI i + 1).toNatClampNeg) (xs (nI i + 2).toNatClampNeg) zm zm1 r hfm _) ⟨(callB_of 2 hts (tb_good tw898) rfl rfl rfl (ht _ tw14) (ht _ tw895) (by decide +kernel) ⟨by decide, by decide⟩), ht _ tw896, ht _ tw897⟩ (jpreV (jEn_ok sk sv) hCm hA hK hN (wM_e0 cI cC adM zm) rfl rfl _) rfl rfl hl.1 rfl (lv_room (Nat.le_of_ble_eq_true rfl)) dLw_142 hcs) hC hA (fun H locs hC => ?_)
            refine lv_icmp_eq (tgt := 367) hx hb dLw_145 (by decide) (fun _ => ?_) (fun c => absurd rfl c)
            exact hJ adS adC zx1 zm1 ls _ _ hl hC hI1
        · by_cases w2 : y = 2
          · refine lv_tableIn (tgt := 150) hx hb dLw_32 (by rw [w2]; decide) (by rw [w2]; decide) (by rw [w2]; rfl) (by decide) ?_
            obtain ⟨r, zx1, zm1, hfx, hfm, hI1⟩ := hSt.2.2.1 zx zm hI
            refine lv_aload_n hx hb dLw_150 rfl (lv_at hl 2 rfl) ?_
            have hCx := wL_subX cI cC cL adX bh ch adC adS adM zx zm hC
            refine jcallS_i (wL_mcX cI cC cL adX bh ch adC adS adM zx zm) (wL_mrX cI cC cL adX bh ch adC adS adM zx zm) lmC_nd lx_dis (wL_mbX cI cC cL adX bh ch adC adS adM zx1 zm) lxB_nd (va_runV (C := RcX) (As := []) (rest := []) ⟨hx, hb, hml, hown, hts⟩ (cX_undo l dC dI cI cC cL sk sv adX bh ch adC adS N zx zx1 r hfx _) ⟨(callB_of 0 hts (tb_good tw567) rfl rfl rfl (ht _ tw1) (ht _ tw564) (by decide +kernel) ⟨by decide, by decide⟩), ht _ tw565, ht _ tw566⟩ (jpreV (jEn_ok sk sv) hCx hA hK hN (wX_e0 cI cC cL adX bh ch adC adS zx) rfl rfl _) rfl rfl hl.1 rfl (lv_room (Nat.le_of_ble_eq_true rfl)) dLw_151 hcs) hC hA (fun H locs hC => ?_)
            refine lv_aload_n hx hb dLw_154 rfl (lv_at hl 1 rfl) ?_
            have hCm := wL_subM cI cC cL adX bh ch adC adS adM zx1 zm hC
            refine jcallS_i (wL_mrX cI cC cL adX bh ch adC adS adM zx1 zm) (wL_mcX cI cC cL adX bh ch adC adS adM zx1 zm) lxC_nd lm_dis (wL_mbM cI cC cL adX bh ch adC adS adM zx1 zm1) lmB_nd (va_runV (C := RcM) (As := []) (rest := [.int r]) ⟨hx, hb, hml, hown, hts⟩ (cM_undo l dC dI cI cC cL sk sv adM N zm zm1 r hfm _) ⟨(callB_of 0 hts (tb_good tw918) rfl rfl rfl (ht _ tw14) (ht _ tw915) (by decide +kernel) ⟨by decide, by decide⟩), ht _ tw916, ht _ tw917⟩ (jpreV (jEn_ok sk sv) hCm hA hK hN (wM_e0 cI cC adM zm) rfl rfl _) rfl rfl hl.1 rfl (lv_room (Nat.le_of_ble_eq_true rfl)) dLw_155 hcs) hC hA (fun H locs hC => ?_)
            refine lv_icmp_eq (tgt := 367) hx hb dLw_158 (by decide) (fun _ => ?_) (fun c => absurd rfl c)
            exact hJ adC adS zx1 zm1 ls _ _ hl hC hI1
          · by_cases w3 : y = 3
            · refine lv_tableIn (tgt := 163) hx hb dLw_32 (by rw [w3]; decide) (by rw [w3]; decide) (by rw [w3]; rfl) (by decide) ?_
              obtain ⟨r, zx1, zm1, hfx, hfm, hI1⟩ := hSt.2.2.2.1 zx zm hI
              refine lv_aload_n hx hb dLw_163 rfl (lv_at hl 2 rfl) ?_
              have hCx := wL_subX cI cC cL adX bh ch adC adS adM zx zm hC
              refine jcallS_i (wL_mcX cI cC cL adX bh ch adC adS adM zx zm) (wL_mrX cI cC cL adX bh ch adC adS adM zx zm) lmC_nd lx_dis (wL_mbX cI cC cL adX bh ch adC adS adM zx1 zm) lxB_nd (va_runV (C := RcX) (As := []) (rest := []) ⟨hx, hb, hml, hown, hts⟩ (cX_length l dC dI cI cC cL sk sv adX bh ch adC adS N zx zx1 r hfx _) ⟨(callB_of 0 hts (tb_good tw575) rfl rfl rfl (ht _ tw1) (ht _ tw572) (by decide +kernel) ⟨by decide, by decide⟩), ht _ tw573, ht _ tw574⟩ (jpreV (jEn_ok sk sv) hCx hA hK hN (wX_e0 cI cC cL adX bh ch adC adS zx) rfl rfl _) rfl rfl hl.1 rfl (lv_room (Nat.le_of_ble_eq_true rfl)) dLw_164 hcs) hC hA (fun H locs hC => ?_)
              refine lv_aload_n hx hb dLw_167 rfl (lv_at hl 1 rfl) ?_
              have hCm := wL_subM cI cC cL adX bh ch adC adS adM zx1 zm hC
              refine jcallS_i (wL_mrX cI cC cL adX bh ch adC adS adM zx1 zm) (wL_mcX cI cC cL adX bh ch adC adS adM zx1 zm) lxC_nd lm_dis (wL_mbM cI cC cL adX bh ch adC adS adM zx1 zm1) lmB_nd (va_runV (C := RcM) (As := []) (rest := [.int r]) ⟨hx, hb, hml, hown, hts⟩ (cM_length l dC dI cI cC cL sk sv adM N zm zm1 r hfm _) ⟨(callB_of 0 hts (tb_good tw922) rfl rfl rfl (ht _ tw14) (ht _ tw919) (by decide +kernel) ⟨by decide, by decide⟩), ht _ tw920, ht _ tw921⟩ (jpreV (jEn_ok sk sv) hCm hA hK hN (wM_e0 cI cC adM zm) rfl rfl _) rfl rfl hl.1 rfl (lv_room (Nat.le_of_ble_eq_true rfl)) dLw_168 hcs) hC hA (fun H locs hC => ?_)
              refine lv_icmp_eq (tgt := 367) hx hb dLw_171 (by decide) (fun _ => ?_) (fun c => absurd rfl c)
              exact hJ adC adS zx1 zm1 ls _ _ hl hC hI1
            · by_cases w4 : y = 4
              · refine lv_tableIn (tgt := 176) hx hb dLw_32 (by rw [w4]; decide) (by rw [w4]; decide) (by rw [w4]; rfl) (by decide) ?_
                obtain ⟨r, zx1, zm1, hfx, hfm, hI1⟩ := hSt.2.2.2.2.1 zx zm hI (xs (nI i + 1).toNatClampNeg)
                refine lv_aload_n hx hb dLw_176 rfl (lv_at hl 2 rfl) ?_
                refine lv_aload_n hx hb dLw_177 rfl (lv_at hl 3 rfl) ?_
                refine lv_iload_n hx hb dLw_178 rfl (lv_at hl 0 rfl) ?_
                refine lv_iconst (v := 1) hx hb dLw_179 (by decide) ?_
                refine lv_iadd hx hb dLw_180 ?_
                refine va_sld hx hb hX hbl hbA hC.2.2 hin1 dLw_181 ?_
                have hCx := wL_subX cI cC cL adX bh ch adC adS adM zx zm hC
                refine jcallS_i (wL_mcX cI cC cL adX bh ch adC adS adM zx zm) (wL_mrX cI cC cL adX bh ch adC adS adM zx zm) lmC_nd lx_dis (wL_mbX cI cC cL adX bh ch adC adS adM zx1 zm) lxB_nd (va_runV (C := RcX) (As := [.int (xs (nI i + 1).toNatClampNeg)]) (rest := []) ⟨hx, hb, hml, hown, hts⟩ (cX_letter l dC dI cI cC cL sk sv adX bh ch adC adS N (xs (nI i + 1).toNatClampNeg) zx zx1 r hfx _) ⟨(callB_of 1 hts (tb_good tw579) rfl rfl rfl (ht _ tw1) (ht _ tw576) (by decide +kernel) ⟨by decide, by decide⟩), ht _ tw577, ht _ tw578⟩ (jpreV (jEn_ok sk sv) hCx hA hK hN (wX_e0 cI cC cL adX bh ch adC adS zx) rfl rfl _) rfl rfl hl.1 rfl (lv_room (Nat.le_of_ble_eq_true rfl)) dLw_182 hcs) hC hA (fun H locs hC => ?_)
                refine lv_aload_n hx hb dLw_185 rfl (lv_at hl 1 rfl) ?_
                refine lv_aload_n hx hb dLw_186 rfl (lv_at hl 3 rfl) ?_
                refine lv_iload_n hx hb dLw_187 rfl (lv_at hl 0 rfl) ?_
                refine lv_iconst (v := 1) hx hb dLw_188 (by decide) ?_
                refine lv_iadd hx hb dLw_189 ?_
                refine va_sld hx hb hX hbl hbA hC.2.2 hin1 dLw_190 ?_
                have hCm := wL_subM cI cC cL adX bh ch adC adS adM zx1 zm hC
                refine jcallS_i (wL_mrX cI cC cL adX bh ch adC adS adM zx1 zm) (wL_mcX cI cC cL adX bh ch adC adS adM zx1 zm) lxC_nd lm_dis (wL_mbM cI cC cL adX bh ch adC adS adM zx1 zm1) lmB_nd (va_runV (C := RcM) (As := [.int (xs (nI i + 1).toNatClampNeg)]) (rest := [.int r]) ⟨hx, hb, hml, hown, hts⟩ (cM_letter l dC dI cI cC cL sk sv adM N (xs (nI i + 1).toNatClampNeg) zm zm1 r hfm _) ⟨(callB_of 1 hts (tb_good tw926) rfl rfl rfl (ht _ tw14) (ht _ tw923) (by decide +kernel) ⟨by decide, by decide⟩), ht _ tw924, ht _ tw925⟩ (jpreV (jEn_ok sk sv) hCm hA hK hN (wM_e0 cI cC adM zm) rfl rfl _) rfl rfl hl.1 rfl (lv_room (Nat.le_of_ble_eq_true rfl)) dLw_191 hcs) hC hA (fun H locs hC => ?_)
                refine lv_icmp_eq (tgt := 367) hx hb dLw_194 (by decide) (fun _ => ?_) (fun c => absurd rfl c)
                exact hJ adC adS zx1 zm1 ls _ _ hl hC hI1
              · by_cases w5 : y = 5
                · refine lv_tableIn (tgt := 199) hx hb dLw_32 (by rw [w5]; decide) (by rw [w5]; decide) (by rw [w5]; rfl) (by decide) ?_
                  obtain ⟨r, zx1, zm1, hfx, hfm, hI1⟩ := hSt.2.2.2.2.2.1 zx zm hI (xs (nI i + 1).toNatClampNeg) (xs (nI i + 2).toNatClampNeg)
                  refine lv_aload_n hx hb dLw_199 rfl (lv_at hl 2 rfl) ?_
                  refine lv_aload_n hx hb dLw_200 rfl (lv_at hl 3 rfl) ?_
                  refine lv_iload_n hx hb dLw_201 rfl (lv_at hl 0 rfl) ?_
                  refine lv_iconst (v := 1) hx hb dLw_202 (by decide) ?_
                  refine lv_iadd hx hb dLw_203 ?_
                  refine va_sld hx hb hX hbl hbA hC.2.2 hin1 dLw_204 ?_
                  refine lv_aload_n hx hb dLw_205 rfl (lv_at hl 3 rfl) ?_
                  refine lv_iload_n hx hb dLw_206 rfl (lv_at hl 0 rfl) ?_
                  refine lv_iconst (v := 2) hx hb dLw_207 (by decide) ?_
                  refine lv_iadd hx hb dLw_208 ?_
                  refine va_sld hx hb hX hbl hbA hC.2.2 hin2 dLw_209 ?_
                  have hCx := wL_subX cI cC cL adX bh ch adC adS adM zx zm hC
                  refine jcallS_i (wL_mcX cI cC cL adX bh ch adC adS adM zx zm) (wL_mrX cI cC cL adX bh ch adC adS adM zx zm) lmC_nd lx_dis (wL_mbX cI cC cL adX bh ch adC adS adM zx1 zm) lxB_nd (va_runV (C := RcX) (As := [.int (xs (nI i + 1).toNatClampNeg), .int (xs (nI i + 2).toNatClampNeg)]) (rest := []) ⟨hx, hb, hml, hown, hts⟩ (cX_node l dC dI cI cC cL sk sv adX bh ch adC adS N (xs (nI i + 1).toNatClampNeg) (xs (nI i + 2).toNatClampNeg) zx zx1 r hfx _) ⟨(callB_of 2 hts (tb_good tw584) rfl rfl rfl (ht _ tw1) (ht _ tw581) (by decide +kernel) ⟨by decide, by decide⟩), ht _ tw582, ht _ tw583⟩ (jpreV (jEn_ok sk sv) hCx hA hK hN (wX_e0 cI cC cL adX bh ch adC adS zx) rfl rfl _) rfl rfl hl.1 rfl (lv_room (Nat.le_of_ble_eq_true rfl)) dLw_210 hcs) hC hA (fun H locs hC => ?_)
                  refine lv_aload_n hx hb dLw_213 rfl (lv_at hl 1 rfl) ?_
                  refine lv_aload_n hx hb dLw_214 rfl (lv_at hl 3 rfl) ?_
                  refine lv_iload_n hx hb dLw_215 rfl (lv_at hl 0 rfl) ?_
                  refine lv_iconst (v := 1) hx hb dLw_216 (by decide) ?_
                  refine lv_iadd hx hb dLw_217 ?_
                  refine va_sld hx hb hX hbl hbA hC.2.2 hin1 dLw_218 ?_
                  refine lv_aload_n hx hb dLw_219 rfl (lv_at hl 3 rfl) ?_
                  refine lv_iload_n hx hb dLw_220 rfl (lv_at hl 0 rfl) ?_
                  refine lv_iconst (v := 2) hx hb dLw_221 (by decide) ?_
                  refine lv_iadd hx hb dLw_222 ?_
                  refine va_sld hx hb hX hbl hbA hC.2.2 hin2 dLw_223 ?_
                  have hCm := wL_subM cI cC cL adX bh ch adC adS adM zx1 zm hC
                  refine jcallS_i (wL_mrX cI cC cL adX bh ch adC adS adM zx1 zm) (wL_mcX cI cC cL adX bh ch adC adS adM zx1 zm) lxC_nd lm_dis (wL_mbM cI cC cL adX bh ch adC adS adM zx1 zm1) lmB_nd (va_runV (C := RcM) (As := [.int (xs (nI i + 1).toNatClampNeg), .int (xs (nI i + 2).toNatClampNeg)]) (rest := [.int r]) ⟨hx, hb, hml, hown, hts⟩ (cM_node l dC dI cI cC cL sk sv adM N (xs (nI i + 1).toNatClampNeg) (xs (nI i + 2).toNatClampNeg) zm zm1 r hfm _) ⟨(callB_of 2 hts (tb_good tw930) rfl rfl rfl (ht _ tw14) (ht _ tw927) (by decide +kernel) ⟨by decide, by decide⟩), ht _ tw928, ht _ tw929⟩ (jpreV (jEn_ok sk sv) hCm hA hK hN (wM_e0 cI cC adM zm) rfl rfl _) rfl rfl hl.1 rfl (lv_room (Nat.le_of_ble_eq_true rfl)) dLw_224 hcs) hC hA (fun H locs hC => ?_)
                  refine lv_icmp_eq (tgt := 367) hx hb dLw_227 (by decide) (fun _ => ?_) (fun c => absurd rfl c)
                  exact hJ adC adS zx1 zm1 ls _ _ hl hC hI1
                · by_cases w6 : y = 6
                  · refine lv_tableIn (tgt := 232) hx hb dLw_32 (by rw [w6]; decide) (by rw [w6]; decide) (by rw [w6]; rfl) (by decide) ?_
                    obtain ⟨r, zx1, zm1, hfx, hfm, hI1⟩ := hSt.2.2.2.2.2.2.1 zx zm hI (xs (nI i + 1).toNatClampNeg) (xs (nI i + 2).toNatClampNeg)
                    refine lv_aload_n hx hb dLw_232 rfl (lv_at hl 2 rfl) ?_
                    refine lv_aload_n hx hb dLw_233 rfl (lv_at hl 3 rfl) ?_
                    refine lv_iload_n hx hb dLw_234 rfl (lv_at hl 0 rfl) ?_
                    refine lv_iconst (v := 1) hx hb dLw_235 (by decide) ?_
                    refine lv_iadd hx hb dLw_236 ?_
                    refine va_sld hx hb hX hbl hbA hC.2.2 hin1 dLw_237 ?_
                    refine lv_aload_n hx hb dLw_238 rfl (lv_at hl 3 rfl) ?_
                    refine lv_iload_n hx hb dLw_239 rfl (lv_at hl 0 rfl) ?_
                    refine lv_iconst (v := 2) hx hb dLw_240 (by decide) ?_
                    refine lv_iadd hx hb dLw_241 ?_
                    refine va_sld hx hb hX hbl hbA hC.2.2 hin2 dLw_242 ?_
                    have hCx := wL_subX cI cC cL adX bh ch adC adS adM zx zm hC
                    refine jcallS_i (wL_mcX cI cC cL adX bh ch adC adS adM zx zm) (wL_mrX cI cC cL adX bh ch adC adS adM zx zm) lmC_nd lx_dis (wL_mbX cI cC cL adX bh ch adC adS adM zx1 zm) lxB_nd (va_runV (C := RcX) (As := [.int (xs (nI i + 1).toNatClampNeg), .int (xs (nI i + 2).toNatClampNeg)]) (rest := []) ⟨hx, hb, hml, hown, hts⟩ (cX_child l dC dI cI cC cL sk sv adX bh ch adC adS N (xs (nI i + 1).toNatClampNeg) (xs (nI i + 2).toNatClampNeg) zx zx1 r hfx _) ⟨(callB_of 2 hts (tb_good tw610) rfl rfl rfl (ht _ tw1) (ht _ tw607) (by decide +kernel) ⟨by decide, by decide⟩), ht _ tw608, ht _ tw609⟩ (jpreV (jEn_ok sk sv) hCx hA hK hN (wX_e0 cI cC cL adX bh ch adC adS zx) rfl rfl _) rfl rfl hl.1 rfl (lv_room (Nat.le_of_ble_eq_true rfl)) dLw_243 hcs) hC hA (fun H locs hC => ?_)
                    refine lv_aload_n hx hb dLw_246 rfl (lv_at hl 1 rfl) ?_
                    refine lv_aload_n hx hb dLw_247 rfl (lv_at hl 3 rfl) ?_
                    refine lv_iload_n hx hb dLw_248 rfl (lv_at hl 0 rfl) ?_
                    refine lv_iconst (v := 1) hx hb dLw_249 (by decide) ?_
                    refine lv_iadd hx hb dLw_250 ?_
                    refine va_sld hx hb hX hbl hbA hC.2.2 hin1 dLw_251 ?_
                    refine lv_aload_n hx hb dLw_252 rfl (lv_at hl 3 rfl) ?_
                    refine lv_iload_n hx hb dLw_253 rfl (lv_at hl 0 rfl) ?_
                    refine lv_iconst (v := 2) hx hb dLw_254 (by decide) ?_
                    refine lv_iadd hx hb dLw_255 ?_
                    refine va_sld hx hb hX hbl hbA hC.2.2 hin2 dLw_256 ?_
                    have hCm := wL_subM cI cC cL adX bh ch adC adS adM zx1 zm hC
                    refine jcallS_i (wL_mrX cI cC cL adX bh ch adC adS adM zx1 zm) (wL_mcX cI cC cL adX bh ch adC adS adM zx1 zm) lxC_nd lm_dis (wL_mbM cI cC cL adX bh ch adC adS adM zx1 zm1) lmB_nd (va_runV (C := RcM) (As := [.int (xs (nI i + 1).toNatClampNeg), .int (xs (nI i + 2).toNatClampNeg)]) (rest := [.int r]) ⟨hx, hb, hml, hown, hts⟩ (cM_child l dC dI cI cC cL sk sv adM N (xs (nI i + 1).toNatClampNeg) (xs (nI i + 2).toNatClampNeg) zm zm1 r hfm _) ⟨(callB_of 2 hts (tb_good tw942) rfl rfl rfl (ht _ tw14) (ht _ tw939) (by decide +kernel) ⟨by decide, by decide⟩), ht _ tw940, ht _ tw941⟩ (jpreV (jEn_ok sk sv) hCm hA hK hN (wM_e0 cI cC adM zm) rfl rfl _) rfl rfl hl.1 rfl (lv_room (Nat.le_of_ble_eq_true rfl)) dLw_257 hcs) hC hA (fun H locs hC => ?_)
                    refine lv_icmp_eq (tgt := 367) hx hb dLw_260 (by decide) (fun _ => ?_) (fun c => absurd rfl c)
                    exact hJ adC adS zx1 zm1 ls _ _ hl hC hI1
                  · by_cases w7 : y = 7
                    · refine lv_tableIn (tgt := 265) hx hb dLw_32 (by rw [w7]; decide) (by rw [w7]; decide) (by rw [w7]; rfl) (by decide) ?_
                      obtain ⟨r, zx1, zm1, hfx, hfm, hI1⟩ := hSt.2.2.2.2.2.2.2.1 zx zm hI (xs (nI i + 1).toNatClampNeg)
                      refine lv_aload_n hx hb dLw_265 rfl (lv_at hl 2 rfl) ?_
                      refine lv_aload_n hx hb dLw_266 rfl (lv_at hl 3 rfl) ?_
                      refine lv_iload_n hx hb dLw_267 rfl (lv_at hl 0 rfl) ?_
                      refine lv_iconst (v := 1) hx hb dLw_268 (by decide) ?_
                      refine lv_iadd hx hb dLw_269 ?_
                      refine va_sld hx hb hX hbl hbA hC.2.2 hin1 dLw_270 ?_
                      have hCx := wL_subX cI cC cL adX bh ch adC adS adM zx zm hC
                      refine jcallS_i (wL_mcX cI cC cL adX bh ch adC adS adM zx zm) (wL_mrX cI cC cL adX bh ch adC adS adM zx zm) lmC_nd lx_dis (wL_mbX cI cC cL adX bh ch adC adS adM zx1 zm) lxB_nd (va_runV (C := RcX) (As := [.int (xs (nI i + 1).toNatClampNeg)]) (rest := []) ⟨hx, hb, hml, hown, hts⟩ (cX_find l dC dI cI cC cL sk sv adX bh ch adC adS N (xs (nI i + 1).toNatClampNeg) zx zx1 r hfx _) ⟨(callB_of 1 hts (tb_good tw618) rfl rfl rfl (ht _ tw1) (ht _ tw615) (by decide +kernel) ⟨by decide, by decide⟩), ht _ tw616, ht _ tw617⟩ (jpreV (jEn_ok sk sv) hCx hA hK hN (wX_e0 cI cC cL adX bh ch adC adS zx) rfl rfl _) rfl rfl hl.1 rfl (lv_room (Nat.le_of_ble_eq_true rfl)) dLw_271 hcs) hC hA (fun H locs hC => ?_)
                      refine lv_aload_n hx hb dLw_274 rfl (lv_at hl 1 rfl) ?_
                      refine lv_aload_n hx hb dLw_275 rfl (lv_at hl 3 rfl) ?_
                      refine lv_iload_n hx hb dLw_276 rfl (lv_at hl 0 rfl) ?_
                      refine lv_iconst (v := 1) hx hb dLw_277 (by decide) ?_
                      refine lv_iadd hx hb dLw_278 ?_
                      refine va_sld hx hb hX hbl hbA hC.2.2 hin1 dLw_279 ?_
                      have hCm := wL_subM cI cC cL adX bh ch adC adS adM zx1 zm hC
                      refine jcallS_i (wL_mrX cI cC cL adX bh ch adC adS adM zx1 zm) (wL_mcX cI cC cL adX bh ch adC adS adM zx1 zm) lxC_nd lm_dis (wL_mbM cI cC cL adX bh ch adC adS adM zx1 zm1) lmB_nd (va_runV (C := RcM) (As := [.int (xs (nI i + 1).toNatClampNeg)]) (rest := [.int r]) ⟨hx, hb, hml, hown, hts⟩ (cM_find l dC dI cI cC cL sk sv adM N (xs (nI i + 1).toNatClampNeg) zm zm1 r hfm _) ⟨(callB_of 1 hts (tb_good tw946) rfl rfl rfl (ht _ tw14) (ht _ tw943) (by decide +kernel) ⟨by decide, by decide⟩), ht _ tw944, ht _ tw945⟩ (jpreV (jEn_ok sk sv) hCm hA hK hN (wM_e0 cI cC adM zm) rfl rfl _) rfl rfl hl.1 rfl (lv_room (Nat.le_of_ble_eq_true rfl)) dLw_280 hcs) hC hA (fun H locs hC => ?_)
                      refine lv_icmp_eq (tgt := 367) hx hb dLw_283 (by decide) (fun _ => ?_) (fun c => absurd rfl c)
                      exact hJ adC adS zx1 zm1 ls _ _ hl hC hI1
                    · by_cases w8 : y = 8
                      · refine lv_tableIn (tgt := 288) hx hb dLw_32 (by rw [w8]; decide) (by rw [w8]; decide) (by rw [w8]; rfl) (by decide) ?_
                        obtain ⟨r, zx1, zm1, hfx, hfm, hI1⟩ := hSt.2.2.2.2.2.2.2.2.1 zx zm hI (xs (nI i + 1).toNatClampNeg) (xs (nI i + 2).toNatClampNeg)
                        refine lv_aload_n hx hb dLw_288 rfl (lv_at hl 2 rfl) ?_
                        refine lv_aload_n hx hb dLw_289 rfl (lv_at hl 3 rfl) ?_
                        refine lv_iload_n hx hb dLw_290 rfl (lv_at hl 0 rfl) ?_
                        refine lv_iconst (v := 1) hx hb dLw_291 (by decide) ?_
                        refine lv_iadd hx hb dLw_292 ?_
                        refine va_sld hx hb hX hbl hbA hC.2.2 hin1 dLw_293 ?_
                        refine lv_aload_n hx hb dLw_294 rfl (lv_at hl 3 rfl) ?_
                        refine lv_iload_n hx hb dLw_295 rfl (lv_at hl 0 rfl) ?_
                        refine lv_iconst (v := 2) hx hb dLw_296 (by decide) ?_
                        refine lv_iadd hx hb dLw_297 ?_
                        refine va_sld hx hb hX hbl hbA hC.2.2 hin2 dLw_298 ?_
                        have hCx := wL_subX cI cC cL adX bh ch adC adS adM zx zm hC
                        refine jcallS_i (wL_mcX cI cC cL adX bh ch adC adS adM zx zm) (wL_mrX cI cC cL adX bh ch adC adS adM zx zm) lmC_nd lx_dis (wL_mbX cI cC cL adX bh ch adC adS adM zx1 zm) lxB_nd (va_runV (C := RcX) (As := [.int (xs (nI i + 1).toNatClampNeg), .int (xs (nI i + 2).toNatClampNeg)]) (rest := []) ⟨hx, hb, hml, hown, hts⟩ (cX_equal l dC dI cI cC cL sk sv adX bh ch adC adS N (xs (nI i + 1).toNatClampNeg) (xs (nI i + 2).toNatClampNeg) zx zx1 r hfx _) ⟨(callB_of 2 hts (tb_good tw626) rfl rfl rfl (ht _ tw1) (ht _ tw623) (by decide +kernel) ⟨by decide, by decide⟩), ht _ tw624, ht _ tw625⟩ (jpreV (jEn_ok sk sv) hCx hA hK hN (wX_e0 cI cC cL adX bh ch adC adS zx) rfl rfl _) rfl rfl hl.1 rfl (lv_room (Nat.le_of_ble_eq_true rfl)) dLw_299 hcs) hC hA (fun H locs hC => ?_)
                        refine lv_aload_n hx hb dLw_302 rfl (lv_at hl 1 rfl) ?_
                        refine lv_aload_n hx hb dLw_303 rfl (lv_at hl 3 rfl) ?_
                        refine lv_iload_n hx hb dLw_304 rfl (lv_at hl 0 rfl) ?_
                        refine lv_iconst (v := 1) hx hb dLw_305 (by decide) ?_
                        refine lv_iadd hx hb dLw_306 ?_
                        refine va_sld hx hb hX hbl hbA hC.2.2 hin1 dLw_307 ?_
                        refine lv_aload_n hx hb dLw_308 rfl (lv_at hl 3 rfl) ?_
                        refine lv_iload_n hx hb dLw_309 rfl (lv_at hl 0 rfl) ?_
                        refine lv_iconst (v := 2) hx hb dLw_310 (by decide) ?_
                        refine lv_iadd hx hb dLw_311 ?_
                        refine va_sld hx hb hX hbl hbA hC.2.2 hin2 dLw_312 ?_
                        have hCm := wL_subM cI cC cL adX bh ch adC adS adM zx1 zm hC
                        refine jcallS_i (wL_mrX cI cC cL adX bh ch adC adS adM zx1 zm) (wL_mcX cI cC cL adX bh ch adC adS adM zx1 zm) lxC_nd lm_dis (wL_mbM cI cC cL adX bh ch adC adS adM zx1 zm1) lmB_nd (va_runV (C := RcM) (As := [.int (xs (nI i + 1).toNatClampNeg), .int (xs (nI i + 2).toNatClampNeg)]) (rest := [.int r]) ⟨hx, hb, hml, hown, hts⟩ (cM_equal l dC dI cI cC cL sk sv adM N (xs (nI i + 1).toNatClampNeg) (xs (nI i + 2).toNatClampNeg) zm zm1 r hfm _) ⟨(callB_of 2 hts (tb_good tw950) rfl rfl rfl (ht _ tw14) (ht _ tw947) (by decide +kernel) ⟨by decide, by decide⟩), ht _ tw948, ht _ tw949⟩ (jpreV (jEn_ok sk sv) hCm hA hK hN (wM_e0 cI cC adM zm) rfl rfl _) rfl rfl hl.1 rfl (lv_room (Nat.le_of_ble_eq_true rfl)) dLw_313 hcs) hC hA (fun H locs hC => ?_)
                        refine lv_icmp_eq (tgt := 367) hx hb dLw_316 (by decide) (fun _ => ?_) (fun c => absurd rfl c)
                        exact hJ adC adS zx1 zm1 ls _ _ hl hC hI1
                      · by_cases w9 : y = 9
                        · refine lv_tableIn (tgt := 321) hx hb dLw_32 (by rw [w9]; decide) (by rw [w9]; decide) (by rw [w9]; rfl) (by decide) ?_
                          obtain ⟨r, zx1, zm1, hfx, hfm, hI1⟩ := hSt.2.2.2.2.2.2.2.2.2.1 zx zm hI (xs (nI i + 1).toNatClampNeg)
                          refine lv_aload_n hx hb dLw_321 rfl (lv_at hl 2 rfl) ?_
                          refine lv_aload_n hx hb dLw_322 rfl (lv_at hl 3 rfl) ?_
                          refine lv_iload_n hx hb dLw_323 rfl (lv_at hl 0 rfl) ?_
                          refine lv_iconst (v := 1) hx hb dLw_324 (by decide) ?_
                          refine lv_iadd hx hb dLw_325 ?_
                          refine va_sld hx hb hX hbl hbA hC.2.2 hin1 dLw_326 ?_
                          have hCx := wL_subX cI cC cL adX bh ch adC adS adM zx zm hC
                          refine jcallS_i (wL_mcX cI cC cL adX bh ch adC adS adM zx zm) (wL_mrX cI cC cL adX bh ch adC adS adM zx zm) lmC_nd lx_dis (wL_mbX cI cC cL adX bh ch adC adS adM zx1 zm) lxB_nd (va_runV (C := RcX) (As := [.int (xs (nI i + 1).toNatClampNeg)]) (rest := []) ⟨hx, hb, hml, hown, hts⟩ (cX_fault l dC dI cI cC cL sk sv adX bh ch adC adS N (xs (nI i + 1).toNatClampNeg) zx zx1 r hfx _) ⟨(callB_of 1 hts (tb_good tw630) rfl rfl rfl (ht _ tw1) (ht _ tw627) (by decide +kernel) ⟨by decide, by decide⟩), ht _ tw628, ht _ tw629⟩ (jpreV (jEn_ok sk sv) hCx hA hK hN (wX_e0 cI cC cL adX bh ch adC adS zx) rfl rfl _) rfl rfl hl.1 rfl (lv_room (Nat.le_of_ble_eq_true rfl)) dLw_327 hcs) hC hA (fun H locs hC => ?_)
                          refine lv_aload_n hx hb dLw_330 rfl (lv_at hl 1 rfl) ?_
                          refine lv_aload_n hx hb dLw_331 rfl (lv_at hl 3 rfl) ?_
                          refine lv_iload_n hx hb dLw_332 rfl (lv_at hl 0 rfl) ?_
                          refine lv_iconst (v := 1) hx hb dLw_333 (by decide) ?_
                          refine lv_iadd hx hb dLw_334 ?_
                          refine va_sld hx hb hX hbl hbA hC.2.2 hin1 dLw_335 ?_
                          have hCm := wL_subM cI cC cL adX bh ch adC adS adM zx1 zm hC
                          refine jcallS_i (wL_mrX cI cC cL adX bh ch adC adS adM zx1 zm) (wL_mcX cI cC cL adX bh ch adC adS adM zx1 zm) lxC_nd lm_dis (wL_mbM cI cC cL adX bh ch adC adS adM zx1 zm1) lmB_nd (va_runV (C := RcM) (As := [.int (xs (nI i + 1).toNatClampNeg)]) (rest := [.int r]) ⟨hx, hb, hml, hown, hts⟩ (cM_fault l dC dI cI cC cL sk sv adM N (xs (nI i + 1).toNatClampNeg) zm zm1 r hfm _) ⟨(callB_of 1 hts (tb_good tw954) rfl rfl rfl (ht _ tw14) (ht _ tw951) (by decide +kernel) ⟨by decide, by decide⟩), ht _ tw952, ht _ tw953⟩ (jpreV (jEn_ok sk sv) hCm hA hK hN (wM_e0 cI cC adM zm) rfl rfl _) rfl rfl hl.1 rfl (lv_room (Nat.le_of_ble_eq_true rfl)) dLw_336 hcs) hC hA (fun H locs hC => ?_)
                          refine lv_icmp_eq (tgt := 367) hx hb dLw_339 (by decide) (fun _ => ?_) (fun c => absurd rfl c)
                          exact hJ adC adS zx1 zm1 ls _ _ hl hC hI1
                        · by_cases w10 : y = 10
                          · refine lv_tableIn (tgt := 344) hx hb dLw_32 (by rw [w10]; decide) (by rw [w10]; decide) (by rw [w10]; rfl) (by decide) ?_
                            obtain ⟨r, zx1, zm1, hfx, hfm, hI1⟩ := hSt.2.2.2.2.2.2.2.2.2.2 zx zm hI (xs (nI i + 1).toNatClampNeg)
                            refine lv_aload_n hx hb dLw_344 rfl (lv_at hl 2 rfl) ?_
                            refine lv_aload_n hx hb dLw_345 rfl (lv_at hl 3 rfl) ?_
                            refine lv_iload_n hx hb dLw_346 rfl (lv_at hl 0 rfl) ?_
                            refine lv_iconst (v := 1) hx hb dLw_347 (by decide) ?_
                            refine lv_iadd hx hb dLw_348 ?_
                            refine va_sld hx hb hX hbl hbA hC.2.2 hin1 dLw_349 ?_
                            have hCx := wL_subX cI cC cL adX bh ch adC adS adM zx zm hC
                            refine jcallS_i (wL_mcX cI cC cL adX bh ch adC adS adM zx zm) (wL_mrX cI cC cL adX bh ch adC adS adM zx zm) lmC_nd lx_dis (wL_mbX cI cC cL adX bh ch adC adS adM zx1 zm) lxB_nd (va_runV (C := RcX) (As := [.int (xs (nI i + 1).toNatClampNeg)]) (rest := []) ⟨hx, hb, hml, hown, hts⟩ (cX_count l dC dI cI cC cL sk sv adX bh ch adC adS N (xs (nI i + 1).toNatClampNeg) zx zx1 r hfx _) ⟨(callB_of 1 hts (tb_good tw634) rfl rfl rfl (ht _ tw1) (ht _ tw631) (by decide +kernel) ⟨by decide, by decide⟩), ht _ tw632, ht _ tw633⟩ (jpreV (jEn_ok sk sv) hCx hA hK hN (wX_e0 cI cC cL adX bh ch adC adS zx) rfl rfl _) rfl rfl hl.1 rfl (lv_room (Nat.le_of_ble_eq_true rfl)) dLw_350 hcs) hC hA (fun H locs hC => ?_)
                            refine lv_aload_n hx hb dLw_353 rfl (lv_at hl 1 rfl) ?_
                            refine lv_aload_n hx hb dLw_354 rfl (lv_at hl 3 rfl) ?_
                            refine lv_iload_n hx hb dLw_355 rfl (lv_at hl 0 rfl) ?_
                            refine lv_iconst (v := 1) hx hb dLw_356 (by decide) ?_
                            refine lv_iadd hx hb dLw_357 ?_
                            refine va_sld hx hb hX hbl hbA hC.2.2 hin1 dLw_358 ?_
                            have hCm := wL_subM cI cC cL adX bh ch adC adS adM zx1 zm hC
                            refine jcallS_i (wL_mrX cI cC cL adX bh ch adC adS adM zx1 zm) (wL_mcX cI cC cL adX bh ch adC adS adM zx1 zm) lxC_nd lm_dis (wL_mbM cI cC cL adX bh ch adC adS adM zx1 zm1) lmB_nd (va_runV (C := RcM) (As := [.int (xs (nI i + 1).toNatClampNeg)]) (rest := [.int r]) ⟨hx, hb, hml, hown, hts⟩ (cM_count l dC dI cI cC cL sk sv adM N (xs (nI i + 1).toNatClampNeg) zm zm1 r hfm _) ⟨(callB_of 1 hts (tb_good tw962) rfl rfl rfl (ht _ tw14) (ht _ tw959) (by decide +kernel) ⟨by decide, by decide⟩), ht _ tw960, ht _ tw961⟩ (jpreV (jEn_ok sk sv) hCm hA hK hN (wM_e0 cI cC adM zm) rfl rfl _) rfl rfl hl.1 rfl (lv_room (Nat.le_of_ble_eq_true rfl)) dLw_359 hcs) hC hA (fun H locs hC => ?_)
                            refine lv_icmp_eq (tgt := 367) hx hb dLw_362 (by decide) (fun _ => ?_) (fun c => absurd rfl c)
                            exact hJ adC adS zx1 zm1 ls _ _ hl hC hI1
                          · refine lv_tableOut (tgt := 367) hx hb dLw_32 (by have e0 := lv_neT (a := 0) w0 (by decide); have e1 := lv_neT (a := 1) w1 (by decide); have e2 := lv_neT (a := 2) w2 (by decide); have e3 := lv_neT (a := 3) w3 (by decide); have e4 := lv_neT (a := 4) w4 (by decide); have e5 := lv_neT (a := 5) w5 (by decide); have e6 := lv_neT (a := 6) w6 (by decide); have e7 := lv_neT (a := 7) w7 (by decide); have e8 := lv_neT (a := 8) w8 (by decide); have e9 := lv_neT (a := 9) w9 (by decide); have e10 := lv_neT (a := 10) w10 (by decide); omega) (by decide) ?_
                            exact hJ adC adS zx zm ls _ _ hl hC hI
