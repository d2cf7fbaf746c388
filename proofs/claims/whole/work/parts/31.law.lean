-- ===== end of PART A; then your names; then what follows =====
/-! THE CLAIM OUT OF ONE WALK OF THE LAW'S BODY. Your part is whole_start (and what it stands on); all else here is the same for every law, but numbers. -/
def R_law : String := "FinderBookLaw"
def lw_P (b : Addr) (xs : List Int32) (args : Array Value) (s : State) : Prop := args = #[.ref b] ∧ s.IntsAt b xs ∧ xs.length ≤ 1536 ∧ (Jvm.Cond.and given_1 narrow_1).before args s = true
def lw_Q (_ : Array Value) (s : State) (o : Outcome) (t : State) : Prop := o = .returned (some (.int 1)) ∧ Framed s o t [] 600000 7302250
def lw_Z (below : List Frame) (a : Array Value) (s : State) : State → Prop := fun t => ∃ o, t.status = .running ∧ Ended t below o ∧ lw_Q a s o t
/-- the law's own end, with 1 on the stack, nothing written that was there before, its room as the claim has it -/
theorem lw_ret {p : Program} {l : Launch} {e : Env} {s : State} {m : MethodId} {below : List Frame} {meth : Method} {c : Code} {b : Nat} (hx : p.tables.exec = Jvm.exec) (hb : c.code = code) (hr : meth.sig.returnType = ret) (hlocks : meth.locks = false) {pc : Nat} {H : Heap} {ls : Array Slot} (hdg : decode code pc = .ok (.ireturn, 1)) : W p l e room_1 s m #[Value.ref b] below meth c H [] 600000 7302250 (lw_Z below #[Value.ref b] s) (F0 m pc ls [.int 1]) := by
  intro T hT X
  obtain ⟨fs, hret, hrun, hended, hW, hframe⟩ := X.leave (v := some (.int 1)) (hlocks := hlocks) (fun h => by rw [hr] at h; cases h)
  have hmeth' : T.vm.method? m = some meth := X.method'
  refine ⟨T.setFrames fs, ?_, .returned (some (.int 1)), hrun, hended, rfl, ⟨_, rfl⟩, hW, hframe⟩
  jvm_step X.here [X.here.top, hx, hb, hdg, hmeth', hr, ret, narrow_b1]
  (try refine ⟨rfl, ?_⟩); (try refine ⟨rfl, ?_⟩)
  first | (intro acts; rw [hret _ acts rfl rfl rfl]) | rw [hret _ _ rfl rfl rfl]
  exact Steps.refl _
/-- what holds at the law's entry: the machine, the code, the tables' words (any of lw_tbl by 'hts w (by decide +kernel)'), the script of L ints xs at the cell b, what the Statement gives of the start (any of its parts by flat_of_before) -/
def lw_At (p : Program) (s : State) (m : MethodId) (meth : Method) (c : Code) (b L : Nat) (xs : Nat → Int32) : Prop :=
  p.tables.exec = Jvm.exec ∧ c.code = code ∧ meth.sig.returnType = ret ∧ c.maxLocals = 4 ∧ s.vm.findClass R_law = some m.cls ∧ (∀ w ∈ lw_tbl, w.before #[Value.ref b] s = true) ∧ va_X b L xs s s.heap ∧ b < s.heap.size ∧ meth.locks = false ∧ (Jvm.Cond.and given_1 narrow_1).before #[Value.ref b] s = true

theorem dXL_law_0 : decode code 0 = .ok (.new 7, 3) := by decide +kernel
theorem dXL_law_3 : decode code 3 = .ok (.dup, 1) := by decide +kernel
theorem dXL_law_4 : decode code 4 = .ok (.invokespecial 9, 3) := by decide +kernel
theorem dXL_law_7 : decode code 7 = .ok (.astore_n 1, 1) := by decide +kernel
theorem dXL_law_8 : decode code 8 = .ok (.new 10, 3) := by decide +kernel
theorem dXL_law_11 : decode code 11 = .ok (.dup, 1) := by decide +kernel
theorem dXL_law_12 : decode code 12 = .ok (.invokespecial 12, 3) := by decide +kernel
theorem dXL_law_15 : decode code 15 = .ok (.astore_n 2, 1) := by decide +kernel
theorem dXL_law_16 : decode code 16 = .ok (.iconst 0, 1) := by decide +kernel
theorem dXL_law_17 : decode code 17 = .ok (.istore_n 3, 1) := by decide +kernel
theorem dXL_law_18 : decode code 18 = .ok (.iload_n 3, 1) := by decide +kernel
theorem dXL_law_19 : decode code 19 = .ok (.aload_n 0, 1) := by decide +kernel
theorem dXL_law_20 : decode code 20 = .ok (.arraylength, 1) := by decide +kernel
theorem dXL_law_21 : decode code 21 = .ok (.iconst 3, 1) := by decide +kernel
theorem dXL_law_22 : decode code 22 = .ok (.isub, 1) := by decide +kernel
theorem dXL_law_23 : decode code 23 = .ok (.if_icmp .gt 497, 3) := by decide +kernel
theorem dXL_law_26 : decode code 26 = .ok (.aload_n 0, 1) := by decide +kernel
theorem dXL_law_27 : decode code 27 = .ok (.iload_n 3, 1) := by decide +kernel
theorem dXL_law_28 : decode code 28 = .ok (.iaload, 1) := by decide +kernel
theorem dXL_law_29 : decode code 29 = .ok (.bipush 31, 2) := by decide +kernel
theorem dXL_law_31 : decode code 31 = .ok (.iand, 1) := by decide +kernel
theorem dXL_law_32 : decode code 32 = .ok (.tableswitch 482 0 16 #[84, 109, 120, 133, 146, 185, 218, 251, 284, 307, 330, 353, 376, 399, 412, 435, 469], 84) := by decide +kernel
theorem dXL_law_116 : decode code 116 = .ok (.aload_n 1, 1) := by decide +kernel
theorem dXL_law_117 : decode code 117 = .ok (.aload_n 0, 1) := by decide +kernel
theorem dXL_law_118 : decode code 118 = .ok (.iload_n 3, 1) := by decide +kernel
theorem dXL_law_119 : decode code 119 = .ok (.iconst 1, 1) := by decide +kernel
theorem dXL_law_120 : decode code 120 = .ok (.iadd, 1) := by decide +kernel
theorem dXL_law_121 : decode code 121 = .ok (.iaload, 1) := by decide +kernel
theorem dXL_law_122 : decode code 122 = .ok (.i2c, 1) := by decide +kernel
theorem dXL_law_123 : decode code 123 = .ok (.invokevirtual 13, 3) := by decide +kernel
theorem dXL_law_126 : decode code 126 = .ok (.aload_n 2, 1) := by decide +kernel
theorem dXL_law_127 : decode code 127 = .ok (.aload_n 0, 1) := by decide +kernel
theorem dXL_law_128 : decode code 128 = .ok (.iload_n 3, 1) := by decide +kernel
theorem dXL_law_129 : decode code 129 = .ok (.iconst 1, 1) := by decide +kernel
theorem dXL_law_130 : decode code 130 = .ok (.iadd, 1) := by decide +kernel
theorem dXL_law_131 : decode code 131 = .ok (.iaload, 1) := by decide +kernel
theorem dXL_law_132 : decode code 132 = .ok (.i2c, 1) := by decide +kernel
theorem dXL_law_133 : decode code 133 = .ok (.invokevirtual 17, 3) := by decide +kernel
theorem dXL_law_136 : decode code 136 = .ok (.if_icmp .eq 378, 3) := by decide +kernel
theorem dXL_law_139 : decode code 139 = .ok (.iconst 0, 1) := by decide +kernel
theorem dXL_law_140 : decode code 140 = .ok (.ireturn, 1) := by decide +kernel
theorem dXL_law_141 : decode code 141 = .ok (.aload_n 1, 1) := by decide +kernel
theorem dXL_law_142 : decode code 142 = .ok (.invokevirtual 18, 3) := by decide +kernel
theorem dXL_law_145 : decode code 145 = .ok (.aload_n 2, 1) := by decide +kernel
theorem dXL_law_146 : decode code 146 = .ok (.invokevirtual 21, 3) := by decide +kernel
theorem dXL_law_149 : decode code 149 = .ok (.goto 365, 3) := by decide +kernel
theorem dXL_law_152 : decode code 152 = .ok (.aload_n 1, 1) := by decide +kernel
theorem dXL_law_153 : decode code 153 = .ok (.invokevirtual 22, 3) := by decide +kernel
theorem dXL_law_156 : decode code 156 = .ok (.aload_n 2, 1) := by decide +kernel
theorem dXL_law_157 : decode code 157 = .ok (.invokevirtual 26, 3) := by decide +kernel
theorem dXL_law_160 : decode code 160 = .ok (.if_icmp .eq 354, 3) := by decide +kernel
theorem dXL_law_163 : decode code 163 = .ok (.iconst 0, 1) := by decide +kernel
theorem dXL_law_164 : decode code 164 = .ok (.ireturn, 1) := by decide +kernel
theorem dXL_law_165 : decode code 165 = .ok (.aload_n 1, 1) := by decide +kernel
theorem dXL_law_166 : decode code 166 = .ok (.invokevirtual 27, 3) := by decide +kernel
theorem dXL_law_169 : decode code 169 = .ok (.aload_n 2, 1) := by decide +kernel
theorem dXL_law_170 : decode code 170 = .ok (.invokevirtual 30, 3) := by decide +kernel
theorem dXL_law_173 : decode code 173 = .ok (.if_icmp .eq 341, 3) := by decide +kernel
theorem dXL_law_176 : decode code 176 = .ok (.iconst 0, 1) := by decide +kernel
theorem dXL_law_177 : decode code 177 = .ok (.ireturn, 1) := by decide +kernel
theorem dXL_law_178 : decode code 178 = .ok (.aload_n 1, 1) := by decide +kernel
theorem dXL_law_179 : decode code 179 = .ok (.aload_n 0, 1) := by decide +kernel
theorem dXL_law_180 : decode code 180 = .ok (.iload_n 3, 1) := by decide +kernel
theorem dXL_law_181 : decode code 181 = .ok (.iconst 1, 1) := by decide +kernel
theorem dXL_law_182 : decode code 182 = .ok (.iadd, 1) := by decide +kernel
theorem dXL_law_183 : decode code 183 = .ok (.iaload, 1) := by decide +kernel
theorem dXL_law_184 : decode code 184 = .ok (.ifCond .eq 7, 3) := by decide +kernel
theorem dXL_law_187 : decode code 187 = .ok (.iconst 1, 1) := by decide +kernel
theorem dXL_law_188 : decode code 188 = .ok (.goto 4, 3) := by decide +kernel
theorem dXL_law_191 : decode code 191 = .ok (.iconst 0, 1) := by decide +kernel
theorem dXL_law_192 : decode code 192 = .ok (.invokevirtual 31, 3) := by decide +kernel
theorem dXL_law_195 : decode code 195 = .ok (.aload_n 2, 1) := by decide +kernel
theorem dXL_law_196 : decode code 196 = .ok (.aload_n 0, 1) := by decide +kernel
theorem dXL_law_197 : decode code 197 = .ok (.iload_n 3, 1) := by decide +kernel
theorem dXL_law_198 : decode code 198 = .ok (.iconst 1, 1) := by decide +kernel
theorem dXL_law_199 : decode code 199 = .ok (.iadd, 1) := by decide +kernel
theorem dXL_law_200 : decode code 200 = .ok (.iaload, 1) := by decide +kernel
theorem dXL_law_201 : decode code 201 = .ok (.ifCond .eq 7, 3) := by decide +kernel
theorem dXL_law_204 : decode code 204 = .ok (.iconst 1, 1) := by decide +kernel
theorem dXL_law_205 : decode code 205 = .ok (.goto 4, 3) := by decide +kernel
theorem dXL_law_208 : decode code 208 = .ok (.iconst 0, 1) := by decide +kernel
theorem dXL_law_209 : decode code 209 = .ok (.invokevirtual 35, 3) := by decide +kernel
theorem dXL_law_212 : decode code 212 = .ok (.if_icmp .eq 302, 3) := by decide +kernel
theorem dXL_law_215 : decode code 215 = .ok (.iconst 0, 1) := by decide +kernel
theorem dXL_law_216 : decode code 216 = .ok (.ireturn, 1) := by decide +kernel
theorem dXL_law_217 : decode code 217 = .ok (.aload_n 1, 1) := by decide +kernel
theorem dXL_law_218 : decode code 218 = .ok (.aload_n 0, 1) := by decide +kernel
theorem dXL_law_219 : decode code 219 = .ok (.iload_n 3, 1) := by decide +kernel
theorem dXL_law_220 : decode code 220 = .ok (.iconst 1, 1) := by decide +kernel
theorem dXL_law_221 : decode code 221 = .ok (.iadd, 1) := by decide +kernel
theorem dXL_law_222 : decode code 222 = .ok (.iaload, 1) := by decide +kernel
theorem dXL_law_223 : decode code 223 = .ok (.aload_n 0, 1) := by decide +kernel
theorem dXL_law_224 : decode code 224 = .ok (.iload_n 3, 1) := by decide +kernel
theorem dXL_law_225 : decode code 225 = .ok (.iconst 2, 1) := by decide +kernel
theorem dXL_law_226 : decode code 226 = .ok (.iadd, 1) := by decide +kernel
theorem dXL_law_227 : decode code 227 = .ok (.iaload, 1) := by decide +kernel
theorem dXL_law_228 : decode code 228 = .ok (.invokevirtual 36, 3) := by decide +kernel
theorem dXL_law_231 : decode code 231 = .ok (.aload_n 2, 1) := by decide +kernel
theorem dXL_law_232 : decode code 232 = .ok (.aload_n 0, 1) := by decide +kernel
theorem dXL_law_233 : decode code 233 = .ok (.iload_n 3, 1) := by decide +kernel
theorem dXL_law_234 : decode code 234 = .ok (.iconst 1, 1) := by decide +kernel
theorem dXL_law_235 : decode code 235 = .ok (.iadd, 1) := by decide +kernel
theorem dXL_law_236 : decode code 236 = .ok (.iaload, 1) := by decide +kernel
theorem dXL_law_237 : decode code 237 = .ok (.aload_n 0, 1) := by decide +kernel
theorem dXL_law_238 : decode code 238 = .ok (.iload_n 3, 1) := by decide +kernel
theorem dXL_law_239 : decode code 239 = .ok (.iconst 2, 1) := by decide +kernel
theorem dXL_law_240 : decode code 240 = .ok (.iadd, 1) := by decide +kernel
theorem dXL_law_241 : decode code 241 = .ok (.iaload, 1) := by decide +kernel
theorem dXL_law_242 : decode code 242 = .ok (.invokevirtual 40, 3) := by decide +kernel
theorem dXL_law_245 : decode code 245 = .ok (.if_icmp .eq 269, 3) := by decide +kernel
theorem dXL_law_248 : decode code 248 = .ok (.iconst 0, 1) := by decide +kernel
theorem dXL_law_249 : decode code 249 = .ok (.ireturn, 1) := by decide +kernel
theorem dXL_law_250 : decode code 250 = .ok (.aload_n 1, 1) := by decide +kernel
theorem dXL_law_251 : decode code 251 = .ok (.aload_n 0, 1) := by decide +kernel
theorem dXL_law_252 : decode code 252 = .ok (.iload_n 3, 1) := by decide +kernel
theorem dXL_law_253 : decode code 253 = .ok (.iconst 1, 1) := by decide +kernel
theorem dXL_law_254 : decode code 254 = .ok (.iadd, 1) := by decide +kernel
theorem dXL_law_255 : decode code 255 = .ok (.iaload, 1) := by decide +kernel
theorem dXL_law_256 : decode code 256 = .ok (.aload_n 0, 1) := by decide +kernel
theorem dXL_law_257 : decode code 257 = .ok (.iload_n 3, 1) := by decide +kernel
theorem dXL_law_258 : decode code 258 = .ok (.iconst 2, 1) := by decide +kernel
theorem dXL_law_259 : decode code 259 = .ok (.iadd, 1) := by decide +kernel
theorem dXL_law_260 : decode code 260 = .ok (.iaload, 1) := by decide +kernel
theorem dXL_law_261 : decode code 261 = .ok (.invokevirtual 41, 3) := by decide +kernel
theorem dXL_law_264 : decode code 264 = .ok (.aload_n 2, 1) := by decide +kernel
theorem dXL_law_265 : decode code 265 = .ok (.aload_n 0, 1) := by decide +kernel
theorem dXL_law_266 : decode code 266 = .ok (.iload_n 3, 1) := by decide +kernel
theorem dXL_law_267 : decode code 267 = .ok (.iconst 1, 1) := by decide +kernel
theorem dXL_law_268 : decode code 268 = .ok (.iadd, 1) := by decide +kernel
theorem dXL_law_269 : decode code 269 = .ok (.iaload, 1) := by decide +kernel
theorem dXL_law_270 : decode code 270 = .ok (.aload_n 0, 1) := by decide +kernel
theorem dXL_law_271 : decode code 271 = .ok (.iload_n 3, 1) := by decide +kernel
theorem dXL_law_272 : decode code 272 = .ok (.iconst 2, 1) := by decide +kernel
theorem dXL_law_273 : decode code 273 = .ok (.iadd, 1) := by decide +kernel
theorem dXL_law_274 : decode code 274 = .ok (.iaload, 1) := by decide +kernel
theorem dXL_law_275 : decode code 275 = .ok (.invokevirtual 44, 3) := by decide +kernel
theorem dXL_law_278 : decode code 278 = .ok (.if_icmp .eq 236, 3) := by decide +kernel
theorem dXL_law_281 : decode code 281 = .ok (.iconst 0, 1) := by decide +kernel
theorem dXL_law_282 : decode code 282 = .ok (.ireturn, 1) := by decide +kernel
theorem dXL_law_283 : decode code 283 = .ok (.aload_n 1, 1) := by decide +kernel
theorem dXL_law_284 : decode code 284 = .ok (.aload_n 0, 1) := by decide +kernel
theorem dXL_law_285 : decode code 285 = .ok (.iload_n 3, 1) := by decide +kernel
theorem dXL_law_286 : decode code 286 = .ok (.iconst 1, 1) := by decide +kernel
theorem dXL_law_287 : decode code 287 = .ok (.iadd, 1) := by decide +kernel
theorem dXL_law_288 : decode code 288 = .ok (.iaload, 1) := by decide +kernel
theorem dXL_law_289 : decode code 289 = .ok (.aload_n 0, 1) := by decide +kernel
theorem dXL_law_290 : decode code 290 = .ok (.iload_n 3, 1) := by decide +kernel
theorem dXL_law_291 : decode code 291 = .ok (.iconst 2, 1) := by decide +kernel
theorem dXL_law_292 : decode code 292 = .ok (.iadd, 1) := by decide +kernel
theorem dXL_law_293 : decode code 293 = .ok (.iaload, 1) := by decide +kernel
theorem dXL_law_294 : decode code 294 = .ok (.invokevirtual 45, 3) := by decide +kernel
theorem dXL_law_297 : decode code 297 = .ok (.aload_n 2, 1) := by decide +kernel
theorem dXL_law_298 : decode code 298 = .ok (.aload_n 0, 1) := by decide +kernel
theorem dXL_law_299 : decode code 299 = .ok (.iload_n 3, 1) := by decide +kernel
theorem dXL_law_300 : decode code 300 = .ok (.iconst 1, 1) := by decide +kernel
theorem dXL_law_301 : decode code 301 = .ok (.iadd, 1) := by decide +kernel
theorem dXL_law_302 : decode code 302 = .ok (.iaload, 1) := by decide +kernel
theorem dXL_law_303 : decode code 303 = .ok (.aload_n 0, 1) := by decide +kernel
theorem dXL_law_304 : decode code 304 = .ok (.iload_n 3, 1) := by decide +kernel
theorem dXL_law_305 : decode code 305 = .ok (.iconst 2, 1) := by decide +kernel
theorem dXL_law_306 : decode code 306 = .ok (.iadd, 1) := by decide +kernel
theorem dXL_law_307 : decode code 307 = .ok (.iaload, 1) := by decide +kernel
theorem dXL_law_308 : decode code 308 = .ok (.invokevirtual 49, 3) := by decide +kernel
theorem dXL_law_311 : decode code 311 = .ok (.if_icmp .eq 203, 3) := by decide +kernel
theorem dXL_law_314 : decode code 314 = .ok (.iconst 0, 1) := by decide +kernel
theorem dXL_law_315 : decode code 315 = .ok (.ireturn, 1) := by decide +kernel
theorem dXL_law_316 : decode code 316 = .ok (.aload_n 1, 1) := by decide +kernel
theorem dXL_law_317 : decode code 317 = .ok (.aload_n 0, 1) := by decide +kernel
theorem dXL_law_318 : decode code 318 = .ok (.iload_n 3, 1) := by decide +kernel
theorem dXL_law_319 : decode code 319 = .ok (.iconst 1, 1) := by decide +kernel
theorem dXL_law_320 : decode code 320 = .ok (.iadd, 1) := by decide +kernel
theorem dXL_law_321 : decode code 321 = .ok (.iaload, 1) := by decide +kernel
theorem dXL_law_322 : decode code 322 = .ok (.invokevirtual 50, 3) := by decide +kernel
theorem dXL_law_325 : decode code 325 = .ok (.aload_n 2, 1) := by decide +kernel
theorem dXL_law_326 : decode code 326 = .ok (.aload_n 0, 1) := by decide +kernel
theorem dXL_law_327 : decode code 327 = .ok (.iload_n 3, 1) := by decide +kernel
theorem dXL_law_328 : decode code 328 = .ok (.iconst 1, 1) := by decide +kernel
theorem dXL_law_329 : decode code 329 = .ok (.iadd, 1) := by decide +kernel
theorem dXL_law_330 : decode code 330 = .ok (.iaload, 1) := by decide +kernel
theorem dXL_law_331 : decode code 331 = .ok (.invokevirtual 54, 3) := by decide +kernel
theorem dXL_law_334 : decode code 334 = .ok (.if_icmp .eq 180, 3) := by decide +kernel
theorem dXL_law_337 : decode code 337 = .ok (.iconst 0, 1) := by decide +kernel
theorem dXL_law_338 : decode code 338 = .ok (.ireturn, 1) := by decide +kernel
theorem dXL_law_339 : decode code 339 = .ok (.aload_n 1, 1) := by decide +kernel
theorem dXL_law_340 : decode code 340 = .ok (.aload_n 0, 1) := by decide +kernel
theorem dXL_law_341 : decode code 341 = .ok (.iload_n 3, 1) := by decide +kernel
theorem dXL_law_342 : decode code 342 = .ok (.iconst 1, 1) := by decide +kernel
theorem dXL_law_343 : decode code 343 = .ok (.iadd, 1) := by decide +kernel
theorem dXL_law_344 : decode code 344 = .ok (.iaload, 1) := by decide +kernel
theorem dXL_law_345 : decode code 345 = .ok (.invokevirtual 55, 3) := by decide +kernel
theorem dXL_law_348 : decode code 348 = .ok (.aload_n 2, 1) := by decide +kernel
theorem dXL_law_349 : decode code 349 = .ok (.aload_n 0, 1) := by decide +kernel
theorem dXL_law_350 : decode code 350 = .ok (.iload_n 3, 1) := by decide +kernel
theorem dXL_law_351 : decode code 351 = .ok (.iconst 1, 1) := by decide +kernel
theorem dXL_law_352 : decode code 352 = .ok (.iadd, 1) := by decide +kernel
theorem dXL_law_353 : decode code 353 = .ok (.iaload, 1) := by decide +kernel
theorem dXL_law_354 : decode code 354 = .ok (.invokevirtual 58, 3) := by decide +kernel
theorem dXL_law_357 : decode code 357 = .ok (.if_icmp .eq 157, 3) := by decide +kernel
theorem dXL_law_360 : decode code 360 = .ok (.iconst 0, 1) := by decide +kernel
theorem dXL_law_361 : decode code 361 = .ok (.ireturn, 1) := by decide +kernel
theorem dXL_law_362 : decode code 362 = .ok (.aload_n 1, 1) := by decide +kernel
theorem dXL_law_363 : decode code 363 = .ok (.aload_n 0, 1) := by decide +kernel
theorem dXL_law_364 : decode code 364 = .ok (.iload_n 3, 1) := by decide +kernel
theorem dXL_law_365 : decode code 365 = .ok (.iconst 1, 1) := by decide +kernel
theorem dXL_law_366 : decode code 366 = .ok (.iadd, 1) := by decide +kernel
theorem dXL_law_367 : decode code 367 = .ok (.iaload, 1) := by decide +kernel
theorem dXL_law_368 : decode code 368 = .ok (.invokevirtual 59, 3) := by decide +kernel
theorem dXL_law_371 : decode code 371 = .ok (.aload_n 2, 1) := by decide +kernel
theorem dXL_law_372 : decode code 372 = .ok (.aload_n 0, 1) := by decide +kernel
theorem dXL_law_373 : decode code 373 = .ok (.iload_n 3, 1) := by decide +kernel
theorem dXL_law_374 : decode code 374 = .ok (.iconst 1, 1) := by decide +kernel
theorem dXL_law_375 : decode code 375 = .ok (.iadd, 1) := by decide +kernel
theorem dXL_law_376 : decode code 376 = .ok (.iaload, 1) := by decide +kernel
theorem dXL_law_377 : decode code 377 = .ok (.invokevirtual 62, 3) := by decide +kernel
theorem dXL_law_380 : decode code 380 = .ok (.if_icmp .eq 134, 3) := by decide +kernel
theorem dXL_law_383 : decode code 383 = .ok (.iconst 0, 1) := by decide +kernel
theorem dXL_law_384 : decode code 384 = .ok (.ireturn, 1) := by decide +kernel
theorem dXL_law_385 : decode code 385 = .ok (.aload_n 1, 1) := by decide +kernel
theorem dXL_law_386 : decode code 386 = .ok (.aload_n 0, 1) := by decide +kernel
theorem dXL_law_387 : decode code 387 = .ok (.iload_n 3, 1) := by decide +kernel
theorem dXL_law_388 : decode code 388 = .ok (.iconst 1, 1) := by decide +kernel
theorem dXL_law_389 : decode code 389 = .ok (.iadd, 1) := by decide +kernel
theorem dXL_law_390 : decode code 390 = .ok (.iaload, 1) := by decide +kernel
theorem dXL_law_391 : decode code 391 = .ok (.invokevirtual 63, 3) := by decide +kernel
theorem dXL_law_394 : decode code 394 = .ok (.aload_n 2, 1) := by decide +kernel
theorem dXL_law_395 : decode code 395 = .ok (.aload_n 0, 1) := by decide +kernel
theorem dXL_law_396 : decode code 396 = .ok (.iload_n 3, 1) := by decide +kernel
theorem dXL_law_397 : decode code 397 = .ok (.iconst 1, 1) := by decide +kernel
theorem dXL_law_398 : decode code 398 = .ok (.iadd, 1) := by decide +kernel
theorem dXL_law_399 : decode code 399 = .ok (.iaload, 1) := by decide +kernel
theorem dXL_law_400 : decode code 400 = .ok (.invokevirtual 66, 3) := by decide +kernel
theorem dXL_law_403 : decode code 403 = .ok (.if_icmp .eq 111, 3) := by decide +kernel
theorem dXL_law_406 : decode code 406 = .ok (.iconst 0, 1) := by decide +kernel
theorem dXL_law_407 : decode code 407 = .ok (.ireturn, 1) := by decide +kernel
theorem dXL_law_408 : decode code 408 = .ok (.aload_n 1, 1) := by decide +kernel
theorem dXL_law_409 : decode code 409 = .ok (.aload_n 0, 1) := by decide +kernel
theorem dXL_law_410 : decode code 410 = .ok (.iload_n 3, 1) := by decide +kernel
theorem dXL_law_411 : decode code 411 = .ok (.iconst 1, 1) := by decide +kernel
theorem dXL_law_412 : decode code 412 = .ok (.iadd, 1) := by decide +kernel
theorem dXL_law_413 : decode code 413 = .ok (.iaload, 1) := by decide +kernel
theorem dXL_law_414 : decode code 414 = .ok (.invokevirtual 67, 3) := by decide +kernel
theorem dXL_law_417 : decode code 417 = .ok (.aload_n 2, 1) := by decide +kernel
theorem dXL_law_418 : decode code 418 = .ok (.aload_n 0, 1) := by decide +kernel
theorem dXL_law_419 : decode code 419 = .ok (.iload_n 3, 1) := by decide +kernel
theorem dXL_law_420 : decode code 420 = .ok (.iconst 1, 1) := by decide +kernel
theorem dXL_law_421 : decode code 421 = .ok (.iadd, 1) := by decide +kernel
theorem dXL_law_422 : decode code 422 = .ok (.iaload, 1) := by decide +kernel
theorem dXL_law_423 : decode code 423 = .ok (.invokevirtual 71, 3) := by decide +kernel
theorem dXL_law_426 : decode code 426 = .ok (.if_icmp .eq 88, 3) := by decide +kernel
theorem dXL_law_429 : decode code 429 = .ok (.iconst 0, 1) := by decide +kernel
theorem dXL_law_430 : decode code 430 = .ok (.ireturn, 1) := by decide +kernel
theorem dXL_law_431 : decode code 431 = .ok (.aload_n 1, 1) := by decide +kernel
theorem dXL_law_432 : decode code 432 = .ok (.invokevirtual 72, 3) := by decide +kernel
theorem dXL_law_435 : decode code 435 = .ok (.aload_n 2, 1) := by decide +kernel
theorem dXL_law_436 : decode code 436 = .ok (.invokevirtual 75, 3) := by decide +kernel
theorem dXL_law_439 : decode code 439 = .ok (.if_icmp .eq 75, 3) := by decide +kernel
theorem dXL_law_442 : decode code 442 = .ok (.iconst 0, 1) := by decide +kernel
theorem dXL_law_443 : decode code 443 = .ok (.ireturn, 1) := by decide +kernel
theorem dXL_law_444 : decode code 444 = .ok (.aload_n 1, 1) := by decide +kernel
theorem dXL_law_445 : decode code 445 = .ok (.aload_n 0, 1) := by decide +kernel
theorem dXL_law_446 : decode code 446 = .ok (.iload_n 3, 1) := by decide +kernel
theorem dXL_law_447 : decode code 447 = .ok (.iconst 1, 1) := by decide +kernel
theorem dXL_law_448 : decode code 448 = .ok (.iadd, 1) := by decide +kernel
theorem dXL_law_449 : decode code 449 = .ok (.iaload, 1) := by decide +kernel
theorem dXL_law_450 : decode code 450 = .ok (.invokevirtual 76, 3) := by decide +kernel
theorem dXL_law_453 : decode code 453 = .ok (.aload_n 2, 1) := by decide +kernel
theorem dXL_law_454 : decode code 454 = .ok (.aload_n 0, 1) := by decide +kernel
theorem dXL_law_455 : decode code 455 = .ok (.iload_n 3, 1) := by decide +kernel
theorem dXL_law_456 : decode code 456 = .ok (.iconst 1, 1) := by decide +kernel
theorem dXL_law_457 : decode code 457 = .ok (.iadd, 1) := by decide +kernel
theorem dXL_law_458 : decode code 458 = .ok (.iaload, 1) := by decide +kernel
theorem dXL_law_459 : decode code 459 = .ok (.invokevirtual 79, 3) := by decide +kernel
theorem dXL_law_462 : decode code 462 = .ok (.if_icmp .eq 52, 3) := by decide +kernel
theorem dXL_law_465 : decode code 465 = .ok (.iconst 0, 1) := by decide +kernel
theorem dXL_law_466 : decode code 466 = .ok (.ireturn, 1) := by decide +kernel
theorem dXL_law_467 : decode code 467 = .ok (.aload_n 1, 1) := by decide +kernel
theorem dXL_law_468 : decode code 468 = .ok (.aload_n 0, 1) := by decide +kernel
theorem dXL_law_469 : decode code 469 = .ok (.iload_n 3, 1) := by decide +kernel
theorem dXL_law_470 : decode code 470 = .ok (.iconst 1, 1) := by decide +kernel
theorem dXL_law_471 : decode code 471 = .ok (.iadd, 1) := by decide +kernel
theorem dXL_law_472 : decode code 472 = .ok (.iaload, 1) := by decide +kernel
theorem dXL_law_473 : decode code 473 = .ok (.aload_n 0, 1) := by decide +kernel
theorem dXL_law_474 : decode code 474 = .ok (.iload_n 3, 1) := by decide +kernel
theorem dXL_law_475 : decode code 475 = .ok (.iconst 2, 1) := by decide +kernel
theorem dXL_law_476 : decode code 476 = .ok (.iadd, 1) := by decide +kernel
theorem dXL_law_477 : decode code 477 = .ok (.iaload, 1) := by decide +kernel
theorem dXL_law_478 : decode code 478 = .ok (.invokevirtual 80, 3) := by decide +kernel
theorem dXL_law_481 : decode code 481 = .ok (.aload_n 2, 1) := by decide +kernel
theorem dXL_law_482 : decode code 482 = .ok (.aload_n 0, 1) := by decide +kernel
theorem dXL_law_483 : decode code 483 = .ok (.iload_n 3, 1) := by decide +kernel
theorem dXL_law_484 : decode code 484 = .ok (.iconst 1, 1) := by decide +kernel
theorem dXL_law_485 : decode code 485 = .ok (.iadd, 1) := by decide +kernel
theorem dXL_law_486 : decode code 486 = .ok (.iaload, 1) := by decide +kernel
theorem dXL_law_487 : decode code 487 = .ok (.aload_n 0, 1) := by decide +kernel
theorem dXL_law_488 : decode code 488 = .ok (.iload_n 3, 1) := by decide +kernel
theorem dXL_law_489 : decode code 489 = .ok (.iconst 2, 1) := by decide +kernel
theorem dXL_law_490 : decode code 490 = .ok (.iadd, 1) := by decide +kernel
theorem dXL_law_491 : decode code 491 = .ok (.iaload, 1) := by decide +kernel
theorem dXL_law_492 : decode code 492 = .ok (.invokevirtual 84, 3) := by decide +kernel
theorem dXL_law_495 : decode code 495 = .ok (.lcmp, 1) := by decide +kernel
theorem dXL_law_496 : decode code 496 = .ok (.ifCond .eq 18, 3) := by decide +kernel
theorem dXL_law_499 : decode code 499 = .ok (.iconst 0, 1) := by decide +kernel
theorem dXL_law_500 : decode code 500 = .ok (.ireturn, 1) := by decide +kernel
theorem dXL_law_501 : decode code 501 = .ok (.aload_n 1, 1) := by decide +kernel
theorem dXL_law_502 : decode code 502 = .ok (.invokevirtual 85, 3) := by decide +kernel
theorem dXL_law_505 : decode code 505 = .ok (.aload_n 2, 1) := by decide +kernel
theorem dXL_law_506 : decode code 506 = .ok (.invokevirtual 88, 3) := by decide +kernel
theorem dXL_law_509 : decode code 509 = .ok (.if_icmp .eq 5, 3) := by decide +kernel
theorem dXL_law_512 : decode code 512 = .ok (.iconst 0, 1) := by decide +kernel
theorem dXL_law_513 : decode code 513 = .ok (.ireturn, 1) := by decide +kernel
theorem dXL_law_514 : decode code 514 = .ok (.iinc 3 3, 3) := by decide +kernel
theorem dXL_law_517 : decode code 517 = .ok (.goto (-499), 3) := by decide +kernel
theorem dXL_law_520 : decode code 520 = .ok (.iconst 1, 1) := by decide +kernel
theorem dXL_law_521 : decode code 521 = .ok (.ireturn, 1) := by decide +kernel
theorem ylXL_13 : fb_Yl RXL 13 yX8_type := Or.inl (fb_inW1 233 rfl rfl)
theorem ylXL_17 : fb_Yl RXL 17 yX9_type := Or.inl (fb_inW4 30 rfl rfl)
theorem ylXL_18 : fb_Yl RXL 18 yX8_scrap := Or.inl (fb_inW2 13 rfl rfl)
theorem ylXL_21 : fb_Yl RXL 21 yX9_scrap := Or.inl (fb_inW4 43 rfl rfl)
theorem ylXL_22 : fb_Yl RXL 22 yX8_declare := Or.inl (fb_inW2 21 rfl rfl)
theorem ylXL_26 : fb_Yl RXL 26 yX9_declare := Or.inl (fb_inW4 47 rfl rfl)
theorem ylXL_27 : fb_Yl RXL 27 yX8_names := Or.inl (fb_inW2 61 rfl rfl)
theorem ylXL_30 : fb_Yl RXL 30 yX9_names := Or.inl (fb_inW4 59 rfl rfl)
theorem ylXL_31 : fb_Yl RXL 31 yX8_define := Or.inl (fb_inW2 78 rfl rfl)
theorem ylXL_35 : fb_Yl RXL 35 yX9_define := Or.inl (fb_inW4 79 rfl rfl)
theorem ylXL_36 : fb_Yl RXL 36 yX8_shape := Or.inl (fb_inW3 11 rfl rfl)
theorem ylXL_40 : fb_Yl RXL 40 yX9_shape := Or.inl (fb_inW4 158 rfl rfl)
theorem ylXL_41 : fb_Yl RXL 41 yX8_part := Or.inl (fb_inW3 23 rfl rfl)
theorem ylXL_44 : fb_Yl RXL 44 yX9_part := Or.inl (fb_inW4 169 rfl rfl)
theorem ylXL_45 : fb_Yl RXL 45 yX8_fill := Or.inl (fb_inW3 31 rfl rfl)
theorem ylXL_49 : fb_Yl RXL 49 yX9_fill := Or.inl (fb_inW4 173 rfl rfl)
theorem ylXL_50 : fb_Yl RXL 50 yX8_blank := Or.inl (fb_inW3 43 rfl rfl)
theorem ylXL_54 : fb_Yl RXL 54 yX9_blank := Or.inl (fb_inW4 181 rfl rfl)
theorem ylXL_55 : fb_Yl RXL 55 yX8_save := Or.inl (fb_inW3 47 rfl rfl)
theorem ylXL_58 : fb_Yl RXL 58 yX9_save := Or.inl (fb_inW4 185 rfl rfl)
theorem ylXL_59 : fb_Yl RXL 59 yX8_remove := Or.inl (fb_inW3 62 rfl rfl)
theorem ylXL_62 : fb_Yl RXL 62 yX9_remove := Or.inl (fb_inW4 193 rfl rfl)
theorem ylXL_63 : fb_Yl RXL 63 yX8_arg := Or.inl (fb_inW3 70 rfl rfl)
theorem ylXL_66 : fb_Yl RXL 66 yX9_arg := Or.inl (fb_inW4 201 rfl rfl)
theorem ylXL_67 : fb_Yl RXL 67 yX8_run := Or.inl (fb_inW3 74 rfl rfl)
theorem ylXL_71 : fb_Yl RXL 71 yX9_run := Or.inl (fb_inW4 205 rfl rfl)
theorem ylXL_72 : fb_Yl RXL 72 yX8_results := Or.inl (fb_inW3 123 rfl rfl)
theorem ylXL_75 : fb_Yl RXL 75 yX9_results := Or.inl (fb_inW4 225 rfl rfl)
theorem ylXL_76 : fb_Yl RXL 76 yX8_result := Or.inl (fb_inW3 127 rfl rfl)
theorem ylXL_79 : fb_Yl RXL 79 yX9_result := Or.inl (fb_inW4 229 rfl rfl)
theorem ylXL_80 : fb_Yl RXL 80 yX8_value := Or.inl (fb_inW3 131 rfl rfl)
theorem ylXL_84 : fb_Yl RXL 84 yX9_value := Or.inl (fb_inW4 233 rfl rfl)
theorem ylXL_85 : fb_Yl RXL 85 yX8_size := Or.inl (fb_inW3 138 rfl rfl)
theorem ylXL_88 : fb_Yl RXL 88 yX9_size := Or.inl (fb_inW4 239 rfl rfl)
theorem ymX8_arg : fb_Ym yX8_arg cX8_arg 2 (some .boolean) 1 := ⟨(fb_inW3 73 rfl rfl), (fb_inW1 1 rfl rfl), by decide, by decide, by decide +kernel⟩
theorem yiX8_arg : fb_Yi yX8_arg 8 := ⟨(fb_inW3 71 rfl rfl), (fb_inW3 72 rfl rfl), by decide, _, _, rfl⟩
theorem ymX8_blank : fb_Ym yX8_blank cX8_blank 2 (some .boolean) 1 := ⟨(fb_inW3 46 rfl rfl), (fb_inW1 1 rfl rfl), by decide, by decide, by decide +kernel⟩
theorem yiX8_blank : fb_Yi yX8_blank 8 := ⟨(fb_inW3 44 rfl rfl), (fb_inW3 45 rfl rfl), by decide, _, _, rfl⟩
theorem ymX8_declare : fb_Ym yX8_declare cX8_declare 2 (some .int) 0 := ⟨(fb_inW2 24 rfl rfl), (fb_inW1 1 rfl rfl), by decide, by decide, by decide +kernel⟩
theorem yiX8_declare : fb_Yi yX8_declare 8 := ⟨(fb_inW2 22 rfl rfl), (fb_inW2 23 rfl rfl), by decide, _, _, rfl⟩
theorem ymX8_define : fb_Ym yX8_define cX8_define 4 (some .int) 1 := ⟨(fb_inW2 81 rfl rfl), (fb_inW1 1 rfl rfl), by decide, by decide, by decide +kernel⟩
theorem yiX8_define : fb_Yi yX8_define 8 := ⟨(fb_inW2 79 rfl rfl), (fb_inW2 80 rfl rfl), by decide, _, _, rfl⟩
theorem ymX8_fill : fb_Ym yX8_fill cX8_fill 3 (some .boolean) 2 := ⟨(fb_inW3 34 rfl rfl), (fb_inW1 1 rfl rfl), by decide, by decide, by decide +kernel⟩
theorem yiX8_fill : fb_Yi yX8_fill 8 := ⟨(fb_inW3 32 rfl rfl), (fb_inW3 33 rfl rfl), by decide, _, _, rfl⟩
theorem ymX8_names : fb_Ym yX8_names cX8_names 1 (some .int) 0 := ⟨(fb_inW2 64 rfl rfl), (fb_inW1 1 rfl rfl), by decide, by decide, by decide +kernel⟩
theorem yiX8_names : fb_Yi yX8_names 8 := ⟨(fb_inW2 62 rfl rfl), (fb_inW2 63 rfl rfl), by decide, _, _, rfl⟩
theorem ymX8_part : fb_Ym yX8_part cX8_part 3 (some .int) 2 := ⟨(fb_inW3 26 rfl rfl), (fb_inW1 1 rfl rfl), by decide, by decide, by decide +kernel⟩
theorem yiX8_part : fb_Yi yX8_part 8 := ⟨(fb_inW3 24 rfl rfl), (fb_inW3 25 rfl rfl), by decide, _, _, rfl⟩
theorem ymX8_remove : fb_Ym yX8_remove cX8_remove 2 (some .boolean) 1 := ⟨(fb_inW3 65 rfl rfl), (fb_inW1 1 rfl rfl), by decide, by decide, by decide +kernel⟩
theorem yiX8_remove : fb_Yi yX8_remove 8 := ⟨(fb_inW3 63 rfl rfl), (fb_inW3 64 rfl rfl), by decide, _, _, rfl⟩
theorem ymX8_result : fb_Ym yX8_result cX8_result 2 (some .int) 1 := ⟨(fb_inW3 130 rfl rfl), (fb_inW1 1 rfl rfl), by decide, by decide, by decide +kernel⟩
theorem yiX8_result : fb_Yi yX8_result 8 := ⟨(fb_inW3 128 rfl rfl), (fb_inW3 129 rfl rfl), by decide, _, _, rfl⟩
theorem ymX8_results : fb_Ym yX8_results cX8_results 1 (some .int) 0 := ⟨(fb_inW3 126 rfl rfl), (fb_inW1 1 rfl rfl), by decide, by decide, by decide +kernel⟩
theorem yiX8_results : fb_Yi yX8_results 8 := ⟨(fb_inW3 124 rfl rfl), (fb_inW3 125 rfl rfl), by decide, _, _, rfl⟩
theorem ymX8_run : fb_Ym yX8_run cX8_run 4 (some .int) 1 := ⟨(fb_inW3 77 rfl rfl), (fb_inW1 1 rfl rfl), by decide, by decide, by decide +kernel⟩
theorem yiX8_run : fb_Yi yX8_run 8 := ⟨(fb_inW3 75 rfl rfl), (fb_inW3 76 rfl rfl), by decide, _, _, rfl⟩
theorem ymX8_save : fb_Ym yX8_save cX8_save 2 (some .boolean) 1 := ⟨(fb_inW3 50 rfl rfl), (fb_inW1 1 rfl rfl), by decide, by decide, by decide +kernel⟩
theorem yiX8_save : fb_Yi yX8_save 8 := ⟨(fb_inW3 48 rfl rfl), (fb_inW3 49 rfl rfl), by decide, _, _, rfl⟩
theorem ymX8_scrap : fb_Ym yX8_scrap cX8_scrap 1 none 0 := ⟨(fb_inW2 16 rfl rfl), (fb_inW1 1 rfl rfl), by decide, by decide, by decide +kernel⟩
theorem yiX8_scrap : fb_Yi yX8_scrap 8 := ⟨(fb_inW2 14 rfl rfl), (fb_inW2 15 rfl rfl), by decide, _, _, rfl⟩
theorem ymX8_shape : fb_Ym yX8_shape cX8_shape 3 (some .int) 2 := ⟨(fb_inW3 14 rfl rfl), (fb_inW1 1 rfl rfl), by decide, by decide, by decide +kernel⟩
theorem yiX8_shape : fb_Yi yX8_shape 8 := ⟨(fb_inW3 12 rfl rfl), (fb_inW3 13 rfl rfl), by decide, _, _, rfl⟩
theorem ymX8_size : fb_Ym yX8_size cX8_size 1 (some .int) 0 := ⟨(fb_inW3 141 rfl rfl), (fb_inW1 1 rfl rfl), by decide, by decide, by decide +kernel⟩
theorem yiX8_size : fb_Yi yX8_size 8 := ⟨(fb_inW3 139 rfl rfl), (fb_inW3 140 rfl rfl), by decide, _, _, rfl⟩
theorem ymX8_type : fb_Ym yX8_type cX8_type 2 (some .boolean) 1 := ⟨(fb_inW1 236 rfl rfl), (fb_inW1 1 rfl rfl), by decide, by decide, by decide +kernel⟩
theorem yiX8_type : fb_Yi yX8_type 8 := ⟨(fb_inW1 234 rfl rfl), (fb_inW1 235 rfl rfl), by decide, _, _, rfl⟩
theorem ymX8_value : fb_Ym yX8_value cX8_value 4 (some .long) 2 := ⟨(fb_inW3 134 rfl rfl), (fb_inW1 1 rfl rfl), by decide, by decide, by decide +kernel⟩
theorem yiX8_value : fb_Yi yX8_value 8 := ⟨(fb_inW3 132 rfl rfl), (fb_inW3 133 rfl rfl), by decide, _, _, rfl⟩
theorem ymX9_arg : fb_Ym yX9_arg cX9_arg 2 (some .boolean) 1 := ⟨(fb_inW4 204 rfl rfl), (fb_inW1 11 rfl rfl), by decide, by decide, by decide +kernel⟩
theorem yiX9_arg : fb_Yi yX9_arg 9 := ⟨(fb_inW4 202 rfl rfl), (fb_inW4 203 rfl rfl), by decide, _, _, rfl⟩
theorem ymX9_blank : fb_Ym yX9_blank cX9_blank 2 (some .boolean) 1 := ⟨(fb_inW4 184 rfl rfl), (fb_inW1 11 rfl rfl), by decide, by decide, by decide +kernel⟩
theorem yiX9_blank : fb_Yi yX9_blank 9 := ⟨(fb_inW4 182 rfl rfl), (fb_inW4 183 rfl rfl), by decide, _, _, rfl⟩
theorem ymX9_declare : fb_Ym yX9_declare cX9_declare 2 (some .int) 0 := ⟨(fb_inW4 50 rfl rfl), (fb_inW1 11 rfl rfl), by decide, by decide, by decide +kernel⟩
theorem yiX9_declare : fb_Yi yX9_declare 9 := ⟨(fb_inW4 48 rfl rfl), (fb_inW4 49 rfl rfl), by decide, _, _, rfl⟩
theorem ymX9_define : fb_Ym yX9_define cX9_define 9 (some .int) 1 := ⟨(fb_inW4 82 rfl rfl), (fb_inW1 11 rfl rfl), by decide, by decide, by decide +kernel⟩
theorem yiX9_define : fb_Yi yX9_define 9 := ⟨(fb_inW4 80 rfl rfl), (fb_inW4 81 rfl rfl), by decide, _, _, rfl⟩
theorem ymX9_fill : fb_Ym yX9_fill cX9_fill 3 (some .boolean) 2 := ⟨(fb_inW4 176 rfl rfl), (fb_inW1 11 rfl rfl), by decide, by decide, by decide +kernel⟩
theorem yiX9_fill : fb_Yi yX9_fill 9 := ⟨(fb_inW4 174 rfl rfl), (fb_inW4 175 rfl rfl), by decide, _, _, rfl⟩
theorem ymX9_names : fb_Ym yX9_names cX9_names 1 (some .int) 0 := ⟨(fb_inW4 62 rfl rfl), (fb_inW1 11 rfl rfl), by decide, by decide, by decide +kernel⟩
theorem yiX9_names : fb_Yi yX9_names 9 := ⟨(fb_inW4 60 rfl rfl), (fb_inW4 61 rfl rfl), by decide, _, _, rfl⟩
theorem ymX9_part : fb_Ym yX9_part cX9_part 3 (some .int) 2 := ⟨(fb_inW4 172 rfl rfl), (fb_inW1 11 rfl rfl), by decide, by decide, by decide +kernel⟩
theorem yiX9_part : fb_Yi yX9_part 9 := ⟨(fb_inW4 170 rfl rfl), (fb_inW4 171 rfl rfl), by decide, _, _, rfl⟩
theorem ymX9_remove : fb_Ym yX9_remove cX9_remove 3 (some .boolean) 1 := ⟨(fb_inW4 196 rfl rfl), (fb_inW1 11 rfl rfl), by decide, by decide, by decide +kernel⟩
theorem yiX9_remove : fb_Yi yX9_remove 9 := ⟨(fb_inW4 194 rfl rfl), (fb_inW4 195 rfl rfl), by decide, _, _, rfl⟩
theorem ymX9_result : fb_Ym yX9_result cX9_result 2 (some .int) 1 := ⟨(fb_inW4 232 rfl rfl), (fb_inW1 11 rfl rfl), by decide, by decide, by decide +kernel⟩
theorem yiX9_result : fb_Yi yX9_result 9 := ⟨(fb_inW4 230 rfl rfl), (fb_inW4 231 rfl rfl), by decide, _, _, rfl⟩
theorem ymX9_results : fb_Ym yX9_results cX9_results 1 (some .int) 0 := ⟨(fb_inW4 228 rfl rfl), (fb_inW1 11 rfl rfl), by decide, by decide, by decide +kernel⟩
theorem yiX9_results : fb_Yi yX9_results 9 := ⟨(fb_inW4 226 rfl rfl), (fb_inW4 227 rfl rfl), by decide, _, _, rfl⟩
theorem ymX9_run : fb_Ym yX9_run cX9_run 6 (some .int) 1 := ⟨(fb_inW4 208 rfl rfl), (fb_inW1 11 rfl rfl), by decide, by decide, by decide +kernel⟩
theorem yiX9_run : fb_Yi yX9_run 9 := ⟨(fb_inW4 206 rfl rfl), (fb_inW4 207 rfl rfl), by decide, _, _, rfl⟩
theorem ymX9_save : fb_Ym yX9_save cX9_save 4 (some .boolean) 1 := ⟨(fb_inW4 188 rfl rfl), (fb_inW1 11 rfl rfl), by decide, by decide, by decide +kernel⟩
theorem yiX9_save : fb_Yi yX9_save 9 := ⟨(fb_inW4 186 rfl rfl), (fb_inW4 187 rfl rfl), by decide, _, _, rfl⟩
theorem ymX9_scrap : fb_Ym yX9_scrap cX9_scrap 1 none 0 := ⟨(fb_inW4 46 rfl rfl), (fb_inW1 11 rfl rfl), by decide, by decide, by decide +kernel⟩
theorem yiX9_scrap : fb_Yi yX9_scrap 9 := ⟨(fb_inW4 44 rfl rfl), (fb_inW4 45 rfl rfl), by decide, _, _, rfl⟩
theorem ymX9_shape : fb_Ym yX9_shape cX9_shape 3 (some .int) 2 := ⟨(fb_inW4 161 rfl rfl), (fb_inW1 11 rfl rfl), by decide, by decide, by decide +kernel⟩
theorem yiX9_shape : fb_Yi yX9_shape 9 := ⟨(fb_inW4 159 rfl rfl), (fb_inW4 160 rfl rfl), by decide, _, _, rfl⟩
theorem ymX9_size : fb_Ym yX9_size cX9_size 1 (some .int) 0 := ⟨(fb_inW5 2 rfl rfl), (fb_inW1 11 rfl rfl), by decide, by decide, by decide +kernel⟩
theorem yiX9_size : fb_Yi yX9_size 9 := ⟨(fb_inW5 0 rfl rfl), (fb_inW5 1 rfl rfl), by decide, _, _, rfl⟩
theorem ymX9_type : fb_Ym yX9_type cX9_type 3 (some .boolean) 1 := ⟨(fb_inW4 33 rfl rfl), (fb_inW1 11 rfl rfl), by decide, by decide, by decide +kernel⟩
theorem yiX9_type : fb_Yi yX9_type 9 := ⟨(fb_inW4 31 rfl rfl), (fb_inW4 32 rfl rfl), by decide, _, _, rfl⟩
theorem ymX9_value : fb_Ym yX9_value cX9_value 4 (some .long) 2 := ⟨(fb_inW4 236 rfl rfl), (fb_inW1 11 rfl rfl), by decide, by decide, by decide +kernel⟩
theorem yiX9_value : fb_Yi yX9_value 9 := ⟨(fb_inW4 234 rfl rfl), (fb_inW4 235 rfl rfl), by decide, _, _, rfl⟩
theorem fb_kb_31 : (Int8.ofInt 31).toInt32 = 31 := by decide
theorem fb_at0 : 0 < fb_NT ∧ fb_sh 0 = (8, 12) := ⟨by decide, rfl⟩
theorem fb_at104 : 104 < fb_NT ∧ fb_sh 104 = (9, 40) := ⟨by decide, rfl⟩
def fb_Qlaw (g : fb_G) : fb_QT := fun s args below t => (args = #[Value.ref (fb_sb g)] ∧ s.heap.size ≤ fb_b g) → lw_Z below args s t
theorem fb_lawret {g : fb_G} {k ks n : Nat} {u : fb_M} {pc : Nat} {lv : List (Nat × Value)} {v : Int32} (h : some v = some (1 : Int32)) (hd : decode code pc = .ok (.ireturn, 1)) (hk : k ≤ 600000 := by exact Nat.le_of_ble_eq_true rfl) (hks : ks ≤ 7302250 := by exact Nat.le_of_ble_eq_true rfl) : fb_V g RXL code 4 ret "law" room_1 (fb_Qlaw g) k ks n u pc lv [.int v] := by
  cases h
  intro p l e s m args below meth c H locs ls hC hH hl T hT X
  by_cases hq : args = #[Value.ref (fb_sb g)] ∧ s.heap.size ≤ fb_b g
  · obtain ⟨rfl, hs⟩ := hq
    have w : W p l e room_1 s m #[Value.ref (fb_sb g)] below meth c H locs k ks (lw_Z below #[Value.ref (fb_sb g)] s) (F0 m pc ls [.int 1]) :=
      va_forget (fun q hq => Nat.le_trans hs (hH.2.1.2.2 q hq)) (W.widen hk hks (lw_ret hC.1 hC.2.1 hC.2.2.2.1 hC.2.2.2.2.1 hd))
    obtain ⟨t, a1, b1⟩ := w T hT X
    exact ⟨t, a1, fun _ => b1⟩
  · exact ⟨T.setTop (F0 m pc ls [.int 1]), Steps.refl _, fun z => absurd z hq⟩
def jXL_law_209 (L : Nat) (xs : Nat → Int32) (K18 : Int32 → fb_M → Option Int32) (a1 : Nat) (a2 : Nat) (x3 : Int32) (k0 : Int32) (b1 : Nat) (k2 : Int32) (u : fb_M) : Option Int32 :=
 ((fX9_define u b1 k2).bind fun r209 => 
  (if k0 = r209.1 then (K18 (x3 + 3) r209.2)
  else (some 0)))
set_option maxRecDepth 100000 in
set_option maxHeartbeats 4000000 in
theorem tjXL_law_209 {g : fb_G}  (a1 : Nat) (a2 : Nat) (x3 : Int32) (k0 : Int32) (b1 : Nat) (k2 : Int32) (u : fb_M) (K18 : Int32 → fb_M → Option Int32) (ha1 : a1 < fb_NT ∧ fb_sh a1 = (8, 12)) (ha2 : a2 < fb_NT ∧ fb_sh a2 = (9, 40)) (hb1 : b1 < fb_NT ∧ fb_sh b1 = (9, 40)) (hK18 : ∀ (x3 : Int32) (u : fb_M) ,  K18 x3 u = some 1 → fb_V g RXL code 4 ret "law" room_1 (fb_Qlaw g) 133 1870 fb_NT u 18 [(0, .ref (fb_sb g)), (1, .ref (fb_b g + a1)), (2, .ref (fb_b g + a2)), (3, .int x3)] []) (h : jXL_law_209 (fb_sL g) (fb_sx g) K18 a1 a2 x3 k0 b1 k2 u = some 1) : fb_V g RXL code 4 ret "law" room_1 (fb_Qlaw g) 133 1870 fb_NT u 209 [(0, .ref (fb_sb g)), (1, .ref (fb_b g + a1)), (2, .ref (fb_b g + a2)), (3, .int x3)] [.int k2, .ref (fb_b g + b1), .int k0] := by
  unfold jXL_law_209 at h
  refine fb_bnE h (fun r209 h209 h => ?_)
  refine fb_cV0v (pc := 209) [.int k2] dXL_law_209 (mX9_define g u b1 k2 hb1 h209) ymX9_define yiX9_define hb1.1 hb1.2 ylXL_35 rfl (Nat.le_of_ble_eq_true rfl) ⟨Nat.le_of_ble_eq_true rfl, Nat.le_of_ble_eq_true rfl⟩ ⟨Nat.le_of_ble_eq_true rfl, Nat.le_of_ble_eq_true rfl⟩ ?_
  refine fb_icmp_eq (pc := 212) (tgt := 514) h dXL_law_212 (by decide) (fun h => ?_) (fun h => ?_)
  · refine fb_iinc (pc := 514) (v := 3) (lv' := [(3, .int (x3 + 3)), (0, .ref (fb_sb g)), (1, .ref (fb_b g + a1)), (2, .ref (fb_b g + a2))]) dXL_law_514 3 rfl fb_ki_3 (by decide) rfl ?_
    refine fb_goto (pc := 517) (tgt := 18) dXL_law_517 (by decide) ?_
    exact fb_sub [1, 2, 3, 0] rfl (hK18 (x3 + 3) r209.2 h)
  · refine fb_iconst (pc := 215) (v := 0) dXL_law_215 fb_ki_0 ?_
    exact fb_lawret (pc := 216) h dXL_law_216

def jXL_law_192 (L : Nat) (xs : Nat → Int32) (K18 : Int32 → fb_M → Option Int32) (a1 : Nat) (a2 : Nat) (x3 : Int32) (b0 : Nat) (k1 : Int32) (u : fb_M) : Option Int32 :=
 ((fX8_define u b0 k1).bind fun r192 => 
  (fb_gd (¬ (x3 + 1 < 0 ∨ L ≤ (x3 + 1).toNatClampNeg)) 
  (if (xs (x3 + 1).toNatClampNeg) = 0 then (jXL_law_209 L xs K18 a1 a2 x3 r192.1 a2 0 r192.2)
  else (jXL_law_209 L xs K18 a1 a2 x3 r192.1 a2 1 r192.2))))
set_option maxRecDepth 100000 in
set_option maxHeartbeats 4000000 in
theorem tjXL_law_192 {g : fb_G}  (a1 : Nat) (a2 : Nat) (x3 : Int32) (b0 : Nat) (k1 : Int32) (u : fb_M) (K18 : Int32 → fb_M → Option Int32) (ha1 : a1 < fb_NT ∧ fb_sh a1 = (8, 12)) (ha2 : a2 < fb_NT ∧ fb_sh a2 = (9, 40)) (hb0 : b0 < fb_NT ∧ fb_sh b0 = (8, 12)) (hK18 : ∀ (x3 : Int32) (u : fb_M) ,  K18 x3 u = some 1 → fb_V g RXL code 4 ret "law" room_1 (fb_Qlaw g) 133 1870 fb_NT u 18 [(0, .ref (fb_sb g)), (1, .ref (fb_b g + a1)), (2, .ref (fb_b g + a2)), (3, .int x3)] []) (h : jXL_law_192 (fb_sL g) (fb_sx g) K18 a1 a2 x3 b0 k1 u = some 1) : fb_V g RXL code 4 ret "law" room_1 (fb_Qlaw g) 133 1870 fb_NT u 192 [(0, .ref (fb_sb g)), (1, .ref (fb_b g + a1)), (2, .ref (fb_b g + a2)), (3, .int x3)] [.int k1, .ref (fb_b g + b0)] := by
  unfold jXL_law_192 at h
  refine fb_bnE h (fun r192 h192 h => ?_)
  refine fb_cV0v (pc := 192) [.int k1] dXL_law_192 (mX8_define g u b0 k1 hb0 h192) ymX8_define yiX8_define hb0.1 hb0.2 ylXL_31 rfl (Nat.le_of_ble_eq_true rfl) ⟨Nat.le_of_ble_eq_true rfl, Nat.le_of_ble_eq_true rfl⟩ ⟨Nat.le_of_ble_eq_true rfl, Nat.le_of_ble_eq_true rfl⟩ ?_
  refine fb_aload_n (pc := 195) dXL_law_195 2 rfl ?_
  refine fb_aload_n (pc := 196) dXL_law_196 0 rfl ?_
  refine fb_iload_n (pc := 197) dXL_law_197 3 rfl ?_
  refine fb_iconst (pc := 198) (v := 1) dXL_law_198 fb_ki_1 ?_
  refine fb_iadd (pc := 199) dXL_law_199 ?_
  refine fb_gdE h (fun i200 h => ?_)
  refine fb_sld (pc := 200) dXL_law_200 i200 ?_
  refine fb_if_eq (pc := 201) (tgt := 208) h dXL_law_201 (by decide) (fun h => ?_) (fun h => ?_)
  · refine fb_iconst (pc := 208) (v := 0) dXL_law_208 fb_ki_0 ?_
    exact fb_sub [0, 1, 2, 3] rfl (tjXL_law_209 a1 a2 x3 r192.1 a2 0 r192.2 K18 ha1 ha2 ha2 hK18 h)
  · refine fb_iconst (pc := 204) (v := 1) dXL_law_204 fb_ki_1 ?_
    refine fb_goto (pc := 205) (tgt := 209) dXL_law_205 (by decide) ?_
    exact fb_sub [0, 1, 2, 3] rfl (tjXL_law_209 a1 a2 x3 r192.1 a2 1 r192.2 K18 ha1 ha2 ha2 hK18 h)

def bXL_law_18 (L : Nat) (xs : Nat → Int32) (K18 : Int32 → fb_M → Option Int32) (a1 : Nat) (a2 : Nat) (x3 : Int32) (u : fb_M) : Option Int32 :=
 (if ((Int32.ofNat L) - 3) < x3 then (some 1)
  else (fb_gd (¬ (x3 < 0 ∨ L ≤ x3.toNatClampNeg)) 
   (if ((xs x3.toNatClampNeg) &&& 31) = 0 then (fb_gd (¬ (x3 + 1 < 0 ∨ L ≤ (x3 + 1).toNatClampNeg)) 
    ((fX8_type u a1 (((xs (x3 + 1).toNatClampNeg).toUInt32 % 65536).toInt32)).bind fun r123 => 
    (fb_gd (¬ (x3 + 1 < 0 ∨ L ≤ (x3 + 1).toNatClampNeg)) 
    ((fX9_type r123.2 a2 (((xs (x3 + 1).toNatClampNeg).toUInt32 % 65536).toInt32)).bind fun r133 => 
    (if r123.1 = r133.1 then (K18 (x3 + 3) r133.2)
    else (some 0))))))
   else (if ((xs x3.toNatClampNeg) &&& 31) = 1 then ((fX8_scrap u a1).bind fun r142 => 
    ((fX9_scrap r142 a2).bind fun r146 => 
    (K18 (x3 + 3) r146)))
   else (if ((xs x3.toNatClampNeg) &&& 31) = 2 then ((fX8_declare u a1).bind fun r153 => 
    ((fX9_declare r153.2 a2).bind fun r157 => 
    (if r153.1 = r157.1 then (K18 (x3 + 3) r157.2)
    else (some 0))))
   else (if ((xs x3.toNatClampNeg) &&& 31) = 3 then ((fX8_names u a1).bind fun r166 => 
    ((fX9_names u a2).bind fun r170 => 
    (if r166 = r170 then (K18 (x3 + 3) u)
    else (some 0))))
   else (if ((xs x3.toNatClampNeg) &&& 31) = 4 then (fb_gd (¬ (x3 + 1 < 0 ∨ L ≤ (x3 + 1).toNatClampNeg)) 
    (if (xs (x3 + 1).toNatClampNeg) = 0 then (jXL_law_192 L xs K18 a1 a2 x3 a1 0 u)
    else (jXL_law_192 L xs K18 a1 a2 x3 a1 1 u)))
   else (if ((xs x3.toNatClampNeg) &&& 31) = 5 then (fb_gd (¬ (x3 + 1 < 0 ∨ L ≤ (x3 + 1).toNatClampNeg)) 
    (fb_gd (¬ (x3 + 2 < 0 ∨ L ≤ (x3 + 2).toNatClampNeg)) 
    ((fX8_shape u a1 (xs (x3 + 1).toNatClampNeg) (xs (x3 + 2).toNatClampNeg)).bind fun r228 => 
    (fb_gd (¬ (x3 + 1 < 0 ∨ L ≤ (x3 + 1).toNatClampNeg)) 
    (fb_gd (¬ (x3 + 2 < 0 ∨ L ≤ (x3 + 2).toNatClampNeg)) 
    ((fX9_shape u a2 (xs (x3 + 1).toNatClampNeg) (xs (x3 + 2).toNatClampNeg)).bind fun r242 => 
    (if r228 = r242 then (K18 (x3 + 3) u)
    else (some 0))))))))
   else (if ((xs x3.toNatClampNeg) &&& 31) = 6 then (fb_gd (¬ (x3 + 1 < 0 ∨ L ≤ (x3 + 1).toNatClampNeg)) 
    (fb_gd (¬ (x3 + 2 < 0 ∨ L ≤ (x3 + 2).toNatClampNeg)) 
    ((fX8_part u a1 (xs (x3 + 1).toNatClampNeg) (xs (x3 + 2).toNatClampNeg)).bind fun r261 => 
    (fb_gd (¬ (x3 + 1 < 0 ∨ L ≤ (x3 + 1).toNatClampNeg)) 
    (fb_gd (¬ (x3 + 2 < 0 ∨ L ≤ (x3 + 2).toNatClampNeg)) 
    ((fX9_part u a2 (xs (x3 + 1).toNatClampNeg) (xs (x3 + 2).toNatClampNeg)).bind fun r275 => 
    (if r261 = r275 then (K18 (x3 + 3) u)
    else (some 0))))))))
   else (if ((xs x3.toNatClampNeg) &&& 31) = 7 then (fb_gd (¬ (x3 + 1 < 0 ∨ L ≤ (x3 + 1).toNatClampNeg)) 
    (fb_gd (¬ (x3 + 2 < 0 ∨ L ≤ (x3 + 2).toNatClampNeg)) 
    ((fX8_fill u a1 (xs (x3 + 1).toNatClampNeg) (xs (x3 + 2).toNatClampNeg)).bind fun r294 => 
    (fb_gd (¬ (x3 + 1 < 0 ∨ L ≤ (x3 + 1).toNatClampNeg)) 
    (fb_gd (¬ (x3 + 2 < 0 ∨ L ≤ (x3 + 2).toNatClampNeg)) 
    ((fX9_fill r294.2 a2 (xs (x3 + 1).toNatClampNeg) (xs (x3 + 2).toNatClampNeg)).bind fun r308 => 
    (if r294.1 = r308.1 then (K18 (x3 + 3) r308.2)
    else (some 0))))))))
   else (if ((xs x3.toNatClampNeg) &&& 31) = 8 then (fb_gd (¬ (x3 + 1 < 0 ∨ L ≤ (x3 + 1).toNatClampNeg)) 
    ((fX8_blank u a1 (xs (x3 + 1).toNatClampNeg)).bind fun r322 => 
    (fb_gd (¬ (x3 + 1 < 0 ∨ L ≤ (x3 + 1).toNatClampNeg)) 
    ((fX9_blank r322.2 a2 (xs (x3 + 1).toNatClampNeg)).bind fun r331 => 
    (if r322.1 = r331.1 then (K18 (x3 + 3) r331.2)
    else (some 0))))))
   else (if ((xs x3.toNatClampNeg) &&& 31) = 9 then (fb_gd (¬ (x3 + 1 < 0 ∨ L ≤ (x3 + 1).toNatClampNeg)) 
    ((fX8_save u a1 (xs (x3 + 1).toNatClampNeg)).bind fun r345 => 
    (fb_gd (¬ (x3 + 1 < 0 ∨ L ≤ (x3 + 1).toNatClampNeg)) 
    ((fX9_save r345.2 a2 (xs (x3 + 1).toNatClampNeg)).bind fun r354 => 
    (if r345.1 = r354.1 then (K18 (x3 + 3) r354.2)
    else (some 0))))))
   else (if ((xs x3.toNatClampNeg) &&& 31) = 10 then (fb_gd (¬ (x3 + 1 < 0 ∨ L ≤ (x3 + 1).toNatClampNeg)) 
    ((fX8_remove u a1 (xs (x3 + 1).toNatClampNeg)).bind fun r368 => 
    (fb_gd (¬ (x3 + 1 < 0 ∨ L ≤ (x3 + 1).toNatClampNeg)) 
    ((fX9_remove r368.2 a2 (xs (x3 + 1).toNatClampNeg)).bind fun r377 => 
    (if r368.1 = r377.1 then (K18 (x3 + 3) r377.2)
    else (some 0))))))
   else (if ((xs x3.toNatClampNeg) &&& 31) = 11 then (fb_gd (¬ (x3 + 1 < 0 ∨ L ≤ (x3 + 1).toNatClampNeg)) 
    ((fX8_arg u a1 (xs (x3 + 1).toNatClampNeg)).bind fun r391 => 
    (fb_gd (¬ (x3 + 1 < 0 ∨ L ≤ (x3 + 1).toNatClampNeg)) 
    ((fX9_arg r391.2 a2 (xs (x3 + 1).toNatClampNeg)).bind fun r400 => 
    (if r391.1 = r400.1 then (K18 (x3 + 3) r400.2)
    else (some 0))))))
   else (if ((xs x3.toNatClampNeg) &&& 31) = 12 then (fb_gd (¬ (x3 + 1 < 0 ∨ L ≤ (x3 + 1).toNatClampNeg)) 
    ((fX8_run u a1 (xs (x3 + 1).toNatClampNeg)).bind fun r414 => 
    (fb_gd (¬ (x3 + 1 < 0 ∨ L ≤ (x3 + 1).toNatClampNeg)) 
    ((fX9_run r414.2 a2 (xs (x3 + 1).toNatClampNeg)).bind fun r423 => 
    (if r414.1 = r423.1 then (K18 (x3 + 3) r423.2)
    else (some 0))))))
   else (if ((xs x3.toNatClampNeg) &&& 31) = 13 then ((fX8_results u a1).bind fun r432 => 
    ((fX9_results u a2).bind fun r436 => 
    (if r432 = r436 then (K18 (x3 + 3) u)
    else (some 0))))
   else (if ((xs x3.toNatClampNeg) &&& 31) = 14 then (fb_gd (¬ (x3 + 1 < 0 ∨ L ≤ (x3 + 1).toNatClampNeg)) 
    ((fX8_result u a1 (xs (x3 + 1).toNatClampNeg)).bind fun r450 => 
    (fb_gd (¬ (x3 + 1 < 0 ∨ L ≤ (x3 + 1).toNatClampNeg)) 
    ((fX9_result u a2 (xs (x3 + 1).toNatClampNeg)).bind fun r459 => 
    (if r450 = r459 then (K18 (x3 + 3) u)
    else (some 0))))))
   else (if ((xs x3.toNatClampNeg) &&& 31) = 15 then (fb_gd (¬ (x3 + 1 < 0 ∨ L ≤ (x3 + 1).toNatClampNeg)) 
    (fb_gd (¬ (x3 + 2 < 0 ∨ L ≤ (x3 + 2).toNatClampNeg)) 
    ((fX8_value u a1 (xs (x3 + 1).toNatClampNeg) (xs (x3 + 2).toNatClampNeg)).bind fun r478 => 
    (fb_gd (¬ (x3 + 1 < 0 ∨ L ≤ (x3 + 1).toNatClampNeg)) 
    (fb_gd (¬ (x3 + 2 < 0 ∨ L ≤ (x3 + 2).toNatClampNeg)) 
    ((fX9_value u a2 (xs (x3 + 1).toNatClampNeg) (xs (x3 + 2).toNatClampNeg)).bind fun r492 => 
    (if (lg_cmp r478 r492) = 0 then (K18 (x3 + 3) u)
    else (some 0))))))))
   else (if ((xs x3.toNatClampNeg) &&& 31) = 16 then ((fX8_size u a1).bind fun r502 => 
    ((fX9_size u a2).bind fun r506 => 
    (if r502 = r506 then (K18 (x3 + 3) u)
    else (some 0))))
   else (K18 (x3 + 3) u))))))))))))))))))))
def gXL_law_18 (L : Nat) (xs : Nat → Int32) (a1 : Nat) (a2 : Nat) : Nat → Int32 → fb_M → Option Int32
 | 0 => fun _ _ => none
 | fu + 1 => fun x3 u => bXL_law_18 L xs (gXL_law_18 L xs a1 a2 fu) a1 a2 x3 u
set_option maxRecDepth 100000 in
set_option maxHeartbeats 4000000 in
theorem tbXL_law_18 {g : fb_G}  (a1 : Nat) (a2 : Nat) (x3 : Int32) (u : fb_M) (K18 : Int32 → fb_M → Option Int32) (ha1 : a1 < fb_NT ∧ fb_sh a1 = (8, 12)) (ha2 : a2 < fb_NT ∧ fb_sh a2 = (9, 40)) (hK18 : ∀ (x3 : Int32) (u : fb_M) ,  K18 x3 u = some 1 → fb_V g RXL code 4 ret "law" room_1 (fb_Qlaw g) 133 1870 fb_NT u 18 [(0, .ref (fb_sb g)), (1, .ref (fb_b g + a1)), (2, .ref (fb_b g + a2)), (3, .int x3)] []) (h : bXL_law_18 (fb_sL g) (fb_sx g) K18 a1 a2 x3 u = some 1) : fb_V g RXL code 4 ret "law" room_1 (fb_Qlaw g) 133 1870 fb_NT u 18 [(0, .ref (fb_sb g)), (1, .ref (fb_b g + a1)), (2, .ref (fb_b g + a2)), (3, .int x3)] [] := by
  unfold bXL_law_18 at h
  refine fb_iload_n (pc := 18) dXL_law_18 3 rfl ?_
  refine fb_aload_n (pc := 19) dXL_law_19 0 rfl ?_
  refine fb_slen (pc := 20) dXL_law_20 ?_
  refine fb_iconst (pc := 21) (v := 3) dXL_law_21 fb_ki_3 ?_
  refine fb_isub (pc := 22) dXL_law_22 ?_
  refine fb_icmp_gt (pc := 23) (tgt := 520) h dXL_law_23 (by decide) (fun h => ?_) (fun h => ?_)
  · refine fb_iconst (pc := 520) (v := 1) dXL_law_520 fb_ki_1 ?_
    exact fb_lawret (pc := 521) h dXL_law_521
  · refine fb_aload_n (pc := 26) dXL_law_26 0 rfl ?_
    refine fb_iload_n (pc := 27) dXL_law_27 3 rfl ?_
    refine fb_gdE h (fun i28 h => ?_)
    refine fb_sld (pc := 28) dXL_law_28 i28 ?_
    refine fb_bipush (pc := 29) (v := 31) dXL_law_29 fb_kb_31 ?_
    refine fb_iand (pc := 31) dXL_law_31 ?_
    refine fb_ifE h (fun c32_0 h => ?_) (fun c32_0 h => ?_)
    · refine fb_tabIn (pc := 32) (v := 0) (tgt := 116) c32_0 dXL_law_32 (by decide) (by decide) rfl (by decide) ?_
      refine fb_aload_n (pc := 116) dXL_law_116 1 rfl ?_
      refine fb_aload_n (pc := 117) dXL_law_117 0 rfl ?_
      refine fb_iload_n (pc := 118) dXL_law_118 3 rfl ?_
      refine fb_iconst (pc := 119) (v := 1) dXL_law_119 fb_ki_1 ?_
      refine fb_iadd (pc := 120) dXL_law_120 ?_
      refine fb_gdE h (fun i121 h => ?_)
      refine fb_sld (pc := 121) dXL_law_121 i121 ?_
      refine fb_i2c (pc := 122) dXL_law_122 ?_
      refine fb_bnE h (fun r123 h123 h => ?_)
      refine fb_cV0v (pc := 123) [.int ((((fb_sx g) (x3 + 1).toNatClampNeg).toUInt32 % 65536).toInt32)] dXL_law_123 (mX8_type g u a1 ((((fb_sx g) (x3 + 1).toNatClampNeg).toUInt32 % 65536).toInt32) ha1 h123) ymX8_type yiX8_type ha1.1 ha1.2 ylXL_13 rfl (Nat.le_of_ble_eq_true rfl) ⟨Nat.le_of_ble_eq_true rfl, Nat.le_of_ble_eq_true rfl⟩ ⟨Nat.le_of_ble_eq_true rfl, Nat.le_of_ble_eq_true rfl⟩ ?_
      refine fb_aload_n (pc := 126) dXL_law_126 2 rfl ?_
      refine fb_aload_n (pc := 127) dXL_law_127 0 rfl ?_
      refine fb_iload_n (pc := 128) dXL_law_128 3 rfl ?_
      refine fb_iconst (pc := 129) (v := 1) dXL_law_129 fb_ki_1 ?_
      refine fb_iadd (pc := 130) dXL_law_130 ?_
      refine fb_gdE h (fun i131 h => ?_)
      refine fb_sld (pc := 131) dXL_law_131 i131 ?_
      refine fb_i2c (pc := 132) dXL_law_132 ?_
      refine fb_bnE h (fun r133 h133 h => ?_)
      refine fb_cV0v (pc := 133) [.int ((((fb_sx g) (x3 + 1).toNatClampNeg).toUInt32 % 65536).toInt32)] dXL_law_133 (mX9_type g r123.2 a2 ((((fb_sx g) (x3 + 1).toNatClampNeg).toUInt32 % 65536).toInt32) ha2 h133) ymX9_type yiX9_type ha2.1 ha2.2 ylXL_17 rfl (Nat.le_of_ble_eq_true rfl) ⟨Nat.le_of_ble_eq_true rfl, Nat.le_of_ble_eq_true rfl⟩ ⟨Nat.le_of_ble_eq_true rfl, Nat.le_of_ble_eq_true rfl⟩ ?_
      refine fb_icmp_eq (pc := 136) (tgt := 514) h dXL_law_136 (by decide) (fun h => ?_) (fun h => ?_)
      · refine fb_iinc (pc := 514) (v := 3) (lv' := [(3, .int (x3 + 3)), (0, .ref (fb_sb g)), (1, .ref (fb_b g + a1)), (2, .ref (fb_b g + a2))]) dXL_law_514 3 rfl fb_ki_3 (by decide) rfl ?_
        refine fb_goto (pc := 517) (tgt := 18) dXL_law_517 (by decide) ?_
        exact fb_sub [1, 2, 3, 0] rfl (hK18 (x3 + 3) r133.2 h)
      · refine fb_iconst (pc := 139) (v := 0) dXL_law_139 fb_ki_0 ?_
        exact fb_lawret (pc := 140) h dXL_law_140
    refine fb_ifE h (fun c32_1 h => ?_) (fun c32_1 h => ?_)
    · refine fb_tabIn (pc := 32) (v := 1) (tgt := 141) c32_1 dXL_law_32 (by decide) (by decide) rfl (by decide) ?_
      refine fb_aload_n (pc := 141) dXL_law_141 1 rfl ?_
      refine fb_bnE h (fun r142 h142 h => ?_)
      refine fb_cV0n (pc := 142) [] dXL_law_142 (mX8_scrap g u a1 ha1 h142) ymX8_scrap yiX8_scrap ha1.1 ha1.2 ylXL_18 rfl (Nat.le_of_ble_eq_true rfl) ⟨Nat.le_of_ble_eq_true rfl, Nat.le_of_ble_eq_true rfl⟩ ⟨Nat.le_of_ble_eq_true rfl, Nat.le_of_ble_eq_true rfl⟩ ?_
      refine fb_aload_n (pc := 145) dXL_law_145 2 rfl ?_
      refine fb_bnE h (fun r146 h146 h => ?_)
      refine fb_cV0n (pc := 146) [] dXL_law_146 (mX9_scrap g r142 a2 ha2 h146) ymX9_scrap yiX9_scrap ha2.1 ha2.2 ylXL_21 rfl (Nat.le_of_ble_eq_true rfl) ⟨Nat.le_of_ble_eq_true rfl, Nat.le_of_ble_eq_true rfl⟩ ⟨Nat.le_of_ble_eq_true rfl, Nat.le_of_ble_eq_true rfl⟩ ?_
      refine fb_goto (pc := 149) (tgt := 514) dXL_law_149 (by decide) ?_
      refine fb_iinc (pc := 514) (v := 3) (lv' := [(3, .int (x3 + 3)), (0, .ref (fb_sb g)), (1, .ref (fb_b g + a1)), (2, .ref (fb_b g + a2))]) dXL_law_514 3 rfl fb_ki_3 (by decide) rfl ?_
      refine fb_goto (pc := 517) (tgt := 18) dXL_law_517 (by decide) ?_
      exact fb_sub [1, 2, 3, 0] rfl (hK18 (x3 + 3) r146 h)
    refine fb_ifE h (fun c32_2 h => ?_) (fun c32_2 h => ?_)
    · refine fb_tabIn (pc := 32) (v := 2) (tgt := 152) c32_2 dXL_law_32 (by decide) (by decide) rfl (by decide) ?_
      refine fb_aload_n (pc := 152) dXL_law_152 1 rfl ?_
      refine fb_bnE h (fun r153 h153 h => ?_)
      refine fb_cV0v (pc := 153) [] dXL_law_153 (mX8_declare g u a1 ha1 h153) ymX8_declare yiX8_declare ha1.1 ha1.2 ylXL_22 rfl (Nat.le_of_ble_eq_true rfl) ⟨Nat.le_of_ble_eq_true rfl, Nat.le_of_ble_eq_true rfl⟩ ⟨Nat.le_of_ble_eq_true rfl, Nat.le_of_ble_eq_true rfl⟩ ?_
      refine fb_aload_n (pc := 156) dXL_law_156 2 rfl ?_
      refine fb_bnE h (fun r157 h157 h => ?_)
      refine fb_cV0v (pc := 157) [] dXL_law_157 (mX9_declare g r153.2 a2 ha2 h157) ymX9_declare yiX9_declare ha2.1 ha2.2 ylXL_26 rfl (Nat.le_of_ble_eq_true rfl) ⟨Nat.le_of_ble_eq_true rfl, Nat.le_of_ble_eq_true rfl⟩ ⟨Nat.le_of_ble_eq_true rfl, Nat.le_of_ble_eq_true rfl⟩ ?_
      refine fb_icmp_eq (pc := 160) (tgt := 514) h dXL_law_160 (by decide) (fun h => ?_) (fun h => ?_)
      · refine fb_iinc (pc := 514) (v := 3) (lv' := [(3, .int (x3 + 3)), (0, .ref (fb_sb g)), (1, .ref (fb_b g + a1)), (2, .ref (fb_b g + a2))]) dXL_law_514 3 rfl fb_ki_3 (by decide) rfl ?_
        refine fb_goto (pc := 517) (tgt := 18) dXL_law_517 (by decide) ?_
        exact fb_sub [1, 2, 3, 0] rfl (hK18 (x3 + 3) r157.2 h)
      · refine fb_iconst (pc := 163) (v := 0) dXL_law_163 fb_ki_0 ?_
        exact fb_lawret (pc := 164) h dXL_law_164
    refine fb_ifE h (fun c32_3 h => ?_) (fun c32_3 h => ?_)
    · refine fb_tabIn (pc := 32) (v := 3) (tgt := 165) c32_3 dXL_law_32 (by decide) (by decide) rfl (by decide) ?_
      refine fb_aload_n (pc := 165) dXL_law_165 1 rfl ?_
      refine fb_bnE h (fun r166 h166 h => ?_)
      refine fb_cV0v (pc := 166) [] dXL_law_166 (mX8_names g u a1 ha1 h166) ymX8_names yiX8_names ha1.1 ha1.2 ylXL_27 rfl (Nat.le_of_ble_eq_true rfl) ⟨Nat.le_of_ble_eq_true rfl, Nat.le_of_ble_eq_true rfl⟩ ⟨Nat.le_of_ble_eq_true rfl, Nat.le_of_ble_eq_true rfl⟩ ?_
      refine fb_aload_n (pc := 169) dXL_law_169 2 rfl ?_
      refine fb_bnE h (fun r170 h170 h => ?_)
      refine fb_cV0v (pc := 170) [] dXL_law_170 (mX9_names g u a2 ha2 h170) ymX9_names yiX9_names ha2.1 ha2.2 ylXL_30 rfl (Nat.le_of_ble_eq_true rfl) ⟨Nat.le_of_ble_eq_true rfl, Nat.le_of_ble_eq_true rfl⟩ ⟨Nat.le_of_ble_eq_true rfl, Nat.le_of_ble_eq_true rfl⟩ ?_
      refine fb_icmp_eq (pc := 173) (tgt := 514) h dXL_law_173 (by decide) (fun h => ?_) (fun h => ?_)
      · refine fb_iinc (pc := 514) (v := 3) (lv' := [(3, .int (x3 + 3)), (0, .ref (fb_sb g)), (1, .ref (fb_b g + a1)), (2, .ref (fb_b g + a2))]) dXL_law_514 3 rfl fb_ki_3 (by decide) rfl ?_
        refine fb_goto (pc := 517) (tgt := 18) dXL_law_517 (by decide) ?_
        exact fb_sub [1, 2, 3, 0] rfl (hK18 (x3 + 3) u h)
      · refine fb_iconst (pc := 176) (v := 0) dXL_law_176 fb_ki_0 ?_
        exact fb_lawret (pc := 177) h dXL_law_177
    refine fb_ifE h (fun c32_4 h => ?_) (fun c32_4 h => ?_)
    · refine fb_tabIn (pc := 32) (v := 4) (tgt := 178) c32_4 dXL_law_32 (by decide) (by decide) rfl (by decide) ?_
      refine fb_aload_n (pc := 178) dXL_law_178 1 rfl ?_
      refine fb_aload_n (pc := 179) dXL_law_179 0 rfl ?_
      refine fb_iload_n (pc := 180) dXL_law_180 3 rfl ?_
      refine fb_iconst (pc := 181) (v := 1) dXL_law_181 fb_ki_1 ?_
      refine fb_iadd (pc := 182) dXL_law_182 ?_
      refine fb_gdE h (fun i183 h => ?_)
      refine fb_sld (pc := 183) dXL_law_183 i183 ?_
      refine fb_if_eq (pc := 184) (tgt := 191) h dXL_law_184 (by decide) (fun h => ?_) (fun h => ?_)
      · refine fb_iconst (pc := 191) (v := 0) dXL_law_191 fb_ki_0 ?_
        exact fb_sub [0, 1, 2, 3] rfl (tjXL_law_192 a1 a2 x3 a1 0 u K18 ha1 ha2 ha1 hK18 h)
      · refine fb_iconst (pc := 187) (v := 1) dXL_law_187 fb_ki_1 ?_
        refine fb_goto (pc := 188) (tgt := 192) dXL_law_188 (by decide) ?_
        exact fb_sub [0, 1, 2, 3] rfl (tjXL_law_192 a1 a2 x3 a1 1 u K18 ha1 ha2 ha1 hK18 h)
    refine fb_ifE h (fun c32_5 h => ?_) (fun c32_5 h => ?_)
    · refine fb_tabIn (pc := 32) (v := 5) (tgt := 217) c32_5 dXL_law_32 (by decide) (by decide) rfl (by decide) ?_
      refine fb_aload_n (pc := 217) dXL_law_217 1 rfl ?_
      refine fb_aload_n (pc := 218) dXL_law_218 0 rfl ?_
      refine fb_iload_n (pc := 219) dXL_law_219 3 rfl ?_
      refine fb_iconst (pc := 220) (v := 1) dXL_law_220 fb_ki_1 ?_
      refine fb_iadd (pc := 221) dXL_law_221 ?_
      refine fb_gdE h (fun i222 h => ?_)
      refine fb_sld (pc := 222) dXL_law_222 i222 ?_
      refine fb_aload_n (pc := 223) dXL_law_223 0 rfl ?_
      refine fb_iload_n (pc := 224) dXL_law_224 3 rfl ?_
      refine fb_iconst (pc := 225) (v := 2) dXL_law_225 fb_ki_2 ?_
      refine fb_iadd (pc := 226) dXL_law_226 ?_
      refine fb_gdE h (fun i227 h => ?_)
      refine fb_sld (pc := 227) dXL_law_227 i227 ?_
      refine fb_bnE h (fun r228 h228 h => ?_)
      refine fb_cV0v (pc := 228) [.int ((fb_sx g) (x3 + 1).toNatClampNeg), .int ((fb_sx g) (x3 + 2).toNatClampNeg)] dXL_law_228 (mX8_shape g u a1 ((fb_sx g) (x3 + 1).toNatClampNeg) ((fb_sx g) (x3 + 2).toNatClampNeg) ha1 h228) ymX8_shape yiX8_shape ha1.1 ha1.2 ylXL_36 rfl (Nat.le_of_ble_eq_true rfl) ⟨Nat.le_of_ble_eq_true rfl, Nat.le_of_ble_eq_true rfl⟩ ⟨Nat.le_of_ble_eq_true rfl, Nat.le_of_ble_eq_true rfl⟩ ?_
      refine fb_aload_n (pc := 231) dXL_law_231 2 rfl ?_
      refine fb_aload_n (pc := 232) dXL_law_232 0 rfl ?_
      refine fb_iload_n (pc := 233) dXL_law_233 3 rfl ?_
      refine fb_iconst (pc := 234) (v := 1) dXL_law_234 fb_ki_1 ?_
      refine fb_iadd (pc := 235) dXL_law_235 ?_
      refine fb_gdE h (fun i236 h => ?_)
      refine fb_sld (pc := 236) dXL_law_236 i236 ?_
      refine fb_aload_n (pc := 237) dXL_law_237 0 rfl ?_
      refine fb_iload_n (pc := 238) dXL_law_238 3 rfl ?_
      refine fb_iconst (pc := 239) (v := 2) dXL_law_239 fb_ki_2 ?_
      refine fb_iadd (pc := 240) dXL_law_240 ?_
      refine fb_gdE h (fun i241 h => ?_)
      refine fb_sld (pc := 241) dXL_law_241 i241 ?_
      refine fb_bnE h (fun r242 h242 h => ?_)
      refine fb_cV0v (pc := 242) [.int ((fb_sx g) (x3 + 1).toNatClampNeg), .int ((fb_sx g) (x3 + 2).toNatClampNeg)] dXL_law_242 (mX9_shape g u a2 ((fb_sx g) (x3 + 1).toNatClampNeg) ((fb_sx g) (x3 + 2).toNatClampNeg) ha2 h242) ymX9_shape yiX9_shape ha2.1 ha2.2 ylXL_40 rfl (Nat.le_of_ble_eq_true rfl) ⟨Nat.le_of_ble_eq_true rfl, Nat.le_of_ble_eq_true rfl⟩ ⟨Nat.le_of_ble_eq_true rfl, Nat.le_of_ble_eq_true rfl⟩ ?_
      refine fb_icmp_eq (pc := 245) (tgt := 514) h dXL_law_245 (by decide) (fun h => ?_) (fun h => ?_)
      · refine fb_iinc (pc := 514) (v := 3) (lv' := [(3, .int (x3 + 3)), (0, .ref (fb_sb g)), (1, .ref (fb_b g + a1)), (2, .ref (fb_b g + a2))]) dXL_law_514 3 rfl fb_ki_3 (by decide) rfl ?_
        refine fb_goto (pc := 517) (tgt := 18) dXL_law_517 (by decide) ?_
        exact fb_sub [1, 2, 3, 0] rfl (hK18 (x3 + 3) u h)
      · refine fb_iconst (pc := 248) (v := 0) dXL_law_248 fb_ki_0 ?_
        exact fb_lawret (pc := 249) h dXL_law_249
    refine fb_ifE h (fun c32_6 h => ?_) (fun c32_6 h => ?_)
    · refine fb_tabIn (pc := 32) (v := 6) (tgt := 250) c32_6 dXL_law_32 (by decide) (by decide) rfl (by decide) ?_
      refine fb_aload_n (pc := 250) dXL_law_250 1 rfl ?_
      refine fb_aload_n (pc := 251) dXL_law_251 0 rfl ?_
      refine fb_iload_n (pc := 252) dXL_law_252 3 rfl ?_
      refine fb_iconst (pc := 253) (v := 1) dXL_law_253 fb_ki_1 ?_
      refine fb_iadd (pc := 254) dXL_law_254 ?_
      refine fb_gdE h (fun i255 h => ?_)
      refine fb_sld (pc := 255) dXL_law_255 i255 ?_
      refine fb_aload_n (pc := 256) dXL_law_256 0 rfl ?_
      refine fb_iload_n (pc := 257) dXL_law_257 3 rfl ?_
      refine fb_iconst (pc := 258) (v := 2) dXL_law_258 fb_ki_2 ?_
      refine fb_iadd (pc := 259) dXL_law_259 ?_
      refine fb_gdE h (fun i260 h => ?_)
      refine fb_sld (pc := 260) dXL_law_260 i260 ?_
      refine fb_bnE h (fun r261 h261 h => ?_)
      refine fb_cV0v (pc := 261) [.int ((fb_sx g) (x3 + 1).toNatClampNeg), .int ((fb_sx g) (x3 + 2).toNatClampNeg)] dXL_law_261 (mX8_part g u a1 ((fb_sx g) (x3 + 1).toNatClampNeg) ((fb_sx g) (x3 + 2).toNatClampNeg) ha1 h261) ymX8_part yiX8_part ha1.1 ha1.2 ylXL_41 rfl (Nat.le_of_ble_eq_true rfl) ⟨Nat.le_of_ble_eq_true rfl, Nat.le_of_ble_eq_true rfl⟩ ⟨Nat.le_of_ble_eq_true rfl, Nat.le_of_ble_eq_true rfl⟩ ?_
      refine fb_aload_n (pc := 264) dXL_law_264 2 rfl ?_
      refine fb_aload_n (pc := 265) dXL_law_265 0 rfl ?_
      refine fb_iload_n (pc := 266) dXL_law_266 3 rfl ?_
      refine fb_iconst (pc := 267) (v := 1) dXL_law_267 fb_ki_1 ?_
      refine fb_iadd (pc := 268) dXL_law_268 ?_
      refine fb_gdE h (fun i269 h => ?_)
      refine fb_sld (pc := 269) dXL_law_269 i269 ?_
      refine fb_aload_n (pc := 270) dXL_law_270 0 rfl ?_
      refine fb_iload_n (pc := 271) dXL_law_271 3 rfl ?_
      refine fb_iconst (pc := 272) (v := 2) dXL_law_272 fb_ki_2 ?_
      refine fb_iadd (pc := 273) dXL_law_273 ?_
      refine fb_gdE h (fun i274 h => ?_)
      refine fb_sld (pc := 274) dXL_law_274 i274 ?_
      refine fb_bnE h (fun r275 h275 h => ?_)
      refine fb_cV0v (pc := 275) [.int ((fb_sx g) (x3 + 1).toNatClampNeg), .int ((fb_sx g) (x3 + 2).toNatClampNeg)] dXL_law_275 (mX9_part g u a2 ((fb_sx g) (x3 + 1).toNatClampNeg) ((fb_sx g) (x3 + 2).toNatClampNeg) ha2 h275) ymX9_part yiX9_part ha2.1 ha2.2 ylXL_44 rfl (Nat.le_of_ble_eq_true rfl) ⟨Nat.le_of_ble_eq_true rfl, Nat.le_of_ble_eq_true rfl⟩ ⟨Nat.le_of_ble_eq_true rfl, Nat.le_of_ble_eq_true rfl⟩ ?_
      refine fb_icmp_eq (pc := 278) (tgt := 514) h dXL_law_278 (by decide) (fun h => ?_) (fun h => ?_)
      · refine fb_iinc (pc := 514) (v := 3) (lv' := [(3, .int (x3 + 3)), (0, .ref (fb_sb g)), (1, .ref (fb_b g + a1)), (2, .ref (fb_b g + a2))]) dXL_law_514 3 rfl fb_ki_3 (by decide) rfl ?_
        refine fb_goto (pc := 517) (tgt := 18) dXL_law_517 (by decide) ?_
        exact fb_sub [1, 2, 3, 0] rfl (hK18 (x3 + 3) u h)
      · refine fb_iconst (pc := 281) (v := 0) dXL_law_281 fb_ki_0 ?_
        exact fb_lawret (pc := 282) h dXL_law_282
    refine fb_ifE h (fun c32_7 h => ?_) (fun c32_7 h => ?_)
    · refine fb_tabIn (pc := 32) (v := 7) (tgt := 283) c32_7 dXL_law_32 (by decide) (by decide) rfl (by decide) ?_
      refine fb_aload_n (pc := 283) dXL_law_283 1 rfl ?_
      refine fb_aload_n (pc := 284) dXL_law_284 0 rfl ?_
      refine fb_iload_n (pc := 285) dXL_law_285 3 rfl ?_
      refine fb_iconst (pc := 286) (v := 1) dXL_law_286 fb_ki_1 ?_
      refine fb_iadd (pc := 287) dXL_law_287 ?_
      refine fb_gdE h (fun i288 h => ?_)
      refine fb_sld (pc := 288) dXL_law_288 i288 ?_
      refine fb_aload_n (pc := 289) dXL_law_289 0 rfl ?_
      refine fb_iload_n (pc := 290) dXL_law_290 3 rfl ?_
      refine fb_iconst (pc := 291) (v := 2) dXL_law_291 fb_ki_2 ?_
      refine fb_iadd (pc := 292) dXL_law_292 ?_
      refine fb_gdE h (fun i293 h => ?_)
      refine fb_sld (pc := 293) dXL_law_293 i293 ?_
      refine fb_bnE h (fun r294 h294 h => ?_)
      refine fb_cV0v (pc := 294) [.int ((fb_sx g) (x3 + 1).toNatClampNeg), .int ((fb_sx g) (x3 + 2).toNatClampNeg)] dXL_law_294 (mX8_fill g u a1 ((fb_sx g) (x3 + 1).toNatClampNeg) ((fb_sx g) (x3 + 2).toNatClampNeg) ha1 h294) ymX8_fill yiX8_fill ha1.1 ha1.2 ylXL_45 rfl (Nat.le_of_ble_eq_true rfl) ⟨Nat.le_of_ble_eq_true rfl, Nat.le_of_ble_eq_true rfl⟩ ⟨Nat.le_of_ble_eq_true rfl, Nat.le_of_ble_eq_true rfl⟩ ?_
      refine fb_aload_n (pc := 297) dXL_law_297 2 rfl ?_
      refine fb_aload_n (pc := 298) dXL_law_298 0 rfl ?_
      refine fb_iload_n (pc := 299) dXL_law_299 3 rfl ?_
      refine fb_iconst (pc := 300) (v := 1) dXL_law_300 fb_ki_1 ?_
      refine fb_iadd (pc := 301) dXL_law_301 ?_
      refine fb_gdE h (fun i302 h => ?_)
      refine fb_sld (pc := 302) dXL_law_302 i302 ?_
      refine fb_aload_n (pc := 303) dXL_law_303 0 rfl ?_
      refine fb_iload_n (pc := 304) dXL_law_304 3 rfl ?_
      refine fb_iconst (pc := 305) (v := 2) dXL_law_305 fb_ki_2 ?_
      refine fb_iadd (pc := 306) dXL_law_306 ?_
      refine fb_gdE h (fun i307 h => ?_)
      refine fb_sld (pc := 307) dXL_law_307 i307 ?_
      refine fb_bnE h (fun r308 h308 h => ?_)
      refine fb_cV0v (pc := 308) [.int ((fb_sx g) (x3 + 1).toNatClampNeg), .int ((fb_sx g) (x3 + 2).toNatClampNeg)] dXL_law_308 (mX9_fill g r294.2 a2 ((fb_sx g) (x3 + 1).toNatClampNeg) ((fb_sx g) (x3 + 2).toNatClampNeg) ha2 h308) ymX9_fill yiX9_fill ha2.1 ha2.2 ylXL_49 rfl (Nat.le_of_ble_eq_true rfl) ⟨Nat.le_of_ble_eq_true rfl, Nat.le_of_ble_eq_true rfl⟩ ⟨Nat.le_of_ble_eq_true rfl, Nat.le_of_ble_eq_true rfl⟩ ?_
      refine fb_icmp_eq (pc := 311) (tgt := 514) h dXL_law_311 (by decide) (fun h => ?_) (fun h => ?_)
      · refine fb_iinc (pc := 514) (v := 3) (lv' := [(3, .int (x3 + 3)), (0, .ref (fb_sb g)), (1, .ref (fb_b g + a1)), (2, .ref (fb_b g + a2))]) dXL_law_514 3 rfl fb_ki_3 (by decide) rfl ?_
        refine fb_goto (pc := 517) (tgt := 18) dXL_law_517 (by decide) ?_
        exact fb_sub [1, 2, 3, 0] rfl (hK18 (x3 + 3) r308.2 h)
      · refine fb_iconst (pc := 314) (v := 0) dXL_law_314 fb_ki_0 ?_
        exact fb_lawret (pc := 315) h dXL_law_315
    refine fb_ifE h (fun c32_8 h => ?_) (fun c32_8 h => ?_)
    · refine fb_tabIn (pc := 32) (v := 8) (tgt := 316) c32_8 dXL_law_32 (by decide) (by decide) rfl (by decide) ?_
      refine fb_aload_n (pc := 316) dXL_law_316 1 rfl ?_
      refine fb_aload_n (pc := 317) dXL_law_317 0 rfl ?_
      refine fb_iload_n (pc := 318) dXL_law_318 3 rfl ?_
      refine fb_iconst (pc := 319) (v := 1) dXL_law_319 fb_ki_1 ?_
      refine fb_iadd (pc := 320) dXL_law_320 ?_
      refine fb_gdE h (fun i321 h => ?_)
      refine fb_sld (pc := 321) dXL_law_321 i321 ?_
      refine fb_bnE h (fun r322 h322 h => ?_)
      refine fb_cV0v (pc := 322) [.int ((fb_sx g) (x3 + 1).toNatClampNeg)] dXL_law_322 (mX8_blank g u a1 ((fb_sx g) (x3 + 1).toNatClampNeg) ha1 h322) ymX8_blank yiX8_blank ha1.1 ha1.2 ylXL_50 rfl (Nat.le_of_ble_eq_true rfl) ⟨Nat.le_of_ble_eq_true rfl, Nat.le_of_ble_eq_true rfl⟩ ⟨Nat.le_of_ble_eq_true rfl, Nat.le_of_ble_eq_true rfl⟩ ?_
      refine fb_aload_n (pc := 325) dXL_law_325 2 rfl ?_
      refine fb_aload_n (pc := 326) dXL_law_326 0 rfl ?_
      refine fb_iload_n (pc := 327) dXL_law_327 3 rfl ?_
      refine fb_iconst (pc := 328) (v := 1) dXL_law_328 fb_ki_1 ?_
      refine fb_iadd (pc := 329) dXL_law_329 ?_
      refine fb_gdE h (fun i330 h => ?_)
      refine fb_sld (pc := 330) dXL_law_330 i330 ?_
      refine fb_bnE h (fun r331 h331 h => ?_)
      refine fb_cV0v (pc := 331) [.int ((fb_sx g) (x3 + 1).toNatClampNeg)] dXL_law_331 (mX9_blank g r322.2 a2 ((fb_sx g) (x3 + 1).toNatClampNeg) ha2 h331) ymX9_blank yiX9_blank ha2.1 ha2.2 ylXL_54 rfl (Nat.le_of_ble_eq_true rfl) ⟨Nat.le_of_ble_eq_true rfl, Nat.le_of_ble_eq_true rfl⟩ ⟨Nat.le_of_ble_eq_true rfl, Nat.le_of_ble_eq_true rfl⟩ ?_
      refine fb_icmp_eq (pc := 334) (tgt := 514) h dXL_law_334 (by decide) (fun h => ?_) (fun h => ?_)
      · refine fb_iinc (pc := 514) (v := 3) (lv' := [(3, .int (x3 + 3)), (0, .ref (fb_sb g)), (1, .ref (fb_b g + a1)), (2, .ref (fb_b g + a2))]) dXL_law_514 3 rfl fb_ki_3 (by decide) rfl ?_
        refine fb_goto (pc := 517) (tgt := 18) dXL_law_517 (by decide) ?_
        exact fb_sub [1, 2, 3, 0] rfl (hK18 (x3 + 3) r331.2 h)
      · refine fb_iconst (pc := 337) (v := 0) dXL_law_337 fb_ki_0 ?_
        exact fb_lawret (pc := 338) h dXL_law_338
    refine fb_ifE h (fun c32_9 h => ?_) (fun c32_9 h => ?_)
    · refine fb_tabIn (pc := 32) (v := 9) (tgt := 339) c32_9 dXL_law_32 (by decide) (by decide) rfl (by decide) ?_
      refine fb_aload_n (pc := 339) dXL_law_339 1 rfl ?_
      refine fb_aload_n (pc := 340) dXL_law_340 0 rfl ?_
      refine fb_iload_n (pc := 341) dXL_law_341 3 rfl ?_
      refine fb_iconst (pc := 342) (v := 1) dXL_law_342 fb_ki_1 ?_
      refine fb_iadd (pc := 343) dXL_law_343 ?_
      refine fb_gdE h (fun i344 h => ?_)
      refine fb_sld (pc := 344) dXL_law_344 i344 ?_
      refine fb_bnE h (fun r345 h345 h => ?_)
      refine fb_cV0v (pc := 345) [.int ((fb_sx g) (x3 + 1).toNatClampNeg)] dXL_law_345 (mX8_save g u a1 ((fb_sx g) (x3 + 1).toNatClampNeg) ha1 h345) ymX8_save yiX8_save ha1.1 ha1.2 ylXL_55 rfl (Nat.le_of_ble_eq_true rfl) ⟨Nat.le_of_ble_eq_true rfl, Nat.le_of_ble_eq_true rfl⟩ ⟨Nat.le_of_ble_eq_true rfl, Nat.le_of_ble_eq_true rfl⟩ ?_
      refine fb_aload_n (pc := 348) dXL_law_348 2 rfl ?_
      refine fb_aload_n (pc := 349) dXL_law_349 0 rfl ?_
      refine fb_iload_n (pc := 350) dXL_law_350 3 rfl ?_
      refine fb_iconst (pc := 351) (v := 1) dXL_law_351 fb_ki_1 ?_
      refine fb_iadd (pc := 352) dXL_law_352 ?_
      refine fb_gdE h (fun i353 h => ?_)
      refine fb_sld (pc := 353) dXL_law_353 i353 ?_
      refine fb_bnE h (fun r354 h354 h => ?_)
      refine fb_cV0v (pc := 354) [.int ((fb_sx g) (x3 + 1).toNatClampNeg)] dXL_law_354 (mX9_save g r345.2 a2 ((fb_sx g) (x3 + 1).toNatClampNeg) ha2 h354) ymX9_save yiX9_save ha2.1 ha2.2 ylXL_58 rfl (Nat.le_of_ble_eq_true rfl) ⟨Nat.le_of_ble_eq_true rfl, Nat.le_of_ble_eq_true rfl⟩ ⟨Nat.le_of_ble_eq_true rfl, Nat.le_of_ble_eq_true rfl⟩ ?_
      refine fb_icmp_eq (pc := 357) (tgt := 514) h dXL_law_357 (by decide) (fun h => ?_) (fun h => ?_)
      · refine fb_iinc (pc := 514) (v := 3) (lv' := [(3, .int (x3 + 3)), (0, .ref (fb_sb g)), (1, .ref (fb_b g + a1)), (2, .ref (fb_b g + a2))]) dXL_law_514 3 rfl fb_ki_3 (by decide) rfl ?_
        refine fb_goto (pc := 517) (tgt := 18) dXL_law_517 (by decide) ?_
        exact fb_sub [1, 2, 3, 0] rfl (hK18 (x3 + 3) r354.2 h)
      · refine fb_iconst (pc := 360) (v := 0) dXL_law_360 fb_ki_0 ?_
        exact fb_lawret (pc := 361) h dXL_law_361
    refine fb_ifE h (fun c32_10 h => ?_) (fun c32_10 h => ?_)
    · refine fb_tabIn (pc := 32) (v := 10) (tgt := 362) c32_10 dXL_law_32 (by decide) (by decide) rfl (by decide) ?_
      refine fb_aload_n (pc := 362) dXL_law_362 1 rfl ?_
      refine fb_aload_n (pc := 363) dXL_law_363 0 rfl ?_
      refine fb_iload_n (pc := 364) dXL_law_364 3 rfl ?_
      refine fb_iconst (pc := 365) (v := 1) dXL_law_365 fb_ki_1 ?_
      refine fb_iadd (pc := 366) dXL_law_366 ?_
      refine fb_gdE h (fun i367 h => ?_)
      refine fb_sld (pc := 367) dXL_law_367 i367 ?_
      refine fb_bnE h (fun r368 h368 h => ?_)
      refine fb_cV0v (pc := 368) [.int ((fb_sx g) (x3 + 1).toNatClampNeg)] dXL_law_368 (mX8_remove g u a1 ((fb_sx g) (x3 + 1).toNatClampNeg) ha1 h368) ymX8_remove yiX8_remove ha1.1 ha1.2 ylXL_59 rfl (Nat.le_of_ble_eq_true rfl) ⟨Nat.le_of_ble_eq_true rfl, Nat.le_of_ble_eq_true rfl⟩ ⟨Nat.le_of_ble_eq_true rfl, Nat.le_of_ble_eq_true rfl⟩ ?_
      refine fb_aload_n (pc := 371) dXL_law_371 2 rfl ?_
      refine fb_aload_n (pc := 372) dXL_law_372 0 rfl ?_
      refine fb_iload_n (pc := 373) dXL_law_373 3 rfl ?_
      refine fb_iconst (pc := 374) (v := 1) dXL_law_374 fb_ki_1 ?_
      refine fb_iadd (pc := 375) dXL_law_375 ?_
      refine fb_gdE h (fun i376 h => ?_)
      refine fb_sld (pc := 376) dXL_law_376 i376 ?_
      refine fb_bnE h (fun r377 h377 h => ?_)
      refine fb_cV0v (pc := 377) [.int ((fb_sx g) (x3 + 1).toNatClampNeg)] dXL_law_377 (mX9_remove g r368.2 a2 ((fb_sx g) (x3 + 1).toNatClampNeg) ha2 h377) ymX9_remove yiX9_remove ha2.1 ha2.2 ylXL_62 rfl (Nat.le_of_ble_eq_true rfl) ⟨Nat.le_of_ble_eq_true rfl, Nat.le_of_ble_eq_true rfl⟩ ⟨Nat.le_of_ble_eq_true rfl, Nat.le_of_ble_eq_true rfl⟩ ?_
      refine fb_icmp_eq (pc := 380) (tgt := 514) h dXL_law_380 (by decide) (fun h => ?_) (fun h => ?_)
      · refine fb_iinc (pc := 514) (v := 3) (lv' := [(3, .int (x3 + 3)), (0, .ref (fb_sb g)), (1, .ref (fb_b g + a1)), (2, .ref (fb_b g + a2))]) dXL_law_514 3 rfl fb_ki_3 (by decide) rfl ?_
        refine fb_goto (pc := 517) (tgt := 18) dXL_law_517 (by decide) ?_
        exact fb_sub [1, 2, 3, 0] rfl (hK18 (x3 + 3) r377.2 h)
      · refine fb_iconst (pc := 383) (v := 0) dXL_law_383 fb_ki_0 ?_
        exact fb_lawret (pc := 384) h dXL_law_384
    refine fb_ifE h (fun c32_11 h => ?_) (fun c32_11 h => ?_)
    · refine fb_tabIn (pc := 32) (v := 11) (tgt := 385) c32_11 dXL_law_32 (by decide) (by decide) rfl (by decide) ?_
      refine fb_aload_n (pc := 385) dXL_law_385 1 rfl ?_
      refine fb_aload_n (pc := 386) dXL_law_386 0 rfl ?_
      refine fb_iload_n (pc := 387) dXL_law_387 3 rfl ?_
      refine fb_iconst (pc := 388) (v := 1) dXL_law_388 fb_ki_1 ?_
      refine fb_iadd (pc := 389) dXL_law_389 ?_
      refine fb_gdE h (fun i390 h => ?_)
      refine fb_sld (pc := 390) dXL_law_390 i390 ?_
      refine fb_bnE h (fun r391 h391 h => ?_)
      refine fb_cV0v (pc := 391) [.int ((fb_sx g) (x3 + 1).toNatClampNeg)] dXL_law_391 (mX8_arg g u a1 ((fb_sx g) (x3 + 1).toNatClampNeg) ha1 h391) ymX8_arg yiX8_arg ha1.1 ha1.2 ylXL_63 rfl (Nat.le_of_ble_eq_true rfl) ⟨Nat.le_of_ble_eq_true rfl, Nat.le_of_ble_eq_true rfl⟩ ⟨Nat.le_of_ble_eq_true rfl, Nat.le_of_ble_eq_true rfl⟩ ?_
      refine fb_aload_n (pc := 394) dXL_law_394 2 rfl ?_
      refine fb_aload_n (pc := 395) dXL_law_395 0 rfl ?_
      refine fb_iload_n (pc := 396) dXL_law_396 3 rfl ?_
      refine fb_iconst (pc := 397) (v := 1) dXL_law_397 fb_ki_1 ?_
      refine fb_iadd (pc := 398) dXL_law_398 ?_
      refine fb_gdE h (fun i399 h => ?_)
      refine fb_sld (pc := 399) dXL_law_399 i399 ?_
      refine fb_bnE h (fun r400 h400 h => ?_)
      refine fb_cV0v (pc := 400) [.int ((fb_sx g) (x3 + 1).toNatClampNeg)] dXL_law_400 (mX9_arg g r391.2 a2 ((fb_sx g) (x3 + 1).toNatClampNeg) ha2 h400) ymX9_arg yiX9_arg ha2.1 ha2.2 ylXL_66 rfl (Nat.le_of_ble_eq_true rfl) ⟨Nat.le_of_ble_eq_true rfl, Nat.le_of_ble_eq_true rfl⟩ ⟨Nat.le_of_ble_eq_true rfl, Nat.le_of_ble_eq_true rfl⟩ ?_
      refine fb_icmp_eq (pc := 403) (tgt := 514) h dXL_law_403 (by decide) (fun h => ?_) (fun h => ?_)
      · refine fb_iinc (pc := 514) (v := 3) (lv' := [(3, .int (x3 + 3)), (0, .ref (fb_sb g)), (1, .ref (fb_b g + a1)), (2, .ref (fb_b g + a2))]) dXL_law_514 3 rfl fb_ki_3 (by decide) rfl ?_
        refine fb_goto (pc := 517) (tgt := 18) dXL_law_517 (by decide) ?_
        exact fb_sub [1, 2, 3, 0] rfl (hK18 (x3 + 3) r400.2 h)
      · refine fb_iconst (pc := 406) (v := 0) dXL_law_406 fb_ki_0 ?_
        exact fb_lawret (pc := 407) h dXL_law_407
    refine fb_ifE h (fun c32_12 h => ?_) (fun c32_12 h => ?_)
    · refine fb_tabIn (pc := 32) (v := 12) (tgt := 408) c32_12 dXL_law_32 (by decide) (by decide) rfl (by decide) ?_
      refine fb_aload_n (pc := 408) dXL_law_408 1 rfl ?_
      refine fb_aload_n (pc := 409) dXL_law_409 0 rfl ?_
      refine fb_iload_n (pc := 410) dXL_law_410 3 rfl ?_
      refine fb_iconst (pc := 411) (v := 1) dXL_law_411 fb_ki_1 ?_
      refine fb_iadd (pc := 412) dXL_law_412 ?_
      refine fb_gdE h (fun i413 h => ?_)
      refine fb_sld (pc := 413) dXL_law_413 i413 ?_
      refine fb_bnE h (fun r414 h414 h => ?_)
      refine fb_cV0v (pc := 414) [.int ((fb_sx g) (x3 + 1).toNatClampNeg)] dXL_law_414 (mX8_run g u a1 ((fb_sx g) (x3 + 1).toNatClampNeg) ha1 h414) ymX8_run yiX8_run ha1.1 ha1.2 ylXL_67 rfl (Nat.le_of_ble_eq_true rfl) ⟨Nat.le_of_ble_eq_true rfl, Nat.le_of_ble_eq_true rfl⟩ ⟨Nat.le_of_ble_eq_true rfl, Nat.le_of_ble_eq_true rfl⟩ ?_
      refine fb_aload_n (pc := 417) dXL_law_417 2 rfl ?_
      refine fb_aload_n (pc := 418) dXL_law_418 0 rfl ?_
      refine fb_iload_n (pc := 419) dXL_law_419 3 rfl ?_
      refine fb_iconst (pc := 420) (v := 1) dXL_law_420 fb_ki_1 ?_
      refine fb_iadd (pc := 421) dXL_law_421 ?_
      refine fb_gdE h (fun i422 h => ?_)
      refine fb_sld (pc := 422) dXL_law_422 i422 ?_
      refine fb_bnE h (fun r423 h423 h => ?_)
      refine fb_cV0v (pc := 423) [.int ((fb_sx g) (x3 + 1).toNatClampNeg)] dXL_law_423 (mX9_run g r414.2 a2 ((fb_sx g) (x3 + 1).toNatClampNeg) ha2 h423) ymX9_run yiX9_run ha2.1 ha2.2 ylXL_71 rfl (Nat.le_of_ble_eq_true rfl) ⟨Nat.le_of_ble_eq_true rfl, Nat.le_of_ble_eq_true rfl⟩ ⟨Nat.le_of_ble_eq_true rfl, Nat.le_of_ble_eq_true rfl⟩ ?_
      refine fb_icmp_eq (pc := 426) (tgt := 514) h dXL_law_426 (by decide) (fun h => ?_) (fun h => ?_)
      · refine fb_iinc (pc := 514) (v := 3) (lv' := [(3, .int (x3 + 3)), (0, .ref (fb_sb g)), (1, .ref (fb_b g + a1)), (2, .ref (fb_b g + a2))]) dXL_law_514 3 rfl fb_ki_3 (by decide) rfl ?_
        refine fb_goto (pc := 517) (tgt := 18) dXL_law_517 (by decide) ?_
        exact fb_sub [1, 2, 3, 0] rfl (hK18 (x3 + 3) r423.2 h)
      · refine fb_iconst (pc := 429) (v := 0) dXL_law_429 fb_ki_0 ?_
        exact fb_lawret (pc := 430) h dXL_law_430
    refine fb_ifE h (fun c32_13 h => ?_) (fun c32_13 h => ?_)
    · refine fb_tabIn (pc := 32) (v := 13) (tgt := 431) c32_13 dXL_law_32 (by decide) (by decide) rfl (by decide) ?_
      refine fb_aload_n (pc := 431) dXL_law_431 1 rfl ?_
      refine fb_bnE h (fun r432 h432 h => ?_)
      refine fb_cV0v (pc := 432) [] dXL_law_432 (mX8_results g u a1 ha1 h432) ymX8_results yiX8_results ha1.1 ha1.2 ylXL_72 rfl (Nat.le_of_ble_eq_true rfl) ⟨Nat.le_of_ble_eq_true rfl, Nat.le_of_ble_eq_true rfl⟩ ⟨Nat.le_of_ble_eq_true rfl, Nat.le_of_ble_eq_true rfl⟩ ?_
      refine fb_aload_n (pc := 435) dXL_law_435 2 rfl ?_
      refine fb_bnE h (fun r436 h436 h => ?_)
      refine fb_cV0v (pc := 436) [] dXL_law_436 (mX9_results g u a2 ha2 h436) ymX9_results yiX9_results ha2.1 ha2.2 ylXL_75 rfl (Nat.le_of_ble_eq_true rfl) ⟨Nat.le_of_ble_eq_true rfl, Nat.le_of_ble_eq_true rfl⟩ ⟨Nat.le_of_ble_eq_true rfl, Nat.le_of_ble_eq_true rfl⟩ ?_
      refine fb_icmp_eq (pc := 439) (tgt := 514) h dXL_law_439 (by decide) (fun h => ?_) (fun h => ?_)
      · refine fb_iinc (pc := 514) (v := 3) (lv' := [(3, .int (x3 + 3)), (0, .ref (fb_sb g)), (1, .ref (fb_b g + a1)), (2, .ref (fb_b g + a2))]) dXL_law_514 3 rfl fb_ki_3 (by decide) rfl ?_
        refine fb_goto (pc := 517) (tgt := 18) dXL_law_517 (by decide) ?_
        exact fb_sub [1, 2, 3, 0] rfl (hK18 (x3 + 3) u h)
      · refine fb_iconst (pc := 442) (v := 0) dXL_law_442 fb_ki_0 ?_
        exact fb_lawret (pc := 443) h dXL_law_443
    refine fb_ifE h (fun c32_14 h => ?_) (fun c32_14 h => ?_)
    · refine fb_tabIn (pc := 32) (v := 14) (tgt := 444) c32_14 dXL_law_32 (by decide) (by decide) rfl (by decide) ?_
      refine fb_aload_n (pc := 444) dXL_law_444 1 rfl ?_
      refine fb_aload_n (pc := 445) dXL_law_445 0 rfl ?_
      refine fb_iload_n (pc := 446) dXL_law_446 3 rfl ?_
      refine fb_iconst (pc := 447) (v := 1) dXL_law_447 fb_ki_1 ?_
      refine fb_iadd (pc := 448) dXL_law_448 ?_
      refine fb_gdE h (fun i449 h => ?_)
      refine fb_sld (pc := 449) dXL_law_449 i449 ?_
      refine fb_bnE h (fun r450 h450 h => ?_)
      refine fb_cV0v (pc := 450) [.int ((fb_sx g) (x3 + 1).toNatClampNeg)] dXL_law_450 (mX8_result g u a1 ((fb_sx g) (x3 + 1).toNatClampNeg) ha1 h450) ymX8_result yiX8_result ha1.1 ha1.2 ylXL_76 rfl (Nat.le_of_ble_eq_true rfl) ⟨Nat.le_of_ble_eq_true rfl, Nat.le_of_ble_eq_true rfl⟩ ⟨Nat.le_of_ble_eq_true rfl, Nat.le_of_ble_eq_true rfl⟩ ?_
      refine fb_aload_n (pc := 453) dXL_law_453 2 rfl ?_
      refine fb_aload_n (pc := 454) dXL_law_454 0 rfl ?_
      refine fb_iload_n (pc := 455) dXL_law_455 3 rfl ?_
      refine fb_iconst (pc := 456) (v := 1) dXL_law_456 fb_ki_1 ?_
      refine fb_iadd (pc := 457) dXL_law_457 ?_
      refine fb_gdE h (fun i458 h => ?_)
      refine fb_sld (pc := 458) dXL_law_458 i458 ?_
      refine fb_bnE h (fun r459 h459 h => ?_)
      refine fb_cV0v (pc := 459) [.int ((fb_sx g) (x3 + 1).toNatClampNeg)] dXL_law_459 (mX9_result g u a2 ((fb_sx g) (x3 + 1).toNatClampNeg) ha2 h459) ymX9_result yiX9_result ha2.1 ha2.2 ylXL_79 rfl (Nat.le_of_ble_eq_true rfl) ⟨Nat.le_of_ble_eq_true rfl, Nat.le_of_ble_eq_true rfl⟩ ⟨Nat.le_of_ble_eq_true rfl, Nat.le_of_ble_eq_true rfl⟩ ?_
      refine fb_icmp_eq (pc := 462) (tgt := 514) h dXL_law_462 (by decide) (fun h => ?_) (fun h => ?_)
      · refine fb_iinc (pc := 514) (v := 3) (lv' := [(3, .int (x3 + 3)), (0, .ref (fb_sb g)), (1, .ref (fb_b g + a1)), (2, .ref (fb_b g + a2))]) dXL_law_514 3 rfl fb_ki_3 (by decide) rfl ?_
        refine fb_goto (pc := 517) (tgt := 18) dXL_law_517 (by decide) ?_
        exact fb_sub [1, 2, 3, 0] rfl (hK18 (x3 + 3) u h)
      · refine fb_iconst (pc := 465) (v := 0) dXL_law_465 fb_ki_0 ?_
        exact fb_lawret (pc := 466) h dXL_law_466
    refine fb_ifE h (fun c32_15 h => ?_) (fun c32_15 h => ?_)
    · refine fb_tabIn (pc := 32) (v := 15) (tgt := 467) c32_15 dXL_law_32 (by decide) (by decide) rfl (by decide) ?_
      refine fb_aload_n (pc := 467) dXL_law_467 1 rfl ?_
      refine fb_aload_n (pc := 468) dXL_law_468 0 rfl ?_
      refine fb_iload_n (pc := 469) dXL_law_469 3 rfl ?_
      refine fb_iconst (pc := 470) (v := 1) dXL_law_470 fb_ki_1 ?_
      refine fb_iadd (pc := 471) dXL_law_471 ?_
      refine fb_gdE h (fun i472 h => ?_)
      refine fb_sld (pc := 472) dXL_law_472 i472 ?_
      refine fb_aload_n (pc := 473) dXL_law_473 0 rfl ?_
      refine fb_iload_n (pc := 474) dXL_law_474 3 rfl ?_
      refine fb_iconst (pc := 475) (v := 2) dXL_law_475 fb_ki_2 ?_
      refine fb_iadd (pc := 476) dXL_law_476 ?_
      refine fb_gdE h (fun i477 h => ?_)
      refine fb_sld (pc := 477) dXL_law_477 i477 ?_
      refine fb_bnE h (fun r478 h478 h => ?_)
      refine fb_cV0v (pc := 478) [.int ((fb_sx g) (x3 + 1).toNatClampNeg), .int ((fb_sx g) (x3 + 2).toNatClampNeg)] dXL_law_478 (mX8_value g u a1 ((fb_sx g) (x3 + 1).toNatClampNeg) ((fb_sx g) (x3 + 2).toNatClampNeg) ha1 h478) ymX8_value yiX8_value ha1.1 ha1.2 ylXL_80 rfl (Nat.le_of_ble_eq_true rfl) ⟨Nat.le_of_ble_eq_true rfl, Nat.le_of_ble_eq_true rfl⟩ ⟨Nat.le_of_ble_eq_true rfl, Nat.le_of_ble_eq_true rfl⟩ ?_
      refine fb_aload_n (pc := 481) dXL_law_481 2 rfl ?_
      refine fb_aload_n (pc := 482) dXL_law_482 0 rfl ?_
      refine fb_iload_n (pc := 483) dXL_law_483 3 rfl ?_
      refine fb_iconst (pc := 484) (v := 1) dXL_law_484 fb_ki_1 ?_
      refine fb_iadd (pc := 485) dXL_law_485 ?_
      refine fb_gdE h (fun i486 h => ?_)
      refine fb_sld (pc := 486) dXL_law_486 i486 ?_
      refine fb_aload_n (pc := 487) dXL_law_487 0 rfl ?_
      refine fb_iload_n (pc := 488) dXL_law_488 3 rfl ?_
      refine fb_iconst (pc := 489) (v := 2) dXL_law_489 fb_ki_2 ?_
      refine fb_iadd (pc := 490) dXL_law_490 ?_
      refine fb_gdE h (fun i491 h => ?_)
      refine fb_sld (pc := 491) dXL_law_491 i491 ?_
      refine fb_bnE h (fun r492 h492 h => ?_)
      refine fb_cV0v (pc := 492) [.int ((fb_sx g) (x3 + 1).toNatClampNeg), .int ((fb_sx g) (x3 + 2).toNatClampNeg)] dXL_law_492 (mX9_value g u a2 ((fb_sx g) (x3 + 1).toNatClampNeg) ((fb_sx g) (x3 + 2).toNatClampNeg) ha2 h492) ymX9_value yiX9_value ha2.1 ha2.2 ylXL_84 rfl (Nat.le_of_ble_eq_true rfl) ⟨Nat.le_of_ble_eq_true rfl, Nat.le_of_ble_eq_true rfl⟩ ⟨Nat.le_of_ble_eq_true rfl, Nat.le_of_ble_eq_true rfl⟩ ?_
      refine fb_lcmp (pc := 495) dXL_law_495 ?_
      refine fb_if_eq (pc := 496) (tgt := 514) h dXL_law_496 (by decide) (fun h => ?_) (fun h => ?_)
      · refine fb_iinc (pc := 514) (v := 3) (lv' := [(3, .int (x3 + 3)), (0, .ref (fb_sb g)), (1, .ref (fb_b g + a1)), (2, .ref (fb_b g + a2))]) dXL_law_514 3 rfl fb_ki_3 (by decide) rfl ?_
        refine fb_goto (pc := 517) (tgt := 18) dXL_law_517 (by decide) ?_
        exact fb_sub [1, 2, 3, 0] rfl (hK18 (x3 + 3) u h)
      · refine fb_iconst (pc := 499) (v := 0) dXL_law_499 fb_ki_0 ?_
        exact fb_lawret (pc := 500) h dXL_law_500
    refine fb_ifE h (fun c32_16 h => ?_) (fun c32_16 h => ?_)
    · refine fb_tabIn (pc := 32) (v := 16) (tgt := 501) c32_16 dXL_law_32 (by decide) (by decide) rfl (by decide) ?_
      refine fb_aload_n (pc := 501) dXL_law_501 1 rfl ?_
      refine fb_bnE h (fun r502 h502 h => ?_)
      refine fb_cV0v (pc := 502) [] dXL_law_502 (mX8_size g u a1 ha1 h502) ymX8_size yiX8_size ha1.1 ha1.2 ylXL_85 rfl (Nat.le_of_ble_eq_true rfl) ⟨Nat.le_of_ble_eq_true rfl, Nat.le_of_ble_eq_true rfl⟩ ⟨Nat.le_of_ble_eq_true rfl, Nat.le_of_ble_eq_true rfl⟩ ?_
      refine fb_aload_n (pc := 505) dXL_law_505 2 rfl ?_
      refine fb_bnE h (fun r506 h506 h => ?_)
      refine fb_cV0v (pc := 506) [] dXL_law_506 (mX9_size g u a2 ha2 h506) ymX9_size yiX9_size ha2.1 ha2.2 ylXL_88 rfl (Nat.le_of_ble_eq_true rfl) ⟨Nat.le_of_ble_eq_true rfl, Nat.le_of_ble_eq_true rfl⟩ ⟨Nat.le_of_ble_eq_true rfl, Nat.le_of_ble_eq_true rfl⟩ ?_
      refine fb_icmp_eq (pc := 509) (tgt := 514) h dXL_law_509 (by decide) (fun h => ?_) (fun h => ?_)
      · refine fb_iinc (pc := 514) (v := 3) (lv' := [(3, .int (x3 + 3)), (0, .ref (fb_sb g)), (1, .ref (fb_b g + a1)), (2, .ref (fb_b g + a2))]) dXL_law_514 3 rfl fb_ki_3 (by decide) rfl ?_
        refine fb_goto (pc := 517) (tgt := 18) dXL_law_517 (by decide) ?_
        exact fb_sub [1, 2, 3, 0] rfl (hK18 (x3 + 3) u h)
      · refine fb_iconst (pc := 512) (v := 0) dXL_law_512 fb_ki_0 ?_
        exact fb_lawret (pc := 513) h dXL_law_513
    refine fb_tabOut (pc := 32) (tgt := 514) (by have a0 := lv_neT c32_0 (a := 0) (by decide); have a1 := lv_neT c32_1 (a := 1) (by decide); have a2 := lv_neT c32_2 (a := 2) (by decide); have a3 := lv_neT c32_3 (a := 3) (by decide); have a4 := lv_neT c32_4 (a := 4) (by decide); have a5 := lv_neT c32_5 (a := 5) (by decide); have a6 := lv_neT c32_6 (a := 6) (by decide); have a7 := lv_neT c32_7 (a := 7) (by decide); have a8 := lv_neT c32_8 (a := 8) (by decide); have a9 := lv_neT c32_9 (a := 9) (by decide); have a10 := lv_neT c32_10 (a := 10) (by decide); have a11 := lv_neT c32_11 (a := 11) (by decide); have a12 := lv_neT c32_12 (a := 12) (by decide); have a13 := lv_neT c32_13 (a := 13) (by decide); have a14 := lv_neT c32_14 (a := 14) (by decide); have a15 := lv_neT c32_15 (a := 15) (by decide); have a16 := lv_neT c32_16 (a := 16) (by decide); omega) dXL_law_32 (by decide) ?_
    refine fb_iinc (pc := 514) (v := 3) (lv' := [(3, .int (x3 + 3)), (0, .ref (fb_sb g)), (1, .ref (fb_b g + a1)), (2, .ref (fb_b g + a2))]) dXL_law_514 3 rfl fb_ki_3 (by decide) rfl ?_
    refine fb_goto (pc := 517) (tgt := 18) dXL_law_517 (by decide) ?_
    exact fb_sub [1, 2, 3, 0] rfl (hK18 (x3 + 3) u h)

theorem tgXL_law_18 {g : fb_G}  (a1 : Nat) (a2 : Nat) (ha1 : a1 < fb_NT ∧ fb_sh a1 = (8, 12)) (ha2 : a2 < fb_NT ∧ fb_sh a2 = (9, 40)) : ∀ (fu : Nat) (x3 : Int32) (u : fb_M) ,  gXL_law_18 (fb_sL g) (fb_sx g) a1 a2 fu x3 u = some 1 → fb_V g RXL code 4 ret "law" room_1 (fb_Qlaw g) 133 1870 fb_NT u 18 [(0, .ref (fb_sb g)), (1, .ref (fb_b g + a1)), (2, .ref (fb_b g + a2)), (3, .int x3)] [] := by
  intro fu
  induction fu with
  | zero => intro x3 u h; exact absurd h (by simp [gXL_law_18])
  | succ fu ih => intro x3 u h; exact tbXL_law_18 a1 a2 x3 u (gXL_law_18 (fb_sL g) (fb_sx g) a1 a2 fu) ha1 ha2 ih h
def fXL_law (L : Nat) (xs : Nat → Int32) (u : fb_M) : Option Int32 :=
 (gXL_law_18 L xs 0 104 fb_F 0 u)
set_option maxRecDepth 100000 in
set_option maxHeartbeats 4000000 in
theorem mXL_law (g : fb_G) (u : fb_M) (h : fXL_law (fb_sL g) (fb_sx g) u = some 1) : fb_V g RXL code 4 ret "law" room_1 (fb_Qlaw g) 133 1870 fb_NT u 16 [(2, .ref (fb_b g + 104)), (1, .ref (fb_b g + 0)), (0, .ref (fb_sb g))] [] := by
  unfold fXL_law at h
  refine fb_iconst (pc := 16) (v := 0) dXL_law_16 fb_ki_0 ?_
  refine fb_istore_n (pc := 17) (lv' := [(3, .int 0), (2, .ref (fb_b g + 104)), (1, .ref (fb_b g + 0)), (0, .ref (fb_sb g))]) dXL_law_17 rfl (by decide) rfl ?_
  exact fb_sub [3, 2, 1, 0] rfl (tgXL_law_18 0 104 fb_at0 fb_at104 fb_F 0 u h)

