theorem dX9_define_0 : decode cX9_define 0 = .ok (.aload_n 0, 1) := by decide +kernel
theorem dX9_define_1 : decode cX9_define 1 = .ok (.invokevirtual 230, 3) := by decide +kernel
theorem dX9_define_4 : decode cX9_define 4 = .ok (.istore_n 2, 1) := by decide +kernel
theorem dX9_define_5 : decode cX9_define 5 = .ok (.iload_n 2, 1) := by decide +kernel
theorem dX9_define_6 : decode cX9_define 6 = .ok (.ifCond .ne 7, 3) := by decide +kernel
theorem dX9_define_9 : decode cX9_define 9 = .ok (.iconst 4, 1) := by decide +kernel
theorem dX9_define_10 : decode cX9_define 10 = .ok (.goto 14, 3) := by decide +kernel
theorem dX9_define_13 : decode cX9_define 13 = .ok (.iload_n 2, 1) := by decide +kernel
theorem dX9_define_14 : decode cX9_define 14 = .ok (.iconst 1, 1) := by decide +kernel
theorem dX9_define_15 : decode cX9_define 15 = .ok (.if_icmp .ne 7, 3) := by decide +kernel
theorem dX9_define_18 : decode cX9_define 18 = .ok (.iconst 5, 1) := by decide +kernel
theorem dX9_define_19 : decode cX9_define 19 = .ok (.goto 5, 3) := by decide +kernel
theorem dX9_define_22 : decode cX9_define 22 = .ok (.bipush 6, 2) := by decide +kernel
theorem dX9_define_24 : decode cX9_define 24 = .ok (.istore_n 3, 1) := by decide +kernel
theorem dX9_define_25 : decode cX9_define 25 = .ok (.aload_n 0, 1) := by decide +kernel
theorem dX9_define_26 : decode cX9_define 26 = .ok (.iload_n 3, 1) := by decide +kernel
theorem dX9_define_27 : decode cX9_define 27 = .ok (.aload_n 0, 1) := by decide +kernel
theorem dX9_define_28 : decode cX9_define 28 = .ok (.getfield 95, 3) := by decide +kernel
theorem dX9_define_31 : decode cX9_define 31 = .ok (.ldc2_w 234, 3) := by decide +kernel
theorem dX9_define_34 : decode cX9_define 34 = .ok (.invokevirtual 188, 3) := by decide +kernel
theorem dX9_define_37 : decode cX9_define 37 = .ok (.istore 4, 2) := by decide +kernel
theorem dX9_define_39 : decode cX9_define 39 = .ok (.aload_n 0, 1) := by decide +kernel
theorem dX9_define_40 : decode cX9_define 40 = .ok (.iload_n 3, 1) := by decide +kernel
theorem dX9_define_41 : decode cX9_define 41 = .ok (.aload_n 0, 1) := by decide +kernel
theorem dX9_define_42 : decode cX9_define 42 = .ok (.getfield 95, 3) := by decide +kernel
theorem dX9_define_45 : decode cX9_define 45 = .ok (.ldc2_w 236, 3) := by decide +kernel
theorem dX9_define_48 : decode cX9_define 48 = .ok (.invokevirtual 188, 3) := by decide +kernel
theorem dX9_define_51 : decode cX9_define 51 = .ok (.istore 5, 2) := by decide +kernel
theorem dX9_define_53 : decode cX9_define 53 = .ok (.iload 4, 2) := by decide +kernel
theorem dX9_define_55 : decode cX9_define 55 = .ok (.ifCond .eq 9, 3) := by decide +kernel
theorem dX9_define_58 : decode cX9_define 58 = .ok (.iload_n 3, 1) := by decide +kernel
theorem dX9_define_59 : decode cX9_define 59 = .ok (.iconst 3, 1) := by decide +kernel
theorem dX9_define_60 : decode cX9_define 60 = .ok (.iadd, 1) := by decide +kernel
theorem dX9_define_61 : decode cX9_define 61 = .ok (.goto 15, 3) := by decide +kernel
theorem dX9_define_64 : decode cX9_define 64 = .ok (.iload 5, 2) := by decide +kernel
theorem dX9_define_66 : decode cX9_define 66 = .ok (.ifCond .eq 9, 3) := by decide +kernel
theorem dX9_define_69 : decode cX9_define 69 = .ok (.iload_n 3, 1) := by decide +kernel
theorem dX9_define_70 : decode cX9_define 70 = .ok (.iconst 5, 1) := by decide +kernel
theorem dX9_define_71 : decode cX9_define 71 = .ok (.iadd, 1) := by decide +kernel
theorem dX9_define_72 : decode cX9_define 72 = .ok (.goto 4, 3) := by decide +kernel
theorem dX9_define_75 : decode cX9_define 75 = .ok (.iload_n 3, 1) := by decide +kernel
theorem dX9_define_76 : decode cX9_define 76 = .ok (.istore_n 3, 1) := by decide +kernel
theorem dX9_define_77 : decode cX9_define 77 = .ok (.iconst 0, 1) := by decide +kernel
theorem dX9_define_78 : decode cX9_define 78 = .ok (.istore 6, 2) := by decide +kernel
theorem dX9_define_80 : decode cX9_define 80 = .ok (.iconst 0, 1) := by decide +kernel
theorem dX9_define_81 : decode cX9_define 81 = .ok (.istore 7, 2) := by decide +kernel
theorem dX9_define_83 : decode cX9_define 83 = .ok (.iload 4, 2) := by decide +kernel
theorem dX9_define_85 : decode cX9_define 85 = .ok (.ifCond .ne 8, 3) := by decide +kernel
theorem dX9_define_88 : decode cX9_define 88 = .ok (.iload 5, 2) := by decide +kernel
theorem dX9_define_90 : decode cX9_define 90 = .ok (.ifCond .eq 50, 3) := by decide +kernel
theorem dX9_define_93 : decode cX9_define 93 = .ok (.aload_n 0, 1) := by decide +kernel
theorem dX9_define_94 : decode cX9_define 94 = .ok (.iload_n 3, 1) := by decide +kernel
theorem dX9_define_95 : decode cX9_define 95 = .ok (.invokevirtual 99, 3) := by decide +kernel
theorem dX9_define_98 : decode cX9_define 98 = .ok (.invokestatic 120, 3) := by decide +kernel
theorem dX9_define_101 : decode cX9_define 101 = .ok (.ifCond .eq 39, 3) := by decide +kernel
theorem dX9_define_104 : decode cX9_define 104 = .ok (.iload 6, 2) := by decide +kernel
theorem dX9_define_106 : decode cX9_define 106 = .ok (.iconst 3, 1) := by decide +kernel
theorem dX9_define_107 : decode cX9_define 107 = .ok (.if_icmp .ge 20, 3) := by decide +kernel
theorem dX9_define_110 : decode cX9_define 110 = .ok (.bipush 10, 2) := by decide +kernel
theorem dX9_define_112 : decode cX9_define 112 = .ok (.iload 7, 2) := by decide +kernel
theorem dX9_define_114 : decode cX9_define 114 = .ok (.imul, 1) := by decide +kernel
theorem dX9_define_115 : decode cX9_define 115 = .ok (.aload_n 0, 1) := by decide +kernel
theorem dX9_define_116 : decode cX9_define 116 = .ok (.iload_n 3, 1) := by decide +kernel
theorem dX9_define_117 : decode cX9_define 117 = .ok (.invokevirtual 99, 3) := by decide +kernel
theorem dX9_define_120 : decode cX9_define 120 = .ok (.iadd, 1) := by decide +kernel
theorem dX9_define_121 : decode cX9_define 121 = .ok (.bipush 48, 2) := by decide +kernel
theorem dX9_define_123 : decode cX9_define 123 = .ok (.isub, 1) := by decide +kernel
theorem dX9_define_124 : decode cX9_define 124 = .ok (.goto 5, 3) := by decide +kernel
theorem dX9_define_127 : decode cX9_define 127 = .ok (.iload 7, 2) := by decide +kernel
theorem dX9_define_129 : decode cX9_define 129 = .ok (.istore 7, 2) := by decide +kernel
theorem dX9_define_131 : decode cX9_define 131 = .ok (.iinc 6 1, 3) := by decide +kernel
theorem dX9_define_134 : decode cX9_define 134 = .ok (.iinc 3 1, 3) := by decide +kernel
theorem dX9_define_137 : decode cX9_define 137 = .ok (.goto (-54), 3) := by decide +kernel
theorem dX9_define_140 : decode cX9_define 140 = .ok (.iload 4, 2) := by decide +kernel
theorem dX9_define_142 : decode cX9_define 142 = .ok (.ifCond .ne 8, 3) := by decide +kernel
theorem dX9_define_145 : decode cX9_define 145 = .ok (.iload 5, 2) := by decide +kernel
theorem dX9_define_147 : decode cX9_define 147 = .ok (.ifCond .eq 12, 3) := by decide +kernel
theorem dX9_define_150 : decode cX9_define 150 = .ok (.iload 6, 2) := by decide +kernel
theorem dX9_define_152 : decode cX9_define 152 = .ok (.ifCond .ne 7, 3) := by decide +kernel
theorem dX9_define_155 : decode cX9_define 155 = .ok (.iconst 1, 1) := by decide +kernel
theorem dX9_define_156 : decode cX9_define 156 = .ok (.goto 5, 3) := by decide +kernel
theorem dX9_define_159 : decode cX9_define 159 = .ok (.iload 7, 2) := by decide +kernel
theorem dX9_define_161 : decode cX9_define 161 = .ok (.istore 7, 2) := by decide +kernel
theorem dX9_define_163 : decode cX9_define 163 = .ok (.iload_n 2, 1) := by decide +kernel
theorem dX9_define_164 : decode cX9_define 164 = .ok (.ifCond .lt 18, 3) := by decide +kernel
theorem dX9_define_167 : decode cX9_define 167 = .ok (.aload_n 0, 1) := by decide +kernel
theorem dX9_define_168 : decode cX9_define 168 = .ok (.iload_n 3, 1) := by decide +kernel
theorem dX9_define_169 : decode cX9_define 169 = .ok (.aload_n 0, 1) := by decide +kernel
theorem dX9_define_170 : decode cX9_define 170 = .ok (.getfield 95, 3) := by decide +kernel
theorem dX9_define_173 : decode cX9_define 173 = .ok (.ldc2_w 238, 3) := by decide +kernel
theorem dX9_define_176 : decode cX9_define 176 = .ok (.invokevirtual 188, 3) := by decide +kernel
theorem dX9_define_179 : decode cX9_define 179 = .ok (.ifCond .ne 5, 3) := by decide +kernel
theorem dX9_define_182 : decode cX9_define 182 = .ok (.iconst (-1), 1) := by decide +kernel
theorem dX9_define_183 : decode cX9_define 183 = .ok (.ireturn, 1) := by decide +kernel
theorem dX9_define_184 : decode cX9_define 184 = .ok (.iload 6, 2) := by decide +kernel
theorem dX9_define_186 : decode cX9_define 186 = .ok (.iconst 3, 1) := by decide +kernel
theorem dX9_define_187 : decode cX9_define 187 = .ok (.if_icmp .gt 18, 3) := by decide +kernel
theorem dX9_define_190 : decode cX9_define 190 = .ok (.iload 4, 2) := by decide +kernel
theorem dX9_define_192 : decode cX9_define 192 = .ok (.ifCond .ne 8, 3) := by decide +kernel
theorem dX9_define_195 : decode cX9_define 195 = .ok (.iload 5, 2) := by decide +kernel
theorem dX9_define_197 : decode cX9_define 197 = .ok (.ifCond .eq 11, 3) := by decide +kernel
theorem dX9_define_200 : decode cX9_define 200 = .ok (.iload 7, 2) := by decide +kernel
theorem dX9_define_202 : decode cX9_define 202 = .ok (.ifCond .ne 6, 3) := by decide +kernel
theorem dX9_define_205 : decode cX9_define 205 = .ok (.bipush (-2), 2) := by decide +kernel
theorem dX9_define_207 : decode cX9_define 207 = .ok (.ireturn, 1) := by decide +kernel
theorem dX9_define_208 : decode cX9_define 208 = .ok (.aload_n 0, 1) := by decide +kernel
theorem dX9_define_209 : decode cX9_define 209 = .ok (.iload_n 3, 1) := by decide +kernel
theorem dX9_define_210 : decode cX9_define 210 = .ok (.iconst 2, 1) := by decide +kernel
theorem dX9_define_211 : decode cX9_define 211 = .ok (.iadd, 1) := by decide +kernel
theorem dX9_define_212 : decode cX9_define 212 = .ok (.invokevirtual 240, 3) := by decide +kernel
theorem dX9_define_215 : decode cX9_define 215 = .ok (.aload_n 0, 1) := by decide +kernel
theorem dX9_define_216 : decode cX9_define 216 = .ok (.getfield 176, 3) := by decide +kernel
theorem dX9_define_219 : decode cX9_define 219 = .ok (.ifCond .eq 8, 3) := by decide +kernel
theorem dX9_define_222 : decode cX9_define 222 = .ok (.bipush (-3), 2) := by decide +kernel
theorem dX9_define_224 : decode cX9_define 224 = .ok (.goto 65, 3) := by decide +kernel
theorem dX9_define_227 : decode cX9_define 227 = .ok (.aload_n 0, 1) := by decide +kernel
theorem dX9_define_228 : decode cX9_define 228 = .ok (.getfield 205, 3) := by decide +kernel
theorem dX9_define_231 : decode cX9_define 231 = .ok (.ifCond .eq 8, 3) := by decide +kernel
theorem dX9_define_234 : decode cX9_define 234 = .ok (.bipush (-4), 2) := by decide +kernel
theorem dX9_define_236 : decode cX9_define 236 = .ok (.goto 53, 3) := by decide +kernel
theorem dX9_define_239 : decode cX9_define 239 = .ok (.aload_n 0, 1) := by decide +kernel
theorem dX9_define_240 : decode cX9_define 240 = .ok (.getfield 180, 3) := by decide +kernel
theorem dX9_define_243 : decode cX9_define 243 = .ok (.bipush 6, 2) := by decide +kernel
theorem dX9_define_245 : decode cX9_define 245 = .ok (.if_icmp .gt 11, 3) := by decide +kernel
theorem dX9_define_248 : decode cX9_define 248 = .ok (.aload_n 0, 1) := by decide +kernel
theorem dX9_define_249 : decode cX9_define 249 = .ok (.getfield 208, 3) := by decide +kernel
theorem dX9_define_252 : decode cX9_define 252 = .ok (.iconst 3, 1) := by decide +kernel
theorem dX9_define_253 : decode cX9_define 253 = .ok (.if_icmp .le 8, 3) := by decide +kernel
theorem dX9_define_256 : decode cX9_define 256 = .ok (.bipush (-5), 2) := by decide +kernel
theorem dX9_define_258 : decode cX9_define 258 = .ok (.goto 31, 3) := by decide +kernel
theorem dX9_define_261 : decode cX9_define 261 = .ok (.iload_n 1, 1) := by decide +kernel
theorem dX9_define_262 : decode cX9_define 262 = .ok (.ifCond .eq 12, 3) := by decide +kernel
theorem dX9_define_265 : decode cX9_define 265 = .ok (.iload_n 2, 1) := by decide +kernel
theorem dX9_define_266 : decode cX9_define 266 = .ok (.ifCond .eq 8, 3) := by decide +kernel
theorem dX9_define_269 : decode cX9_define 269 = .ok (.bipush (-6), 2) := by decide +kernel
theorem dX9_define_271 : decode cX9_define 271 = .ok (.goto 18, 3) := by decide +kernel
theorem dX9_define_274 : decode cX9_define 274 = .ok (.aload_n 0, 1) := by decide +kernel
theorem dX9_define_275 : decode cX9_define 275 = .ok (.getfield 244, 3) := by decide +kernel
theorem dX9_define_278 : decode cX9_define 278 = .ok (.bipush 8, 2) := by decide +kernel
theorem dX9_define_280 : decode cX9_define 280 = .ok (.if_icmp .ne 8, 3) := by decide +kernel
theorem dX9_define_283 : decode cX9_define 283 = .ok (.bipush (-7), 2) := by decide +kernel
theorem dX9_define_285 : decode cX9_define 285 = .ok (.goto 4, 3) := by decide +kernel
theorem dX9_define_288 : decode cX9_define 288 = .ok (.iconst 0, 1) := by decide +kernel
theorem dX9_define_289 : decode cX9_define 289 = .ok (.istore 8, 2) := by decide +kernel
theorem dX9_define_291 : decode cX9_define 291 = .ok (.iload 8, 2) := by decide +kernel
theorem dX9_define_293 : decode cX9_define 293 = .ok (.ifCond .ge 6, 3) := by decide +kernel
theorem dX9_define_296 : decode cX9_define 296 = .ok (.iload 8, 2) := by decide +kernel
theorem dX9_define_298 : decode cX9_define 298 = .ok (.ireturn, 1) := by decide +kernel
theorem dX9_define_299 : decode cX9_define 299 = .ok (.aload_n 0, 1) := by decide +kernel
theorem dX9_define_300 : decode cX9_define 300 = .ok (.iload_n 2, 1) := by decide +kernel
theorem dX9_define_301 : decode cX9_define 301 = .ok (.iload 7, 2) := by decide +kernel
theorem dX9_define_303 : decode cX9_define 303 = .ok (.iload_n 1, 1) := by decide +kernel
theorem dX9_define_304 : decode cX9_define 304 = .ok (.invokevirtual 247, 3) := by decide +kernel
theorem dX9_define_307 : decode cX9_define 307 = .ok (.aload_n 0, 1) := by decide +kernel
theorem dX9_define_308 : decode cX9_define 308 = .ok (.iconst 0, 1) := by decide +kernel
theorem dX9_define_309 : decode cX9_define 309 = .ok (.putfield 95, 3) := by decide +kernel
theorem dX9_define_312 : decode cX9_define 312 = .ok (.aload_n 0, 1) := by decide +kernel
theorem dX9_define_313 : decode cX9_define 313 = .ok (.dup, 1) := by decide +kernel
theorem dX9_define_314 : decode cX9_define 314 = .ok (.getfield 244, 3) := by decide +kernel
theorem dX9_define_317 : decode cX9_define 317 = .ok (.iconst 1, 1) := by decide +kernel
theorem dX9_define_318 : decode cX9_define 318 = .ok (.iadd, 1) := by decide +kernel
theorem dX9_define_319 : decode cX9_define 319 = .ok (.putfield 244, 3) := by decide +kernel
theorem dX9_define_322 : decode cX9_define 322 = .ok (.aload_n 0, 1) := by decide +kernel
theorem dX9_define_323 : decode cX9_define 323 = .ok (.getfield 244, 3) := by decide +kernel
theorem dX9_define_326 : decode cX9_define 326 = .ok (.iconst 1, 1) := by decide +kernel
theorem dX9_define_327 : decode cX9_define 327 = .ok (.isub, 1) := by decide +kernel
theorem dX9_define_328 : decode cX9_define 328 = .ok (.ireturn, 1) := by decide +kernel
def jX9_define_289 (a0 : Nat) (x1 : Int32) (x2 : Int32) (x7 : Int32) (k0 : Int32) (u : fb_M) : Option (Int32 × fb_M) :=
 (if 0 ≤ k0 then ((fX9_keepFinder u a0 x2 x7 x1).bind fun r304 => 
   (some ((fb_I (fb_wI (fb_wI r304 a0 1 0) a0 5 ((fb_I (fb_wI r304 a0 1 0) a0 5) + 1)) a0 5) - 1, fb_wI (fb_wI r304 a0 1 0) a0 5 ((fb_I (fb_wI r304 a0 1 0) a0 5) + 1))))
  else (some (k0, u)))
set_option maxRecDepth 100000 in
set_option maxHeartbeats 4000000 in
theorem tjX9_define_289 {g : fb_G} {res : (Int32 × fb_M)} (a0 : Nat) (x1 : Int32) (x2 : Int32) (x7 : Int32) (k0 : Int32) (u : fb_M) (ha0 : a0 < fb_NT ∧ fb_sh a0 = (9, 40)) (h : jX9_define_289 a0 x1 x2 x7 k0 u = some res) : fb_V g RX9 cX9_define 9 (some .int) "define" (fb_room 8 196 0 0) (fb_Qm g (some (.int res.1)) fb_NT res.2 0 0) 0 0 fb_NT u 289 [(0, .ref (fb_b g + a0)), (1, .int x1), (2, .int x2), (7, .int x7)] [.int k0] := by
  unfold jX9_define_289 at h
  refine fb_istore (pc := 289) (lv' := [(8, .int k0), (0, .ref (fb_b g + a0)), (1, .int x1), (2, .int x2), (7, .int x7)]) dX9_define_289 (by decide) rfl ?_
  refine fb_iload (pc := 291) dX9_define_291 0 rfl ?_
  refine fb_if_ge (pc := 293) (tgt := 299) h dX9_define_293 (by decide) (fun h => ?_) (fun h => ?_)
  · refine fb_aload_n (pc := 299) dX9_define_299 1 rfl ?_
    refine fb_iload_n (pc := 300) dX9_define_300 3 rfl ?_
    refine fb_iload (pc := 301) dX9_define_301 4 rfl ?_
    refine fb_iload_n (pc := 303) dX9_define_303 2 rfl ?_
    refine fb_bnE h (fun r304 h304 h => ?_)
    refine fb_cV0n (pc := 304) [.int x2, .int x7, .int x1] dX9_define_304 (mX9_keepFinder g u a0 x2 x7 x1 ha0 h304) ymX9_keepFinder yiX9_keepFinder ha0.1 ha0.2 ylX9_247 rfl (Nat.le_of_ble_eq_true rfl) ⟨Nat.le_of_ble_eq_true rfl, Nat.le_of_ble_eq_true rfl⟩ ⟨Nat.le_of_ble_eq_true rfl, Nat.le_of_ble_eq_true rfl⟩ ?_
    refine fb_aload_n (pc := 307) dX9_define_307 1 rfl ?_
    refine fb_iconst (pc := 308) (v := 0) dX9_define_308 fb_ki_0 ?_
    refine fb_putI (pc := 309) dX9_define_309 lkX9_95 ly_9_1 ha0.1 ha0.2 rfl rfl rfl ?_
    refine fb_aload_n (pc := 312) dX9_define_312 1 rfl ?_
    refine fb_dup (pc := 313) dX9_define_313 rfl ?_
    refine fb_getI (pc := 314) dX9_define_314 lkX9_244 ha0.1 ha0.2 rfl ?_
    refine fb_iconst (pc := 317) (v := 1) dX9_define_317 fb_ki_1 ?_
    refine fb_iadd (pc := 318) dX9_define_318 ?_
    refine fb_putI (pc := 319) dX9_define_319 lkX9_244 ly_9_5 ha0.1 ha0.2 rfl rfl rfl ?_
    refine fb_aload_n (pc := 322) dX9_define_322 1 rfl ?_
    refine fb_getI (pc := 323) dX9_define_323 lkX9_244 ha0.1 ha0.2 rfl ?_
    refine fb_iconst (pc := 326) (v := 1) dX9_define_326 fb_ki_1 ?_
    refine fb_isub (pc := 327) dX9_define_327 ?_
    exact fb_iretM (pc := 328) h dX9_define_328
  · refine fb_iload (pc := 296) dX9_define_296 0 rfl ?_
    exact fb_iretM (pc := 298) h dX9_define_298

def jX9_define_274 (a0 : Nat) (x1 : Int32) (x2 : Int32) (x7 : Int32) (u : fb_M) : Option (Int32 × fb_M) :=
 (if (fb_I u a0 5) = 8 then (jX9_define_289 a0 x1 x2 x7 ((-7)) u)
  else (jX9_define_289 a0 x1 x2 x7 0 u))
set_option maxRecDepth 100000 in
set_option maxHeartbeats 4000000 in
theorem tjX9_define_274 {g : fb_G} {res : (Int32 × fb_M)} (a0 : Nat) (x1 : Int32) (x2 : Int32) (x7 : Int32) (u : fb_M) (ha0 : a0 < fb_NT ∧ fb_sh a0 = (9, 40)) (h : jX9_define_274 a0 x1 x2 x7 u = some res) : fb_V g RX9 cX9_define 9 (some .int) "define" (fb_room 8 196 0 0) (fb_Qm g (some (.int res.1)) fb_NT res.2 0 0) 0 0 fb_NT u 274 [(0, .ref (fb_b g + a0)), (1, .int x1), (2, .int x2), (7, .int x7)] [] := by
  unfold jX9_define_274 at h
  refine fb_aload_n (pc := 274) dX9_define_274 0 rfl ?_
  refine fb_getI (pc := 275) dX9_define_275 lkX9_244 ha0.1 ha0.2 rfl ?_
  refine fb_bipush (pc := 278) (v := 8) dX9_define_278 fb_kb_8 ?_
  refine fb_icmp_ne (pc := 280) (tgt := 288) h dX9_define_280 (by decide) (fun h => ?_) (fun h => ?_)
  · refine fb_iconst (pc := 288) (v := 0) dX9_define_288 fb_ki_0 ?_
    exact fb_sub [0, 1, 2, 3] rfl (tjX9_define_289 a0 x1 x2 x7 0 u ha0 h)
  · refine fb_bipush (pc := 283) (v := (-7)) dX9_define_283 fb_kb_m7 ?_
    refine fb_goto (pc := 285) (tgt := 289) dX9_define_285 (by decide) ?_
    exact fb_sub [0, 1, 2, 3] rfl (tjX9_define_289 a0 x1 x2 x7 ((-7)) u ha0 h)

def jX9_define_208 (a0 : Nat) (x1 : Int32) (x2 : Int32) (x3 : Int32) (x7 : Int32) (u : fb_M) : Option (Int32 × fb_M) :=
 ((fX9_readRest u a0 (x3 + 2)).bind fun r212 => 
  (if (fb_I r212 a0 20) = 0 then (if (fb_I r212 a0 21) = 0 then (if 6 < (fb_I r212 a0 18) then (jX9_define_289 a0 x1 x2 x7 ((-5)) r212)
    else (if (fb_I r212 a0 19) ≤ 3 then (if x1 = 0 then (jX9_define_274 a0 x1 x2 x7 r212)
      else (if x2 = 0 then (jX9_define_274 a0 x1 x2 x7 r212)
       else (jX9_define_289 a0 x1 x2 x7 ((-6)) r212)))
     else (jX9_define_289 a0 x1 x2 x7 ((-5)) r212)))
   else (jX9_define_289 a0 x1 x2 x7 ((-4)) r212))
  else (jX9_define_289 a0 x1 x2 x7 ((-3)) r212)))
set_option maxRecDepth 100000 in
set_option maxHeartbeats 4000000 in
theorem tjX9_define_208 {g : fb_G} {res : (Int32 × fb_M)} (a0 : Nat) (x1 : Int32) (x2 : Int32) (x3 : Int32) (x7 : Int32) (u : fb_M) (ha0 : a0 < fb_NT ∧ fb_sh a0 = (9, 40)) (h : jX9_define_208 a0 x1 x2 x3 x7 u = some res) : fb_V g RX9 cX9_define 9 (some .int) "define" (fb_room 8 196 0 0) (fb_Qm g (some (.int res.1)) fb_NT res.2 0 0) 0 0 fb_NT u 208 [(0, .ref (fb_b g + a0)), (1, .int x1), (2, .int x2), (3, .int x3), (7, .int x7)] [] := by
  unfold jX9_define_208 at h
  refine fb_aload_n (pc := 208) dX9_define_208 0 rfl ?_
  refine fb_iload_n (pc := 209) dX9_define_209 3 rfl ?_
  refine fb_iconst (pc := 210) (v := 2) dX9_define_210 fb_ki_2 ?_
  refine fb_iadd (pc := 211) dX9_define_211 ?_
  refine fb_bnE h (fun r212 h212 h => ?_)
  refine fb_cV0n (pc := 212) [.int (x3 + 2)] dX9_define_212 (mX9_readRest g u a0 (x3 + 2) ha0 h212) ymX9_readRest yiX9_readRest ha0.1 ha0.2 ylX9_240 rfl (Nat.le_of_ble_eq_true rfl) ⟨Nat.le_of_ble_eq_true rfl, Nat.le_of_ble_eq_true rfl⟩ ⟨Nat.le_of_ble_eq_true rfl, Nat.le_of_ble_eq_true rfl⟩ ?_
  refine fb_aload_n (pc := 215) dX9_define_215 0 rfl ?_
  refine fb_getI (pc := 216) dX9_define_216 lkX9_176 ha0.1 ha0.2 rfl ?_
  refine fb_if_eq (pc := 219) (tgt := 227) h dX9_define_219 (by decide) (fun h => ?_) (fun h => ?_)
  · refine fb_aload_n (pc := 227) dX9_define_227 0 rfl ?_
    refine fb_getI (pc := 228) dX9_define_228 lkX9_205 ha0.1 ha0.2 rfl ?_
    refine fb_if_eq (pc := 231) (tgt := 239) h dX9_define_231 (by decide) (fun h => ?_) (fun h => ?_)
    · refine fb_aload_n (pc := 239) dX9_define_239 0 rfl ?_
      refine fb_getI (pc := 240) dX9_define_240 lkX9_180 ha0.1 ha0.2 rfl ?_
      refine fb_bipush (pc := 243) (v := 6) dX9_define_243 fb_kb_6 ?_
      refine fb_icmp_gt (pc := 245) (tgt := 256) h dX9_define_245 (by decide) (fun h => ?_) (fun h => ?_)
      · refine fb_bipush (pc := 256) (v := (-5)) dX9_define_256 fb_kb_m5 ?_
        refine fb_goto (pc := 258) (tgt := 289) dX9_define_258 (by decide) ?_
        exact fb_sub [0, 1, 2, 4] rfl (tjX9_define_289 a0 x1 x2 x7 ((-5)) r212 ha0 h)
      · refine fb_aload_n (pc := 248) dX9_define_248 0 rfl ?_
        refine fb_getI (pc := 249) dX9_define_249 lkX9_208 ha0.1 ha0.2 rfl ?_
        refine fb_iconst (pc := 252) (v := 3) dX9_define_252 fb_ki_3 ?_
        refine fb_icmp_le (pc := 253) (tgt := 261) h dX9_define_253 (by decide) (fun h => ?_) (fun h => ?_)
        · refine fb_iload_n (pc := 261) dX9_define_261 1 rfl ?_
          refine fb_if_eq (pc := 262) (tgt := 274) h dX9_define_262 (by decide) (fun h => ?_) (fun h => ?_)
          · exact fb_sub [0, 1, 2, 4] rfl (tjX9_define_274 a0 x1 x2 x7 r212 ha0 h)
          · refine fb_iload_n (pc := 265) dX9_define_265 2 rfl ?_
            refine fb_if_eq (pc := 266) (tgt := 274) h dX9_define_266 (by decide) (fun h => ?_) (fun h => ?_)
            · exact fb_sub [0, 1, 2, 4] rfl (tjX9_define_274 a0 x1 x2 x7 r212 ha0 h)
            · refine fb_bipush (pc := 269) (v := (-6)) dX9_define_269 fb_kb_m6 ?_
              refine fb_goto (pc := 271) (tgt := 289) dX9_define_271 (by decide) ?_
              exact fb_sub [0, 1, 2, 4] rfl (tjX9_define_289 a0 x1 x2 x7 ((-6)) r212 ha0 h)
        · refine fb_bipush (pc := 256) (v := (-5)) dX9_define_256 fb_kb_m5 ?_
          refine fb_goto (pc := 258) (tgt := 289) dX9_define_258 (by decide) ?_
          exact fb_sub [0, 1, 2, 4] rfl (tjX9_define_289 a0 x1 x2 x7 ((-5)) r212 ha0 h)
    · refine fb_bipush (pc := 234) (v := (-4)) dX9_define_234 fb_kb_m4 ?_
      refine fb_goto (pc := 236) (tgt := 289) dX9_define_236 (by decide) ?_
      exact fb_sub [0, 1, 2, 4] rfl (tjX9_define_289 a0 x1 x2 x7 ((-4)) r212 ha0 h)
  · refine fb_bipush (pc := 222) (v := (-3)) dX9_define_222 fb_kb_m3 ?_
    refine fb_goto (pc := 224) (tgt := 289) dX9_define_224 (by decide) ?_
    exact fb_sub [0, 1, 2, 4] rfl (tjX9_define_289 a0 x1 x2 x7 ((-3)) r212 ha0 h)

def jX9_define_200 (a0 : Nat) (x1 : Int32) (x2 : Int32) (x3 : Int32) (x7 : Int32) (u : fb_M) : Option (Int32 × fb_M) :=
 (if x7 = 0 then (some ((-2), u))
  else (jX9_define_208 a0 x1 x2 x3 x7 u))
set_option maxRecDepth 100000 in
set_option maxHeartbeats 4000000 in
theorem tjX9_define_200 {g : fb_G} {res : (Int32 × fb_M)} (a0 : Nat) (x1 : Int32) (x2 : Int32) (x3 : Int32) (x7 : Int32) (u : fb_M) (ha0 : a0 < fb_NT ∧ fb_sh a0 = (9, 40)) (h : jX9_define_200 a0 x1 x2 x3 x7 u = some res) : fb_V g RX9 cX9_define 9 (some .int) "define" (fb_room 8 196 0 0) (fb_Qm g (some (.int res.1)) fb_NT res.2 0 0) 0 0 fb_NT u 200 [(0, .ref (fb_b g + a0)), (1, .int x1), (2, .int x2), (3, .int x3), (7, .int x7)] [] := by
  unfold jX9_define_200 at h
  refine fb_iload (pc := 200) dX9_define_200 4 rfl ?_
  refine fb_if_ne (pc := 202) (tgt := 208) h dX9_define_202 (by decide) (fun h => ?_) (fun h => ?_)
  · exact fb_sub [0, 1, 2, 3, 4] rfl (tjX9_define_208 a0 x1 x2 x3 x7 u ha0 h)
  · refine fb_bipush (pc := 205) (v := (-2)) dX9_define_205 fb_kb_m2 ?_
    exact fb_iretM (pc := 207) h dX9_define_207

def jX9_define_161 (a0 : Nat) (x1 : Int32) (x2 : Int32) (x3 : Int32) (x4 : Int32) (x5 : Int32) (x6 : Int32) (k0 : Int32) (u : fb_M) : Option (Int32 × fb_M) :=
 (if x2 < 0 then (some ((-1), u))
  else ((fX9_stands u a0 x3 (fb_I u a0 1) 17017).bind fun r176 => 
   (if r176 = 0 then (some ((-1), u))
   else (if 3 < x6 then (some ((-2), u))
    else (if x4 = 0 then (if x5 = 0 then (jX9_define_208 a0 x1 x2 x3 k0 u)
      else (jX9_define_200 a0 x1 x2 x3 k0 u))
     else (jX9_define_200 a0 x1 x2 x3 k0 u))))))
set_option maxRecDepth 100000 in
set_option maxHeartbeats 4000000 in
theorem tjX9_define_161 {g : fb_G} {res : (Int32 × fb_M)} (a0 : Nat) (x1 : Int32) (x2 : Int32) (x3 : Int32) (x4 : Int32) (x5 : Int32) (x6 : Int32) (k0 : Int32) (u : fb_M) (ha0 : a0 < fb_NT ∧ fb_sh a0 = (9, 40)) (h : jX9_define_161 a0 x1 x2 x3 x4 x5 x6 k0 u = some res) : fb_V g RX9 cX9_define 9 (some .int) "define" (fb_room 8 196 0 0) (fb_Qm g (some (.int res.1)) fb_NT res.2 0 0) 0 0 fb_NT u 161 [(0, .ref (fb_b g + a0)), (1, .int x1), (2, .int x2), (3, .int x3), (4, .int x4), (5, .int x5), (6, .int x6)] [.int k0] := by
  unfold jX9_define_161 at h
  refine fb_istore (pc := 161) (lv' := [(7, .int k0), (0, .ref (fb_b g + a0)), (1, .int x1), (2, .int x2), (3, .int x3), (4, .int x4), (5, .int x5), (6, .int x6)]) dX9_define_161 (by decide) rfl ?_
  refine fb_iload_n (pc := 163) dX9_define_163 3 rfl ?_
  refine fb_if_lt (pc := 164) (tgt := 182) h dX9_define_164 (by decide) (fun h => ?_) (fun h => ?_)
  · refine fb_iconst (pc := 182) (v := (-1)) dX9_define_182 fb_ki_m1 ?_
    exact fb_iretM (pc := 183) h dX9_define_183
  · refine fb_aload_n (pc := 167) dX9_define_167 1 rfl ?_
    refine fb_iload_n (pc := 168) dX9_define_168 4 rfl ?_
    refine fb_aload_n (pc := 169) dX9_define_169 1 rfl ?_
    refine fb_getI (pc := 170) dX9_define_170 lkX9_95 ha0.1 ha0.2 rfl ?_
    refine fb_ldc2 (pc := 173) (v := 17017) dX9_define_173 lwX9_238 ?_
    refine fb_bnE h (fun r176 h176 h => ?_)
    refine fb_cV0v (pc := 176) [.int x3, .int (fb_I u a0 1), .long 17017] dX9_define_176 (mX9_stands g u a0 x3 (fb_I u a0 1) 17017 ha0 h176) ymX9_stands yiX9_stands ha0.1 ha0.2 ylX9_188 rfl (Nat.le_of_ble_eq_true rfl) ⟨Nat.le_of_ble_eq_true rfl, Nat.le_of_ble_eq_true rfl⟩ ⟨Nat.le_of_ble_eq_true rfl, Nat.le_of_ble_eq_true rfl⟩ ?_
    refine fb_if_ne (pc := 179) (tgt := 184) h dX9_define_179 (by decide) (fun h => ?_) (fun h => ?_)
    · refine fb_iload (pc := 184) dX9_define_184 7 rfl ?_
      refine fb_iconst (pc := 186) (v := 3) dX9_define_186 fb_ki_3 ?_
      refine fb_icmp_gt (pc := 187) (tgt := 205) h dX9_define_187 (by decide) (fun h => ?_) (fun h => ?_)
      · refine fb_bipush (pc := 205) (v := (-2)) dX9_define_205 fb_kb_m2 ?_
        exact fb_iretM (pc := 207) h dX9_define_207
      · refine fb_iload (pc := 190) dX9_define_190 5 rfl ?_
        refine fb_if_ne (pc := 192) (tgt := 200) h dX9_define_192 (by decide) (fun h => ?_) (fun h => ?_)
        · exact fb_sub [1, 2, 3, 4, 0] rfl (tjX9_define_200 a0 x1 x2 x3 k0 u ha0 h)
        · refine fb_iload (pc := 195) dX9_define_195 6 rfl ?_
          refine fb_if_eq (pc := 197) (tgt := 208) h dX9_define_197 (by decide) (fun h => ?_) (fun h => ?_)
          · exact fb_sub [1, 2, 3, 4, 0] rfl (tjX9_define_208 a0 x1 x2 x3 k0 u ha0 h)
          · exact fb_sub [1, 2, 3, 4, 0] rfl (tjX9_define_200 a0 x1 x2 x3 k0 u ha0 h)
    · refine fb_iconst (pc := 182) (v := (-1)) dX9_define_182 fb_ki_m1 ?_
      exact fb_iretM (pc := 183) h dX9_define_183

def jX9_define_150 (a0 : Nat) (x1 : Int32) (x2 : Int32) (x3 : Int32) (x4 : Int32) (x5 : Int32) (x6 : Int32) (x7 : Int32) (u : fb_M) : Option (Int32 × fb_M) :=
 (if x6 = 0 then (jX9_define_161 a0 x1 x2 x3 x4 x5 x6 1 u)
  else (jX9_define_161 a0 x1 x2 x3 x4 x5 x6 x7 u))
set_option maxRecDepth 100000 in
set_option maxHeartbeats 4000000 in
theorem tjX9_define_150 {g : fb_G} {res : (Int32 × fb_M)} (a0 : Nat) (x1 : Int32) (x2 : Int32) (x3 : Int32) (x4 : Int32) (x5 : Int32) (x6 : Int32) (x7 : Int32) (u : fb_M) (ha0 : a0 < fb_NT ∧ fb_sh a0 = (9, 40)) (h : jX9_define_150 a0 x1 x2 x3 x4 x5 x6 x7 u = some res) : fb_V g RX9 cX9_define 9 (some .int) "define" (fb_room 8 196 0 0) (fb_Qm g (some (.int res.1)) fb_NT res.2 0 0) 0 0 fb_NT u 150 [(0, .ref (fb_b g + a0)), (1, .int x1), (2, .int x2), (3, .int x3), (4, .int x4), (5, .int x5), (6, .int x6), (7, .int x7)] [] := by
  unfold jX9_define_150 at h
  refine fb_iload (pc := 150) dX9_define_150 6 rfl ?_
  refine fb_if_ne (pc := 152) (tgt := 159) h dX9_define_152 (by decide) (fun h => ?_) (fun h => ?_)
  · refine fb_iload (pc := 159) dX9_define_159 7 rfl ?_
    exact fb_sub [0, 1, 2, 3, 4, 5, 6] rfl (tjX9_define_161 a0 x1 x2 x3 x4 x5 x6 x7 u ha0 h)
  · refine fb_iconst (pc := 155) (v := 1) dX9_define_155 fb_ki_1 ?_
    refine fb_goto (pc := 156) (tgt := 161) dX9_define_156 (by decide) ?_
    exact fb_sub [0, 1, 2, 3, 4, 5, 6] rfl (tjX9_define_161 a0 x1 x2 x3 x4 x5 x6 1 u ha0 h)

def jX9_define_140 (a0 : Nat) (x1 : Int32) (x2 : Int32) (x3 : Int32) (x4 : Int32) (x5 : Int32) (x6 : Int32) (x7 : Int32) (u : fb_M) : Option (Int32 × fb_M) :=
 (if x4 = 0 then (if x5 = 0 then (jX9_define_161 a0 x1 x2 x3 x4 x5 x6 x7 u)
   else (jX9_define_150 a0 x1 x2 x3 x4 x5 x6 x7 u))
  else (jX9_define_150 a0 x1 x2 x3 x4 x5 x6 x7 u))
set_option maxRecDepth 100000 in
set_option maxHeartbeats 4000000 in
theorem tjX9_define_140 {g : fb_G} {res : (Int32 × fb_M)} (a0 : Nat) (x1 : Int32) (x2 : Int32) (x3 : Int32) (x4 : Int32) (x5 : Int32) (x6 : Int32) (x7 : Int32) (u : fb_M) (ha0 : a0 < fb_NT ∧ fb_sh a0 = (9, 40)) (h : jX9_define_140 a0 x1 x2 x3 x4 x5 x6 x7 u = some res) : fb_V g RX9 cX9_define 9 (some .int) "define" (fb_room 8 196 0 0) (fb_Qm g (some (.int res.1)) fb_NT res.2 0 0) 0 0 fb_NT u 140 [(0, .ref (fb_b g + a0)), (1, .int x1), (2, .int x2), (3, .int x3), (4, .int x4), (5, .int x5), (6, .int x6), (7, .int x7)] [] := by
  unfold jX9_define_140 at h
  refine fb_iload (pc := 140) dX9_define_140 4 rfl ?_
  refine fb_if_ne (pc := 142) (tgt := 150) h dX9_define_142 (by decide) (fun h => ?_) (fun h => ?_)
  · exact fb_sub [0, 1, 2, 3, 4, 5, 6, 7] rfl (tjX9_define_150 a0 x1 x2 x3 x4 x5 x6 x7 u ha0 h)
  · refine fb_iload (pc := 145) dX9_define_145 5 rfl ?_
    refine fb_if_eq (pc := 147) (tgt := 159) h dX9_define_147 (by decide) (fun h => ?_) (fun h => ?_)
    · refine fb_iload (pc := 159) dX9_define_159 7 rfl ?_
      exact fb_sub [0, 1, 2, 3, 4, 5, 6] rfl (tjX9_define_161 a0 x1 x2 x3 x4 x5 x6 x7 u ha0 h)
    · exact fb_sub [0, 1, 2, 3, 4, 5, 6, 7] rfl (tjX9_define_150 a0 x1 x2 x3 x4 x5 x6 x7 u ha0 h)

def jX9_define_93 (K83 : Int32 → Int32 → Int32 → Option (Int32 × fb_M)) (a0 : Nat) (x1 : Int32) (x2 : Int32) (x3 : Int32) (x4 : Int32) (x5 : Int32) (x6 : Int32) (x7 : Int32) (u : fb_M) : Option (Int32 × fb_M) :=
 ((fX9_at u a0 x3).bind fun r95 => 
  ((fX9_figure u r95).bind fun r98 => 
  (if r98 = 0 then (jX9_define_140 a0 x1 x2 x3 x4 x5 x6 x7 u)
  else (if 3 ≤ x6 then (K83 (x3 + 1) (x6 + 1) x7)
   else ((fX9_at u a0 x3).bind fun r117 => 
    (K83 (x3 + 1) (x6 + 1) (((10 * x7) + r117) - 48)))))))
set_option maxRecDepth 100000 in
set_option maxHeartbeats 4000000 in
theorem tjX9_define_93 {g : fb_G} {res : (Int32 × fb_M)} (a0 : Nat) (x1 : Int32) (x2 : Int32) (x3 : Int32) (x4 : Int32) (x5 : Int32) (x6 : Int32) (x7 : Int32) (u : fb_M) (K83 : Int32 → Int32 → Int32 → Option (Int32 × fb_M)) (ha0 : a0 < fb_NT ∧ fb_sh a0 = (9, 40)) (hK83 : ∀ (x3 : Int32) (x6 : Int32) (x7 : Int32) ,  K83 x3 x6 x7 = some res → fb_V g RX9 cX9_define 9 (some .int) "define" (fb_room 8 196 0 0) (fb_Qm g (some (.int res.1)) fb_NT res.2 0 0) 0 0 fb_NT u 83 [(0, .ref (fb_b g + a0)), (1, .int x1), (2, .int x2), (3, .int x3), (4, .int x4), (5, .int x5), (6, .int x6), (7, .int x7)] []) (h : jX9_define_93 K83 a0 x1 x2 x3 x4 x5 x6 x7 u = some res) : fb_V g RX9 cX9_define 9 (some .int) "define" (fb_room 8 196 0 0) (fb_Qm g (some (.int res.1)) fb_NT res.2 0 0) 0 0 fb_NT u 93 [(0, .ref (fb_b g + a0)), (1, .int x1), (2, .int x2), (3, .int x3), (4, .int x4), (5, .int x5), (6, .int x6), (7, .int x7)] [] := by
  unfold jX9_define_93 at h
  refine fb_aload_n (pc := 93) dX9_define_93 0 rfl ?_
  refine fb_iload_n (pc := 94) dX9_define_94 3 rfl ?_
  refine fb_bnE h (fun r95 h95 h => ?_)
  refine fb_cV0v (pc := 95) [.int x3] dX9_define_95 (mX9_at g u a0 x3 ha0 h95) ymX9_at yiX9_at ha0.1 ha0.2 ylX9_99 rfl (Nat.le_of_ble_eq_true rfl) ⟨Nat.le_of_ble_eq_true rfl, Nat.le_of_ble_eq_true rfl⟩ ⟨Nat.le_of_ble_eq_true rfl, Nat.le_of_ble_eq_true rfl⟩ ?_
  refine fb_bnE h (fun r98 h98 h => ?_)
  refine fb_cS0v (pc := 98) [.int r95] dX9_define_98 (mX9_figure g u r95 h98) ymX9_figure ysX9_figure ylX9_120 rfl (Nat.le_of_ble_eq_true rfl) ⟨Nat.le_of_ble_eq_true rfl, Nat.le_of_ble_eq_true rfl⟩ ⟨Nat.le_of_ble_eq_true rfl, Nat.le_of_ble_eq_true rfl⟩ ?_
  refine fb_if_eq (pc := 101) (tgt := 140) h dX9_define_101 (by decide) (fun h => ?_) (fun h => ?_)
  · exact fb_sub [0, 1, 2, 3, 4, 5, 6, 7] rfl (tjX9_define_140 a0 x1 x2 x3 x4 x5 x6 x7 u ha0 h)
  · refine fb_iload (pc := 104) dX9_define_104 6 rfl ?_
    refine fb_iconst (pc := 106) (v := 3) dX9_define_106 fb_ki_3 ?_
    refine fb_icmp_ge (pc := 107) (tgt := 127) h dX9_define_107 (by decide) (fun h => ?_) (fun h => ?_)
    · refine fb_iload (pc := 127) dX9_define_127 7 rfl ?_
      refine fb_istore (pc := 129) (lv' := [(7, .int x7), (0, .ref (fb_b g + a0)), (1, .int x1), (2, .int x2), (3, .int x3), (4, .int x4), (5, .int x5), (6, .int x6)]) dX9_define_129 (by decide) rfl ?_
      refine fb_iinc (pc := 131) (v := 1) (lv' := [(6, .int (x6 + 1)), (7, .int x7), (0, .ref (fb_b g + a0)), (1, .int x1), (2, .int x2), (3, .int x3), (4, .int x4), (5, .int x5)]) dX9_define_131 7 rfl fb_ki_1 (by decide) rfl ?_
      refine fb_iinc (pc := 134) (v := 1) (lv' := [(3, .int (x3 + 1)), (6, .int (x6 + 1)), (7, .int x7), (0, .ref (fb_b g + a0)), (1, .int x1), (2, .int x2), (4, .int x4), (5, .int x5)]) dX9_define_134 5 rfl fb_ki_1 (by decide) rfl ?_
      refine fb_goto (pc := 137) (tgt := 83) dX9_define_137 (by decide) ?_
      exact fb_sub [3, 4, 5, 0, 6, 7, 1, 2] rfl (hK83 (x3 + 1) (x6 + 1) x7 h)
    · refine fb_bipush (pc := 110) (v := 10) dX9_define_110 fb_kb_10 ?_
      refine fb_iload (pc := 112) dX9_define_112 7 rfl ?_
      refine fb_imul (pc := 114) dX9_define_114 ?_
      refine fb_aload_n (pc := 115) dX9_define_115 0 rfl ?_
      refine fb_iload_n (pc := 116) dX9_define_116 3 rfl ?_
      refine fb_bnE h (fun r117 h117 h => ?_)
      refine fb_cV0v (pc := 117) [.int x3] dX9_define_117 (mX9_at g u a0 x3 ha0 h117) ymX9_at yiX9_at ha0.1 ha0.2 ylX9_99 rfl (Nat.le_of_ble_eq_true rfl) ⟨Nat.le_of_ble_eq_true rfl, Nat.le_of_ble_eq_true rfl⟩ ⟨Nat.le_of_ble_eq_true rfl, Nat.le_of_ble_eq_true rfl⟩ ?_
      refine fb_iadd (pc := 120) dX9_define_120 ?_
      refine fb_bipush (pc := 121) (v := 48) dX9_define_121 fb_kb_48 ?_
      refine fb_isub (pc := 123) dX9_define_123 ?_
      refine fb_goto (pc := 124) (tgt := 129) dX9_define_124 (by decide) ?_
      refine fb_istore (pc := 129) (lv' := [(7, .int (((10 * x7) + r117) - 48)), (0, .ref (fb_b g + a0)), (1, .int x1), (2, .int x2), (3, .int x3), (4, .int x4), (5, .int x5), (6, .int x6)]) dX9_define_129 (by decide) rfl ?_
      refine fb_iinc (pc := 131) (v := 1) (lv' := [(6, .int (x6 + 1)), (7, .int (((10 * x7) + r117) - 48)), (0, .ref (fb_b g + a0)), (1, .int x1), (2, .int x2), (3, .int x3), (4, .int x4), (5, .int x5)]) dX9_define_131 7 rfl fb_ki_1 (by decide) rfl ?_
      refine fb_iinc (pc := 134) (v := 1) (lv' := [(3, .int (x3 + 1)), (6, .int (x6 + 1)), (7, .int (((10 * x7) + r117) - 48)), (0, .ref (fb_b g + a0)), (1, .int x1), (2, .int x2), (4, .int x4), (5, .int x5)]) dX9_define_134 5 rfl fb_ki_1 (by decide) rfl ?_
      refine fb_goto (pc := 137) (tgt := 83) dX9_define_137 (by decide) ?_
      exact fb_sub [3, 4, 5, 0, 6, 7, 1, 2] rfl (hK83 (x3 + 1) (x6 + 1) (((10 * x7) + r117) - 48) h)

def bX9_define_83 (K83 : Int32 → Int32 → Int32 → Option (Int32 × fb_M)) (a0 : Nat) (x1 : Int32) (x2 : Int32) (x4 : Int32) (x5 : Int32) (x3 : Int32) (x6 : Int32) (x7 : Int32) (u : fb_M) : Option (Int32 × fb_M) :=
 (if x4 = 0 then (if x5 = 0 then (jX9_define_140 a0 x1 x2 x3 x4 x5 x6 x7 u)
   else (jX9_define_93 K83 a0 x1 x2 x3 x4 x5 x6 x7 u))
  else (jX9_define_93 K83 a0 x1 x2 x3 x4 x5 x6 x7 u))
def gX9_define_83 (a0 : Nat) (x1 : Int32) (x2 : Int32) (x4 : Int32) (x5 : Int32) (u : fb_M) : Nat → Int32 → Int32 → Int32 → Option (Int32 × fb_M)
 | 0 => fun _ _ _ => none
 | fu + 1 => fun x3 x6 x7 => bX9_define_83 (gX9_define_83 a0 x1 x2 x4 x5 u fu) a0 x1 x2 x4 x5 x3 x6 x7 u
set_option maxRecDepth 100000 in
set_option maxHeartbeats 4000000 in
theorem tbX9_define_83 {g : fb_G} {res : (Int32 × fb_M)} (a0 : Nat) (x1 : Int32) (x2 : Int32) (x4 : Int32) (x5 : Int32) (x3 : Int32) (x6 : Int32) (x7 : Int32) (u : fb_M) (K83 : Int32 → Int32 → Int32 → Option (Int32 × fb_M)) (ha0 : a0 < fb_NT ∧ fb_sh a0 = (9, 40)) (hK83 : ∀ (x3 : Int32) (x6 : Int32) (x7 : Int32) ,  K83 x3 x6 x7 = some res → fb_V g RX9 cX9_define 9 (some .int) "define" (fb_room 8 196 0 0) (fb_Qm g (some (.int res.1)) fb_NT res.2 0 0) 0 0 fb_NT u 83 [(0, .ref (fb_b g + a0)), (1, .int x1), (2, .int x2), (3, .int x3), (4, .int x4), (5, .int x5), (6, .int x6), (7, .int x7)] []) (h : bX9_define_83 K83 a0 x1 x2 x4 x5 x3 x6 x7 u = some res) : fb_V g RX9 cX9_define 9 (some .int) "define" (fb_room 8 196 0 0) (fb_Qm g (some (.int res.1)) fb_NT res.2 0 0) 0 0 fb_NT u 83 [(0, .ref (fb_b g + a0)), (1, .int x1), (2, .int x2), (3, .int x3), (4, .int x4), (5, .int x5), (6, .int x6), (7, .int x7)] [] := by
  unfold bX9_define_83 at h
  refine fb_iload (pc := 83) dX9_define_83 4 rfl ?_
  refine fb_if_ne (pc := 85) (tgt := 93) h dX9_define_85 (by decide) (fun h => ?_) (fun h => ?_)
  · exact fb_sub [0, 1, 2, 3, 4, 5, 6, 7] rfl (tjX9_define_93 a0 x1 x2 x3 x4 x5 x6 x7 u K83 ha0 hK83 h)
  · refine fb_iload (pc := 88) dX9_define_88 5 rfl ?_
    refine fb_if_eq (pc := 90) (tgt := 140) h dX9_define_90 (by decide) (fun h => ?_) (fun h => ?_)
    · exact fb_sub [0, 1, 2, 3, 4, 5, 6, 7] rfl (tjX9_define_140 a0 x1 x2 x3 x4 x5 x6 x7 u ha0 h)
    · exact fb_sub [0, 1, 2, 3, 4, 5, 6, 7] rfl (tjX9_define_93 a0 x1 x2 x3 x4 x5 x6 x7 u K83 ha0 hK83 h)

theorem tgX9_define_83 {g : fb_G} {res : (Int32 × fb_M)} (a0 : Nat) (x1 : Int32) (x2 : Int32) (x4 : Int32) (x5 : Int32) (u : fb_M) (ha0 : a0 < fb_NT ∧ fb_sh a0 = (9, 40)) : ∀ (fu : Nat) (x3 : Int32) (x6 : Int32) (x7 : Int32) ,  gX9_define_83 a0 x1 x2 x4 x5 u fu x3 x6 x7 = some res → fb_V g RX9 cX9_define 9 (some .int) "define" (fb_room 8 196 0 0) (fb_Qm g (some (.int res.1)) fb_NT res.2 0 0) 0 0 fb_NT u 83 [(0, .ref (fb_b g + a0)), (1, .int x1), (2, .int x2), (3, .int x3), (4, .int x4), (5, .int x5), (6, .int x6), (7, .int x7)] [] := by
  intro fu
  induction fu with
  | zero => intro x3 x6 x7 h; exact absurd h (by simp [gX9_define_83])
  | succ fu ih => intro x3 x6 x7 h; exact tbX9_define_83 a0 x1 x2 x4 x5 x3 x6 x7 u (gX9_define_83 a0 x1 x2 x4 x5 u fu) ha0 ih h
def jX9_define_24 (a0 : Nat) (x1 : Int32) (x2 : Int32) (k0 : Int32) (u : fb_M) : Option (Int32 × fb_M) :=
 ((fX9_stands u a0 k0 (fb_I u a0 1) 5533552).bind fun r34 => 
  ((fX9_stands u a0 k0 (fb_I u a0 1) 302416819060).bind fun r48 => 
  (if r34 = 0 then (if r48 = 0 then (gX9_define_83 a0 x1 x2 r34 r48 u fb_F k0 0 0)
   else (gX9_define_83 a0 x1 x2 r34 r48 u fb_F (k0 + 5) 0 0))
  else (gX9_define_83 a0 x1 x2 r34 r48 u fb_F (k0 + 3) 0 0))))
set_option maxRecDepth 100000 in
set_option maxHeartbeats 4000000 in
theorem tjX9_define_24 {g : fb_G} {res : (Int32 × fb_M)} (a0 : Nat) (x1 : Int32) (x2 : Int32) (k0 : Int32) (u : fb_M) (ha0 : a0 < fb_NT ∧ fb_sh a0 = (9, 40)) (h : jX9_define_24 a0 x1 x2 k0 u = some res) : fb_V g RX9 cX9_define 9 (some .int) "define" (fb_room 8 196 0 0) (fb_Qm g (some (.int res.1)) fb_NT res.2 0 0) 0 0 fb_NT u 24 [(0, .ref (fb_b g + a0)), (1, .int x1), (2, .int x2)] [.int k0] := by
  unfold jX9_define_24 at h
  refine fb_istore_n (pc := 24) (lv' := [(3, .int k0), (0, .ref (fb_b g + a0)), (1, .int x1), (2, .int x2)]) dX9_define_24 rfl (by decide) rfl ?_
  refine fb_aload_n (pc := 25) dX9_define_25 1 rfl ?_
  refine fb_iload_n (pc := 26) dX9_define_26 0 rfl ?_
  refine fb_aload_n (pc := 27) dX9_define_27 1 rfl ?_
  refine fb_getI (pc := 28) dX9_define_28 lkX9_95 ha0.1 ha0.2 rfl ?_
  refine fb_ldc2 (pc := 31) (v := 5533552) dX9_define_31 lwX9_234 ?_
  refine fb_bnE h (fun r34 h34 h => ?_)
  refine fb_cV0v (pc := 34) [.int k0, .int (fb_I u a0 1), .long 5533552] dX9_define_34 (mX9_stands g u a0 k0 (fb_I u a0 1) 5533552 ha0 h34) ymX9_stands yiX9_stands ha0.1 ha0.2 ylX9_188 rfl (Nat.le_of_ble_eq_true rfl) ⟨Nat.le_of_ble_eq_true rfl, Nat.le_of_ble_eq_true rfl⟩ ⟨Nat.le_of_ble_eq_true rfl, Nat.le_of_ble_eq_true rfl⟩ ?_
  refine fb_istore (pc := 37) (lv' := [(4, .int r34), (3, .int k0), (0, .ref (fb_b g + a0)), (1, .int x1), (2, .int x2)]) dX9_define_37 (by decide) rfl ?_
  refine fb_aload_n (pc := 39) dX9_define_39 2 rfl ?_
  refine fb_iload_n (pc := 40) dX9_define_40 1 rfl ?_
  refine fb_aload_n (pc := 41) dX9_define_41 2 rfl ?_
  refine fb_getI (pc := 42) dX9_define_42 lkX9_95 ha0.1 ha0.2 rfl ?_
  refine fb_ldc2 (pc := 45) (v := 302416819060) dX9_define_45 lwX9_236 ?_
  refine fb_bnE h (fun r48 h48 h => ?_)
  refine fb_cV0v (pc := 48) [.int k0, .int (fb_I u a0 1), .long 302416819060] dX9_define_48 (mX9_stands g u a0 k0 (fb_I u a0 1) 302416819060 ha0 h48) ymX9_stands yiX9_stands ha0.1 ha0.2 ylX9_188 rfl (Nat.le_of_ble_eq_true rfl) ⟨Nat.le_of_ble_eq_true rfl, Nat.le_of_ble_eq_true rfl⟩ ⟨Nat.le_of_ble_eq_true rfl, Nat.le_of_ble_eq_true rfl⟩ ?_
  refine fb_istore (pc := 51) (lv' := [(5, .int r48), (4, .int r34), (3, .int k0), (0, .ref (fb_b g + a0)), (1, .int x1), (2, .int x2)]) dX9_define_51 (by decide) rfl ?_
  refine fb_iload (pc := 53) dX9_define_53 1 rfl ?_
  refine fb_if_eq (pc := 55) (tgt := 64) h dX9_define_55 (by decide) (fun h => ?_) (fun h => ?_)
  · refine fb_iload (pc := 64) dX9_define_64 0 rfl ?_
    refine fb_if_eq (pc := 66) (tgt := 75) h dX9_define_66 (by decide) (fun h => ?_) (fun h => ?_)
    · refine fb_iload_n (pc := 75) dX9_define_75 2 rfl ?_
      refine fb_istore_n (pc := 76) (lv' := [(3, .int k0), (5, .int r48), (4, .int r34), (0, .ref (fb_b g + a0)), (1, .int x1), (2, .int x2)]) dX9_define_76 rfl (by decide) rfl ?_
      refine fb_iconst (pc := 77) (v := 0) dX9_define_77 fb_ki_0 ?_
      refine fb_istore (pc := 78) (lv' := [(6, .int 0), (3, .int k0), (5, .int r48), (4, .int r34), (0, .ref (fb_b g + a0)), (1, .int x1), (2, .int x2)]) dX9_define_78 (by decide) rfl ?_
      refine fb_iconst (pc := 80) (v := 0) dX9_define_80 fb_ki_0 ?_
      refine fb_istore (pc := 81) (lv' := [(7, .int 0), (6, .int 0), (3, .int k0), (5, .int r48), (4, .int r34), (0, .ref (fb_b g + a0)), (1, .int x1), (2, .int x2)]) dX9_define_81 (by decide) rfl ?_
      exact fb_sub [5, 6, 7, 2, 4, 3, 1, 0] rfl (tgX9_define_83 a0 x1 x2 r34 r48 u ha0 fb_F k0 0 0 h)
    · refine fb_iload_n (pc := 69) dX9_define_69 2 rfl ?_
      refine fb_iconst (pc := 70) (v := 5) dX9_define_70 fb_ki_5 ?_
      refine fb_iadd (pc := 71) dX9_define_71 ?_
      refine fb_goto (pc := 72) (tgt := 76) dX9_define_72 (by decide) ?_
      refine fb_istore_n (pc := 76) (lv' := [(3, .int (k0 + 5)), (5, .int r48), (4, .int r34), (0, .ref (fb_b g + a0)), (1, .int x1), (2, .int x2)]) dX9_define_76 rfl (by decide) rfl ?_
      refine fb_iconst (pc := 77) (v := 0) dX9_define_77 fb_ki_0 ?_
      refine fb_istore (pc := 78) (lv' := [(6, .int 0), (3, .int (k0 + 5)), (5, .int r48), (4, .int r34), (0, .ref (fb_b g + a0)), (1, .int x1), (2, .int x2)]) dX9_define_78 (by decide) rfl ?_
      refine fb_iconst (pc := 80) (v := 0) dX9_define_80 fb_ki_0 ?_
      refine fb_istore (pc := 81) (lv' := [(7, .int 0), (6, .int 0), (3, .int (k0 + 5)), (5, .int r48), (4, .int r34), (0, .ref (fb_b g + a0)), (1, .int x1), (2, .int x2)]) dX9_define_81 (by decide) rfl ?_
      exact fb_sub [5, 6, 7, 2, 4, 3, 1, 0] rfl (tgX9_define_83 a0 x1 x2 r34 r48 u ha0 fb_F (k0 + 5) 0 0 h)
  · refine fb_iload_n (pc := 58) dX9_define_58 2 rfl ?_
    refine fb_iconst (pc := 59) (v := 3) dX9_define_59 fb_ki_3 ?_
    refine fb_iadd (pc := 60) dX9_define_60 ?_
    refine fb_goto (pc := 61) (tgt := 76) dX9_define_61 (by decide) ?_
    refine fb_istore_n (pc := 76) (lv' := [(3, .int (k0 + 3)), (5, .int r48), (4, .int r34), (0, .ref (fb_b g + a0)), (1, .int x1), (2, .int x2)]) dX9_define_76 rfl (by decide) rfl ?_
    refine fb_iconst (pc := 77) (v := 0) dX9_define_77 fb_ki_0 ?_
    refine fb_istore (pc := 78) (lv' := [(6, .int 0), (3, .int (k0 + 3)), (5, .int r48), (4, .int r34), (0, .ref (fb_b g + a0)), (1, .int x1), (2, .int x2)]) dX9_define_78 (by decide) rfl ?_
    refine fb_iconst (pc := 80) (v := 0) dX9_define_80 fb_ki_0 ?_
    refine fb_istore (pc := 81) (lv' := [(7, .int 0), (6, .int 0), (3, .int (k0 + 3)), (5, .int r48), (4, .int r34), (0, .ref (fb_b g + a0)), (1, .int x1), (2, .int x2)]) dX9_define_81 (by decide) rfl ?_
    exact fb_sub [5, 6, 7, 2, 4, 3, 1, 0] rfl (tgX9_define_83 a0 x1 x2 r34 r48 u ha0 fb_F (k0 + 3) 0 0 h)

def fX9_define (u : fb_M) (a0 : Nat) (x1 : Int32) : Option (Int32 × fb_M) :=
 ((fX9_subjectOf u a0).bind fun r1 => 
  (if r1 = 0 then (jX9_define_24 a0 x1 r1 4 u)
  else (if r1 = 1 then (jX9_define_24 a0 x1 r1 5 u)
   else (jX9_define_24 a0 x1 r1 6 u))))
set_option maxRecDepth 100000 in
set_option maxHeartbeats 4000000 in
theorem mX9_define (g : fb_G) (u : fb_M) (a0 : Nat) (x1 : Int32) (ha0 : a0 < fb_NT ∧ fb_sh a0 = (9, 40)) {res : (Int32 × fb_M)} (h : fX9_define u a0 x1 = some res) : fb_Runs g 8 196 0 0 fb_NT fb_NT yX9_define cX9_define 9 (some .int) [.ref (fb_b g + a0), .int x1] u (some (.int res.1)) res.2 := by
  unfold fX9_define at h
  refine fb_enter (by decide) (Nat.le_of_ble_eq_true rfl) ?_
  show fb_V g RX9 cX9_define 9 (some .int) "define" (fb_room 8 196 0 0) (fb_Qm g (some (.int res.1)) fb_NT res.2 0 0) 0 0 fb_NT u 0 [(0, .ref (fb_b g + a0)), (1, .int x1)] []
  refine fb_aload_n (pc := 0) dX9_define_0 0 rfl ?_
  refine fb_bnE h (fun r1 h1 h => ?_)
  refine fb_cV0v (pc := 1) [] dX9_define_1 (mX9_subjectOf g u a0 ha0 h1) ymX9_subjectOf yiX9_subjectOf ha0.1 ha0.2 ylX9_230 rfl (Nat.le_of_ble_eq_true rfl) ⟨Nat.le_of_ble_eq_true rfl, Nat.le_of_ble_eq_true rfl⟩ ⟨Nat.le_of_ble_eq_true rfl, Nat.le_of_ble_eq_true rfl⟩ ?_
  refine fb_istore_n (pc := 4) (lv' := [(2, .int r1), (0, .ref (fb_b g + a0)), (1, .int x1)]) dX9_define_4 rfl (by decide) rfl ?_
  refine fb_iload_n (pc := 5) dX9_define_5 0 rfl ?_
  refine fb_if_ne (pc := 6) (tgt := 13) h dX9_define_6 (by decide) (fun h => ?_) (fun h => ?_)
  · refine fb_iload_n (pc := 13) dX9_define_13 0 rfl ?_
    refine fb_iconst (pc := 14) (v := 1) dX9_define_14 fb_ki_1 ?_
    refine fb_icmp_ne (pc := 15) (tgt := 22) h dX9_define_15 (by decide) (fun h => ?_) (fun h => ?_)
    · refine fb_bipush (pc := 22) (v := 6) dX9_define_22 fb_kb_6 ?_
      exact fb_sub [1, 2, 0] rfl (tjX9_define_24 a0 x1 r1 6 u ha0 h)
    · refine fb_iconst (pc := 18) (v := 5) dX9_define_18 fb_ki_5 ?_
      refine fb_goto (pc := 19) (tgt := 24) dX9_define_19 (by decide) ?_
      exact fb_sub [1, 2, 0] rfl (tjX9_define_24 a0 x1 r1 5 u ha0 h)
  · refine fb_iconst (pc := 9) (v := 4) dX9_define_9 fb_ki_4 ?_
    refine fb_goto (pc := 10) (tgt := 24) dX9_define_10 (by decide) ?_
    exact fb_sub [1, 2, 0] rfl (tjX9_define_24 a0 x1 r1 4 u ha0 h)

theorem dX9_takes_0 : decode cX9_takes 0 = .ok (.iload_n 0, 1) := by decide +kernel
theorem dX9_takes_1 : decode cX9_takes 1 = .ok (.bipush 6, 2) := by decide +kernel
theorem dX9_takes_3 : decode cX9_takes 3 = .ok (.if_icmp .ne 7, 3) := by decide +kernel
theorem dX9_takes_6 : decode cX9_takes 6 = .ok (.iconst 2, 1) := by decide +kernel
theorem dX9_takes_7 : decode cX9_takes 7 = .ok (.goto 14, 3) := by decide +kernel
theorem dX9_takes_10 : decode cX9_takes 10 = .ok (.iload_n 0, 1) := by decide +kernel
theorem dX9_takes_11 : decode cX9_takes 11 = .ok (.bipush 6, 2) := by decide +kernel
theorem dX9_takes_13 : decode cX9_takes 13 = .ok (.if_icmp .le 7, 3) := by decide +kernel
theorem dX9_takes_16 : decode cX9_takes 16 = .ok (.iconst 0, 1) := by decide +kernel
theorem dX9_takes_17 : decode cX9_takes 17 = .ok (.goto 4, 3) := by decide +kernel
theorem dX9_takes_20 : decode cX9_takes 20 = .ok (.iconst 1, 1) := by decide +kernel
theorem dX9_takes_21 : decode cX9_takes 21 = .ok (.ireturn, 1) := by decide +kernel
def fX9_takes (u : fb_M) (x0 : Int32) : Option Int32 :=
 (if x0 = 6 then (some 2)
  else (if x0 ≤ 6 then (some 1)
   else (some 0)))
set_option maxRecDepth 100000 in
set_option maxHeartbeats 4000000 in
theorem mX9_takes (g : fb_G) (u : fb_M) (x0 : Int32) {res : Int32} (h : fX9_takes u x0 = some res) : fb_Runs g 0 0 0 0 fb_NT fb_NT yX9_takes cX9_takes 1 (some .int) [.int x0] u (some (.int res)) u := by
  unfold fX9_takes at h
  refine fb_enter (by decide) (Nat.le_of_ble_eq_true rfl) ?_
  show fb_V g RX9 cX9_takes 1 (some .int) "takes" (fb_room 0 0 0 0) (fb_Qm g (some (.int res)) fb_NT u 0 0) 0 0 fb_NT u 0 [(0, .int x0)] []
  refine fb_iload_n (pc := 0) dX9_takes_0 0 rfl ?_
  refine fb_bipush (pc := 1) (v := 6) dX9_takes_1 fb_kb_6 ?_
  refine fb_icmp_ne (pc := 3) (tgt := 10) h dX9_takes_3 (by decide) (fun h => ?_) (fun h => ?_)
  · refine fb_iload_n (pc := 10) dX9_takes_10 0 rfl ?_
    refine fb_bipush (pc := 11) (v := 6) dX9_takes_11 fb_kb_6 ?_
    refine fb_icmp_le (pc := 13) (tgt := 20) h dX9_takes_13 (by decide) (fun h => ?_) (fun h => ?_)
    · refine fb_iconst (pc := 20) (v := 1) dX9_takes_20 fb_ki_1 ?_
      exact fb_iretR (pc := 21) h dX9_takes_21
    · refine fb_iconst (pc := 16) (v := 0) dX9_takes_16 fb_ki_0 ?_
      refine fb_goto (pc := 17) (tgt := 21) dX9_takes_17 (by decide) ?_
      exact fb_iretR (pc := 21) h dX9_takes_21
  · refine fb_iconst (pc := 6) (v := 2) dX9_takes_6 fb_ki_2 ?_
    refine fb_goto (pc := 7) (tgt := 21) dX9_takes_7 (by decide) ?_
    exact fb_iretR (pc := 21) h dX9_takes_21

theorem dX9_takesAll_0 : decode cX9_takesAll 0 = .ok (.iconst 0, 1) := by decide +kernel
theorem dX9_takesAll_1 : decode cX9_takesAll 1 = .ok (.istore_n 2, 1) := by decide +kernel
theorem dX9_takesAll_2 : decode cX9_takesAll 2 = .ok (.iconst 0, 1) := by decide +kernel
theorem dX9_takesAll_3 : decode cX9_takesAll 3 = .ok (.istore_n 3, 1) := by decide +kernel
theorem dX9_takesAll_4 : decode cX9_takesAll 4 = .ok (.iload_n 3, 1) := by decide +kernel
theorem dX9_takesAll_5 : decode cX9_takesAll 5 = .ok (.aload_n 0, 1) := by decide +kernel
theorem dX9_takesAll_6 : decode cX9_takesAll 6 = .ok (.getfield 32, 3) := by decide +kernel
theorem dX9_takesAll_9 : decode cX9_takesAll 9 = .ok (.iload_n 1, 1) := by decide +kernel
theorem dX9_takesAll_10 : decode cX9_takesAll 10 = .ok (.iaload, 1) := by decide +kernel
theorem dX9_takesAll_11 : decode cX9_takesAll 11 = .ok (.if_icmp .ge 26, 3) := by decide +kernel
theorem dX9_takesAll_14 : decode cX9_takesAll 14 = .ok (.iload_n 2, 1) := by decide +kernel
theorem dX9_takesAll_15 : decode cX9_takesAll 15 = .ok (.aload_n 0, 1) := by decide +kernel
theorem dX9_takesAll_16 : decode cX9_takesAll 16 = .ok (.getfield 41, 3) := by decide +kernel
theorem dX9_takesAll_19 : decode cX9_takesAll 19 = .ok (.bipush 6, 2) := by decide +kernel
theorem dX9_takesAll_21 : decode cX9_takesAll 21 = .ok (.iload_n 1, 1) := by decide +kernel
theorem dX9_takesAll_22 : decode cX9_takesAll 22 = .ok (.imul, 1) := by decide +kernel
theorem dX9_takesAll_23 : decode cX9_takesAll 23 = .ok (.iload_n 3, 1) := by decide +kernel
theorem dX9_takesAll_24 : decode cX9_takesAll 24 = .ok (.iadd, 1) := by decide +kernel
theorem dX9_takesAll_25 : decode cX9_takesAll 25 = .ok (.iaload, 1) := by decide +kernel
theorem dX9_takesAll_26 : decode cX9_takesAll 26 = .ok (.invokestatic 251, 3) := by decide +kernel
theorem dX9_takesAll_29 : decode cX9_takesAll 29 = .ok (.iadd, 1) := by decide +kernel
theorem dX9_takesAll_30 : decode cX9_takesAll 30 = .ok (.istore_n 2, 1) := by decide +kernel
theorem dX9_takesAll_31 : decode cX9_takesAll 31 = .ok (.iinc 3 1, 3) := by decide +kernel
theorem dX9_takesAll_34 : decode cX9_takesAll 34 = .ok (.goto (-30), 3) := by decide +kernel
theorem dX9_takesAll_37 : decode cX9_takesAll 37 = .ok (.iload_n 2, 1) := by decide +kernel
theorem dX9_takesAll_38 : decode cX9_takesAll 38 = .ok (.ireturn, 1) := by decide +kernel
def bX9_takesAll_4 (K4 : Int32 → Int32 → Option Int32) (a0 : Nat) (x1 : Int32) (x2 : Int32) (x3 : Int32) (u : fb_M) : Option Int32 :=
 ((fb_R u a0 10).bind fun q6 => fb_gd (q6 < fb_NT ∧ (fb_sh q6).1 = 100) 
  ((fb_gd (¬ (x1 < 0 ∨ (fb_sh q6).2 ≤ x1.toNatClampNeg)) 
  (if (fb_I u q6 x1.toNatClampNeg) ≤ x3 then (some x2)
  else ((fb_R u a0 13).bind fun q16 => fb_gd (q16 < fb_NT ∧ (fb_sh q16).1 = 100) 
   ((fb_gd (¬ ((6 * x1) + x3 < 0 ∨ (fb_sh q16).2 ≤ ((6 * x1) + x3).toNatClampNeg)) 
   ((fX9_takes u (fb_I u q16 ((6 * x1) + x3).toNatClampNeg)).bind fun r26 => 
   (K4 (x2 + r26) (x3 + 1))))))))))
def gX9_takesAll_4 (a0 : Nat) (x1 : Int32) (u : fb_M) : Nat → Int32 → Int32 → Option Int32
 | 0 => fun _ _ => none
 | fu + 1 => fun x2 x3 => bX9_takesAll_4 (gX9_takesAll_4 a0 x1 u fu) a0 x1 x2 x3 u
set_option maxRecDepth 100000 in
set_option maxHeartbeats 4000000 in
theorem tbX9_takesAll_4 {g : fb_G} {res : Int32} (a0 : Nat) (x1 : Int32) (x2 : Int32) (x3 : Int32) (u : fb_M) (K4 : Int32 → Int32 → Option Int32) (ha0 : a0 < fb_NT ∧ fb_sh a0 = (9, 40)) (hK4 : ∀ (x2 : Int32) (x3 : Int32) ,  K4 x2 x3 = some res → fb_V g RX9 cX9_takesAll 4 (some .int) "takesAll" (fb_room 1 20 0 0) (fb_Qm g (some (.int res)) fb_NT u 0 0) 0 0 fb_NT u 4 [(0, .ref (fb_b g + a0)), (1, .int x1), (2, .int x2), (3, .int x3)] []) (h : bX9_takesAll_4 K4 a0 x1 x2 x3 u = some res) : fb_V g RX9 cX9_takesAll 4 (some .int) "takesAll" (fb_room 1 20 0 0) (fb_Qm g (some (.int res)) fb_NT u 0 0) 0 0 fb_NT u 4 [(0, .ref (fb_b g + a0)), (1, .int x1), (2, .int x2), (3, .int x3)] [] := by
  unfold bX9_takesAll_4 at h
  refine fb_iload_n (pc := 4) dX9_takesAll_4 3 rfl ?_
  refine fb_aload_n (pc := 5) dX9_takesAll_5 0 rfl ?_
  refine fb_bnE h (fun q6 e6 h => fb_gdE h (fun s6 h => ?_))
  refine fb_getR (pc := 6) dX9_takesAll_6 lkX9_32 ha0.1 ha0.2 (by decide) e6 ?_
  refine fb_iload_n (pc := 9) dX9_takesAll_9 1 rfl ?_
  refine fb_gdE h (fun i10 h => ?_)
  refine fb_iald (pc := 10) dX9_takesAll_10 s6.1 (fb_eta s6.2) i10 ?_
  refine fb_icmp_ge (pc := 11) (tgt := 37) h dX9_takesAll_11 (by decide) (fun h => ?_) (fun h => ?_)
  · refine fb_iload_n (pc := 37) dX9_takesAll_37 2 rfl ?_
    exact fb_iretR (pc := 38) h dX9_takesAll_38
  · refine fb_iload_n (pc := 14) dX9_takesAll_14 2 rfl ?_
    refine fb_aload_n (pc := 15) dX9_takesAll_15 0 rfl ?_
    refine fb_bnE h (fun q16 e16 h => fb_gdE h (fun s16 h => ?_))
    refine fb_getR (pc := 16) dX9_takesAll_16 lkX9_41 ha0.1 ha0.2 (by decide) e16 ?_
    refine fb_bipush (pc := 19) (v := 6) dX9_takesAll_19 fb_kb_6 ?_
    refine fb_iload_n (pc := 21) dX9_takesAll_21 1 rfl ?_
    refine fb_imul (pc := 22) dX9_takesAll_22 ?_
    refine fb_iload_n (pc := 23) dX9_takesAll_23 3 rfl ?_
    refine fb_iadd (pc := 24) dX9_takesAll_24 ?_
    refine fb_gdE h (fun i25 h => ?_)
    refine fb_iald (pc := 25) dX9_takesAll_25 s16.1 (fb_eta s16.2) i25 ?_
    refine fb_bnE h (fun r26 h26 h => ?_)
    refine fb_cS0v (pc := 26) [.int (fb_I u q16 ((6 * x1) + x3).toNatClampNeg)] dX9_takesAll_26 (mX9_takes g u (fb_I u q16 ((6 * x1) + x3).toNatClampNeg) h26) ymX9_takes ysX9_takes ylX9_251 rfl (Nat.le_of_ble_eq_true rfl) ⟨Nat.le_of_ble_eq_true rfl, Nat.le_of_ble_eq_true rfl⟩ ⟨Nat.le_of_ble_eq_true rfl, Nat.le_of_ble_eq_true rfl⟩ ?_
    refine fb_iadd (pc := 29) dX9_takesAll_29 ?_
    refine fb_istore_n (pc := 30) (lv' := [(2, .int (x2 + r26)), (0, .ref (fb_b g + a0)), (1, .int x1), (3, .int x3)]) dX9_takesAll_30 rfl (by decide) rfl ?_
    refine fb_iinc (pc := 31) (v := 1) (lv' := [(3, .int (x3 + 1)), (2, .int (x2 + r26)), (0, .ref (fb_b g + a0)), (1, .int x1)]) dX9_takesAll_31 3 rfl fb_ki_1 (by decide) rfl ?_
    refine fb_goto (pc := 34) (tgt := 4) dX9_takesAll_34 (by decide) ?_
    exact fb_sub [2, 3, 1, 0] rfl (hK4 (x2 + r26) (x3 + 1) h)

theorem tgX9_takesAll_4 {g : fb_G} {res : Int32} (a0 : Nat) (x1 : Int32) (u : fb_M) (ha0 : a0 < fb_NT ∧ fb_sh a0 = (9, 40)) : ∀ (fu : Nat) (x2 : Int32) (x3 : Int32) ,  gX9_takesAll_4 a0 x1 u fu x2 x3 = some res → fb_V g RX9 cX9_takesAll 4 (some .int) "takesAll" (fb_room 1 20 0 0) (fb_Qm g (some (.int res)) fb_NT u 0 0) 0 0 fb_NT u 4 [(0, .ref (fb_b g + a0)), (1, .int x1), (2, .int x2), (3, .int x3)] [] := by
  intro fu
  induction fu with
  | zero => intro x2 x3 h; exact absurd h (by simp [gX9_takesAll_4])
  | succ fu ih => intro x2 x3 h; exact tbX9_takesAll_4 a0 x1 x2 x3 u (gX9_takesAll_4 a0 x1 u fu) ha0 ih h
def fX9_takesAll (u : fb_M) (a0 : Nat) (x1 : Int32) : Option Int32 :=
 (gX9_takesAll_4 a0 x1 u fb_F 0 0)
set_option maxRecDepth 100000 in
set_option maxHeartbeats 4000000 in
theorem mX9_takesAll (g : fb_G) (u : fb_M) (a0 : Nat) (x1 : Int32) (ha0 : a0 < fb_NT ∧ fb_sh a0 = (9, 40)) {res : Int32} (h : fX9_takesAll u a0 x1 = some res) : fb_Runs g 1 20 0 0 fb_NT fb_NT yX9_takesAll cX9_takesAll 4 (some .int) [.ref (fb_b g + a0), .int x1] u (some (.int res)) u := by
  unfold fX9_takesAll at h
  refine fb_enter (by decide) (Nat.le_of_ble_eq_true rfl) ?_
  show fb_V g RX9 cX9_takesAll 4 (some .int) "takesAll" (fb_room 1 20 0 0) (fb_Qm g (some (.int res)) fb_NT u 0 0) 0 0 fb_NT u 0 [(0, .ref (fb_b g + a0)), (1, .int x1)] []
  refine fb_iconst (pc := 0) (v := 0) dX9_takesAll_0 fb_ki_0 ?_
  refine fb_istore_n (pc := 1) (lv' := [(2, .int 0), (0, .ref (fb_b g + a0)), (1, .int x1)]) dX9_takesAll_1 rfl (by decide) rfl ?_
  refine fb_iconst (pc := 2) (v := 0) dX9_takesAll_2 fb_ki_0 ?_
  refine fb_istore_n (pc := 3) (lv' := [(3, .int 0), (2, .int 0), (0, .ref (fb_b g + a0)), (1, .int x1)]) dX9_takesAll_3 rfl (by decide) rfl ?_
  exact fb_sub [2, 3, 1, 0] rfl (tgX9_takesAll_4 a0 x1 u ha0 fb_F 0 0 h)

theorem dX9_shape_0 : decode cX9_shape 0 = .ok (.iload_n 1, 1) := by decide +kernel
theorem dX9_shape_1 : decode cX9_shape 1 = .ok (.ifCond .lt 11, 3) := by decide +kernel
theorem dX9_shape_4 : decode cX9_shape 4 = .ok (.iload_n 1, 1) := by decide +kernel
theorem dX9_shape_5 : decode cX9_shape 5 = .ok (.aload_n 0, 1) := by decide +kernel
theorem dX9_shape_6 : decode cX9_shape 6 = .ok (.getfield 244, 3) := by decide +kernel
theorem dX9_shape_9 : decode cX9_shape 9 = .ok (.if_icmp .lt 5, 3) := by decide +kernel
theorem dX9_shape_12 : decode cX9_shape 12 = .ok (.iconst (-1), 1) := by decide +kernel
theorem dX9_shape_13 : decode cX9_shape 13 = .ok (.ireturn, 1) := by decide +kernel
theorem dX9_shape_14 : decode cX9_shape 14 = .ok (.iload_n 2, 1) := by decide +kernel
theorem dX9_shape_15 : decode cX9_shape 15 = .ok (.tableswitch 78 0 5 #[37, 44, 51, 58, 65, 71], 37) := by decide +kernel
theorem dX9_shape_52 : decode cX9_shape 52 = .ok (.aload_n 0, 1) := by decide +kernel
theorem dX9_shape_53 : decode cX9_shape 53 = .ok (.getfield 19, 3) := by decide +kernel
theorem dX9_shape_56 : decode cX9_shape 56 = .ok (.iload_n 1, 1) := by decide +kernel
theorem dX9_shape_57 : decode cX9_shape 57 = .ok (.iaload, 1) := by decide +kernel
theorem dX9_shape_58 : decode cX9_shape 58 = .ok (.ireturn, 1) := by decide +kernel
theorem dX9_shape_59 : decode cX9_shape 59 = .ok (.aload_n 0, 1) := by decide +kernel
theorem dX9_shape_60 : decode cX9_shape 60 = .ok (.getfield 22, 3) := by decide +kernel
theorem dX9_shape_63 : decode cX9_shape 63 = .ok (.iload_n 1, 1) := by decide +kernel
theorem dX9_shape_64 : decode cX9_shape 64 = .ok (.iaload, 1) := by decide +kernel
theorem dX9_shape_65 : decode cX9_shape 65 = .ok (.ireturn, 1) := by decide +kernel
theorem dX9_shape_66 : decode cX9_shape 66 = .ok (.aload_n 0, 1) := by decide +kernel
theorem dX9_shape_67 : decode cX9_shape 67 = .ok (.getfield 29, 3) := by decide +kernel
theorem dX9_shape_70 : decode cX9_shape 70 = .ok (.iload_n 1, 1) := by decide +kernel
theorem dX9_shape_71 : decode cX9_shape 71 = .ok (.iaload, 1) := by decide +kernel
theorem dX9_shape_72 : decode cX9_shape 72 = .ok (.ireturn, 1) := by decide +kernel
theorem dX9_shape_73 : decode cX9_shape 73 = .ok (.aload_n 0, 1) := by decide +kernel
theorem dX9_shape_74 : decode cX9_shape 74 = .ok (.getfield 32, 3) := by decide +kernel
theorem dX9_shape_77 : decode cX9_shape 77 = .ok (.iload_n 1, 1) := by decide +kernel
theorem dX9_shape_78 : decode cX9_shape 78 = .ok (.iaload, 1) := by decide +kernel
theorem dX9_shape_79 : decode cX9_shape 79 = .ok (.ireturn, 1) := by decide +kernel
theorem dX9_shape_80 : decode cX9_shape 80 = .ok (.aload_n 0, 1) := by decide +kernel
theorem dX9_shape_81 : decode cX9_shape 81 = .ok (.iload_n 1, 1) := by decide +kernel
theorem dX9_shape_82 : decode cX9_shape 82 = .ok (.invokevirtual 254, 3) := by decide +kernel
theorem dX9_shape_85 : decode cX9_shape 85 = .ok (.ireturn, 1) := by decide +kernel
theorem dX9_shape_86 : decode cX9_shape 86 = .ok (.aload_n 0, 1) := by decide +kernel
theorem dX9_shape_87 : decode cX9_shape 87 = .ok (.getfield 35, 3) := by decide +kernel
theorem dX9_shape_90 : decode cX9_shape 90 = .ok (.iload_n 1, 1) := by decide +kernel
theorem dX9_shape_91 : decode cX9_shape 91 = .ok (.iaload, 1) := by decide +kernel
theorem dX9_shape_92 : decode cX9_shape 92 = .ok (.ireturn, 1) := by decide +kernel
theorem dX9_shape_93 : decode cX9_shape 93 = .ok (.iconst (-1), 1) := by decide +kernel
theorem dX9_shape_94 : decode cX9_shape 94 = .ok (.ireturn, 1) := by decide +kernel
def fX9_shape (u : fb_M) (a0 : Nat) (x1 : Int32) (x2 : Int32) : Option Int32 :=
 (if x1 < 0 then (some ((-1)))
  else (if x1 < (fb_I u a0 5) then (if x2 = 0 then ((fb_R u a0 6).bind fun q53 => fb_gd (q53 < fb_NT ∧ (fb_sh q53).1 = 100) 
     ((fb_gd (¬ (x1 < 0 ∨ (fb_sh q53).2 ≤ x1.toNatClampNeg)) 
     (some (fb_I u q53 x1.toNatClampNeg)))))
    else (if x2 = 1 then ((fb_R u a0 7).bind fun q60 => fb_gd (q60 < fb_NT ∧ (fb_sh q60).1 = 100) 
     ((fb_gd (¬ (x1 < 0 ∨ (fb_sh q60).2 ≤ x1.toNatClampNeg)) 
     (some (fb_I u q60 x1.toNatClampNeg)))))
    else (if x2 = 2 then ((fb_R u a0 9).bind fun q67 => fb_gd (q67 < fb_NT ∧ (fb_sh q67).1 = 100) 
     ((fb_gd (¬ (x1 < 0 ∨ (fb_sh q67).2 ≤ x1.toNatClampNeg)) 
     (some (fb_I u q67 x1.toNatClampNeg)))))
    else (if x2 = 3 then ((fb_R u a0 10).bind fun q74 => fb_gd (q74 < fb_NT ∧ (fb_sh q74).1 = 100) 
     ((fb_gd (¬ (x1 < 0 ∨ (fb_sh q74).2 ≤ x1.toNatClampNeg)) 
     (some (fb_I u q74 x1.toNatClampNeg)))))
    else (if x2 = 4 then ((fX9_takesAll u a0 x1).bind fun r82 => 
     (some r82))
    else (if x2 = 5 then ((fb_R u a0 11).bind fun q87 => fb_gd (q87 < fb_NT ∧ (fb_sh q87).1 = 100) 
     ((fb_gd (¬ (x1 < 0 ∨ (fb_sh q87).2 ≤ x1.toNatClampNeg)) 
     (some (fb_I u q87 x1.toNatClampNeg)))))
    else (some ((-1)))))))))
   else (some ((-1)))))
set_option maxRecDepth 100000 in
set_option maxHeartbeats 4000000 in
theorem mX9_shape (g : fb_G) (u : fb_M) (a0 : Nat) (x1 : Int32) (x2 : Int32) (ha0 : a0 < fb_NT ∧ fb_sh a0 = (9, 40)) {res : Int32} (h : fX9_shape u a0 x1 x2 = some res) : fb_Runs g 2 43 0 0 fb_NT fb_NT yX9_shape cX9_shape 3 (some .int) [.ref (fb_b g + a0), .int x1, .int x2] u (some (.int res)) u := by
  unfold fX9_shape at h
  refine fb_enter (by decide) (Nat.le_of_ble_eq_true rfl) ?_
  show fb_V g RX9 cX9_shape 3 (some .int) "shape" (fb_room 2 43 0 0) (fb_Qm g (some (.int res)) fb_NT u 0 0) 0 0 fb_NT u 0 [(0, .ref (fb_b g + a0)), (1, .int x1), (2, .int x2)] []
  refine fb_iload_n (pc := 0) dX9_shape_0 1 rfl ?_
  refine fb_if_lt (pc := 1) (tgt := 12) h dX9_shape_1 (by decide) (fun h => ?_) (fun h => ?_)
  · refine fb_iconst (pc := 12) (v := (-1)) dX9_shape_12 fb_ki_m1 ?_
    exact fb_iretR (pc := 13) h dX9_shape_13
  · refine fb_iload_n (pc := 4) dX9_shape_4 1 rfl ?_
    refine fb_aload_n (pc := 5) dX9_shape_5 0 rfl ?_
    refine fb_getI (pc := 6) dX9_shape_6 lkX9_244 ha0.1 ha0.2 rfl ?_
    refine fb_icmp_lt (pc := 9) (tgt := 14) h dX9_shape_9 (by decide) (fun h => ?_) (fun h => ?_)
    · refine fb_iload_n (pc := 14) dX9_shape_14 2 rfl ?_
      refine fb_ifE h (fun c15_0 h => ?_) (fun c15_0 h => ?_)
      · refine fb_tabIn (pc := 15) (v := 0) (tgt := 52) c15_0 dX9_shape_15 (by decide) (by decide) rfl (by decide) ?_
        refine fb_aload_n (pc := 52) dX9_shape_52 0 rfl ?_
        refine fb_bnE h (fun q53 e53 h => fb_gdE h (fun s53 h => ?_))
        refine fb_getR (pc := 53) dX9_shape_53 lkX9_19 ha0.1 ha0.2 (by decide) e53 ?_
        refine fb_iload_n (pc := 56) dX9_shape_56 1 rfl ?_
        refine fb_gdE h (fun i57 h => ?_)
        refine fb_iald (pc := 57) dX9_shape_57 s53.1 (fb_eta s53.2) i57 ?_
        exact fb_iretR (pc := 58) h dX9_shape_58
      refine fb_ifE h (fun c15_1 h => ?_) (fun c15_1 h => ?_)
      · refine fb_tabIn (pc := 15) (v := 1) (tgt := 59) c15_1 dX9_shape_15 (by decide) (by decide) rfl (by decide) ?_
        refine fb_aload_n (pc := 59) dX9_shape_59 0 rfl ?_
        refine fb_bnE h (fun q60 e60 h => fb_gdE h (fun s60 h => ?_))
        refine fb_getR (pc := 60) dX9_shape_60 lkX9_22 ha0.1 ha0.2 (by decide) e60 ?_
        refine fb_iload_n (pc := 63) dX9_shape_63 1 rfl ?_
        refine fb_gdE h (fun i64 h => ?_)
        refine fb_iald (pc := 64) dX9_shape_64 s60.1 (fb_eta s60.2) i64 ?_
        exact fb_iretR (pc := 65) h dX9_shape_65
      refine fb_ifE h (fun c15_2 h => ?_) (fun c15_2 h => ?_)
      · refine fb_tabIn (pc := 15) (v := 2) (tgt := 66) c15_2 dX9_shape_15 (by decide) (by decide) rfl (by decide) ?_
        refine fb_aload_n (pc := 66) dX9_shape_66 0 rfl ?_
        refine fb_bnE h (fun q67 e67 h => fb_gdE h (fun s67 h => ?_))
        refine fb_getR (pc := 67) dX9_shape_67 lkX9_29 ha0.1 ha0.2 (by decide) e67 ?_
        refine fb_iload_n (pc := 70) dX9_shape_70 1 rfl ?_
        refine fb_gdE h (fun i71 h => ?_)
        refine fb_iald (pc := 71) dX9_shape_71 s67.1 (fb_eta s67.2) i71 ?_
        exact fb_iretR (pc := 72) h dX9_shape_72
      refine fb_ifE h (fun c15_3 h => ?_) (fun c15_3 h => ?_)
      · refine fb_tabIn (pc := 15) (v := 3) (tgt := 73) c15_3 dX9_shape_15 (by decide) (by decide) rfl (by decide) ?_
        refine fb_aload_n (pc := 73) dX9_shape_73 0 rfl ?_
        refine fb_bnE h (fun q74 e74 h => fb_gdE h (fun s74 h => ?_))
        refine fb_getR (pc := 74) dX9_shape_74 lkX9_32 ha0.1 ha0.2 (by decide) e74 ?_
        refine fb_iload_n (pc := 77) dX9_shape_77 1 rfl ?_
        refine fb_gdE h (fun i78 h => ?_)
        refine fb_iald (pc := 78) dX9_shape_78 s74.1 (fb_eta s74.2) i78 ?_
        exact fb_iretR (pc := 79) h dX9_shape_79
      refine fb_ifE h (fun c15_4 h => ?_) (fun c15_4 h => ?_)
      · refine fb_tabIn (pc := 15) (v := 4) (tgt := 80) c15_4 dX9_shape_15 (by decide) (by decide) rfl (by decide) ?_
        refine fb_aload_n (pc := 80) dX9_shape_80 0 rfl ?_
        refine fb_iload_n (pc := 81) dX9_shape_81 1 rfl ?_
        refine fb_bnE h (fun r82 h82 h => ?_)
        refine fb_cV0v (pc := 82) [.int x1] dX9_shape_82 (mX9_takesAll g u a0 x1 ha0 h82) ymX9_takesAll yiX9_takesAll ha0.1 ha0.2 ylX9_254 rfl (Nat.le_of_ble_eq_true rfl) ⟨Nat.le_of_ble_eq_true rfl, Nat.le_of_ble_eq_true rfl⟩ ⟨Nat.le_of_ble_eq_true rfl, Nat.le_of_ble_eq_true rfl⟩ ?_
        exact fb_iretR (pc := 85) h dX9_shape_85
      refine fb_ifE h (fun c15_5 h => ?_) (fun c15_5 h => ?_)
      · refine fb_tabIn (pc := 15) (v := 5) (tgt := 86) c15_5 dX9_shape_15 (by decide) (by decide) rfl (by decide) ?_
        refine fb_aload_n (pc := 86) dX9_shape_86 0 rfl ?_
        refine fb_bnE h (fun q87 e87 h => fb_gdE h (fun s87 h => ?_))
        refine fb_getR (pc := 87) dX9_shape_87 lkX9_35 ha0.1 ha0.2 (by decide) e87 ?_
        refine fb_iload_n (pc := 90) dX9_shape_90 1 rfl ?_
        refine fb_gdE h (fun i91 h => ?_)
        refine fb_iald (pc := 91) dX9_shape_91 s87.1 (fb_eta s87.2) i91 ?_
        exact fb_iretR (pc := 92) h dX9_shape_92
      refine fb_tabOut (pc := 15) (tgt := 93) (by have a0 := lv_neT c15_0 (a := 0) (by decide); have a1 := lv_neT c15_1 (a := 1) (by decide); have a2 := lv_neT c15_2 (a := 2) (by decide); have a3 := lv_neT c15_3 (a := 3) (by decide); have a4 := lv_neT c15_4 (a := 4) (by decide); have a5 := lv_neT c15_5 (a := 5) (by decide); omega) dX9_shape_15 (by decide) ?_
      refine fb_iconst (pc := 93) (v := (-1)) dX9_shape_93 fb_ki_m1 ?_
      exact fb_iretR (pc := 94) h dX9_shape_94
    · refine fb_iconst (pc := 12) (v := (-1)) dX9_shape_12 fb_ki_m1 ?_
      exact fb_iretR (pc := 13) h dX9_shape_13

theorem dX9_part_0 : decode cX9_part 0 = .ok (.iload_n 1, 1) := by decide +kernel
theorem dX9_part_1 : decode cX9_part 1 = .ok (.ifCond .lt 25, 3) := by decide +kernel
theorem dX9_part_4 : decode cX9_part 4 = .ok (.iload_n 1, 1) := by decide +kernel
theorem dX9_part_5 : decode cX9_part 5 = .ok (.aload_n 0, 1) := by decide +kernel
theorem dX9_part_6 : decode cX9_part 6 = .ok (.getfield 244, 3) := by decide +kernel
theorem dX9_part_9 : decode cX9_part 9 = .ok (.if_icmp .ge 17, 3) := by decide +kernel
theorem dX9_part_12 : decode cX9_part 12 = .ok (.iload_n 2, 1) := by decide +kernel
theorem dX9_part_13 : decode cX9_part 13 = .ok (.ifCond .lt 13, 3) := by decide +kernel
theorem dX9_part_16 : decode cX9_part 16 = .ok (.iload_n 2, 1) := by decide +kernel
theorem dX9_part_17 : decode cX9_part 17 = .ok (.aload_n 0, 1) := by decide +kernel
theorem dX9_part_18 : decode cX9_part 18 = .ok (.getfield 32, 3) := by decide +kernel
theorem dX9_part_21 : decode cX9_part 21 = .ok (.iload_n 1, 1) := by decide +kernel
theorem dX9_part_22 : decode cX9_part 22 = .ok (.iaload, 1) := by decide +kernel
theorem dX9_part_23 : decode cX9_part 23 = .ok (.if_icmp .lt 7, 3) := by decide +kernel
theorem dX9_part_26 : decode cX9_part 26 = .ok (.iconst (-1), 1) := by decide +kernel
theorem dX9_part_27 : decode cX9_part 27 = .ok (.goto 29, 3) := by decide +kernel
theorem dX9_part_30 : decode cX9_part 30 = .ok (.bipush 16, 2) := by decide +kernel
theorem dX9_part_32 : decode cX9_part 32 = .ok (.aload_n 0, 1) := by decide +kernel
theorem dX9_part_33 : decode cX9_part 33 = .ok (.getfield 38, 3) := by decide +kernel
theorem dX9_part_36 : decode cX9_part 36 = .ok (.bipush 6, 2) := by decide +kernel
theorem dX9_part_38 : decode cX9_part 38 = .ok (.iload_n 1, 1) := by decide +kernel
theorem dX9_part_39 : decode cX9_part 39 = .ok (.imul, 1) := by decide +kernel
theorem dX9_part_40 : decode cX9_part 40 = .ok (.iload_n 2, 1) := by decide +kernel
theorem dX9_part_41 : decode cX9_part 41 = .ok (.iadd, 1) := by decide +kernel
theorem dX9_part_42 : decode cX9_part 42 = .ok (.iaload, 1) := by decide +kernel
theorem dX9_part_43 : decode cX9_part 43 = .ok (.imul, 1) := by decide +kernel
theorem dX9_part_44 : decode cX9_part 44 = .ok (.aload_n 0, 1) := by decide +kernel
theorem dX9_part_45 : decode cX9_part 45 = .ok (.getfield 41, 3) := by decide +kernel
theorem dX9_part_48 : decode cX9_part 48 = .ok (.bipush 6, 2) := by decide +kernel
theorem dX9_part_50 : decode cX9_part 50 = .ok (.iload_n 1, 1) := by decide +kernel
theorem dX9_part_51 : decode cX9_part 51 = .ok (.imul, 1) := by decide +kernel
theorem dX9_part_52 : decode cX9_part 52 = .ok (.iload_n 2, 1) := by decide +kernel
theorem dX9_part_53 : decode cX9_part 53 = .ok (.iadd, 1) := by decide +kernel
theorem dX9_part_54 : decode cX9_part 54 = .ok (.iaload, 1) := by decide +kernel
theorem dX9_part_55 : decode cX9_part 55 = .ok (.iadd, 1) := by decide +kernel
theorem dX9_part_56 : decode cX9_part 56 = .ok (.ireturn, 1) := by decide +kernel
def fX9_part (u : fb_M) (a0 : Nat) (x1 : Int32) (x2 : Int32) : Option Int32 :=
 (if x1 < 0 then (some ((-1)))
  else (if (fb_I u a0 5) ≤ x1 then (some ((-1)))
   else (if x2 < 0 then (some ((-1)))
    else ((fb_R u a0 10).bind fun q18 => fb_gd (q18 < fb_NT ∧ (fb_sh q18).1 = 100) 
     ((fb_gd (¬ (x1 < 0 ∨ (fb_sh q18).2 ≤ x1.toNatClampNeg)) 
     (if x2 < (fb_I u q18 x1.toNatClampNeg) then ((fb_R u a0 12).bind fun q33 => fb_gd (q33 < fb_NT ∧ (fb_sh q33).1 = 100) 
      ((fb_gd (¬ ((6 * x1) + x2 < 0 ∨ (fb_sh q33).2 ≤ ((6 * x1) + x2).toNatClampNeg)) 
      ((fb_R u a0 13).bind fun q45 => fb_gd (q45 < fb_NT ∧ (fb_sh q45).1 = 100) 
      ((fb_gd (¬ ((6 * x1) + x2 < 0 ∨ (fb_sh q45).2 ≤ ((6 * x1) + x2).toNatClampNeg)) 
      (some ((16 * (fb_I u q33 ((6 * x1) + x2).toNatClampNeg)) + (fb_I u q45 ((6 * x1) + x2).toNatClampNeg)))))))))
     else (some ((-1))))))))))
set_option maxRecDepth 100000 in
set_option maxHeartbeats 4000000 in
theorem mX9_part (g : fb_G) (u : fb_M) (a0 : Nat) (x1 : Int32) (x2 : Int32) (ha0 : a0 < fb_NT ∧ fb_sh a0 = (9, 40)) {res : Int32} (h : fX9_part u a0 x1 x2 = some res) : fb_Runs g 0 0 0 0 fb_NT fb_NT yX9_part cX9_part 3 (some .int) [.ref (fb_b g + a0), .int x1, .int x2] u (some (.int res)) u := by
  unfold fX9_part at h
  refine fb_enter (by decide) (Nat.le_of_ble_eq_true rfl) ?_
  show fb_V g RX9 cX9_part 3 (some .int) "part" (fb_room 0 0 0 0) (fb_Qm g (some (.int res)) fb_NT u 0 0) 0 0 fb_NT u 0 [(0, .ref (fb_b g + a0)), (1, .int x1), (2, .int x2)] []
  refine fb_iload_n (pc := 0) dX9_part_0 1 rfl ?_
  refine fb_if_lt (pc := 1) (tgt := 26) h dX9_part_1 (by decide) (fun h => ?_) (fun h => ?_)
  · refine fb_iconst (pc := 26) (v := (-1)) dX9_part_26 fb_ki_m1 ?_
    refine fb_goto (pc := 27) (tgt := 56) dX9_part_27 (by decide) ?_
    exact fb_iretR (pc := 56) h dX9_part_56
  · refine fb_iload_n (pc := 4) dX9_part_4 1 rfl ?_
    refine fb_aload_n (pc := 5) dX9_part_5 0 rfl ?_
    refine fb_getI (pc := 6) dX9_part_6 lkX9_244 ha0.1 ha0.2 rfl ?_
    refine fb_icmp_ge (pc := 9) (tgt := 26) h dX9_part_9 (by decide) (fun h => ?_) (fun h => ?_)
    · refine fb_iconst (pc := 26) (v := (-1)) dX9_part_26 fb_ki_m1 ?_
      refine fb_goto (pc := 27) (tgt := 56) dX9_part_27 (by decide) ?_
      exact fb_iretR (pc := 56) h dX9_part_56
    · refine fb_iload_n (pc := 12) dX9_part_12 2 rfl ?_
      refine fb_if_lt (pc := 13) (tgt := 26) h dX9_part_13 (by decide) (fun h => ?_) (fun h => ?_)
      · refine fb_iconst (pc := 26) (v := (-1)) dX9_part_26 fb_ki_m1 ?_
        refine fb_goto (pc := 27) (tgt := 56) dX9_part_27 (by decide) ?_
        exact fb_iretR (pc := 56) h dX9_part_56
      · refine fb_iload_n (pc := 16) dX9_part_16 2 rfl ?_
        refine fb_aload_n (pc := 17) dX9_part_17 0 rfl ?_
        refine fb_bnE h (fun q18 e18 h => fb_gdE h (fun s18 h => ?_))
        refine fb_getR (pc := 18) dX9_part_18 lkX9_32 ha0.1 ha0.2 (by decide) e18 ?_
        refine fb_iload_n (pc := 21) dX9_part_21 1 rfl ?_
        refine fb_gdE h (fun i22 h => ?_)
        refine fb_iald (pc := 22) dX9_part_22 s18.1 (fb_eta s18.2) i22 ?_
        refine fb_icmp_lt (pc := 23) (tgt := 30) h dX9_part_23 (by decide) (fun h => ?_) (fun h => ?_)
        · refine fb_bipush (pc := 30) (v := 16) dX9_part_30 fb_kb_16 ?_
          refine fb_aload_n (pc := 32) dX9_part_32 0 rfl ?_
          refine fb_bnE h (fun q33 e33 h => fb_gdE h (fun s33 h => ?_))
          refine fb_getR (pc := 33) dX9_part_33 lkX9_38 ha0.1 ha0.2 (by decide) e33 ?_
          refine fb_bipush (pc := 36) (v := 6) dX9_part_36 fb_kb_6 ?_
          refine fb_iload_n (pc := 38) dX9_part_38 1 rfl ?_
          refine fb_imul (pc := 39) dX9_part_39 ?_
          refine fb_iload_n (pc := 40) dX9_part_40 2 rfl ?_
          refine fb_iadd (pc := 41) dX9_part_41 ?_
          refine fb_gdE h (fun i42 h => ?_)
          refine fb_iald (pc := 42) dX9_part_42 s33.1 (fb_eta s33.2) i42 ?_
          refine fb_imul (pc := 43) dX9_part_43 ?_
          refine fb_aload_n (pc := 44) dX9_part_44 0 rfl ?_
          refine fb_bnE h (fun q45 e45 h => fb_gdE h (fun s45 h => ?_))
          refine fb_getR (pc := 45) dX9_part_45 lkX9_41 ha0.1 ha0.2 (by decide) e45 ?_
          refine fb_bipush (pc := 48) (v := 6) dX9_part_48 fb_kb_6 ?_
          refine fb_iload_n (pc := 50) dX9_part_50 1 rfl ?_
          refine fb_imul (pc := 51) dX9_part_51 ?_
          refine fb_iload_n (pc := 52) dX9_part_52 2 rfl ?_
          refine fb_iadd (pc := 53) dX9_part_53 ?_
          refine fb_gdE h (fun i54 h => ?_)
          refine fb_iald (pc := 54) dX9_part_54 s45.1 (fb_eta s45.2) i54 ?_
          refine fb_iadd (pc := 55) dX9_part_55 ?_
          exact fb_iretR (pc := 56) h dX9_part_56
        · refine fb_iconst (pc := 26) (v := (-1)) dX9_part_26 fb_ki_m1 ?_
          refine fb_goto (pc := 27) (tgt := 56) dX9_part_27 (by decide) ?_
          exact fb_iretR (pc := 56) h dX9_part_56

theorem dX9_isLeaf_0 : decode cX9_isLeaf 0 = .ok (.iload_n 1, 1) := by decide +kernel
theorem dX9_isLeaf_1 : decode cX9_isLeaf 1 = .ok (.ifCond .lt 15, 3) := by decide +kernel
theorem dX9_isLeaf_4 : decode cX9_isLeaf 4 = .ok (.iload_n 1, 1) := by decide +kernel
theorem dX9_isLeaf_5 : decode cX9_isLeaf 5 = .ok (.aload_n 0, 1) := by decide +kernel
theorem dX9_isLeaf_6 : decode cX9_isLeaf 6 = .ok (.getfield 127, 3) := by decide +kernel
theorem dX9_isLeaf_9 : decode cX9_isLeaf 9 = .ok (.if_icmp .ge 7, 3) := by decide +kernel
theorem dX9_isLeaf_12 : decode cX9_isLeaf 12 = .ok (.iconst 1, 1) := by decide +kernel
theorem dX9_isLeaf_13 : decode cX9_isLeaf 13 = .ok (.goto 4, 3) := by decide +kernel
theorem dX9_isLeaf_16 : decode cX9_isLeaf 16 = .ok (.iconst 0, 1) := by decide +kernel
theorem dX9_isLeaf_17 : decode cX9_isLeaf 17 = .ok (.ireturn, 1) := by decide +kernel
def fX9_isLeaf (u : fb_M) (a0 : Nat) (x1 : Int32) : Option Int32 :=
 (if x1 < 0 then (some 0)
  else (if (fb_I u a0 4) ≤ x1 then (some 0)
   else (some 1)))
set_option maxRecDepth 100000 in
set_option maxHeartbeats 4000000 in
theorem mX9_isLeaf (g : fb_G) (u : fb_M) (a0 : Nat) (x1 : Int32) (ha0 : a0 < fb_NT ∧ fb_sh a0 = (9, 40)) {res : Int32} (h : fX9_isLeaf u a0 x1 = some res) : fb_Runs g 0 0 0 0 fb_NT fb_NT yX9_isLeaf cX9_isLeaf 2 (some .boolean) [.ref (fb_b g + a0), .int x1] u (some (.int res)) u := by
  unfold fX9_isLeaf at h
  refine fb_enter (by decide) (Nat.le_of_ble_eq_true rfl) ?_
  show fb_V g RX9 cX9_isLeaf 2 (some .boolean) "isLeaf" (fb_room 0 0 0 0) (fb_Qm g (some (.int res)) fb_NT u 0 0) 0 0 fb_NT u 0 [(0, .ref (fb_b g + a0)), (1, .int x1)] []
  refine fb_iload_n (pc := 0) dX9_isLeaf_0 1 rfl ?_
  refine fb_if_lt (pc := 1) (tgt := 16) h dX9_isLeaf_1 (by decide) (fun h => ?_) (fun h => ?_)
  · refine fb_iconst (pc := 16) (v := 0) dX9_isLeaf_16 fb_ki_0 ?_
    exact fb_zretR (pc := 17) rfl h dX9_isLeaf_17
  · refine fb_iload_n (pc := 4) dX9_isLeaf_4 1 rfl ?_
    refine fb_aload_n (pc := 5) dX9_isLeaf_5 0 rfl ?_
    refine fb_getI (pc := 6) dX9_isLeaf_6 lkX9_127 ha0.1 ha0.2 rfl ?_
    refine fb_icmp_ge (pc := 9) (tgt := 16) h dX9_isLeaf_9 (by decide) (fun h => ?_) (fun h => ?_)
    · refine fb_iconst (pc := 16) (v := 0) dX9_isLeaf_16 fb_ki_0 ?_
      exact fb_zretR (pc := 17) rfl h dX9_isLeaf_17
    · refine fb_iconst (pc := 12) (v := 1) dX9_isLeaf_12 fb_ki_1 ?_
      refine fb_goto (pc := 13) (tgt := 17) dX9_isLeaf_13 (by decide) ?_
      exact fb_zretR (pc := 17) rfl h dX9_isLeaf_17

theorem dX9_fill_0 : decode cX9_fill 0 = .ok (.aload_n 0, 1) := by decide +kernel
theorem dX9_fill_1 : decode cX9_fill 1 = .ok (.iload_n 1, 1) := by decide +kernel
theorem dX9_fill_2 : decode cX9_fill 2 = .ok (.invokevirtual 257, 3) := by decide +kernel
theorem dX9_fill_5 : decode cX9_fill 5 = .ok (.ifCond .ne 5, 3) := by decide +kernel
theorem dX9_fill_8 : decode cX9_fill 8 = .ok (.iconst 0, 1) := by decide +kernel
theorem dX9_fill_9 : decode cX9_fill 9 = .ok (.ireturn, 1) := by decide +kernel
theorem dX9_fill_10 : decode cX9_fill 10 = .ok (.aload_n 0, 1) := by decide +kernel
theorem dX9_fill_11 : decode cX9_fill 11 = .ok (.getfield 77, 3) := by decide +kernel
theorem dX9_fill_14 : decode cX9_fill 14 = .ok (.iload_n 1, 1) := by decide +kernel
theorem dX9_fill_15 : decode cX9_fill 15 = .ok (.iload_n 2, 1) := by decide +kernel
theorem dX9_fill_16 : decode cX9_fill 16 = .ok (.iastore, 1) := by decide +kernel
theorem dX9_fill_17 : decode cX9_fill 17 = .ok (.aload_n 0, 1) := by decide +kernel
theorem dX9_fill_18 : decode cX9_fill 18 = .ok (.getfield 80, 3) := by decide +kernel
theorem dX9_fill_21 : decode cX9_fill 21 = .ok (.iload_n 1, 1) := by decide +kernel
theorem dX9_fill_22 : decode cX9_fill 22 = .ok (.iconst 1, 1) := by decide +kernel
theorem dX9_fill_23 : decode cX9_fill 23 = .ok (.bastore, 1) := by decide +kernel
theorem dX9_fill_24 : decode cX9_fill 24 = .ok (.iconst 1, 1) := by decide +kernel
theorem dX9_fill_25 : decode cX9_fill 25 = .ok (.ireturn, 1) := by decide +kernel
def fX9_fill (u : fb_M) (a0 : Nat) (x1 : Int32) (x2 : Int32) : Option (Int32 × fb_M) :=
 ((fX9_isLeaf u a0 x1).bind fun r2 => 
  (if r2 = 0 then (some (0, u))
  else ((fb_R u a0 32).bind fun q11 => fb_gd (q11 < fb_NT ∧ (fb_sh q11).1 = 100) 
   ((fb_gd (¬ (x1 < 0 ∨ (fb_sh q11).2 ≤ x1.toNatClampNeg)) 
   ((fb_R (fb_wI u q11 x1.toNatClampNeg x2) a0 33).bind fun q18 => fb_gd (q18 < fb_NT ∧ (fb_sh q18).1 = 102) 
   ((fb_gd (¬ (x1 < 0 ∨ (fb_sh q18).2 ≤ x1.toNatClampNeg)) 
   (some (1, fb_wI (fb_wI u q11 x1.toNatClampNeg x2) q18 x1.toNatClampNeg (vp_nar .boolean 1)))))))))))
set_option maxRecDepth 100000 in
set_option maxHeartbeats 4000000 in
theorem mX9_fill (g : fb_G) (u : fb_M) (a0 : Nat) (x1 : Int32) (x2 : Int32) (ha0 : a0 < fb_NT ∧ fb_sh a0 = (9, 40)) {res : (Int32 × fb_M)} (h : fX9_fill u a0 x1 x2 = some res) : fb_Runs g 1 21 0 0 fb_NT fb_NT yX9_fill cX9_fill 3 (some .boolean) [.ref (fb_b g + a0), .int x1, .int x2] u (some (.int res.1)) res.2 := by
  unfold fX9_fill at h
  refine fb_enter (by decide) (Nat.le_of_ble_eq_true rfl) ?_
  show fb_V g RX9 cX9_fill 3 (some .boolean) "fill" (fb_room 1 21 0 0) (fb_Qm g (some (.int res.1)) fb_NT res.2 0 0) 0 0 fb_NT u 0 [(0, .ref (fb_b g + a0)), (1, .int x1), (2, .int x2)] []
  refine fb_aload_n (pc := 0) dX9_fill_0 0 rfl ?_
  refine fb_iload_n (pc := 1) dX9_fill_1 1 rfl ?_
  refine fb_bnE h (fun r2 h2 h => ?_)
  refine fb_cV0v (pc := 2) [.int x1] dX9_fill_2 (mX9_isLeaf g u a0 x1 ha0 h2) ymX9_isLeaf yiX9_isLeaf ha0.1 ha0.2 ylX9_257 rfl (Nat.le_of_ble_eq_true rfl) ⟨Nat.le_of_ble_eq_true rfl, Nat.le_of_ble_eq_true rfl⟩ ⟨Nat.le_of_ble_eq_true rfl, Nat.le_of_ble_eq_true rfl⟩ ?_
  refine fb_if_ne (pc := 5) (tgt := 10) h dX9_fill_5 (by decide) (fun h => ?_) (fun h => ?_)
  · refine fb_aload_n (pc := 10) dX9_fill_10 0 rfl ?_
    refine fb_bnE h (fun q11 e11 h => fb_gdE h (fun s11 h => ?_))
    refine fb_getR (pc := 11) dX9_fill_11 lkX9_77 ha0.1 ha0.2 (by decide) e11 ?_
    refine fb_iload_n (pc := 14) dX9_fill_14 1 rfl ?_
    refine fb_iload_n (pc := 15) dX9_fill_15 2 rfl ?_
    refine fb_gdE h (fun i16 h => ?_)
    refine fb_iast (pc := 16) dX9_fill_16 s11.1 (fb_eta s11.2) i16 ?_
    refine fb_aload_n (pc := 17) dX9_fill_17 0 rfl ?_
    refine fb_bnE h (fun q18 e18 h => fb_gdE h (fun s18 h => ?_))
    refine fb_getR (pc := 18) dX9_fill_18 lkX9_80 ha0.1 ha0.2 (by decide) e18 ?_
    refine fb_iload_n (pc := 21) dX9_fill_21 1 rfl ?_
    refine fb_iconst (pc := 22) (v := 1) dX9_fill_22 fb_ki_1 ?_
    refine fb_gdE h (fun i23 h => ?_)
    refine fb_zast (pc := 23) dX9_fill_23 s18.1 (fb_eta s18.2) i23 ?_
    refine fb_iconst (pc := 24) (v := 1) dX9_fill_24 fb_ki_1 ?_
    exact fb_zretM (pc := 25) rfl h dX9_fill_25
  · refine fb_iconst (pc := 8) (v := 0) dX9_fill_8 fb_ki_0 ?_
    exact fb_zretM (pc := 9) rfl h dX9_fill_9

theorem dX9_blank_0 : decode cX9_blank 0 = .ok (.aload_n 0, 1) := by decide +kernel
theorem dX9_blank_1 : decode cX9_blank 1 = .ok (.iload_n 1, 1) := by decide +kernel
theorem dX9_blank_2 : decode cX9_blank 2 = .ok (.invokevirtual 257, 3) := by decide +kernel
theorem dX9_blank_5 : decode cX9_blank 5 = .ok (.ifCond .ne 5, 3) := by decide +kernel
theorem dX9_blank_8 : decode cX9_blank 8 = .ok (.iconst 0, 1) := by decide +kernel
theorem dX9_blank_9 : decode cX9_blank 9 = .ok (.ireturn, 1) := by decide +kernel
theorem dX9_blank_10 : decode cX9_blank 10 = .ok (.aload_n 0, 1) := by decide +kernel
theorem dX9_blank_11 : decode cX9_blank 11 = .ok (.getfield 80, 3) := by decide +kernel
theorem dX9_blank_14 : decode cX9_blank 14 = .ok (.iload_n 1, 1) := by decide +kernel
theorem dX9_blank_15 : decode cX9_blank 15 = .ok (.iconst 0, 1) := by decide +kernel
theorem dX9_blank_16 : decode cX9_blank 16 = .ok (.bastore, 1) := by decide +kernel
theorem dX9_blank_17 : decode cX9_blank 17 = .ok (.iconst 1, 1) := by decide +kernel
theorem dX9_blank_18 : decode cX9_blank 18 = .ok (.ireturn, 1) := by decide +kernel
def fX9_blank (u : fb_M) (a0 : Nat) (x1 : Int32) : Option (Int32 × fb_M) :=
 ((fX9_isLeaf u a0 x1).bind fun r2 => 
  (if r2 = 0 then (some (0, u))
  else ((fb_R u a0 33).bind fun q11 => fb_gd (q11 < fb_NT ∧ (fb_sh q11).1 = 102) 
   ((fb_gd (¬ (x1 < 0 ∨ (fb_sh q11).2 ≤ x1.toNatClampNeg)) 
   (some (1, fb_wI u q11 x1.toNatClampNeg (vp_nar .boolean 0))))))))
set_option maxRecDepth 100000 in
set_option maxHeartbeats 4000000 in
theorem mX9_blank (g : fb_G) (u : fb_M) (a0 : Nat) (x1 : Int32) (ha0 : a0 < fb_NT ∧ fb_sh a0 = (9, 40)) {res : (Int32 × fb_M)} (h : fX9_blank u a0 x1 = some res) : fb_Runs g 1 21 0 0 fb_NT fb_NT yX9_blank cX9_blank 2 (some .boolean) [.ref (fb_b g + a0), .int x1] u (some (.int res.1)) res.2 := by
  unfold fX9_blank at h
  refine fb_enter (by decide) (Nat.le_of_ble_eq_true rfl) ?_
  show fb_V g RX9 cX9_blank 2 (some .boolean) "blank" (fb_room 1 21 0 0) (fb_Qm g (some (.int res.1)) fb_NT res.2 0 0) 0 0 fb_NT u 0 [(0, .ref (fb_b g + a0)), (1, .int x1)] []
  refine fb_aload_n (pc := 0) dX9_blank_0 0 rfl ?_
  refine fb_iload_n (pc := 1) dX9_blank_1 1 rfl ?_
  refine fb_bnE h (fun r2 h2 h => ?_)
  refine fb_cV0v (pc := 2) [.int x1] dX9_blank_2 (mX9_isLeaf g u a0 x1 ha0 h2) ymX9_isLeaf yiX9_isLeaf ha0.1 ha0.2 ylX9_257 rfl (Nat.le_of_ble_eq_true rfl) ⟨Nat.le_of_ble_eq_true rfl, Nat.le_of_ble_eq_true rfl⟩ ⟨Nat.le_of_ble_eq_true rfl, Nat.le_of_ble_eq_true rfl⟩ ?_
  refine fb_if_ne (pc := 5) (tgt := 10) h dX9_blank_5 (by decide) (fun h => ?_) (fun h => ?_)
  · refine fb_aload_n (pc := 10) dX9_blank_10 0 rfl ?_
    refine fb_bnE h (fun q11 e11 h => fb_gdE h (fun s11 h => ?_))
    refine fb_getR (pc := 11) dX9_blank_11 lkX9_80 ha0.1 ha0.2 (by decide) e11 ?_
    refine fb_iload_n (pc := 14) dX9_blank_14 1 rfl ?_
    refine fb_iconst (pc := 15) (v := 0) dX9_blank_15 fb_ki_0 ?_
    refine fb_gdE h (fun i16 h => ?_)
    refine fb_zast (pc := 16) dX9_blank_16 s11.1 (fb_eta s11.2) i16 ?_
    refine fb_iconst (pc := 17) (v := 1) dX9_blank_17 fb_ki_1 ?_
    exact fb_zretM (pc := 18) rfl h dX9_blank_18
  · refine fb_iconst (pc := 8) (v := 0) dX9_blank_8 fb_ki_0 ?_
    exact fb_zretM (pc := 9) rfl h dX9_blank_9

theorem dX9_place_0 : decode cX9_place 0 = .ok (.iconst 0, 1) := by decide +kernel
theorem dX9_place_1 : decode cX9_place 1 = .ok (.istore_n 2, 1) := by decide +kernel
theorem dX9_place_2 : decode cX9_place 2 = .ok (.iload_n 2, 1) := by decide +kernel
theorem dX9_place_3 : decode cX9_place 3 = .ok (.aload_n 0, 1) := by decide +kernel
theorem dX9_place_4 : decode cX9_place 4 = .ok (.getfield 260, 3) := by decide +kernel
theorem dX9_place_7 : decode cX9_place 7 = .ok (.if_icmp .ge 19, 3) := by decide +kernel
theorem dX9_place_10 : decode cX9_place 10 = .ok (.aload_n 0, 1) := by decide +kernel
theorem dX9_place_11 : decode cX9_place 11 = .ok (.getfield 68, 3) := by decide +kernel
theorem dX9_place_14 : decode cX9_place 14 = .ok (.iload_n 2, 1) := by decide +kernel
theorem dX9_place_15 : decode cX9_place 15 = .ok (.iaload, 1) := by decide +kernel
theorem dX9_place_16 : decode cX9_place 16 = .ok (.iload_n 1, 1) := by decide +kernel
theorem dX9_place_17 : decode cX9_place 17 = .ok (.if_icmp .eq 9, 3) := by decide +kernel
theorem dX9_place_20 : decode cX9_place 20 = .ok (.iinc 2 1, 3) := by decide +kernel
theorem dX9_place_23 : decode cX9_place 23 = .ok (.goto (-21), 3) := by decide +kernel
theorem dX9_place_26 : decode cX9_place 26 = .ok (.iload_n 2, 1) := by decide +kernel
theorem dX9_place_27 : decode cX9_place 27 = .ok (.ireturn, 1) := by decide +kernel
def bX9_place_2 (K2 : Int32 → Option Int32) (a0 : Nat) (x1 : Int32) (x2 : Int32) (u : fb_M) : Option Int32 :=
 (if (fb_I u a0 28) ≤ x2 then (some x2)
  else ((fb_R u a0 29).bind fun q11 => fb_gd (q11 < fb_NT ∧ (fb_sh q11).1 = 100) 
   ((fb_gd (¬ (x2 < 0 ∨ (fb_sh q11).2 ≤ x2.toNatClampNeg)) 
   (if (fb_I u q11 x2.toNatClampNeg) = x1 then (some x2)
   else (K2 (x2 + 1)))))))
def gX9_place_2 (a0 : Nat) (x1 : Int32) (u : fb_M) : Nat → Int32 → Option Int32
 | 0 => fun _ => none
 | fu + 1 => fun x2 => bX9_place_2 (gX9_place_2 a0 x1 u fu) a0 x1 x2 u
set_option maxRecDepth 100000 in
set_option maxHeartbeats 4000000 in
theorem tbX9_place_2 {g : fb_G} {res : Int32} (a0 : Nat) (x1 : Int32) (x2 : Int32) (u : fb_M) (K2 : Int32 → Option Int32) (ha0 : a0 < fb_NT ∧ fb_sh a0 = (9, 40)) (hK2 : ∀ (x2 : Int32) ,  K2 x2 = some res → fb_V g RX9 cX9_place 3 (some .int) "place" (fb_room 0 0 0 0) (fb_Qm g (some (.int res)) fb_NT u 0 0) 0 0 fb_NT u 2 [(0, .ref (fb_b g + a0)), (1, .int x1), (2, .int x2)] []) (h : bX9_place_2 K2 a0 x1 x2 u = some res) : fb_V g RX9 cX9_place 3 (some .int) "place" (fb_room 0 0 0 0) (fb_Qm g (some (.int res)) fb_NT u 0 0) 0 0 fb_NT u 2 [(0, .ref (fb_b g + a0)), (1, .int x1), (2, .int x2)] [] := by
  unfold bX9_place_2 at h
  refine fb_iload_n (pc := 2) dX9_place_2 2 rfl ?_
  refine fb_aload_n (pc := 3) dX9_place_3 0 rfl ?_
  refine fb_getI (pc := 4) dX9_place_4 lkX9_260 ha0.1 ha0.2 rfl ?_
  refine fb_icmp_ge (pc := 7) (tgt := 26) h dX9_place_7 (by decide) (fun h => ?_) (fun h => ?_)
  · refine fb_iload_n (pc := 26) dX9_place_26 2 rfl ?_
    exact fb_iretR (pc := 27) h dX9_place_27
  · refine fb_aload_n (pc := 10) dX9_place_10 0 rfl ?_
    refine fb_bnE h (fun q11 e11 h => fb_gdE h (fun s11 h => ?_))
    refine fb_getR (pc := 11) dX9_place_11 lkX9_68 ha0.1 ha0.2 (by decide) e11 ?_
    refine fb_iload_n (pc := 14) dX9_place_14 2 rfl ?_
    refine fb_gdE h (fun i15 h => ?_)
    refine fb_iald (pc := 15) dX9_place_15 s11.1 (fb_eta s11.2) i15 ?_
    refine fb_iload_n (pc := 16) dX9_place_16 1 rfl ?_
    refine fb_icmp_eq (pc := 17) (tgt := 26) h dX9_place_17 (by decide) (fun h => ?_) (fun h => ?_)
    · refine fb_iload_n (pc := 26) dX9_place_26 2 rfl ?_
      exact fb_iretR (pc := 27) h dX9_place_27
    · refine fb_iinc (pc := 20) (v := 1) (lv' := [(2, .int (x2 + 1)), (0, .ref (fb_b g + a0)), (1, .int x1)]) dX9_place_20 2 rfl fb_ki_1 (by decide) rfl ?_
      refine fb_goto (pc := 23) (tgt := 2) dX9_place_23 (by decide) ?_
      exact fb_sub [1, 2, 0] rfl (hK2 (x2 + 1) h)

theorem tgX9_place_2 {g : fb_G} {res : Int32} (a0 : Nat) (x1 : Int32) (u : fb_M) (ha0 : a0 < fb_NT ∧ fb_sh a0 = (9, 40)) : ∀ (fu : Nat) (x2 : Int32) ,  gX9_place_2 a0 x1 u fu x2 = some res → fb_V g RX9 cX9_place 3 (some .int) "place" (fb_room 0 0 0 0) (fb_Qm g (some (.int res)) fb_NT u 0 0) 0 0 fb_NT u 2 [(0, .ref (fb_b g + a0)), (1, .int x1), (2, .int x2)] [] := by
  intro fu
  induction fu with
  | zero => intro x2 h; exact absurd h (by simp [gX9_place_2])
  | succ fu ih => intro x2 h; exact tbX9_place_2 a0 x1 x2 u (gX9_place_2 a0 x1 u fu) ha0 ih h
def fX9_place (u : fb_M) (a0 : Nat) (x1 : Int32) : Option Int32 :=
 (gX9_place_2 a0 x1 u fb_F 0)
set_option maxRecDepth 100000 in
set_option maxHeartbeats 4000000 in
theorem mX9_place (g : fb_G) (u : fb_M) (a0 : Nat) (x1 : Int32) (ha0 : a0 < fb_NT ∧ fb_sh a0 = (9, 40)) {res : Int32} (h : fX9_place u a0 x1 = some res) : fb_Runs g 0 0 0 0 fb_NT fb_NT yX9_place cX9_place 3 (some .int) [.ref (fb_b g + a0), .int x1] u (some (.int res)) u := by
  unfold fX9_place at h
  refine fb_enter (by decide) (Nat.le_of_ble_eq_true rfl) ?_
  show fb_V g RX9 cX9_place 3 (some .int) "place" (fb_room 0 0 0 0) (fb_Qm g (some (.int res)) fb_NT u 0 0) 0 0 fb_NT u 0 [(0, .ref (fb_b g + a0)), (1, .int x1)] []
  refine fb_iconst (pc := 0) (v := 0) dX9_place_0 fb_ki_0 ?_
  refine fb_istore_n (pc := 1) (lv' := [(2, .int 0), (0, .ref (fb_b g + a0)), (1, .int x1)]) dX9_place_1 rfl (by decide) rfl ?_
  exact fb_sub [1, 2, 0] rfl (tgX9_place_2 a0 x1 u ha0 fb_F 0 h)
