def w_Mo_sum1 : List Cond := .code y_Mo_sum1 b_Mo_sum1 15 none :: ALLW
def rm_Mo_sum1 : Room := { frames := 21, cells := 0, slots := 0, locals := 624 }
theorem d_Mo_sum1_0 : decode b_Mo_sum1 0 = .ok (.iconst 0, 1) := by decide +kernel
theorem d_Mo_sum1_1 : decode b_Mo_sum1 1 = .ok (.istore 9, 2) := by decide +kernel
theorem d_Mo_sum1_3 : decode b_Mo_sum1 3 = .ok (.iload 5, 2) := by decide +kernel
theorem d_Mo_sum1_5 : decode b_Mo_sum1 5 = .ok (.iload 7, 2) := by decide +kernel
theorem d_Mo_sum1_7 : decode b_Mo_sum1 7 = .ok (.ior, 1) := by decide +kernel
theorem d_Mo_sum1_8 : decode b_Mo_sum1 8 = .ok (.istore 10, 2) := by decide +kernel
theorem d_Mo_sum1_10 : decode b_Mo_sum1 10 = .ok (.iload_n 1, 1) := by decide +kernel
theorem d_Mo_sum1_11 : decode b_Mo_sum1 11 = .ok (.tableswitch 193 0 4 #[33, 193, 110, 139, 179], 33) := by decide +kernel
theorem d_Mo_sum1_44 : decode b_Mo_sum1 44 = .ok (.iload_n 2, 1) := by decide +kernel
theorem d_Mo_sum1_45 : decode b_Mo_sum1 45 = .ok (.ifCond .eq 11, 3) := by decide +kernel
theorem d_Mo_sum1_48 : decode b_Mo_sum1 48 = .ok (.iload 4, 2) := by decide +kernel
theorem d_Mo_sum1_50 : decode b_Mo_sum1 50 = .ok (.iload 6, 2) := by decide +kernel
theorem d_Mo_sum1_52 : decode b_Mo_sum1 52 = .ok (.isub, 1) := by decide +kernel
theorem d_Mo_sum1_53 : decode b_Mo_sum1 53 = .ok (.goto 8, 3) := by decide +kernel
theorem d_Mo_sum1_56 : decode b_Mo_sum1 56 = .ok (.iload 4, 2) := by decide +kernel
theorem d_Mo_sum1_58 : decode b_Mo_sum1 58 = .ok (.iload 6, 2) := by decide +kernel
theorem d_Mo_sum1_60 : decode b_Mo_sum1 60 = .ok (.iadd, 1) := by decide +kernel
theorem d_Mo_sum1_61 : decode b_Mo_sum1 61 = .ok (.istore 8, 2) := by decide +kernel
theorem d_Mo_sum1_63 : decode b_Mo_sum1 63 = .ok (.iconst 0, 1) := by decide +kernel
theorem d_Mo_sum1_64 : decode b_Mo_sum1 64 = .ok (.istore 11, 2) := by decide +kernel
theorem d_Mo_sum1_66 : decode b_Mo_sum1 66 = .ok (.iconst 0, 1) := by decide +kernel
theorem d_Mo_sum1_67 : decode b_Mo_sum1 67 = .ok (.istore 12, 2) := by decide +kernel
theorem d_Mo_sum1_69 : decode b_Mo_sum1 69 = .ok (.iload 12, 2) := by decide +kernel
theorem d_Mo_sum1_71 : decode b_Mo_sum1 71 = .ok (.bipush 32, 2) := by decide +kernel
theorem d_Mo_sum1_73 : decode b_Mo_sum1 73 = .ok (.if_icmp .ge 45, 3) := by decide +kernel
theorem d_Mo_sum1_76 : decode b_Mo_sum1 76 = .ok (.iload 11, 2) := by decide +kernel
theorem d_Mo_sum1_78 : decode b_Mo_sum1 78 = .ok (.ifCond .ne 13, 3) := by decide +kernel
theorem d_Mo_sum1_81 : decode b_Mo_sum1 81 = .ok (.iload 10, 2) := by decide +kernel
theorem d_Mo_sum1_83 : decode b_Mo_sum1 83 = .ok (.iload 12, 2) := by decide +kernel
theorem d_Mo_sum1_85 : decode b_Mo_sum1 85 = .ok (.invokestatic 180, 3) := by decide +kernel
theorem d_Mo_sum1_88 : decode b_Mo_sum1 88 = .ok (.ifCond .eq 7, 3) := by decide +kernel
theorem d_Mo_sum1_91 : decode b_Mo_sum1 91 = .ok (.iconst 1, 1) := by decide +kernel
theorem d_Mo_sum1_92 : decode b_Mo_sum1 92 = .ok (.goto 4, 3) := by decide +kernel
theorem d_Mo_sum1_95 : decode b_Mo_sum1 95 = .ok (.iconst 0, 1) := by decide +kernel
theorem d_Mo_sum1_96 : decode b_Mo_sum1 96 = .ok (.istore 11, 2) := by decide +kernel
theorem d_Mo_sum1_98 : decode b_Mo_sum1 98 = .ok (.iload 11, 2) := by decide +kernel
theorem d_Mo_sum1_100 : decode b_Mo_sum1 100 = .ok (.ifCond .eq 12, 3) := by decide +kernel
theorem d_Mo_sum1_103 : decode b_Mo_sum1 103 = .ok (.iload 9, 2) := by decide +kernel
theorem d_Mo_sum1_105 : decode b_Mo_sum1 105 = .ok (.iconst 1, 1) := by decide +kernel
theorem d_Mo_sum1_106 : decode b_Mo_sum1 106 = .ok (.iload 12, 2) := by decide +kernel
theorem d_Mo_sum1_108 : decode b_Mo_sum1 108 = .ok (.ishl, 1) := by decide +kernel
theorem d_Mo_sum1_109 : decode b_Mo_sum1 109 = .ok (.ior, 1) := by decide +kernel
theorem d_Mo_sum1_110 : decode b_Mo_sum1 110 = .ok (.istore 9, 2) := by decide +kernel
theorem d_Mo_sum1_112 : decode b_Mo_sum1 112 = .ok (.iinc 12 1, 3) := by decide +kernel
theorem d_Mo_sum1_115 : decode b_Mo_sum1 115 = .ok (.goto (-46), 3) := by decide +kernel
theorem d_Mo_sum1_118 : decode b_Mo_sum1 118 = .ok (.goto 224, 3) := by decide +kernel
theorem d_Mo_sum1_121 : decode b_Mo_sum1 121 = .ok (.iload 4, 2) := by decide +kernel
theorem d_Mo_sum1_123 : decode b_Mo_sum1 123 = .ok (.iload 6, 2) := by decide +kernel
theorem d_Mo_sum1_125 : decode b_Mo_sum1 125 = .ok (.if_icmp .ge 7, 3) := by decide +kernel
theorem d_Mo_sum1_128 : decode b_Mo_sum1 128 = .ok (.iconst 1, 1) := by decide +kernel
theorem d_Mo_sum1_129 : decode b_Mo_sum1 129 = .ok (.goto 4, 3) := by decide +kernel
theorem d_Mo_sum1_132 : decode b_Mo_sum1 132 = .ok (.iconst 0, 1) := by decide +kernel
theorem d_Mo_sum1_133 : decode b_Mo_sum1 133 = .ok (.istore 8, 2) := by decide +kernel
theorem d_Mo_sum1_135 : decode b_Mo_sum1 135 = .ok (.iload 10, 2) := by decide +kernel
theorem d_Mo_sum1_137 : decode b_Mo_sum1 137 = .ok (.ifCond .eq 7, 3) := by decide +kernel
theorem d_Mo_sum1_140 : decode b_Mo_sum1 140 = .ok (.iconst 1, 1) := by decide +kernel
theorem d_Mo_sum1_141 : decode b_Mo_sum1 141 = .ok (.goto 4, 3) := by decide +kernel
theorem d_Mo_sum1_144 : decode b_Mo_sum1 144 = .ok (.iconst 0, 1) := by decide +kernel
theorem d_Mo_sum1_145 : decode b_Mo_sum1 145 = .ok (.istore 9, 2) := by decide +kernel
theorem d_Mo_sum1_147 : decode b_Mo_sum1 147 = .ok (.goto 195, 3) := by decide +kernel
theorem d_Mo_sum1_150 : decode b_Mo_sum1 150 = .ok (.iload 4, 2) := by decide +kernel
theorem d_Mo_sum1_152 : decode b_Mo_sum1 152 = .ok (.i2l, 1) := by decide +kernel
theorem d_Mo_sum1_153 : decode b_Mo_sum1 153 = .ok (.ldc2_w 147, 3) := by decide +kernel
theorem d_Mo_sum1_156 : decode b_Mo_sum1 156 = .ok (.land, 1) := by decide +kernel
theorem d_Mo_sum1_157 : decode b_Mo_sum1 157 = .ok (.iload 6, 2) := by decide +kernel
theorem d_Mo_sum1_159 : decode b_Mo_sum1 159 = .ok (.i2l, 1) := by decide +kernel
theorem d_Mo_sum1_160 : decode b_Mo_sum1 160 = .ok (.ldc2_w 147, 3) := by decide +kernel
theorem d_Mo_sum1_163 : decode b_Mo_sum1 163 = .ok (.land, 1) := by decide +kernel
theorem d_Mo_sum1_164 : decode b_Mo_sum1 164 = .ok (.lcmp, 1) := by decide +kernel
theorem d_Mo_sum1_165 : decode b_Mo_sum1 165 = .ok (.ifCond .ge 7, 3) := by decide +kernel
theorem d_Mo_sum1_168 : decode b_Mo_sum1 168 = .ok (.iconst 1, 1) := by decide +kernel
theorem d_Mo_sum1_169 : decode b_Mo_sum1 169 = .ok (.goto 4, 3) := by decide +kernel
theorem d_Mo_sum1_172 : decode b_Mo_sum1 172 = .ok (.iconst 0, 1) := by decide +kernel
theorem d_Mo_sum1_173 : decode b_Mo_sum1 173 = .ok (.istore 8, 2) := by decide +kernel
theorem d_Mo_sum1_175 : decode b_Mo_sum1 175 = .ok (.iload 10, 2) := by decide +kernel
theorem d_Mo_sum1_177 : decode b_Mo_sum1 177 = .ok (.ifCond .eq 7, 3) := by decide +kernel
theorem d_Mo_sum1_180 : decode b_Mo_sum1 180 = .ok (.iconst 1, 1) := by decide +kernel
theorem d_Mo_sum1_181 : decode b_Mo_sum1 181 = .ok (.goto 4, 3) := by decide +kernel
theorem d_Mo_sum1_184 : decode b_Mo_sum1 184 = .ok (.iconst 0, 1) := by decide +kernel
theorem d_Mo_sum1_185 : decode b_Mo_sum1 185 = .ok (.istore 9, 2) := by decide +kernel
theorem d_Mo_sum1_187 : decode b_Mo_sum1 187 = .ok (.goto 155, 3) := by decide +kernel
theorem d_Mo_sum1_190 : decode b_Mo_sum1 190 = .ok (.iload 4, 2) := by decide +kernel
theorem d_Mo_sum1_192 : decode b_Mo_sum1 192 = .ok (.iload 6, 2) := by decide +kernel
theorem d_Mo_sum1_194 : decode b_Mo_sum1 194 = .ok (.ixor, 1) := by decide +kernel
theorem d_Mo_sum1_195 : decode b_Mo_sum1 195 = .ok (.istore 8, 2) := by decide +kernel
theorem d_Mo_sum1_197 : decode b_Mo_sum1 197 = .ok (.iload 10, 2) := by decide +kernel
theorem d_Mo_sum1_199 : decode b_Mo_sum1 199 = .ok (.istore 9, 2) := by decide +kernel
theorem d_Mo_sum1_201 : decode b_Mo_sum1 201 = .ok (.goto 141, 3) := by decide +kernel
theorem d_Mo_sum1_204 : decode b_Mo_sum1 204 = .ok (.iload_n 1, 1) := by decide +kernel
theorem d_Mo_sum1_205 : decode b_Mo_sum1 205 = .ok (.bipush 6, 2) := by decide +kernel
theorem d_Mo_sum1_207 : decode b_Mo_sum1 207 = .ok (.if_icmp .ne 11, 3) := by decide +kernel
theorem d_Mo_sum1_210 : decode b_Mo_sum1 210 = .ok (.iload 4, 2) := by decide +kernel
theorem d_Mo_sum1_212 : decode b_Mo_sum1 212 = .ok (.iload 6, 2) := by decide +kernel
theorem d_Mo_sum1_214 : decode b_Mo_sum1 214 = .ok (.ior, 1) := by decide +kernel
theorem d_Mo_sum1_215 : decode b_Mo_sum1 215 = .ok (.goto 8, 3) := by decide +kernel
theorem d_Mo_sum1_218 : decode b_Mo_sum1 218 = .ok (.iload 4, 2) := by decide +kernel
theorem d_Mo_sum1_220 : decode b_Mo_sum1 220 = .ok (.iload 6, 2) := by decide +kernel
theorem d_Mo_sum1_222 : decode b_Mo_sum1 222 = .ok (.iand, 1) := by decide +kernel
theorem d_Mo_sum1_223 : decode b_Mo_sum1 223 = .ok (.istore 8, 2) := by decide +kernel
theorem d_Mo_sum1_225 : decode b_Mo_sum1 225 = .ok (.iconst 0, 1) := by decide +kernel
theorem d_Mo_sum1_226 : decode b_Mo_sum1 226 = .ok (.istore 11, 2) := by decide +kernel
theorem d_Mo_sum1_228 : decode b_Mo_sum1 228 = .ok (.iload 11, 2) := by decide +kernel
theorem d_Mo_sum1_230 : decode b_Mo_sum1 230 = .ok (.bipush 32, 2) := by decide +kernel
theorem d_Mo_sum1_232 : decode b_Mo_sum1 232 = .ok (.if_icmp .ge 110, 3) := by decide +kernel
theorem d_Mo_sum1_235 : decode b_Mo_sum1 235 = .ok (.iload 5, 2) := by decide +kernel
theorem d_Mo_sum1_237 : decode b_Mo_sum1 237 = .ok (.iload 11, 2) := by decide +kernel
theorem d_Mo_sum1_239 : decode b_Mo_sum1 239 = .ok (.invokestatic 180, 3) := by decide +kernel
theorem d_Mo_sum1_242 : decode b_Mo_sum1 242 = .ok (.istore 12, 2) := by decide +kernel
theorem d_Mo_sum1_244 : decode b_Mo_sum1 244 = .ok (.iload 7, 2) := by decide +kernel
theorem d_Mo_sum1_246 : decode b_Mo_sum1 246 = .ok (.iload 11, 2) := by decide +kernel
theorem d_Mo_sum1_248 : decode b_Mo_sum1 248 = .ok (.invokestatic 180, 3) := by decide +kernel
theorem d_Mo_sum1_251 : decode b_Mo_sum1 251 = .ok (.istore 13, 2) := by decide +kernel
theorem d_Mo_sum1_253 : decode b_Mo_sum1 253 = .ok (.iload 12, 2) := by decide +kernel
theorem d_Mo_sum1_255 : decode b_Mo_sum1 255 = .ok (.ifCond .ne 24, 3) := by decide +kernel
theorem d_Mo_sum1_258 : decode b_Mo_sum1 258 = .ok (.iload 4, 2) := by decide +kernel
theorem d_Mo_sum1_260 : decode b_Mo_sum1 260 = .ok (.iload 11, 2) := by decide +kernel
theorem d_Mo_sum1_262 : decode b_Mo_sum1 262 = .ok (.invokestatic 180, 3) := by decide +kernel
theorem d_Mo_sum1_265 : decode b_Mo_sum1 265 = .ok (.iload_n 1, 1) := by decide +kernel
theorem d_Mo_sum1_266 : decode b_Mo_sum1 266 = .ok (.bipush 6, 2) := by decide +kernel
theorem d_Mo_sum1_268 : decode b_Mo_sum1 268 = .ok (.if_icmp .ne 7, 3) := by decide +kernel
theorem d_Mo_sum1_271 : decode b_Mo_sum1 271 = .ok (.iconst 1, 1) := by decide +kernel
theorem d_Mo_sum1_272 : decode b_Mo_sum1 272 = .ok (.goto 4, 3) := by decide +kernel
theorem d_Mo_sum1_275 : decode b_Mo_sum1 275 = .ok (.iconst 0, 1) := by decide +kernel
theorem d_Mo_sum1_276 : decode b_Mo_sum1 276 = .ok (.if_icmp .eq 29, 3) := by decide +kernel
theorem d_Mo_sum1_279 : decode b_Mo_sum1 279 = .ok (.iload 13, 2) := by decide +kernel
theorem d_Mo_sum1_281 : decode b_Mo_sum1 281 = .ok (.ifCond .ne 28, 3) := by decide +kernel
theorem d_Mo_sum1_284 : decode b_Mo_sum1 284 = .ok (.iload 6, 2) := by decide +kernel
theorem d_Mo_sum1_286 : decode b_Mo_sum1 286 = .ok (.iload 11, 2) := by decide +kernel
theorem d_Mo_sum1_288 : decode b_Mo_sum1 288 = .ok (.invokestatic 180, 3) := by decide +kernel
theorem d_Mo_sum1_291 : decode b_Mo_sum1 291 = .ok (.iload_n 1, 1) := by decide +kernel
theorem d_Mo_sum1_292 : decode b_Mo_sum1 292 = .ok (.bipush 6, 2) := by decide +kernel
theorem d_Mo_sum1_294 : decode b_Mo_sum1 294 = .ok (.if_icmp .ne 7, 3) := by decide +kernel
theorem d_Mo_sum1_297 : decode b_Mo_sum1 297 = .ok (.iconst 1, 1) := by decide +kernel
theorem d_Mo_sum1_298 : decode b_Mo_sum1 298 = .ok (.goto 4, 3) := by decide +kernel
theorem d_Mo_sum1_301 : decode b_Mo_sum1 301 = .ok (.iconst 0, 1) := by decide +kernel
theorem d_Mo_sum1_302 : decode b_Mo_sum1 302 = .ok (.if_icmp .ne 7, 3) := by decide +kernel
theorem d_Mo_sum1_305 : decode b_Mo_sum1 305 = .ok (.iconst 1, 1) := by decide +kernel
theorem d_Mo_sum1_306 : decode b_Mo_sum1 306 = .ok (.goto 4, 3) := by decide +kernel
theorem d_Mo_sum1_309 : decode b_Mo_sum1 309 = .ok (.iconst 0, 1) := by decide +kernel
theorem d_Mo_sum1_310 : decode b_Mo_sum1 310 = .ok (.istore 14, 2) := by decide +kernel
theorem d_Mo_sum1_312 : decode b_Mo_sum1 312 = .ok (.iload 12, 2) := by decide +kernel
theorem d_Mo_sum1_314 : decode b_Mo_sum1 314 = .ok (.ifCond .ne 8, 3) := by decide +kernel
theorem d_Mo_sum1_317 : decode b_Mo_sum1 317 = .ok (.iload 13, 2) := by decide +kernel
theorem d_Mo_sum1_319 : decode b_Mo_sum1 319 = .ok (.ifCond .eq 17, 3) := by decide +kernel
theorem d_Mo_sum1_322 : decode b_Mo_sum1 322 = .ok (.iload 14, 2) := by decide +kernel
theorem d_Mo_sum1_324 : decode b_Mo_sum1 324 = .ok (.ifCond .ne 12, 3) := by decide +kernel
theorem d_Mo_sum1_327 : decode b_Mo_sum1 327 = .ok (.iload 9, 2) := by decide +kernel
theorem d_Mo_sum1_329 : decode b_Mo_sum1 329 = .ok (.iconst 1, 1) := by decide +kernel
theorem d_Mo_sum1_330 : decode b_Mo_sum1 330 = .ok (.iload 11, 2) := by decide +kernel
theorem d_Mo_sum1_332 : decode b_Mo_sum1 332 = .ok (.ishl, 1) := by decide +kernel
theorem d_Mo_sum1_333 : decode b_Mo_sum1 333 = .ok (.ior, 1) := by decide +kernel
theorem d_Mo_sum1_334 : decode b_Mo_sum1 334 = .ok (.istore 9, 2) := by decide +kernel
theorem d_Mo_sum1_336 : decode b_Mo_sum1 336 = .ok (.iinc 11 1, 3) := by decide +kernel
theorem d_Mo_sum1_339 : decode b_Mo_sum1 339 = .ok (.goto (-111), 3) := by decide +kernel
theorem d_Mo_sum1_342 : decode b_Mo_sum1 342 = .ok (.aload_n 0, 1) := by decide +kernel
theorem d_Mo_sum1_343 : decode b_Mo_sum1 343 = .ok (.iload_n 3, 1) := by decide +kernel
theorem d_Mo_sum1_344 : decode b_Mo_sum1 344 = .ok (.iload 8, 2) := by decide +kernel
theorem d_Mo_sum1_346 : decode b_Mo_sum1 346 = .ok (.iload 9, 2) := by decide +kernel
theorem d_Mo_sum1_348 : decode b_Mo_sum1 348 = .ok (.invokevirtual 132, 3) := by decide +kernel
theorem d_Mo_sum1_351 : decode b_Mo_sum1 351 = .ok (.return_, 1) := by decide +kernel
def f_Mo_sum1_342 (f : Int32) (mi : Bool) (d : Nat) (a : Int32) (da : Int32) (b : Int32) (db : Int32) (u : S5) (un : Int32) (v : Int32) : S5 := f_Mo_give d v un u
def f_Mo_sum1_228 (f : Int32) (mi : Bool) (d : Nat) (a : Int32) (da : Int32) (b : Int32) (db : Int32) (u : S5) (x1 : Int32) : Nat → Nat → Int32 → Int32
  | 0, i, un => 0
  | k228 + 1, i, un => if i < 32 then (let x3 : Bool := if (f_Mo_has da (nI i)) = true then (if (f_Mo_has db (nI i)) = true then false else let x10 : Bool := if f = 6 then true else false; if (b2i (f_Mo_has b (nI i))) = (b2i x10) then true else false) else let x13 : Bool := if f = 6 then true else false; if (b2i (f_Mo_has a (nI i))) = (b2i x13) then true else if (f_Mo_has db (nI i)) = true then false else let x16 : Bool := if f = 6 then true else false; if (b2i (f_Mo_has b (nI i))) = (b2i x16) then true else false; if (f_Mo_has da (nI i)) = true then (if x3 = true then f_Mo_sum1_228 f mi d a da b db u x1 k228 (i + 1) un else f_Mo_sum1_228 f mi d a da b db u x1 k228 (i + 1) (un ||| ((1 : Int32) <<< ((nI i) &&& 31)))) else if (f_Mo_has db (nI i)) = true then (if x3 = true then f_Mo_sum1_228 f mi d a da b db u x1 k228 (i + 1) un else f_Mo_sum1_228 f mi d a da b db u x1 k228 (i + 1) (un ||| ((1 : Int32) <<< ((nI i) &&& 31)))) else f_Mo_sum1_228 f mi d a da b db u x1 k228 (i + 1) un) else un
def f_Mo_sum1_204 (f : Int32) (mi : Bool) (d : Nat) (a : Int32) (da : Int32) (b : Int32) (db : Int32) (u : S5) : S5 := let x1 : Int32 := if f = 6 then a ||| b else a &&& b; let un1 : Int32 := f_Mo_sum1_228 f mi d a da b db u x1 33 0 0; f_Mo_sum1_342 f mi d a da b db u un1 x1
def f_Mo_sum1_69 (f : Int32) (mi : Bool) (d : Nat) (a : Int32) (da : Int32) (b : Int32) (db : Int32) (u : S5) (x22 : Int32) : Nat → Nat → Bool → Int32 → Int32
  | 0, i, fm, un => 0
  | k69 + 1, i, fm, un => if i < 32 then (let x24 : Bool := if fm = true then true else if (f_Mo_has (da ||| db) (nI i)) = true then true else false; if x24 = true then f_Mo_sum1_69 f mi d a da b db u x22 k69 (i + 1) x24 (un ||| ((1 : Int32) <<< ((nI i) &&& 31))) else f_Mo_sum1_69 f mi d a da b db u x22 k69 (i + 1) x24 un) else un
def f_Mo_sum1 (f : Int32) (mi : Bool) (d : Nat) (a : Int32) (da : Int32) (b : Int32) (db : Int32) (u : S5) : S5 := if f = 0 then (let x22 : Int32 := if mi = true then a - b else a + b; let un1 : Int32 := f_Mo_sum1_69 f mi d a da b db u x22 33 0 false 0; f_Mo_sum1_342 f mi d a da b db u un1 x22) else if f = 1 then f_Mo_sum1_204 f mi d a da b db u else if f = 2 then (let x31 : Int32 := if b ≤ a then 0 else 1; let x32 : Int32 := if (da ||| db) = 0 then 0 else 1; f_Mo_sum1_342 f mi d a da b db u x32 x31) else if f = 3 then (let x36 : Int32 := if 0 ≤ (lg_cmp (a.toInt64 &&& 4294967295) (b.toInt64 &&& 4294967295)) then 0 else 1; let x37 : Int32 := if (da ||| db) = 0 then 0 else 1; f_Mo_sum1_342 f mi d a da b db u x37 x36) else if f = 4 then f_Mo_sum1_342 f mi d a da b db u (da ||| db) (a ^^^ b) else f_Mo_sum1_204 f mi d a da b db u
set_option maxHeartbeats 8000000 in
set_option maxRecDepth 100000 in
theorem c_Mo_sum1 (l : Launch) (dC : Nat → ClassId) (dI : Nat → Nat → Nat) (cI cZ : ClassId) (ad : Nat → Nat) (u : S5) (f : Int32) (mi : Bool) (d : Nat) (a : Int32) (da : Int32) (b : Int32) (db : Int32) (hd : d < 32) (sz : Nat) : Met l y_Mo_sum1 w_Mo_sum1 rm_Mo_sum1 (PreW (dC, dI) classes [(cI, .int), (cZ, .boolean)] (wM cI cZ ad) u sz [.ref (ad 0), .int f, .int (b2i mi), .int (nI d), .int a, .int da, .int b, .int db]) (QWv (dC, dI) classes [(cI, .int), (cZ, .boolean)] (wM cI cZ ad) (va_A (wM cI cZ ad u) sz) (f_Mo_sum1 f mi d a da b db u)) 0 0 (va_A (wM cI cZ ad u) sz) := by
  generalize hres : f_Mo_sum1 f mi d a da b db u = res
  refine Met.ofW (cc := b_Mo_sum1) (maxL := 15) (ret := none) (by decide) rfl ?_
  intro p e s m args below meth c s₁ B hml hv
  obtain ⟨rfl, rfl, hP, hK, hD0⟩ := hv
  have hx := B.exec
  have hb := B.bytes
  have hr := B.returns
  have hts : ∀ w9 ∈ ALLW, w9.before ([.ref (ad 0), .int f, .int (b2i mi), .int (nI d), .int a, .int da, .int b, .int db] : List Value).toArray s = true := fun w9 h => atoms_spec (ws := w_Mo_sum1) B.pre w9 (List.mem_cons_of_mem _ h)
  have hown : s.vm.findClass R_Mo = some m.cls := findClass_of_methodNamed B.named
  have hlocks := B.notSynchronized
  have hD := hD0.self (sz := s.heap.size)
  generalize hAe : va_A (wM cI cZ ad u) s.heap.size = A at hD ⊢
  have hA : ∀ q : Nat, s.heap.size ≤ q → A q := fun q h => by rw [← hAe]; exact Or.inr h
  have hS : va_S A s.heap s.heap [] := va_S.rf
  have hl := lv_entry ([.ref (ad 0), .int f, .int (b2i mi), .int (nI d), .int a, .int da, .int b, .int db]) (n := 15) (Nat.le_of_ble_eq_true rfl)
  rw [lg_entry_eq]
  generalize (lg_sl ([.ref (ad 0), .int f, .int (b2i mi), .int (nI d), .int a, .int da, .int b, .int db]) ++ List.replicate (15 - (lg_sl ([.ref (ad 0), .int f, .int (b2i mi), .int (nI d), .int a, .int da, .int b, .int db])).length) Slot.unset).toArray = ls at hl ⊢
  have hl : lv_has ls 15 [(0, .ref (ad 0)), (1, .int f), (2, .int (b2i mi)), (3, .int (nI d)), (4, .int a), (5, .int da), (6, .int b), (7, .int db)] := hl
  have hq := hres.symm
  skip
  refine lv_iconst (v := 0) hx hb d_Mo_sum1_0 (by decide) ?_
  refine lv_istore (lv' := [(9, .int 0), (0, .ref (ad 0)), (1, .int f), (2, .int (b2i mi)), (3, .int (nI d)), (4, .int a), (5, .int da), (6, .int b), (7, .int db)]) hx hb d_Mo_sum1_1 hl (by decide) rfl (fun ls hl => ?_)
  refine lv_iload hx hb d_Mo_sum1_3 (lv_at hl 6 rfl) ?_
  refine lv_iload hx hb d_Mo_sum1_5 (lv_at hl 8 rfl) ?_
  refine lv_ior hx hb d_Mo_sum1_7 ?_
  refine lv_istore (lv' := [(10, .int (da ||| db)), (9, .int 0), (0, .ref (ad 0)), (1, .int f), (2, .int (b2i mi)), (3, .int (nI d)), (4, .int a), (5, .int da), (6, .int b), (7, .int db)]) hx hb d_Mo_sum1_8 hl (by decide) rfl (fun ls hl => ?_)
  refine lv_iload_n hx hb d_Mo_sum1_10 rfl (lv_at hl 3 rfl) ?_
  have J342 : ∀ (un : Int32) (v : Int32) (H : Heap) (locs : List Loc) (ls : Array Slot), res = f_Mo_sum1_342 f mi d a da b db u un v → va_P (dC, dI) classes (wM cI cZ ad u) H → va_D A (wM cI cZ ad u) → va_S A s.heap H locs → lv_has ls 15 [(10, .int (da ||| db)), (9, .int un), (0, .ref (ad 0)), (1, .int f), (2, .int (b2i mi)), (3, .int (nI d)), (4, .int a), (5, .int da), (6, .int b), (7, .int db), (8, .int v)] → W p l e (headSpec w_Mo_sum1 rm_Mo_sum1).room s m ([.ref (ad 0), .int f, .int (b2i mi), .int (nI d), .int a, .int da, .int b, .int db] : List Value).toArray below meth c H locs 0 0 (MQ below (QWv (dC, dI) classes [(cI, .int), (cZ, .boolean)] (wM cI cZ ad) A res) ([.ref (ad 0), .int f, .int (b2i mi), .int (nI d), .int a, .int da, .int b, .int db] : List Value).toArray s 0 0 A) (F0 m 342 ls []) := by
    intro un v H locs ls hq hP hD hS hl
    refine lv_aload_n hx hb d_Mo_sum1_342 rfl (lv_at hl 2 rfl) ?_
    refine lv_iload_n hx hb d_Mo_sum1_343 rfl (lv_at hl 5 rfl) ?_
    refine lv_iload hx hb d_Mo_sum1_344 (lv_at hl 10 rfl) ?_
    refine lv_iload hx hb d_Mo_sum1_346 (lv_at hl 1 rfl) ?_
    refine callWv (va_runV (As := [.int (nI d), .int v, .int un]) (rest := []) ⟨hx, hb, hml, hown, hts⟩ (c_Mo_give l dC dI cI cZ ad u d v un (by first | assumption | omega) H.size) (cwV 3 hts (goodV m_16_7 m_16_8 m_19_20 m_0_12 m_16_9) rfl rfl rfl (by decide +kernel) ⟨Nat.le_of_ble_eq_true rfl, Nat.le_of_ble_eq_true rfl⟩) ⟨preW_blind, va_recv hK hP (ci := 8) (q0 := 0) rfl rfl, preW_ok hP hD hK⟩ rfl rfl hl.1 rfl (lv_room (Nat.le_of_ble_eq_true rfl)) d_Mo_sum1_348 ⟨Nat.zero_le _, Nat.zero_le _⟩) hP hD hS hA (fun H locs hP hD hS => ?_)
    have hE : res = f_Mo_give d v un u := hq.trans (rfl)
    exact retWv hx hb hr hP hK hD hS hE.symm d_Mo_sum1_351 hlocks
  have J204 : ∀  (H : Heap) (locs : List Loc) (ls : Array Slot), res = f_Mo_sum1_204 f mi d a da b db u → va_P (dC, dI) classes (wM cI cZ ad u) H → va_D A (wM cI cZ ad u) → va_S A s.heap H locs → lv_has ls 15 [(10, .int (da ||| db)), (9, .int 0), (0, .ref (ad 0)), (1, .int f), (2, .int (b2i mi)), (3, .int (nI d)), (4, .int a), (5, .int da), (6, .int b), (7, .int db)] → W p l e (headSpec w_Mo_sum1 rm_Mo_sum1).room s m ([.ref (ad 0), .int f, .int (b2i mi), .int (nI d), .int a, .int da, .int b, .int db] : List Value).toArray below meth c H locs 0 0 (MQ below (QWv (dC, dI) classes [(cI, .int), (cZ, .boolean)] (wM cI cZ ad) A res) ([.ref (ad 0), .int f, .int (b2i mi), .int (nI d), .int a, .int da, .int b, .int db] : List Value).toArray s 0 0 A) (F0 m 204 ls []) := by
    intro  H locs ls hq hP hD hS hl
    refine lv_iload_n hx hb d_Mo_sum1_204 rfl (lv_at hl 3 rfl) ?_
    refine lv_bipush (v := 6) hx hb d_Mo_sum1_205 (by decide) ?_
    have J223 : ∀ (x1 : Int32) (H : Heap) (locs : List Loc), x1 = (if f = 6 then a ||| b else a &&& b) → va_P (dC, dI) classes (wM cI cZ ad u) H → va_D A (wM cI cZ ad u) → va_S A s.heap H locs → W p l e (headSpec w_Mo_sum1 rm_Mo_sum1).room s m ([.ref (ad 0), .int f, .int (b2i mi), .int (nI d), .int a, .int da, .int b, .int db] : List Value).toArray below meth c H locs 0 0 (MQ below (QWv (dC, dI) classes [(cI, .int), (cZ, .boolean)] (wM cI cZ ad) A res) ([.ref (ad 0), .int f, .int (b2i mi), .int (nI d), .int a, .int da, .int b, .int db] : List Value).toArray s 0 0 A) (F0 m 223 ls [.int x1]) := by
      intro x1 H locs ex1 hP hD hS
      refine lv_istore (lv' := [(8, .int x1), (10, .int (da ||| db)), (9, .int 0), (0, .ref (ad 0)), (1, .int f), (2, .int (b2i mi)), (3, .int (nI d)), (4, .int a), (5, .int da), (6, .int b), (7, .int db)]) hx hb d_Mo_sum1_223 hl (by decide) rfl (fun ls hl => ?_)
      refine lv_iconst (v := nI 0) hx hb d_Mo_sum1_225 (by decide) ?_
      refine lv_istore (lv' := [(11, .int (nI 0)), (8, .int x1), (10, .int (da ||| db)), (9, .int 0), (0, .ref (ad 0)), (1, .int f), (2, .int (b2i mi)), (3, .int (nI d)), (4, .int a), (5, .int da), (6, .int b), (7, .int db)]) hx hb d_Mo_sum1_226 hl (by decide) rfl (fun ls hl => ?_)
      obtain ⟨o228, ho228⟩ : ∃ z : Int32, z = f_Mo_sum1_228 f mi d a da b db u x1 33 0 0 := ⟨_, rfl⟩
      have K228 : ∀ (un1 : Int32) (H : Heap) (locs : List Loc) (ls : Array Slot), un1 = o228 → va_P (dC, dI) classes (wM cI cZ ad u) H → va_D A (wM cI cZ ad u) → va_S A s.heap H locs → lv_has ls 15 [(8, .int x1), (10, .int (da ||| db)), (9, .int un1), (0, .ref (ad 0)), (1, .int f), (2, .int (b2i mi)), (3, .int (nI d)), (4, .int a), (5, .int da), (6, .int b), (7, .int db)] → W p l e (headSpec w_Mo_sum1 rm_Mo_sum1).room s m ([.ref (ad 0), .int f, .int (b2i mi), .int (nI d), .int a, .int da, .int b, .int db] : List Value).toArray below meth c H locs 0 0 (MQ below (QWv (dC, dI) classes [(cI, .int), (cZ, .boolean)] (wM cI cZ ad) A res) ([.ref (ad 0), .int f, .int (b2i mi), .int (nI d), .int a, .int da, .int b, .int db] : List Value).toArray s 0 0 A) (F0 m 342 ls []) := by
        intro un1 H locs ls eo hP hD hS hl
        have eun1 := eo
        exact J342 un1 x1 _ _ _ ((by subst eun1; subst ho228; subst ex1; exact hq.trans (rfl))) hP hD hS (lv_sub hl [1, 2, 3, 4, 5, 6, 7, 8, 9, 10, 0] rfl)
      have L228 : ∀ (k : Nat) (i : Nat) (un : Int32) (H : Heap) (locs : List Loc) (ls : Array Slot), (i ≤ 32) → (32 - i) < k → o228 = f_Mo_sum1_228 f mi d a da b db u x1 k i un → va_P (dC, dI) classes (wM cI cZ ad u) H → va_D A (wM cI cZ ad u) → va_S A s.heap H locs → lv_has ls 15 [(11, .int (nI i)), (8, .int x1), (10, .int (da ||| db)), (9, .int un), (0, .ref (ad 0)), (1, .int f), (2, .int (b2i mi)), (3, .int (nI d)), (4, .int a), (5, .int da), (6, .int b), (7, .int db)] → W p l e (headSpec w_Mo_sum1 rm_Mo_sum1).room s m ([.ref (ad 0), .int f, .int (b2i mi), .int (nI d), .int a, .int da, .int b, .int db] : List Value).toArray below meth c H locs 0 0 (MQ below (QWv (dC, dI) classes [(cI, .int), (cZ, .boolean)] (wM cI cZ ad) A res) ([.ref (ad 0), .int f, .int (b2i mi), .int (nI d), .int a, .int da, .int b, .int db] : List Value).toArray s 0 0 A) (F0 m 228 ls []) := by
        intro k
        induction k with
        | zero => intro i un H locs ls hi hm; exact absurd hm (Nat.not_lt_zero _)
        | succ k228 ih228 =>
          intro i un H locs ls hi hm hq228 hP hD hS hl
          refine lv_iload hx hb d_Mo_sum1_228 (lv_at hl 0 rfl) ?_
          refine lv_bipush (v := nI 32) hx hb d_Mo_sum1_230 (by decide) ?_
          refine rn_ge (tgt := 342) hx hb (by omega) (by omega) d_Mo_sum1_232 (by decide) (fun c2 => ?_) (fun c2 => ?_)
          · skip
            exact K228 un _ _ _ (Eq.symm (hq228.trans ((if_neg (Nat.not_lt.mpr c2)).trans rfl))) hP hD hS (lv_sub hl [1, 2, 3, 4, 5, 6, 7, 8, 9, 10, 11] rfl)
          · skip
            refine lv_iload hx hb d_Mo_sum1_235 (lv_at hl 9 rfl) ?_
            refine lv_iload hx hb d_Mo_sum1_237 (lv_at hl 0 rfl) ?_
            refine callPi (va_runS (As := [.int da, .int (nI i)]) (rest := []) ⟨hx, hb, hml, hown, hts⟩ (c_Mo_has l da (nI i) H.size) (va_cwS 2 hts (goodS m_17_1 m_17_2 m_0_12 m_17_3) rfl rfl rfl (by decide +kernel) ⟨Nat.le_of_ble_eq_true rfl, Nat.le_of_ble_eq_true rfl⟩) ⟨preP_blind, preP_ok⟩ rfl rfl hl.1 rfl (lv_room (Nat.le_of_ble_eq_true rfl)) d_Mo_sum1_239 ⟨Nat.zero_le _, Nat.zero_le _⟩) hP hS hA (fun H locs hP hS => ?_)
            refine lv_istore (lv' := [(12, .int (b2i (f_Mo_has da (nI i)))), (11, .int (nI i)), (8, .int x1), (10, .int (da ||| db)), (9, .int un), (0, .ref (ad 0)), (1, .int f), (2, .int (b2i mi)), (3, .int (nI d)), (4, .int a), (5, .int da), (6, .int b), (7, .int db)]) hx hb d_Mo_sum1_242 hl (by decide) rfl (fun ls hl => ?_)
            refine lv_iload hx hb d_Mo_sum1_244 (lv_at hl 12 rfl) ?_
            refine lv_iload hx hb d_Mo_sum1_246 (lv_at hl 1 rfl) ?_
            refine callPi (va_runS (As := [.int db, .int (nI i)]) (rest := []) ⟨hx, hb, hml, hown, hts⟩ (c_Mo_has l db (nI i) H.size) (va_cwS 2 hts (goodS m_17_1 m_17_2 m_0_12 m_17_3) rfl rfl rfl (by decide +kernel) ⟨Nat.le_of_ble_eq_true rfl, Nat.le_of_ble_eq_true rfl⟩) ⟨preP_blind, preP_ok⟩ rfl rfl hl.1 rfl (lv_room (Nat.le_of_ble_eq_true rfl)) d_Mo_sum1_248 ⟨Nat.zero_le _, Nat.zero_le _⟩) hP hS hA (fun H locs hP hS => ?_)
            refine lv_istore (lv' := [(13, .int (b2i (f_Mo_has db (nI i)))), (12, .int (b2i (f_Mo_has da (nI i)))), (11, .int (nI i)), (8, .int x1), (10, .int (da ||| db)), (9, .int un), (0, .ref (ad 0)), (1, .int f), (2, .int (b2i mi)), (3, .int (nI d)), (4, .int a), (5, .int da), (6, .int b), (7, .int db)]) hx hb d_Mo_sum1_251 hl (by decide) rfl (fun ls hl => ?_)
            refine lv_iload hx hb d_Mo_sum1_253 (lv_at hl 1 rfl) ?_
            have J310 : ∀ (x3 : Bool) (H : Heap) (locs : List Loc), x3 = (if (f_Mo_has da (nI i)) = true then (if (f_Mo_has db (nI i)) = true then false else let x10 : Bool := if f = 6 then true else false; if (b2i (f_Mo_has b (nI i))) = (b2i x10) then true else false) else let x13 : Bool := if f = 6 then true else false; if (b2i (f_Mo_has a (nI i))) = (b2i x13) then true else if (f_Mo_has db (nI i)) = true then false else let x16 : Bool := if f = 6 then true else false; if (b2i (f_Mo_has b (nI i))) = (b2i x16) then true else false) → va_P (dC, dI) classes (wM cI cZ ad u) H → va_D A (wM cI cZ ad u) → va_S A s.heap H locs → W p l e (headSpec w_Mo_sum1 rm_Mo_sum1).room s m ([.ref (ad 0), .int f, .int (b2i mi), .int (nI d), .int a, .int da, .int b, .int db] : List Value).toArray below meth c H locs 0 0 (MQ below (QWv (dC, dI) classes [(cI, .int), (cZ, .boolean)] (wM cI cZ ad) A res) ([.ref (ad 0), .int f, .int (b2i mi), .int (nI d), .int a, .int da, .int b, .int db] : List Value).toArray s 0 0 A) (F0 m 310 ls [.int (b2i x3)]) := by
              intro x3 H locs ex3 hP hD hS
              refine lv_istore (lv' := [(14, .int (b2i x3)), (13, .int (b2i (f_Mo_has db (nI i)))), (12, .int (b2i (f_Mo_has da (nI i)))), (11, .int (nI i)), (8, .int x1), (10, .int (da ||| db)), (9, .int un), (0, .ref (ad 0)), (1, .int f), (2, .int (b2i mi)), (3, .int (nI d)), (4, .int a), (5, .int da), (6, .int b), (7, .int db)]) hx hb d_Mo_sum1_310 hl (by decide) rfl (fun ls hl => ?_)
              refine lv_iload hx hb d_Mo_sum1_312 (lv_at hl 2 rfl) ?_
              refine rb_ne (tgt := 322) hx hb d_Mo_sum1_314 (by decide) (fun c4 => ?_) (fun c4 => ?_)
              · skip
                refine lv_iload hx hb d_Mo_sum1_322 (lv_at hl 0 rfl) ?_
                refine rb_ne (tgt := 336) hx hb d_Mo_sum1_324 (by decide) (fun c5 => ?_) (fun c5 => ?_)
                · skip
                  refine lv_iinc (v := nI (i + 1)) (lv' := [(11, .int (nI (i + 1))), (14, .int (b2i x3)), (13, .int (b2i (f_Mo_has db (nI i)))), (12, .int (b2i (f_Mo_has da (nI i)))), (8, .int x1), (10, .int (da ||| db)), (9, .int un), (0, .ref (ad 0)), (1, .int f), (2, .int (b2i mi)), (3, .int (nI d)), (4, .int a), (5, .int da), (6, .int b), (7, .int db)]) hx hb d_Mo_sum1_336 hl (k := 3) rfl (rn_inc i 1 (by decide)) (by decide) rfl (fun ls hl => ?_)
                  refine lv_goto (tgt := 228) hx hb d_Mo_sum1_339 (by decide) ?_
                  exact ih228 (i + 1) un _ _ _ (by first | assumption | omega) (by omega) ((by subst ex3; exact hq228.trans ((if_pos c2).trans ((if_pos c4).trans ((if_pos c5).trans rfl))))) hP hD hS (lv_sub hl [0, 4, 5, 6, 7, 8, 9, 10, 11, 12, 13, 14] rfl)
                · skip
                  refine lv_iload hx hb d_Mo_sum1_327 (lv_at hl 6 rfl) ?_
                  refine lv_iconst (v := 1) hx hb d_Mo_sum1_329 (by decide) ?_
                  refine lv_iload hx hb d_Mo_sum1_330 (lv_at hl 3 rfl) ?_
                  refine lv_ishl hx hb d_Mo_sum1_332 ?_
                  refine lv_ior hx hb d_Mo_sum1_333 ?_
                  refine lv_istore (lv' := [(9, .int (un ||| ((1 : Int32) <<< ((nI i) &&& 31)))), (14, .int (b2i x3)), (13, .int (b2i (f_Mo_has db (nI i)))), (12, .int (b2i (f_Mo_has da (nI i)))), (11, .int (nI i)), (8, .int x1), (10, .int (da ||| db)), (0, .ref (ad 0)), (1, .int f), (2, .int (b2i mi)), (3, .int (nI d)), (4, .int a), (5, .int da), (6, .int b), (7, .int db)]) hx hb d_Mo_sum1_334 hl (by decide) rfl (fun ls hl => ?_)
                  refine lv_iinc (v := nI (i + 1)) (lv' := [(11, .int (nI (i + 1))), (9, .int (un ||| ((1 : Int32) <<< ((nI i) &&& 31)))), (14, .int (b2i x3)), (13, .int (b2i (f_Mo_has db (nI i)))), (12, .int (b2i (f_Mo_has da (nI i)))), (8, .int x1), (10, .int (da ||| db)), (0, .ref (ad 0)), (1, .int f), (2, .int (b2i mi)), (3, .int (nI d)), (4, .int a), (5, .int da), (6, .int b), (7, .int db)]) hx hb d_Mo_sum1_336 hl (k := 4) rfl (rn_inc i 1 (by decide)) (by decide) rfl (fun ls hl => ?_)
                  refine lv_goto (tgt := 228) hx hb d_Mo_sum1_339 (by decide) ?_
                  exact ih228 (i + 1) (un ||| ((1 : Int32) <<< ((nI i) &&& 31))) _ _ _ (by first | assumption | omega) (by omega) ((by subst ex3; exact hq228.trans ((if_pos c2).trans ((if_pos c4).trans ((if_neg c5).trans rfl))))) hP hD hS (lv_sub hl [0, 5, 6, 1, 7, 8, 9, 10, 11, 12, 13, 14] rfl)
              · skip
                refine lv_iload hx hb d_Mo_sum1_317 (lv_at hl 1 rfl) ?_
                refine rb_eq (tgt := 336) hx hb d_Mo_sum1_319 (by decide) (fun c6 => ?_) (fun c6 => ?_)
                · skip
                  refine lv_iinc (v := nI (i + 1)) (lv' := [(11, .int (nI (i + 1))), (14, .int (b2i x3)), (13, .int (b2i (f_Mo_has db (nI i)))), (12, .int (b2i (f_Mo_has da (nI i)))), (8, .int x1), (10, .int (da ||| db)), (9, .int un), (0, .ref (ad 0)), (1, .int f), (2, .int (b2i mi)), (3, .int (nI d)), (4, .int a), (5, .int da), (6, .int b), (7, .int db)]) hx hb d_Mo_sum1_336 hl (k := 3) rfl (rn_inc i 1 (by decide)) (by decide) rfl (fun ls hl => ?_)
                  refine lv_goto (tgt := 228) hx hb d_Mo_sum1_339 (by decide) ?_
                  exact ih228 (i + 1) un _ _ _ (by first | assumption | omega) (by omega) ((by subst ex3; exact hq228.trans ((if_pos c2).trans ((if_neg c4).trans ((if_neg c6).trans rfl))))) hP hD hS (lv_sub hl [0, 4, 5, 6, 7, 8, 9, 10, 11, 12, 13, 14] rfl)
                · skip
                  refine lv_iload hx hb d_Mo_sum1_322 (lv_at hl 0 rfl) ?_
                  refine rb_ne (tgt := 336) hx hb d_Mo_sum1_324 (by decide) (fun c7 => ?_) (fun c7 => ?_)
                  · skip
                    refine lv_iinc (v := nI (i + 1)) (lv' := [(11, .int (nI (i + 1))), (14, .int (b2i x3)), (13, .int (b2i (f_Mo_has db (nI i)))), (12, .int (b2i (f_Mo_has da (nI i)))), (8, .int x1), (10, .int (da ||| db)), (9, .int un), (0, .ref (ad 0)), (1, .int f), (2, .int (b2i mi)), (3, .int (nI d)), (4, .int a), (5, .int da), (6, .int b), (7, .int db)]) hx hb d_Mo_sum1_336 hl (k := 3) rfl (rn_inc i 1 (by decide)) (by decide) rfl (fun ls hl => ?_)
                    refine lv_goto (tgt := 228) hx hb d_Mo_sum1_339 (by decide) ?_
                    exact ih228 (i + 1) un _ _ _ (by first | assumption | omega) (by omega) ((by subst ex3; exact hq228.trans ((if_pos c2).trans ((if_neg c4).trans ((if_pos c6).trans ((if_pos c7).trans rfl)))))) hP hD hS (lv_sub hl [0, 4, 5, 6, 7, 8, 9, 10, 11, 12, 13, 14] rfl)
                  · skip
                    refine lv_iload hx hb d_Mo_sum1_327 (lv_at hl 6 rfl) ?_
                    refine lv_iconst (v := 1) hx hb d_Mo_sum1_329 (by decide) ?_
                    refine lv_iload hx hb d_Mo_sum1_330 (lv_at hl 3 rfl) ?_
                    refine lv_ishl hx hb d_Mo_sum1_332 ?_
                    refine lv_ior hx hb d_Mo_sum1_333 ?_
                    refine lv_istore (lv' := [(9, .int (un ||| ((1 : Int32) <<< ((nI i) &&& 31)))), (14, .int (b2i x3)), (13, .int (b2i (f_Mo_has db (nI i)))), (12, .int (b2i (f_Mo_has da (nI i)))), (11, .int (nI i)), (8, .int x1), (10, .int (da ||| db)), (0, .ref (ad 0)), (1, .int f), (2, .int (b2i mi)), (3, .int (nI d)), (4, .int a), (5, .int da), (6, .int b), (7, .int db)]) hx hb d_Mo_sum1_334 hl (by decide) rfl (fun ls hl => ?_)
                    refine lv_iinc (v := nI (i + 1)) (lv' := [(11, .int (nI (i + 1))), (9, .int (un ||| ((1 : Int32) <<< ((nI i) &&& 31)))), (14, .int (b2i x3)), (13, .int (b2i (f_Mo_has db (nI i)))), (12, .int (b2i (f_Mo_has da (nI i)))), (8, .int x1), (10, .int (da ||| db)), (0, .ref (ad 0)), (1, .int f), (2, .int (b2i mi)), (3, .int (nI d)), (4, .int a), (5, .int da), (6, .int b), (7, .int db)]) hx hb d_Mo_sum1_336 hl (k := 4) rfl (rn_inc i 1 (by decide)) (by decide) rfl (fun ls hl => ?_)
                    refine lv_goto (tgt := 228) hx hb d_Mo_sum1_339 (by decide) ?_
                    exact ih228 (i + 1) (un ||| ((1 : Int32) <<< ((nI i) &&& 31))) _ _ _ (by first | assumption | omega) (by omega) ((by subst ex3; exact hq228.trans ((if_pos c2).trans ((if_neg c4).trans ((if_pos c6).trans ((if_neg c7).trans rfl)))))) hP hD hS (lv_sub hl [0, 5, 6, 1, 7, 8, 9, 10, 11, 12, 13, 14] rfl)
            refine rb_ne (tgt := 279) hx hb d_Mo_sum1_255 (by decide) (fun c8 => ?_) (fun c8 => ?_)
            · skip
              refine lv_iload hx hb d_Mo_sum1_279 (lv_at hl 0 rfl) ?_
              refine rb_ne (tgt := 309) hx hb d_Mo_sum1_281 (by decide) (fun c9 => ?_) (fun c9 => ?_)
              · skip
                refine lv_iconst (v := 0) hx hb d_Mo_sum1_309 (by decide) ?_
                exact J310 false _ _ (Eq.symm ((if_pos c8).trans ((if_pos c9).trans (rfl)))) hP hD hS
              · skip
                refine lv_iload hx hb d_Mo_sum1_284 (lv_at hl 12 rfl) ?_
                refine lv_iload hx hb d_Mo_sum1_286 (lv_at hl 2 rfl) ?_
                refine callPi (va_runS (As := [.int b, .int (nI i)]) (rest := []) ⟨hx, hb, hml, hown, hts⟩ (c_Mo_has l b (nI i) H.size) (va_cwS 2 hts (goodS m_17_1 m_17_2 m_0_12 m_17_3) rfl rfl rfl (by decide +kernel) ⟨Nat.le_of_ble_eq_true rfl, Nat.le_of_ble_eq_true rfl⟩) ⟨preP_blind, preP_ok⟩ rfl rfl hl.1 rfl (lv_room (Nat.le_of_ble_eq_true rfl)) d_Mo_sum1_288 ⟨Nat.zero_le _, Nat.zero_le _⟩) hP hS hA (fun H locs hP hS => ?_)
                refine lv_iload_n hx hb d_Mo_sum1_291 rfl (lv_at hl 7 rfl) ?_
                refine lv_bipush (v := 6) hx hb d_Mo_sum1_292 (by decide) ?_
                have J302 : ∀ (x10 : Bool) (H : Heap) (locs : List Loc), x10 = (if f = 6 then true else false) → va_P (dC, dI) classes (wM cI cZ ad u) H → va_D A (wM cI cZ ad u) → va_S A s.heap H locs → W p l e (headSpec w_Mo_sum1 rm_Mo_sum1).room s m ([.ref (ad 0), .int f, .int (b2i mi), .int (nI d), .int a, .int da, .int b, .int db] : List Value).toArray below meth c H locs 0 0 (MQ below (QWv (dC, dI) classes [(cI, .int), (cZ, .boolean)] (wM cI cZ ad) A res) ([.ref (ad 0), .int f, .int (b2i mi), .int (nI d), .int a, .int da, .int b, .int db] : List Value).toArray s 0 0 A) (F0 m 302 ls [.int (b2i x10), .int (b2i (f_Mo_has b (nI i)))]) := by
                  intro x10 H locs ex10 hP hD hS
                  refine lv_icmp_ne (tgt := 309) hx hb d_Mo_sum1_302 (by decide) (fun c11 => ?_) (fun c11 => ?_)
                  · skip
                    refine lv_iconst (v := 0) hx hb d_Mo_sum1_309 (by decide) ?_
                    exact J310 false _ _ (by subst ex10; exact Eq.symm ((if_pos c8).trans ((if_neg c9).trans ((if_neg c11).trans (rfl))))) hP hD hS
                  · skip
                    refine lv_iconst (v := 1) hx hb d_Mo_sum1_305 (by decide) ?_
                    refine lv_goto (tgt := 310) hx hb d_Mo_sum1_306 (by decide) ?_
                    exact J310 true _ _ (by subst ex10; exact Eq.symm ((if_pos c8).trans ((if_neg c9).trans ((if_pos c11).trans (rfl))))) hP hD hS
                refine lv_icmp_ne (tgt := 301) hx hb d_Mo_sum1_294 (by decide) (fun c12 => ?_) (fun c12 => ?_)
                · skip
                  refine lv_iconst (v := 0) hx hb d_Mo_sum1_301 (by decide) ?_
                  exact J302 false _ _ (Eq.symm ((if_neg c12).trans (rfl))) hP hD hS
                · skip
                  refine lv_iconst (v := 1) hx hb d_Mo_sum1_297 (by decide) ?_
                  refine lv_goto (tgt := 302) hx hb d_Mo_sum1_298 (by decide) ?_
                  exact J302 true _ _ (Eq.symm ((if_pos c12).trans (rfl))) hP hD hS
            · skip
              refine lv_iload hx hb d_Mo_sum1_258 (lv_at hl 10 rfl) ?_
              refine lv_iload hx hb d_Mo_sum1_260 (lv_at hl 2 rfl) ?_
              refine callPi (va_runS (As := [.int a, .int (nI i)]) (rest := []) ⟨hx, hb, hml, hown, hts⟩ (c_Mo_has l a (nI i) H.size) (va_cwS 2 hts (goodS m_17_1 m_17_2 m_0_12 m_17_3) rfl rfl rfl (by decide +kernel) ⟨Nat.le_of_ble_eq_true rfl, Nat.le_of_ble_eq_true rfl⟩) ⟨preP_blind, preP_ok⟩ rfl rfl hl.1 rfl (lv_room (Nat.le_of_ble_eq_true rfl)) d_Mo_sum1_262 ⟨Nat.zero_le _, Nat.zero_le _⟩) hP hS hA (fun H locs hP hS => ?_)
              refine lv_iload_n hx hb d_Mo_sum1_265 rfl (lv_at hl 7 rfl) ?_
              refine lv_bipush (v := 6) hx hb d_Mo_sum1_266 (by decide) ?_
              have J276 : ∀ (x13 : Bool) (H : Heap) (locs : List Loc), x13 = (if f = 6 then true else false) → va_P (dC, dI) classes (wM cI cZ ad u) H → va_D A (wM cI cZ ad u) → va_S A s.heap H locs → W p l e (headSpec w_Mo_sum1 rm_Mo_sum1).room s m ([.ref (ad 0), .int f, .int (b2i mi), .int (nI d), .int a, .int da, .int b, .int db] : List Value).toArray below meth c H locs 0 0 (MQ below (QWv (dC, dI) classes [(cI, .int), (cZ, .boolean)] (wM cI cZ ad) A res) ([.ref (ad 0), .int f, .int (b2i mi), .int (nI d), .int a, .int da, .int b, .int db] : List Value).toArray s 0 0 A) (F0 m 276 ls [.int (b2i x13), .int (b2i (f_Mo_has a (nI i)))]) := by
                intro x13 H locs ex13 hP hD hS
                refine lv_icmp_eq (tgt := 305) hx hb d_Mo_sum1_276 (by decide) (fun c14 => ?_) (fun c14 => ?_)
                · skip
                  refine lv_iconst (v := 1) hx hb d_Mo_sum1_305 (by decide) ?_
                  refine lv_goto (tgt := 310) hx hb d_Mo_sum1_306 (by decide) ?_
                  exact J310 true _ _ (by subst ex13; exact Eq.symm ((if_neg c8).trans ((if_pos c14).trans (rfl)))) hP hD hS
                · skip
                  refine lv_iload hx hb d_Mo_sum1_279 (lv_at hl 0 rfl) ?_
                  refine rb_ne (tgt := 309) hx hb d_Mo_sum1_281 (by decide) (fun c15 => ?_) (fun c15 => ?_)
                  · skip
                    refine lv_iconst (v := 0) hx hb d_Mo_sum1_309 (by decide) ?_
                    exact J310 false _ _ (by subst ex13; exact Eq.symm ((if_neg c8).trans ((if_neg c14).trans ((if_pos c15).trans (rfl))))) hP hD hS
                  · skip
                    refine lv_iload hx hb d_Mo_sum1_284 (lv_at hl 12 rfl) ?_
                    refine lv_iload hx hb d_Mo_sum1_286 (lv_at hl 2 rfl) ?_
                    refine callPi (va_runS (As := [.int b, .int (nI i)]) (rest := []) ⟨hx, hb, hml, hown, hts⟩ (c_Mo_has l b (nI i) H.size) (va_cwS 2 hts (goodS m_17_1 m_17_2 m_0_12 m_17_3) rfl rfl rfl (by decide +kernel) ⟨Nat.le_of_ble_eq_true rfl, Nat.le_of_ble_eq_true rfl⟩) ⟨preP_blind, preP_ok⟩ rfl rfl hl.1 rfl (lv_room (Nat.le_of_ble_eq_true rfl)) d_Mo_sum1_288 ⟨Nat.zero_le _, Nat.zero_le _⟩) hP hS hA (fun H locs hP hS => ?_)
                    refine lv_iload_n hx hb d_Mo_sum1_291 rfl (lv_at hl 7 rfl) ?_
                    refine lv_bipush (v := 6) hx hb d_Mo_sum1_292 (by decide) ?_
                    have J302 : ∀ (x16 : Bool) (H : Heap) (locs : List Loc), x16 = (if f = 6 then true else false) → va_P (dC, dI) classes (wM cI cZ ad u) H → va_D A (wM cI cZ ad u) → va_S A s.heap H locs → W p l e (headSpec w_Mo_sum1 rm_Mo_sum1).room s m ([.ref (ad 0), .int f, .int (b2i mi), .int (nI d), .int a, .int da, .int b, .int db] : List Value).toArray below meth c H locs 0 0 (MQ below (QWv (dC, dI) classes [(cI, .int), (cZ, .boolean)] (wM cI cZ ad) A res) ([.ref (ad 0), .int f, .int (b2i mi), .int (nI d), .int a, .int da, .int b, .int db] : List Value).toArray s 0 0 A) (F0 m 302 ls [.int (b2i x16), .int (b2i (f_Mo_has b (nI i)))]) := by
                      intro x16 H locs ex16 hP hD hS
                      refine lv_icmp_ne (tgt := 309) hx hb d_Mo_sum1_302 (by decide) (fun c17 => ?_) (fun c17 => ?_)
                      · skip
                        refine lv_iconst (v := 0) hx hb d_Mo_sum1_309 (by decide) ?_
                        exact J310 false _ _ (by subst ex16; subst ex13; exact Eq.symm ((if_neg c8).trans ((if_neg c14).trans ((if_neg c15).trans ((if_neg c17).trans (rfl)))))) hP hD hS
                      · skip
                        refine lv_iconst (v := 1) hx hb d_Mo_sum1_305 (by decide) ?_
                        refine lv_goto (tgt := 310) hx hb d_Mo_sum1_306 (by decide) ?_
                        exact J310 true _ _ (by subst ex16; subst ex13; exact Eq.symm ((if_neg c8).trans ((if_neg c14).trans ((if_neg c15).trans ((if_pos c17).trans (rfl)))))) hP hD hS
                    refine lv_icmp_ne (tgt := 301) hx hb d_Mo_sum1_294 (by decide) (fun c18 => ?_) (fun c18 => ?_)
                    · skip
                      refine lv_iconst (v := 0) hx hb d_Mo_sum1_301 (by decide) ?_
                      exact J302 false _ _ (Eq.symm ((if_neg c18).trans (rfl))) hP hD hS
                    · skip
                      refine lv_iconst (v := 1) hx hb d_Mo_sum1_297 (by decide) ?_
                      refine lv_goto (tgt := 302) hx hb d_Mo_sum1_298 (by decide) ?_
                      exact J302 true _ _ (Eq.symm ((if_pos c18).trans (rfl))) hP hD hS
              refine lv_icmp_ne (tgt := 275) hx hb d_Mo_sum1_268 (by decide) (fun c19 => ?_) (fun c19 => ?_)
              · skip
                refine lv_iconst (v := 0) hx hb d_Mo_sum1_275 (by decide) ?_
                exact J276 false _ _ (Eq.symm ((if_neg c19).trans (rfl))) hP hD hS
              · skip
                refine lv_iconst (v := 1) hx hb d_Mo_sum1_271 (by decide) ?_
                refine lv_goto (tgt := 276) hx hb d_Mo_sum1_272 (by decide) ?_
                exact J276 true _ _ (Eq.symm ((if_pos c19).trans (rfl))) hP hD hS
      exact L228 33 0 0 _ _ _ (by first | assumption | omega) (by omega) (ho228) hP hD hS (lv_sub hl [0, 1, 2, 3, 4, 5, 6, 7, 8, 9, 10, 11] rfl)
    refine lv_icmp_ne (tgt := 218) hx hb d_Mo_sum1_207 (by decide) (fun c20 => ?_) (fun c20 => ?_)
    · skip
      refine lv_iload hx hb d_Mo_sum1_218 (lv_at hl 6 rfl) ?_
      refine lv_iload hx hb d_Mo_sum1_220 (lv_at hl 8 rfl) ?_
      refine lv_iand hx hb d_Mo_sum1_222 ?_
      exact J223 (a &&& b) _ _ (Eq.symm ((if_neg c20).trans (rfl))) hP hD hS
    · skip
      refine lv_iload hx hb d_Mo_sum1_210 (lv_at hl 6 rfl) ?_
      refine lv_iload hx hb d_Mo_sum1_212 (lv_at hl 8 rfl) ?_
      refine lv_ior hx hb d_Mo_sum1_214 ?_
      refine lv_goto (tgt := 223) hx hb d_Mo_sum1_215 (by decide) ?_
      exact J223 (a ||| b) _ _ (Eq.symm ((if_pos c20).trans (rfl))) hP hD hS
  by_cases c21 : f = 0
  · skip
    refine lv_tableIn (off := 33) (tgt := 44) hx hb d_Mo_sum1_11 (by rw [c21]; decide) (by rw [c21]; decide) (by rw [c21]; decide) (by decide) ?_
    refine lv_iload_n hx hb d_Mo_sum1_44 rfl (lv_at hl 4 rfl) ?_
    have J61 : ∀ (x22 : Int32) (H : Heap) (locs : List Loc), x22 = (if mi = true then a - b else a + b) → va_P (dC, dI) classes (wM cI cZ ad u) H → va_D A (wM cI cZ ad u) → va_S A s.heap H locs → W p l e (headSpec w_Mo_sum1 rm_Mo_sum1).room s m ([.ref (ad 0), .int f, .int (b2i mi), .int (nI d), .int a, .int da, .int b, .int db] : List Value).toArray below meth c H locs 0 0 (MQ below (QWv (dC, dI) classes [(cI, .int), (cZ, .boolean)] (wM cI cZ ad) A res) ([.ref (ad 0), .int f, .int (b2i mi), .int (nI d), .int a, .int da, .int b, .int db] : List Value).toArray s 0 0 A) (F0 m 61 ls [.int x22]) := by
      intro x22 H locs ex22 hP hD hS
      refine lv_istore (lv' := [(8, .int x22), (10, .int (da ||| db)), (9, .int 0), (0, .ref (ad 0)), (1, .int f), (2, .int (b2i mi)), (3, .int (nI d)), (4, .int a), (5, .int da), (6, .int b), (7, .int db)]) hx hb d_Mo_sum1_61 hl (by decide) rfl (fun ls hl => ?_)
      refine lv_iconst (v := 0) hx hb d_Mo_sum1_63 (by decide) ?_
      refine lv_istore (lv' := [(11, .int (b2i false)), (8, .int x22), (10, .int (da ||| db)), (9, .int 0), (0, .ref (ad 0)), (1, .int f), (2, .int (b2i mi)), (3, .int (nI d)), (4, .int a), (5, .int da), (6, .int b), (7, .int db)]) hx hb d_Mo_sum1_64 hl (by decide) rfl (fun ls hl => ?_)
      refine lv_iconst (v := nI 0) hx hb d_Mo_sum1_66 (by decide) ?_
      refine lv_istore (lv' := [(12, .int (nI 0)), (11, .int (b2i false)), (8, .int x22), (10, .int (da ||| db)), (9, .int 0), (0, .ref (ad 0)), (1, .int f), (2, .int (b2i mi)), (3, .int (nI d)), (4, .int a), (5, .int da), (6, .int b), (7, .int db)]) hx hb d_Mo_sum1_67 hl (by decide) rfl (fun ls hl => ?_)
      obtain ⟨o69, ho69⟩ : ∃ z : Int32, z = f_Mo_sum1_69 f mi d a da b db u x22 33 0 false 0 := ⟨_, rfl⟩
      have K69 : ∀ (un1 : Int32) (H : Heap) (locs : List Loc) (ls : Array Slot), un1 = o69 → va_P (dC, dI) classes (wM cI cZ ad u) H → va_D A (wM cI cZ ad u) → va_S A s.heap H locs → lv_has ls 15 [(8, .int x22), (10, .int (da ||| db)), (9, .int un1), (0, .ref (ad 0)), (1, .int f), (2, .int (b2i mi)), (3, .int (nI d)), (4, .int a), (5, .int da), (6, .int b), (7, .int db)] → W p l e (headSpec w_Mo_sum1 rm_Mo_sum1).room s m ([.ref (ad 0), .int f, .int (b2i mi), .int (nI d), .int a, .int da, .int b, .int db] : List Value).toArray below meth c H locs 0 0 (MQ below (QWv (dC, dI) classes [(cI, .int), (cZ, .boolean)] (wM cI cZ ad) A res) ([.ref (ad 0), .int f, .int (b2i mi), .int (nI d), .int a, .int da, .int b, .int db] : List Value).toArray s 0 0 A) (F0 m 118 ls []) := by
        intro un1 H locs ls eo hP hD hS hl
        have eun1 := eo
        refine lv_goto (tgt := 342) hx hb d_Mo_sum1_118 (by decide) ?_
        exact J342 un1 x22 _ _ _ ((by subst eun1; subst ho69; subst ex22; exact hq.trans ((if_pos c21).trans rfl))) hP hD hS (lv_sub hl [1, 2, 3, 4, 5, 6, 7, 8, 9, 10, 0] rfl)
      have L69 : ∀ (k : Nat) (i : Nat) (fm : Bool) (un : Int32) (H : Heap) (locs : List Loc) (ls : Array Slot), (i ≤ 32) → (32 - i) < k → o69 = f_Mo_sum1_69 f mi d a da b db u x22 k i fm un → va_P (dC, dI) classes (wM cI cZ ad u) H → va_D A (wM cI cZ ad u) → va_S A s.heap H locs → lv_has ls 15 [(12, .int (nI i)), (11, .int (b2i fm)), (8, .int x22), (10, .int (da ||| db)), (9, .int un), (0, .ref (ad 0)), (1, .int f), (2, .int (b2i mi)), (3, .int (nI d)), (4, .int a), (5, .int da), (6, .int b), (7, .int db)] → W p l e (headSpec w_Mo_sum1 rm_Mo_sum1).room s m ([.ref (ad 0), .int f, .int (b2i mi), .int (nI d), .int a, .int da, .int b, .int db] : List Value).toArray below meth c H locs 0 0 (MQ below (QWv (dC, dI) classes [(cI, .int), (cZ, .boolean)] (wM cI cZ ad) A res) ([.ref (ad 0), .int f, .int (b2i mi), .int (nI d), .int a, .int da, .int b, .int db] : List Value).toArray s 0 0 A) (F0 m 69 ls []) := by
        intro k
        induction k with
        | zero => intro i fm un H locs ls hi hm; exact absurd hm (Nat.not_lt_zero _)
        | succ k69 ih69 =>
          intro i fm un H locs ls hi hm hq69 hP hD hS hl
          refine lv_iload hx hb d_Mo_sum1_69 (lv_at hl 0 rfl) ?_
          refine lv_bipush (v := nI 32) hx hb d_Mo_sum1_71 (by decide) ?_
          refine rn_ge (tgt := 118) hx hb (by omega) (by omega) d_Mo_sum1_73 (by decide) (fun c23 => ?_) (fun c23 => ?_)
          · skip
            exact K69 un _ _ _ (Eq.symm (hq69.trans ((if_neg (Nat.not_lt.mpr c23)).trans rfl))) hP hD hS (lv_sub hl [2, 3, 4, 5, 6, 7, 8, 9, 10, 11, 12] rfl)
          · skip
            refine lv_iload hx hb d_Mo_sum1_76 (lv_at hl 1 rfl) ?_
            have J96 : ∀ (x24 : Bool) (H : Heap) (locs : List Loc), x24 = (if fm = true then true else if (f_Mo_has (da ||| db) (nI i)) = true then true else false) → va_P (dC, dI) classes (wM cI cZ ad u) H → va_D A (wM cI cZ ad u) → va_S A s.heap H locs → W p l e (headSpec w_Mo_sum1 rm_Mo_sum1).room s m ([.ref (ad 0), .int f, .int (b2i mi), .int (nI d), .int a, .int da, .int b, .int db] : List Value).toArray below meth c H locs 0 0 (MQ below (QWv (dC, dI) classes [(cI, .int), (cZ, .boolean)] (wM cI cZ ad) A res) ([.ref (ad 0), .int f, .int (b2i mi), .int (nI d), .int a, .int da, .int b, .int db] : List Value).toArray s 0 0 A) (F0 m 96 ls [.int (b2i x24)]) := by
              intro x24 H locs ex24 hP hD hS
              refine lv_istore (lv' := [(11, .int (b2i x24)), (12, .int (nI i)), (8, .int x22), (10, .int (da ||| db)), (9, .int un), (0, .ref (ad 0)), (1, .int f), (2, .int (b2i mi)), (3, .int (nI d)), (4, .int a), (5, .int da), (6, .int b), (7, .int db)]) hx hb d_Mo_sum1_96 hl (by decide) rfl (fun ls hl => ?_)
              refine lv_iload hx hb d_Mo_sum1_98 (lv_at hl 0 rfl) ?_
              refine rb_eq (tgt := 112) hx hb d_Mo_sum1_100 (by decide) (fun c25 => ?_) (fun c25 => ?_)
              · skip
                refine lv_iinc (v := nI (i + 1)) (lv' := [(12, .int (nI (i + 1))), (11, .int (b2i x24)), (8, .int x22), (10, .int (da ||| db)), (9, .int un), (0, .ref (ad 0)), (1, .int f), (2, .int (b2i mi)), (3, .int (nI d)), (4, .int a), (5, .int da), (6, .int b), (7, .int db)]) hx hb d_Mo_sum1_112 hl (k := 1) rfl (rn_inc i 1 (by decide)) (by decide) rfl (fun ls hl => ?_)
                refine lv_goto (tgt := 69) hx hb d_Mo_sum1_115 (by decide) ?_
                exact ih69 (i + 1) x24 un _ _ _ (by first | assumption | omega) (by omega) ((by subst ex24; exact hq69.trans ((if_pos c23).trans ((if_neg c25).trans rfl)))) hP hD hS (lv_sub hl [0, 1, 2, 3, 4, 5, 6, 7, 8, 9, 10, 11, 12] rfl)
              · skip
                refine lv_iload hx hb d_Mo_sum1_103 (lv_at hl 4 rfl) ?_
                refine lv_iconst (v := 1) hx hb d_Mo_sum1_105 (by decide) ?_
                refine lv_iload hx hb d_Mo_sum1_106 (lv_at hl 1 rfl) ?_
                refine lv_ishl hx hb d_Mo_sum1_108 ?_
                refine lv_ior hx hb d_Mo_sum1_109 ?_
                refine lv_istore (lv' := [(9, .int (un ||| ((1 : Int32) <<< ((nI i) &&& 31)))), (11, .int (b2i x24)), (12, .int (nI i)), (8, .int x22), (10, .int (da ||| db)), (0, .ref (ad 0)), (1, .int f), (2, .int (b2i mi)), (3, .int (nI d)), (4, .int a), (5, .int da), (6, .int b), (7, .int db)]) hx hb d_Mo_sum1_110 hl (by decide) rfl (fun ls hl => ?_)
                refine lv_iinc (v := nI (i + 1)) (lv' := [(12, .int (nI (i + 1))), (9, .int (un ||| ((1 : Int32) <<< ((nI i) &&& 31)))), (11, .int (b2i x24)), (8, .int x22), (10, .int (da ||| db)), (0, .ref (ad 0)), (1, .int f), (2, .int (b2i mi)), (3, .int (nI d)), (4, .int a), (5, .int da), (6, .int b), (7, .int db)]) hx hb d_Mo_sum1_112 hl (k := 2) rfl (rn_inc i 1 (by decide)) (by decide) rfl (fun ls hl => ?_)
                refine lv_goto (tgt := 69) hx hb d_Mo_sum1_115 (by decide) ?_
                exact ih69 (i + 1) x24 (un ||| ((1 : Int32) <<< ((nI i) &&& 31))) _ _ _ (by first | assumption | omega) (by omega) ((by subst ex24; exact hq69.trans ((if_pos c23).trans ((if_pos c25).trans rfl)))) hP hD hS (lv_sub hl [0, 2, 3, 4, 1, 5, 6, 7, 8, 9, 10, 11, 12] rfl)
            refine rb_ne (tgt := 91) hx hb d_Mo_sum1_78 (by decide) (fun c26 => ?_) (fun c26 => ?_)
            · skip
              refine lv_iconst (v := 1) hx hb d_Mo_sum1_91 (by decide) ?_
              refine lv_goto (tgt := 96) hx hb d_Mo_sum1_92 (by decide) ?_
              exact J96 true _ _ (Eq.symm ((if_pos c26).trans (rfl))) hP hD hS
            · skip
              refine lv_iload hx hb d_Mo_sum1_81 (lv_at hl 3 rfl) ?_
              refine lv_iload hx hb d_Mo_sum1_83 (lv_at hl 0 rfl) ?_
              refine callPi (va_runS (As := [.int (da ||| db), .int (nI i)]) (rest := []) ⟨hx, hb, hml, hown, hts⟩ (c_Mo_has l (da ||| db) (nI i) H.size) (va_cwS 2 hts (goodS m_17_1 m_17_2 m_0_12 m_17_3) rfl rfl rfl (by decide +kernel) ⟨Nat.le_of_ble_eq_true rfl, Nat.le_of_ble_eq_true rfl⟩) ⟨preP_blind, preP_ok⟩ rfl rfl hl.1 rfl (lv_room (Nat.le_of_ble_eq_true rfl)) d_Mo_sum1_85 ⟨Nat.zero_le _, Nat.zero_le _⟩) hP hS hA (fun H locs hP hS => ?_)
              refine rb_eq (tgt := 95) hx hb d_Mo_sum1_88 (by decide) (fun c27 => ?_) (fun c27 => ?_)
              · skip
                refine lv_iconst (v := 0) hx hb d_Mo_sum1_95 (by decide) ?_
                exact J96 false _ _ (Eq.symm ((if_neg c26).trans ((if_neg c27).trans (rfl)))) hP hD hS
              · skip
                refine lv_iconst (v := 1) hx hb d_Mo_sum1_91 (by decide) ?_
                refine lv_goto (tgt := 96) hx hb d_Mo_sum1_92 (by decide) ?_
                exact J96 true _ _ (Eq.symm ((if_neg c26).trans ((if_pos c27).trans (rfl)))) hP hD hS
      exact L69 33 0 false 0 _ _ _ (by first | assumption | omega) (by omega) (ho69) hP hD hS (lv_sub hl [0, 1, 2, 3, 4, 5, 6, 7, 8, 9, 10, 11, 12] rfl)
    refine rb_eq (tgt := 56) hx hb d_Mo_sum1_45 (by decide) (fun c28 => ?_) (fun c28 => ?_)
    · skip
      refine lv_iload hx hb d_Mo_sum1_56 (lv_at hl 6 rfl) ?_
      refine lv_iload hx hb d_Mo_sum1_58 (lv_at hl 8 rfl) ?_
      refine lv_iadd hx hb d_Mo_sum1_60 ?_
      exact J61 (a + b) _ _ (Eq.symm ((if_neg c28).trans (rfl))) hP hD hS
    · skip
      refine lv_iload hx hb d_Mo_sum1_48 (lv_at hl 6 rfl) ?_
      refine lv_iload hx hb d_Mo_sum1_50 (lv_at hl 8 rfl) ?_
      refine lv_isub hx hb d_Mo_sum1_52 ?_
      refine lv_goto (tgt := 61) hx hb d_Mo_sum1_53 (by decide) ?_
      exact J61 (a - b) _ _ (Eq.symm ((if_pos c28).trans (rfl))) hP hD hS
  by_cases c29 : f = 1
  · skip
    refine lv_tableIn (off := 193) (tgt := 204) hx hb d_Mo_sum1_11 (by rw [c29]; decide) (by rw [c29]; decide) (by rw [c29]; decide) (by decide) ?_
    exact J204  _ _ _ (hq.trans ((if_neg c21).trans ((if_pos c29).trans rfl))) hP hD hS (lv_sub hl [0, 1, 2, 3, 4, 5, 6, 7, 8, 9] rfl)
  by_cases c30 : f = 2
  · skip
    refine lv_tableIn (off := 110) (tgt := 121) hx hb d_Mo_sum1_11 (by rw [c30]; decide) (by rw [c30]; decide) (by rw [c30]; decide) (by decide) ?_
    refine lv_iload hx hb d_Mo_sum1_121 (lv_at hl 6 rfl) ?_
    refine lv_iload hx hb d_Mo_sum1_123 (lv_at hl 8 rfl) ?_
    have J133 : ∀ (x31 : Int32) (H : Heap) (locs : List Loc), x31 = (if b ≤ a then 0 else 1) → va_P (dC, dI) classes (wM cI cZ ad u) H → va_D A (wM cI cZ ad u) → va_S A s.heap H locs → W p l e (headSpec w_Mo_sum1 rm_Mo_sum1).room s m ([.ref (ad 0), .int f, .int (b2i mi), .int (nI d), .int a, .int da, .int b, .int db] : List Value).toArray below meth c H locs 0 0 (MQ below (QWv (dC, dI) classes [(cI, .int), (cZ, .boolean)] (wM cI cZ ad) A res) ([.ref (ad 0), .int f, .int (b2i mi), .int (nI d), .int a, .int da, .int b, .int db] : List Value).toArray s 0 0 A) (F0 m 133 ls [.int x31]) := by
      intro x31 H locs ex31 hP hD hS
      refine lv_istore (lv' := [(8, .int x31), (10, .int (da ||| db)), (9, .int 0), (0, .ref (ad 0)), (1, .int f), (2, .int (b2i mi)), (3, .int (nI d)), (4, .int a), (5, .int da), (6, .int b), (7, .int db)]) hx hb d_Mo_sum1_133 hl (by decide) rfl (fun ls hl => ?_)
      refine lv_iload hx hb d_Mo_sum1_135 (lv_at hl 1 rfl) ?_
      have J145 : ∀ (x32 : Int32) (H : Heap) (locs : List Loc), x32 = (if (da ||| db) = 0 then 0 else 1) → va_P (dC, dI) classes (wM cI cZ ad u) H → va_D A (wM cI cZ ad u) → va_S A s.heap H locs → W p l e (headSpec w_Mo_sum1 rm_Mo_sum1).room s m ([.ref (ad 0), .int f, .int (b2i mi), .int (nI d), .int a, .int da, .int b, .int db] : List Value).toArray below meth c H locs 0 0 (MQ below (QWv (dC, dI) classes [(cI, .int), (cZ, .boolean)] (wM cI cZ ad) A res) ([.ref (ad 0), .int f, .int (b2i mi), .int (nI d), .int a, .int da, .int b, .int db] : List Value).toArray s 0 0 A) (F0 m 145 ls [.int x32]) := by
        intro x32 H locs ex32 hP hD hS
        refine lv_istore (lv' := [(9, .int x32), (8, .int x31), (10, .int (da ||| db)), (0, .ref (ad 0)), (1, .int f), (2, .int (b2i mi)), (3, .int (nI d)), (4, .int a), (5, .int da), (6, .int b), (7, .int db)]) hx hb d_Mo_sum1_145 hl (by decide) rfl (fun ls hl => ?_)
        refine lv_goto (tgt := 342) hx hb d_Mo_sum1_147 (by decide) ?_
        exact J342 x32 x31 _ _ _ ((by subst ex32; subst ex31; exact hq.trans ((if_neg c21).trans ((if_neg c29).trans ((if_pos c30).trans rfl))))) hP hD hS (lv_sub hl [2, 0, 3, 4, 5, 6, 7, 8, 9, 10, 1] rfl)
      refine lv_if_eq (tgt := 144) hx hb d_Mo_sum1_137 (by decide) (fun c33 => ?_) (fun c33 => ?_)
      · skip
        refine lv_iconst (v := 0) hx hb d_Mo_sum1_144 (by decide) ?_
        exact J145 0 _ _ (Eq.symm ((if_pos c33).trans (rfl))) hP hD hS
      · skip
        refine lv_iconst (v := 1) hx hb d_Mo_sum1_140 (by decide) ?_
        refine lv_goto (tgt := 145) hx hb d_Mo_sum1_141 (by decide) ?_
        exact J145 1 _ _ (Eq.symm ((if_neg c33).trans (rfl))) hP hD hS
    refine lv_icmp_ge (tgt := 132) hx hb d_Mo_sum1_125 (by decide) (fun c34 => ?_) (fun c34 => ?_)
    · skip
      refine lv_iconst (v := 0) hx hb d_Mo_sum1_132 (by decide) ?_
      exact J133 0 _ _ (Eq.symm ((if_pos c34).trans (rfl))) hP hD hS
    · skip
      refine lv_iconst (v := 1) hx hb d_Mo_sum1_128 (by decide) ?_
      refine lv_goto (tgt := 133) hx hb d_Mo_sum1_129 (by decide) ?_
      exact J133 1 _ _ (Eq.symm ((if_neg c34).trans (rfl))) hP hD hS
  by_cases c35 : f = 3
  · skip
    refine lv_tableIn (off := 139) (tgt := 150) hx hb d_Mo_sum1_11 (by rw [c35]; decide) (by rw [c35]; decide) (by rw [c35]; decide) (by decide) ?_
    refine lv_iload hx hb d_Mo_sum1_150 (lv_at hl 6 rfl) ?_
    refine lv_i2l (v := a.toInt64) hx hb d_Mo_sum1_152 rfl ?_
    refine lv_ldc2 (v := 4294967295) hx hb hown (hts _ m_16_19) d_Mo_sum1_153 ?_
    refine lv_land hx hb d_Mo_sum1_156 ?_
    refine lv_iload hx hb d_Mo_sum1_157 (lv_at hl 8 rfl) ?_
    refine lv_i2l (v := b.toInt64) hx hb d_Mo_sum1_159 rfl ?_
    refine lv_ldc2 (v := 4294967295) hx hb hown (hts _ m_16_19) d_Mo_sum1_160 ?_
    refine lv_land hx hb d_Mo_sum1_163 ?_
    refine W.lcmp hx hb d_Mo_sum1_164 ?_
    have J173 : ∀ (x36 : Int32) (H : Heap) (locs : List Loc), x36 = (if 0 ≤ (lg_cmp (a.toInt64 &&& 4294967295) (b.toInt64 &&& 4294967295)) then 0 else 1) → va_P (dC, dI) classes (wM cI cZ ad u) H → va_D A (wM cI cZ ad u) → va_S A s.heap H locs → W p l e (headSpec w_Mo_sum1 rm_Mo_sum1).room s m ([.ref (ad 0), .int f, .int (b2i mi), .int (nI d), .int a, .int da, .int b, .int db] : List Value).toArray below meth c H locs 0 0 (MQ below (QWv (dC, dI) classes [(cI, .int), (cZ, .boolean)] (wM cI cZ ad) A res) ([.ref (ad 0), .int f, .int (b2i mi), .int (nI d), .int a, .int da, .int b, .int db] : List Value).toArray s 0 0 A) (F0 m 173 ls [.int x36]) := by
      intro x36 H locs ex36 hP hD hS
      refine lv_istore (lv' := [(8, .int x36), (10, .int (da ||| db)), (9, .int 0), (0, .ref (ad 0)), (1, .int f), (2, .int (b2i mi)), (3, .int (nI d)), (4, .int a), (5, .int da), (6, .int b), (7, .int db)]) hx hb d_Mo_sum1_173 hl (by decide) rfl (fun ls hl => ?_)
      refine lv_iload hx hb d_Mo_sum1_175 (lv_at hl 1 rfl) ?_
      have J185 : ∀ (x37 : Int32) (H : Heap) (locs : List Loc), x37 = (if (da ||| db) = 0 then 0 else 1) → va_P (dC, dI) classes (wM cI cZ ad u) H → va_D A (wM cI cZ ad u) → va_S A s.heap H locs → W p l e (headSpec w_Mo_sum1 rm_Mo_sum1).room s m ([.ref (ad 0), .int f, .int (b2i mi), .int (nI d), .int a, .int da, .int b, .int db] : List Value).toArray below meth c H locs 0 0 (MQ below (QWv (dC, dI) classes [(cI, .int), (cZ, .boolean)] (wM cI cZ ad) A res) ([.ref (ad 0), .int f, .int (b2i mi), .int (nI d), .int a, .int da, .int b, .int db] : List Value).toArray s 0 0 A) (F0 m 185 ls [.int x37]) := by
        intro x37 H locs ex37 hP hD hS
        refine lv_istore (lv' := [(9, .int x37), (8, .int x36), (10, .int (da ||| db)), (0, .ref (ad 0)), (1, .int f), (2, .int (b2i mi)), (3, .int (nI d)), (4, .int a), (5, .int da), (6, .int b), (7, .int db)]) hx hb d_Mo_sum1_185 hl (by decide) rfl (fun ls hl => ?_)
        refine lv_goto (tgt := 342) hx hb d_Mo_sum1_187 (by decide) ?_
        exact J342 x37 x36 _ _ _ ((by subst ex37; subst ex36; exact hq.trans ((if_neg c21).trans ((if_neg c29).trans ((if_neg c30).trans ((if_pos c35).trans rfl)))))) hP hD hS (lv_sub hl [2, 0, 3, 4, 5, 6, 7, 8, 9, 10, 1] rfl)
      refine lv_if_eq (tgt := 184) hx hb d_Mo_sum1_177 (by decide) (fun c38 => ?_) (fun c38 => ?_)
      · skip
        refine lv_iconst (v := 0) hx hb d_Mo_sum1_184 (by decide) ?_
        exact J185 0 _ _ (Eq.symm ((if_pos c38).trans (rfl))) hP hD hS
      · skip
        refine lv_iconst (v := 1) hx hb d_Mo_sum1_180 (by decide) ?_
        refine lv_goto (tgt := 185) hx hb d_Mo_sum1_181 (by decide) ?_
        exact J185 1 _ _ (Eq.symm ((if_neg c38).trans (rfl))) hP hD hS
    refine lv_if_ge (tgt := 172) hx hb d_Mo_sum1_165 (by decide) (fun c39 => ?_) (fun c39 => ?_)
    · skip
      refine lv_iconst (v := 0) hx hb d_Mo_sum1_172 (by decide) ?_
      exact J173 0 _ _ (Eq.symm ((if_pos c39).trans (rfl))) hP hD hS
    · skip
      refine lv_iconst (v := 1) hx hb d_Mo_sum1_168 (by decide) ?_
      refine lv_goto (tgt := 173) hx hb d_Mo_sum1_169 (by decide) ?_
      exact J173 1 _ _ (Eq.symm ((if_neg c39).trans (rfl))) hP hD hS
  by_cases c40 : f = 4
  · skip
    refine lv_tableIn (off := 179) (tgt := 190) hx hb d_Mo_sum1_11 (by rw [c40]; decide) (by rw [c40]; decide) (by rw [c40]; decide) (by decide) ?_
    refine lv_iload hx hb d_Mo_sum1_190 (lv_at hl 6 rfl) ?_
    refine lv_iload hx hb d_Mo_sum1_192 (lv_at hl 8 rfl) ?_
    refine lv_ixor hx hb d_Mo_sum1_194 ?_
    refine lv_istore (lv' := [(8, .int (a ^^^ b)), (10, .int (da ||| db)), (9, .int 0), (0, .ref (ad 0)), (1, .int f), (2, .int (b2i mi)), (3, .int (nI d)), (4, .int a), (5, .int da), (6, .int b), (7, .int db)]) hx hb d_Mo_sum1_195 hl (by decide) rfl (fun ls hl => ?_)
    refine lv_iload hx hb d_Mo_sum1_197 (lv_at hl 1 rfl) ?_
    refine lv_istore (lv' := [(9, .int (da ||| db)), (8, .int (a ^^^ b)), (10, .int (da ||| db)), (0, .ref (ad 0)), (1, .int f), (2, .int (b2i mi)), (3, .int (nI d)), (4, .int a), (5, .int da), (6, .int b), (7, .int db)]) hx hb d_Mo_sum1_199 hl (by decide) rfl (fun ls hl => ?_)
    refine lv_goto (tgt := 342) hx hb d_Mo_sum1_201 (by decide) ?_
    exact J342 (da ||| db) (a ^^^ b) _ _ _ (hq.trans ((if_neg c21).trans ((if_neg c29).trans ((if_neg c30).trans ((if_neg c35).trans ((if_pos c40).trans rfl)))))) hP hD hS (lv_sub hl [2, 0, 3, 4, 5, 6, 7, 8, 9, 10, 1] rfl)
  have nc21 := lv_neT c21 (a := 0) (by decide)
  have nc29 := lv_neT c29 (a := 1) (by decide)
  have nc30 := lv_neT c30 (a := 2) (by decide)
  have nc35 := lv_neT c35 (a := 3) (by decide)
  have nc40 := lv_neT c40 (a := 4) (by decide)
  refine lv_tableOut (tgt := 204) hx hb d_Mo_sum1_11 (by omega) (by decide) ?_
  exact J204  _ _ _ (hq.trans ((if_neg c21).trans ((if_neg c29).trans ((if_neg c30).trans ((if_neg c35).trans ((if_neg c40).trans rfl)))))) hP hD hS (lv_sub hl [0, 1, 2, 3, 4, 5, 6, 7, 8, 9] rfl)
def w_Mo_shift : List Cond := .code y_Mo_shift b_Mo_shift 9 none :: ALLW
def rm_Mo_shift : Room := { frames := 21, cells := 0, slots := 0, locals := 624 }
theorem d_Mo_shift_0 : decode b_Mo_shift 0 = .ok (.iload 5, 2) := by decide +kernel
theorem d_Mo_shift_2 : decode b_Mo_shift 2 = .ok (.ifCond .eq 16, 3) := by decide +kernel
theorem d_Mo_shift_5 : decode b_Mo_shift 5 = .ok (.aload_n 0, 1) := by decide +kernel
theorem d_Mo_shift_6 : decode b_Mo_shift 6 = .ok (.getfield 17, 3) := by decide +kernel
theorem d_Mo_shift_9 : decode b_Mo_shift 9 = .ok (.iload 4, 2) := by decide +kernel
theorem d_Mo_shift_11 : decode b_Mo_shift 11 = .ok (.iaload, 1) := by decide +kernel
theorem d_Mo_shift_12 : decode b_Mo_shift 12 = .ok (.bipush 31, 2) := by decide +kernel
theorem d_Mo_shift_14 : decode b_Mo_shift 14 = .ok (.iand, 1) := by decide +kernel
theorem d_Mo_shift_15 : decode b_Mo_shift 15 = .ok (.goto 5, 3) := by decide +kernel
theorem d_Mo_shift_18 : decode b_Mo_shift 18 = .ok (.iload 4, 2) := by decide +kernel
theorem d_Mo_shift_20 : decode b_Mo_shift 20 = .ok (.istore 6, 2) := by decide +kernel
theorem d_Mo_shift_22 : decode b_Mo_shift 22 = .ok (.aload_n 0, 1) := by decide +kernel
theorem d_Mo_shift_23 : decode b_Mo_shift 23 = .ok (.getfield 17, 3) := by decide +kernel
theorem d_Mo_shift_26 : decode b_Mo_shift 26 = .ok (.iload_n 3, 1) := by decide +kernel
theorem d_Mo_shift_27 : decode b_Mo_shift 27 = .ok (.iaload, 1) := by decide +kernel
theorem d_Mo_shift_28 : decode b_Mo_shift 28 = .ok (.istore 7, 2) := by decide +kernel
theorem d_Mo_shift_30 : decode b_Mo_shift 30 = .ok (.aload_n 0, 1) := by decide +kernel
theorem d_Mo_shift_31 : decode b_Mo_shift 31 = .ok (.iload_n 3, 1) := by decide +kernel
theorem d_Mo_shift_32 : decode b_Mo_shift 32 = .ok (.invokevirtual 160, 3) := by decide +kernel
theorem d_Mo_shift_35 : decode b_Mo_shift 35 = .ok (.istore 8, 2) := by decide +kernel
theorem d_Mo_shift_37 : decode b_Mo_shift 37 = .ok (.iload 5, 2) := by decide +kernel
theorem d_Mo_shift_39 : decode b_Mo_shift 39 = .ok (.ifCond .eq 50, 3) := by decide +kernel
theorem d_Mo_shift_42 : decode b_Mo_shift 42 = .ok (.aload_n 0, 1) := by decide +kernel
theorem d_Mo_shift_43 : decode b_Mo_shift 43 = .ok (.iload 4, 2) := by decide +kernel
theorem d_Mo_shift_45 : decode b_Mo_shift 45 = .ok (.iconst 5, 1) := by decide +kernel
theorem d_Mo_shift_46 : decode b_Mo_shift 46 = .ok (.invokevirtual 143, 3) := by decide +kernel
theorem d_Mo_shift_49 : decode b_Mo_shift 49 = .ok (.ifCond .eq 40, 3) := by decide +kernel
theorem d_Mo_shift_52 : decode b_Mo_shift 52 = .ok (.aload_n 0, 1) := by decide +kernel
theorem d_Mo_shift_53 : decode b_Mo_shift 53 = .ok (.iload_n 2, 1) := by decide +kernel
theorem d_Mo_shift_54 : decode b_Mo_shift 54 = .ok (.iload_n 1, 1) := by decide +kernel
theorem d_Mo_shift_55 : decode b_Mo_shift 55 = .ok (.ifCond .ne 11, 3) := by decide +kernel
theorem d_Mo_shift_58 : decode b_Mo_shift 58 = .ok (.iload 7, 2) := by decide +kernel
theorem d_Mo_shift_60 : decode b_Mo_shift 60 = .ok (.iload 6, 2) := by decide +kernel
theorem d_Mo_shift_62 : decode b_Mo_shift 62 = .ok (.ishl, 1) := by decide +kernel
theorem d_Mo_shift_63 : decode b_Mo_shift 63 = .ok (.goto 21, 3) := by decide +kernel
theorem d_Mo_shift_66 : decode b_Mo_shift 66 = .ok (.iload_n 1, 1) := by decide +kernel
theorem d_Mo_shift_67 : decode b_Mo_shift 67 = .ok (.iconst 1, 1) := by decide +kernel
theorem d_Mo_shift_68 : decode b_Mo_shift 68 = .ok (.if_icmp .ne 11, 3) := by decide +kernel
theorem d_Mo_shift_71 : decode b_Mo_shift 71 = .ok (.iload 7, 2) := by decide +kernel
theorem d_Mo_shift_73 : decode b_Mo_shift 73 = .ok (.iload 6, 2) := by decide +kernel
theorem d_Mo_shift_75 : decode b_Mo_shift 75 = .ok (.iushr, 1) := by decide +kernel
theorem d_Mo_shift_76 : decode b_Mo_shift 76 = .ok (.goto 8, 3) := by decide +kernel
theorem d_Mo_shift_79 : decode b_Mo_shift 79 = .ok (.iload 7, 2) := by decide +kernel
theorem d_Mo_shift_81 : decode b_Mo_shift 81 = .ok (.iload 6, 2) := by decide +kernel
theorem d_Mo_shift_83 : decode b_Mo_shift 83 = .ok (.ishr, 1) := by decide +kernel
theorem d_Mo_shift_84 : decode b_Mo_shift 84 = .ok (.iconst (-1), 1) := by decide +kernel
theorem d_Mo_shift_85 : decode b_Mo_shift 85 = .ok (.invokevirtual 132, 3) := by decide +kernel
theorem d_Mo_shift_88 : decode b_Mo_shift 88 = .ok (.return_, 1) := by decide +kernel
theorem d_Mo_shift_89 : decode b_Mo_shift 89 = .ok (.iload_n 1, 1) := by decide +kernel
theorem d_Mo_shift_90 : decode b_Mo_shift 90 = .ok (.ifCond .ne 21, 3) := by decide +kernel
theorem d_Mo_shift_93 : decode b_Mo_shift 93 = .ok (.aload_n 0, 1) := by decide +kernel
theorem d_Mo_shift_94 : decode b_Mo_shift 94 = .ok (.iload_n 2, 1) := by decide +kernel
theorem d_Mo_shift_95 : decode b_Mo_shift 95 = .ok (.iload 7, 2) := by decide +kernel
theorem d_Mo_shift_97 : decode b_Mo_shift 97 = .ok (.iload 6, 2) := by decide +kernel
theorem d_Mo_shift_99 : decode b_Mo_shift 99 = .ok (.ishl, 1) := by decide +kernel
theorem d_Mo_shift_100 : decode b_Mo_shift 100 = .ok (.iload 8, 2) := by decide +kernel
theorem d_Mo_shift_102 : decode b_Mo_shift 102 = .ok (.iload 6, 2) := by decide +kernel
theorem d_Mo_shift_104 : decode b_Mo_shift 104 = .ok (.ishl, 1) := by decide +kernel
theorem d_Mo_shift_105 : decode b_Mo_shift 105 = .ok (.invokevirtual 132, 3) := by decide +kernel
theorem d_Mo_shift_108 : decode b_Mo_shift 108 = .ok (.goto 41, 3) := by decide +kernel
theorem d_Mo_shift_111 : decode b_Mo_shift 111 = .ok (.iload_n 1, 1) := by decide +kernel
theorem d_Mo_shift_112 : decode b_Mo_shift 112 = .ok (.iconst 1, 1) := by decide +kernel
theorem d_Mo_shift_113 : decode b_Mo_shift 113 = .ok (.if_icmp .ne 21, 3) := by decide +kernel
theorem d_Mo_shift_116 : decode b_Mo_shift 116 = .ok (.aload_n 0, 1) := by decide +kernel
theorem d_Mo_shift_117 : decode b_Mo_shift 117 = .ok (.iload_n 2, 1) := by decide +kernel
theorem d_Mo_shift_118 : decode b_Mo_shift 118 = .ok (.iload 7, 2) := by decide +kernel
theorem d_Mo_shift_120 : decode b_Mo_shift 120 = .ok (.iload 6, 2) := by decide +kernel
theorem d_Mo_shift_122 : decode b_Mo_shift 122 = .ok (.iushr, 1) := by decide +kernel
theorem d_Mo_shift_123 : decode b_Mo_shift 123 = .ok (.iload 8, 2) := by decide +kernel
theorem d_Mo_shift_125 : decode b_Mo_shift 125 = .ok (.iload 6, 2) := by decide +kernel
theorem d_Mo_shift_127 : decode b_Mo_shift 127 = .ok (.iushr, 1) := by decide +kernel
theorem d_Mo_shift_128 : decode b_Mo_shift 128 = .ok (.invokevirtual 132, 3) := by decide +kernel
theorem d_Mo_shift_131 : decode b_Mo_shift 131 = .ok (.goto 18, 3) := by decide +kernel
theorem d_Mo_shift_134 : decode b_Mo_shift 134 = .ok (.aload_n 0, 1) := by decide +kernel
theorem d_Mo_shift_135 : decode b_Mo_shift 135 = .ok (.iload_n 2, 1) := by decide +kernel
theorem d_Mo_shift_136 : decode b_Mo_shift 136 = .ok (.iload 7, 2) := by decide +kernel
theorem d_Mo_shift_138 : decode b_Mo_shift 138 = .ok (.iload 6, 2) := by decide +kernel
theorem d_Mo_shift_140 : decode b_Mo_shift 140 = .ok (.ishr, 1) := by decide +kernel
theorem d_Mo_shift_141 : decode b_Mo_shift 141 = .ok (.iload 8, 2) := by decide +kernel
theorem d_Mo_shift_143 : decode b_Mo_shift 143 = .ok (.iload 6, 2) := by decide +kernel
theorem d_Mo_shift_145 : decode b_Mo_shift 145 = .ok (.ishr, 1) := by decide +kernel
theorem d_Mo_shift_146 : decode b_Mo_shift 146 = .ok (.invokevirtual 132, 3) := by decide +kernel
theorem d_Mo_shift_149 : decode b_Mo_shift 149 = .ok (.return_, 1) := by decide +kernel
def f_Mo_shift_89 (h : Int32) (d : Nat) (a : Nat) (b : Nat) (rg : Bool) (u : S5) (x1 : Int32) : S5 := if h = 0 then f_Mo_give d ((aI u 2 a) <<< (x1 &&& 31)) ((f_Mo_dark a u) <<< (x1 &&& 31)) u else if h = 1 then f_Mo_give d (((aI u 2 a).toUInt32 >>> (x1.toUInt32 &&& Int32.toUInt32 31)).toInt32) (((f_Mo_dark a u).toUInt32 >>> (x1.toUInt32 &&& Int32.toUInt32 31)).toInt32) u else f_Mo_give d ((aI u 2 a) >>> (x1 &&& 31)) ((f_Mo_dark a u) >>> (x1 &&& 31)) u
def f_Mo_shift (h : Int32) (d : Nat) (a : Nat) (b : Nat) (rg : Bool) (u : S5) : S5 := let x1 : Int32 := if rg = true then (aI u 2 b) &&& (31 : Int32) else nI b; if rg = true then (if (f_Mo_anyDark b 5 u) = true then (let x6 : Int32 := if h = 0 then (aI u 2 a) <<< (x1 &&& 31) else if h = 1 then ((aI u 2 a).toUInt32 >>> (x1.toUInt32 &&& Int32.toUInt32 31)).toInt32 else (aI u 2 a) >>> (x1 &&& 31); f_Mo_give d x6 (-1) u) else f_Mo_shift_89 h d a b rg u x1) else f_Mo_shift_89 h d a b rg u x1
set_option maxHeartbeats 8000000 in
set_option maxRecDepth 100000 in
theorem c_Mo_shift (l : Launch) (dC : Nat → ClassId) (dI : Nat → Nat → Nat) (cI cZ : ClassId) (ad : Nat → Nat) (u : S5) (h : Int32) (d : Nat) (a : Nat) (b : Nat) (rg : Bool) (hd : d < 32) (ha : a < 32) (hb_ : b < 32) (sz : Nat) : Met l y_Mo_shift w_Mo_shift rm_Mo_shift (PreW (dC, dI) classes [(cI, .int), (cZ, .boolean)] (wM cI cZ ad) u sz [.ref (ad 0), .int h, .int (nI d), .int (nI a), .int (nI b), .int (b2i rg)]) (QWv (dC, dI) classes [(cI, .int), (cZ, .boolean)] (wM cI cZ ad) (va_A (wM cI cZ ad u) sz) (f_Mo_shift h d a b rg u)) 0 0 (va_A (wM cI cZ ad u) sz) := by
  generalize hres : f_Mo_shift h d a b rg u = res
  refine Met.ofW (cc := b_Mo_shift) (maxL := 9) (ret := none) (by decide) rfl ?_
  intro p e s m args below meth c s₁ B hml hv
  obtain ⟨rfl, rfl, hP, hK, hD0⟩ := hv
  have hx := B.exec
  have hb := B.bytes
  have hr := B.returns
  have hts : ∀ w9 ∈ ALLW, w9.before ([.ref (ad 0), .int h, .int (nI d), .int (nI a), .int (nI b), .int (b2i rg)] : List Value).toArray s = true := fun w9 h => atoms_spec (ws := w_Mo_shift) B.pre w9 (List.mem_cons_of_mem _ h)
  have hown : s.vm.findClass R_Mo = some m.cls := findClass_of_methodNamed B.named
  have hlocks := B.notSynchronized
  have hD := hD0.self (sz := s.heap.size)
  generalize hAe : va_A (wM cI cZ ad u) s.heap.size = A at hD ⊢
  have hA : ∀ q : Nat, s.heap.size ≤ q → A q := fun q h => by rw [← hAe]; exact Or.inr h
  have hS : va_S A s.heap s.heap [] := va_S.rf
  have hl := lv_entry ([.ref (ad 0), .int h, .int (nI d), .int (nI a), .int (nI b), .int (b2i rg)]) (n := 9) (Nat.le_of_ble_eq_true rfl)
  rw [lg_entry_eq]
  generalize (lg_sl ([.ref (ad 0), .int h, .int (nI d), .int (nI a), .int (nI b), .int (b2i rg)]) ++ List.replicate (9 - (lg_sl ([.ref (ad 0), .int h, .int (nI d), .int (nI a), .int (nI b), .int (b2i rg)])).length) Slot.unset).toArray = ls at hl ⊢
  have hl : lv_has ls 9 [(0, .ref (ad 0)), (1, .int h), (2, .int (nI d)), (3, .int (nI a)), (4, .int (nI b)), (5, .int (b2i rg))] := hl
  have hq := hres.symm
  skip
  refine lv_iload hx hb d_Mo_shift_0 (lv_at hl 5 rfl) ?_
  have J20 : ∀ (x1 : Int32) (H : Heap) (locs : List Loc), x1 = (if rg = true then (aI u 2 b) &&& (31 : Int32) else nI b) → va_P (dC, dI) classes (wM cI cZ ad u) H → va_D A (wM cI cZ ad u) → va_S A s.heap H locs → W p l e (headSpec w_Mo_shift rm_Mo_shift).room s m ([.ref (ad 0), .int h, .int (nI d), .int (nI a), .int (nI b), .int (b2i rg)] : List Value).toArray below meth c H locs 0 0 (MQ below (QWv (dC, dI) classes [(cI, .int), (cZ, .boolean)] (wM cI cZ ad) A res) ([.ref (ad 0), .int h, .int (nI d), .int (nI a), .int (nI b), .int (b2i rg)] : List Value).toArray s 0 0 A) (F0 m 20 ls [.int x1]) := by
    intro x1 H locs ex1 hP hD hS
    refine lv_istore (lv' := [(6, .int x1), (0, .ref (ad 0)), (1, .int h), (2, .int (nI d)), (3, .int (nI a)), (4, .int (nI b)), (5, .int (b2i rg))]) hx hb d_Mo_shift_20 hl (by decide) rfl (fun ls hl => ?_)
    refine lv_aload_n hx hb d_Mo_shift_22 rfl (lv_at hl 1 rfl) ?_
    refine va_get (D := (dC, dI)) (ci := 8) (v := .ref (ad 3)) (C := R_Mo) (T := F_Mo) (N := 31) hx hb hts in_Mo hown hK hP 0 rfl rfl 3 (by decide) (hts _ m_13_33) (fun _ h9 => h9) rfl d_Mo_shift_23 ?_
    refine lv_iload_n hx hb d_Mo_shift_26 rfl (lv_at hl 4 rfl) ?_
    refine aldM_x (u := u) (v := aI u 2 a) hx hb hK hP (by omega) rfl d_Mo_shift_27 ?_
    refine lv_istore (lv' := [(7, .int (aI u 2 a)), (6, .int x1), (0, .ref (ad 0)), (1, .int h), (2, .int (nI d)), (3, .int (nI a)), (4, .int (nI b)), (5, .int (b2i rg))]) hx hb d_Mo_shift_28 hl (by decide) rfl (fun ls hl => ?_)
    refine lv_aload_n hx hb d_Mo_shift_30 rfl (lv_at hl 2 rfl) ?_
    refine lv_iload_n hx hb d_Mo_shift_31 rfl (lv_at hl 5 rfl) ?_
    refine callWi (va_runV (As := [.int (nI a)]) (rest := []) ⟨hx, hb, hml, hown, hts⟩ (c_Mo_dark l dC dI cI cZ ad u a (by first | assumption | omega) H.size) (cwV 1 hts (goodV m_16_35 m_16_36 m_19_27 m_0_12 m_16_37) rfl rfl rfl (by decide +kernel) ⟨Nat.le_of_ble_eq_true rfl, Nat.le_of_ble_eq_true rfl⟩) ⟨preW_blind, va_recv hK hP (ci := 8) (q0 := 0) rfl rfl, preW_ok hP hD hK⟩ rfl rfl hl.1 rfl (lv_room (Nat.le_of_ble_eq_true rfl)) d_Mo_shift_32 ⟨Nat.zero_le _, Nat.zero_le _⟩) hP hD hS hA (fun H locs hP hD hS => ?_)
    refine lv_istore (lv' := [(8, .int (f_Mo_dark a u)), (7, .int (aI u 2 a)), (6, .int x1), (0, .ref (ad 0)), (1, .int h), (2, .int (nI d)), (3, .int (nI a)), (4, .int (nI b)), (5, .int (b2i rg))]) hx hb d_Mo_shift_35 hl (by decide) rfl (fun ls hl => ?_)
    refine lv_iload hx hb d_Mo_shift_37 (lv_at hl 8 rfl) ?_
    have J89 : ∀  (H : Heap) (locs : List Loc) (ls : Array Slot), res = f_Mo_shift_89 h d a b rg u x1 → va_P (dC, dI) classes (wM cI cZ ad u) H → va_D A (wM cI cZ ad u) → va_S A s.heap H locs → lv_has ls 9 [(8, .int (f_Mo_dark a u)), (7, .int (aI u 2 a)), (6, .int x1), (0, .ref (ad 0)), (1, .int h), (2, .int (nI d)), (3, .int (nI a)), (4, .int (nI b)), (5, .int (b2i rg))] → W p l e (headSpec w_Mo_shift rm_Mo_shift).room s m ([.ref (ad 0), .int h, .int (nI d), .int (nI a), .int (nI b), .int (b2i rg)] : List Value).toArray below meth c H locs 0 0 (MQ below (QWv (dC, dI) classes [(cI, .int), (cZ, .boolean)] (wM cI cZ ad) A res) ([.ref (ad 0), .int h, .int (nI d), .int (nI a), .int (nI b), .int (b2i rg)] : List Value).toArray s 0 0 A) (F0 m 89 ls []) := by
      intro  H locs ls hq hP hD hS hl
      refine lv_iload_n hx hb d_Mo_shift_89 rfl (lv_at hl 4 rfl) ?_
      refine lv_if_ne (tgt := 111) hx hb d_Mo_shift_90 (by decide) (fun c2 => ?_) (fun c2 => ?_)
      · skip
        refine lv_iload_n hx hb d_Mo_shift_111 rfl (lv_at hl 4 rfl) ?_
        refine lv_iconst (v := 1) hx hb d_Mo_shift_112 (by decide) ?_
        refine lv_icmp_ne (tgt := 134) hx hb d_Mo_shift_113 (by decide) (fun c3 => ?_) (fun c3 => ?_)
        · skip
          refine lv_aload_n hx hb d_Mo_shift_134 rfl (lv_at hl 3 rfl) ?_
          refine lv_iload_n hx hb d_Mo_shift_135 rfl (lv_at hl 5 rfl) ?_
          refine lv_iload hx hb d_Mo_shift_136 (lv_at hl 1 rfl) ?_
          refine lv_iload hx hb d_Mo_shift_138 (lv_at hl 2 rfl) ?_
          refine lv_ishr hx hb d_Mo_shift_140 ?_
          refine lv_iload hx hb d_Mo_shift_141 (lv_at hl 0 rfl) ?_
          refine lv_iload hx hb d_Mo_shift_143 (lv_at hl 2 rfl) ?_
          refine lv_ishr hx hb d_Mo_shift_145 ?_
          refine callWv (va_runV (As := [.int (nI d), .int ((aI u 2 a) >>> (x1 &&& 31)), .int ((f_Mo_dark a u) >>> (x1 &&& 31))]) (rest := []) ⟨hx, hb, hml, hown, hts⟩ (c_Mo_give l dC dI cI cZ ad u d ((aI u 2 a) >>> (x1 &&& 31)) ((f_Mo_dark a u) >>> (x1 &&& 31)) (by first | assumption | omega) H.size) (cwV 3 hts (goodV m_16_7 m_16_8 m_19_20 m_0_12 m_16_9) rfl rfl rfl (by decide +kernel) ⟨Nat.le_of_ble_eq_true rfl, Nat.le_of_ble_eq_true rfl⟩) ⟨preW_blind, va_recv hK hP (ci := 8) (q0 := 0) rfl rfl, preW_ok hP hD hK⟩ rfl rfl hl.1 rfl (lv_room (Nat.le_of_ble_eq_true rfl)) d_Mo_shift_146 ⟨Nat.zero_le _, Nat.zero_le _⟩) hP hD hS hA (fun H locs hP hD hS => ?_)
          have hE : res = f_Mo_give d ((aI u 2 a) >>> (x1 &&& 31)) ((f_Mo_dark a u) >>> (x1 &&& 31)) u := hq.trans ((if_neg c2).trans ((if_neg c3).trans rfl))
          exact retWv hx hb hr hP hK hD hS hE.symm d_Mo_shift_149 hlocks
        · skip
          refine lv_aload_n hx hb d_Mo_shift_116 rfl (lv_at hl 3 rfl) ?_
          refine lv_iload_n hx hb d_Mo_shift_117 rfl (lv_at hl 5 rfl) ?_
          refine lv_iload hx hb d_Mo_shift_118 (lv_at hl 1 rfl) ?_
          refine lv_iload hx hb d_Mo_shift_120 (lv_at hl 2 rfl) ?_
          refine lv_iushr (v := ((aI u 2 a).toUInt32 >>> (x1.toUInt32 &&& Int32.toUInt32 31)).toInt32) hx hb d_Mo_shift_122 rfl ?_
          refine lv_iload hx hb d_Mo_shift_123 (lv_at hl 0 rfl) ?_
          refine lv_iload hx hb d_Mo_shift_125 (lv_at hl 2 rfl) ?_
          refine lv_iushr (v := ((f_Mo_dark a u).toUInt32 >>> (x1.toUInt32 &&& Int32.toUInt32 31)).toInt32) hx hb d_Mo_shift_127 rfl ?_
          refine callWv (va_runV (As := [.int (nI d), .int (((aI u 2 a).toUInt32 >>> (x1.toUInt32 &&& Int32.toUInt32 31)).toInt32), .int (((f_Mo_dark a u).toUInt32 >>> (x1.toUInt32 &&& Int32.toUInt32 31)).toInt32)]) (rest := []) ⟨hx, hb, hml, hown, hts⟩ (c_Mo_give l dC dI cI cZ ad u d (((aI u 2 a).toUInt32 >>> (x1.toUInt32 &&& Int32.toUInt32 31)).toInt32) (((f_Mo_dark a u).toUInt32 >>> (x1.toUInt32 &&& Int32.toUInt32 31)).toInt32) (by first | assumption | omega) H.size) (cwV 3 hts (goodV m_16_7 m_16_8 m_19_20 m_0_12 m_16_9) rfl rfl rfl (by decide +kernel) ⟨Nat.le_of_ble_eq_true rfl, Nat.le_of_ble_eq_true rfl⟩) ⟨preW_blind, va_recv hK hP (ci := 8) (q0 := 0) rfl rfl, preW_ok hP hD hK⟩ rfl rfl hl.1 rfl (lv_room (Nat.le_of_ble_eq_true rfl)) d_Mo_shift_128 ⟨Nat.zero_le _, Nat.zero_le _⟩) hP hD hS hA (fun H locs hP hD hS => ?_)
          refine lv_goto (tgt := 149) hx hb d_Mo_shift_131 (by decide) ?_
          have hE : res = f_Mo_give d (((aI u 2 a).toUInt32 >>> (x1.toUInt32 &&& Int32.toUInt32 31)).toInt32) (((f_Mo_dark a u).toUInt32 >>> (x1.toUInt32 &&& Int32.toUInt32 31)).toInt32) u := hq.trans ((if_neg c2).trans ((if_pos c3).trans rfl))
          exact retWv hx hb hr hP hK hD hS hE.symm d_Mo_shift_149 hlocks
      · skip
        refine lv_aload_n hx hb d_Mo_shift_93 rfl (lv_at hl 3 rfl) ?_
        refine lv_iload_n hx hb d_Mo_shift_94 rfl (lv_at hl 5 rfl) ?_
        refine lv_iload hx hb d_Mo_shift_95 (lv_at hl 1 rfl) ?_
        refine lv_iload hx hb d_Mo_shift_97 (lv_at hl 2 rfl) ?_
        refine lv_ishl hx hb d_Mo_shift_99 ?_
        refine lv_iload hx hb d_Mo_shift_100 (lv_at hl 0 rfl) ?_
        refine lv_iload hx hb d_Mo_shift_102 (lv_at hl 2 rfl) ?_
        refine lv_ishl hx hb d_Mo_shift_104 ?_
        refine callWv (va_runV (As := [.int (nI d), .int ((aI u 2 a) <<< (x1 &&& 31)), .int ((f_Mo_dark a u) <<< (x1 &&& 31))]) (rest := []) ⟨hx, hb, hml, hown, hts⟩ (c_Mo_give l dC dI cI cZ ad u d ((aI u 2 a) <<< (x1 &&& 31)) ((f_Mo_dark a u) <<< (x1 &&& 31)) (by first | assumption | omega) H.size) (cwV 3 hts (goodV m_16_7 m_16_8 m_19_20 m_0_12 m_16_9) rfl rfl rfl (by decide +kernel) ⟨Nat.le_of_ble_eq_true rfl, Nat.le_of_ble_eq_true rfl⟩) ⟨preW_blind, va_recv hK hP (ci := 8) (q0 := 0) rfl rfl, preW_ok hP hD hK⟩ rfl rfl hl.1 rfl (lv_room (Nat.le_of_ble_eq_true rfl)) d_Mo_shift_105 ⟨Nat.zero_le _, Nat.zero_le _⟩) hP hD hS hA (fun H locs hP hD hS => ?_)
        refine lv_goto (tgt := 149) hx hb d_Mo_shift_108 (by decide) ?_
        have hE : res = f_Mo_give d ((aI u 2 a) <<< (x1 &&& 31)) ((f_Mo_dark a u) <<< (x1 &&& 31)) u := hq.trans ((if_pos c2).trans rfl)
        exact retWv hx hb hr hP hK hD hS hE.symm d_Mo_shift_149 hlocks
    refine rb_eq (tgt := 89) hx hb d_Mo_shift_39 (by decide) (fun c4 => ?_) (fun c4 => ?_)
    · skip
      exact J89  _ _ _ ((by subst ex1; exact hq.trans ((if_neg c4).trans rfl))) hP hD hS (lv_sub hl [0, 1, 2, 3, 4, 5, 6, 7, 8] rfl)
    · skip
      refine lv_aload_n hx hb d_Mo_shift_42 rfl (lv_at hl 3 rfl) ?_
      refine lv_iload hx hb d_Mo_shift_43 (lv_at hl 7 rfl) ?_
      refine lv_iconst (v := nI 5) hx hb d_Mo_shift_45 (by decide) ?_
      refine callWi (va_runV (As := [.int (nI b), .int (nI 5)]) (rest := []) ⟨hx, hb, hml, hown, hts⟩ (c_Mo_anyDark l dC dI cI cZ ad u b 5 (by first | assumption | omega) (by first | assumption | omega) H.size) (cwV 2 hts (goodV m_16_16 m_16_17 m_19_22 m_0_12 m_16_18) rfl rfl rfl (by decide +kernel) ⟨Nat.le_of_ble_eq_true rfl, Nat.le_of_ble_eq_true rfl⟩) ⟨preW_blind, va_recv hK hP (ci := 8) (q0 := 0) rfl rfl, preW_ok hP hD hK⟩ rfl rfl hl.1 rfl (lv_room (Nat.le_of_ble_eq_true rfl)) d_Mo_shift_46 ⟨Nat.zero_le _, Nat.zero_le _⟩) hP hD hS hA (fun H locs hP hD hS => ?_)
      refine rb_eq (tgt := 89) hx hb d_Mo_shift_49 (by decide) (fun c5 => ?_) (fun c5 => ?_)
      · skip
        exact J89  _ _ _ ((by subst ex1; exact hq.trans ((if_pos c4).trans ((if_neg c5).trans rfl)))) hP hD hS (lv_sub hl [0, 1, 2, 3, 4, 5, 6, 7, 8] rfl)
      · skip
        refine lv_aload_n hx hb d_Mo_shift_52 rfl (lv_at hl 3 rfl) ?_
        refine lv_iload_n hx hb d_Mo_shift_53 rfl (lv_at hl 5 rfl) ?_
        refine lv_iload_n hx hb d_Mo_shift_54 rfl (lv_at hl 4 rfl) ?_
        have J84 : ∀ (x6 : Int32) (H : Heap) (locs : List Loc), x6 = (if h = 0 then (aI u 2 a) <<< (x1 &&& 31) else if h = 1 then ((aI u 2 a).toUInt32 >>> (x1.toUInt32 &&& Int32.toUInt32 31)).toInt32 else (aI u 2 a) >>> (x1 &&& 31)) → va_P (dC, dI) classes (wM cI cZ ad u) H → va_D A (wM cI cZ ad u) → va_S A s.heap H locs → W p l e (headSpec w_Mo_shift rm_Mo_shift).room s m ([.ref (ad 0), .int h, .int (nI d), .int (nI a), .int (nI b), .int (b2i rg)] : List Value).toArray below meth c H locs 0 0 (MQ below (QWv (dC, dI) classes [(cI, .int), (cZ, .boolean)] (wM cI cZ ad) A res) ([.ref (ad 0), .int h, .int (nI d), .int (nI a), .int (nI b), .int (b2i rg)] : List Value).toArray s 0 0 A) (F0 m 84 ls [.int x6, .int (nI d), .ref (ad 0)]) := by
          intro x6 H locs ex6 hP hD hS
          refine lv_iconst (v := (-1)) hx hb d_Mo_shift_84 (by decide) ?_
          refine callWv (va_runV (As := [.int (nI d), .int x6, .int (-1)]) (rest := []) ⟨hx, hb, hml, hown, hts⟩ (c_Mo_give l dC dI cI cZ ad u d x6 (-1) (by first | assumption | omega) H.size) (cwV 3 hts (goodV m_16_7 m_16_8 m_19_20 m_0_12 m_16_9) rfl rfl rfl (by decide +kernel) ⟨Nat.le_of_ble_eq_true rfl, Nat.le_of_ble_eq_true rfl⟩) ⟨preW_blind, va_recv hK hP (ci := 8) (q0 := 0) rfl rfl, preW_ok hP hD hK⟩ rfl rfl hl.1 rfl (lv_room (Nat.le_of_ble_eq_true rfl)) d_Mo_shift_85 ⟨Nat.zero_le _, Nat.zero_le _⟩) hP hD hS hA (fun H locs hP hD hS => ?_)
          have hE : res = f_Mo_give d x6 (-1) u := (by subst ex6; subst ex1; exact hq.trans ((if_pos c4).trans ((if_pos c5).trans rfl)))
          exact retWv hx hb hr hP hK hD hS hE.symm d_Mo_shift_88 hlocks
        refine lv_if_ne (tgt := 66) hx hb d_Mo_shift_55 (by decide) (fun c7 => ?_) (fun c7 => ?_)
        · skip
          refine lv_iload_n hx hb d_Mo_shift_66 rfl (lv_at hl 4 rfl) ?_
          refine lv_iconst (v := 1) hx hb d_Mo_shift_67 (by decide) ?_
          refine lv_icmp_ne (tgt := 79) hx hb d_Mo_shift_68 (by decide) (fun c8 => ?_) (fun c8 => ?_)
          · skip
            refine lv_iload hx hb d_Mo_shift_79 (lv_at hl 1 rfl) ?_
            refine lv_iload hx hb d_Mo_shift_81 (lv_at hl 2 rfl) ?_
            refine lv_ishr hx hb d_Mo_shift_83 ?_
            exact J84 ((aI u 2 a) >>> (x1 &&& 31)) _ _ (Eq.symm ((if_neg c7).trans ((if_neg c8).trans (rfl)))) hP hD hS
          · skip
            refine lv_iload hx hb d_Mo_shift_71 (lv_at hl 1 rfl) ?_
            refine lv_iload hx hb d_Mo_shift_73 (lv_at hl 2 rfl) ?_
            refine lv_iushr (v := ((aI u 2 a).toUInt32 >>> (x1.toUInt32 &&& Int32.toUInt32 31)).toInt32) hx hb d_Mo_shift_75 rfl ?_
            refine lv_goto (tgt := 84) hx hb d_Mo_shift_76 (by decide) ?_
            exact J84 (((aI u 2 a).toUInt32 >>> (x1.toUInt32 &&& Int32.toUInt32 31)).toInt32) _ _ (Eq.symm ((if_neg c7).trans ((if_pos c8).trans (rfl)))) hP hD hS
        · skip
          refine lv_iload hx hb d_Mo_shift_58 (lv_at hl 1 rfl) ?_
          refine lv_iload hx hb d_Mo_shift_60 (lv_at hl 2 rfl) ?_
          refine lv_ishl hx hb d_Mo_shift_62 ?_
          refine lv_goto (tgt := 84) hx hb d_Mo_shift_63 (by decide) ?_
          exact J84 ((aI u 2 a) <<< (x1 &&& 31)) _ _ (Eq.symm ((if_pos c7).trans (rfl))) hP hD hS
  refine rb_eq (tgt := 18) hx hb d_Mo_shift_2 (by decide) (fun c9 => ?_) (fun c9 => ?_)
  · skip
    refine lv_iload hx hb d_Mo_shift_18 (lv_at hl 4 rfl) ?_
    exact J20 (nI b) _ _ (Eq.symm ((if_neg c9).trans (rfl))) hP hD hS
  · skip
    refine lv_aload_n hx hb d_Mo_shift_5 rfl (lv_at hl 0 rfl) ?_
    refine va_get (D := (dC, dI)) (ci := 8) (v := .ref (ad 3)) (C := R_Mo) (T := F_Mo) (N := 31) hx hb hts in_Mo hown hK hP 0 rfl rfl 3 (by decide) (hts _ m_13_33) (fun _ h9 => h9) rfl d_Mo_shift_6 ?_
    refine lv_iload hx hb d_Mo_shift_9 (lv_at hl 4 rfl) ?_
    refine aldM_x (u := u) (v := aI u 2 b) hx hb hK hP (by omega) rfl d_Mo_shift_11 ?_
    refine lv_bipush (v := 31) hx hb d_Mo_shift_12 (by decide) ?_
    refine lv_iand hx hb d_Mo_shift_14 ?_
    refine lv_goto (tgt := 20) hx hb d_Mo_shift_15 (by decide) ?_
    exact J20 ((aI u 2 b) &&& (31 : Int32)) _ _ (Eq.symm ((if_pos c9).trans (rfl))) hP hD hS
def w_Mo_product : List Cond := .code y_Mo_product b_Mo_product 7 (some .int) :: ALLW
def rm_Mo_product : Room := { frames := 20, cells := 0, slots := 0, locals := 600 }
theorem d_Mo_product_0 : decode b_Mo_product 0 = .ok (.iload_n 1, 1) := by decide +kernel
theorem d_Mo_product_1 : decode b_Mo_product 1 = .ok (.i2l, 1) := by decide +kernel
theorem d_Mo_product_2 : decode b_Mo_product 2 = .ok (.ldc2_w 147, 3) := by decide +kernel
theorem d_Mo_product_5 : decode b_Mo_product 5 = .ok (.land, 1) := by decide +kernel
theorem d_Mo_product_6 : decode b_Mo_product 6 = .ok (.lstore_n 3, 1) := by decide +kernel
theorem d_Mo_product_7 : decode b_Mo_product 7 = .ok (.iload_n 2, 1) := by decide +kernel
theorem d_Mo_product_8 : decode b_Mo_product 8 = .ok (.i2l, 1) := by decide +kernel
theorem d_Mo_product_9 : decode b_Mo_product 9 = .ok (.ldc2_w 147, 3) := by decide +kernel
theorem d_Mo_product_12 : decode b_Mo_product 12 = .ok (.land, 1) := by decide +kernel
theorem d_Mo_product_13 : decode b_Mo_product 13 = .ok (.lstore 5, 2) := by decide +kernel
theorem d_Mo_product_15 : decode b_Mo_product 15 = .ok (.iload_n 0, 1) := by decide +kernel
theorem d_Mo_product_16 : decode b_Mo_product 16 = .ok (.tableswitch 121 0 6 #[44, 48, 58, 68, 77, 92, 106], 44) := by decide +kernel
theorem d_Mo_product_60 : decode b_Mo_product 60 = .ok (.iload_n 1, 1) := by decide +kernel
theorem d_Mo_product_61 : decode b_Mo_product 61 = .ok (.iload_n 2, 1) := by decide +kernel
theorem d_Mo_product_62 : decode b_Mo_product 62 = .ok (.imul, 1) := by decide +kernel
theorem d_Mo_product_63 : decode b_Mo_product 63 = .ok (.ireturn, 1) := by decide +kernel
theorem d_Mo_product_64 : decode b_Mo_product 64 = .ok (.iload_n 1, 1) := by decide +kernel
theorem d_Mo_product_65 : decode b_Mo_product 65 = .ok (.i2l, 1) := by decide +kernel
theorem d_Mo_product_66 : decode b_Mo_product 66 = .ok (.iload_n 2, 1) := by decide +kernel
theorem d_Mo_product_67 : decode b_Mo_product 67 = .ok (.i2l, 1) := by decide +kernel
theorem d_Mo_product_68 : decode b_Mo_product 68 = .ok (.lmul, 1) := by decide +kernel
theorem d_Mo_product_69 : decode b_Mo_product 69 = .ok (.bipush 32, 2) := by decide +kernel
theorem d_Mo_product_71 : decode b_Mo_product 71 = .ok (.lshr, 1) := by decide +kernel
theorem d_Mo_product_72 : decode b_Mo_product 72 = .ok (.l2i, 1) := by decide +kernel
theorem d_Mo_product_73 : decode b_Mo_product 73 = .ok (.ireturn, 1) := by decide +kernel
theorem d_Mo_product_74 : decode b_Mo_product 74 = .ok (.iload_n 1, 1) := by decide +kernel
theorem d_Mo_product_75 : decode b_Mo_product 75 = .ok (.i2l, 1) := by decide +kernel
theorem d_Mo_product_76 : decode b_Mo_product 76 = .ok (.lload 5, 2) := by decide +kernel
theorem d_Mo_product_78 : decode b_Mo_product 78 = .ok (.lmul, 1) := by decide +kernel
theorem d_Mo_product_79 : decode b_Mo_product 79 = .ok (.bipush 32, 2) := by decide +kernel
theorem d_Mo_product_81 : decode b_Mo_product 81 = .ok (.lshr, 1) := by decide +kernel
theorem d_Mo_product_82 : decode b_Mo_product 82 = .ok (.l2i, 1) := by decide +kernel
theorem d_Mo_product_83 : decode b_Mo_product 83 = .ok (.ireturn, 1) := by decide +kernel
theorem d_Mo_product_84 : decode b_Mo_product 84 = .ok (.lload_n 3, 1) := by decide +kernel
theorem d_Mo_product_85 : decode b_Mo_product 85 = .ok (.lload 5, 2) := by decide +kernel
theorem d_Mo_product_87 : decode b_Mo_product 87 = .ok (.lmul, 1) := by decide +kernel
theorem d_Mo_product_88 : decode b_Mo_product 88 = .ok (.bipush 32, 2) := by decide +kernel
theorem d_Mo_product_90 : decode b_Mo_product 90 = .ok (.lushr, 1) := by decide +kernel
theorem d_Mo_product_91 : decode b_Mo_product 91 = .ok (.l2i, 1) := by decide +kernel
theorem d_Mo_product_92 : decode b_Mo_product 92 = .ok (.ireturn, 1) := by decide +kernel
theorem d_Mo_product_93 : decode b_Mo_product 93 = .ok (.iload_n 2, 1) := by decide +kernel
theorem d_Mo_product_94 : decode b_Mo_product 94 = .ok (.ifCond .ne 7, 3) := by decide +kernel
theorem d_Mo_product_97 : decode b_Mo_product 97 = .ok (.iconst (-1), 1) := by decide +kernel
theorem d_Mo_product_98 : decode b_Mo_product 98 = .ok (.goto 9, 3) := by decide +kernel
theorem d_Mo_product_101 : decode b_Mo_product 101 = .ok (.iload_n 1, 1) := by decide +kernel
theorem d_Mo_product_102 : decode b_Mo_product 102 = .ok (.i2l, 1) := by decide +kernel
theorem d_Mo_product_103 : decode b_Mo_product 103 = .ok (.iload_n 2, 1) := by decide +kernel
theorem d_Mo_product_104 : decode b_Mo_product 104 = .ok (.i2l, 1) := by decide +kernel
theorem d_Mo_product_105 : decode b_Mo_product 105 = .ok (.ldiv, 1) := by decide +kernel
theorem d_Mo_product_106 : decode b_Mo_product 106 = .ok (.l2i, 1) := by decide +kernel
theorem d_Mo_product_107 : decode b_Mo_product 107 = .ok (.ireturn, 1) := by decide +kernel
theorem d_Mo_product_108 : decode b_Mo_product 108 = .ok (.iload_n 2, 1) := by decide +kernel
theorem d_Mo_product_109 : decode b_Mo_product 109 = .ok (.ifCond .ne 7, 3) := by decide +kernel
theorem d_Mo_product_112 : decode b_Mo_product 112 = .ok (.iconst (-1), 1) := by decide +kernel
theorem d_Mo_product_113 : decode b_Mo_product 113 = .ok (.goto 8, 3) := by decide +kernel
theorem d_Mo_product_116 : decode b_Mo_product 116 = .ok (.lload_n 3, 1) := by decide +kernel
theorem d_Mo_product_117 : decode b_Mo_product 117 = .ok (.lload 5, 2) := by decide +kernel
theorem d_Mo_product_119 : decode b_Mo_product 119 = .ok (.ldiv, 1) := by decide +kernel
theorem d_Mo_product_120 : decode b_Mo_product 120 = .ok (.l2i, 1) := by decide +kernel
theorem d_Mo_product_121 : decode b_Mo_product 121 = .ok (.ireturn, 1) := by decide +kernel
theorem d_Mo_product_122 : decode b_Mo_product 122 = .ok (.iload_n 2, 1) := by decide +kernel
theorem d_Mo_product_123 : decode b_Mo_product 123 = .ok (.ifCond .ne 7, 3) := by decide +kernel
theorem d_Mo_product_126 : decode b_Mo_product 126 = .ok (.iload_n 1, 1) := by decide +kernel
theorem d_Mo_product_127 : decode b_Mo_product 127 = .ok (.goto 9, 3) := by decide +kernel
theorem d_Mo_product_130 : decode b_Mo_product 130 = .ok (.iload_n 1, 1) := by decide +kernel
theorem d_Mo_product_131 : decode b_Mo_product 131 = .ok (.i2l, 1) := by decide +kernel
theorem d_Mo_product_132 : decode b_Mo_product 132 = .ok (.iload_n 2, 1) := by decide +kernel
theorem d_Mo_product_133 : decode b_Mo_product 133 = .ok (.i2l, 1) := by decide +kernel
theorem d_Mo_product_134 : decode b_Mo_product 134 = .ok (.lrem, 1) := by decide +kernel
theorem d_Mo_product_135 : decode b_Mo_product 135 = .ok (.l2i, 1) := by decide +kernel
theorem d_Mo_product_136 : decode b_Mo_product 136 = .ok (.ireturn, 1) := by decide +kernel
theorem d_Mo_product_137 : decode b_Mo_product 137 = .ok (.iload_n 2, 1) := by decide +kernel
theorem d_Mo_product_138 : decode b_Mo_product 138 = .ok (.ifCond .ne 7, 3) := by decide +kernel
theorem d_Mo_product_141 : decode b_Mo_product 141 = .ok (.iload_n 1, 1) := by decide +kernel
theorem d_Mo_product_142 : decode b_Mo_product 142 = .ok (.goto 8, 3) := by decide +kernel
theorem d_Mo_product_145 : decode b_Mo_product 145 = .ok (.lload_n 3, 1) := by decide +kernel
theorem d_Mo_product_146 : decode b_Mo_product 146 = .ok (.lload 5, 2) := by decide +kernel
theorem d_Mo_product_148 : decode b_Mo_product 148 = .ok (.lrem, 1) := by decide +kernel
theorem d_Mo_product_149 : decode b_Mo_product 149 = .ok (.l2i, 1) := by decide +kernel
theorem d_Mo_product_150 : decode b_Mo_product 150 = .ok (.ireturn, 1) := by decide +kernel
def f_Mo_product (f : Int32) (a : Int32) (b : Int32) : Int32 := if f = 0 then a * b else if f = 1 then ((a.toInt64 * b.toInt64) >>> ((32 : Int32).toInt64 &&& 63)).toInt32 else if f = 2 then ((a.toInt64 * (b.toInt64 &&& 4294967295)) >>> ((32 : Int32).toInt64 &&& 63)).toInt32 else if f = 3 then ((((a.toInt64 &&& 4294967295) * (b.toInt64 &&& 4294967295)).toUInt64 >>> ((32 : Int32).toInt64.toUInt64 &&& Int64.toUInt64 63)).toInt64).toInt32 else if f = 4 then (if b = 0 then (-1) else (a.toInt64 / b.toInt64).toInt32) else if f = 5 then (if b = 0 then (-1) else ((a.toInt64 &&& 4294967295) / (b.toInt64 &&& 4294967295)).toInt32) else if f = 6 then (if b = 0 then a else (a.toInt64 - a.toInt64 / b.toInt64 * b.toInt64).toInt32) else if b = 0 then a else ((a.toInt64 &&& 4294967295) - (a.toInt64 &&& 4294967295) / (b.toInt64 &&& 4294967295) * (b.toInt64 &&& 4294967295)).toInt32
set_option maxHeartbeats 8000000 in
set_option maxRecDepth 100000 in
theorem c_Mo_product (l : Launch) (f : Int32) (a : Int32) (b : Int32) (sz : Nat) : Met l y_Mo_product w_Mo_product rm_Mo_product (PreP sz [.int f, .int a, .int b]) (QPi (fun q : Nat => sz ≤ q) (f_Mo_product f a b)) 0 0 (fun q : Nat => sz ≤ q) := by
  generalize hres : f_Mo_product f a b = res
  refine Met.ofW (cc := b_Mo_product) (maxL := 7) (ret := (some .int)) (by decide) rfl ?_
  intro p e s m args below meth c s₁ B hml hv
  obtain ⟨rfl, rfl⟩ := hv
  have hx := B.exec
  have hb := B.bytes
  have hr := B.returns
  have hts : ∀ w9 ∈ ALLW, w9.before ([.int f, .int a, .int b] : List Value).toArray s = true := fun w9 h => atoms_spec (ws := w_Mo_product) B.pre w9 (List.mem_cons_of_mem _ h)
  have hown : s.vm.findClass R_Mo = some m.cls := findClass_of_methodNamed B.named
  have hlocks := B.notSynchronized
  generalize hAe : (fun q : Nat => s.heap.size ≤ q) = A
  have hA : ∀ q : Nat, s.heap.size ≤ q → A q := fun q h => by rw [← hAe]; exact h
  have hS : va_S A s.heap s.heap [] := va_S.rf
  have hl := lv_entry ([.int f, .int a, .int b]) (n := 7) (Nat.le_of_ble_eq_true rfl)
  rw [lg_entry_eq]
  generalize (lg_sl ([.int f, .int a, .int b]) ++ List.replicate (7 - (lg_sl ([.int f, .int a, .int b])).length) Slot.unset).toArray = ls at hl ⊢
  have hl : lv_has ls 7 [(0, .int f), (1, .int a), (2, .int b)] := hl
  have hq := hres.symm
  refine lv_iload_n hx hb d_Mo_product_0 rfl (lv_at hl 1 rfl) ?_
  refine lv_i2l (v := a.toInt64) hx hb d_Mo_product_1 rfl ?_
  refine lv_ldc2 (v := 4294967295) hx hb hown (hts _ m_16_19) d_Mo_product_2 ?_
  refine lv_land hx hb d_Mo_product_5 ?_
  refine lv_lstore_n (lv' := [(3, .long (a.toInt64 &&& 4294967295)), (0, .int f), (1, .int a), (2, .int b)]) hx hb d_Mo_product_6 rfl hl (by decide) rfl (fun ls hl => ?_)
  refine lv_iload_n hx hb d_Mo_product_7 rfl (lv_at hl 3 rfl) ?_
  refine lv_i2l (v := b.toInt64) hx hb d_Mo_product_8 rfl ?_
  refine lv_ldc2 (v := 4294967295) hx hb hown (hts _ m_16_19) d_Mo_product_9 ?_
  refine lv_land hx hb d_Mo_product_12 ?_
  refine lv_lstore (lv' := [(5, .long (b.toInt64 &&& 4294967295)), (3, .long (a.toInt64 &&& 4294967295)), (0, .int f), (1, .int a), (2, .int b)]) hx hb d_Mo_product_13 hl (by decide) rfl (fun ls hl => ?_)
  refine lv_iload_n hx hb d_Mo_product_15 rfl (lv_at hl 2 rfl) ?_
  by_cases c1 : f = 0
  · skip
    refine lv_tableIn (off := 44) (tgt := 60) hx hb d_Mo_product_16 (by rw [c1]; decide) (by rw [c1]; decide) (by rw [c1]; decide) (by decide) ?_
    refine lv_iload_n hx hb d_Mo_product_60 rfl (lv_at hl 3 rfl) ?_
    refine lv_iload_n hx hb d_Mo_product_61 rfl (lv_at hl 4 rfl) ?_
    refine lv_imul hx hb d_Mo_product_62 ?_
    have hE : res = a * b := hq.trans ((if_pos c1).trans rfl)
    exact retPi (x := a * b) hx hb hr hS hE.symm d_Mo_product_63 hlocks
  by_cases c2 : f = 1
  · skip
    refine lv_tableIn (off := 48) (tgt := 64) hx hb d_Mo_product_16 (by rw [c2]; decide) (by rw [c2]; decide) (by rw [c2]; decide) (by decide) ?_
    refine lv_iload_n hx hb d_Mo_product_64 rfl (lv_at hl 3 rfl) ?_
    refine lv_i2l (v := a.toInt64) hx hb d_Mo_product_65 rfl ?_
    refine lv_iload_n hx hb d_Mo_product_66 rfl (lv_at hl 4 rfl) ?_
    refine lv_i2l (v := b.toInt64) hx hb d_Mo_product_67 rfl ?_
    refine lv_lmul hx hb d_Mo_product_68 ?_
    refine lv_bipush (v := 32) hx hb d_Mo_product_69 (by decide) ?_
    refine lv_lshr (v := (a.toInt64 * b.toInt64) >>> ((32 : Int32).toInt64 &&& 63)) hx hb d_Mo_product_71 rfl ?_
    refine lv_l2i (v := ((a.toInt64 * b.toInt64) >>> ((32 : Int32).toInt64 &&& 63)).toInt32) hx hb d_Mo_product_72 rfl ?_
    have hE : res = ((a.toInt64 * b.toInt64) >>> ((32 : Int32).toInt64 &&& 63)).toInt32 := hq.trans ((if_neg c1).trans ((if_pos c2).trans rfl))
    exact retPi (x := ((a.toInt64 * b.toInt64) >>> ((32 : Int32).toInt64 &&& 63)).toInt32) hx hb hr hS hE.symm d_Mo_product_73 hlocks
  by_cases c3 : f = 2
  · skip
    refine lv_tableIn (off := 58) (tgt := 74) hx hb d_Mo_product_16 (by rw [c3]; decide) (by rw [c3]; decide) (by rw [c3]; decide) (by decide) ?_
    refine lv_iload_n hx hb d_Mo_product_74 rfl (lv_at hl 3 rfl) ?_
    refine lv_i2l (v := a.toInt64) hx hb d_Mo_product_75 rfl ?_
    refine lv_lload hx hb d_Mo_product_76 (lv_at hl 0 rfl) ?_
    refine lv_lmul hx hb d_Mo_product_78 ?_
    refine lv_bipush (v := 32) hx hb d_Mo_product_79 (by decide) ?_
    refine lv_lshr (v := (a.toInt64 * (b.toInt64 &&& 4294967295)) >>> ((32 : Int32).toInt64 &&& 63)) hx hb d_Mo_product_81 rfl ?_
    refine lv_l2i (v := ((a.toInt64 * (b.toInt64 &&& 4294967295)) >>> ((32 : Int32).toInt64 &&& 63)).toInt32) hx hb d_Mo_product_82 rfl ?_
    have hE : res = ((a.toInt64 * (b.toInt64 &&& 4294967295)) >>> ((32 : Int32).toInt64 &&& 63)).toInt32 := hq.trans ((if_neg c1).trans ((if_neg c2).trans ((if_pos c3).trans rfl)))
    exact retPi (x := ((a.toInt64 * (b.toInt64 &&& 4294967295)) >>> ((32 : Int32).toInt64 &&& 63)).toInt32) hx hb hr hS hE.symm d_Mo_product_83 hlocks
  by_cases c4 : f = 3
  · skip
    refine lv_tableIn (off := 68) (tgt := 84) hx hb d_Mo_product_16 (by rw [c4]; decide) (by rw [c4]; decide) (by rw [c4]; decide) (by decide) ?_
    refine lv_lload_n hx hb d_Mo_product_84 rfl (lv_at hl 1 rfl) ?_
    refine lv_lload hx hb d_Mo_product_85 (lv_at hl 0 rfl) ?_
    refine lv_lmul hx hb d_Mo_product_87 ?_
    refine lv_bipush (v := 32) hx hb d_Mo_product_88 (by decide) ?_
    refine lv_lushr (v := (((a.toInt64 &&& 4294967295) * (b.toInt64 &&& 4294967295)).toUInt64 >>> ((32 : Int32).toInt64.toUInt64 &&& Int64.toUInt64 63)).toInt64) hx hb d_Mo_product_90 rfl ?_
    refine lv_l2i (v := ((((a.toInt64 &&& 4294967295) * (b.toInt64 &&& 4294967295)).toUInt64 >>> ((32 : Int32).toInt64.toUInt64 &&& Int64.toUInt64 63)).toInt64).toInt32) hx hb d_Mo_product_91 rfl ?_
    have hE : res = ((((a.toInt64 &&& 4294967295) * (b.toInt64 &&& 4294967295)).toUInt64 >>> ((32 : Int32).toInt64.toUInt64 &&& Int64.toUInt64 63)).toInt64).toInt32 := hq.trans ((if_neg c1).trans ((if_neg c2).trans ((if_neg c3).trans ((if_pos c4).trans rfl))))
    exact retPi (x := ((((a.toInt64 &&& 4294967295) * (b.toInt64 &&& 4294967295)).toUInt64 >>> ((32 : Int32).toInt64.toUInt64 &&& Int64.toUInt64 63)).toInt64).toInt32) hx hb hr hS hE.symm d_Mo_product_92 hlocks
  by_cases c5 : f = 4
  · skip
    refine lv_tableIn (off := 77) (tgt := 93) hx hb d_Mo_product_16 (by rw [c5]; decide) (by rw [c5]; decide) (by rw [c5]; decide) (by decide) ?_
    refine lv_iload_n hx hb d_Mo_product_93 rfl (lv_at hl 4 rfl) ?_
    refine lv_if_ne (tgt := 101) hx hb d_Mo_product_94 (by decide) (fun c6 => ?_) (fun c6 => ?_)
    · skip
      refine lv_iload_n hx hb d_Mo_product_101 rfl (lv_at hl 3 rfl) ?_
      refine lv_i2l (v := a.toInt64) hx hb d_Mo_product_102 rfl ?_
      refine lv_iload_n hx hb d_Mo_product_103 rfl (lv_at hl 4 rfl) ?_
      refine lv_i2l (v := b.toInt64) hx hb d_Mo_product_104 rfl ?_
      refine lv_ldiv hx hb d_Mo_product_105 (pd_s (by assumption)) ?_
      refine lv_l2i (v := (a.toInt64 / b.toInt64).toInt32) hx hb d_Mo_product_106 rfl ?_
      have hE : res = (a.toInt64 / b.toInt64).toInt32 := hq.trans ((if_neg c1).trans ((if_neg c2).trans ((if_neg c3).trans ((if_neg c4).trans ((if_pos c5).trans ((if_neg c6).trans rfl))))))
      exact retPi (x := (a.toInt64 / b.toInt64).toInt32) hx hb hr hS hE.symm d_Mo_product_107 hlocks
    · skip
      refine lv_iconst (v := (-1)) hx hb d_Mo_product_97 (by decide) ?_
      refine lv_goto (tgt := 107) hx hb d_Mo_product_98 (by decide) ?_
      have hE : res = (-1) := hq.trans ((if_neg c1).trans ((if_neg c2).trans ((if_neg c3).trans ((if_neg c4).trans ((if_pos c5).trans ((if_pos c6).trans rfl))))))
      exact retPi (x := (-1)) hx hb hr hS hE.symm d_Mo_product_107 hlocks
  by_cases c7 : f = 5
  · skip
    refine lv_tableIn (off := 92) (tgt := 108) hx hb d_Mo_product_16 (by rw [c7]; decide) (by rw [c7]; decide) (by rw [c7]; decide) (by decide) ?_
    refine lv_iload_n hx hb d_Mo_product_108 rfl (lv_at hl 4 rfl) ?_
    refine lv_if_ne (tgt := 116) hx hb d_Mo_product_109 (by decide) (fun c8 => ?_) (fun c8 => ?_)
    · skip
      refine lv_lload_n hx hb d_Mo_product_116 rfl (lv_at hl 1 rfl) ?_
      refine lv_lload hx hb d_Mo_product_117 (lv_at hl 0 rfl) ?_
      refine lv_ldiv hx hb d_Mo_product_119 (pd_u (by assumption)) ?_
      refine lv_l2i (v := ((a.toInt64 &&& 4294967295) / (b.toInt64 &&& 4294967295)).toInt32) hx hb d_Mo_product_120 rfl ?_
      have hE : res = ((a.toInt64 &&& 4294967295) / (b.toInt64 &&& 4294967295)).toInt32 := hq.trans ((if_neg c1).trans ((if_neg c2).trans ((if_neg c3).trans ((if_neg c4).trans ((if_neg c5).trans ((if_pos c7).trans ((if_neg c8).trans rfl)))))))
      exact retPi (x := ((a.toInt64 &&& 4294967295) / (b.toInt64 &&& 4294967295)).toInt32) hx hb hr hS hE.symm d_Mo_product_121 hlocks
    · skip
      refine lv_iconst (v := (-1)) hx hb d_Mo_product_112 (by decide) ?_
      refine lv_goto (tgt := 121) hx hb d_Mo_product_113 (by decide) ?_
      have hE : res = (-1) := hq.trans ((if_neg c1).trans ((if_neg c2).trans ((if_neg c3).trans ((if_neg c4).trans ((if_neg c5).trans ((if_pos c7).trans ((if_pos c8).trans rfl)))))))
      exact retPi (x := (-1)) hx hb hr hS hE.symm d_Mo_product_121 hlocks
  by_cases c9 : f = 6
  · skip
    refine lv_tableIn (off := 106) (tgt := 122) hx hb d_Mo_product_16 (by rw [c9]; decide) (by rw [c9]; decide) (by rw [c9]; decide) (by decide) ?_
    refine lv_iload_n hx hb d_Mo_product_122 rfl (lv_at hl 4 rfl) ?_
    refine lv_if_ne (tgt := 130) hx hb d_Mo_product_123 (by decide) (fun c10 => ?_) (fun c10 => ?_)
    · skip
      refine lv_iload_n hx hb d_Mo_product_130 rfl (lv_at hl 3 rfl) ?_
      refine lv_i2l (v := a.toInt64) hx hb d_Mo_product_131 rfl ?_
      refine lv_iload_n hx hb d_Mo_product_132 rfl (lv_at hl 4 rfl) ?_
      refine lv_i2l (v := b.toInt64) hx hb d_Mo_product_133 rfl ?_
      refine lv_lrem hx hb d_Mo_product_134 (pd_s (by assumption)) ?_
      refine lv_l2i (v := (a.toInt64 - a.toInt64 / b.toInt64 * b.toInt64).toInt32) hx hb d_Mo_product_135 rfl ?_
      have hE : res = (a.toInt64 - a.toInt64 / b.toInt64 * b.toInt64).toInt32 := hq.trans ((if_neg c1).trans ((if_neg c2).trans ((if_neg c3).trans ((if_neg c4).trans ((if_neg c5).trans ((if_neg c7).trans ((if_pos c9).trans ((if_neg c10).trans rfl))))))))
      exact retPi (x := (a.toInt64 - a.toInt64 / b.toInt64 * b.toInt64).toInt32) hx hb hr hS hE.symm d_Mo_product_136 hlocks
    · skip
      refine lv_iload_n hx hb d_Mo_product_126 rfl (lv_at hl 3 rfl) ?_
      refine lv_goto (tgt := 136) hx hb d_Mo_product_127 (by decide) ?_
      have hE : res = a := hq.trans ((if_neg c1).trans ((if_neg c2).trans ((if_neg c3).trans ((if_neg c4).trans ((if_neg c5).trans ((if_neg c7).trans ((if_pos c9).trans ((if_pos c10).trans rfl))))))))
      exact retPi (x := a) hx hb hr hS hE.symm d_Mo_product_136 hlocks
  have nc1 := lv_neT c1 (a := 0) (by decide)
  have nc2 := lv_neT c2 (a := 1) (by decide)
  have nc3 := lv_neT c3 (a := 2) (by decide)
  have nc4 := lv_neT c4 (a := 3) (by decide)
  have nc5 := lv_neT c5 (a := 4) (by decide)
  have nc7 := lv_neT c7 (a := 5) (by decide)
  have nc9 := lv_neT c9 (a := 6) (by decide)
  refine lv_tableOut (tgt := 137) hx hb d_Mo_product_16 (by omega) (by decide) ?_
  refine lv_iload_n hx hb d_Mo_product_137 rfl (lv_at hl 4 rfl) ?_
  refine lv_if_ne (tgt := 145) hx hb d_Mo_product_138 (by decide) (fun c11 => ?_) (fun c11 => ?_)
  · skip
    refine lv_lload_n hx hb d_Mo_product_145 rfl (lv_at hl 1 rfl) ?_
    refine lv_lload hx hb d_Mo_product_146 (lv_at hl 0 rfl) ?_
    refine lv_lrem hx hb d_Mo_product_148 (pd_u (by assumption)) ?_
    refine lv_l2i (v := ((a.toInt64 &&& 4294967295) - (a.toInt64 &&& 4294967295) / (b.toInt64 &&& 4294967295) * (b.toInt64 &&& 4294967295)).toInt32) hx hb d_Mo_product_149 rfl ?_
    have hE : res = ((a.toInt64 &&& 4294967295) - (a.toInt64 &&& 4294967295) / (b.toInt64 &&& 4294967295) * (b.toInt64 &&& 4294967295)).toInt32 := hq.trans ((if_neg c1).trans ((if_neg c2).trans ((if_neg c3).trans ((if_neg c4).trans ((if_neg c5).trans ((if_neg c7).trans ((if_neg c9).trans ((if_neg c11).trans rfl))))))))
    exact retPi (x := ((a.toInt64 &&& 4294967295) - (a.toInt64 &&& 4294967295) / (b.toInt64 &&& 4294967295) * (b.toInt64 &&& 4294967295)).toInt32) hx hb hr hS hE.symm d_Mo_product_150 hlocks
  · skip
    refine lv_iload_n hx hb d_Mo_product_141 rfl (lv_at hl 3 rfl) ?_
    refine lv_goto (tgt := 150) hx hb d_Mo_product_142 (by decide) ?_
    have hE : res = a := hq.trans ((if_neg c1).trans ((if_neg c2).trans ((if_neg c3).trans ((if_neg c4).trans ((if_neg c5).trans ((if_neg c7).trans ((if_neg c9).trans ((if_pos c11).trans rfl))))))))
    exact retPi (x := a) hx hb hr hS hE.symm d_Mo_product_150 hlocks
def w_Mo_both : List Cond := .code y_Mo_both b_Mo_both 7 (some .boolean) :: ALLW
def rm_Mo_both : Room := { frames := 22, cells := 0, slots := 0, locals := 658 }
theorem d_Mo_both_0 : decode b_Mo_both 0 = .ok (.iload_n 2, 1) := by decide +kernel
theorem d_Mo_both_1 : decode b_Mo_both 1 = .ok (.iconst 1, 1) := by decide +kernel
theorem d_Mo_both_2 : decode b_Mo_both 2 = .ok (.if_icmp .ne 67, 3) := by decide +kernel
theorem d_Mo_both_5 : decode b_Mo_both 5 = .ok (.aload_n 0, 1) := by decide +kernel
theorem d_Mo_both_6 : decode b_Mo_both 6 = .ok (.iload 4, 2) := by decide +kernel
theorem d_Mo_both_8 : decode b_Mo_both 8 = .ok (.bipush 32, 2) := by decide +kernel
theorem d_Mo_both_10 : decode b_Mo_both 10 = .ok (.invokevirtual 143, 3) := by decide +kernel
theorem d_Mo_both_13 : decode b_Mo_both 13 = .ok (.ifCond .ne 14, 3) := by decide +kernel
theorem d_Mo_both_16 : decode b_Mo_both 16 = .ok (.aload_n 0, 1) := by decide +kernel
theorem d_Mo_both_17 : decode b_Mo_both 17 = .ok (.iload 5, 2) := by decide +kernel
theorem d_Mo_both_19 : decode b_Mo_both 19 = .ok (.bipush 32, 2) := by decide +kernel
theorem d_Mo_both_21 : decode b_Mo_both 21 = .ok (.invokevirtual 143, 3) := by decide +kernel
theorem d_Mo_both_24 : decode b_Mo_both 24 = .ok (.ifCond .eq 7, 3) := by decide +kernel
theorem d_Mo_both_27 : decode b_Mo_both 27 = .ok (.iconst 1, 1) := by decide +kernel
theorem d_Mo_both_28 : decode b_Mo_both 28 = .ok (.goto 4, 3) := by decide +kernel
theorem d_Mo_both_31 : decode b_Mo_both 31 = .ok (.iconst 0, 1) := by decide +kernel
theorem d_Mo_both_32 : decode b_Mo_both 32 = .ok (.istore 6, 2) := by decide +kernel
theorem d_Mo_both_34 : decode b_Mo_both 34 = .ok (.aload_n 0, 1) := by decide +kernel
theorem d_Mo_both_35 : decode b_Mo_both 35 = .ok (.iload_n 3, 1) := by decide +kernel
theorem d_Mo_both_36 : decode b_Mo_both 36 = .ok (.iload_n 1, 1) := by decide +kernel
theorem d_Mo_both_37 : decode b_Mo_both 37 = .ok (.aload_n 0, 1) := by decide +kernel
theorem d_Mo_both_38 : decode b_Mo_both 38 = .ok (.getfield 17, 3) := by decide +kernel
theorem d_Mo_both_41 : decode b_Mo_both 41 = .ok (.iload 4, 2) := by decide +kernel
theorem d_Mo_both_43 : decode b_Mo_both 43 = .ok (.iaload, 1) := by decide +kernel
theorem d_Mo_both_44 : decode b_Mo_both 44 = .ok (.aload_n 0, 1) := by decide +kernel
theorem d_Mo_both_45 : decode b_Mo_both 45 = .ok (.getfield 17, 3) := by decide +kernel
theorem d_Mo_both_48 : decode b_Mo_both 48 = .ok (.iload 5, 2) := by decide +kernel
theorem d_Mo_both_50 : decode b_Mo_both 50 = .ok (.iaload, 1) := by decide +kernel
theorem d_Mo_both_51 : decode b_Mo_both 51 = .ok (.invokestatic 183, 3) := by decide +kernel
theorem d_Mo_both_54 : decode b_Mo_both 54 = .ok (.iload 6, 2) := by decide +kernel
theorem d_Mo_both_56 : decode b_Mo_both 56 = .ok (.ifCond .eq 7, 3) := by decide +kernel
theorem d_Mo_both_59 : decode b_Mo_both 59 = .ok (.iconst (-1), 1) := by decide +kernel
theorem d_Mo_both_60 : decode b_Mo_both 60 = .ok (.goto 4, 3) := by decide +kernel
theorem d_Mo_both_63 : decode b_Mo_both 63 = .ok (.iconst 0, 1) := by decide +kernel
theorem d_Mo_both_64 : decode b_Mo_both 64 = .ok (.invokevirtual 132, 3) := by decide +kernel
theorem d_Mo_both_67 : decode b_Mo_both 67 = .ok (.iconst 1, 1) := by decide +kernel
theorem d_Mo_both_68 : decode b_Mo_both 68 = .ok (.ireturn, 1) := by decide +kernel
theorem d_Mo_both_69 : decode b_Mo_both 69 = .ok (.iload_n 2, 1) := by decide +kernel
theorem d_Mo_both_70 : decode b_Mo_both 70 = .ok (.ifCond .eq 20, 3) := by decide +kernel
theorem d_Mo_both_73 : decode b_Mo_both 73 = .ok (.iload_n 2, 1) := by decide +kernel
theorem d_Mo_both_74 : decode b_Mo_both 74 = .ok (.bipush 32, 2) := by decide +kernel
theorem d_Mo_both_76 : decode b_Mo_both 76 = .ok (.if_icmp .ne 12, 3) := by decide +kernel
theorem d_Mo_both_79 : decode b_Mo_both 79 = .ok (.iload_n 1, 1) := by decide +kernel
theorem d_Mo_both_80 : decode b_Mo_both 80 = .ok (.ifCond .eq 10, 3) := by decide +kernel
theorem d_Mo_both_83 : decode b_Mo_both 83 = .ok (.iload_n 1, 1) := by decide +kernel
theorem d_Mo_both_84 : decode b_Mo_both 84 = .ok (.iconst 5, 1) := by decide +kernel
theorem d_Mo_both_85 : decode b_Mo_both 85 = .ok (.if_icmp .eq 5, 3) := by decide +kernel
theorem d_Mo_both_88 : decode b_Mo_both 88 = .ok (.iconst 0, 1) := by decide +kernel
theorem d_Mo_both_89 : decode b_Mo_both 89 = .ok (.ireturn, 1) := by decide +kernel
theorem d_Mo_both_90 : decode b_Mo_both 90 = .ok (.iload_n 1, 1) := by decide +kernel
theorem d_Mo_both_91 : decode b_Mo_both 91 = .ok (.iconst 1, 1) := by decide +kernel
theorem d_Mo_both_92 : decode b_Mo_both 92 = .ok (.if_icmp .ne 17, 3) := by decide +kernel
theorem d_Mo_both_95 : decode b_Mo_both 95 = .ok (.aload_n 0, 1) := by decide +kernel
theorem d_Mo_both_96 : decode b_Mo_both 96 = .ok (.iconst 0, 1) := by decide +kernel
theorem d_Mo_both_97 : decode b_Mo_both 97 = .ok (.iload_n 3, 1) := by decide +kernel
theorem d_Mo_both_98 : decode b_Mo_both 98 = .ok (.iload 4, 2) := by decide +kernel
theorem d_Mo_both_100 : decode b_Mo_both 100 = .ok (.iload 5, 2) := by decide +kernel
theorem d_Mo_both_102 : decode b_Mo_both 102 = .ok (.iconst 1, 1) := by decide +kernel
theorem d_Mo_both_103 : decode b_Mo_both 103 = .ok (.invokevirtual 156, 3) := by decide +kernel
theorem d_Mo_both_106 : decode b_Mo_both 106 = .ok (.goto 73, 3) := by decide +kernel
theorem d_Mo_both_109 : decode b_Mo_both 109 = .ok (.iload_n 1, 1) := by decide +kernel
theorem d_Mo_both_110 : decode b_Mo_both 110 = .ok (.iconst 5, 1) := by decide +kernel
theorem d_Mo_both_111 : decode b_Mo_both 111 = .ok (.if_icmp .ne 25, 3) := by decide +kernel
theorem d_Mo_both_114 : decode b_Mo_both 114 = .ok (.aload_n 0, 1) := by decide +kernel
theorem d_Mo_both_115 : decode b_Mo_both 115 = .ok (.iload_n 2, 1) := by decide +kernel
theorem d_Mo_both_116 : decode b_Mo_both 116 = .ok (.ifCond .ne 7, 3) := by decide +kernel
theorem d_Mo_both_119 : decode b_Mo_both 119 = .ok (.iconst 1, 1) := by decide +kernel
theorem d_Mo_both_120 : decode b_Mo_both 120 = .ok (.goto 4, 3) := by decide +kernel
theorem d_Mo_both_123 : decode b_Mo_both 123 = .ok (.iconst 2, 1) := by decide +kernel
theorem d_Mo_both_124 : decode b_Mo_both 124 = .ok (.iload_n 3, 1) := by decide +kernel
theorem d_Mo_both_125 : decode b_Mo_both 125 = .ok (.iload 4, 2) := by decide +kernel
theorem d_Mo_both_127 : decode b_Mo_both 127 = .ok (.iload 5, 2) := by decide +kernel
theorem d_Mo_both_129 : decode b_Mo_both 129 = .ok (.iconst 1, 1) := by decide +kernel
theorem d_Mo_both_130 : decode b_Mo_both 130 = .ok (.invokevirtual 156, 3) := by decide +kernel
theorem d_Mo_both_133 : decode b_Mo_both 133 = .ok (.goto 46, 3) := by decide +kernel
theorem d_Mo_both_136 : decode b_Mo_both 136 = .ok (.aload_n 0, 1) := by decide +kernel
theorem d_Mo_both_137 : decode b_Mo_both 137 = .ok (.iload_n 1, 1) := by decide +kernel
theorem d_Mo_both_138 : decode b_Mo_both 138 = .ok (.iload_n 2, 1) := by decide +kernel
theorem d_Mo_both_139 : decode b_Mo_both 139 = .ok (.bipush 32, 2) := by decide +kernel
theorem d_Mo_both_141 : decode b_Mo_both 141 = .ok (.if_icmp .ne 7, 3) := by decide +kernel
theorem d_Mo_both_144 : decode b_Mo_both 144 = .ok (.iconst 1, 1) := by decide +kernel
theorem d_Mo_both_145 : decode b_Mo_both 145 = .ok (.goto 4, 3) := by decide +kernel
theorem d_Mo_both_148 : decode b_Mo_both 148 = .ok (.iconst 0, 1) := by decide +kernel
theorem d_Mo_both_149 : decode b_Mo_both 149 = .ok (.iload_n 3, 1) := by decide +kernel
theorem d_Mo_both_150 : decode b_Mo_both 150 = .ok (.aload_n 0, 1) := by decide +kernel
theorem d_Mo_both_151 : decode b_Mo_both 151 = .ok (.getfield 17, 3) := by decide +kernel
theorem d_Mo_both_154 : decode b_Mo_both 154 = .ok (.iload 4, 2) := by decide +kernel
theorem d_Mo_both_156 : decode b_Mo_both 156 = .ok (.iaload, 1) := by decide +kernel
theorem d_Mo_both_157 : decode b_Mo_both 157 = .ok (.aload_n 0, 1) := by decide +kernel
theorem d_Mo_both_158 : decode b_Mo_both 158 = .ok (.iload 4, 2) := by decide +kernel
theorem d_Mo_both_160 : decode b_Mo_both 160 = .ok (.invokevirtual 160, 3) := by decide +kernel
theorem d_Mo_both_163 : decode b_Mo_both 163 = .ok (.aload_n 0, 1) := by decide +kernel
theorem d_Mo_both_164 : decode b_Mo_both 164 = .ok (.getfield 17, 3) := by decide +kernel
theorem d_Mo_both_167 : decode b_Mo_both 167 = .ok (.iload 5, 2) := by decide +kernel
theorem d_Mo_both_169 : decode b_Mo_both 169 = .ok (.iaload, 1) := by decide +kernel
theorem d_Mo_both_170 : decode b_Mo_both 170 = .ok (.aload_n 0, 1) := by decide +kernel
theorem d_Mo_both_171 : decode b_Mo_both 171 = .ok (.iload 5, 2) := by decide +kernel
theorem d_Mo_both_173 : decode b_Mo_both 173 = .ok (.invokevirtual 160, 3) := by decide +kernel
theorem d_Mo_both_176 : decode b_Mo_both 176 = .ok (.invokevirtual 162, 3) := by decide +kernel
theorem d_Mo_both_179 : decode b_Mo_both 179 = .ok (.iconst 1, 1) := by decide +kernel
theorem d_Mo_both_180 : decode b_Mo_both 180 = .ok (.ireturn, 1) := by decide +kernel
def f_Mo_both_90 (f : Int32) (g : Int32) (d : Nat) (a : Nat) (b : Nat) (u : S5) : Bool × S5 := if f = 1 then (true, f_Mo_shift 0 d a b true u) else if f = 5 then (let x6 : Int32 := if g = 0 then 1 else 2; (true, f_Mo_shift x6 d a b true u)) else let x4 : Bool := if g = 32 then true else false; (true, f_Mo_sum1 f x4 d (aI u 2 a) (f_Mo_dark a u) (aI u 2 b) (f_Mo_dark b u) u)
def f_Mo_both (f : Int32) (g : Int32) (d : Nat) (a : Nat) (b : Nat) (u : S5) : Bool × S5 := if g = 1 then (let x12 : Bool := if (f_Mo_anyDark a 32 u) = true then true else if (f_Mo_anyDark b 32 u) = true then true else false; let x13 : Int32 := if x12 = true then (-1) else 0; (true, f_Mo_give d (f_Mo_product f (aI u 2 a) (aI u 2 b)) x13 u)) else if g = 0 then f_Mo_both_90 f g d a b u else if g = 32 then (if f = 0 then f_Mo_both_90 f g d a b u else if f = 5 then f_Mo_both_90 f g d a b u else (false, u)) else (false, u)
set_option maxHeartbeats 8000000 in
set_option maxRecDepth 100000 in
theorem c_Mo_both (l : Launch) (dC : Nat → ClassId) (dI : Nat → Nat → Nat) (cI cZ : ClassId) (ad : Nat → Nat) (u : S5) (f : Int32) (g : Int32) (d : Nat) (a : Nat) (b : Nat) (hd : d < 32) (ha : a < 32) (hb_ : b < 32) (sz : Nat) : Met l y_Mo_both w_Mo_both rm_Mo_both (PreW (dC, dI) classes [(cI, .int), (cZ, .boolean)] (wM cI cZ ad) u sz [.ref (ad 0), .int f, .int g, .int (nI d), .int (nI a), .int (nI b)]) (QWi (dC, dI) classes [(cI, .int), (cZ, .boolean)] (wM cI cZ ad) (va_A (wM cI cZ ad u) sz) (b2i (f_Mo_both f g d a b u).1) (f_Mo_both f g d a b u).2) 0 0 (va_A (wM cI cZ ad u) sz) := by
  generalize hres : f_Mo_both f g d a b u = res
  refine Met.ofW (cc := b_Mo_both) (maxL := 7) (ret := (some .boolean)) (by decide) rfl ?_
  intro p e s m args below meth c s₁ B hml hv
  obtain ⟨rfl, rfl, hP, hK, hD0⟩ := hv
  have hx := B.exec
  have hb := B.bytes
  have hr := B.returns
  have hts : ∀ w9 ∈ ALLW, w9.before ([.ref (ad 0), .int f, .int g, .int (nI d), .int (nI a), .int (nI b)] : List Value).toArray s = true := fun w9 h => atoms_spec (ws := w_Mo_both) B.pre w9 (List.mem_cons_of_mem _ h)
  have hown : s.vm.findClass R_Mo = some m.cls := findClass_of_methodNamed B.named
  have hlocks := B.notSynchronized
  have hD := hD0.self (sz := s.heap.size)
  generalize hAe : va_A (wM cI cZ ad u) s.heap.size = A at hD ⊢
  have hA : ∀ q : Nat, s.heap.size ≤ q → A q := fun q h => by rw [← hAe]; exact Or.inr h
  have hS : va_S A s.heap s.heap [] := va_S.rf
  have hl := lv_entry ([.ref (ad 0), .int f, .int g, .int (nI d), .int (nI a), .int (nI b)]) (n := 7) (Nat.le_of_ble_eq_true rfl)
  rw [lg_entry_eq]
  generalize (lg_sl ([.ref (ad 0), .int f, .int g, .int (nI d), .int (nI a), .int (nI b)]) ++ List.replicate (7 - (lg_sl ([.ref (ad 0), .int f, .int g, .int (nI d), .int (nI a), .int (nI b)])).length) Slot.unset).toArray = ls at hl ⊢
  have hl : lv_has ls 7 [(0, .ref (ad 0)), (1, .int f), (2, .int g), (3, .int (nI d)), (4, .int (nI a)), (5, .int (nI b))] := hl
  have hq := hres.symm
  skip
  refine lv_iload_n hx hb d_Mo_both_0 rfl (lv_at hl 2 rfl) ?_
  refine lv_iconst (v := 1) hx hb d_Mo_both_1 (by decide) ?_
  refine lv_icmp_ne (tgt := 69) hx hb d_Mo_both_2 (by decide) (fun c1 => ?_) (fun c1 => ?_)
  · skip
    refine lv_iload_n hx hb d_Mo_both_69 rfl (lv_at hl 2 rfl) ?_
    have J90 : ∀  (H : Heap) (locs : List Loc) (ls : Array Slot), res = f_Mo_both_90 f g d a b u → va_P (dC, dI) classes (wM cI cZ ad u) H → va_D A (wM cI cZ ad u) → va_S A s.heap H locs → lv_has ls 7 [(0, .ref (ad 0)), (1, .int f), (2, .int g), (3, .int (nI d)), (4, .int (nI a)), (5, .int (nI b))] → W p l e (headSpec w_Mo_both rm_Mo_both).room s m ([.ref (ad 0), .int f, .int g, .int (nI d), .int (nI a), .int (nI b)] : List Value).toArray below meth c H locs 0 0 (MQ below (QWi (dC, dI) classes [(cI, .int), (cZ, .boolean)] (wM cI cZ ad) A (b2i res.1) res.2) ([.ref (ad 0), .int f, .int g, .int (nI d), .int (nI a), .int (nI b)] : List Value).toArray s 0 0 A) (F0 m 90 ls []) := by
      intro  H locs ls hq hP hD hS hl
      refine lv_iload_n hx hb d_Mo_both_90 rfl (lv_at hl 1 rfl) ?_
      refine lv_iconst (v := 1) hx hb d_Mo_both_91 (by decide) ?_
      refine lv_icmp_ne (tgt := 109) hx hb d_Mo_both_92 (by decide) (fun c2 => ?_) (fun c2 => ?_)
      · skip
        refine lv_iload_n hx hb d_Mo_both_109 rfl (lv_at hl 1 rfl) ?_
        refine lv_iconst (v := 5) hx hb d_Mo_both_110 (by decide) ?_
        refine lv_icmp_ne (tgt := 136) hx hb d_Mo_both_111 (by decide) (fun c3 => ?_) (fun c3 => ?_)
        · skip
          refine lv_aload_n hx hb d_Mo_both_136 rfl (lv_at hl 0 rfl) ?_
          refine lv_iload_n hx hb d_Mo_both_137 rfl (lv_at hl 1 rfl) ?_
          refine lv_iload_n hx hb d_Mo_both_138 rfl (lv_at hl 2 rfl) ?_
          refine lv_bipush (v := 32) hx hb d_Mo_both_139 (by decide) ?_
          have J149 : ∀ (x4 : Bool) (H : Heap) (locs : List Loc), x4 = (if g = 32 then true else false) → va_P (dC, dI) classes (wM cI cZ ad u) H → va_D A (wM cI cZ ad u) → va_S A s.heap H locs → W p l e (headSpec w_Mo_both rm_Mo_both).room s m ([.ref (ad 0), .int f, .int g, .int (nI d), .int (nI a), .int (nI b)] : List Value).toArray below meth c H locs 0 0 (MQ below (QWi (dC, dI) classes [(cI, .int), (cZ, .boolean)] (wM cI cZ ad) A (b2i res.1) res.2) ([.ref (ad 0), .int f, .int g, .int (nI d), .int (nI a), .int (nI b)] : List Value).toArray s 0 0 A) (F0 m 149 ls [.int (b2i x4), .int f, .ref (ad 0)]) := by
            intro x4 H locs ex4 hP hD hS
            refine lv_iload_n hx hb d_Mo_both_149 rfl (lv_at hl 3 rfl) ?_
            refine lv_aload_n hx hb d_Mo_both_150 rfl (lv_at hl 0 rfl) ?_
            refine va_get (D := (dC, dI)) (ci := 8) (v := .ref (ad 3)) (C := R_Mo) (T := F_Mo) (N := 31) hx hb hts in_Mo hown hK hP 0 rfl rfl 3 (by decide) (hts _ m_13_33) (fun _ h9 => h9) rfl d_Mo_both_151 ?_
            refine lv_iload hx hb d_Mo_both_154 (lv_at hl 4 rfl) ?_
            refine aldM_x (u := u) (v := aI u 2 a) hx hb hK hP (by omega) rfl d_Mo_both_156 ?_
            refine lv_aload_n hx hb d_Mo_both_157 rfl (lv_at hl 0 rfl) ?_
            refine lv_iload hx hb d_Mo_both_158 (lv_at hl 4 rfl) ?_
            refine callWi (va_runV (As := [.int (nI a)]) (rest := [.int (aI u 2 a), .int (nI d), .int (b2i x4), .int f, .ref (ad 0)]) ⟨hx, hb, hml, hown, hts⟩ (c_Mo_dark l dC dI cI cZ ad u a (by first | assumption | omega) H.size) (cwV 1 hts (goodV m_16_35 m_16_36 m_19_27 m_0_12 m_16_37) rfl rfl rfl (by decide +kernel) ⟨Nat.le_of_ble_eq_true rfl, Nat.le_of_ble_eq_true rfl⟩) ⟨preW_blind, va_recv hK hP (ci := 8) (q0 := 0) rfl rfl, preW_ok hP hD hK⟩ rfl rfl hl.1 rfl (lv_room (Nat.le_of_ble_eq_true rfl)) d_Mo_both_160 ⟨Nat.zero_le _, Nat.zero_le _⟩) hP hD hS hA (fun H locs hP hD hS => ?_)
            refine lv_aload_n hx hb d_Mo_both_163 rfl (lv_at hl 0 rfl) ?_
            refine va_get (D := (dC, dI)) (ci := 8) (v := .ref (ad 3)) (C := R_Mo) (T := F_Mo) (N := 31) hx hb hts in_Mo hown hK hP 0 rfl rfl 3 (by decide) (hts _ m_13_33) (fun _ h9 => h9) rfl d_Mo_both_164 ?_
            refine lv_iload hx hb d_Mo_both_167 (lv_at hl 5 rfl) ?_
            refine aldM_x (u := u) (v := aI u 2 b) hx hb hK hP (by omega) rfl d_Mo_both_169 ?_
            refine lv_aload_n hx hb d_Mo_both_170 rfl (lv_at hl 0 rfl) ?_
            refine lv_iload hx hb d_Mo_both_171 (lv_at hl 5 rfl) ?_
            refine callWi (va_runV (As := [.int (nI b)]) (rest := [.int (aI u 2 b), .int (f_Mo_dark a u), .int (aI u 2 a), .int (nI d), .int (b2i x4), .int f, .ref (ad 0)]) ⟨hx, hb, hml, hown, hts⟩ (c_Mo_dark l dC dI cI cZ ad u b (by first | assumption | omega) H.size) (cwV 1 hts (goodV m_16_35 m_16_36 m_19_27 m_0_12 m_16_37) rfl rfl rfl (by decide +kernel) ⟨Nat.le_of_ble_eq_true rfl, Nat.le_of_ble_eq_true rfl⟩) ⟨preW_blind, va_recv hK hP (ci := 8) (q0 := 0) rfl rfl, preW_ok hP hD hK⟩ rfl rfl hl.1 rfl (lv_room (Nat.le_of_ble_eq_true rfl)) d_Mo_both_173 ⟨Nat.zero_le _, Nat.zero_le _⟩) hP hD hS hA (fun H locs hP hD hS => ?_)
            refine callWv (va_runV (As := [.int f, .int (b2i x4), .int (nI d), .int (aI u 2 a), .int (f_Mo_dark a u), .int (aI u 2 b), .int (f_Mo_dark b u)]) (rest := []) ⟨hx, hb, hml, hown, hts⟩ (c_Mo_sum1 l dC dI cI cZ ad u f x4 d (aI u 2 a) (f_Mo_dark a u) (aI u 2 b) (f_Mo_dark b u) (by first | assumption | omega) H.size) (cwV 7 hts (goodV m_16_38 m_16_39 m_19_28 m_0_12 m_17_0) rfl rfl rfl (by decide +kernel) ⟨Nat.le_of_ble_eq_true rfl, Nat.le_of_ble_eq_true rfl⟩) ⟨preW_blind, va_recv hK hP (ci := 8) (q0 := 0) rfl rfl, preW_ok hP hD hK⟩ rfl rfl hl.1 rfl (lv_room (Nat.le_of_ble_eq_true rfl)) d_Mo_both_176 ⟨Nat.zero_le _, Nat.zero_le _⟩) hP hD hS hA (fun H locs hP hD hS => ?_)
            refine lv_iconst (v := 1) hx hb d_Mo_both_179 (by decide) ?_
            have hE : res = (true, f_Mo_sum1 f x4 d (aI u 2 a) (f_Mo_dark a u) (aI u 2 b) (f_Mo_dark b u) u) := (by subst ex4; exact hq.trans ((if_neg c2).trans ((if_neg c3).trans rfl)))
            exact retWb (x := true) hx hb hr hP hK hD hS (congrArg Prod.fst hE).symm (congrArg Prod.snd hE).symm d_Mo_both_180 hlocks
          refine lv_icmp_ne (tgt := 148) hx hb d_Mo_both_141 (by decide) (fun c5 => ?_) (fun c5 => ?_)
          · skip
            refine lv_iconst (v := 0) hx hb d_Mo_both_148 (by decide) ?_
            exact J149 false _ _ (Eq.symm ((if_neg c5).trans (rfl))) hP hD hS
          · skip
            refine lv_iconst (v := 1) hx hb d_Mo_both_144 (by decide) ?_
            refine lv_goto (tgt := 149) hx hb d_Mo_both_145 (by decide) ?_
            exact J149 true _ _ (Eq.symm ((if_pos c5).trans (rfl))) hP hD hS
        · skip
          refine lv_aload_n hx hb d_Mo_both_114 rfl (lv_at hl 0 rfl) ?_
          refine lv_iload_n hx hb d_Mo_both_115 rfl (lv_at hl 2 rfl) ?_
          have J124 : ∀ (x6 : Int32) (H : Heap) (locs : List Loc), x6 = (if g = 0 then 1 else 2) → va_P (dC, dI) classes (wM cI cZ ad u) H → va_D A (wM cI cZ ad u) → va_S A s.heap H locs → W p l e (headSpec w_Mo_both rm_Mo_both).room s m ([.ref (ad 0), .int f, .int g, .int (nI d), .int (nI a), .int (nI b)] : List Value).toArray below meth c H locs 0 0 (MQ below (QWi (dC, dI) classes [(cI, .int), (cZ, .boolean)] (wM cI cZ ad) A (b2i res.1) res.2) ([.ref (ad 0), .int f, .int g, .int (nI d), .int (nI a), .int (nI b)] : List Value).toArray s 0 0 A) (F0 m 124 ls [.int x6, .ref (ad 0)]) := by
            intro x6 H locs ex6 hP hD hS
            refine lv_iload_n hx hb d_Mo_both_124 rfl (lv_at hl 3 rfl) ?_
            refine lv_iload hx hb d_Mo_both_125 (lv_at hl 4 rfl) ?_
            refine lv_iload hx hb d_Mo_both_127 (lv_at hl 5 rfl) ?_
            refine lv_iconst (v := 1) hx hb d_Mo_both_129 (by decide) ?_
            refine callWv (va_runV (As := [.int x6, .int (nI d), .int (nI a), .int (nI b), .int (b2i true)]) (rest := []) ⟨hx, hb, hml, hown, hts⟩ (c_Mo_shift l dC dI cI cZ ad u x6 d a b true (by first | assumption | omega) (by first | assumption | omega) (by first | assumption | omega) H.size) (cwV 5 hts (goodV m_16_32 m_16_33 m_19_26 m_0_12 m_16_34) rfl rfl rfl (by decide +kernel) ⟨Nat.le_of_ble_eq_true rfl, Nat.le_of_ble_eq_true rfl⟩) ⟨preW_blind, va_recv hK hP (ci := 8) (q0 := 0) rfl rfl, preW_ok hP hD hK⟩ rfl rfl hl.1 rfl (lv_room (Nat.le_of_ble_eq_true rfl)) d_Mo_both_130 ⟨Nat.zero_le _, Nat.zero_le _⟩) hP hD hS hA (fun H locs hP hD hS => ?_)
            refine lv_goto (tgt := 179) hx hb d_Mo_both_133 (by decide) ?_
            refine lv_iconst (v := 1) hx hb d_Mo_both_179 (by decide) ?_
            have hE : res = (true, f_Mo_shift x6 d a b true u) := (by subst ex6; exact hq.trans ((if_neg c2).trans ((if_pos c3).trans rfl)))
            exact retWb (x := true) hx hb hr hP hK hD hS (congrArg Prod.fst hE).symm (congrArg Prod.snd hE).symm d_Mo_both_180 hlocks
          refine lv_if_ne (tgt := 123) hx hb d_Mo_both_116 (by decide) (fun c7 => ?_) (fun c7 => ?_)
          · skip
            refine lv_iconst (v := 2) hx hb d_Mo_both_123 (by decide) ?_
            exact J124 2 _ _ (Eq.symm ((if_neg c7).trans (rfl))) hP hD hS
          · skip
            refine lv_iconst (v := 1) hx hb d_Mo_both_119 (by decide) ?_
            refine lv_goto (tgt := 124) hx hb d_Mo_both_120 (by decide) ?_
            exact J124 1 _ _ (Eq.symm ((if_pos c7).trans (rfl))) hP hD hS
      · skip
        refine lv_aload_n hx hb d_Mo_both_95 rfl (lv_at hl 0 rfl) ?_
        refine lv_iconst (v := 0) hx hb d_Mo_both_96 (by decide) ?_
        refine lv_iload_n hx hb d_Mo_both_97 rfl (lv_at hl 3 rfl) ?_
        refine lv_iload hx hb d_Mo_both_98 (lv_at hl 4 rfl) ?_
        refine lv_iload hx hb d_Mo_both_100 (lv_at hl 5 rfl) ?_
        refine lv_iconst (v := 1) hx hb d_Mo_both_102 (by decide) ?_
        refine callWv (va_runV (As := [.int 0, .int (nI d), .int (nI a), .int (nI b), .int (b2i true)]) (rest := []) ⟨hx, hb, hml, hown, hts⟩ (c_Mo_shift l dC dI cI cZ ad u 0 d a b true (by first | assumption | omega) (by first | assumption | omega) (by first | assumption | omega) H.size) (cwV 5 hts (goodV m_16_32 m_16_33 m_19_26 m_0_12 m_16_34) rfl rfl rfl (by decide +kernel) ⟨Nat.le_of_ble_eq_true rfl, Nat.le_of_ble_eq_true rfl⟩) ⟨preW_blind, va_recv hK hP (ci := 8) (q0 := 0) rfl rfl, preW_ok hP hD hK⟩ rfl rfl hl.1 rfl (lv_room (Nat.le_of_ble_eq_true rfl)) d_Mo_both_103 ⟨Nat.zero_le _, Nat.zero_le _⟩) hP hD hS hA (fun H locs hP hD hS => ?_)
        refine lv_goto (tgt := 179) hx hb d_Mo_both_106 (by decide) ?_
        refine lv_iconst (v := 1) hx hb d_Mo_both_179 (by decide) ?_
        have hE : res = (true, f_Mo_shift 0 d a b true u) := hq.trans ((if_pos c2).trans rfl)
        exact retWb (x := true) hx hb hr hP hK hD hS (congrArg Prod.fst hE).symm (congrArg Prod.snd hE).symm d_Mo_both_180 hlocks
    refine lv_if_eq (tgt := 90) hx hb d_Mo_both_70 (by decide) (fun c8 => ?_) (fun c8 => ?_)
    · skip
      exact J90  _ _ _ (hq.trans ((if_neg c1).trans ((if_pos c8).trans rfl))) hP hD hS (lv_sub hl [0, 1, 2, 3, 4, 5] rfl)
    · skip
      refine lv_iload_n hx hb d_Mo_both_73 rfl (lv_at hl 2 rfl) ?_
      refine lv_bipush (v := 32) hx hb d_Mo_both_74 (by decide) ?_
      refine lv_icmp_ne (tgt := 88) hx hb d_Mo_both_76 (by decide) (fun c9 => ?_) (fun c9 => ?_)
      · skip
        refine lv_iconst (v := 0) hx hb d_Mo_both_88 (by decide) ?_
        have hE : res = (false, u) := hq.trans ((if_neg c1).trans ((if_neg c8).trans ((if_neg c9).trans rfl)))
        exact retWb (x := false) hx hb hr hP hK hD hS (congrArg Prod.fst hE).symm (congrArg Prod.snd hE).symm d_Mo_both_89 hlocks
      · skip
        refine lv_iload_n hx hb d_Mo_both_79 rfl (lv_at hl 1 rfl) ?_
        refine lv_if_eq (tgt := 90) hx hb d_Mo_both_80 (by decide) (fun c10 => ?_) (fun c10 => ?_)
        · skip
          exact J90  _ _ _ (hq.trans ((if_neg c1).trans ((if_neg c8).trans ((if_pos c9).trans ((if_pos c10).trans rfl))))) hP hD hS (lv_sub hl [0, 1, 2, 3, 4, 5] rfl)
        · skip
          refine lv_iload_n hx hb d_Mo_both_83 rfl (lv_at hl 1 rfl) ?_
          refine lv_iconst (v := 5) hx hb d_Mo_both_84 (by decide) ?_
          refine lv_icmp_eq (tgt := 90) hx hb d_Mo_both_85 (by decide) (fun c11 => ?_) (fun c11 => ?_)
          · skip
            exact J90  _ _ _ (hq.trans ((if_neg c1).trans ((if_neg c8).trans ((if_pos c9).trans ((if_neg c10).trans ((if_pos c11).trans rfl)))))) hP hD hS (lv_sub hl [0, 1, 2, 3, 4, 5] rfl)
          · skip
            refine lv_iconst (v := 0) hx hb d_Mo_both_88 (by decide) ?_
            have hE : res = (false, u) := hq.trans ((if_neg c1).trans ((if_neg c8).trans ((if_pos c9).trans ((if_neg c10).trans ((if_neg c11).trans rfl)))))
            exact retWb (x := false) hx hb hr hP hK hD hS (congrArg Prod.fst hE).symm (congrArg Prod.snd hE).symm d_Mo_both_89 hlocks
  · skip
    refine lv_aload_n hx hb d_Mo_both_5 rfl (lv_at hl 0 rfl) ?_
    refine lv_iload hx hb d_Mo_both_6 (lv_at hl 4 rfl) ?_
    refine lv_bipush (v := nI 32) hx hb d_Mo_both_8 (by decide) ?_
    refine callWi (va_runV (As := [.int (nI a), .int (nI 32)]) (rest := []) ⟨hx, hb, hml, hown, hts⟩ (c_Mo_anyDark l dC dI cI cZ ad u a 32 (by first | assumption | omega) (by first | assumption | omega) s.heap.size) (cwV 2 hts (goodV m_16_16 m_16_17 m_19_22 m_0_12 m_16_18) rfl rfl rfl (by decide +kernel) ⟨Nat.le_of_ble_eq_true rfl, Nat.le_of_ble_eq_true rfl⟩) ⟨preW_blind, va_recv hK hP (ci := 8) (q0 := 0) rfl rfl, preW_ok hP hD hK⟩ rfl rfl hl.1 rfl (lv_room (Nat.le_of_ble_eq_true rfl)) d_Mo_both_10 ⟨Nat.zero_le _, Nat.zero_le _⟩) hP hD hS hA (fun H locs hP hD hS => ?_)
    have J32 : ∀ (x12 : Bool) (H : Heap) (locs : List Loc), x12 = (if (f_Mo_anyDark a 32 u) = true then true else if (f_Mo_anyDark b 32 u) = true then true else false) → va_P (dC, dI) classes (wM cI cZ ad u) H → va_D A (wM cI cZ ad u) → va_S A s.heap H locs → W p l e (headSpec w_Mo_both rm_Mo_both).room s m ([.ref (ad 0), .int f, .int g, .int (nI d), .int (nI a), .int (nI b)] : List Value).toArray below meth c H locs 0 0 (MQ below (QWi (dC, dI) classes [(cI, .int), (cZ, .boolean)] (wM cI cZ ad) A (b2i res.1) res.2) ([.ref (ad 0), .int f, .int g, .int (nI d), .int (nI a), .int (nI b)] : List Value).toArray s 0 0 A) (F0 m 32 ls [.int (b2i x12)]) := by
      intro x12 H locs ex12 hP hD hS
      refine lv_istore (lv' := [(6, .int (b2i x12)), (0, .ref (ad 0)), (1, .int f), (2, .int g), (3, .int (nI d)), (4, .int (nI a)), (5, .int (nI b))]) hx hb d_Mo_both_32 hl (by decide) rfl (fun ls hl => ?_)
      refine lv_aload_n hx hb d_Mo_both_34 rfl (lv_at hl 1 rfl) ?_
      refine lv_iload_n hx hb d_Mo_both_35 rfl (lv_at hl 4 rfl) ?_
      refine lv_iload_n hx hb d_Mo_both_36 rfl (lv_at hl 2 rfl) ?_
      refine lv_aload_n hx hb d_Mo_both_37 rfl (lv_at hl 1 rfl) ?_
      refine va_get (D := (dC, dI)) (ci := 8) (v := .ref (ad 3)) (C := R_Mo) (T := F_Mo) (N := 31) hx hb hts in_Mo hown hK hP 0 rfl rfl 3 (by decide) (hts _ m_13_33) (fun _ h9 => h9) rfl d_Mo_both_38 ?_
      refine lv_iload hx hb d_Mo_both_41 (lv_at hl 5 rfl) ?_
      refine aldM_x (u := u) (v := aI u 2 a) hx hb hK hP (by omega) rfl d_Mo_both_43 ?_
      refine lv_aload_n hx hb d_Mo_both_44 rfl (lv_at hl 1 rfl) ?_
      refine va_get (D := (dC, dI)) (ci := 8) (v := .ref (ad 3)) (C := R_Mo) (T := F_Mo) (N := 31) hx hb hts in_Mo hown hK hP 0 rfl rfl 3 (by decide) (hts _ m_13_33) (fun _ h9 => h9) rfl d_Mo_both_45 ?_
      refine lv_iload hx hb d_Mo_both_48 (lv_at hl 6 rfl) ?_
      refine aldM_x (u := u) (v := aI u 2 b) hx hb hK hP (by omega) rfl d_Mo_both_50 ?_
      refine callPi (va_runS (As := [.int f, .int (aI u 2 a), .int (aI u 2 b)]) (rest := [.int (nI d), .ref (ad 0)]) ⟨hx, hb, hml, hown, hts⟩ (c_Mo_product l f (aI u 2 a) (aI u 2 b) H.size) (va_cwS 3 hts (goodS m_17_7 m_17_8 m_0_12 m_17_9) rfl rfl rfl (by decide +kernel) ⟨Nat.le_of_ble_eq_true rfl, Nat.le_of_ble_eq_true rfl⟩) ⟨preP_blind, preP_ok⟩ rfl rfl hl.1 rfl (lv_room (Nat.le_of_ble_eq_true rfl)) d_Mo_both_51 ⟨Nat.zero_le _, Nat.zero_le _⟩) hP hS hA (fun H locs hP hS => ?_)
      refine lv_iload hx hb d_Mo_both_54 (lv_at hl 0 rfl) ?_
      have J64 : ∀ (x13 : Int32) (H : Heap) (locs : List Loc), x13 = (if x12 = true then (-1) else 0) → va_P (dC, dI) classes (wM cI cZ ad u) H → va_D A (wM cI cZ ad u) → va_S A s.heap H locs → W p l e (headSpec w_Mo_both rm_Mo_both).room s m ([.ref (ad 0), .int f, .int g, .int (nI d), .int (nI a), .int (nI b)] : List Value).toArray below meth c H locs 0 0 (MQ below (QWi (dC, dI) classes [(cI, .int), (cZ, .boolean)] (wM cI cZ ad) A (b2i res.1) res.2) ([.ref (ad 0), .int f, .int g, .int (nI d), .int (nI a), .int (nI b)] : List Value).toArray s 0 0 A) (F0 m 64 ls [.int x13, .int (f_Mo_product f (aI u 2 a) (aI u 2 b)), .int (nI d), .ref (ad 0)]) := by
        intro x13 H locs ex13 hP hD hS
        refine callWv (va_runV (As := [.int (nI d), .int (f_Mo_product f (aI u 2 a) (aI u 2 b)), .int x13]) (rest := []) ⟨hx, hb, hml, hown, hts⟩ (c_Mo_give l dC dI cI cZ ad u d (f_Mo_product f (aI u 2 a) (aI u 2 b)) x13 (by first | assumption | omega) H.size) (cwV 3 hts (goodV m_16_7 m_16_8 m_19_20 m_0_12 m_16_9) rfl rfl rfl (by decide +kernel) ⟨Nat.le_of_ble_eq_true rfl, Nat.le_of_ble_eq_true rfl⟩) ⟨preW_blind, va_recv hK hP (ci := 8) (q0 := 0) rfl rfl, preW_ok hP hD hK⟩ rfl rfl hl.1 rfl (lv_room (Nat.le_of_ble_eq_true rfl)) d_Mo_both_64 ⟨Nat.zero_le _, Nat.zero_le _⟩) hP hD hS hA (fun H locs hP hD hS => ?_)
        refine lv_iconst (v := 1) hx hb d_Mo_both_67 (by decide) ?_
        have hE : res = (true, f_Mo_give d (f_Mo_product f (aI u 2 a) (aI u 2 b)) x13 u) := (by subst ex13; subst ex12; exact hq.trans ((if_pos c1).trans rfl))
        exact retWb (x := true) hx hb hr hP hK hD hS (congrArg Prod.fst hE).symm (congrArg Prod.snd hE).symm d_Mo_both_68 hlocks
      refine rb_eq (tgt := 63) hx hb d_Mo_both_56 (by decide) (fun c14 => ?_) (fun c14 => ?_)
      · skip
        refine lv_iconst (v := 0) hx hb d_Mo_both_63 (by decide) ?_
        exact J64 0 _ _ (Eq.symm ((if_neg c14).trans (rfl))) hP hD hS
      · skip
        refine lv_iconst (v := (-1)) hx hb d_Mo_both_59 (by decide) ?_
        refine lv_goto (tgt := 64) hx hb d_Mo_both_60 (by decide) ?_
        exact J64 (-1) _ _ (Eq.symm ((if_pos c14).trans (rfl))) hP hD hS
    refine rb_ne (tgt := 27) hx hb d_Mo_both_13 (by decide) (fun c15 => ?_) (fun c15 => ?_)
    · skip
      refine lv_iconst (v := 1) hx hb d_Mo_both_27 (by decide) ?_
      refine lv_goto (tgt := 32) hx hb d_Mo_both_28 (by decide) ?_
      exact J32 true _ _ (Eq.symm ((if_pos c15).trans (rfl))) hP hD hS
    · skip
      refine lv_aload_n hx hb d_Mo_both_16 rfl (lv_at hl 0 rfl) ?_
      refine lv_iload hx hb d_Mo_both_17 (lv_at hl 5 rfl) ?_
      refine lv_bipush (v := nI 32) hx hb d_Mo_both_19 (by decide) ?_
      refine callWi (va_runV (As := [.int (nI b), .int (nI 32)]) (rest := []) ⟨hx, hb, hml, hown, hts⟩ (c_Mo_anyDark l dC dI cI cZ ad u b 32 (by first | assumption | omega) (by first | assumption | omega) H.size) (cwV 2 hts (goodV m_16_16 m_16_17 m_19_22 m_0_12 m_16_18) rfl rfl rfl (by decide +kernel) ⟨Nat.le_of_ble_eq_true rfl, Nat.le_of_ble_eq_true rfl⟩) ⟨preW_blind, va_recv hK hP (ci := 8) (q0 := 0) rfl rfl, preW_ok hP hD hK⟩ rfl rfl hl.1 rfl (lv_room (Nat.le_of_ble_eq_true rfl)) d_Mo_both_21 ⟨Nat.zero_le _, Nat.zero_le _⟩) hP hD hS hA (fun H locs hP hD hS => ?_)
      refine rb_eq (tgt := 31) hx hb d_Mo_both_24 (by decide) (fun c16 => ?_) (fun c16 => ?_)
      · skip
        refine lv_iconst (v := 0) hx hb d_Mo_both_31 (by decide) ?_
        exact J32 false _ _ (Eq.symm ((if_neg c15).trans ((if_neg c16).trans (rfl)))) hP hD hS
      · skip
        refine lv_iconst (v := 1) hx hb d_Mo_both_27 (by decide) ?_
        refine lv_goto (tgt := 32) hx hb d_Mo_both_28 (by decide) ?_
        exact J32 true _ _ (Eq.symm ((if_neg c15).trans ((if_pos c16).trans (rfl)))) hP hD hS
def w_Mo_reads : List Cond := .code y_Mo_reads b_Mo_reads 11 (some .boolean) :: ALLW
def rm_Mo_reads : Room := { frames := 21, cells := 0, slots := 0, locals := 624 }
theorem d_Mo_reads_0 : decode b_Mo_reads 0 = .ok (.iload_n 1, 1) := by decide +kernel
theorem d_Mo_reads_1 : decode b_Mo_reads 1 = .ok (.iconst 3, 1) := by decide +kernel
theorem d_Mo_reads_2 : decode b_Mo_reads 2 = .ok (.if_icmp .eq 8, 3) := by decide +kernel
theorem d_Mo_reads_5 : decode b_Mo_reads 5 = .ok (.iload_n 1, 1) := by decide +kernel
theorem d_Mo_reads_6 : decode b_Mo_reads 6 = .ok (.iconst 5, 1) := by decide +kernel
theorem d_Mo_reads_7 : decode b_Mo_reads 7 = .ok (.if_icmp .le 10, 3) := by decide +kernel
theorem d_Mo_reads_10 : decode b_Mo_reads 10 = .ok (.aload_n 0, 1) := by decide +kernel
theorem d_Mo_reads_11 : decode b_Mo_reads 11 = .ok (.iconst 1, 1) := by decide +kernel
theorem d_Mo_reads_12 : decode b_Mo_reads 12 = .ok (.invokevirtual 120, 3) := by decide +kernel
theorem d_Mo_reads_15 : decode b_Mo_reads 15 = .ok (.iconst 0, 1) := by decide +kernel
theorem d_Mo_reads_16 : decode b_Mo_reads 16 = .ok (.ireturn, 1) := by decide +kernel
theorem d_Mo_reads_17 : decode b_Mo_reads 17 = .ok (.iload_n 1, 1) := by decide +kernel
theorem d_Mo_reads_18 : decode b_Mo_reads 18 = .ok (.ifCond .eq 8, 3) := by decide +kernel
theorem d_Mo_reads_21 : decode b_Mo_reads 21 = .ok (.iload_n 1, 1) := by decide +kernel
theorem d_Mo_reads_22 : decode b_Mo_reads 22 = .ok (.iconst 4, 1) := by decide +kernel
theorem d_Mo_reads_23 : decode b_Mo_reads 23 = .ok (.if_icmp .ne 7, 3) := by decide +kernel
theorem d_Mo_reads_26 : decode b_Mo_reads 26 = .ok (.iconst 1, 1) := by decide +kernel
theorem d_Mo_reads_27 : decode b_Mo_reads 27 = .ok (.goto 13, 3) := by decide +kernel
theorem d_Mo_reads_30 : decode b_Mo_reads 30 = .ok (.iload_n 1, 1) := by decide +kernel
theorem d_Mo_reads_31 : decode b_Mo_reads 31 = .ok (.iconst 2, 1) := by decide +kernel
theorem d_Mo_reads_32 : decode b_Mo_reads 32 = .ok (.if_icmp .ne 7, 3) := by decide +kernel
theorem d_Mo_reads_35 : decode b_Mo_reads 35 = .ok (.iconst 4, 1) := by decide +kernel
theorem d_Mo_reads_36 : decode b_Mo_reads 36 = .ok (.goto 4, 3) := by decide +kernel
theorem d_Mo_reads_39 : decode b_Mo_reads 39 = .ok (.iconst 2, 1) := by decide +kernel
theorem d_Mo_reads_40 : decode b_Mo_reads 40 = .ok (.istore 5, 2) := by decide +kernel
theorem d_Mo_reads_42 : decode b_Mo_reads 42 = .ok (.iconst 0, 1) := by decide +kernel
theorem d_Mo_reads_43 : decode b_Mo_reads 43 = .ok (.istore 6, 2) := by decide +kernel
theorem d_Mo_reads_45 : decode b_Mo_reads 45 = .ok (.iconst 0, 1) := by decide +kernel
theorem d_Mo_reads_46 : decode b_Mo_reads 46 = .ok (.istore 7, 2) := by decide +kernel
theorem d_Mo_reads_48 : decode b_Mo_reads 48 = .ok (.aload_n 0, 1) := by decide +kernel
theorem d_Mo_reads_49 : decode b_Mo_reads 49 = .ok (.iload_n 3, 1) := by decide +kernel
theorem d_Mo_reads_50 : decode b_Mo_reads 50 = .ok (.bipush 32, 2) := by decide +kernel
theorem d_Mo_reads_52 : decode b_Mo_reads 52 = .ok (.invokevirtual 143, 3) := by decide +kernel
theorem d_Mo_reads_55 : decode b_Mo_reads 55 = .ok (.ifCond .eq 10, 3) := by decide +kernel
theorem d_Mo_reads_58 : decode b_Mo_reads 58 = .ok (.aload_n 0, 1) := by decide +kernel
theorem d_Mo_reads_59 : decode b_Mo_reads 59 = .ok (.iconst 3, 1) := by decide +kernel
theorem d_Mo_reads_60 : decode b_Mo_reads 60 = .ok (.iload 4, 2) := by decide +kernel
theorem d_Mo_reads_62 : decode b_Mo_reads 62 = .ok (.invokevirtual 128, 3) := by decide +kernel
theorem d_Mo_reads_65 : decode b_Mo_reads 65 = .ok (.iload 4, 2) := by decide +kernel
theorem d_Mo_reads_67 : decode b_Mo_reads 67 = .ok (.iload 5, 2) := by decide +kernel
theorem d_Mo_reads_69 : decode b_Mo_reads 69 = .ok (.invokestatic 174, 3) := by decide +kernel
theorem d_Mo_reads_72 : decode b_Mo_reads 72 = .ok (.ifCond .eq 10, 3) := by decide +kernel
theorem d_Mo_reads_75 : decode b_Mo_reads 75 = .ok (.aload_n 0, 1) := by decide +kernel
theorem d_Mo_reads_76 : decode b_Mo_reads 76 = .ok (.iconst 2, 1) := by decide +kernel
theorem d_Mo_reads_77 : decode b_Mo_reads 77 = .ok (.invokevirtual 120, 3) := by decide +kernel
theorem d_Mo_reads_80 : decode b_Mo_reads 80 = .ok (.iconst 0, 1) := by decide +kernel
theorem d_Mo_reads_81 : decode b_Mo_reads 81 = .ok (.ireturn, 1) := by decide +kernel
theorem d_Mo_reads_82 : decode b_Mo_reads 82 = .ok (.aload_n 0, 1) := by decide +kernel
theorem d_Mo_reads_83 : decode b_Mo_reads 83 = .ok (.iload 4, 2) := by decide +kernel
theorem d_Mo_reads_85 : decode b_Mo_reads 85 = .ok (.iload 5, 2) := by decide +kernel
theorem d_Mo_reads_87 : decode b_Mo_reads 87 = .ok (.invokevirtual 177, 3) := by decide +kernel
theorem d_Mo_reads_90 : decode b_Mo_reads 90 = .ok (.istore 8, 2) := by decide +kernel
theorem d_Mo_reads_92 : decode b_Mo_reads 92 = .ok (.iload 8, 2) := by decide +kernel
theorem d_Mo_reads_94 : decode b_Mo_reads 94 = .ok (.ifCond .lt 10, 3) := by decide +kernel
theorem d_Mo_reads_97 : decode b_Mo_reads 97 = .ok (.aload_n 0, 1) := by decide +kernel
theorem d_Mo_reads_98 : decode b_Mo_reads 98 = .ok (.iconst 4, 1) := by decide +kernel
theorem d_Mo_reads_99 : decode b_Mo_reads 99 = .ok (.iload 8, 2) := by decide +kernel
theorem d_Mo_reads_101 : decode b_Mo_reads 101 = .ok (.invokevirtual 128, 3) := by decide +kernel
theorem d_Mo_reads_104 : decode b_Mo_reads 104 = .ok (.iconst 0, 1) := by decide +kernel
theorem d_Mo_reads_105 : decode b_Mo_reads 105 = .ok (.istore 9, 2) := by decide +kernel
theorem d_Mo_reads_107 : decode b_Mo_reads 107 = .ok (.iload 9, 2) := by decide +kernel
theorem d_Mo_reads_109 : decode b_Mo_reads 109 = .ok (.iload 5, 2) := by decide +kernel
theorem d_Mo_reads_111 : decode b_Mo_reads 111 = .ok (.if_icmp .ge 93, 3) := by decide +kernel
theorem d_Mo_reads_114 : decode b_Mo_reads 114 = .ok (.iload 6, 2) := by decide +kernel
theorem d_Mo_reads_116 : decode b_Mo_reads 116 = .ok (.aload_n 0, 1) := by decide +kernel
theorem d_Mo_reads_117 : decode b_Mo_reads 117 = .ok (.getfield 14, 3) := by decide +kernel
theorem d_Mo_reads_120 : decode b_Mo_reads 120 = .ok (.iload 4, 2) := by decide +kernel
theorem d_Mo_reads_122 : decode b_Mo_reads 122 = .ok (.iload 9, 2) := by decide +kernel
theorem d_Mo_reads_124 : decode b_Mo_reads 124 = .ok (.iadd, 1) := by decide +kernel
theorem d_Mo_reads_125 : decode b_Mo_reads 125 = .ok (.iaload, 1) := by decide +kernel
theorem d_Mo_reads_126 : decode b_Mo_reads 126 = .ok (.bipush 8, 2) := by decide +kernel
theorem d_Mo_reads_128 : decode b_Mo_reads 128 = .ok (.iload 9, 2) := by decide +kernel
theorem d_Mo_reads_130 : decode b_Mo_reads 130 = .ok (.imul, 1) := by decide +kernel
theorem d_Mo_reads_131 : decode b_Mo_reads 131 = .ok (.ishl, 1) := by decide +kernel
theorem d_Mo_reads_132 : decode b_Mo_reads 132 = .ok (.ior, 1) := by decide +kernel
theorem d_Mo_reads_133 : decode b_Mo_reads 133 = .ok (.istore 6, 2) := by decide +kernel
theorem d_Mo_reads_135 : decode b_Mo_reads 135 = .ok (.aload_n 0, 1) := by decide +kernel
theorem d_Mo_reads_136 : decode b_Mo_reads 136 = .ok (.getfield 20, 3) := by decide +kernel
theorem d_Mo_reads_139 : decode b_Mo_reads 139 = .ok (.iload 4, 2) := by decide +kernel
theorem d_Mo_reads_141 : decode b_Mo_reads 141 = .ok (.iload 9, 2) := by decide +kernel
theorem d_Mo_reads_143 : decode b_Mo_reads 143 = .ok (.iadd, 1) := by decide +kernel
theorem d_Mo_reads_144 : decode b_Mo_reads 144 = .ok (.baload, 1) := by decide +kernel
theorem d_Mo_reads_145 : decode b_Mo_reads 145 = .ok (.ifCond .eq 53, 3) := by decide +kernel
theorem d_Mo_reads_148 : decode b_Mo_reads 148 = .ok (.iconst 0, 1) := by decide +kernel
theorem d_Mo_reads_149 : decode b_Mo_reads 149 = .ok (.istore 10, 2) := by decide +kernel
theorem d_Mo_reads_151 : decode b_Mo_reads 151 = .ok (.iload 10, 2) := by decide +kernel
theorem d_Mo_reads_153 : decode b_Mo_reads 153 = .ok (.bipush 8, 2) := by decide +kernel
theorem d_Mo_reads_155 : decode b_Mo_reads 155 = .ok (.if_icmp .ge 43, 3) := by decide +kernel
theorem d_Mo_reads_158 : decode b_Mo_reads 158 = .ok (.aload_n 0, 1) := by decide +kernel
theorem d_Mo_reads_159 : decode b_Mo_reads 159 = .ok (.getfield 25, 3) := by decide +kernel
theorem d_Mo_reads_162 : decode b_Mo_reads 162 = .ok (.bipush 8, 2) := by decide +kernel
theorem d_Mo_reads_164 : decode b_Mo_reads 164 = .ok (.iload 4, 2) := by decide +kernel
theorem d_Mo_reads_166 : decode b_Mo_reads 166 = .ok (.iload 9, 2) := by decide +kernel
theorem d_Mo_reads_168 : decode b_Mo_reads 168 = .ok (.iadd, 1) := by decide +kernel
theorem d_Mo_reads_169 : decode b_Mo_reads 169 = .ok (.imul, 1) := by decide +kernel
theorem d_Mo_reads_170 : decode b_Mo_reads 170 = .ok (.iload 10, 2) := by decide +kernel
theorem d_Mo_reads_172 : decode b_Mo_reads 172 = .ok (.iadd, 1) := by decide +kernel
theorem d_Mo_reads_173 : decode b_Mo_reads 173 = .ok (.baload, 1) := by decide +kernel
theorem d_Mo_reads_174 : decode b_Mo_reads 174 = .ok (.ifCond .eq 18, 3) := by decide +kernel
theorem d_Mo_reads_177 : decode b_Mo_reads 177 = .ok (.iload 7, 2) := by decide +kernel
theorem d_Mo_reads_179 : decode b_Mo_reads 179 = .ok (.iconst 1, 1) := by decide +kernel
theorem d_Mo_reads_180 : decode b_Mo_reads 180 = .ok (.bipush 8, 2) := by decide +kernel
theorem d_Mo_reads_182 : decode b_Mo_reads 182 = .ok (.iload 9, 2) := by decide +kernel
theorem d_Mo_reads_184 : decode b_Mo_reads 184 = .ok (.imul, 1) := by decide +kernel
theorem d_Mo_reads_185 : decode b_Mo_reads 185 = .ok (.iload 10, 2) := by decide +kernel
theorem d_Mo_reads_187 : decode b_Mo_reads 187 = .ok (.iadd, 1) := by decide +kernel
theorem d_Mo_reads_188 : decode b_Mo_reads 188 = .ok (.ishl, 1) := by decide +kernel
theorem d_Mo_reads_189 : decode b_Mo_reads 189 = .ok (.ior, 1) := by decide +kernel
theorem d_Mo_reads_190 : decode b_Mo_reads 190 = .ok (.istore 7, 2) := by decide +kernel
theorem d_Mo_reads_192 : decode b_Mo_reads 192 = .ok (.iinc 10 1, 3) := by decide +kernel
theorem d_Mo_reads_195 : decode b_Mo_reads 195 = .ok (.goto (-44), 3) := by decide +kernel
theorem d_Mo_reads_198 : decode b_Mo_reads 198 = .ok (.iinc 9 1, 3) := by decide +kernel
theorem d_Mo_reads_201 : decode b_Mo_reads 201 = .ok (.goto (-94), 3) := by decide +kernel
theorem d_Mo_reads_204 : decode b_Mo_reads 204 = .ok (.iload_n 1, 1) := by decide +kernel
theorem d_Mo_reads_205 : decode b_Mo_reads 205 = .ok (.iconst 2, 1) := by decide +kernel
theorem d_Mo_reads_206 : decode b_Mo_reads 206 = .ok (.if_icmp .ge 27, 3) := by decide +kernel
theorem d_Mo_reads_209 : decode b_Mo_reads 209 = .ok (.iload 6, 2) := by decide +kernel
theorem d_Mo_reads_211 : decode b_Mo_reads 211 = .ok (.bipush 8, 2) := by decide +kernel
theorem d_Mo_reads_213 : decode b_Mo_reads 213 = .ok (.iload 5, 2) := by decide +kernel
theorem d_Mo_reads_215 : decode b_Mo_reads 215 = .ok (.imul, 1) := by decide +kernel
theorem d_Mo_reads_216 : decode b_Mo_reads 216 = .ok (.invokestatic 136, 3) := by decide +kernel
theorem d_Mo_reads_219 : decode b_Mo_reads 219 = .ok (.istore 6, 2) := by decide +kernel
theorem d_Mo_reads_221 : decode b_Mo_reads 221 = .ok (.iload 7, 2) := by decide +kernel
theorem d_Mo_reads_223 : decode b_Mo_reads 223 = .ok (.bipush 8, 2) := by decide +kernel
theorem d_Mo_reads_225 : decode b_Mo_reads 225 = .ok (.iload 5, 2) := by decide +kernel
theorem d_Mo_reads_227 : decode b_Mo_reads 227 = .ok (.imul, 1) := by decide +kernel
theorem d_Mo_reads_228 : decode b_Mo_reads 228 = .ok (.invokestatic 136, 3) := by decide +kernel
theorem d_Mo_reads_231 : decode b_Mo_reads 231 = .ok (.istore 7, 2) := by decide +kernel
theorem d_Mo_reads_233 : decode b_Mo_reads 233 = .ok (.aload_n 0, 1) := by decide +kernel
theorem d_Mo_reads_234 : decode b_Mo_reads 234 = .ok (.iload_n 2, 1) := by decide +kernel
theorem d_Mo_reads_235 : decode b_Mo_reads 235 = .ok (.iload 6, 2) := by decide +kernel
theorem d_Mo_reads_237 : decode b_Mo_reads 237 = .ok (.iload 7, 2) := by decide +kernel
theorem d_Mo_reads_239 : decode b_Mo_reads 239 = .ok (.invokevirtual 132, 3) := by decide +kernel
theorem d_Mo_reads_242 : decode b_Mo_reads 242 = .ok (.iconst 1, 1) := by decide +kernel
theorem d_Mo_reads_243 : decode b_Mo_reads 243 = .ok (.ireturn, 1) := by decide +kernel
def f_Mo_reads_233 (f : Nat) (d : Nat) (a : Nat) (at_ : Int32) (u : S5) (n : Nat) (u1 : S5) (u2 : S5) (un2 : Int32) (v2 : Int32) : Bool × S5 := (true, f_Mo_give d v2 un2 u2)
def f_Mo_reads_151 (f : Nat) (d : Nat) (a : Nat) (at_ : Int32) (u : S5) (n : Nat) (u1 : S5) (u2 : S5) (i : Nat) (v : Int32) : Nat → Nat → Int32 → Int32
  | 0, j, um => 0
  | k151 + 1, j, um => if j < 8 then (if (aB u2 1 (8 * (at_.toNatClampNeg + i) + j)) = true then f_Mo_reads_151 f d a at_ u n u1 u2 i v k151 (j + 1) (um ||| ((1 : Int32) <<< ((nI (8 * i + j)) &&& 31))) else f_Mo_reads_151 f d a at_ u n u1 u2 i v k151 (j + 1) um) else um
def f_Mo_reads_107 (f : Nat) (d : Nat) (a : Nat) (at_ : Int32) (u : S5) (n : Nat) (u1 : S5) (u2 : S5) : Nat → Nat → Int32 → Int32 → (Int32 × Int32)
  | 0, i, v, un => (0, 0)
  | k107 + 1, i, v, un => if i < n then (if (aB u2 0 (at_.toNatClampNeg + i)) = true then (let un3 : Int32 := f_Mo_reads_151 f d a at_ u n u1 u2 i v 9 0 un; f_Mo_reads_107 f d a at_ u n u1 u2 k107 (i + 1) (v ||| ((aI u2 1 (at_.toNatClampNeg + i)) <<< ((nI (8 * i)) &&& 31))) un3) else f_Mo_reads_107 f d a at_ u n u1 u2 k107 (i + 1) (v ||| ((aI u2 1 (at_.toNatClampNeg + i)) <<< ((nI (8 * i)) &&& 31))) un) else (v, un)
def f_Mo_reads_104 (f : Nat) (d : Nat) (a : Nat) (at_ : Int32) (u : S5) (n : Nat) (u1 : S5) (u2 : S5) : Bool × S5 := let o107 : Int32 × Int32 := f_Mo_reads_107 f d a at_ u n u1 u2 (n + 1) 0 0 0; let v1 : Int32 := o107.1; let un1 : Int32 := o107.2; if f < 2 then f_Mo_reads_233 f d a at_ u n u1 u2 (f_Mo_signed un1 (nI (8 * n))) (f_Mo_signed v1 (nI (8 * n))) else f_Mo_reads_233 f d a at_ u n u1 u2 un1 v1
def f_Mo_reads_65 (f : Nat) (d : Nat) (a : Nat) (at_ : Int32) (u : S5) (n : Nat) (u1 : S5) : Bool × S5 := if (f_Mo_beyond at_ n) = true then (false, f_Mo_trap 2 u1) else if (f_Mo_shut at_.toNatClampNeg n u1) < 0 then f_Mo_reads_104 f d a at_ u n u1 u1 else f_Mo_reads_104 f d a at_ u n u1 (f_Mo_fault 4 (f_Mo_shut at_.toNatClampNeg n u1) u1)
def f_Mo_reads (f : Nat) (d : Nat) (a : Nat) (at_ : Int32) (u : S5) : Bool × S5 := if f = 3 then (false, f_Mo_trap 1 u) else if f ≤ 5 then (let n : Nat := if f = 0 then 1 else if f = 4 then 1 else if f = 2 then 4 else 2; if (f_Mo_anyDark a 32 u) = true then f_Mo_reads_65 f d a at_ u n (f_Mo_fault 3 at_ u) else f_Mo_reads_65 f d a at_ u n u) else (false, f_Mo_trap 1 u)
set_option maxHeartbeats 8000000 in
set_option maxRecDepth 100000 in
theorem c_Mo_reads (l : Launch) (dC : Nat → ClassId) (dI : Nat → Nat → Nat) (cI cZ : ClassId) (ad : Nat → Nat) (u : S5) (f : Nat) (d : Nat) (a : Nat) (at_ : Int32) (hf : f < 8) (hd : d < 32) (ha : a < 32) (ok : OkE u) (sz : Nat) : Met l y_Mo_reads w_Mo_reads rm_Mo_reads (PreW (dC, dI) classes [(cI, .int), (cZ, .boolean)] (wM cI cZ ad) u sz [.ref (ad 0), .int (nI f), .int (nI d), .int (nI a), .int at_]) (QWi (dC, dI) classes [(cI, .int), (cZ, .boolean)] (wM cI cZ ad) (va_A (wM cI cZ ad u) sz) (b2i (f_Mo_reads f d a at_ u).1) (f_Mo_reads f d a at_ u).2) 0 0 (va_A (wM cI cZ ad u) sz) := by
  generalize hres : f_Mo_reads f d a at_ u = res
  refine Met.ofW (cc := b_Mo_reads) (maxL := 11) (ret := (some .boolean)) (by decide) rfl ?_
  intro p e s m args below meth c s₁ B hml hv
  obtain ⟨rfl, rfl, hP, hK, hD0⟩ := hv
  have hx := B.exec
  have hb := B.bytes
  have hr := B.returns
  have hts : ∀ w9 ∈ ALLW, w9.before ([.ref (ad 0), .int (nI f), .int (nI d), .int (nI a), .int at_] : List Value).toArray s = true := fun w9 h => atoms_spec (ws := w_Mo_reads) B.pre w9 (List.mem_cons_of_mem _ h)
  have hown : s.vm.findClass R_Mo = some m.cls := findClass_of_methodNamed B.named
  have hlocks := B.notSynchronized
  have hD := hD0.self (sz := s.heap.size)
  generalize hAe : va_A (wM cI cZ ad u) s.heap.size = A at hD ⊢
  have hA : ∀ q : Nat, s.heap.size ≤ q → A q := fun q h => by rw [← hAe]; exact Or.inr h
  have hS : va_S A s.heap s.heap [] := va_S.rf
  have hl := lv_entry ([.ref (ad 0), .int (nI f), .int (nI d), .int (nI a), .int at_]) (n := 11) (Nat.le_of_ble_eq_true rfl)
  rw [lg_entry_eq]
  generalize (lg_sl ([.ref (ad 0), .int (nI f), .int (nI d), .int (nI a), .int at_]) ++ List.replicate (11 - (lg_sl ([.ref (ad 0), .int (nI f), .int (nI d), .int (nI a), .int at_])).length) Slot.unset).toArray = ls at hl ⊢
  have hl : lv_has ls 11 [(0, .ref (ad 0)), (1, .int (nI f)), (2, .int (nI d)), (3, .int (nI a)), (4, .int at_)] := hl
  have hq := hres.symm
  skip
  obtain ⟨oe6, oe5⟩ := id ok
  refine lv_iload_n hx hb d_Mo_reads_0 rfl (lv_at hl 1 rfl) ?_
  refine lv_iconst (v := nI 3) hx hb d_Mo_reads_1 (by decide) ?_
  refine rn_eq (tgt := 10) hx hb (by omega) (by omega) d_Mo_reads_2 (by decide) (fun c1 => ?_) (fun c1 => ?_)
  · skip
    refine lv_aload_n hx hb d_Mo_reads_10 rfl (lv_at hl 0 rfl) ?_
    refine lv_iconst (v := 1) hx hb d_Mo_reads_11 (by decide) ?_
    refine callWv (va_runV (As := [.int 1]) (rest := []) ⟨hx, hb, hml, hown, hts⟩ (c_Mo_trap l dC dI cI cZ ad u 1 s.heap.size) (cwV 1 hts (goodV m_15_38 m_15_39 m_19_17 m_0_12 m_16_0) rfl rfl rfl (by decide +kernel) ⟨Nat.le_of_ble_eq_true rfl, Nat.le_of_ble_eq_true rfl⟩) ⟨preW_blind, va_recv hK hP (ci := 8) (q0 := 0) rfl rfl, preW_ok hP hD hK⟩ rfl rfl hl.1 rfl (lv_room (Nat.le_of_ble_eq_true rfl)) d_Mo_reads_12 ⟨Nat.zero_le _, Nat.zero_le _⟩) hP hD hS hA (fun H locs hP hD hS => ?_)
    refine lv_iconst (v := 0) hx hb d_Mo_reads_15 (by decide) ?_
    have hE : res = (false, f_Mo_trap 1 u) := hq.trans ((if_pos c1).trans rfl)
    exact retWb (x := false) hx hb hr hP hK hD hS (congrArg Prod.fst hE).symm (congrArg Prod.snd hE).symm d_Mo_reads_16 hlocks
  · skip
    refine lv_iload_n hx hb d_Mo_reads_5 rfl (lv_at hl 1 rfl) ?_
    refine lv_iconst (v := nI 5) hx hb d_Mo_reads_6 (by decide) ?_
    refine rn_le (tgt := 17) hx hb (by omega) (by omega) d_Mo_reads_7 (by decide) (fun c2 => ?_) (fun c2 => ?_)
    · skip
      refine lv_iload_n hx hb d_Mo_reads_17 rfl (lv_at hl 1 rfl) ?_
      have J40 : ∀ (n : Nat) (H : Heap) (locs : List Loc), n = (if f = 0 then 1 else if f = 4 then 1 else if f = 2 then 4 else 2) → va_P (dC, dI) classes (wM cI cZ ad u) H → va_D A (wM cI cZ ad u) → va_S A s.heap H locs → W p l e (headSpec w_Mo_reads rm_Mo_reads).room s m ([.ref (ad 0), .int (nI f), .int (nI d), .int (nI a), .int at_] : List Value).toArray below meth c H locs 0 0 (MQ below (QWi (dC, dI) classes [(cI, .int), (cZ, .boolean)] (wM cI cZ ad) A (b2i res.1) res.2) ([.ref (ad 0), .int (nI f), .int (nI d), .int (nI a), .int at_] : List Value).toArray s 0 0 A) (F0 m 40 ls [.int (nI n)]) := by
        intro n H locs en hP hD hS
        have hn : 1 ≤ n ∧ n ≤ 4 := by rw [en]; split <;> (try split) <;> (try split) <;> omega
        refine lv_istore (lv' := [(5, .int (nI n)), (0, .ref (ad 0)), (1, .int (nI f)), (2, .int (nI d)), (3, .int (nI a)), (4, .int at_)]) hx hb d_Mo_reads_40 hl (by decide) rfl (fun ls hl => ?_)
        refine lv_iconst (v := 0) hx hb d_Mo_reads_42 (by decide) ?_
        refine lv_istore (lv' := [(6, .int 0), (5, .int (nI n)), (0, .ref (ad 0)), (1, .int (nI f)), (2, .int (nI d)), (3, .int (nI a)), (4, .int at_)]) hx hb d_Mo_reads_43 hl (by decide) rfl (fun ls hl => ?_)
        refine lv_iconst (v := 0) hx hb d_Mo_reads_45 (by decide) ?_
        refine lv_istore (lv' := [(7, .int 0), (6, .int 0), (5, .int (nI n)), (0, .ref (ad 0)), (1, .int (nI f)), (2, .int (nI d)), (3, .int (nI a)), (4, .int at_)]) hx hb d_Mo_reads_46 hl (by decide) rfl (fun ls hl => ?_)
        refine lv_aload_n hx hb d_Mo_reads_48 rfl (lv_at hl 3 rfl) ?_
        refine lv_iload_n hx hb d_Mo_reads_49 rfl (lv_at hl 6 rfl) ?_
        refine lv_bipush (v := nI 32) hx hb d_Mo_reads_50 (by decide) ?_
        refine callWi (va_runV (As := [.int (nI a), .int (nI 32)]) (rest := []) ⟨hx, hb, hml, hown, hts⟩ (c_Mo_anyDark l dC dI cI cZ ad u a 32 (by first | assumption | omega) (by first | assumption | omega) H.size) (cwV 2 hts (goodV m_16_16 m_16_17 m_19_22 m_0_12 m_16_18) rfl rfl rfl (by decide +kernel) ⟨Nat.le_of_ble_eq_true rfl, Nat.le_of_ble_eq_true rfl⟩) ⟨preW_blind, va_recv hK hP (ci := 8) (q0 := 0) rfl rfl, preW_ok hP hD hK⟩ rfl rfl hl.1 rfl (lv_room (Nat.le_of_ble_eq_true rfl)) d_Mo_reads_52 ⟨Nat.zero_le _, Nat.zero_le _⟩) hP hD hS hA (fun H locs hP hD hS => ?_)
        have J65 : ∀ (u1 : S5) (H : Heap) (locs : List Loc) (ls : Array Slot), res = f_Mo_reads_65 f d a at_ u n u1 → (OkE u1) → va_P (dC, dI) classes (wM cI cZ ad u1) H → va_D A (wM cI cZ ad u1) → va_S A s.heap H locs → lv_has ls 11 [(7, .int 0), (6, .int 0), (5, .int (nI n)), (0, .ref (ad 0)), (1, .int (nI f)), (2, .int (nI d)), (3, .int (nI a)), (4, .int at_)] → W p l e (headSpec w_Mo_reads rm_Mo_reads).room s m ([.ref (ad 0), .int (nI f), .int (nI d), .int (nI a), .int at_] : List Value).toArray below meth c H locs 0 0 (MQ below (QWi (dC, dI) classes [(cI, .int), (cZ, .boolean)] (wM cI cZ ad) A (b2i res.1) res.2) ([.ref (ad 0), .int (nI f), .int (nI d), .int (nI a), .int at_] : List Value).toArray s 0 0 A) (F0 m 65 ls []) := by
          intro u1 H locs ls hq okJ hP hD hS hl
          refine lv_iload hx hb d_Mo_reads_65 (lv_at hl 7 rfl) ?_
          refine lv_iload hx hb d_Mo_reads_67 (lv_at hl 2 rfl) ?_
          refine callPi (va_runS (As := [.int at_, .int (nI n)]) (rest := []) ⟨hx, hb, hml, hown, hts⟩ (c_Mo_beyond l at_ n (by first | assumption | omega) H.size) (va_cwS 2 hts (goodS m_16_23 m_16_24 m_0_12 m_16_25) rfl rfl rfl (by decide +kernel) ⟨Nat.le_of_ble_eq_true rfl, Nat.le_of_ble_eq_true rfl⟩) ⟨preP_blind, preP_ok⟩ rfl rfl hl.1 rfl (lv_room (Nat.le_of_ble_eq_true rfl)) d_Mo_reads_69 ⟨Nat.zero_le _, Nat.zero_le _⟩) hP hS hA (fun H locs hP hS => ?_)
          refine rb_eq (tgt := 82) hx hb d_Mo_reads_72 (by decide) (fun c3 => ?_) (fun c3 => ?_)
          · skip
            obtain ⟨hb1, hb2⟩ := by_in (at_ := at_) (n := n) (by omega) (by assumption)
            refine lv_aload_n hx hb d_Mo_reads_82 rfl (lv_at hl 3 rfl) ?_
            refine lv_iload hx hb d_Mo_reads_83 (lv_at hl 7 rfl) ?_
            refine rw_top (y := nI at_.toNatClampNeg) (hp_n hb1) ?_
            refine lv_iload hx hb d_Mo_reads_85 (lv_at hl 2 rfl) ?_
            refine callWi (va_runV (As := [.int (nI at_.toNatClampNeg), .int (nI n)]) (rest := []) ⟨hx, hb, hml, hown, hts⟩ (c_Mo_shut l dC dI cI cZ ad u1 at_.toNatClampNeg n (by first | assumption | omega) H.size) (cwV 2 hts (goodV m_16_26 m_16_27 m_19_24 m_0_12 m_16_28) rfl rfl rfl (by decide +kernel) ⟨Nat.le_of_ble_eq_true rfl, Nat.le_of_ble_eq_true rfl⟩) ⟨preW_blind, va_recv hK hP (ci := 8) (q0 := 0) rfl rfl, preW_ok hP hD hK⟩ rfl rfl hl.1 rfl (lv_room (Nat.le_of_ble_eq_true rfl)) d_Mo_reads_87 ⟨Nat.zero_le _, Nat.zero_le _⟩) hP hD hS hA (fun H locs hP hD hS => ?_)
            refine lv_istore (lv' := [(8, .int (f_Mo_shut at_.toNatClampNeg n u1)), (7, .int 0), (6, .int 0), (5, .int (nI n)), (0, .ref (ad 0)), (1, .int (nI f)), (2, .int (nI d)), (3, .int (nI a)), (4, .int at_)]) hx hb d_Mo_reads_90 hl (by decide) rfl (fun ls hl => ?_)
            refine lv_iload hx hb d_Mo_reads_92 (lv_at hl 0 rfl) ?_
            have J104 : ∀ (u2 : S5) (H : Heap) (locs : List Loc) (ls : Array Slot), res = f_Mo_reads_104 f d a at_ u n u1 u2 → va_P (dC, dI) classes (wM cI cZ ad u2) H → va_D A (wM cI cZ ad u2) → va_S A s.heap H locs → lv_has ls 11 [(8, .int (f_Mo_shut at_.toNatClampNeg n u1)), (7, .int 0), (6, .int 0), (5, .int (nI n)), (0, .ref (ad 0)), (1, .int (nI f)), (2, .int (nI d)), (3, .int (nI a)), (4, .int at_)] → W p l e (headSpec w_Mo_reads rm_Mo_reads).room s m ([.ref (ad 0), .int (nI f), .int (nI d), .int (nI a), .int at_] : List Value).toArray below meth c H locs 0 0 (MQ below (QWi (dC, dI) classes [(cI, .int), (cZ, .boolean)] (wM cI cZ ad) A (b2i res.1) res.2) ([.ref (ad 0), .int (nI f), .int (nI d), .int (nI a), .int at_] : List Value).toArray s 0 0 A) (F0 m 104 ls []) := by
              intro u2 H locs ls hq hP hD hS hl
              refine lv_iconst (v := nI 0) hx hb d_Mo_reads_104 (by decide) ?_
              refine lv_istore (lv' := [(9, .int (nI 0)), (8, .int (f_Mo_shut at_.toNatClampNeg n u1)), (7, .int 0), (6, .int 0), (5, .int (nI n)), (0, .ref (ad 0)), (1, .int (nI f)), (2, .int (nI d)), (3, .int (nI a)), (4, .int at_)]) hx hb d_Mo_reads_105 hl (by decide) rfl (fun ls hl => ?_)
              obtain ⟨o107, ho107⟩ : ∃ z : Int32 × Int32, z = f_Mo_reads_107 f d a at_ u n u1 u2 (n + 1) 0 0 0 := ⟨_, rfl⟩
              have K107 : ∀ (v1 : Int32) (un1 : Int32) (H : Heap) (locs : List Loc) (ls : Array Slot), (v1, un1) = o107 → va_P (dC, dI) classes (wM cI cZ ad u2) H → va_D A (wM cI cZ ad u2) → va_S A s.heap H locs → lv_has ls 11 [(8, .int (f_Mo_shut at_.toNatClampNeg n u1)), (7, .int un1), (6, .int v1), (5, .int (nI n)), (0, .ref (ad 0)), (1, .int (nI f)), (2, .int (nI d)), (3, .int (nI a)), (4, .int at_)] → W p l e (headSpec w_Mo_reads rm_Mo_reads).room s m ([.ref (ad 0), .int (nI f), .int (nI d), .int (nI a), .int at_] : List Value).toArray below meth c H locs 0 0 (MQ below (QWi (dC, dI) classes [(cI, .int), (cZ, .boolean)] (wM cI cZ ad) A (b2i res.1) res.2) ([.ref (ad 0), .int (nI f), .int (nI d), .int (nI a), .int at_] : List Value).toArray s 0 0 A) (F0 m 204 ls []) := by
                intro v1 un1 H locs ls eo hP hD hS hl
                have ev1 : v1 = o107.1 := by rw [← eo]
                have eun1 : un1 = o107.2 := by rw [← eo]
                refine lv_iload_n hx hb d_Mo_reads_204 rfl (lv_at hl 5 rfl) ?_
                refine lv_iconst (v := nI 2) hx hb d_Mo_reads_205 (by decide) ?_
                have J233 : ∀ (un2 : Int32) (v2 : Int32) (H : Heap) (locs : List Loc) (ls : Array Slot), res = f_Mo_reads_233 f d a at_ u n u1 u2 un2 v2 → va_P (dC, dI) classes (wM cI cZ ad u2) H → va_D A (wM cI cZ ad u2) → va_S A s.heap H locs → lv_has ls 11 [(8, .int (f_Mo_shut at_.toNatClampNeg n u1)), (7, .int un2), (6, .int v2), (5, .int (nI n)), (0, .ref (ad 0)), (1, .int (nI f)), (2, .int (nI d)), (3, .int (nI a)), (4, .int at_)] → W p l e (headSpec w_Mo_reads rm_Mo_reads).room s m ([.ref (ad 0), .int (nI f), .int (nI d), .int (nI a), .int at_] : List Value).toArray below meth c H locs 0 0 (MQ below (QWi (dC, dI) classes [(cI, .int), (cZ, .boolean)] (wM cI cZ ad) A (b2i res.1) res.2) ([.ref (ad 0), .int (nI f), .int (nI d), .int (nI a), .int at_] : List Value).toArray s 0 0 A) (F0 m 233 ls []) := by
                  intro un2 v2 H locs ls hq hP hD hS hl
                  refine lv_aload_n hx hb d_Mo_reads_233 rfl (lv_at hl 4 rfl) ?_
                  refine lv_iload_n hx hb d_Mo_reads_234 rfl (lv_at hl 6 rfl) ?_
                  refine lv_iload hx hb d_Mo_reads_235 (lv_at hl 2 rfl) ?_
                  refine lv_iload hx hb d_Mo_reads_237 (lv_at hl 1 rfl) ?_
                  refine callWv (va_runV (As := [.int (nI d), .int v2, .int un2]) (rest := []) ⟨hx, hb, hml, hown, hts⟩ (c_Mo_give l dC dI cI cZ ad u2 d v2 un2 (by first | assumption | omega) H.size) (cwV 3 hts (goodV m_16_7 m_16_8 m_19_20 m_0_12 m_16_9) rfl rfl rfl (by decide +kernel) ⟨Nat.le_of_ble_eq_true rfl, Nat.le_of_ble_eq_true rfl⟩) ⟨preW_blind, va_recv hK hP (ci := 8) (q0 := 0) rfl rfl, preW_ok hP hD hK⟩ rfl rfl hl.1 rfl (lv_room (Nat.le_of_ble_eq_true rfl)) d_Mo_reads_239 ⟨Nat.zero_le _, Nat.zero_le _⟩) hP hD hS hA (fun H locs hP hD hS => ?_)
                  refine lv_iconst (v := 1) hx hb d_Mo_reads_242 (by decide) ?_
                  have hE : res = (true, f_Mo_give d v2 un2 u2) := hq.trans (rfl)
                  exact retWb (x := true) hx hb hr hP hK hD hS (congrArg Prod.fst hE).symm (congrArg Prod.snd hE).symm d_Mo_reads_243 hlocks
                refine rn_ge (tgt := 233) hx hb (by omega) (by omega) d_Mo_reads_206 (by decide) (fun c4 => ?_) (fun c4 => ?_)
                · skip
                  exact J233 un1 v1 _ _ _ ((by subst ev1; subst eun1; subst ho107; exact hq.trans ((if_neg (Nat.not_lt.mpr c4)).trans rfl))) hP hD hS (lv_sub hl [0, 1, 2, 3, 4, 5, 6, 7, 8] rfl)
                · skip
                  refine lv_iload hx hb d_Mo_reads_209 (lv_at hl 2 rfl) ?_
                  refine lv_bipush (v := nI 8) hx hb d_Mo_reads_211 (by decide) ?_
                  refine lv_iload hx hb d_Mo_reads_213 (lv_at hl 3 rfl) ?_
                  refine lv_imul hx hb d_Mo_reads_215 ?_
                  refine rw_top (y := nI (8 * n)) (pk_mul 8 n) ?_
                  refine callPi (va_runS (As := [.int v1, .int (nI (8 * n))]) (rest := []) ⟨hx, hb, hml, hown, hts⟩ (c_Mo_signed l v1 (nI (8 * n)) H.size) (va_cwS 2 hts (goodS m_16_10 m_16_11 m_0_12 m_16_12) rfl rfl rfl (by decide +kernel) ⟨Nat.le_of_ble_eq_true rfl, Nat.le_of_ble_eq_true rfl⟩) ⟨preP_blind, preP_ok⟩ rfl rfl hl.1 rfl (lv_room (Nat.le_of_ble_eq_true rfl)) d_Mo_reads_216 ⟨Nat.zero_le _, Nat.zero_le _⟩) hP hS hA (fun H locs hP hS => ?_)
                  refine lv_istore (lv' := [(6, .int (f_Mo_signed v1 (nI (8 * n)))), (8, .int (f_Mo_shut at_.toNatClampNeg n u1)), (7, .int un1), (5, .int (nI n)), (0, .ref (ad 0)), (1, .int (nI f)), (2, .int (nI d)), (3, .int (nI a)), (4, .int at_)]) hx hb d_Mo_reads_219 hl (by decide) rfl (fun ls hl => ?_)
                  refine lv_iload hx hb d_Mo_reads_221 (lv_at hl 2 rfl) ?_
                  refine lv_bipush (v := nI 8) hx hb d_Mo_reads_223 (by decide) ?_
                  refine lv_iload hx hb d_Mo_reads_225 (lv_at hl 3 rfl) ?_
                  refine lv_imul hx hb d_Mo_reads_227 ?_
                  refine rw_top (y := nI (8 * n)) (pk_mul 8 n) ?_
                  refine callPi (va_runS (As := [.int un1, .int (nI (8 * n))]) (rest := []) ⟨hx, hb, hml, hown, hts⟩ (c_Mo_signed l un1 (nI (8 * n)) H.size) (va_cwS 2 hts (goodS m_16_10 m_16_11 m_0_12 m_16_12) rfl rfl rfl (by decide +kernel) ⟨Nat.le_of_ble_eq_true rfl, Nat.le_of_ble_eq_true rfl⟩) ⟨preP_blind, preP_ok⟩ rfl rfl hl.1 rfl (lv_room (Nat.le_of_ble_eq_true rfl)) d_Mo_reads_228 ⟨Nat.zero_le _, Nat.zero_le _⟩) hP hS hA (fun H locs hP hS => ?_)
                  refine lv_istore (lv' := [(7, .int (f_Mo_signed un1 (nI (8 * n)))), (6, .int (f_Mo_signed v1 (nI (8 * n)))), (8, .int (f_Mo_shut at_.toNatClampNeg n u1)), (5, .int (nI n)), (0, .ref (ad 0)), (1, .int (nI f)), (2, .int (nI d)), (3, .int (nI a)), (4, .int at_)]) hx hb d_Mo_reads_231 hl (by decide) rfl (fun ls hl => ?_)
                  exact J233 (f_Mo_signed un1 (nI (8 * n))) (f_Mo_signed v1 (nI (8 * n))) _ _ _ ((by subst ev1; subst eun1; subst ho107; exact hq.trans ((if_pos c4).trans rfl))) hP hD hS (lv_sub hl [2, 0, 1, 3, 4, 5, 6, 7, 8] rfl)
              have L107 : ∀ (k : Nat) (i : Nat) (v : Int32) (un : Int32) (H : Heap) (locs : List Loc) (ls : Array Slot), (i ≤ n) → (n - i) < k → o107 = f_Mo_reads_107 f d a at_ u n u1 u2 k i v un → va_P (dC, dI) classes (wM cI cZ ad u2) H → va_D A (wM cI cZ ad u2) → va_S A s.heap H locs → lv_has ls 11 [(9, .int (nI i)), (8, .int (f_Mo_shut at_.toNatClampNeg n u1)), (7, .int un), (6, .int v), (5, .int (nI n)), (0, .ref (ad 0)), (1, .int (nI f)), (2, .int (nI d)), (3, .int (nI a)), (4, .int at_)] → W p l e (headSpec w_Mo_reads rm_Mo_reads).room s m ([.ref (ad 0), .int (nI f), .int (nI d), .int (nI a), .int at_] : List Value).toArray below meth c H locs 0 0 (MQ below (QWi (dC, dI) classes [(cI, .int), (cZ, .boolean)] (wM cI cZ ad) A (b2i res.1) res.2) ([.ref (ad 0), .int (nI f), .int (nI d), .int (nI a), .int at_] : List Value).toArray s 0 0 A) (F0 m 107 ls []) := by
                intro k
                induction k with
                | zero => intro i v un H locs ls hi hm; exact absurd hm (Nat.not_lt_zero _)
                | succ k107 ih107 =>
                  intro i v un H locs ls hi hm hq107 hP hD hS hl
                  refine lv_iload hx hb d_Mo_reads_107 (lv_at hl 0 rfl) ?_
                  refine lv_iload hx hb d_Mo_reads_109 (lv_at hl 4 rfl) ?_
                  refine rn_ge (tgt := 204) hx hb (by omega) (by omega) d_Mo_reads_111 (by decide) (fun c5 => ?_) (fun c5 => ?_)
                  · skip
                    exact K107 v un _ _ _ (Eq.symm (hq107.trans ((if_neg (Nat.not_lt.mpr c5)).trans rfl))) hP hD hS (lv_sub hl [1, 2, 3, 4, 5, 6, 7, 8, 9] rfl)
                  · skip
                    refine lv_iload hx hb d_Mo_reads_114 (lv_at hl 3 rfl) ?_
                    refine lv_aload_n hx hb d_Mo_reads_116 rfl (lv_at hl 5 rfl) ?_
                    refine va_get (D := (dC, dI)) (ci := 8) (v := .ref (ad 2)) (C := R_Mo) (T := F_Mo) (N := 31) hx hb hts in_Mo hown hK hP 0 rfl rfl 2 (by decide) (hts _ m_13_32) (fun _ h9 => h9) rfl d_Mo_reads_117 ?_
                    refine lv_iload hx hb d_Mo_reads_120 (lv_at hl 9 rfl) ?_
                    refine rw_top (y := nI at_.toNatClampNeg) (hp_n hb1) ?_
                    refine lv_iload hx hb d_Mo_reads_122 (lv_at hl 0 rfl) ?_
                    refine lv_iadd hx hb d_Mo_reads_124 ?_
                    refine rw_top (y := nI (at_.toNatClampNeg + i)) (nI_add at_.toNatClampNeg i) ?_
                    refine aldM_octet (u := u2) (v := aI u2 1 (at_.toNatClampNeg + i)) hx hb hK hP (by omega) rfl d_Mo_reads_125 ?_
                    refine lv_bipush (v := nI 8) hx hb d_Mo_reads_126 (by decide) ?_
                    refine lv_iload hx hb d_Mo_reads_128 (lv_at hl 0 rfl) ?_
                    refine lv_imul hx hb d_Mo_reads_130 ?_
                    refine rw_top (y := nI (8 * i)) (pk_mul 8 i) ?_
                    refine lv_ishl hx hb d_Mo_reads_131 ?_
                    refine lv_ior hx hb d_Mo_reads_132 ?_
                    refine lv_istore (lv' := [(6, .int (v ||| ((aI u2 1 (at_.toNatClampNeg + i)) <<< ((nI (8 * i)) &&& 31)))), (9, .int (nI i)), (8, .int (f_Mo_shut at_.toNatClampNeg n u1)), (7, .int un), (5, .int (nI n)), (0, .ref (ad 0)), (1, .int (nI f)), (2, .int (nI d)), (3, .int (nI a)), (4, .int at_)]) hx hb d_Mo_reads_133 hl (by decide) rfl (fun ls hl => ?_)
                    refine lv_aload_n hx hb d_Mo_reads_135 rfl (lv_at hl 5 rfl) ?_
                    refine va_get (D := (dC, dI)) (ci := 8) (v := .ref (ad 4)) (C := R_Mo) (T := F_Mo) (N := 31) hx hb hts in_Mo hown hK hP 0 rfl rfl 4 (by decide) (hts _ m_13_34) (fun _ h9 => h9) rfl d_Mo_reads_136 ?_
                    refine lv_iload hx hb d_Mo_reads_139 (lv_at hl 9 rfl) ?_
                    refine rw_top (y := nI at_.toNatClampNeg) (hp_n hb1) ?_
                    refine lv_iload hx hb d_Mo_reads_141 (lv_at hl 1 rfl) ?_
                    refine lv_iadd hx hb d_Mo_reads_143 ?_
                    refine rw_top (y := nI (at_.toNatClampNeg + i)) (nI_add at_.toNatClampNeg i) ?_
                    refine aldM_open (u := u2) (v := aB u2 0 (at_.toNatClampNeg + i)) hx hb hK hP (by omega) rfl d_Mo_reads_144 ?_
                    refine rb_eq (tgt := 198) hx hb d_Mo_reads_145 (by decide) (fun c6 => ?_) (fun c6 => ?_)
                    · skip
                      refine lv_iinc (v := nI (i + 1)) (lv' := [(9, .int (nI (i + 1))), (6, .int (v ||| ((aI u2 1 (at_.toNatClampNeg + i)) <<< ((nI (8 * i)) &&& 31)))), (8, .int (f_Mo_shut at_.toNatClampNeg n u1)), (7, .int un), (5, .int (nI n)), (0, .ref (ad 0)), (1, .int (nI f)), (2, .int (nI d)), (3, .int (nI a)), (4, .int at_)]) hx hb d_Mo_reads_198 hl (k := 1) rfl (rn_inc i 1 (by decide)) (by decide) rfl (fun ls hl => ?_)
                      refine lv_goto (tgt := 107) hx hb d_Mo_reads_201 (by decide) ?_
                      exact ih107 (i + 1) (v ||| ((aI u2 1 (at_.toNatClampNeg + i)) <<< ((nI (8 * i)) &&& 31))) un _ _ _ (by first | assumption | omega) (by omega) (hq107.trans ((if_pos c5).trans ((if_neg c6).trans rfl))) hP hD hS (lv_sub hl [0, 2, 3, 1, 4, 5, 6, 7, 8, 9] rfl)
                    · skip
                      refine lv_iconst (v := nI 0) hx hb d_Mo_reads_148 (by decide) ?_
                      refine lv_istore (lv' := [(10, .int (nI 0)), (6, .int (v ||| ((aI u2 1 (at_.toNatClampNeg + i)) <<< ((nI (8 * i)) &&& 31)))), (9, .int (nI i)), (8, .int (f_Mo_shut at_.toNatClampNeg n u1)), (7, .int un), (5, .int (nI n)), (0, .ref (ad 0)), (1, .int (nI f)), (2, .int (nI d)), (3, .int (nI a)), (4, .int at_)]) hx hb d_Mo_reads_149 hl (by decide) rfl (fun ls hl => ?_)
                      obtain ⟨o151, ho151⟩ : ∃ z : Int32, z = f_Mo_reads_151 f d a at_ u n u1 u2 i v 9 0 un := ⟨_, rfl⟩
                      have K151 : ∀ (un3 : Int32) (H : Heap) (locs : List Loc) (ls : Array Slot), un3 = o151 → va_P (dC, dI) classes (wM cI cZ ad u2) H → va_D A (wM cI cZ ad u2) → va_S A s.heap H locs → lv_has ls 11 [(6, .int (v ||| ((aI u2 1 (at_.toNatClampNeg + i)) <<< ((nI (8 * i)) &&& 31)))), (9, .int (nI i)), (8, .int (f_Mo_shut at_.toNatClampNeg n u1)), (7, .int un3), (5, .int (nI n)), (0, .ref (ad 0)), (1, .int (nI f)), (2, .int (nI d)), (3, .int (nI a)), (4, .int at_)] → W p l e (headSpec w_Mo_reads rm_Mo_reads).room s m ([.ref (ad 0), .int (nI f), .int (nI d), .int (nI a), .int at_] : List Value).toArray below meth c H locs 0 0 (MQ below (QWi (dC, dI) classes [(cI, .int), (cZ, .boolean)] (wM cI cZ ad) A (b2i res.1) res.2) ([.ref (ad 0), .int (nI f), .int (nI d), .int (nI a), .int at_] : List Value).toArray s 0 0 A) (F0 m 198 ls []) := by
                        intro un3 H locs ls eo hP hD hS hl
                        have eun3 := eo
                        refine lv_iinc (v := nI (i + 1)) (lv' := [(9, .int (nI (i + 1))), (6, .int (v ||| ((aI u2 1 (at_.toNatClampNeg + i)) <<< ((nI (8 * i)) &&& 31)))), (8, .int (f_Mo_shut at_.toNatClampNeg n u1)), (7, .int un3), (5, .int (nI n)), (0, .ref (ad 0)), (1, .int (nI f)), (2, .int (nI d)), (3, .int (nI a)), (4, .int at_)]) hx hb d_Mo_reads_198 hl (k := 1) rfl (rn_inc i 1 (by decide)) (by decide) rfl (fun ls hl => ?_)
                        refine lv_goto (tgt := 107) hx hb d_Mo_reads_201 (by decide) ?_
                        exact ih107 (i + 1) (v ||| ((aI u2 1 (at_.toNatClampNeg + i)) <<< ((nI (8 * i)) &&& 31))) un3 _ _ _ (by first | assumption | omega) (by omega) ((by subst eun3; subst ho151; exact hq107.trans ((if_pos c5).trans ((if_pos c6).trans rfl)))) hP hD hS (lv_sub hl [0, 2, 3, 1, 4, 5, 6, 7, 8, 9] rfl)
                      have L151 : ∀ (k : Nat) (j : Nat) (um : Int32) (H : Heap) (locs : List Loc) (ls : Array Slot), (j ≤ 8) → (8 - j) < k → o151 = f_Mo_reads_151 f d a at_ u n u1 u2 i v k j um → va_P (dC, dI) classes (wM cI cZ ad u2) H → va_D A (wM cI cZ ad u2) → va_S A s.heap H locs → lv_has ls 11 [(10, .int (nI j)), (6, .int (v ||| ((aI u2 1 (at_.toNatClampNeg + i)) <<< ((nI (8 * i)) &&& 31)))), (9, .int (nI i)), (8, .int (f_Mo_shut at_.toNatClampNeg n u1)), (7, .int um), (5, .int (nI n)), (0, .ref (ad 0)), (1, .int (nI f)), (2, .int (nI d)), (3, .int (nI a)), (4, .int at_)] → W p l e (headSpec w_Mo_reads rm_Mo_reads).room s m ([.ref (ad 0), .int (nI f), .int (nI d), .int (nI a), .int at_] : List Value).toArray below meth c H locs 0 0 (MQ below (QWi (dC, dI) classes [(cI, .int), (cZ, .boolean)] (wM cI cZ ad) A (b2i res.1) res.2) ([.ref (ad 0), .int (nI f), .int (nI d), .int (nI a), .int at_] : List Value).toArray s 0 0 A) (F0 m 151 ls []) := by
                        intro k
                        induction k with
                        | zero => intro j um H locs ls hj hm; exact absurd hm (Nat.not_lt_zero _)
                        | succ k151 ih151 =>
                          intro j um H locs ls hj hm hq151 hP hD hS hl
                          refine lv_iload hx hb d_Mo_reads_151 (lv_at hl 0 rfl) ?_
                          refine lv_bipush (v := nI 8) hx hb d_Mo_reads_153 (by decide) ?_
                          refine rn_ge (tgt := 198) hx hb (by omega) (by omega) d_Mo_reads_155 (by decide) (fun c7 => ?_) (fun c7 => ?_)
                          · skip
                            exact K151 um _ _ _ (Eq.symm (hq151.trans ((if_neg (Nat.not_lt.mpr c7)).trans rfl))) hP hD hS (lv_sub hl [1, 2, 3, 4, 5, 6, 7, 8, 9, 10] rfl)
                          · skip
                            refine lv_aload_n hx hb d_Mo_reads_158 rfl (lv_at hl 6 rfl) ?_
                            refine va_get (D := (dC, dI)) (ci := 8) (v := .ref (ad 5)) (C := R_Mo) (T := F_Mo) (N := 31) hx hb hts in_Mo hown hK hP 0 rfl rfl 5 (by decide) (hts _ m_13_35) (fun _ h9 => h9) rfl d_Mo_reads_159 ?_
                            refine lv_bipush (v := nI 8) hx hb d_Mo_reads_162 (by decide) ?_
                            refine lv_iload hx hb d_Mo_reads_164 (lv_at hl 10 rfl) ?_
                            refine rw_top (y := nI at_.toNatClampNeg) (hp_n hb1) ?_
                            refine lv_iload hx hb d_Mo_reads_166 (lv_at hl 2 rfl) ?_
                            refine lv_iadd hx hb d_Mo_reads_168 ?_
                            refine rw_top (y := nI (at_.toNatClampNeg + i)) (nI_add at_.toNatClampNeg i) ?_
                            refine lv_imul hx hb d_Mo_reads_169 ?_
                            refine rw_top (y := nI (8 * (at_.toNatClampNeg + i))) (pk_mul 8 (at_.toNatClampNeg + i)) ?_
                            refine lv_iload hx hb d_Mo_reads_170 (lv_at hl 0 rfl) ?_
                            refine lv_iadd hx hb d_Mo_reads_172 ?_
                            refine rw_top (y := nI (8 * (at_.toNatClampNeg + i) + j)) (nI_add (8 * (at_.toNatClampNeg + i)) j) ?_
                            refine aldM_dark (u := u2) (v := aB u2 1 (8 * (at_.toNatClampNeg + i) + j)) hx hb hK hP (by omega) rfl d_Mo_reads_173 ?_
                            refine rb_eq (tgt := 192) hx hb d_Mo_reads_174 (by decide) (fun c8 => ?_) (fun c8 => ?_)
                            · skip
                              refine lv_iinc (v := nI (j + 1)) (lv' := [(10, .int (nI (j + 1))), (6, .int (v ||| ((aI u2 1 (at_.toNatClampNeg + i)) <<< ((nI (8 * i)) &&& 31)))), (9, .int (nI i)), (8, .int (f_Mo_shut at_.toNatClampNeg n u1)), (7, .int um), (5, .int (nI n)), (0, .ref (ad 0)), (1, .int (nI f)), (2, .int (nI d)), (3, .int (nI a)), (4, .int at_)]) hx hb d_Mo_reads_192 hl (k := 0) rfl (rn_inc j 1 (by decide)) (by decide) rfl (fun ls hl => ?_)
                              refine lv_goto (tgt := 151) hx hb d_Mo_reads_195 (by decide) ?_
                              exact ih151 (j + 1) um _ _ _ (by first | assumption | omega) (by omega) (hq151.trans ((if_pos c7).trans ((if_neg c8).trans rfl))) hP hD hS (lv_sub hl [0, 1, 2, 3, 4, 5, 6, 7, 8, 9, 10] rfl)
                            · skip
                              refine lv_iload hx hb d_Mo_reads_177 (lv_at hl 4 rfl) ?_
                              refine lv_iconst (v := 1) hx hb d_Mo_reads_179 (by decide) ?_
                              refine lv_bipush (v := nI 8) hx hb d_Mo_reads_180 (by decide) ?_
                              refine lv_iload hx hb d_Mo_reads_182 (lv_at hl 2 rfl) ?_
                              refine lv_imul hx hb d_Mo_reads_184 ?_
                              refine rw_top (y := nI (8 * i)) (pk_mul 8 i) ?_
                              refine lv_iload hx hb d_Mo_reads_185 (lv_at hl 0 rfl) ?_
                              refine lv_iadd hx hb d_Mo_reads_187 ?_
                              refine rw_top (y := nI (8 * i + j)) (nI_add (8 * i) j) ?_
                              refine lv_ishl hx hb d_Mo_reads_188 ?_
                              refine lv_ior hx hb d_Mo_reads_189 ?_
                              refine lv_istore (lv' := [(7, .int (um ||| ((1 : Int32) <<< ((nI (8 * i + j)) &&& 31)))), (10, .int (nI j)), (6, .int (v ||| ((aI u2 1 (at_.toNatClampNeg + i)) <<< ((nI (8 * i)) &&& 31)))), (9, .int (nI i)), (8, .int (f_Mo_shut at_.toNatClampNeg n u1)), (5, .int (nI n)), (0, .ref (ad 0)), (1, .int (nI f)), (2, .int (nI d)), (3, .int (nI a)), (4, .int at_)]) hx hb d_Mo_reads_190 hl (by decide) rfl (fun ls hl => ?_)
                              refine lv_iinc (v := nI (j + 1)) (lv' := [(10, .int (nI (j + 1))), (7, .int (um ||| ((1 : Int32) <<< ((nI (8 * i + j)) &&& 31)))), (6, .int (v ||| ((aI u2 1 (at_.toNatClampNeg + i)) <<< ((nI (8 * i)) &&& 31)))), (9, .int (nI i)), (8, .int (f_Mo_shut at_.toNatClampNeg n u1)), (5, .int (nI n)), (0, .ref (ad 0)), (1, .int (nI f)), (2, .int (nI d)), (3, .int (nI a)), (4, .int at_)]) hx hb d_Mo_reads_192 hl (k := 1) rfl (rn_inc j 1 (by decide)) (by decide) rfl (fun ls hl => ?_)
                              refine lv_goto (tgt := 151) hx hb d_Mo_reads_195 (by decide) ?_
                              exact ih151 (j + 1) (um ||| ((1 : Int32) <<< ((nI (8 * i + j)) &&& 31))) _ _ _ (by first | assumption | omega) (by omega) (hq151.trans ((if_pos c7).trans ((if_pos c8).trans rfl))) hP hD hS (lv_sub hl [0, 2, 3, 4, 1, 5, 6, 7, 8, 9, 10] rfl)
                      exact L151 9 0 un _ _ _ (by first | assumption | omega) (by omega) (ho151) hP hD hS (lv_sub hl [0, 1, 2, 3, 4, 5, 6, 7, 8, 9, 10] rfl)
              exact L107 (n + 1) 0 0 0 _ _ _ (by first | assumption | omega) (by omega) (ho107) hP hD hS (lv_sub hl [0, 1, 2, 3, 4, 5, 6, 7, 8, 9] rfl)
            refine lv_if_lt (tgt := 104) hx hb d_Mo_reads_94 (by decide) (fun c9 => ?_) (fun c9 => ?_)
            · skip
              exact J104 u1 _ _ _ (hq.trans ((if_neg c3).trans ((if_pos c9).trans rfl))) hP hD hS (lv_sub hl [0, 1, 2, 3, 4, 5, 6, 7, 8] rfl)
            · skip
              refine lv_aload_n hx hb d_Mo_reads_97 rfl (lv_at hl 4 rfl) ?_
              refine lv_iconst (v := 4) hx hb d_Mo_reads_98 (by decide) ?_
              refine lv_iload hx hb d_Mo_reads_99 (lv_at hl 0 rfl) ?_
              refine callWv (va_runV (As := [.int 4, .int (f_Mo_shut at_.toNatClampNeg n u1)]) (rest := []) ⟨hx, hb, hml, hown, hts⟩ (c_Mo_fault l dC dI cI cZ ad u1 4 (f_Mo_shut at_.toNatClampNeg n u1) (by first | assumption | omega) H.size) (cwV 2 hts (goodV m_16_4 m_16_5 m_19_19 m_0_12 m_16_6) rfl rfl rfl (by decide +kernel) ⟨Nat.le_of_ble_eq_true rfl, Nat.le_of_ble_eq_true rfl⟩) ⟨preW_blind, va_recv hK hP (ci := 8) (q0 := 0) rfl rfl, preW_ok hP hD hK⟩ rfl rfl hl.1 rfl (lv_room (Nat.le_of_ble_eq_true rfl)) d_Mo_reads_101 ⟨Nat.zero_le _, Nat.zero_le _⟩) hP hD hS hA (fun H locs hP hD hS => ?_)
              exact J104 (f_Mo_fault 4 (f_Mo_shut at_.toNatClampNeg n u1) u1) _ _ _ (hq.trans ((if_neg c3).trans ((if_neg c9).trans rfl))) hP hD hS (lv_sub hl [0, 1, 2, 3, 4, 5, 6, 7, 8] rfl)
          · skip
            refine lv_aload_n hx hb d_Mo_reads_75 rfl (lv_at hl 3 rfl) ?_
            refine lv_iconst (v := 2) hx hb d_Mo_reads_76 (by decide) ?_
            refine callWv (va_runV (As := [.int 2]) (rest := []) ⟨hx, hb, hml, hown, hts⟩ (c_Mo_trap l dC dI cI cZ ad u1 2 H.size) (cwV 1 hts (goodV m_15_38 m_15_39 m_19_17 m_0_12 m_16_0) rfl rfl rfl (by decide +kernel) ⟨Nat.le_of_ble_eq_true rfl, Nat.le_of_ble_eq_true rfl⟩) ⟨preW_blind, va_recv hK hP (ci := 8) (q0 := 0) rfl rfl, preW_ok hP hD hK⟩ rfl rfl hl.1 rfl (lv_room (Nat.le_of_ble_eq_true rfl)) d_Mo_reads_77 ⟨Nat.zero_le _, Nat.zero_le _⟩) hP hD hS hA (fun H locs hP hD hS => ?_)
            refine lv_iconst (v := 0) hx hb d_Mo_reads_80 (by decide) ?_
            have hE : res = (false, f_Mo_trap 2 u1) := hq.trans ((if_pos c3).trans rfl)
            exact retWb (x := false) hx hb hr hP hK hD hS (congrArg Prod.fst hE).symm (congrArg Prod.snd hE).symm d_Mo_reads_81 hlocks
        refine rb_eq (tgt := 65) hx hb d_Mo_reads_55 (by decide) (fun c10 => ?_) (fun c10 => ?_)
        · skip
          exact J65 u _ _ _ ((by subst en; exact hq.trans ((if_neg c1).trans ((if_pos c2).trans ((if_neg c10).trans rfl))))) (by first | assumption | exact ft_ok _ _ ok) hP hD hS (lv_sub hl [0, 1, 2, 3, 4, 5, 6, 7] rfl)
        · skip
          refine lv_aload_n hx hb d_Mo_reads_58 rfl (lv_at hl 3 rfl) ?_
          refine lv_iconst (v := 3) hx hb d_Mo_reads_59 (by decide) ?_
          refine lv_iload hx hb d_Mo_reads_60 (lv_at hl 7 rfl) ?_
          refine callWv (va_runV (As := [.int 3, .int at_]) (rest := []) ⟨hx, hb, hml, hown, hts⟩ (c_Mo_fault l dC dI cI cZ ad u 3 at_ (by first | assumption | omega) H.size) (cwV 2 hts (goodV m_16_4 m_16_5 m_19_19 m_0_12 m_16_6) rfl rfl rfl (by decide +kernel) ⟨Nat.le_of_ble_eq_true rfl, Nat.le_of_ble_eq_true rfl⟩) ⟨preW_blind, va_recv hK hP (ci := 8) (q0 := 0) rfl rfl, preW_ok hP hD hK⟩ rfl rfl hl.1 rfl (lv_room (Nat.le_of_ble_eq_true rfl)) d_Mo_reads_62 ⟨Nat.zero_le _, Nat.zero_le _⟩) hP hD hS hA (fun H locs hP hD hS => ?_)
          exact J65 (f_Mo_fault 3 at_ u) _ _ _ ((by subst en; exact hq.trans ((if_neg c1).trans ((if_pos c2).trans ((if_pos c10).trans rfl))))) (by first | assumption | exact ft_ok _ _ ok) hP hD hS (lv_sub hl [0, 1, 2, 3, 4, 5, 6, 7] rfl)
      refine rz_eq (tgt := 26) hx hb (by omega) d_Mo_reads_18 (by decide) (fun c11 => ?_) (fun c11 => ?_)
      · skip
        refine lv_iconst (v := nI 1) hx hb d_Mo_reads_26 (by decide) ?_
        refine lv_goto (tgt := 40) hx hb d_Mo_reads_27 (by decide) ?_
        exact J40 1 _ _ (Eq.symm ((if_pos c11).trans (rfl))) hP hD hS
      · skip
        refine lv_iload_n hx hb d_Mo_reads_21 rfl (lv_at hl 1 rfl) ?_
        refine lv_iconst (v := nI 4) hx hb d_Mo_reads_22 (by decide) ?_
        refine rn_ne (tgt := 30) hx hb (by omega) (by omega) d_Mo_reads_23 (by decide) (fun c12 => ?_) (fun c12 => ?_)
        · skip
          refine lv_iload_n hx hb d_Mo_reads_30 rfl (lv_at hl 1 rfl) ?_
          refine lv_iconst (v := nI 2) hx hb d_Mo_reads_31 (by decide) ?_
          refine rn_ne (tgt := 39) hx hb (by omega) (by omega) d_Mo_reads_32 (by decide) (fun c13 => ?_) (fun c13 => ?_)
          · skip
            refine lv_iconst (v := nI 2) hx hb d_Mo_reads_39 (by decide) ?_
            exact J40 2 _ _ (Eq.symm ((if_neg c11).trans ((if_neg c12).trans ((if_neg c13).trans (rfl))))) hP hD hS
          · skip
            refine lv_iconst (v := nI 4) hx hb d_Mo_reads_35 (by decide) ?_
            refine lv_goto (tgt := 40) hx hb d_Mo_reads_36 (by decide) ?_
            exact J40 4 _ _ (Eq.symm ((if_neg c11).trans ((if_neg c12).trans ((if_pos c13).trans (rfl))))) hP hD hS
        · skip
          refine lv_iconst (v := nI 1) hx hb d_Mo_reads_26 (by decide) ?_
          refine lv_goto (tgt := 40) hx hb d_Mo_reads_27 (by decide) ?_
          exact J40 1 _ _ (Eq.symm ((if_neg c11).trans ((if_pos c12).trans (rfl)))) hP hD hS
    · skip
      refine lv_aload_n hx hb d_Mo_reads_10 rfl (lv_at hl 0 rfl) ?_
      refine lv_iconst (v := 1) hx hb d_Mo_reads_11 (by decide) ?_
      refine callWv (va_runV (As := [.int 1]) (rest := []) ⟨hx, hb, hml, hown, hts⟩ (c_Mo_trap l dC dI cI cZ ad u 1 s.heap.size) (cwV 1 hts (goodV m_15_38 m_15_39 m_19_17 m_0_12 m_16_0) rfl rfl rfl (by decide +kernel) ⟨Nat.le_of_ble_eq_true rfl, Nat.le_of_ble_eq_true rfl⟩) ⟨preW_blind, va_recv hK hP (ci := 8) (q0 := 0) rfl rfl, preW_ok hP hD hK⟩ rfl rfl hl.1 rfl (lv_room (Nat.le_of_ble_eq_true rfl)) d_Mo_reads_12 ⟨Nat.zero_le _, Nat.zero_le _⟩) hP hD hS hA (fun H locs hP hD hS => ?_)
      refine lv_iconst (v := 0) hx hb d_Mo_reads_15 (by decide) ?_
      have hE : res = (false, f_Mo_trap 1 u) := hq.trans ((if_neg c1).trans ((if_neg (Nat.not_le.mpr c2)).trans rfl))
      exact retWb (x := false) hx hb hr hP hK hD hS (congrArg Prod.fst hE).symm (congrArg Prod.snd hE).symm d_Mo_reads_16 hlocks
def w_Mo_stores : List Cond := .code y_Mo_stores b_Mo_stores 9 (some .boolean) :: ALLW
def rm_Mo_stores : Room := { frames := 21, cells := 0, slots := 0, locals := 623 }
theorem d_Mo_stores_0 : decode b_Mo_stores 0 = .ok (.iload_n 1, 1) := by decide +kernel
theorem d_Mo_stores_1 : decode b_Mo_stores 1 = .ok (.iconst 2, 1) := by decide +kernel
theorem d_Mo_stores_2 : decode b_Mo_stores 2 = .ok (.if_icmp .le 10, 3) := by decide +kernel
theorem d_Mo_stores_5 : decode b_Mo_stores 5 = .ok (.aload_n 0, 1) := by decide +kernel
theorem d_Mo_stores_6 : decode b_Mo_stores 6 = .ok (.iconst 1, 1) := by decide +kernel
theorem d_Mo_stores_7 : decode b_Mo_stores 7 = .ok (.invokevirtual 120, 3) := by decide +kernel
theorem d_Mo_stores_10 : decode b_Mo_stores 10 = .ok (.iconst 0, 1) := by decide +kernel
theorem d_Mo_stores_11 : decode b_Mo_stores 11 = .ok (.ireturn, 1) := by decide +kernel
theorem d_Mo_stores_12 : decode b_Mo_stores 12 = .ok (.iconst 1, 1) := by decide +kernel
theorem d_Mo_stores_13 : decode b_Mo_stores 13 = .ok (.iload_n 1, 1) := by decide +kernel
theorem d_Mo_stores_14 : decode b_Mo_stores 14 = .ok (.ishl, 1) := by decide +kernel
theorem d_Mo_stores_15 : decode b_Mo_stores 15 = .ok (.istore 5, 2) := by decide +kernel
theorem d_Mo_stores_17 : decode b_Mo_stores 17 = .ok (.aload_n 0, 1) := by decide +kernel
theorem d_Mo_stores_18 : decode b_Mo_stores 18 = .ok (.iload_n 2, 1) := by decide +kernel
theorem d_Mo_stores_19 : decode b_Mo_stores 19 = .ok (.bipush 32, 2) := by decide +kernel
theorem d_Mo_stores_21 : decode b_Mo_stores 21 = .ok (.invokevirtual 143, 3) := by decide +kernel
theorem d_Mo_stores_24 : decode b_Mo_stores 24 = .ok (.ifCond .eq 10, 3) := by decide +kernel
theorem d_Mo_stores_27 : decode b_Mo_stores 27 = .ok (.aload_n 0, 1) := by decide +kernel
theorem d_Mo_stores_28 : decode b_Mo_stores 28 = .ok (.iconst 3, 1) := by decide +kernel
theorem d_Mo_stores_29 : decode b_Mo_stores 29 = .ok (.iload 4, 2) := by decide +kernel
theorem d_Mo_stores_31 : decode b_Mo_stores 31 = .ok (.invokevirtual 128, 3) := by decide +kernel
theorem d_Mo_stores_34 : decode b_Mo_stores 34 = .ok (.iload 4, 2) := by decide +kernel
theorem d_Mo_stores_36 : decode b_Mo_stores 36 = .ok (.iload 5, 2) := by decide +kernel
theorem d_Mo_stores_38 : decode b_Mo_stores 38 = .ok (.invokestatic 174, 3) := by decide +kernel
theorem d_Mo_stores_41 : decode b_Mo_stores 41 = .ok (.ifCond .eq 10, 3) := by decide +kernel
theorem d_Mo_stores_44 : decode b_Mo_stores 44 = .ok (.aload_n 0, 1) := by decide +kernel
theorem d_Mo_stores_45 : decode b_Mo_stores 45 = .ok (.iconst 2, 1) := by decide +kernel
theorem d_Mo_stores_46 : decode b_Mo_stores 46 = .ok (.invokevirtual 120, 3) := by decide +kernel
theorem d_Mo_stores_49 : decode b_Mo_stores 49 = .ok (.iconst 0, 1) := by decide +kernel
theorem d_Mo_stores_50 : decode b_Mo_stores 50 = .ok (.ireturn, 1) := by decide +kernel
theorem d_Mo_stores_51 : decode b_Mo_stores 51 = .ok (.aload_n 0, 1) := by decide +kernel
theorem d_Mo_stores_52 : decode b_Mo_stores 52 = .ok (.iload 4, 2) := by decide +kernel
theorem d_Mo_stores_54 : decode b_Mo_stores 54 = .ok (.iload 5, 2) := by decide +kernel
theorem d_Mo_stores_56 : decode b_Mo_stores 56 = .ok (.invokevirtual 177, 3) := by decide +kernel
theorem d_Mo_stores_59 : decode b_Mo_stores 59 = .ok (.istore 6, 2) := by decide +kernel
theorem d_Mo_stores_61 : decode b_Mo_stores 61 = .ok (.iload 6, 2) := by decide +kernel
theorem d_Mo_stores_63 : decode b_Mo_stores 63 = .ok (.ifCond .lt 10, 3) := by decide +kernel
theorem d_Mo_stores_66 : decode b_Mo_stores 66 = .ok (.aload_n 0, 1) := by decide +kernel
theorem d_Mo_stores_67 : decode b_Mo_stores 67 = .ok (.iconst 4, 1) := by decide +kernel
theorem d_Mo_stores_68 : decode b_Mo_stores 68 = .ok (.iload 6, 2) := by decide +kernel
theorem d_Mo_stores_70 : decode b_Mo_stores 70 = .ok (.invokevirtual 128, 3) := by decide +kernel
theorem d_Mo_stores_73 : decode b_Mo_stores 73 = .ok (.iconst 0, 1) := by decide +kernel
theorem d_Mo_stores_74 : decode b_Mo_stores 74 = .ok (.istore 7, 2) := by decide +kernel
theorem d_Mo_stores_76 : decode b_Mo_stores 76 = .ok (.iload 7, 2) := by decide +kernel
theorem d_Mo_stores_78 : decode b_Mo_stores 78 = .ok (.iload 5, 2) := by decide +kernel
theorem d_Mo_stores_80 : decode b_Mo_stores 80 = .ok (.if_icmp .ge 85, 3) := by decide +kernel
theorem d_Mo_stores_83 : decode b_Mo_stores 83 = .ok (.aload_n 0, 1) := by decide +kernel
theorem d_Mo_stores_84 : decode b_Mo_stores 84 = .ok (.getfield 14, 3) := by decide +kernel
theorem d_Mo_stores_87 : decode b_Mo_stores 87 = .ok (.iload 4, 2) := by decide +kernel
theorem d_Mo_stores_89 : decode b_Mo_stores 89 = .ok (.iload 7, 2) := by decide +kernel
theorem d_Mo_stores_91 : decode b_Mo_stores 91 = .ok (.iadd, 1) := by decide +kernel
theorem d_Mo_stores_92 : decode b_Mo_stores 92 = .ok (.aload_n 0, 1) := by decide +kernel
theorem d_Mo_stores_93 : decode b_Mo_stores 93 = .ok (.getfield 17, 3) := by decide +kernel
theorem d_Mo_stores_96 : decode b_Mo_stores 96 = .ok (.iload_n 3, 1) := by decide +kernel
theorem d_Mo_stores_97 : decode b_Mo_stores 97 = .ok (.iaload, 1) := by decide +kernel
theorem d_Mo_stores_98 : decode b_Mo_stores 98 = .ok (.bipush 8, 2) := by decide +kernel
theorem d_Mo_stores_100 : decode b_Mo_stores 100 = .ok (.iload 7, 2) := by decide +kernel
theorem d_Mo_stores_102 : decode b_Mo_stores 102 = .ok (.imul, 1) := by decide +kernel
theorem d_Mo_stores_103 : decode b_Mo_stores 103 = .ok (.ishr, 1) := by decide +kernel
theorem d_Mo_stores_104 : decode b_Mo_stores 104 = .ok (.sipush 255, 3) := by decide +kernel
theorem d_Mo_stores_107 : decode b_Mo_stores 107 = .ok (.iand, 1) := by decide +kernel
theorem d_Mo_stores_108 : decode b_Mo_stores 108 = .ok (.iastore, 1) := by decide +kernel
theorem d_Mo_stores_109 : decode b_Mo_stores 109 = .ok (.iconst 0, 1) := by decide +kernel
theorem d_Mo_stores_110 : decode b_Mo_stores 110 = .ok (.istore 8, 2) := by decide +kernel
theorem d_Mo_stores_112 : decode b_Mo_stores 112 = .ok (.iload 8, 2) := by decide +kernel
theorem d_Mo_stores_114 : decode b_Mo_stores 114 = .ok (.bipush 8, 2) := by decide +kernel
theorem d_Mo_stores_116 : decode b_Mo_stores 116 = .ok (.if_icmp .ge 43, 3) := by decide +kernel
theorem d_Mo_stores_119 : decode b_Mo_stores 119 = .ok (.aload_n 0, 1) := by decide +kernel
theorem d_Mo_stores_120 : decode b_Mo_stores 120 = .ok (.getfield 25, 3) := by decide +kernel
theorem d_Mo_stores_123 : decode b_Mo_stores 123 = .ok (.bipush 8, 2) := by decide +kernel
theorem d_Mo_stores_125 : decode b_Mo_stores 125 = .ok (.iload 4, 2) := by decide +kernel
theorem d_Mo_stores_127 : decode b_Mo_stores 127 = .ok (.iload 7, 2) := by decide +kernel
theorem d_Mo_stores_129 : decode b_Mo_stores 129 = .ok (.iadd, 1) := by decide +kernel
theorem d_Mo_stores_130 : decode b_Mo_stores 130 = .ok (.imul, 1) := by decide +kernel
theorem d_Mo_stores_131 : decode b_Mo_stores 131 = .ok (.iload 8, 2) := by decide +kernel
theorem d_Mo_stores_133 : decode b_Mo_stores 133 = .ok (.iadd, 1) := by decide +kernel
theorem d_Mo_stores_134 : decode b_Mo_stores 134 = .ok (.aload_n 0, 1) := by decide +kernel
theorem d_Mo_stores_135 : decode b_Mo_stores 135 = .ok (.getfield 28, 3) := by decide +kernel
theorem d_Mo_stores_138 : decode b_Mo_stores 138 = .ok (.bipush 32, 2) := by decide +kernel
theorem d_Mo_stores_140 : decode b_Mo_stores 140 = .ok (.iload_n 3, 1) := by decide +kernel
theorem d_Mo_stores_141 : decode b_Mo_stores 141 = .ok (.imul, 1) := by decide +kernel
theorem d_Mo_stores_142 : decode b_Mo_stores 142 = .ok (.bipush 8, 2) := by decide +kernel
theorem d_Mo_stores_144 : decode b_Mo_stores 144 = .ok (.iload 7, 2) := by decide +kernel
theorem d_Mo_stores_146 : decode b_Mo_stores 146 = .ok (.imul, 1) := by decide +kernel
theorem d_Mo_stores_147 : decode b_Mo_stores 147 = .ok (.iadd, 1) := by decide +kernel
theorem d_Mo_stores_148 : decode b_Mo_stores 148 = .ok (.iload 8, 2) := by decide +kernel
theorem d_Mo_stores_150 : decode b_Mo_stores 150 = .ok (.iadd, 1) := by decide +kernel
theorem d_Mo_stores_151 : decode b_Mo_stores 151 = .ok (.baload, 1) := by decide +kernel
theorem d_Mo_stores_152 : decode b_Mo_stores 152 = .ok (.bastore, 1) := by decide +kernel
theorem d_Mo_stores_153 : decode b_Mo_stores 153 = .ok (.iinc 8 1, 3) := by decide +kernel
theorem d_Mo_stores_156 : decode b_Mo_stores 156 = .ok (.goto (-44), 3) := by decide +kernel
theorem d_Mo_stores_159 : decode b_Mo_stores 159 = .ok (.iinc 7 1, 3) := by decide +kernel
theorem d_Mo_stores_162 : decode b_Mo_stores 162 = .ok (.goto (-86), 3) := by decide +kernel
theorem d_Mo_stores_165 : decode b_Mo_stores 165 = .ok (.iconst 1, 1) := by decide +kernel
theorem d_Mo_stores_166 : decode b_Mo_stores 166 = .ok (.ireturn, 1) := by decide +kernel
def f_Mo_stores_112 (f : Nat) (a : Nat) (b : Nat) (at_ : Int32) (u : S5) (u1 : S5) (i : Nat) : Nat → Nat → S5 → S5
  | 0, j, u4 => u4
  | k112 + 1, j, u4 => if j < 8 then f_Mo_stores_112 f a b at_ u u1 i k112 (j + 1) (uB u4 1 (8 * (at_.toNatClampNeg + i) + j) (aB u4 2 (32 * b + (8 * i) + j))) else u4
def f_Mo_stores_76 (f : Nat) (a : Nat) (b : Nat) (at_ : Int32) (u : S5) (u1 : S5) : Nat → Nat → S5 → (Bool × S5)
  | 0, i, u3 => (false, u3)
  | k76 + 1, i, u3 => if i < (pv f) then (let v4 : S5 := f_Mo_stores_112 f a b at_ u u1 i 9 0 (uI u3 1 (at_.toNatClampNeg + i) (((aI u3 2 b) >>> ((nI (8 * i)) &&& 31)) &&& (255 : Int32))); f_Mo_stores_76 f a b at_ u u1 k76 (i + 1) v4) else (true, u3)
def f_Mo_stores_73 (f : Nat) (a : Nat) (b : Nat) (at_ : Int32) (u : S5) (u1 : S5) (u2 : S5) : Bool × S5 := f_Mo_stores_76 f a b at_ u u1 (pv f + 1) 0 u2
def f_Mo_stores_34 (f : Nat) (a : Nat) (b : Nat) (at_ : Int32) (u : S5) (u1 : S5) : Bool × S5 := if (f_Mo_beyond at_ (pv f)) = true then (false, f_Mo_trap 2 u1) else if (f_Mo_shut at_.toNatClampNeg (pv f) u1) < 0 then f_Mo_stores_73 f a b at_ u u1 u1 else f_Mo_stores_73 f a b at_ u u1 (f_Mo_fault 4 (f_Mo_shut at_.toNatClampNeg (pv f) u1) u1)
def f_Mo_stores (f : Nat) (a : Nat) (b : Nat) (at_ : Int32) (u : S5) : Bool × S5 := if f ≤ 2 then (if (f_Mo_anyDark a 32 u) = true then f_Mo_stores_34 f a b at_ u (f_Mo_fault 3 at_ u) else f_Mo_stores_34 f a b at_ u u) else (false, f_Mo_trap 1 u)
set_option maxHeartbeats 8000000 in
set_option maxRecDepth 100000 in
theorem c_Mo_stores (l : Launch) (dC : Nat → ClassId) (dI : Nat → Nat → Nat) (cI cZ : ClassId) (ad : Nat → Nat) (u : S5) (f : Nat) (a : Nat) (b : Nat) (at_ : Int32) (hf : f < 8) (ha : a < 32) (hb_ : b < 32) (ok : OkE u) (sz : Nat) : Met l y_Mo_stores w_Mo_stores rm_Mo_stores (PreW (dC, dI) classes [(cI, .int), (cZ, .boolean)] (wM cI cZ ad) u sz [.ref (ad 0), .int (nI f), .int (nI a), .int (nI b), .int at_]) (QWi (dC, dI) classes [(cI, .int), (cZ, .boolean)] (wM cI cZ ad) (va_A (wM cI cZ ad u) sz) (b2i (f_Mo_stores f a b at_ u).1) (f_Mo_stores f a b at_ u).2) 0 0 (va_A (wM cI cZ ad u) sz) := by
  generalize hres : f_Mo_stores f a b at_ u = res
  refine Met.ofW (cc := b_Mo_stores) (maxL := 9) (ret := (some .boolean)) (by decide) rfl ?_
  intro p e s m args below meth c s₁ B hml hv
  obtain ⟨rfl, rfl, hP, hK, hD0⟩ := hv
  have hx := B.exec
  have hb := B.bytes
  have hr := B.returns
  have hts : ∀ w9 ∈ ALLW, w9.before ([.ref (ad 0), .int (nI f), .int (nI a), .int (nI b), .int at_] : List Value).toArray s = true := fun w9 h => atoms_spec (ws := w_Mo_stores) B.pre w9 (List.mem_cons_of_mem _ h)
  have hown : s.vm.findClass R_Mo = some m.cls := findClass_of_methodNamed B.named
  have hlocks := B.notSynchronized
  have hD := hD0.self (sz := s.heap.size)
  generalize hAe : va_A (wM cI cZ ad u) s.heap.size = A at hD ⊢
  have hA : ∀ q : Nat, s.heap.size ≤ q → A q := fun q h => by rw [← hAe]; exact Or.inr h
  have hS : va_S A s.heap s.heap [] := va_S.rf
  have hl := lv_entry ([.ref (ad 0), .int (nI f), .int (nI a), .int (nI b), .int at_]) (n := 9) (Nat.le_of_ble_eq_true rfl)
  rw [lg_entry_eq]
  generalize (lg_sl ([.ref (ad 0), .int (nI f), .int (nI a), .int (nI b), .int at_]) ++ List.replicate (9 - (lg_sl ([.ref (ad 0), .int (nI f), .int (nI a), .int (nI b), .int at_])).length) Slot.unset).toArray = ls at hl ⊢
  have hl : lv_has ls 9 [(0, .ref (ad 0)), (1, .int (nI f)), (2, .int (nI a)), (3, .int (nI b)), (4, .int at_)] := hl
  have hq := hres.symm
  skip
  obtain ⟨oe6, oe5⟩ := id ok
  refine lv_iload_n hx hb d_Mo_stores_0 rfl (lv_at hl 1 rfl) ?_
  refine lv_iconst (v := nI 2) hx hb d_Mo_stores_1 (by decide) ?_
  refine rn_le (tgt := 12) hx hb (by omega) (by omega) d_Mo_stores_2 (by decide) (fun c1 => ?_) (fun c1 => ?_)
  · skip
    refine lv_iconst (v := 1) hx hb d_Mo_stores_12 (by decide) ?_
    refine lv_iload_n hx hb d_Mo_stores_13 rfl (lv_at hl 1 rfl) ?_
    refine lv_ishl hx hb d_Mo_stores_14 ?_
    refine rw_top (y := nI (pv f)) (st_e _ (by omega)) ?_
    have hn4 := st_4 _ c1
    refine lv_istore (lv' := [(5, .int (nI (pv f))), (0, .ref (ad 0)), (1, .int (nI f)), (2, .int (nI a)), (3, .int (nI b)), (4, .int at_)]) hx hb d_Mo_stores_15 hl (by decide) rfl (fun ls hl => ?_)
    refine lv_aload_n hx hb d_Mo_stores_17 rfl (lv_at hl 1 rfl) ?_
    refine lv_iload_n hx hb d_Mo_stores_18 rfl (lv_at hl 3 rfl) ?_
    refine lv_bipush (v := nI 32) hx hb d_Mo_stores_19 (by decide) ?_
    refine callWi (va_runV (As := [.int (nI a), .int (nI 32)]) (rest := []) ⟨hx, hb, hml, hown, hts⟩ (c_Mo_anyDark l dC dI cI cZ ad u a 32 (by first | assumption | omega) (by first | assumption | omega) s.heap.size) (cwV 2 hts (goodV m_16_16 m_16_17 m_19_22 m_0_12 m_16_18) rfl rfl rfl (by decide +kernel) ⟨Nat.le_of_ble_eq_true rfl, Nat.le_of_ble_eq_true rfl⟩) ⟨preW_blind, va_recv hK hP (ci := 8) (q0 := 0) rfl rfl, preW_ok hP hD hK⟩ rfl rfl hl.1 rfl (lv_room (Nat.le_of_ble_eq_true rfl)) d_Mo_stores_21 ⟨Nat.zero_le _, Nat.zero_le _⟩) hP hD hS hA (fun H locs hP hD hS => ?_)
    have J34 : ∀ (u1 : S5) (H : Heap) (locs : List Loc) (ls : Array Slot), res = f_Mo_stores_34 f a b at_ u u1 → (OkE u1) → va_P (dC, dI) classes (wM cI cZ ad u1) H → va_D A (wM cI cZ ad u1) → va_S A s.heap H locs → lv_has ls 9 [(5, .int (nI (pv f))), (0, .ref (ad 0)), (1, .int (nI f)), (2, .int (nI a)), (3, .int (nI b)), (4, .int at_)] → W p l e (headSpec w_Mo_stores rm_Mo_stores).room s m ([.ref (ad 0), .int (nI f), .int (nI a), .int (nI b), .int at_] : List Value).toArray below meth c H locs 0 0 (MQ below (QWi (dC, dI) classes [(cI, .int), (cZ, .boolean)] (wM cI cZ ad) A (b2i res.1) res.2) ([.ref (ad 0), .int (nI f), .int (nI a), .int (nI b), .int at_] : List Value).toArray s 0 0 A) (F0 m 34 ls []) := by
      intro u1 H locs ls hq okJ hP hD hS hl
      refine lv_iload hx hb d_Mo_stores_34 (lv_at hl 5 rfl) ?_
      refine lv_iload hx hb d_Mo_stores_36 (lv_at hl 0 rfl) ?_
      refine callPi (va_runS (As := [.int at_, .int (nI (pv f))]) (rest := []) ⟨hx, hb, hml, hown, hts⟩ (c_Mo_beyond l at_ (pv f) (by first | assumption | omega) H.size) (va_cwS 2 hts (goodS m_16_23 m_16_24 m_0_12 m_16_25) rfl rfl rfl (by decide +kernel) ⟨Nat.le_of_ble_eq_true rfl, Nat.le_of_ble_eq_true rfl⟩) ⟨preP_blind, preP_ok⟩ rfl rfl hl.1 rfl (lv_room (Nat.le_of_ble_eq_true rfl)) d_Mo_stores_38 ⟨Nat.zero_le _, Nat.zero_le _⟩) hP hS hA (fun H locs hP hS => ?_)
      refine rb_eq (tgt := 51) hx hb d_Mo_stores_41 (by decide) (fun c2 => ?_) (fun c2 => ?_)
      · skip
        obtain ⟨hb1, hb2⟩ := by_in (at_ := at_) (n := pv f) (by omega) (by assumption)
        refine lv_aload_n hx hb d_Mo_stores_51 rfl (lv_at hl 1 rfl) ?_
        refine lv_iload hx hb d_Mo_stores_52 (lv_at hl 5 rfl) ?_
        refine rw_top (y := nI at_.toNatClampNeg) (hp_n hb1) ?_
        refine lv_iload hx hb d_Mo_stores_54 (lv_at hl 0 rfl) ?_
        refine callWi (va_runV (As := [.int (nI at_.toNatClampNeg), .int (nI (pv f))]) (rest := []) ⟨hx, hb, hml, hown, hts⟩ (c_Mo_shut l dC dI cI cZ ad u1 at_.toNatClampNeg (pv f) (by first | assumption | omega) H.size) (cwV 2 hts (goodV m_16_26 m_16_27 m_19_24 m_0_12 m_16_28) rfl rfl rfl (by decide +kernel) ⟨Nat.le_of_ble_eq_true rfl, Nat.le_of_ble_eq_true rfl⟩) ⟨preW_blind, va_recv hK hP (ci := 8) (q0 := 0) rfl rfl, preW_ok hP hD hK⟩ rfl rfl hl.1 rfl (lv_room (Nat.le_of_ble_eq_true rfl)) d_Mo_stores_56 ⟨Nat.zero_le _, Nat.zero_le _⟩) hP hD hS hA (fun H locs hP hD hS => ?_)
        refine lv_istore (lv' := [(6, .int (f_Mo_shut at_.toNatClampNeg (pv f) u1)), (5, .int (nI (pv f))), (0, .ref (ad 0)), (1, .int (nI f)), (2, .int (nI a)), (3, .int (nI b)), (4, .int at_)]) hx hb d_Mo_stores_59 hl (by decide) rfl (fun ls hl => ?_)
        refine lv_iload hx hb d_Mo_stores_61 (lv_at hl 0 rfl) ?_
        have J73 : ∀ (u2 : S5) (H : Heap) (locs : List Loc) (ls : Array Slot), res = f_Mo_stores_73 f a b at_ u u1 u2 → va_P (dC, dI) classes (wM cI cZ ad u2) H → va_D A (wM cI cZ ad u2) → va_S A s.heap H locs → lv_has ls 9 [(6, .int (f_Mo_shut at_.toNatClampNeg (pv f) u1)), (5, .int (nI (pv f))), (0, .ref (ad 0)), (1, .int (nI f)), (2, .int (nI a)), (3, .int (nI b)), (4, .int at_)] → W p l e (headSpec w_Mo_stores rm_Mo_stores).room s m ([.ref (ad 0), .int (nI f), .int (nI a), .int (nI b), .int at_] : List Value).toArray below meth c H locs 0 0 (MQ below (QWi (dC, dI) classes [(cI, .int), (cZ, .boolean)] (wM cI cZ ad) A (b2i res.1) res.2) ([.ref (ad 0), .int (nI f), .int (nI a), .int (nI b), .int at_] : List Value).toArray s 0 0 A) (F0 m 73 ls []) := by
          intro u2 H locs ls hq hP hD hS hl
          refine lv_iconst (v := nI 0) hx hb d_Mo_stores_73 (by decide) ?_
          refine lv_istore (lv' := [(7, .int (nI 0)), (6, .int (f_Mo_shut at_.toNatClampNeg (pv f) u1)), (5, .int (nI (pv f))), (0, .ref (ad 0)), (1, .int (nI f)), (2, .int (nI a)), (3, .int (nI b)), (4, .int at_)]) hx hb d_Mo_stores_74 hl (by decide) rfl (fun ls hl => ?_)
          have L76 : ∀ (k : Nat) (i : Nat) (u3 : S5) (H : Heap) (locs : List Loc) (ls : Array Slot), (i ≤ pv f) → (pv f - i) < k → res = f_Mo_stores_76 f a b at_ u u1 k i u3 → va_P (dC, dI) classes (wM cI cZ ad u3) H → va_D A (wM cI cZ ad u3) → va_S A s.heap H locs → lv_has ls 9 [(7, .int (nI i)), (6, .int (f_Mo_shut at_.toNatClampNeg (pv f) u1)), (5, .int (nI (pv f))), (0, .ref (ad 0)), (1, .int (nI f)), (2, .int (nI a)), (3, .int (nI b)), (4, .int at_)] → W p l e (headSpec w_Mo_stores rm_Mo_stores).room s m ([.ref (ad 0), .int (nI f), .int (nI a), .int (nI b), .int at_] : List Value).toArray below meth c H locs 0 0 (MQ below (QWi (dC, dI) classes [(cI, .int), (cZ, .boolean)] (wM cI cZ ad) A (b2i res.1) res.2) ([.ref (ad 0), .int (nI f), .int (nI a), .int (nI b), .int at_] : List Value).toArray s 0 0 A) (F0 m 76 ls []) := by
            intro k
            induction k with
            | zero => intro i u3 H locs ls hi hm; exact absurd hm (Nat.not_lt_zero _)
            | succ k76 ih76 =>
              intro i u3 H locs ls hi hm hq76 hP hD hS hl
              refine lv_iload hx hb d_Mo_stores_76 (lv_at hl 0 rfl) ?_
              refine lv_iload hx hb d_Mo_stores_78 (lv_at hl 2 rfl) ?_
              refine rn_ge (tgt := 165) hx hb (by omega) (by omega) d_Mo_stores_80 (by decide) (fun c3 => ?_) (fun c3 => ?_)
              · skip
                refine lv_iconst (v := 1) hx hb d_Mo_stores_165 (by decide) ?_
                have hE : res = (true, u3) := hq76.trans ((if_neg (Nat.not_lt.mpr c3)).trans rfl)
                exact retWb (x := true) hx hb hr hP hK hD hS (congrArg Prod.fst hE).symm (congrArg Prod.snd hE).symm d_Mo_stores_166 hlocks
              · skip
                refine lv_aload_n hx hb d_Mo_stores_83 rfl (lv_at hl 3 rfl) ?_
                refine va_get (D := (dC, dI)) (ci := 8) (v := .ref (ad 2)) (C := R_Mo) (T := F_Mo) (N := 31) hx hb hts in_Mo hown hK hP 0 rfl rfl 2 (by decide) (hts _ m_13_32) (fun _ h9 => h9) rfl d_Mo_stores_84 ?_
                refine lv_iload hx hb d_Mo_stores_87 (lv_at hl 7 rfl) ?_
                refine rw_top (y := nI at_.toNatClampNeg) (hp_n hb1) ?_
                refine lv_iload hx hb d_Mo_stores_89 (lv_at hl 0 rfl) ?_
                refine lv_iadd hx hb d_Mo_stores_91 ?_
                refine rw_top (y := nI (at_.toNatClampNeg + i)) (nI_add at_.toNatClampNeg i) ?_
                refine lv_aload_n hx hb d_Mo_stores_92 rfl (lv_at hl 3 rfl) ?_
                refine va_get (D := (dC, dI)) (ci := 8) (v := .ref (ad 3)) (C := R_Mo) (T := F_Mo) (N := 31) hx hb hts in_Mo hown hK hP 0 rfl rfl 3 (by decide) (hts _ m_13_33) (fun _ h9 => h9) rfl d_Mo_stores_93 ?_
                refine lv_iload_n hx hb d_Mo_stores_96 rfl (lv_at hl 6 rfl) ?_
                refine aldM_x (u := u3) (v := aI u3 2 b) hx hb hK hP (by omega) rfl d_Mo_stores_97 ?_
                refine lv_bipush (v := nI 8) hx hb d_Mo_stores_98 (by decide) ?_
                refine lv_iload hx hb d_Mo_stores_100 (lv_at hl 0 rfl) ?_
                refine lv_imul hx hb d_Mo_stores_102 ?_
                refine rw_top (y := nI (8 * i)) (pk_mul 8 i) ?_
                refine lv_ishr hx hb d_Mo_stores_103 ?_
                refine lv_sipush (v := 255) hx hb d_Mo_stores_104 (by decide) ?_
                refine lv_iand hx hb d_Mo_stores_107 ?_
                refine astM_octet (u := u3) (n := at_.toNatClampNeg + i) hx hb hK hP hD hS (by omega) d_Mo_stores_108 (fun H locs hP hD hS => ?_)
                refine lv_iconst (v := nI 0) hx hb d_Mo_stores_109 (by decide) ?_
                refine lv_istore (lv' := [(8, .int (nI 0)), (7, .int (nI i)), (6, .int (f_Mo_shut at_.toNatClampNeg (pv f) u1)), (5, .int (nI (pv f))), (0, .ref (ad 0)), (1, .int (nI f)), (2, .int (nI a)), (3, .int (nI b)), (4, .int at_)]) hx hb d_Mo_stores_110 hl (by decide) rfl (fun ls hl => ?_)
                obtain ⟨o112, ho112⟩ : ∃ z : S5, z = f_Mo_stores_112 f a b at_ u u1 i 9 0 (uI u3 1 (at_.toNatClampNeg + i) (((aI u3 2 b) >>> ((nI (8 * i)) &&& 31)) &&& (255 : Int32))) := ⟨_, rfl⟩
                have K112 : ∀ (v4 : S5) (H : Heap) (locs : List Loc) (ls : Array Slot), v4 = o112 → va_P (dC, dI) classes (wM cI cZ ad v4) H → va_D A (wM cI cZ ad v4) → va_S A s.heap H locs → lv_has ls 9 [(7, .int (nI i)), (6, .int (f_Mo_shut at_.toNatClampNeg (pv f) u1)), (5, .int (nI (pv f))), (0, .ref (ad 0)), (1, .int (nI f)), (2, .int (nI a)), (3, .int (nI b)), (4, .int at_)] → W p l e (headSpec w_Mo_stores rm_Mo_stores).room s m ([.ref (ad 0), .int (nI f), .int (nI a), .int (nI b), .int at_] : List Value).toArray below meth c H locs 0 0 (MQ below (QWi (dC, dI) classes [(cI, .int), (cZ, .boolean)] (wM cI cZ ad) A (b2i res.1) res.2) ([.ref (ad 0), .int (nI f), .int (nI a), .int (nI b), .int at_] : List Value).toArray s 0 0 A) (F0 m 159 ls []) := by
                  intro v4 H locs ls eo hP hD hS hl
                  have ev4 := eo
                  refine lv_iinc (v := nI (i + 1)) (lv' := [(7, .int (nI (i + 1))), (6, .int (f_Mo_shut at_.toNatClampNeg (pv f) u1)), (5, .int (nI (pv f))), (0, .ref (ad 0)), (1, .int (nI f)), (2, .int (nI a)), (3, .int (nI b)), (4, .int at_)]) hx hb d_Mo_stores_159 hl (k := 0) rfl (rn_inc i 1 (by decide)) (by decide) rfl (fun ls hl => ?_)
                  refine lv_goto (tgt := 76) hx hb d_Mo_stores_162 (by decide) ?_
                  exact ih76 (i + 1) v4 _ _ _ (by first | assumption | omega) (by omega) ((by subst ev4; subst ho112; exact hq76.trans ((if_pos c3).trans rfl))) hP hD hS (lv_sub hl [0, 1, 2, 3, 4, 5, 6, 7] rfl)
                have L112 : ∀ (k : Nat) (j : Nat) (u4 : S5) (H : Heap) (locs : List Loc) (ls : Array Slot), (j ≤ 8) → (8 - j) < k → o112 = f_Mo_stores_112 f a b at_ u u1 i k j u4 → va_P (dC, dI) classes (wM cI cZ ad u4) H → va_D A (wM cI cZ ad u4) → va_S A s.heap H locs → lv_has ls 9 [(8, .int (nI j)), (7, .int (nI i)), (6, .int (f_Mo_shut at_.toNatClampNeg (pv f) u1)), (5, .int (nI (pv f))), (0, .ref (ad 0)), (1, .int (nI f)), (2, .int (nI a)), (3, .int (nI b)), (4, .int at_)] → W p l e (headSpec w_Mo_stores rm_Mo_stores).room s m ([.ref (ad 0), .int (nI f), .int (nI a), .int (nI b), .int at_] : List Value).toArray below meth c H locs 0 0 (MQ below (QWi (dC, dI) classes [(cI, .int), (cZ, .boolean)] (wM cI cZ ad) A (b2i res.1) res.2) ([.ref (ad 0), .int (nI f), .int (nI a), .int (nI b), .int at_] : List Value).toArray s 0 0 A) (F0 m 112 ls []) := by
                  intro k
                  induction k with
                  | zero => intro j u4 H locs ls hj hm; exact absurd hm (Nat.not_lt_zero _)
                  | succ k112 ih112 =>
                    intro j u4 H locs ls hj hm hq112 hP hD hS hl
                    refine lv_iload hx hb d_Mo_stores_112 (lv_at hl 0 rfl) ?_
                    refine lv_bipush (v := nI 8) hx hb d_Mo_stores_114 (by decide) ?_
                    refine rn_ge (tgt := 159) hx hb (by omega) (by omega) d_Mo_stores_116 (by decide) (fun c4 => ?_) (fun c4 => ?_)
                    · skip
                      exact K112 u4 _ _ _ (Eq.symm (hq112.trans ((if_neg (Nat.not_lt.mpr c4)).trans rfl))) hP hD hS (lv_sub hl [1, 2, 3, 4, 5, 6, 7, 8] rfl)
                    · skip
                      refine lv_aload_n hx hb d_Mo_stores_119 rfl (lv_at hl 4 rfl) ?_
                      refine va_get (D := (dC, dI)) (ci := 8) (v := .ref (ad 5)) (C := R_Mo) (T := F_Mo) (N := 31) hx hb hts in_Mo hown hK hP 0 rfl rfl 5 (by decide) (hts _ m_13_35) (fun _ h9 => h9) rfl d_Mo_stores_120 ?_
                      refine lv_bipush (v := nI 8) hx hb d_Mo_stores_123 (by decide) ?_
                      refine lv_iload hx hb d_Mo_stores_125 (lv_at hl 8 rfl) ?_
                      refine rw_top (y := nI at_.toNatClampNeg) (hp_n hb1) ?_
                      refine lv_iload hx hb d_Mo_stores_127 (lv_at hl 1 rfl) ?_
                      refine lv_iadd hx hb d_Mo_stores_129 ?_
                      refine rw_top (y := nI (at_.toNatClampNeg + i)) (nI_add at_.toNatClampNeg i) ?_
                      refine lv_imul hx hb d_Mo_stores_130 ?_
                      refine rw_top (y := nI (8 * (at_.toNatClampNeg + i))) (pk_mul 8 (at_.toNatClampNeg + i)) ?_
                      refine lv_iload hx hb d_Mo_stores_131 (lv_at hl 0 rfl) ?_
                      refine lv_iadd hx hb d_Mo_stores_133 ?_
                      refine rw_top (y := nI (8 * (at_.toNatClampNeg + i) + j)) (nI_add (8 * (at_.toNatClampNeg + i)) j) ?_
                      refine lv_aload_n hx hb d_Mo_stores_134 rfl (lv_at hl 4 rfl) ?_
                      refine va_get (D := (dC, dI)) (ci := 8) (v := .ref (ad 6)) (C := R_Mo) (T := F_Mo) (N := 31) hx hb hts in_Mo hown hK hP 0 rfl rfl 6 (by decide) (hts _ m_13_36) (fun _ h9 => h9) rfl d_Mo_stores_135 ?_
                      refine lv_bipush (v := nI 32) hx hb d_Mo_stores_138 (by decide) ?_
                      refine lv_iload_n hx hb d_Mo_stores_140 rfl (lv_at hl 7 rfl) ?_
                      refine lv_imul hx hb d_Mo_stores_141 ?_
                      refine rw_top (y := nI (32 * b)) (pk_mul 32 b) ?_
                      refine lv_bipush (v := nI 8) hx hb d_Mo_stores_142 (by decide) ?_
                      refine lv_iload hx hb d_Mo_stores_144 (lv_at hl 1 rfl) ?_
                      refine lv_imul hx hb d_Mo_stores_146 ?_
                      refine rw_top (y := nI (8 * i)) (pk_mul 8 i) ?_
                      refine lv_iadd hx hb d_Mo_stores_147 ?_
                      refine rw_top (y := nI (32 * b + (8 * i))) (nI_add (32 * b) (8 * i)) ?_
                      refine lv_iload hx hb d_Mo_stores_148 (lv_at hl 0 rfl) ?_
                      refine lv_iadd hx hb d_Mo_stores_150 ?_
                      refine rw_top (y := nI (32 * b + (8 * i) + j)) (nI_add (32 * b + (8 * i)) j) ?_
                      refine aldM_darkX (u := u4) (v := aB u4 2 (32 * b + (8 * i) + j)) hx hb hK hP (by omega) rfl d_Mo_stores_151 ?_
                      refine astM_dark (u := u4) (v := aB u4 2 (32 * b + (8 * i) + j)) (n := 8 * (at_.toNatClampNeg + i) + j) hx hb hK hP hD hS (by omega) d_Mo_stores_152 (fun H locs hP hD hS => ?_)
                      refine lv_iinc (v := nI (j + 1)) (lv' := [(8, .int (nI (j + 1))), (7, .int (nI i)), (6, .int (f_Mo_shut at_.toNatClampNeg (pv f) u1)), (5, .int (nI (pv f))), (0, .ref (ad 0)), (1, .int (nI f)), (2, .int (nI a)), (3, .int (nI b)), (4, .int at_)]) hx hb d_Mo_stores_153 hl (k := 0) rfl (rn_inc j 1 (by decide)) (by decide) rfl (fun ls hl => ?_)
                      refine lv_goto (tgt := 112) hx hb d_Mo_stores_156 (by decide) ?_
                      exact ih112 (j + 1) (uB u4 1 (8 * (at_.toNatClampNeg + i) + j) (aB u4 2 (32 * b + (8 * i) + j))) _ _ _ (by first | assumption | omega) (by omega) (hq112.trans ((if_pos c4).trans rfl)) hP hD hS (lv_sub hl [0, 1, 2, 3, 4, 5, 6, 7, 8] rfl)
                exact L112 9 0 (uI u3 1 (at_.toNatClampNeg + i) (((aI u3 2 b) >>> ((nI (8 * i)) &&& 31)) &&& (255 : Int32))) _ _ _ (by first | assumption | omega) (by omega) (ho112) hP hD hS (lv_sub hl [0, 1, 2, 3, 4, 5, 6, 7, 8] rfl)
          exact L76 (pv f + 1) 0 u2 _ _ _ (by first | assumption | omega) (by omega) (hq.trans (rfl)) hP hD hS (lv_sub hl [0, 1, 2, 3, 4, 5, 6, 7] rfl)
        refine lv_if_lt (tgt := 73) hx hb d_Mo_stores_63 (by decide) (fun c5 => ?_) (fun c5 => ?_)
        · skip
          exact J73 u1 _ _ _ (hq.trans ((if_neg c2).trans ((if_pos c5).trans rfl))) hP hD hS (lv_sub hl [0, 1, 2, 3, 4, 5, 6] rfl)
        · skip
          refine lv_aload_n hx hb d_Mo_stores_66 rfl (lv_at hl 2 rfl) ?_
          refine lv_iconst (v := 4) hx hb d_Mo_stores_67 (by decide) ?_
          refine lv_iload hx hb d_Mo_stores_68 (lv_at hl 0 rfl) ?_
          refine callWv (va_runV (As := [.int 4, .int (f_Mo_shut at_.toNatClampNeg (pv f) u1)]) (rest := []) ⟨hx, hb, hml, hown, hts⟩ (c_Mo_fault l dC dI cI cZ ad u1 4 (f_Mo_shut at_.toNatClampNeg (pv f) u1) (by first | assumption | omega) H.size) (cwV 2 hts (goodV m_16_4 m_16_5 m_19_19 m_0_12 m_16_6) rfl rfl rfl (by decide +kernel) ⟨Nat.le_of_ble_eq_true rfl, Nat.le_of_ble_eq_true rfl⟩) ⟨preW_blind, va_recv hK hP (ci := 8) (q0 := 0) rfl rfl, preW_ok hP hD hK⟩ rfl rfl hl.1 rfl (lv_room (Nat.le_of_ble_eq_true rfl)) d_Mo_stores_70 ⟨Nat.zero_le _, Nat.zero_le _⟩) hP hD hS hA (fun H locs hP hD hS => ?_)
          exact J73 (f_Mo_fault 4 (f_Mo_shut at_.toNatClampNeg (pv f) u1) u1) _ _ _ (hq.trans ((if_neg c2).trans ((if_neg c5).trans rfl))) hP hD hS (lv_sub hl [0, 1, 2, 3, 4, 5, 6] rfl)
      · skip
        refine lv_aload_n hx hb d_Mo_stores_44 rfl (lv_at hl 1 rfl) ?_
        refine lv_iconst (v := 2) hx hb d_Mo_stores_45 (by decide) ?_
        refine callWv (va_runV (As := [.int 2]) (rest := []) ⟨hx, hb, hml, hown, hts⟩ (c_Mo_trap l dC dI cI cZ ad u1 2 H.size) (cwV 1 hts (goodV m_15_38 m_15_39 m_19_17 m_0_12 m_16_0) rfl rfl rfl (by decide +kernel) ⟨Nat.le_of_ble_eq_true rfl, Nat.le_of_ble_eq_true rfl⟩) ⟨preW_blind, va_recv hK hP (ci := 8) (q0 := 0) rfl rfl, preW_ok hP hD hK⟩ rfl rfl hl.1 rfl (lv_room (Nat.le_of_ble_eq_true rfl)) d_Mo_stores_46 ⟨Nat.zero_le _, Nat.zero_le _⟩) hP hD hS hA (fun H locs hP hD hS => ?_)
        refine lv_iconst (v := 0) hx hb d_Mo_stores_49 (by decide) ?_
        have hE : res = (false, f_Mo_trap 2 u1) := hq.trans ((if_pos c2).trans rfl)
        exact retWb (x := false) hx hb hr hP hK hD hS (congrArg Prod.fst hE).symm (congrArg Prod.snd hE).symm d_Mo_stores_50 hlocks
    refine rb_eq (tgt := 34) hx hb d_Mo_stores_24 (by decide) (fun c6 => ?_) (fun c6 => ?_)
    · skip
      exact J34 u _ _ _ (hq.trans ((if_pos c1).trans ((if_neg c6).trans rfl))) (by first | assumption | exact ft_ok _ _ ok) hP hD hS (lv_sub hl [0, 1, 2, 3, 4, 5] rfl)
    · skip
      refine lv_aload_n hx hb d_Mo_stores_27 rfl (lv_at hl 1 rfl) ?_
      refine lv_iconst (v := 3) hx hb d_Mo_stores_28 (by decide) ?_
      refine lv_iload hx hb d_Mo_stores_29 (lv_at hl 5 rfl) ?_
      refine callWv (va_runV (As := [.int 3, .int at_]) (rest := []) ⟨hx, hb, hml, hown, hts⟩ (c_Mo_fault l dC dI cI cZ ad u 3 at_ (by first | assumption | omega) H.size) (cwV 2 hts (goodV m_16_4 m_16_5 m_19_19 m_0_12 m_16_6) rfl rfl rfl (by decide +kernel) ⟨Nat.le_of_ble_eq_true rfl, Nat.le_of_ble_eq_true rfl⟩) ⟨preW_blind, va_recv hK hP (ci := 8) (q0 := 0) rfl rfl, preW_ok hP hD hK⟩ rfl rfl hl.1 rfl (lv_room (Nat.le_of_ble_eq_true rfl)) d_Mo_stores_31 ⟨Nat.zero_le _, Nat.zero_le _⟩) hP hD hS hA (fun H locs hP hD hS => ?_)
      exact J34 (f_Mo_fault 3 at_ u) _ _ _ (hq.trans ((if_pos c1).trans ((if_pos c6).trans rfl))) (by first | assumption | exact ft_ok _ _ ok) hP hD hS (lv_sub hl [0, 1, 2, 3, 4, 5] rfl)
  · skip
    refine lv_aload_n hx hb d_Mo_stores_5 rfl (lv_at hl 0 rfl) ?_
    refine lv_iconst (v := 1) hx hb d_Mo_stores_6 (by decide) ?_
    refine callWv (va_runV (As := [.int 1]) (rest := []) ⟨hx, hb, hml, hown, hts⟩ (c_Mo_trap l dC dI cI cZ ad u 1 s.heap.size) (cwV 1 hts (goodV m_15_38 m_15_39 m_19_17 m_0_12 m_16_0) rfl rfl rfl (by decide +kernel) ⟨Nat.le_of_ble_eq_true rfl, Nat.le_of_ble_eq_true rfl⟩) ⟨preW_blind, va_recv hK hP (ci := 8) (q0 := 0) rfl rfl, preW_ok hP hD hK⟩ rfl rfl hl.1 rfl (lv_room (Nat.le_of_ble_eq_true rfl)) d_Mo_stores_7 ⟨Nat.zero_le _, Nat.zero_le _⟩) hP hD hS hA (fun H locs hP hD hS => ?_)
    refine lv_iconst (v := 0) hx hb d_Mo_stores_10 (by decide) ?_
    have hE : res = (false, f_Mo_trap 1 u) := hq.trans ((if_neg (Nat.not_le.mpr c1)).trans rfl)
    exact retWb (x := false) hx hb hr hP hK hD hS (congrArg Prod.fst hE).symm (congrArg Prod.snd hE).symm d_Mo_stores_11 hlocks
