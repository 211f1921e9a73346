def w_Mo_call : List Cond := .code y_Mo_call b_Mo_call 4 none :: ALLW
def rm_Mo_call : Room := { frames := 24, cells := 0, slots := 0, locals := 694 }
theorem d_Mo_call_0 : decode b_Mo_call 0 = .ok (.aload_n 0, 1) := by decide +kernel
theorem d_Mo_call_1 : decode b_Mo_call 1 = .ok (.getfield 17, 3) := by decide +kernel
theorem d_Mo_call_4 : decode b_Mo_call 4 = .ok (.bipush 17, 2) := by decide +kernel
theorem d_Mo_call_6 : decode b_Mo_call 6 = .ok (.iaload, 1) := by decide +kernel
theorem d_Mo_call_7 : decode b_Mo_call 7 = .ok (.istore_n 1, 1) := by decide +kernel
theorem d_Mo_call_8 : decode b_Mo_call 8 = .ok (.iload_n 1, 1) := by decide +kernel
theorem d_Mo_call_9 : decode b_Mo_call 9 = .ok (.iconst 1, 1) := by decide +kernel
theorem d_Mo_call_10 : decode b_Mo_call 10 = .ok (.if_icmp .lt 12, 3) := by decide +kernel
theorem d_Mo_call_13 : decode b_Mo_call 13 = .ok (.iload_n 1, 1) := by decide +kernel
theorem d_Mo_call_14 : decode b_Mo_call 14 = .ok (.iconst 5, 1) := by decide +kernel
theorem d_Mo_call_15 : decode b_Mo_call 15 = .ok (.if_icmp .gt 7, 3) := by decide +kernel
theorem d_Mo_call_18 : decode b_Mo_call 18 = .ok (.iconst 1, 1) := by decide +kernel
theorem d_Mo_call_19 : decode b_Mo_call 19 = .ok (.goto 4, 3) := by decide +kernel
theorem d_Mo_call_22 : decode b_Mo_call 22 = .ok (.iconst 0, 1) := by decide +kernel
theorem d_Mo_call_23 : decode b_Mo_call 23 = .ok (.istore_n 2, 1) := by decide +kernel
theorem d_Mo_call_24 : decode b_Mo_call 24 = .ok (.iload_n 1, 1) := by decide +kernel
theorem d_Mo_call_25 : decode b_Mo_call 25 = .ok (.iconst 4, 1) := by decide +kernel
theorem d_Mo_call_26 : decode b_Mo_call 26 = .ok (.if_icmp .ne 7, 3) := by decide +kernel
theorem d_Mo_call_29 : decode b_Mo_call 29 = .ok (.iconst 1, 1) := by decide +kernel
theorem d_Mo_call_30 : decode b_Mo_call 30 = .ok (.goto 4, 3) := by decide +kernel
theorem d_Mo_call_33 : decode b_Mo_call 33 = .ok (.iconst 0, 1) := by decide +kernel
theorem d_Mo_call_34 : decode b_Mo_call 34 = .ok (.istore_n 3, 1) := by decide +kernel
theorem d_Mo_call_35 : decode b_Mo_call 35 = .ok (.aload_n 0, 1) := by decide +kernel
theorem d_Mo_call_36 : decode b_Mo_call 36 = .ok (.bipush 17, 2) := by decide +kernel
theorem d_Mo_call_38 : decode b_Mo_call 38 = .ok (.bipush 32, 2) := by decide +kernel
theorem d_Mo_call_40 : decode b_Mo_call 40 = .ok (.invokevirtual 143, 3) := by decide +kernel
theorem d_Mo_call_43 : decode b_Mo_call 43 = .ok (.ifCond .eq 13, 3) := by decide +kernel
theorem d_Mo_call_46 : decode b_Mo_call 46 = .ok (.aload_n 0, 1) := by decide +kernel
theorem d_Mo_call_47 : decode b_Mo_call 47 = .ok (.iconst 5, 1) := by decide +kernel
theorem d_Mo_call_48 : decode b_Mo_call 48 = .ok (.bipush 17, 2) := by decide +kernel
theorem d_Mo_call_50 : decode b_Mo_call 50 = .ok (.invokevirtual 128, 3) := by decide +kernel
theorem d_Mo_call_53 : decode b_Mo_call 53 = .ok (.goto 60, 3) := by decide +kernel
theorem d_Mo_call_56 : decode b_Mo_call 56 = .ok (.iload_n 2, 1) := by decide +kernel
theorem d_Mo_call_57 : decode b_Mo_call 57 = .ok (.ifCond .eq 34, 3) := by decide +kernel
theorem d_Mo_call_60 : decode b_Mo_call 60 = .ok (.aload_n 0, 1) := by decide +kernel
theorem d_Mo_call_61 : decode b_Mo_call 61 = .ok (.bipush 10, 2) := by decide +kernel
theorem d_Mo_call_63 : decode b_Mo_call 63 = .ok (.iload_n 1, 1) := by decide +kernel
theorem d_Mo_call_64 : decode b_Mo_call 64 = .ok (.iconst 5, 1) := by decide +kernel
theorem d_Mo_call_65 : decode b_Mo_call 65 = .ok (.if_icmp .ne 8, 3) := by decide +kernel
theorem d_Mo_call_68 : decode b_Mo_call 68 = .ok (.bipush 8, 2) := by decide +kernel
theorem d_Mo_call_70 : decode b_Mo_call 70 = .ok (.goto 5, 3) := by decide +kernel
theorem d_Mo_call_73 : decode b_Mo_call 73 = .ok (.bipush 32, 2) := by decide +kernel
theorem d_Mo_call_75 : decode b_Mo_call 75 = .ok (.invokevirtual 143, 3) := by decide +kernel
theorem d_Mo_call_78 : decode b_Mo_call 78 = .ok (.ifCond .eq 13, 3) := by decide +kernel
theorem d_Mo_call_81 : decode b_Mo_call 81 = .ok (.aload_n 0, 1) := by decide +kernel
theorem d_Mo_call_82 : decode b_Mo_call 82 = .ok (.iconst 5, 1) := by decide +kernel
theorem d_Mo_call_83 : decode b_Mo_call 83 = .ok (.bipush 10, 2) := by decide +kernel
theorem d_Mo_call_85 : decode b_Mo_call 85 = .ok (.invokevirtual 128, 3) := by decide +kernel
theorem d_Mo_call_88 : decode b_Mo_call 88 = .ok (.goto 25, 3) := by decide +kernel
theorem d_Mo_call_91 : decode b_Mo_call 91 = .ok (.iload_n 3, 1) := by decide +kernel
theorem d_Mo_call_92 : decode b_Mo_call 92 = .ok (.ifCond .eq 21, 3) := by decide +kernel
theorem d_Mo_call_95 : decode b_Mo_call 95 = .ok (.aload_n 0, 1) := by decide +kernel
theorem d_Mo_call_96 : decode b_Mo_call 96 = .ok (.bipush 11, 2) := by decide +kernel
theorem d_Mo_call_98 : decode b_Mo_call 98 = .ok (.bipush 32, 2) := by decide +kernel
theorem d_Mo_call_100 : decode b_Mo_call 100 = .ok (.invokevirtual 143, 3) := by decide +kernel
theorem d_Mo_call_103 : decode b_Mo_call 103 = .ok (.ifCond .eq 10, 3) := by decide +kernel
theorem d_Mo_call_106 : decode b_Mo_call 106 = .ok (.aload_n 0, 1) := by decide +kernel
theorem d_Mo_call_107 : decode b_Mo_call 107 = .ok (.iconst 5, 1) := by decide +kernel
theorem d_Mo_call_108 : decode b_Mo_call 108 = .ok (.bipush 11, 2) := by decide +kernel
theorem d_Mo_call_110 : decode b_Mo_call 110 = .ok (.invokevirtual 128, 3) := by decide +kernel
theorem d_Mo_call_113 : decode b_Mo_call 113 = .ok (.iload_n 1, 1) := by decide +kernel
theorem d_Mo_call_114 : decode b_Mo_call 114 = .ok (.tableswitch 229 1 6 #[38, 61, 82, 120, 148, 188], 38) := by decide +kernel
theorem d_Mo_call_152 : decode b_Mo_call 152 = .ok (.aload_n 0, 1) := by decide +kernel
theorem d_Mo_call_153 : decode b_Mo_call 153 = .ok (.iconst 1, 1) := by decide +kernel
theorem d_Mo_call_154 : decode b_Mo_call 154 = .ok (.putfield 85, 3) := by decide +kernel
theorem d_Mo_call_157 : decode b_Mo_call 157 = .ok (.aload_n 0, 1) := by decide +kernel
theorem d_Mo_call_158 : decode b_Mo_call 158 = .ok (.aload_n 0, 1) := by decide +kernel
theorem d_Mo_call_159 : decode b_Mo_call 159 = .ok (.getfield 17, 3) := by decide +kernel
theorem d_Mo_call_162 : decode b_Mo_call 162 = .ok (.bipush 10, 2) := by decide +kernel
theorem d_Mo_call_164 : decode b_Mo_call 164 = .ok (.iaload, 1) := by decide +kernel
theorem d_Mo_call_165 : decode b_Mo_call 165 = .ok (.putfield 88, 3) := by decide +kernel
theorem d_Mo_call_168 : decode b_Mo_call 168 = .ok (.aload_n 0, 1) := by decide +kernel
theorem d_Mo_call_169 : decode b_Mo_call 169 = .ok (.invokevirtual 187, 3) := by decide +kernel
theorem d_Mo_call_172 : decode b_Mo_call 172 = .ok (.goto 179, 3) := by decide +kernel
theorem d_Mo_call_175 : decode b_Mo_call 175 = .ok (.aload_n 0, 1) := by decide +kernel
theorem d_Mo_call_176 : decode b_Mo_call 176 = .ok (.bipush 10, 2) := by decide +kernel
theorem d_Mo_call_178 : decode b_Mo_call 178 = .ok (.aload_n 0, 1) := by decide +kernel
theorem d_Mo_call_179 : decode b_Mo_call 179 = .ok (.aload_n 0, 1) := by decide +kernel
theorem d_Mo_call_180 : decode b_Mo_call 180 = .ok (.getfield 17, 3) := by decide +kernel
theorem d_Mo_call_183 : decode b_Mo_call 183 = .ok (.bipush 10, 2) := by decide +kernel
theorem d_Mo_call_185 : decode b_Mo_call 185 = .ok (.iaload, 1) := by decide +kernel
theorem d_Mo_call_186 : decode b_Mo_call 186 = .ok (.invokevirtual 190, 3) := by decide +kernel
theorem d_Mo_call_189 : decode b_Mo_call 189 = .ok (.iconst 0, 1) := by decide +kernel
theorem d_Mo_call_190 : decode b_Mo_call 190 = .ok (.invokevirtual 132, 3) := by decide +kernel
theorem d_Mo_call_193 : decode b_Mo_call 193 = .ok (.goto 158, 3) := by decide +kernel
theorem d_Mo_call_196 : decode b_Mo_call 196 = .ok (.aload_n 0, 1) := by decide +kernel
theorem d_Mo_call_197 : decode b_Mo_call 197 = .ok (.getfield 17, 3) := by decide +kernel
theorem d_Mo_call_200 : decode b_Mo_call 200 = .ok (.bipush 10, 2) := by decide +kernel
theorem d_Mo_call_202 : decode b_Mo_call 202 = .ok (.iaload, 1) := by decide +kernel
theorem d_Mo_call_203 : decode b_Mo_call 203 = .ok (.ifCond .eq 148, 3) := by decide +kernel
theorem d_Mo_call_206 : decode b_Mo_call 206 = .ok (.aload_n 0, 1) := by decide +kernel
theorem d_Mo_call_207 : decode b_Mo_call 207 = .ok (.aload_n 0, 1) := by decide +kernel
theorem d_Mo_call_208 : decode b_Mo_call 208 = .ok (.getfield 17, 3) := by decide +kernel
theorem d_Mo_call_211 : decode b_Mo_call 211 = .ok (.bipush 10, 2) := by decide +kernel
theorem d_Mo_call_213 : decode b_Mo_call 213 = .ok (.iaload, 1) := by decide +kernel
theorem d_Mo_call_214 : decode b_Mo_call 214 = .ok (.invokevirtual 193, 3) := by decide +kernel
theorem d_Mo_call_217 : decode b_Mo_call 217 = .ok (.ifCond .eq 134, 3) := by decide +kernel
theorem d_Mo_call_220 : decode b_Mo_call 220 = .ok (.aload_n 0, 1) := by decide +kernel
theorem d_Mo_call_221 : decode b_Mo_call 221 = .ok (.aload_n 0, 1) := by decide +kernel
theorem d_Mo_call_222 : decode b_Mo_call 222 = .ok (.getfield 17, 3) := by decide +kernel
theorem d_Mo_call_225 : decode b_Mo_call 225 = .ok (.bipush 10, 2) := by decide +kernel
theorem d_Mo_call_227 : decode b_Mo_call 227 = .ok (.iaload, 1) := by decide +kernel
theorem d_Mo_call_228 : decode b_Mo_call 228 = .ok (.invokevirtual 197, 3) := by decide +kernel
theorem d_Mo_call_231 : decode b_Mo_call 231 = .ok (.goto 120, 3) := by decide +kernel
theorem d_Mo_call_234 : decode b_Mo_call 234 = .ok (.aload_n 0, 1) := by decide +kernel
theorem d_Mo_call_235 : decode b_Mo_call 235 = .ok (.bipush 10, 2) := by decide +kernel
theorem d_Mo_call_237 : decode b_Mo_call 237 = .ok (.aload_n 0, 1) := by decide +kernel
theorem d_Mo_call_238 : decode b_Mo_call 238 = .ok (.aload_n 0, 1) := by decide +kernel
theorem d_Mo_call_239 : decode b_Mo_call 239 = .ok (.getfield 17, 3) := by decide +kernel
theorem d_Mo_call_242 : decode b_Mo_call 242 = .ok (.bipush 10, 2) := by decide +kernel
theorem d_Mo_call_244 : decode b_Mo_call 244 = .ok (.iaload, 1) := by decide +kernel
theorem d_Mo_call_245 : decode b_Mo_call 245 = .ok (.aload_n 0, 1) := by decide +kernel
theorem d_Mo_call_246 : decode b_Mo_call 246 = .ok (.getfield 17, 3) := by decide +kernel
theorem d_Mo_call_249 : decode b_Mo_call 249 = .ok (.bipush 11, 2) := by decide +kernel
theorem d_Mo_call_251 : decode b_Mo_call 251 = .ok (.iaload, 1) := by decide +kernel
theorem d_Mo_call_252 : decode b_Mo_call 252 = .ok (.invokevirtual 200, 3) := by decide +kernel
theorem d_Mo_call_255 : decode b_Mo_call 255 = .ok (.iconst 0, 1) := by decide +kernel
theorem d_Mo_call_256 : decode b_Mo_call 256 = .ok (.invokevirtual 132, 3) := by decide +kernel
theorem d_Mo_call_259 : decode b_Mo_call 259 = .ok (.goto 92, 3) := by decide +kernel
theorem d_Mo_call_262 : decode b_Mo_call 262 = .ok (.aload_n 0, 1) := by decide +kernel
theorem d_Mo_call_263 : decode b_Mo_call 263 = .ok (.getfield 106, 3) := by decide +kernel
theorem d_Mo_call_266 : decode b_Mo_call 266 = .ok (.sipush 4096, 3) := by decide +kernel
theorem d_Mo_call_269 : decode b_Mo_call 269 = .ok (.if_icmp .ge 82, 3) := by decide +kernel
theorem d_Mo_call_272 : decode b_Mo_call 272 = .ok (.aload_n 0, 1) := by decide +kernel
theorem d_Mo_call_273 : decode b_Mo_call 273 = .ok (.getfield 46, 3) := by decide +kernel
theorem d_Mo_call_276 : decode b_Mo_call 276 = .ok (.aload_n 0, 1) := by decide +kernel
theorem d_Mo_call_277 : decode b_Mo_call 277 = .ok (.dup, 1) := by decide +kernel
theorem d_Mo_call_278 : decode b_Mo_call 278 = .ok (.getfield 106, 3) := by decide +kernel
theorem d_Mo_call_281 : decode b_Mo_call 281 = .ok (.dup_x1, 1) := by decide +kernel
theorem d_Mo_call_282 : decode b_Mo_call 282 = .ok (.iconst 1, 1) := by decide +kernel
theorem d_Mo_call_283 : decode b_Mo_call 283 = .ok (.iadd, 1) := by decide +kernel
theorem d_Mo_call_284 : decode b_Mo_call 284 = .ok (.putfield 106, 3) := by decide +kernel
theorem d_Mo_call_287 : decode b_Mo_call 287 = .ok (.aload_n 0, 1) := by decide +kernel
theorem d_Mo_call_288 : decode b_Mo_call 288 = .ok (.getfield 17, 3) := by decide +kernel
theorem d_Mo_call_291 : decode b_Mo_call 291 = .ok (.bipush 10, 2) := by decide +kernel
theorem d_Mo_call_293 : decode b_Mo_call 293 = .ok (.iaload, 1) := by decide +kernel
theorem d_Mo_call_294 : decode b_Mo_call 294 = .ok (.sipush 255, 3) := by decide +kernel
theorem d_Mo_call_297 : decode b_Mo_call 297 = .ok (.iand, 1) := by decide +kernel
theorem d_Mo_call_298 : decode b_Mo_call 298 = .ok (.iastore, 1) := by decide +kernel
theorem d_Mo_call_299 : decode b_Mo_call 299 = .ok (.goto 52, 3) := by decide +kernel
theorem d_Mo_call_302 : decode b_Mo_call 302 = .ok (.aload_n 0, 1) := by decide +kernel
theorem d_Mo_call_303 : decode b_Mo_call 303 = .ok (.bipush 10, 2) := by decide +kernel
theorem d_Mo_call_305 : decode b_Mo_call 305 = .ok (.aload_n 0, 1) := by decide +kernel
theorem d_Mo_call_306 : decode b_Mo_call 306 = .ok (.getfield 103, 3) := by decide +kernel
theorem d_Mo_call_309 : decode b_Mo_call 309 = .ok (.aload_n 0, 1) := by decide +kernel
theorem d_Mo_call_310 : decode b_Mo_call 310 = .ok (.getfield 78, 3) := by decide +kernel
theorem d_Mo_call_313 : decode b_Mo_call 313 = .ok (.if_icmp .ge 22, 3) := by decide +kernel
theorem d_Mo_call_316 : decode b_Mo_call 316 = .ok (.aload_n 0, 1) := by decide +kernel
theorem d_Mo_call_317 : decode b_Mo_call 317 = .ok (.getfield 43, 3) := by decide +kernel
theorem d_Mo_call_320 : decode b_Mo_call 320 = .ok (.aload_n 0, 1) := by decide +kernel
theorem d_Mo_call_321 : decode b_Mo_call 321 = .ok (.dup, 1) := by decide +kernel
theorem d_Mo_call_322 : decode b_Mo_call 322 = .ok (.getfield 103, 3) := by decide +kernel
theorem d_Mo_call_325 : decode b_Mo_call 325 = .ok (.dup_x1, 1) := by decide +kernel
theorem d_Mo_call_326 : decode b_Mo_call 326 = .ok (.iconst 1, 1) := by decide +kernel
theorem d_Mo_call_327 : decode b_Mo_call 327 = .ok (.iadd, 1) := by decide +kernel
theorem d_Mo_call_328 : decode b_Mo_call 328 = .ok (.putfield 103, 3) := by decide +kernel
theorem d_Mo_call_331 : decode b_Mo_call 331 = .ok (.iaload, 1) := by decide +kernel
theorem d_Mo_call_332 : decode b_Mo_call 332 = .ok (.goto 4, 3) := by decide +kernel
theorem d_Mo_call_335 : decode b_Mo_call 335 = .ok (.iconst (-1), 1) := by decide +kernel
theorem d_Mo_call_336 : decode b_Mo_call 336 = .ok (.iconst 0, 1) := by decide +kernel
theorem d_Mo_call_337 : decode b_Mo_call 337 = .ok (.invokevirtual 132, 3) := by decide +kernel
theorem d_Mo_call_340 : decode b_Mo_call 340 = .ok (.goto 11, 3) := by decide +kernel
theorem d_Mo_call_343 : decode b_Mo_call 343 = .ok (.aload_n 0, 1) := by decide +kernel
theorem d_Mo_call_344 : decode b_Mo_call 344 = .ok (.bipush 10, 2) := by decide +kernel
theorem d_Mo_call_346 : decode b_Mo_call 346 = .ok (.iconst (-1), 1) := by decide +kernel
theorem d_Mo_call_347 : decode b_Mo_call 347 = .ok (.iconst 0, 1) := by decide +kernel
theorem d_Mo_call_348 : decode b_Mo_call 348 = .ok (.invokevirtual 132, 3) := by decide +kernel
theorem d_Mo_call_351 : decode b_Mo_call 351 = .ok (.return_, 1) := by decide +kernel
def f_Mo_call_336 (u : S5) (nn : Int32) (x1 : Bool) (x2 : Bool) (u2 : S5) (rv : Int32) : S5 := f_Mo_give 10 rv 0 u2
def f_Mo_call_113 (u : S5) (nn : Int32) (x1 : Bool) (x2 : Bool) (u1 : S5) : S5 := if nn = 1 then f_Mo_lost (sI (sI u1 2 1) 3 (aI u1 2 10)) else if nn = 2 then f_Mo_give 10 (nI ((f_Mo_block (aI u1 2 10) u1).1)) 0 ((f_Mo_block (aI u1 2 10) u1).2) else if nn = 3 then (if (aI u1 2 10) = 0 then u1 else if ((f_Mo_isLive (aI u1 2 10) u1).1) = true then f_Mo_back ((aI u1 2 10).toNatClampNeg) u1 else (f_Mo_isLive (aI u1 2 10) u1).2) else if nn = 4 then f_Mo_give 10 (nI ((f_Mo_again (aI u1 2 10) (aI u1 2 11) u1).1)) 0 ((f_Mo_again (aI u1 2 10) (aI u1 2 11) u1).2) else if nn = 5 then (if (gN u1 4) < 4096 then uI (sN u1 4 (gN u1 4 + 1)) 4 (gN u1 4) ((aI u1 2 10) &&& (255 : Int32)) else u1) else if nn = 6 then (if (gN u1 3) < (gN u1 2) then f_Mo_call_336 u nn x1 x2 (sN u1 3 (gN u1 3 + 1)) (aI u1 3 (gN u1 3)) else f_Mo_call_336 u nn x1 x2 u1 (-1)) else f_Mo_give 10 (-1) 0 u1
def f_Mo_call_91 (u : S5) (nn : Int32) (x1 : Bool) (x2 : Bool) : S5 := if x2 = true then (if (f_Mo_anyDark 11 32 u) = true then f_Mo_call_113 u nn x1 x2 (f_Mo_fault 5 11 u) else f_Mo_call_113 u nn x1 x2 u) else f_Mo_call_113 u nn x1 x2 u
def f_Mo_call (u : S5) : S5 := let nn : Int32 := aI u 2 17; let x1 : Bool := if nn < 1 then false else if 5 < nn then false else true; let x2 : Bool := if nn = 4 then true else false; if (f_Mo_anyDark 17 32 u) = true then f_Mo_call_113 u nn x1 x2 (f_Mo_fault 5 17 u) else if x1 = true then (let y : Nat := if nn = 5 then 8 else 32; if (f_Mo_anyDark 10 y u) = true then f_Mo_call_113 u nn x1 x2 (f_Mo_fault 5 10 u) else f_Mo_call_91 u nn x1 x2) else f_Mo_call_91 u nn x1 x2
set_option maxHeartbeats 8000000 in
set_option maxRecDepth 100000 in
theorem c_Mo_call (l : Launch) (dC : Nat → ClassId) (dI : Nat → Nat → Nat) (cI cZ : ClassId) (ad : Nat → Nat) (u : S5) (ok : OkE u) (okk : OkK u) (okq : OkQ u) (sz : Nat) : Met l y_Mo_call w_Mo_call rm_Mo_call (PreW (dC, dI) classes [(cI, .int), (cZ, .boolean)] (wM cI cZ ad) u sz [.ref (ad 0)]) (QWv (dC, dI) classes [(cI, .int), (cZ, .boolean)] (wM cI cZ ad) (va_A (wM cI cZ ad u) sz) (f_Mo_call u)) 0 0 (va_A (wM cI cZ ad u) sz) := by
  generalize hres : f_Mo_call u = res
  refine Met.ofW (cc := b_Mo_call) (maxL := 4) (ret := none) (by decide) rfl ?_
  intro p e s m args below meth c s₁ B hml hv
  obtain ⟨rfl, rfl, hP, hK, hD0⟩ := hv
  have hx := B.exec
  have hb := B.bytes
  have hr := B.returns
  have hts : ∀ w9 ∈ ALLW, w9.before ([.ref (ad 0)] : List Value).toArray s = true := fun w9 h => atoms_spec (ws := w_Mo_call) B.pre w9 (List.mem_cons_of_mem _ h)
  have hown : s.vm.findClass R_Mo = some m.cls := findClass_of_methodNamed B.named
  have hlocks := B.notSynchronized
  have hD := hD0.self (sz := s.heap.size)
  generalize hAe : va_A (wM cI cZ ad u) s.heap.size = A at hD ⊢
  have hA : ∀ q : Nat, s.heap.size ≤ q → A q := fun q h => by rw [← hAe]; exact Or.inr h
  have hS : va_S A s.heap s.heap [] := va_S.rf
  have hl := lv_entry ([.ref (ad 0)]) (n := 4) (Nat.le_of_ble_eq_true rfl)
  rw [lg_entry_eq]
  generalize (lg_sl ([.ref (ad 0)]) ++ List.replicate (4 - (lg_sl ([.ref (ad 0)])).length) Slot.unset).toArray = ls at hl ⊢
  have hl : lv_has ls 4 [(0, .ref (ad 0))] := hl
  have hq := hres.symm
  skip
  obtain ⟨oe6, oe5⟩ := id ok
  refine lv_aload_n hx hb d_Mo_call_0 rfl (lv_at hl 0 rfl) ?_
  refine va_get (D := (dC, dI)) (ci := 8) (v := .ref (ad 3)) (C := R_Mo) (T := F_Mo) (N := 31) hx hb hts in_Mo hown hK hP 0 rfl rfl 3 (by decide) (hts _ m_13_33) (fun _ h9 => h9) rfl d_Mo_call_1 ?_
  refine lv_bipush (v := nI 17) hx hb d_Mo_call_4 (by decide) ?_
  refine aldM_x (u := u) (v := aI u 2 17) hx hb hK hP (by omega) rfl d_Mo_call_6 ?_
  obtain ⟨nn, enn⟩ : ∃ z : Int32, z = aI u 2 17 := ⟨_, rfl⟩
  refine rw_top (y := nn) (by rw [enn]) ?_
  refine lv_istore_n (lv' := [(1, .int nn), (0, .ref (ad 0))]) hx hb d_Mo_call_7 rfl hl (by decide) rfl (fun ls hl => ?_)
  refine lv_iload_n hx hb d_Mo_call_8 rfl (lv_at hl 0 rfl) ?_
  refine lv_iconst (v := 1) hx hb d_Mo_call_9 (by decide) ?_
  have J23 : ∀ (x1 : Bool) (H : Heap) (locs : List Loc), x1 = (if nn < 1 then false else if 5 < nn then false else true) → va_P (dC, dI) classes (wM cI cZ ad u) H → va_D A (wM cI cZ ad u) → va_S A s.heap H locs → W p l e (headSpec w_Mo_call rm_Mo_call).room s m ([.ref (ad 0)] : List Value).toArray below meth c H locs 0 0 (MQ below (QWv (dC, dI) classes [(cI, .int), (cZ, .boolean)] (wM cI cZ ad) A res) ([.ref (ad 0)] : List Value).toArray s 0 0 A) (F0 m 23 ls [.int (b2i x1)]) := by
    intro x1 H locs ex1 hP hD hS
    refine lv_istore_n (lv' := [(2, .int (b2i x1)), (1, .int nn), (0, .ref (ad 0))]) hx hb d_Mo_call_23 rfl hl (by decide) rfl (fun ls hl => ?_)
    refine lv_iload_n hx hb d_Mo_call_24 rfl (lv_at hl 1 rfl) ?_
    refine lv_iconst (v := 4) hx hb d_Mo_call_25 (by decide) ?_
    have J34 : ∀ (x2 : Bool) (H : Heap) (locs : List Loc), x2 = (if nn = 4 then true else false) → va_P (dC, dI) classes (wM cI cZ ad u) H → va_D A (wM cI cZ ad u) → va_S A s.heap H locs → W p l e (headSpec w_Mo_call rm_Mo_call).room s m ([.ref (ad 0)] : List Value).toArray below meth c H locs 0 0 (MQ below (QWv (dC, dI) classes [(cI, .int), (cZ, .boolean)] (wM cI cZ ad) A res) ([.ref (ad 0)] : List Value).toArray s 0 0 A) (F0 m 34 ls [.int (b2i x2)]) := by
      intro x2 H locs ex2 hP hD hS
      refine lv_istore_n (lv' := [(3, .int (b2i x2)), (2, .int (b2i x1)), (1, .int nn), (0, .ref (ad 0))]) hx hb d_Mo_call_34 rfl hl (by decide) rfl (fun ls hl => ?_)
      refine lv_aload_n hx hb d_Mo_call_35 rfl (lv_at hl 3 rfl) ?_
      refine lv_bipush (v := nI 17) hx hb d_Mo_call_36 (by decide) ?_
      refine lv_bipush (v := nI 32) hx hb d_Mo_call_38 (by decide) ?_
      refine callWi (va_runV (As := [.int (nI 17), .int (nI 32)]) (rest := []) ⟨hx, hb, hml, hown, hts⟩ (c_Mo_anyDark l dC dI cI cZ ad u 17 32 (by first | assumption | omega) (by first | assumption | omega) H.size) (cwV 2 hts (goodV m_16_16 m_16_17 m_19_22 m_0_12 m_16_18) rfl rfl rfl (by decide +kernel) ⟨Nat.le_of_ble_eq_true rfl, Nat.le_of_ble_eq_true rfl⟩) ⟨preW_blind, va_recv hK hP (ci := 8) (q0 := 0) rfl rfl, preW_ok hP hD hK⟩ rfl rfl hl.1 rfl (lv_room (Nat.le_of_ble_eq_true rfl)) d_Mo_call_40 ⟨Nat.zero_le _, Nat.zero_le _⟩) hP hD hS hA (fun H locs hP hD hS => ?_)
      have J113 : ∀ (u1 : S5) (H : Heap) (locs : List Loc) (ls : Array Slot), res = f_Mo_call_113 u nn x1 x2 u1 → (OkE u1) → (OkK u1) → (OkQ u1) → va_P (dC, dI) classes (wM cI cZ ad u1) H → va_D A (wM cI cZ ad u1) → va_S A s.heap H locs → lv_has ls 4 [(3, .int (b2i x2)), (2, .int (b2i x1)), (1, .int nn), (0, .ref (ad 0))] → W p l e (headSpec w_Mo_call rm_Mo_call).room s m ([.ref (ad 0)] : List Value).toArray below meth c H locs 0 0 (MQ below (QWv (dC, dI) classes [(cI, .int), (cZ, .boolean)] (wM cI cZ ad) A res) ([.ref (ad 0)] : List Value).toArray s 0 0 A) (F0 m 113 ls []) := by
        intro u1 H locs ls hq oke1 okk1 okq1 hP hD hS hl
        obtain ⟨n0, n1, okl1⟩ := id okk1
        obtain ⟨q3, q2, q4⟩ := id okq1
        refine lv_iload_n hx hb d_Mo_call_113 rfl (lv_at hl 2 rfl) ?_
        by_cases c3 : nn = 1
        · skip
          refine lv_tableIn (off := 38) (tgt := 152) hx hb d_Mo_call_114 (by rw [c3]; decide) (by rw [c3]; decide) (by rw [c3]; decide) (by decide) ?_
          refine lv_aload_n hx hb d_Mo_call_152 rfl (lv_at hl 3 rfl) ?_
          refine lv_iconst (v := 1) hx hb d_Mo_call_153 (by decide) ?_
          refine va_put (D := (dC, dI)) (ci := 8) (v := .int 1) (ty := .int) (C := R_Mo) (T := F_Mo) (N := 31) hx hb hts in_Mo t_Mo t_Mo_ok n_Mo hown hK hP hD hS 0 rfl rfl 8 (by decide) (hts _ m_13_38) (fun _ h9 => h9) rfl (by decide +kernel) rfl rfl (Nat.le_of_ble_eq_true rfl) d_Mo_call_154 (fun H locs hP hD hS => ?_)
          have hP : va_P (dC, dI) classes (wM cI cZ ad (sI u1 2 1)) H := hP
          have hD : va_D A (wM cI cZ ad (sI u1 2 1)) := hD
          refine lv_aload_n hx hb d_Mo_call_157 rfl (lv_at hl 3 rfl) ?_
          refine lv_aload_n hx hb d_Mo_call_158 rfl (lv_at hl 3 rfl) ?_
          refine va_get (D := (dC, dI)) (ci := 8) (v := .ref (ad 3)) (C := R_Mo) (T := F_Mo) (N := 31) hx hb hts in_Mo hown hK hP 0 rfl rfl 3 (by decide) (hts _ m_13_33) (fun _ h9 => h9) rfl d_Mo_call_159 ?_
          refine lv_bipush (v := nI 10) hx hb d_Mo_call_162 (by decide) ?_
          refine aldM_x (u := (sI u1 2 1)) (v := aI u1 2 10) hx hb hK hP (by omega) rfl d_Mo_call_164 ?_
          refine va_put (D := (dC, dI)) (ci := 8) (v := .int (aI u1 2 10)) (ty := .int) (C := R_Mo) (T := F_Mo) (N := 31) hx hb hts in_Mo t_Mo t_Mo_ok n_Mo hown hK hP hD hS 0 rfl rfl 9 (by decide) (hts _ m_13_39) (fun _ h9 => h9) rfl (by decide +kernel) rfl rfl (Nat.le_of_ble_eq_true rfl) d_Mo_call_165 (fun H locs hP hD hS => ?_)
          have hP : va_P (dC, dI) classes (wM cI cZ ad (sI (sI u1 2 1) 3 (aI u1 2 10))) H := hP
          have hD : va_D A (wM cI cZ ad (sI (sI u1 2 1) 3 (aI u1 2 10))) := hD
          refine lv_aload_n hx hb d_Mo_call_168 rfl (lv_at hl 3 rfl) ?_
          refine callWv (va_runV (As := []) (rest := []) ⟨hx, hb, hml, hown, hts⟩ (c_Mo_lost l dC dI cI cZ ad (sI (sI u1 2 1) 3 (aI u1 2 10)) oke1 okl1 H.size) (cwV 0 hts (goodV m_17_13 m_17_14 m_19_31 m_0_12 m_17_15) rfl rfl rfl (by decide +kernel) ⟨Nat.le_of_ble_eq_true rfl, Nat.le_of_ble_eq_true rfl⟩) ⟨preW_blind, va_recv hK hP (ci := 8) (q0 := 0) rfl rfl, preW_ok hP hD hK⟩ rfl rfl hl.1 rfl (lv_room (Nat.le_of_ble_eq_true rfl)) d_Mo_call_169 ⟨Nat.zero_le _, Nat.zero_le _⟩) hP hD hS hA (fun H locs hP hD hS => ?_)
          refine lv_goto (tgt := 351) hx hb d_Mo_call_172 (by decide) ?_
          have hE : res = f_Mo_lost (sI (sI u1 2 1) 3 (aI u1 2 10)) := hq.trans ((if_pos c3).trans rfl)
          exact retWv hx hb hr hP hK hD hS hE.symm d_Mo_call_351 hlocks
        by_cases c4 : nn = 2
        · skip
          refine lv_tableIn (off := 61) (tgt := 175) hx hb d_Mo_call_114 (by rw [c4]; decide) (by rw [c4]; decide) (by rw [c4]; decide) (by decide) ?_
          refine lv_aload_n hx hb d_Mo_call_175 rfl (lv_at hl 3 rfl) ?_
          refine lv_bipush (v := nI 10) hx hb d_Mo_call_176 (by decide) ?_
          refine lv_aload_n hx hb d_Mo_call_178 rfl (lv_at hl 3 rfl) ?_
          refine lv_aload_n hx hb d_Mo_call_179 rfl (lv_at hl 3 rfl) ?_
          refine va_get (D := (dC, dI)) (ci := 8) (v := .ref (ad 3)) (C := R_Mo) (T := F_Mo) (N := 31) hx hb hts in_Mo hown hK hP 0 rfl rfl 3 (by decide) (hts _ m_13_33) (fun _ h9 => h9) rfl d_Mo_call_180 ?_
          refine lv_bipush (v := nI 10) hx hb d_Mo_call_183 (by decide) ?_
          refine aldM_x (u := u1) (v := aI u1 2 10) hx hb hK hP (by omega) rfl d_Mo_call_185 ?_
          refine callWi (va_runV (As := [.int (aI u1 2 10)]) (rest := [.int (nI 10), .ref (ad 0)]) ⟨hx, hb, hml, hown, hts⟩ (c_Mo_block l dC dI cI cZ ad u1 (aI u1 2 10) n0 okl1 H.size) (cwV 1 hts (goodV m_17_26 m_17_27 m_19_35 m_0_12 m_17_28) rfl rfl rfl (by decide +kernel) ⟨Nat.le_of_ble_eq_true rfl, Nat.le_of_ble_eq_true rfl⟩) ⟨preW_blind, va_recv hK hP (ci := 8) (q0 := 0) rfl rfl, preW_ok hP hD hK⟩ rfl rfl hl.1 rfl (lv_room (Nat.le_of_ble_eq_true rfl)) d_Mo_call_186 ⟨Nat.zero_le _, Nat.zero_le _⟩) hP hD hS hA (fun H locs hP hD hS => ?_)
          refine lv_iconst (v := 0) hx hb d_Mo_call_189 (by decide) ?_
          refine callWv (va_runV (As := [.int (nI 10), .int (nI ((f_Mo_block (aI u1 2 10) u1).1)), .int 0]) (rest := []) ⟨hx, hb, hml, hown, hts⟩ (c_Mo_give l dC dI cI cZ ad ((f_Mo_block (aI u1 2 10) u1).2) 10 (nI ((f_Mo_block (aI u1 2 10) u1).1)) 0 (by first | assumption | omega) H.size) (cwV 3 hts (goodV m_16_7 m_16_8 m_19_20 m_0_12 m_16_9) rfl rfl rfl (by decide +kernel) ⟨Nat.le_of_ble_eq_true rfl, Nat.le_of_ble_eq_true rfl⟩) ⟨preW_blind, va_recv hK hP (ci := 8) (q0 := 0) rfl rfl, preW_ok hP hD hK⟩ rfl rfl hl.1 rfl (lv_room (Nat.le_of_ble_eq_true rfl)) d_Mo_call_190 ⟨Nat.zero_le _, Nat.zero_le _⟩) hP hD hS hA (fun H locs hP hD hS => ?_)
          refine lv_goto (tgt := 351) hx hb d_Mo_call_193 (by decide) ?_
          have hE : res = f_Mo_give 10 (nI ((f_Mo_block (aI u1 2 10) u1).1)) 0 ((f_Mo_block (aI u1 2 10) u1).2) := hq.trans ((if_neg c3).trans ((if_pos c4).trans rfl))
          exact retWv hx hb hr hP hK hD hS hE.symm d_Mo_call_351 hlocks
        by_cases c5 : nn = 3
        · skip
          refine lv_tableIn (off := 82) (tgt := 196) hx hb d_Mo_call_114 (by rw [c5]; decide) (by rw [c5]; decide) (by rw [c5]; decide) (by decide) ?_
          refine lv_aload_n hx hb d_Mo_call_196 rfl (lv_at hl 3 rfl) ?_
          refine va_get (D := (dC, dI)) (ci := 8) (v := .ref (ad 3)) (C := R_Mo) (T := F_Mo) (N := 31) hx hb hts in_Mo hown hK hP 0 rfl rfl 3 (by decide) (hts _ m_13_33) (fun _ h9 => h9) rfl d_Mo_call_197 ?_
          refine lv_bipush (v := nI 10) hx hb d_Mo_call_200 (by decide) ?_
          refine aldM_x (u := u1) (v := aI u1 2 10) hx hb hK hP (by omega) rfl d_Mo_call_202 ?_
          refine lv_if_eq (tgt := 351) hx hb d_Mo_call_203 (by decide) (fun c6 => ?_) (fun c6 => ?_)
          · skip
            have hE : res = u1 := hq.trans ((if_neg c3).trans ((if_neg c4).trans ((if_pos c5).trans ((if_pos c6).trans rfl))))
            exact retWv hx hb hr hP hK hD hS hE.symm d_Mo_call_351 hlocks
          · skip
            refine lv_aload_n hx hb d_Mo_call_206 rfl (lv_at hl 3 rfl) ?_
            refine lv_aload_n hx hb d_Mo_call_207 rfl (lv_at hl 3 rfl) ?_
            refine va_get (D := (dC, dI)) (ci := 8) (v := .ref (ad 3)) (C := R_Mo) (T := F_Mo) (N := 31) hx hb hts in_Mo hown hK hP 0 rfl rfl 3 (by decide) (hts _ m_13_33) (fun _ h9 => h9) rfl d_Mo_call_208 ?_
            refine lv_bipush (v := nI 10) hx hb d_Mo_call_211 (by decide) ?_
            refine aldM_x (u := u1) (v := aI u1 2 10) hx hb hK hP (by omega) rfl d_Mo_call_213 ?_
            refine callWi (va_runV (As := [.int (aI u1 2 10)]) (rest := []) ⟨hx, hb, hml, hown, hts⟩ (c_Mo_isLive l dC dI cI cZ ad u1 (aI u1 2 10) oke1 okl1 H.size) (cwV 1 hts (goodV m_17_35 m_17_36 m_19_37 m_0_12 m_17_37) rfl rfl rfl (by decide +kernel) ⟨Nat.le_of_ble_eq_true rfl, Nat.le_of_ble_eq_true rfl⟩) ⟨preW_blind, va_recv hK hP (ci := 8) (q0 := 0) rfl rfl, preW_ok hP hD hK⟩ rfl rfl hl.1 rfl (lv_room (Nat.le_of_ble_eq_true rfl)) d_Mo_call_214 ⟨Nat.zero_le _, Nat.zero_le _⟩) hP hD hS hA (fun H locs hP hD hS => ?_)
            refine rb_eq (tgt := 351) hx hb d_Mo_call_217 (by decide) (fun c7 => ?_) (fun c7 => ?_)
            · skip
              have hE : res = (f_Mo_isLive (aI u1 2 10) u1).2 := hq.trans ((if_neg c3).trans ((if_neg c4).trans ((if_pos c5).trans ((if_neg c6).trans ((if_neg c7).trans rfl)))))
              exact retWv hx hb hr hP hK hD hS hE.symm d_Mo_call_351 hlocks
            · skip
              obtain ⟨iv1, iv2⟩ := iv_1 (a := aI u1 2 10) (u := u1) (by assumption)
              obtain ⟨fn1, fn2⟩ := fi_nat okl1 iv1
              rw [iv2] at hP hD
              have hP : va_P (dC, dI) classes (wM cI cZ ad u1) H := hP
              have hD : va_D A (wM cI cZ ad u1) := hD
              refine lv_aload_n hx hb d_Mo_call_220 rfl (lv_at hl 3 rfl) ?_
              refine lv_aload_n hx hb d_Mo_call_221 rfl (lv_at hl 3 rfl) ?_
              refine va_get (D := (dC, dI)) (ci := 8) (v := .ref (ad 3)) (C := R_Mo) (T := F_Mo) (N := 31) hx hb hts in_Mo hown hK hP 0 rfl rfl 3 (by decide) (hts _ m_13_33) (fun _ h9 => h9) rfl d_Mo_call_222 ?_
              refine lv_bipush (v := nI 10) hx hb d_Mo_call_225 (by decide) ?_
              refine aldM_x (u := u1) (v := aI u1 2 10) hx hb hK hP (by omega) rfl d_Mo_call_227 ?_
              refine rw_top (y := nI ((aI u1 2 10).toNatClampNeg)) fn1 ?_
              refine callWv (va_runV (As := [.int (nI ((aI u1 2 10).toNatClampNeg))]) (rest := []) ⟨hx, hb, hml, hown, hts⟩ (c_Mo_back l dC dI cI cZ ad u1 ((aI u1 2 10).toNatClampNeg) fn2 n1 okl1 (by rw [← fn1]; exact iv1) H.size) (cwV 1 hts (goodV m_18_1 m_18_2 m_19_39 m_0_12 m_18_3) rfl rfl rfl (by decide +kernel) ⟨Nat.le_of_ble_eq_true rfl, Nat.le_of_ble_eq_true rfl⟩) ⟨preW_blind, va_recv hK hP (ci := 8) (q0 := 0) rfl rfl, preW_ok hP hD hK⟩ rfl rfl hl.1 rfl (lv_room (Nat.le_of_ble_eq_true rfl)) d_Mo_call_228 ⟨Nat.zero_le _, Nat.zero_le _⟩) hP hD hS hA (fun H locs hP hD hS => ?_)
              refine lv_goto (tgt := 351) hx hb d_Mo_call_231 (by decide) ?_
              have hE : res = f_Mo_back ((aI u1 2 10).toNatClampNeg) u1 := hq.trans ((if_neg c3).trans ((if_neg c4).trans ((if_pos c5).trans ((if_neg c6).trans ((if_pos c7).trans rfl)))))
              exact retWv hx hb hr hP hK hD hS hE.symm d_Mo_call_351 hlocks
        by_cases c8 : nn = 4
        · skip
          refine lv_tableIn (off := 120) (tgt := 234) hx hb d_Mo_call_114 (by rw [c8]; decide) (by rw [c8]; decide) (by rw [c8]; decide) (by decide) ?_
          refine lv_aload_n hx hb d_Mo_call_234 rfl (lv_at hl 3 rfl) ?_
          refine lv_bipush (v := nI 10) hx hb d_Mo_call_235 (by decide) ?_
          refine lv_aload_n hx hb d_Mo_call_237 rfl (lv_at hl 3 rfl) ?_
          refine lv_aload_n hx hb d_Mo_call_238 rfl (lv_at hl 3 rfl) ?_
          refine va_get (D := (dC, dI)) (ci := 8) (v := .ref (ad 3)) (C := R_Mo) (T := F_Mo) (N := 31) hx hb hts in_Mo hown hK hP 0 rfl rfl 3 (by decide) (hts _ m_13_33) (fun _ h9 => h9) rfl d_Mo_call_239 ?_
          refine lv_bipush (v := nI 10) hx hb d_Mo_call_242 (by decide) ?_
          refine aldM_x (u := u1) (v := aI u1 2 10) hx hb hK hP (by omega) rfl d_Mo_call_244 ?_
          refine lv_aload_n hx hb d_Mo_call_245 rfl (lv_at hl 3 rfl) ?_
          refine va_get (D := (dC, dI)) (ci := 8) (v := .ref (ad 3)) (C := R_Mo) (T := F_Mo) (N := 31) hx hb hts in_Mo hown hK hP 0 rfl rfl 3 (by decide) (hts _ m_13_33) (fun _ h9 => h9) rfl d_Mo_call_246 ?_
          refine lv_bipush (v := nI 11) hx hb d_Mo_call_249 (by decide) ?_
          refine aldM_x (u := u1) (v := aI u1 2 11) hx hb hK hP (by omega) rfl d_Mo_call_251 ?_
          refine callWi (va_runV (As := [.int (aI u1 2 10), .int (aI u1 2 11)]) (rest := [.int (nI 10), .ref (ad 0)]) ⟨hx, hb, hml, hown, hts⟩ (c_Mo_again l dC dI cI cZ ad u1 (aI u1 2 10) (aI u1 2 11) n0 n1 oke1 okl1 H.size) (cwV 2 hts (goodV m_18_7 m_18_8 m_20_1 m_0_12 m_18_9) rfl rfl rfl (by decide +kernel) ⟨Nat.le_of_ble_eq_true rfl, Nat.le_of_ble_eq_true rfl⟩) ⟨preW_blind, va_recv hK hP (ci := 8) (q0 := 0) rfl rfl, preW_ok hP hD hK⟩ rfl rfl hl.1 rfl (lv_room (Nat.le_of_ble_eq_true rfl)) d_Mo_call_252 ⟨Nat.zero_le _, Nat.zero_le _⟩) hP hD hS hA (fun H locs hP hD hS => ?_)
          refine lv_iconst (v := 0) hx hb d_Mo_call_255 (by decide) ?_
          refine callWv (va_runV (As := [.int (nI 10), .int (nI ((f_Mo_again (aI u1 2 10) (aI u1 2 11) u1).1)), .int 0]) (rest := []) ⟨hx, hb, hml, hown, hts⟩ (c_Mo_give l dC dI cI cZ ad ((f_Mo_again (aI u1 2 10) (aI u1 2 11) u1).2) 10 (nI ((f_Mo_again (aI u1 2 10) (aI u1 2 11) u1).1)) 0 (by first | assumption | omega) H.size) (cwV 3 hts (goodV m_16_7 m_16_8 m_19_20 m_0_12 m_16_9) rfl rfl rfl (by decide +kernel) ⟨Nat.le_of_ble_eq_true rfl, Nat.le_of_ble_eq_true rfl⟩) ⟨preW_blind, va_recv hK hP (ci := 8) (q0 := 0) rfl rfl, preW_ok hP hD hK⟩ rfl rfl hl.1 rfl (lv_room (Nat.le_of_ble_eq_true rfl)) d_Mo_call_256 ⟨Nat.zero_le _, Nat.zero_le _⟩) hP hD hS hA (fun H locs hP hD hS => ?_)
          refine lv_goto (tgt := 351) hx hb d_Mo_call_259 (by decide) ?_
          have hE : res = f_Mo_give 10 (nI ((f_Mo_again (aI u1 2 10) (aI u1 2 11) u1).1)) 0 ((f_Mo_again (aI u1 2 10) (aI u1 2 11) u1).2) := hq.trans ((if_neg c3).trans ((if_neg c4).trans ((if_neg c5).trans ((if_pos c8).trans rfl))))
          exact retWv hx hb hr hP hK hD hS hE.symm d_Mo_call_351 hlocks
        by_cases c9 : nn = 5
        · skip
          refine lv_tableIn (off := 148) (tgt := 262) hx hb d_Mo_call_114 (by rw [c9]; decide) (by rw [c9]; decide) (by rw [c9]; decide) (by decide) ?_
          refine lv_aload_n hx hb d_Mo_call_262 rfl (lv_at hl 3 rfl) ?_
          refine va_get (D := (dC, dI)) (ci := 8) (v := .int (nI (gN u1 4))) (C := R_Mo) (T := F_Mo) (N := 31) hx hb hts in_Mo hown hK hP 0 rfl rfl 23 (by decide) (hts _ m_14_13) (fun _ h9 => h9) rfl d_Mo_call_263 ?_
          refine lv_sipush (v := nI 4096) hx hb d_Mo_call_266 (by decide) ?_
          refine rn_ge (tgt := 351) hx hb (by omega) (by omega) d_Mo_call_269 (by decide) (fun c10 => ?_) (fun c10 => ?_)
          · skip
            have hE : res = u1 := hq.trans ((if_neg c3).trans ((if_neg c4).trans ((if_neg c5).trans ((if_neg c8).trans ((if_pos c9).trans ((if_neg (Nat.not_lt.mpr c10)).trans rfl))))))
            exact retWv hx hb hr hP hK hD hS hE.symm d_Mo_call_351 hlocks
          · skip
            refine lv_aload_n hx hb d_Mo_call_272 rfl (lv_at hl 3 rfl) ?_
            refine va_get (D := (dC, dI)) (ci := 8) (v := .ref (ad 12)) (C := R_Mo) (T := F_Mo) (N := 31) hx hb hts in_Mo hown hK hP 0 rfl rfl 19 (by decide) (hts _ m_14_9) (fun _ h9 => h9) rfl d_Mo_call_273 ?_
            refine lv_aload_n hx hb d_Mo_call_276 rfl (lv_at hl 3 rfl) ?_
            refine lv_dup hx hb d_Mo_call_277 rfl ?_
            refine va_get (D := (dC, dI)) (ci := 8) (v := .int (nI (gN u1 4))) (C := R_Mo) (T := F_Mo) (N := 31) hx hb hts in_Mo hown hK hP 0 rfl rfl 23 (by decide) (hts _ m_14_13) (fun _ h9 => h9) rfl d_Mo_call_278 ?_
            refine lv_dup_x1 hx hb d_Mo_call_281 rfl rfl ?_
            refine lv_iconst (v := nI 1) hx hb d_Mo_call_282 (by decide) ?_
            refine lv_iadd hx hb d_Mo_call_283 ?_
            refine rw_top (y := nI (gN u1 4 + 1)) (nI_add (gN u1 4) 1) ?_
            refine va_put (D := (dC, dI)) (ci := 8) (v := .int (nI (gN u1 4 + 1))) (ty := .int) (C := R_Mo) (T := F_Mo) (N := 31) hx hb hts in_Mo t_Mo t_Mo_ok n_Mo hown hK hP hD hS 0 rfl rfl 23 (by decide) (hts _ m_14_13) (fun _ h9 => h9) rfl (by decide +kernel) rfl rfl (Nat.le_of_ble_eq_true rfl) d_Mo_call_284 (fun H locs hP hD hS => ?_)
            have hP : va_P (dC, dI) classes (wM cI cZ ad (sN u1 4 (gN u1 4 + 1))) H := hP
            have hD : va_D A (wM cI cZ ad (sN u1 4 (gN u1 4 + 1))) := hD
            refine lv_aload_n hx hb d_Mo_call_287 rfl (lv_at hl 3 rfl) ?_
            refine va_get (D := (dC, dI)) (ci := 8) (v := .ref (ad 3)) (C := R_Mo) (T := F_Mo) (N := 31) hx hb hts in_Mo hown hK hP 0 rfl rfl 3 (by decide) (hts _ m_13_33) (fun _ h9 => h9) rfl d_Mo_call_288 ?_
            refine lv_bipush (v := nI 10) hx hb d_Mo_call_291 (by decide) ?_
            refine aldM_x (u := (sN u1 4 (gN u1 4 + 1))) (v := aI u1 2 10) hx hb hK hP (by omega) rfl d_Mo_call_293 ?_
            refine lv_sipush (v := 255) hx hb d_Mo_call_294 (by decide) ?_
            refine lv_iand hx hb d_Mo_call_297 ?_
            refine astM_out (u := (sN u1 4 (gN u1 4 + 1))) (n := gN u1 4) hx hb hK hP hD hS (by omega) d_Mo_call_298 (fun H locs hP hD hS => ?_)
            refine lv_goto (tgt := 351) hx hb d_Mo_call_299 (by decide) ?_
            have hE : res = uI (sN u1 4 (gN u1 4 + 1)) 4 (gN u1 4) ((aI u1 2 10) &&& (255 : Int32)) := hq.trans ((if_neg c3).trans ((if_neg c4).trans ((if_neg c5).trans ((if_neg c8).trans ((if_pos c9).trans ((if_pos c10).trans rfl))))))
            exact retWv hx hb hr hP hK hD hS hE.symm d_Mo_call_351 hlocks
        by_cases c11 : nn = 6
        · skip
          refine lv_tableIn (off := 188) (tgt := 302) hx hb d_Mo_call_114 (by rw [c11]; decide) (by rw [c11]; decide) (by rw [c11]; decide) (by decide) ?_
          refine lv_aload_n hx hb d_Mo_call_302 rfl (lv_at hl 3 rfl) ?_
          refine lv_bipush (v := nI 10) hx hb d_Mo_call_303 (by decide) ?_
          refine lv_aload_n hx hb d_Mo_call_305 rfl (lv_at hl 3 rfl) ?_
          refine va_get (D := (dC, dI)) (ci := 8) (v := .int (nI (gN u1 3))) (C := R_Mo) (T := F_Mo) (N := 31) hx hb hts in_Mo hown hK hP 0 rfl rfl 22 (by decide) (hts _ m_14_12) (fun _ h9 => h9) rfl d_Mo_call_306 ?_
          refine lv_aload_n hx hb d_Mo_call_309 rfl (lv_at hl 3 rfl) ?_
          refine va_get (D := (dC, dI)) (ci := 8) (v := .int (nI (gN u1 2))) (C := R_Mo) (T := F_Mo) (N := 31) hx hb hts in_Mo hown hK hP 0 rfl rfl 21 (by decide) (hts _ m_14_11) (fun _ h9 => h9) rfl d_Mo_call_310 ?_
          have J336 : ∀ (u2 : S5) (rv : Int32) (H : Heap) (locs : List Loc) (ls : Array Slot), res = f_Mo_call_336 u nn x1 x2 u2 rv → va_P (dC, dI) classes (wM cI cZ ad u2) H → va_D A (wM cI cZ ad u2) → va_S A s.heap H locs → lv_has ls 4 [(3, .int (b2i x2)), (2, .int (b2i x1)), (1, .int nn), (0, .ref (ad 0))] → W p l e (headSpec w_Mo_call rm_Mo_call).room s m ([.ref (ad 0)] : List Value).toArray below meth c H locs 0 0 (MQ below (QWv (dC, dI) classes [(cI, .int), (cZ, .boolean)] (wM cI cZ ad) A res) ([.ref (ad 0)] : List Value).toArray s 0 0 A) (F0 m 336 ls [.int rv, .int (nI 10), .ref (ad 0)]) := by
            intro u2 rv H locs ls hq hP hD hS hl
            refine lv_iconst (v := 0) hx hb d_Mo_call_336 (by decide) ?_
            refine callWv (va_runV (As := [.int (nI 10), .int rv, .int 0]) (rest := []) ⟨hx, hb, hml, hown, hts⟩ (c_Mo_give l dC dI cI cZ ad u2 10 rv 0 (by first | assumption | omega) H.size) (cwV 3 hts (goodV m_16_7 m_16_8 m_19_20 m_0_12 m_16_9) rfl rfl rfl (by decide +kernel) ⟨Nat.le_of_ble_eq_true rfl, Nat.le_of_ble_eq_true rfl⟩) ⟨preW_blind, va_recv hK hP (ci := 8) (q0 := 0) rfl rfl, preW_ok hP hD hK⟩ rfl rfl hl.1 rfl (lv_room (Nat.le_of_ble_eq_true rfl)) d_Mo_call_337 ⟨Nat.zero_le _, Nat.zero_le _⟩) hP hD hS hA (fun H locs hP hD hS => ?_)
            refine lv_goto (tgt := 351) hx hb d_Mo_call_340 (by decide) ?_
            have hE : res = f_Mo_give 10 rv 0 u2 := hq.trans (rfl)
            exact retWv hx hb hr hP hK hD hS hE.symm d_Mo_call_351 hlocks
          refine rn_ge (tgt := 335) hx hb (by omega) (by omega) d_Mo_call_313 (by decide) (fun c12 => ?_) (fun c12 => ?_)
          · skip
            refine lv_iconst (v := (-1)) hx hb d_Mo_call_335 (by decide) ?_
            exact J336 u1 (-1) _ _ _ (hq.trans ((if_neg c3).trans ((if_neg c4).trans ((if_neg c5).trans ((if_neg c8).trans ((if_neg c9).trans ((if_pos c11).trans ((if_neg (Nat.not_lt.mpr c12)).trans rfl)))))))) hP hD hS (lv_sub hl [0, 1, 2, 3] rfl)
          · skip
            refine lv_aload_n hx hb d_Mo_call_316 rfl (lv_at hl 3 rfl) ?_
            refine va_get (D := (dC, dI)) (ci := 8) (v := .ref (ad 11)) (C := R_Mo) (T := F_Mo) (N := 31) hx hb hts in_Mo hown hK hP 0 rfl rfl 18 (by decide) (hts _ m_14_8) (fun _ h9 => h9) rfl d_Mo_call_317 ?_
            refine lv_aload_n hx hb d_Mo_call_320 rfl (lv_at hl 3 rfl) ?_
            refine lv_dup hx hb d_Mo_call_321 rfl ?_
            refine va_get (D := (dC, dI)) (ci := 8) (v := .int (nI (gN u1 3))) (C := R_Mo) (T := F_Mo) (N := 31) hx hb hts in_Mo hown hK hP 0 rfl rfl 22 (by decide) (hts _ m_14_12) (fun _ h9 => h9) rfl d_Mo_call_322 ?_
            refine lv_dup_x1 hx hb d_Mo_call_325 rfl rfl ?_
            refine lv_iconst (v := nI 1) hx hb d_Mo_call_326 (by decide) ?_
            refine lv_iadd hx hb d_Mo_call_327 ?_
            refine rw_top (y := nI (gN u1 3 + 1)) (nI_add (gN u1 3) 1) ?_
            refine va_put (D := (dC, dI)) (ci := 8) (v := .int (nI (gN u1 3 + 1))) (ty := .int) (C := R_Mo) (T := F_Mo) (N := 31) hx hb hts in_Mo t_Mo t_Mo_ok n_Mo hown hK hP hD hS 0 rfl rfl 22 (by decide) (hts _ m_14_12) (fun _ h9 => h9) rfl (by decide +kernel) rfl rfl (Nat.le_of_ble_eq_true rfl) d_Mo_call_328 (fun H locs hP hD hS => ?_)
            have hP : va_P (dC, dI) classes (wM cI cZ ad (sN u1 3 (gN u1 3 + 1))) H := hP
            have hD : va_D A (wM cI cZ ad (sN u1 3 (gN u1 3 + 1))) := hD
            refine aldM_put (u := (sN u1 3 (gN u1 3 + 1))) (v := aI u1 3 (gN u1 3)) hx hb hK hP (by omega) rfl d_Mo_call_331 ?_
            refine lv_goto (tgt := 336) hx hb d_Mo_call_332 (by decide) ?_
            exact J336 (sN u1 3 (gN u1 3 + 1)) (aI u1 3 (gN u1 3)) _ _ _ (hq.trans ((if_neg c3).trans ((if_neg c4).trans ((if_neg c5).trans ((if_neg c8).trans ((if_neg c9).trans ((if_pos c11).trans ((if_pos c12).trans rfl)))))))) hP hD hS (lv_sub hl [0, 1, 2, 3] rfl)
        have nc3 := lv_neT c3 (a := 1) (by decide)
        have nc4 := lv_neT c4 (a := 2) (by decide)
        have nc5 := lv_neT c5 (a := 3) (by decide)
        have nc8 := lv_neT c8 (a := 4) (by decide)
        have nc9 := lv_neT c9 (a := 5) (by decide)
        have nc11 := lv_neT c11 (a := 6) (by decide)
        refine lv_tableOut (tgt := 343) hx hb d_Mo_call_114 (by omega) (by decide) ?_
        refine lv_aload_n hx hb d_Mo_call_343 rfl (lv_at hl 3 rfl) ?_
        refine lv_bipush (v := nI 10) hx hb d_Mo_call_344 (by decide) ?_
        refine lv_iconst (v := (-1)) hx hb d_Mo_call_346 (by decide) ?_
        refine lv_iconst (v := 0) hx hb d_Mo_call_347 (by decide) ?_
        refine callWv (va_runV (As := [.int (nI 10), .int (-1), .int 0]) (rest := []) ⟨hx, hb, hml, hown, hts⟩ (c_Mo_give l dC dI cI cZ ad u1 10 (-1) 0 (by first | assumption | omega) H.size) (cwV 3 hts (goodV m_16_7 m_16_8 m_19_20 m_0_12 m_16_9) rfl rfl rfl (by decide +kernel) ⟨Nat.le_of_ble_eq_true rfl, Nat.le_of_ble_eq_true rfl⟩) ⟨preW_blind, va_recv hK hP (ci := 8) (q0 := 0) rfl rfl, preW_ok hP hD hK⟩ rfl rfl hl.1 rfl (lv_room (Nat.le_of_ble_eq_true rfl)) d_Mo_call_348 ⟨Nat.zero_le _, Nat.zero_le _⟩) hP hD hS hA (fun H locs hP hD hS => ?_)
        have hE : res = f_Mo_give 10 (-1) 0 u1 := hq.trans ((if_neg c3).trans ((if_neg c4).trans ((if_neg c5).trans ((if_neg c8).trans ((if_neg c9).trans ((if_neg c11).trans rfl))))))
        exact retWv hx hb hr hP hK hD hS hE.symm d_Mo_call_351 hlocks
      refine rb_eq (tgt := 56) hx hb d_Mo_call_43 (by decide) (fun c13 => ?_) (fun c13 => ?_)
      · skip
        refine lv_iload_n hx hb d_Mo_call_56 rfl (lv_at hl 1 rfl) ?_
        have J91 : ∀  (H : Heap) (locs : List Loc) (ls : Array Slot), res = f_Mo_call_91 u nn x1 x2 → va_P (dC, dI) classes (wM cI cZ ad u) H → va_D A (wM cI cZ ad u) → va_S A s.heap H locs → lv_has ls 4 [(3, .int (b2i x2)), (2, .int (b2i x1)), (1, .int nn), (0, .ref (ad 0))] → W p l e (headSpec w_Mo_call rm_Mo_call).room s m ([.ref (ad 0)] : List Value).toArray below meth c H locs 0 0 (MQ below (QWv (dC, dI) classes [(cI, .int), (cZ, .boolean)] (wM cI cZ ad) A res) ([.ref (ad 0)] : List Value).toArray s 0 0 A) (F0 m 91 ls []) := by
          intro  H locs ls hq hP hD hS hl
          refine lv_iload_n hx hb d_Mo_call_91 rfl (lv_at hl 0 rfl) ?_
          refine rb_eq (tgt := 113) hx hb d_Mo_call_92 (by decide) (fun c14 => ?_) (fun c14 => ?_)
          · skip
            exact J113 u _ _ _ (hq.trans ((if_neg c14).trans rfl)) (by first | assumption | exact ft_ok _ _ ok) (by first | assumption | exact OkK.fm okk (ft_fr _ _ _) (by decide)) (by first | assumption | exact OkQ.fm okq (ft_fr _ _ _) (by decide)) hP hD hS (lv_sub hl [0, 1, 2, 3] rfl)
          · skip
            refine lv_aload_n hx hb d_Mo_call_95 rfl (lv_at hl 3 rfl) ?_
            refine lv_bipush (v := nI 11) hx hb d_Mo_call_96 (by decide) ?_
            refine lv_bipush (v := nI 32) hx hb d_Mo_call_98 (by decide) ?_
            refine callWi (va_runV (As := [.int (nI 11), .int (nI 32)]) (rest := []) ⟨hx, hb, hml, hown, hts⟩ (c_Mo_anyDark l dC dI cI cZ ad u 11 32 (by first | assumption | omega) (by first | assumption | omega) H.size) (cwV 2 hts (goodV m_16_16 m_16_17 m_19_22 m_0_12 m_16_18) rfl rfl rfl (by decide +kernel) ⟨Nat.le_of_ble_eq_true rfl, Nat.le_of_ble_eq_true rfl⟩) ⟨preW_blind, va_recv hK hP (ci := 8) (q0 := 0) rfl rfl, preW_ok hP hD hK⟩ rfl rfl hl.1 rfl (lv_room (Nat.le_of_ble_eq_true rfl)) d_Mo_call_100 ⟨Nat.zero_le _, Nat.zero_le _⟩) hP hD hS hA (fun H locs hP hD hS => ?_)
            refine rb_eq (tgt := 113) hx hb d_Mo_call_103 (by decide) (fun c15 => ?_) (fun c15 => ?_)
            · skip
              exact J113 u _ _ _ (hq.trans ((if_pos c14).trans ((if_neg c15).trans rfl))) (by first | assumption | exact ft_ok _ _ ok) (by first | assumption | exact OkK.fm okk (ft_fr _ _ _) (by decide)) (by first | assumption | exact OkQ.fm okq (ft_fr _ _ _) (by decide)) hP hD hS (lv_sub hl [0, 1, 2, 3] rfl)
            · skip
              refine lv_aload_n hx hb d_Mo_call_106 rfl (lv_at hl 3 rfl) ?_
              refine lv_iconst (v := 5) hx hb d_Mo_call_107 (by decide) ?_
              refine lv_bipush (v := 11) hx hb d_Mo_call_108 (by decide) ?_
              refine callWv (va_runV (As := [.int 5, .int 11]) (rest := []) ⟨hx, hb, hml, hown, hts⟩ (c_Mo_fault l dC dI cI cZ ad u 5 11 (by first | assumption | omega) H.size) (cwV 2 hts (goodV m_16_4 m_16_5 m_19_19 m_0_12 m_16_6) rfl rfl rfl (by decide +kernel) ⟨Nat.le_of_ble_eq_true rfl, Nat.le_of_ble_eq_true rfl⟩) ⟨preW_blind, va_recv hK hP (ci := 8) (q0 := 0) rfl rfl, preW_ok hP hD hK⟩ rfl rfl hl.1 rfl (lv_room (Nat.le_of_ble_eq_true rfl)) d_Mo_call_110 ⟨Nat.zero_le _, Nat.zero_le _⟩) hP hD hS hA (fun H locs hP hD hS => ?_)
              exact J113 (f_Mo_fault 5 11 u) _ _ _ (hq.trans ((if_pos c14).trans ((if_pos c15).trans rfl))) (by first | assumption | exact ft_ok _ _ ok) (by first | assumption | exact OkK.fm okk (ft_fr _ _ _) (by decide)) (by first | assumption | exact OkQ.fm okq (ft_fr _ _ _) (by decide)) hP hD hS (lv_sub hl [0, 1, 2, 3] rfl)
        refine rb_eq (tgt := 91) hx hb d_Mo_call_57 (by decide) (fun c16 => ?_) (fun c16 => ?_)
        · skip
          exact J91  _ _ _ ((by subst ex2; subst ex1; subst enn; exact hq.trans ((if_neg c13).trans ((if_neg c16).trans rfl)))) hP hD hS (lv_sub hl [0, 1, 2, 3] rfl)
        · skip
          refine lv_aload_n hx hb d_Mo_call_60 rfl (lv_at hl 3 rfl) ?_
          refine lv_bipush (v := nI 10) hx hb d_Mo_call_61 (by decide) ?_
          refine lv_iload_n hx hb d_Mo_call_63 rfl (lv_at hl 2 rfl) ?_
          refine lv_iconst (v := 5) hx hb d_Mo_call_64 (by decide) ?_
          have J75 : ∀ (y : Nat) (H : Heap) (locs : List Loc), y = (if nn = 5 then 8 else 32) → va_P (dC, dI) classes (wM cI cZ ad u) H → va_D A (wM cI cZ ad u) → va_S A s.heap H locs → W p l e (headSpec w_Mo_call rm_Mo_call).room s m ([.ref (ad 0)] : List Value).toArray below meth c H locs 0 0 (MQ below (QWv (dC, dI) classes [(cI, .int), (cZ, .boolean)] (wM cI cZ ad) A res) ([.ref (ad 0)] : List Value).toArray s 0 0 A) (F0 m 75 ls [.int (nI y), .int (nI 10), .ref (ad 0)]) := by
            intro y H locs ey hP hD hS
            have hy : y ≤ 32 := by rw [ey]; split <;> omega
            refine callWi (va_runV (As := [.int (nI 10), .int (nI y)]) (rest := []) ⟨hx, hb, hml, hown, hts⟩ (c_Mo_anyDark l dC dI cI cZ ad u 10 y (by first | assumption | omega) (by first | assumption | omega) H.size) (cwV 2 hts (goodV m_16_16 m_16_17 m_19_22 m_0_12 m_16_18) rfl rfl rfl (by decide +kernel) ⟨Nat.le_of_ble_eq_true rfl, Nat.le_of_ble_eq_true rfl⟩) ⟨preW_blind, va_recv hK hP (ci := 8) (q0 := 0) rfl rfl, preW_ok hP hD hK⟩ rfl rfl hl.1 rfl (lv_room (Nat.le_of_ble_eq_true rfl)) d_Mo_call_75 ⟨Nat.zero_le _, Nat.zero_le _⟩) hP hD hS hA (fun H locs hP hD hS => ?_)
            refine rb_eq (tgt := 91) hx hb d_Mo_call_78 (by decide) (fun c17 => ?_) (fun c17 => ?_)
            · skip
              exact J91  _ _ _ ((by subst ey; subst ex2; subst ex1; subst enn; exact hq.trans ((if_neg c13).trans ((if_pos c16).trans ((if_neg c17).trans rfl))))) hP hD hS (lv_sub hl [0, 1, 2, 3] rfl)
            · skip
              refine lv_aload_n hx hb d_Mo_call_81 rfl (lv_at hl 3 rfl) ?_
              refine lv_iconst (v := 5) hx hb d_Mo_call_82 (by decide) ?_
              refine lv_bipush (v := 10) hx hb d_Mo_call_83 (by decide) ?_
              refine callWv (va_runV (As := [.int 5, .int 10]) (rest := []) ⟨hx, hb, hml, hown, hts⟩ (c_Mo_fault l dC dI cI cZ ad u 5 10 (by first | assumption | omega) H.size) (cwV 2 hts (goodV m_16_4 m_16_5 m_19_19 m_0_12 m_16_6) rfl rfl rfl (by decide +kernel) ⟨Nat.le_of_ble_eq_true rfl, Nat.le_of_ble_eq_true rfl⟩) ⟨preW_blind, va_recv hK hP (ci := 8) (q0 := 0) rfl rfl, preW_ok hP hD hK⟩ rfl rfl hl.1 rfl (lv_room (Nat.le_of_ble_eq_true rfl)) d_Mo_call_85 ⟨Nat.zero_le _, Nat.zero_le _⟩) hP hD hS hA (fun H locs hP hD hS => ?_)
              refine lv_goto (tgt := 113) hx hb d_Mo_call_88 (by decide) ?_
              exact J113 (f_Mo_fault 5 10 u) _ _ _ ((by subst ey; subst ex2; subst ex1; subst enn; exact hq.trans ((if_neg c13).trans ((if_pos c16).trans ((if_pos c17).trans rfl))))) (by first | assumption | exact ft_ok _ _ ok) (by first | assumption | exact OkK.fm okk (ft_fr _ _ _) (by decide)) (by first | assumption | exact OkQ.fm okq (ft_fr _ _ _) (by decide)) hP hD hS (lv_sub hl [0, 1, 2, 3] rfl)
          refine lv_icmp_ne (tgt := 73) hx hb d_Mo_call_65 (by decide) (fun c18 => ?_) (fun c18 => ?_)
          · skip
            refine lv_bipush (v := nI 32) hx hb d_Mo_call_73 (by decide) ?_
            exact J75 32 _ _ (Eq.symm ((if_neg c18).trans (rfl))) hP hD hS
          · skip
            refine lv_bipush (v := nI 8) hx hb d_Mo_call_68 (by decide) ?_
            refine lv_goto (tgt := 75) hx hb d_Mo_call_70 (by decide) ?_
            exact J75 8 _ _ (Eq.symm ((if_pos c18).trans (rfl))) hP hD hS
      · skip
        refine lv_aload_n hx hb d_Mo_call_46 rfl (lv_at hl 3 rfl) ?_
        refine lv_iconst (v := 5) hx hb d_Mo_call_47 (by decide) ?_
        refine lv_bipush (v := 17) hx hb d_Mo_call_48 (by decide) ?_
        refine callWv (va_runV (As := [.int 5, .int 17]) (rest := []) ⟨hx, hb, hml, hown, hts⟩ (c_Mo_fault l dC dI cI cZ ad u 5 17 (by first | assumption | omega) H.size) (cwV 2 hts (goodV m_16_4 m_16_5 m_19_19 m_0_12 m_16_6) rfl rfl rfl (by decide +kernel) ⟨Nat.le_of_ble_eq_true rfl, Nat.le_of_ble_eq_true rfl⟩) ⟨preW_blind, va_recv hK hP (ci := 8) (q0 := 0) rfl rfl, preW_ok hP hD hK⟩ rfl rfl hl.1 rfl (lv_room (Nat.le_of_ble_eq_true rfl)) d_Mo_call_50 ⟨Nat.zero_le _, Nat.zero_le _⟩) hP hD hS hA (fun H locs hP hD hS => ?_)
        refine lv_goto (tgt := 113) hx hb d_Mo_call_53 (by decide) ?_
        exact J113 (f_Mo_fault 5 17 u) _ _ _ ((by subst ex2; subst ex1; subst enn; exact hq.trans ((if_pos c13).trans rfl))) (by first | assumption | exact ft_ok _ _ ok) (by first | assumption | exact OkK.fm okk (ft_fr _ _ _) (by decide)) (by first | assumption | exact OkQ.fm okq (ft_fr _ _ _) (by decide)) hP hD hS (lv_sub hl [0, 1, 2, 3] rfl)
    refine lv_icmp_ne (tgt := 33) hx hb d_Mo_call_26 (by decide) (fun c19 => ?_) (fun c19 => ?_)
    · skip
      refine lv_iconst (v := 0) hx hb d_Mo_call_33 (by decide) ?_
      exact J34 false _ _ (Eq.symm ((if_neg c19).trans (rfl))) hP hD hS
    · skip
      refine lv_iconst (v := 1) hx hb d_Mo_call_29 (by decide) ?_
      refine lv_goto (tgt := 34) hx hb d_Mo_call_30 (by decide) ?_
      exact J34 true _ _ (Eq.symm ((if_pos c19).trans (rfl))) hP hD hS
  refine lv_icmp_lt (tgt := 22) hx hb d_Mo_call_10 (by decide) (fun c20 => ?_) (fun c20 => ?_)
  · skip
    refine lv_iconst (v := 0) hx hb d_Mo_call_22 (by decide) ?_
    exact J23 false _ _ (Eq.symm ((if_pos c20).trans (rfl))) hP hD hS
  · skip
    refine lv_iload_n hx hb d_Mo_call_13 rfl (lv_at hl 0 rfl) ?_
    refine lv_iconst (v := 5) hx hb d_Mo_call_14 (by decide) ?_
    refine lv_icmp_gt (tgt := 22) hx hb d_Mo_call_15 (by decide) (fun c21 => ?_) (fun c21 => ?_)
    · skip
      refine lv_iconst (v := 0) hx hb d_Mo_call_22 (by decide) ?_
      exact J23 false _ _ (Eq.symm ((if_neg c20).trans ((if_pos c21).trans (rfl)))) hP hD hS
    · skip
      refine lv_iconst (v := 1) hx hb d_Mo_call_18 (by decide) ?_
      refine lv_goto (tgt := 23) hx hb d_Mo_call_19 (by decide) ?_
      exact J23 true _ _ (Eq.symm ((if_neg c20).trans ((if_neg c21).trans (rfl)))) hP hD hS
def w_Mo_one : List Cond := .code y_Mo_one b_Mo_one 16 none :: ALLW
def rm_Mo_one : Room := { frames := 25, cells := 0, slots := 0, locals := 717 }
theorem d_Mo_one_0 : decode b_Mo_one 0 = .ok (.aload_n 0, 1) := by decide +kernel
theorem d_Mo_one_1 : decode b_Mo_one 1 = .ok (.getfield 82, 3) := by decide +kernel
theorem d_Mo_one_4 : decode b_Mo_one 4 = .ok (.iconst 3, 1) := by decide +kernel
theorem d_Mo_one_5 : decode b_Mo_one 5 = .ok (.iand, 1) := by decide +kernel
theorem d_Mo_one_6 : decode b_Mo_one 6 = .ok (.ifCond .ne 19, 3) := by decide +kernel
theorem d_Mo_one_9 : decode b_Mo_one 9 = .ok (.aload_n 0, 1) := by decide +kernel
theorem d_Mo_one_10 : decode b_Mo_one 10 = .ok (.getfield 82, 3) := by decide +kernel
theorem d_Mo_one_13 : decode b_Mo_one 13 = .ok (.ifCond .lt 12, 3) := by decide +kernel
theorem d_Mo_one_16 : decode b_Mo_one 16 = .ok (.aload_n 0, 1) := by decide +kernel
theorem d_Mo_one_17 : decode b_Mo_one 17 = .ok (.getfield 82, 3) := by decide +kernel
theorem d_Mo_one_20 : decode b_Mo_one 20 = .ok (.ldc 119, 2) := by decide +kernel
theorem d_Mo_one_22 : decode b_Mo_one 22 = .ok (.if_icmp .le 9, 3) := by decide +kernel
theorem d_Mo_one_25 : decode b_Mo_one 25 = .ok (.aload_n 0, 1) := by decide +kernel
theorem d_Mo_one_26 : decode b_Mo_one 26 = .ok (.iconst 0, 1) := by decide +kernel
theorem d_Mo_one_27 : decode b_Mo_one 27 = .ok (.invokevirtual 120, 3) := by decide +kernel
theorem d_Mo_one_30 : decode b_Mo_one 30 = .ok (.return_, 1) := by decide +kernel
theorem d_Mo_one_31 : decode b_Mo_one 31 = .ok (.aload_n 0, 1) := by decide +kernel
theorem d_Mo_one_32 : decode b_Mo_one 32 = .ok (.aload_n 0, 1) := by decide +kernel
theorem d_Mo_one_33 : decode b_Mo_one 33 = .ok (.getfield 82, 3) := by decide +kernel
theorem d_Mo_one_36 : decode b_Mo_one 36 = .ok (.invokevirtual 124, 3) := by decide +kernel
theorem d_Mo_one_39 : decode b_Mo_one 39 = .ok (.istore_n 1, 1) := by decide +kernel
theorem d_Mo_one_40 : decode b_Mo_one 40 = .ok (.iload_n 1, 1) := by decide +kernel
theorem d_Mo_one_41 : decode b_Mo_one 41 = .ok (.bipush 127, 2) := by decide +kernel
theorem d_Mo_one_43 : decode b_Mo_one 43 = .ok (.iand, 1) := by decide +kernel
theorem d_Mo_one_44 : decode b_Mo_one 44 = .ok (.istore_n 2, 1) := by decide +kernel
theorem d_Mo_one_45 : decode b_Mo_one 45 = .ok (.iload_n 1, 1) := by decide +kernel
theorem d_Mo_one_46 : decode b_Mo_one 46 = .ok (.bipush 7, 2) := by decide +kernel
theorem d_Mo_one_48 : decode b_Mo_one 48 = .ok (.ishr, 1) := by decide +kernel
theorem d_Mo_one_49 : decode b_Mo_one 49 = .ok (.bipush 31, 2) := by decide +kernel
theorem d_Mo_one_51 : decode b_Mo_one 51 = .ok (.iand, 1) := by decide +kernel
theorem d_Mo_one_52 : decode b_Mo_one 52 = .ok (.istore_n 3, 1) := by decide +kernel
theorem d_Mo_one_53 : decode b_Mo_one 53 = .ok (.iload_n 1, 1) := by decide +kernel
theorem d_Mo_one_54 : decode b_Mo_one 54 = .ok (.bipush 12, 2) := by decide +kernel
theorem d_Mo_one_56 : decode b_Mo_one 56 = .ok (.ishr, 1) := by decide +kernel
theorem d_Mo_one_57 : decode b_Mo_one 57 = .ok (.bipush 7, 2) := by decide +kernel
theorem d_Mo_one_59 : decode b_Mo_one 59 = .ok (.iand, 1) := by decide +kernel
theorem d_Mo_one_60 : decode b_Mo_one 60 = .ok (.istore 4, 2) := by decide +kernel
theorem d_Mo_one_62 : decode b_Mo_one 62 = .ok (.iload_n 1, 1) := by decide +kernel
theorem d_Mo_one_63 : decode b_Mo_one 63 = .ok (.bipush 15, 2) := by decide +kernel
theorem d_Mo_one_65 : decode b_Mo_one 65 = .ok (.ishr, 1) := by decide +kernel
theorem d_Mo_one_66 : decode b_Mo_one 66 = .ok (.bipush 31, 2) := by decide +kernel
theorem d_Mo_one_68 : decode b_Mo_one 68 = .ok (.iand, 1) := by decide +kernel
theorem d_Mo_one_69 : decode b_Mo_one 69 = .ok (.istore 5, 2) := by decide +kernel
theorem d_Mo_one_71 : decode b_Mo_one 71 = .ok (.iload_n 1, 1) := by decide +kernel
theorem d_Mo_one_72 : decode b_Mo_one 72 = .ok (.bipush 20, 2) := by decide +kernel
theorem d_Mo_one_74 : decode b_Mo_one 74 = .ok (.ishr, 1) := by decide +kernel
theorem d_Mo_one_75 : decode b_Mo_one 75 = .ok (.bipush 31, 2) := by decide +kernel
theorem d_Mo_one_77 : decode b_Mo_one 77 = .ok (.iand, 1) := by decide +kernel
theorem d_Mo_one_78 : decode b_Mo_one 78 = .ok (.istore 6, 2) := by decide +kernel
theorem d_Mo_one_80 : decode b_Mo_one 80 = .ok (.iload_n 1, 1) := by decide +kernel
theorem d_Mo_one_81 : decode b_Mo_one 81 = .ok (.bipush 25, 2) := by decide +kernel
theorem d_Mo_one_83 : decode b_Mo_one 83 = .ok (.iushr, 1) := by decide +kernel
theorem d_Mo_one_84 : decode b_Mo_one 84 = .ok (.istore 7, 2) := by decide +kernel
theorem d_Mo_one_86 : decode b_Mo_one 86 = .ok (.iload_n 1, 1) := by decide +kernel
theorem d_Mo_one_87 : decode b_Mo_one 87 = .ok (.bipush 20, 2) := by decide +kernel
theorem d_Mo_one_89 : decode b_Mo_one 89 = .ok (.ishr, 1) := by decide +kernel
theorem d_Mo_one_90 : decode b_Mo_one 90 = .ok (.istore 8, 2) := by decide +kernel
theorem d_Mo_one_92 : decode b_Mo_one 92 = .ok (.iconst 0, 1) := by decide +kernel
theorem d_Mo_one_93 : decode b_Mo_one 93 = .ok (.istore 9, 2) := by decide +kernel
theorem d_Mo_one_95 : decode b_Mo_one 95 = .ok (.iload 9, 2) := by decide +kernel
theorem d_Mo_one_97 : decode b_Mo_one 97 = .ok (.iconst 4, 1) := by decide +kernel
theorem d_Mo_one_98 : decode b_Mo_one 98 = .ok (.if_icmp .ge 39, 3) := by decide +kernel
theorem d_Mo_one_101 : decode b_Mo_one 101 = .ok (.aload_n 0, 1) := by decide +kernel
theorem d_Mo_one_102 : decode b_Mo_one 102 = .ok (.getfield 20, 3) := by decide +kernel
theorem d_Mo_one_105 : decode b_Mo_one 105 = .ok (.aload_n 0, 1) := by decide +kernel
theorem d_Mo_one_106 : decode b_Mo_one 106 = .ok (.getfield 82, 3) := by decide +kernel
theorem d_Mo_one_109 : decode b_Mo_one 109 = .ok (.iload 9, 2) := by decide +kernel
theorem d_Mo_one_111 : decode b_Mo_one 111 = .ok (.iadd, 1) := by decide +kernel
theorem d_Mo_one_112 : decode b_Mo_one 112 = .ok (.baload, 1) := by decide +kernel
theorem d_Mo_one_113 : decode b_Mo_one 113 = .ok (.ifCond .ne 18, 3) := by decide +kernel
theorem d_Mo_one_116 : decode b_Mo_one 116 = .ok (.aload_n 0, 1) := by decide +kernel
theorem d_Mo_one_117 : decode b_Mo_one 117 = .ok (.iconst 1, 1) := by decide +kernel
theorem d_Mo_one_118 : decode b_Mo_one 118 = .ok (.aload_n 0, 1) := by decide +kernel
theorem d_Mo_one_119 : decode b_Mo_one 119 = .ok (.getfield 82, 3) := by decide +kernel
theorem d_Mo_one_122 : decode b_Mo_one 122 = .ok (.iload 9, 2) := by decide +kernel
theorem d_Mo_one_124 : decode b_Mo_one 124 = .ok (.iadd, 1) := by decide +kernel
theorem d_Mo_one_125 : decode b_Mo_one 125 = .ok (.invokevirtual 128, 3) := by decide +kernel
theorem d_Mo_one_128 : decode b_Mo_one 128 = .ok (.goto 9, 3) := by decide +kernel
theorem d_Mo_one_131 : decode b_Mo_one 131 = .ok (.iinc 9 1, 3) := by decide +kernel
theorem d_Mo_one_134 : decode b_Mo_one 134 = .ok (.goto (-39), 3) := by decide +kernel
theorem d_Mo_one_137 : decode b_Mo_one 137 = .ok (.aload_n 0, 1) := by decide +kernel
theorem d_Mo_one_138 : decode b_Mo_one 138 = .ok (.getfield 82, 3) := by decide +kernel
theorem d_Mo_one_141 : decode b_Mo_one 141 = .ok (.iconst 4, 1) := by decide +kernel
theorem d_Mo_one_142 : decode b_Mo_one 142 = .ok (.iadd, 1) := by decide +kernel
theorem d_Mo_one_143 : decode b_Mo_one 143 = .ok (.istore 9, 2) := by decide +kernel
theorem d_Mo_one_145 : decode b_Mo_one 145 = .ok (.iload_n 2, 1) := by decide +kernel
theorem d_Mo_one_146 : decode b_Mo_one 146 = .ok (.lookupswitch 800 #[(3, 567), (15, 752), (19, 623), (23, 112), (35, 590), (51, 730), (55, 98), (99, 309), (103, 211), (111, 131), (115, 755)], 98) := by decide +kernel
theorem d_Mo_one_244 : decode b_Mo_one 244 = .ok (.aload_n 0, 1) := by decide +kernel
theorem d_Mo_one_245 : decode b_Mo_one 245 = .ok (.iload_n 3, 1) := by decide +kernel
theorem d_Mo_one_246 : decode b_Mo_one 246 = .ok (.iload_n 1, 1) := by decide +kernel
theorem d_Mo_one_247 : decode b_Mo_one 247 = .ok (.sipush (-4096), 3) := by decide +kernel
theorem d_Mo_one_250 : decode b_Mo_one 250 = .ok (.iand, 1) := by decide +kernel
theorem d_Mo_one_251 : decode b_Mo_one 251 = .ok (.iconst 0, 1) := by decide +kernel
theorem d_Mo_one_252 : decode b_Mo_one 252 = .ok (.invokevirtual 132, 3) := by decide +kernel
theorem d_Mo_one_255 : decode b_Mo_one 255 = .ok (.goto 697, 3) := by decide +kernel
theorem d_Mo_one_258 : decode b_Mo_one 258 = .ok (.aload_n 0, 1) := by decide +kernel
theorem d_Mo_one_259 : decode b_Mo_one 259 = .ok (.iload_n 3, 1) := by decide +kernel
theorem d_Mo_one_260 : decode b_Mo_one 260 = .ok (.iload_n 1, 1) := by decide +kernel
theorem d_Mo_one_261 : decode b_Mo_one 261 = .ok (.sipush (-4096), 3) := by decide +kernel
theorem d_Mo_one_264 : decode b_Mo_one 264 = .ok (.iand, 1) := by decide +kernel
theorem d_Mo_one_265 : decode b_Mo_one 265 = .ok (.aload_n 0, 1) := by decide +kernel
theorem d_Mo_one_266 : decode b_Mo_one 266 = .ok (.getfield 82, 3) := by decide +kernel
theorem d_Mo_one_269 : decode b_Mo_one 269 = .ok (.iadd, 1) := by decide +kernel
theorem d_Mo_one_270 : decode b_Mo_one 270 = .ok (.iconst 0, 1) := by decide +kernel
theorem d_Mo_one_271 : decode b_Mo_one 271 = .ok (.invokevirtual 132, 3) := by decide +kernel
theorem d_Mo_one_274 : decode b_Mo_one 274 = .ok (.goto 678, 3) := by decide +kernel
theorem d_Mo_one_277 : decode b_Mo_one 277 = .ok (.iload_n 1, 1) := by decide +kernel
theorem d_Mo_one_278 : decode b_Mo_one 278 = .ok (.bipush 31, 2) := by decide +kernel
theorem d_Mo_one_280 : decode b_Mo_one 280 = .ok (.iushr, 1) := by decide +kernel
theorem d_Mo_one_281 : decode b_Mo_one 281 = .ok (.bipush 20, 2) := by decide +kernel
theorem d_Mo_one_283 : decode b_Mo_one 283 = .ok (.ishl, 1) := by decide +kernel
theorem d_Mo_one_284 : decode b_Mo_one 284 = .ok (.iload_n 1, 1) := by decide +kernel
theorem d_Mo_one_285 : decode b_Mo_one 285 = .ok (.bipush 12, 2) := by decide +kernel
theorem d_Mo_one_287 : decode b_Mo_one 287 = .ok (.ishr, 1) := by decide +kernel
theorem d_Mo_one_288 : decode b_Mo_one 288 = .ok (.sipush 255, 3) := by decide +kernel
theorem d_Mo_one_291 : decode b_Mo_one 291 = .ok (.iand, 1) := by decide +kernel
theorem d_Mo_one_292 : decode b_Mo_one 292 = .ok (.bipush 12, 2) := by decide +kernel
theorem d_Mo_one_294 : decode b_Mo_one 294 = .ok (.ishl, 1) := by decide +kernel
theorem d_Mo_one_295 : decode b_Mo_one 295 = .ok (.ior, 1) := by decide +kernel
theorem d_Mo_one_296 : decode b_Mo_one 296 = .ok (.iload_n 1, 1) := by decide +kernel
theorem d_Mo_one_297 : decode b_Mo_one 297 = .ok (.bipush 20, 2) := by decide +kernel
theorem d_Mo_one_299 : decode b_Mo_one 299 = .ok (.ishr, 1) := by decide +kernel
theorem d_Mo_one_300 : decode b_Mo_one 300 = .ok (.iconst 1, 1) := by decide +kernel
theorem d_Mo_one_301 : decode b_Mo_one 301 = .ok (.iand, 1) := by decide +kernel
theorem d_Mo_one_302 : decode b_Mo_one 302 = .ok (.bipush 11, 2) := by decide +kernel
theorem d_Mo_one_304 : decode b_Mo_one 304 = .ok (.ishl, 1) := by decide +kernel
theorem d_Mo_one_305 : decode b_Mo_one 305 = .ok (.ior, 1) := by decide +kernel
theorem d_Mo_one_306 : decode b_Mo_one 306 = .ok (.iload_n 1, 1) := by decide +kernel
theorem d_Mo_one_307 : decode b_Mo_one 307 = .ok (.bipush 21, 2) := by decide +kernel
theorem d_Mo_one_309 : decode b_Mo_one 309 = .ok (.ishr, 1) := by decide +kernel
theorem d_Mo_one_310 : decode b_Mo_one 310 = .ok (.sipush 1023, 3) := by decide +kernel
theorem d_Mo_one_313 : decode b_Mo_one 313 = .ok (.iand, 1) := by decide +kernel
theorem d_Mo_one_314 : decode b_Mo_one 314 = .ok (.iconst 1, 1) := by decide +kernel
theorem d_Mo_one_315 : decode b_Mo_one 315 = .ok (.ishl, 1) := by decide +kernel
theorem d_Mo_one_316 : decode b_Mo_one 316 = .ok (.ior, 1) := by decide +kernel
theorem d_Mo_one_317 : decode b_Mo_one 317 = .ok (.bipush 21, 2) := by decide +kernel
theorem d_Mo_one_319 : decode b_Mo_one 319 = .ok (.invokestatic 136, 3) := by decide +kernel
theorem d_Mo_one_322 : decode b_Mo_one 322 = .ok (.istore 10, 2) := by decide +kernel
theorem d_Mo_one_324 : decode b_Mo_one 324 = .ok (.aload_n 0, 1) := by decide +kernel
theorem d_Mo_one_325 : decode b_Mo_one 325 = .ok (.iload_n 3, 1) := by decide +kernel
theorem d_Mo_one_326 : decode b_Mo_one 326 = .ok (.aload_n 0, 1) := by decide +kernel
theorem d_Mo_one_327 : decode b_Mo_one 327 = .ok (.getfield 82, 3) := by decide +kernel
theorem d_Mo_one_330 : decode b_Mo_one 330 = .ok (.iconst 4, 1) := by decide +kernel
theorem d_Mo_one_331 : decode b_Mo_one 331 = .ok (.iadd, 1) := by decide +kernel
theorem d_Mo_one_332 : decode b_Mo_one 332 = .ok (.iconst 0, 1) := by decide +kernel
theorem d_Mo_one_333 : decode b_Mo_one 333 = .ok (.invokevirtual 132, 3) := by decide +kernel
theorem d_Mo_one_336 : decode b_Mo_one 336 = .ok (.iload_n 3, 1) := by decide +kernel
theorem d_Mo_one_337 : decode b_Mo_one 337 = .ok (.iconst 1, 1) := by decide +kernel
theorem d_Mo_one_338 : decode b_Mo_one 338 = .ok (.if_icmp .ne 7, 3) := by decide +kernel
theorem d_Mo_one_341 : decode b_Mo_one 341 = .ok (.aload_n 0, 1) := by decide +kernel
theorem d_Mo_one_342 : decode b_Mo_one 342 = .ok (.invokevirtual 140, 3) := by decide +kernel
theorem d_Mo_one_345 : decode b_Mo_one 345 = .ok (.aload_n 0, 1) := by decide +kernel
theorem d_Mo_one_346 : decode b_Mo_one 346 = .ok (.getfield 82, 3) := by decide +kernel
theorem d_Mo_one_349 : decode b_Mo_one 349 = .ok (.iload 10, 2) := by decide +kernel
theorem d_Mo_one_351 : decode b_Mo_one 351 = .ok (.iadd, 1) := by decide +kernel
theorem d_Mo_one_352 : decode b_Mo_one 352 = .ok (.istore 9, 2) := by decide +kernel
theorem d_Mo_one_354 : decode b_Mo_one 354 = .ok (.goto 598, 3) := by decide +kernel
theorem d_Mo_one_357 : decode b_Mo_one 357 = .ok (.iload 4, 2) := by decide +kernel
theorem d_Mo_one_359 : decode b_Mo_one 359 = .ok (.ifCond .eq 9, 3) := by decide +kernel
theorem d_Mo_one_362 : decode b_Mo_one 362 = .ok (.aload_n 0, 1) := by decide +kernel
theorem d_Mo_one_363 : decode b_Mo_one 363 = .ok (.iconst 1, 1) := by decide +kernel
theorem d_Mo_one_364 : decode b_Mo_one 364 = .ok (.invokevirtual 120, 3) := by decide +kernel
theorem d_Mo_one_367 : decode b_Mo_one 367 = .ok (.return_, 1) := by decide +kernel
theorem d_Mo_one_368 : decode b_Mo_one 368 = .ok (.aload_n 0, 1) := by decide +kernel
theorem d_Mo_one_369 : decode b_Mo_one 369 = .ok (.getfield 17, 3) := by decide +kernel
theorem d_Mo_one_372 : decode b_Mo_one 372 = .ok (.iload 5, 2) := by decide +kernel
theorem d_Mo_one_374 : decode b_Mo_one 374 = .ok (.iaload, 1) := by decide +kernel
theorem d_Mo_one_375 : decode b_Mo_one 375 = .ok (.iload 8, 2) := by decide +kernel
theorem d_Mo_one_377 : decode b_Mo_one 377 = .ok (.iadd, 1) := by decide +kernel
theorem d_Mo_one_378 : decode b_Mo_one 378 = .ok (.bipush (-2), 2) := by decide +kernel
theorem d_Mo_one_380 : decode b_Mo_one 380 = .ok (.iand, 1) := by decide +kernel
theorem d_Mo_one_381 : decode b_Mo_one 381 = .ok (.istore 10, 2) := by decide +kernel
theorem d_Mo_one_383 : decode b_Mo_one 383 = .ok (.aload_n 0, 1) := by decide +kernel
theorem d_Mo_one_384 : decode b_Mo_one 384 = .ok (.iload 5, 2) := by decide +kernel
theorem d_Mo_one_386 : decode b_Mo_one 386 = .ok (.bipush 32, 2) := by decide +kernel
theorem d_Mo_one_388 : decode b_Mo_one 388 = .ok (.invokevirtual 143, 3) := by decide +kernel
theorem d_Mo_one_391 : decode b_Mo_one 391 = .ok (.ifCond .eq 10, 3) := by decide +kernel
theorem d_Mo_one_394 : decode b_Mo_one 394 = .ok (.aload_n 0, 1) := by decide +kernel
theorem d_Mo_one_395 : decode b_Mo_one 395 = .ok (.iconst 3, 1) := by decide +kernel
theorem d_Mo_one_396 : decode b_Mo_one 396 = .ok (.iload 10, 2) := by decide +kernel
theorem d_Mo_one_398 : decode b_Mo_one 398 = .ok (.invokevirtual 128, 3) := by decide +kernel
theorem d_Mo_one_401 : decode b_Mo_one 401 = .ok (.aload_n 0, 1) := by decide +kernel
theorem d_Mo_one_402 : decode b_Mo_one 402 = .ok (.iload_n 3, 1) := by decide +kernel
theorem d_Mo_one_403 : decode b_Mo_one 403 = .ok (.aload_n 0, 1) := by decide +kernel
theorem d_Mo_one_404 : decode b_Mo_one 404 = .ok (.getfield 82, 3) := by decide +kernel
theorem d_Mo_one_407 : decode b_Mo_one 407 = .ok (.iconst 4, 1) := by decide +kernel
theorem d_Mo_one_408 : decode b_Mo_one 408 = .ok (.iadd, 1) := by decide +kernel
theorem d_Mo_one_409 : decode b_Mo_one 409 = .ok (.iconst 0, 1) := by decide +kernel
theorem d_Mo_one_410 : decode b_Mo_one 410 = .ok (.invokevirtual 132, 3) := by decide +kernel
theorem d_Mo_one_413 : decode b_Mo_one 413 = .ok (.iload_n 3, 1) := by decide +kernel
theorem d_Mo_one_414 : decode b_Mo_one 414 = .ok (.iconst 1, 1) := by decide +kernel
theorem d_Mo_one_415 : decode b_Mo_one 415 = .ok (.if_icmp .ne 10, 3) := by decide +kernel
theorem d_Mo_one_418 : decode b_Mo_one 418 = .ok (.aload_n 0, 1) := by decide +kernel
theorem d_Mo_one_419 : decode b_Mo_one 419 = .ok (.invokevirtual 140, 3) := by decide +kernel
theorem d_Mo_one_422 : decode b_Mo_one 422 = .ok (.goto 26, 3) := by decide +kernel
theorem d_Mo_one_425 : decode b_Mo_one 425 = .ok (.iload 5, 2) := by decide +kernel
theorem d_Mo_one_427 : decode b_Mo_one 427 = .ok (.iconst 1, 1) := by decide +kernel
theorem d_Mo_one_428 : decode b_Mo_one 428 = .ok (.if_icmp .ne 20, 3) := by decide +kernel
theorem d_Mo_one_431 : decode b_Mo_one 431 = .ok (.aload_n 0, 1) := by decide +kernel
theorem d_Mo_one_432 : decode b_Mo_one 432 = .ok (.getfield 109, 3) := by decide +kernel
theorem d_Mo_one_435 : decode b_Mo_one 435 = .ok (.ifCond .le 13, 3) := by decide +kernel
theorem d_Mo_one_438 : decode b_Mo_one 438 = .ok (.aload_n 0, 1) := by decide +kernel
theorem d_Mo_one_439 : decode b_Mo_one 439 = .ok (.dup, 1) := by decide +kernel
theorem d_Mo_one_440 : decode b_Mo_one 440 = .ok (.getfield 109, 3) := by decide +kernel
theorem d_Mo_one_443 : decode b_Mo_one 443 = .ok (.iconst 1, 1) := by decide +kernel
theorem d_Mo_one_444 : decode b_Mo_one 444 = .ok (.isub, 1) := by decide +kernel
theorem d_Mo_one_445 : decode b_Mo_one 445 = .ok (.putfield 109, 3) := by decide +kernel
theorem d_Mo_one_448 : decode b_Mo_one 448 = .ok (.iload 10, 2) := by decide +kernel
theorem d_Mo_one_450 : decode b_Mo_one 450 = .ok (.istore 9, 2) := by decide +kernel
theorem d_Mo_one_452 : decode b_Mo_one 452 = .ok (.goto 500, 3) := by decide +kernel
theorem d_Mo_one_455 : decode b_Mo_one 455 = .ok (.iload 4, 2) := by decide +kernel
theorem d_Mo_one_457 : decode b_Mo_one 457 = .ok (.iconst 2, 1) := by decide +kernel
theorem d_Mo_one_458 : decode b_Mo_one 458 = .ok (.if_icmp .eq 9, 3) := by decide +kernel
theorem d_Mo_one_461 : decode b_Mo_one 461 = .ok (.iload 4, 2) := by decide +kernel
theorem d_Mo_one_463 : decode b_Mo_one 463 = .ok (.iconst 3, 1) := by decide +kernel
theorem d_Mo_one_464 : decode b_Mo_one 464 = .ok (.if_icmp .ne 9, 3) := by decide +kernel
theorem d_Mo_one_467 : decode b_Mo_one 467 = .ok (.aload_n 0, 1) := by decide +kernel
theorem d_Mo_one_468 : decode b_Mo_one 468 = .ok (.iconst 1, 1) := by decide +kernel
theorem d_Mo_one_469 : decode b_Mo_one 469 = .ok (.invokevirtual 120, 3) := by decide +kernel
theorem d_Mo_one_472 : decode b_Mo_one 472 = .ok (.return_, 1) := by decide +kernel
theorem d_Mo_one_473 : decode b_Mo_one 473 = .ok (.aload_n 0, 1) := by decide +kernel
theorem d_Mo_one_474 : decode b_Mo_one 474 = .ok (.iload 5, 2) := by decide +kernel
theorem d_Mo_one_476 : decode b_Mo_one 476 = .ok (.bipush 32, 2) := by decide +kernel
theorem d_Mo_one_478 : decode b_Mo_one 478 = .ok (.invokevirtual 143, 3) := by decide +kernel
theorem d_Mo_one_481 : decode b_Mo_one 481 = .ok (.ifCond .ne 14, 3) := by decide +kernel
theorem d_Mo_one_484 : decode b_Mo_one 484 = .ok (.aload_n 0, 1) := by decide +kernel
theorem d_Mo_one_485 : decode b_Mo_one 485 = .ok (.iload 6, 2) := by decide +kernel
theorem d_Mo_one_487 : decode b_Mo_one 487 = .ok (.bipush 32, 2) := by decide +kernel
theorem d_Mo_one_489 : decode b_Mo_one 489 = .ok (.invokevirtual 143, 3) := by decide +kernel
theorem d_Mo_one_492 : decode b_Mo_one 492 = .ok (.ifCond .eq 9, 3) := by decide +kernel
theorem d_Mo_one_495 : decode b_Mo_one 495 = .ok (.aload_n 0, 1) := by decide +kernel
theorem d_Mo_one_496 : decode b_Mo_one 496 = .ok (.iconst 2, 1) := by decide +kernel
theorem d_Mo_one_497 : decode b_Mo_one 497 = .ok (.iconst 0, 1) := by decide +kernel
theorem d_Mo_one_498 : decode b_Mo_one 498 = .ok (.invokevirtual 128, 3) := by decide +kernel
theorem d_Mo_one_501 : decode b_Mo_one 501 = .ok (.iload 4, 2) := by decide +kernel
theorem d_Mo_one_503 : decode b_Mo_one 503 = .ok (.bipush 6, 2) := by decide +kernel
theorem d_Mo_one_505 : decode b_Mo_one 505 = .ok (.if_icmp .ge 14, 3) := by decide +kernel
theorem d_Mo_one_508 : decode b_Mo_one 508 = .ok (.aload_n 0, 1) := by decide +kernel
theorem d_Mo_one_509 : decode b_Mo_one 509 = .ok (.getfield 17, 3) := by decide +kernel
theorem d_Mo_one_512 : decode b_Mo_one 512 = .ok (.iload 5, 2) := by decide +kernel
theorem d_Mo_one_514 : decode b_Mo_one 514 = .ok (.iaload, 1) := by decide +kernel
theorem d_Mo_one_515 : decode b_Mo_one 515 = .ok (.i2l, 1) := by decide +kernel
theorem d_Mo_one_516 : decode b_Mo_one 516 = .ok (.goto 15, 3) := by decide +kernel
theorem d_Mo_one_519 : decode b_Mo_one 519 = .ok (.aload_n 0, 1) := by decide +kernel
theorem d_Mo_one_520 : decode b_Mo_one 520 = .ok (.getfield 17, 3) := by decide +kernel
theorem d_Mo_one_523 : decode b_Mo_one 523 = .ok (.iload 5, 2) := by decide +kernel
theorem d_Mo_one_525 : decode b_Mo_one 525 = .ok (.iaload, 1) := by decide +kernel
theorem d_Mo_one_526 : decode b_Mo_one 526 = .ok (.i2l, 1) := by decide +kernel
theorem d_Mo_one_527 : decode b_Mo_one 527 = .ok (.ldc2_w 147, 3) := by decide +kernel
theorem d_Mo_one_530 : decode b_Mo_one 530 = .ok (.land, 1) := by decide +kernel
theorem d_Mo_one_531 : decode b_Mo_one 531 = .ok (.lstore 10, 2) := by decide +kernel
theorem d_Mo_one_533 : decode b_Mo_one 533 = .ok (.iload 4, 2) := by decide +kernel
theorem d_Mo_one_535 : decode b_Mo_one 535 = .ok (.bipush 6, 2) := by decide +kernel
theorem d_Mo_one_537 : decode b_Mo_one 537 = .ok (.if_icmp .ge 14, 3) := by decide +kernel
theorem d_Mo_one_540 : decode b_Mo_one 540 = .ok (.aload_n 0, 1) := by decide +kernel
theorem d_Mo_one_541 : decode b_Mo_one 541 = .ok (.getfield 17, 3) := by decide +kernel
theorem d_Mo_one_544 : decode b_Mo_one 544 = .ok (.iload 6, 2) := by decide +kernel
theorem d_Mo_one_546 : decode b_Mo_one 546 = .ok (.iaload, 1) := by decide +kernel
theorem d_Mo_one_547 : decode b_Mo_one 547 = .ok (.i2l, 1) := by decide +kernel
theorem d_Mo_one_548 : decode b_Mo_one 548 = .ok (.goto 15, 3) := by decide +kernel
theorem d_Mo_one_551 : decode b_Mo_one 551 = .ok (.aload_n 0, 1) := by decide +kernel
theorem d_Mo_one_552 : decode b_Mo_one 552 = .ok (.getfield 17, 3) := by decide +kernel
theorem d_Mo_one_555 : decode b_Mo_one 555 = .ok (.iload 6, 2) := by decide +kernel
theorem d_Mo_one_557 : decode b_Mo_one 557 = .ok (.iaload, 1) := by decide +kernel
theorem d_Mo_one_558 : decode b_Mo_one 558 = .ok (.i2l, 1) := by decide +kernel
theorem d_Mo_one_559 : decode b_Mo_one 559 = .ok (.ldc2_w 147, 3) := by decide +kernel
theorem d_Mo_one_562 : decode b_Mo_one 562 = .ok (.land, 1) := by decide +kernel
theorem d_Mo_one_563 : decode b_Mo_one 563 = .ok (.lstore 12, 2) := by decide +kernel
theorem d_Mo_one_565 : decode b_Mo_one 565 = .ok (.iload 4, 2) := by decide +kernel
theorem d_Mo_one_567 : decode b_Mo_one 567 = .ok (.ifCond .ne 19, 3) := by decide +kernel
theorem d_Mo_one_570 : decode b_Mo_one 570 = .ok (.lload 10, 2) := by decide +kernel
theorem d_Mo_one_572 : decode b_Mo_one 572 = .ok (.lload 12, 2) := by decide +kernel
theorem d_Mo_one_574 : decode b_Mo_one 574 = .ok (.lcmp, 1) := by decide +kernel
theorem d_Mo_one_575 : decode b_Mo_one 575 = .ok (.ifCond .ne 7, 3) := by decide +kernel
theorem d_Mo_one_578 : decode b_Mo_one 578 = .ok (.iconst 1, 1) := by decide +kernel
theorem d_Mo_one_579 : decode b_Mo_one 579 = .ok (.goto 71, 3) := by decide +kernel
theorem d_Mo_one_582 : decode b_Mo_one 582 = .ok (.iconst 0, 1) := by decide +kernel
theorem d_Mo_one_583 : decode b_Mo_one 583 = .ok (.goto 67, 3) := by decide +kernel
theorem d_Mo_one_586 : decode b_Mo_one 586 = .ok (.iload 4, 2) := by decide +kernel
theorem d_Mo_one_588 : decode b_Mo_one 588 = .ok (.iconst 1, 1) := by decide +kernel
theorem d_Mo_one_589 : decode b_Mo_one 589 = .ok (.if_icmp .ne 19, 3) := by decide +kernel
theorem d_Mo_one_592 : decode b_Mo_one 592 = .ok (.lload 10, 2) := by decide +kernel
theorem d_Mo_one_594 : decode b_Mo_one 594 = .ok (.lload 12, 2) := by decide +kernel
theorem d_Mo_one_596 : decode b_Mo_one 596 = .ok (.lcmp, 1) := by decide +kernel
theorem d_Mo_one_597 : decode b_Mo_one 597 = .ok (.ifCond .eq 7, 3) := by decide +kernel
theorem d_Mo_one_600 : decode b_Mo_one 600 = .ok (.iconst 1, 1) := by decide +kernel
theorem d_Mo_one_601 : decode b_Mo_one 601 = .ok (.goto 49, 3) := by decide +kernel
theorem d_Mo_one_604 : decode b_Mo_one 604 = .ok (.iconst 0, 1) := by decide +kernel
theorem d_Mo_one_605 : decode b_Mo_one 605 = .ok (.goto 45, 3) := by decide +kernel
theorem d_Mo_one_608 : decode b_Mo_one 608 = .ok (.iload 4, 2) := by decide +kernel
theorem d_Mo_one_610 : decode b_Mo_one 610 = .ok (.iconst 4, 1) := by decide +kernel
theorem d_Mo_one_611 : decode b_Mo_one 611 = .ok (.if_icmp .eq 10, 3) := by decide +kernel
theorem d_Mo_one_614 : decode b_Mo_one 614 = .ok (.iload 4, 2) := by decide +kernel
theorem d_Mo_one_616 : decode b_Mo_one 616 = .ok (.bipush 6, 2) := by decide +kernel
theorem d_Mo_one_618 : decode b_Mo_one 618 = .ok (.if_icmp .ne 19, 3) := by decide +kernel
theorem d_Mo_one_621 : decode b_Mo_one 621 = .ok (.lload 10, 2) := by decide +kernel
theorem d_Mo_one_623 : decode b_Mo_one 623 = .ok (.lload 12, 2) := by decide +kernel
theorem d_Mo_one_625 : decode b_Mo_one 625 = .ok (.lcmp, 1) := by decide +kernel
theorem d_Mo_one_626 : decode b_Mo_one 626 = .ok (.ifCond .ge 7, 3) := by decide +kernel
theorem d_Mo_one_629 : decode b_Mo_one 629 = .ok (.iconst 1, 1) := by decide +kernel
theorem d_Mo_one_630 : decode b_Mo_one 630 = .ok (.goto 20, 3) := by decide +kernel
theorem d_Mo_one_633 : decode b_Mo_one 633 = .ok (.iconst 0, 1) := by decide +kernel
theorem d_Mo_one_634 : decode b_Mo_one 634 = .ok (.goto 16, 3) := by decide +kernel
theorem d_Mo_one_637 : decode b_Mo_one 637 = .ok (.lload 10, 2) := by decide +kernel
theorem d_Mo_one_639 : decode b_Mo_one 639 = .ok (.lload 12, 2) := by decide +kernel
theorem d_Mo_one_641 : decode b_Mo_one 641 = .ok (.lcmp, 1) := by decide +kernel
theorem d_Mo_one_642 : decode b_Mo_one 642 = .ok (.ifCond .lt 7, 3) := by decide +kernel
theorem d_Mo_one_645 : decode b_Mo_one 645 = .ok (.iconst 1, 1) := by decide +kernel
theorem d_Mo_one_646 : decode b_Mo_one 646 = .ok (.goto 4, 3) := by decide +kernel
theorem d_Mo_one_649 : decode b_Mo_one 649 = .ok (.iconst 0, 1) := by decide +kernel
theorem d_Mo_one_650 : decode b_Mo_one 650 = .ok (.istore 14, 2) := by decide +kernel
theorem d_Mo_one_652 : decode b_Mo_one 652 = .ok (.iload_n 1, 1) := by decide +kernel
theorem d_Mo_one_653 : decode b_Mo_one 653 = .ok (.bipush 31, 2) := by decide +kernel
theorem d_Mo_one_655 : decode b_Mo_one 655 = .ok (.iushr, 1) := by decide +kernel
theorem d_Mo_one_656 : decode b_Mo_one 656 = .ok (.bipush 12, 2) := by decide +kernel
theorem d_Mo_one_658 : decode b_Mo_one 658 = .ok (.ishl, 1) := by decide +kernel
theorem d_Mo_one_659 : decode b_Mo_one 659 = .ok (.iload_n 1, 1) := by decide +kernel
theorem d_Mo_one_660 : decode b_Mo_one 660 = .ok (.bipush 7, 2) := by decide +kernel
theorem d_Mo_one_662 : decode b_Mo_one 662 = .ok (.ishr, 1) := by decide +kernel
theorem d_Mo_one_663 : decode b_Mo_one 663 = .ok (.iconst 1, 1) := by decide +kernel
theorem d_Mo_one_664 : decode b_Mo_one 664 = .ok (.iand, 1) := by decide +kernel
theorem d_Mo_one_665 : decode b_Mo_one 665 = .ok (.bipush 11, 2) := by decide +kernel
theorem d_Mo_one_667 : decode b_Mo_one 667 = .ok (.ishl, 1) := by decide +kernel
theorem d_Mo_one_668 : decode b_Mo_one 668 = .ok (.ior, 1) := by decide +kernel
theorem d_Mo_one_669 : decode b_Mo_one 669 = .ok (.iload_n 1, 1) := by decide +kernel
theorem d_Mo_one_670 : decode b_Mo_one 670 = .ok (.bipush 25, 2) := by decide +kernel
theorem d_Mo_one_672 : decode b_Mo_one 672 = .ok (.ishr, 1) := by decide +kernel
theorem d_Mo_one_673 : decode b_Mo_one 673 = .ok (.bipush 63, 2) := by decide +kernel
theorem d_Mo_one_675 : decode b_Mo_one 675 = .ok (.iand, 1) := by decide +kernel
theorem d_Mo_one_676 : decode b_Mo_one 676 = .ok (.iconst 5, 1) := by decide +kernel
theorem d_Mo_one_677 : decode b_Mo_one 677 = .ok (.ishl, 1) := by decide +kernel
theorem d_Mo_one_678 : decode b_Mo_one 678 = .ok (.ior, 1) := by decide +kernel
theorem d_Mo_one_679 : decode b_Mo_one 679 = .ok (.iload_n 1, 1) := by decide +kernel
theorem d_Mo_one_680 : decode b_Mo_one 680 = .ok (.bipush 8, 2) := by decide +kernel
theorem d_Mo_one_682 : decode b_Mo_one 682 = .ok (.ishr, 1) := by decide +kernel
theorem d_Mo_one_683 : decode b_Mo_one 683 = .ok (.bipush 15, 2) := by decide +kernel
theorem d_Mo_one_685 : decode b_Mo_one 685 = .ok (.iand, 1) := by decide +kernel
theorem d_Mo_one_686 : decode b_Mo_one 686 = .ok (.iconst 1, 1) := by decide +kernel
theorem d_Mo_one_687 : decode b_Mo_one 687 = .ok (.ishl, 1) := by decide +kernel
theorem d_Mo_one_688 : decode b_Mo_one 688 = .ok (.ior, 1) := by decide +kernel
theorem d_Mo_one_689 : decode b_Mo_one 689 = .ok (.bipush 13, 2) := by decide +kernel
theorem d_Mo_one_691 : decode b_Mo_one 691 = .ok (.invokestatic 136, 3) := by decide +kernel
theorem d_Mo_one_694 : decode b_Mo_one 694 = .ok (.istore 15, 2) := by decide +kernel
theorem d_Mo_one_696 : decode b_Mo_one 696 = .ok (.iload 14, 2) := by decide +kernel
theorem d_Mo_one_698 : decode b_Mo_one 698 = .ok (.ifCond .eq 254, 3) := by decide +kernel
theorem d_Mo_one_701 : decode b_Mo_one 701 = .ok (.aload_n 0, 1) := by decide +kernel
theorem d_Mo_one_702 : decode b_Mo_one 702 = .ok (.getfield 82, 3) := by decide +kernel
theorem d_Mo_one_705 : decode b_Mo_one 705 = .ok (.iload 15, 2) := by decide +kernel
theorem d_Mo_one_707 : decode b_Mo_one 707 = .ok (.iadd, 1) := by decide +kernel
theorem d_Mo_one_708 : decode b_Mo_one 708 = .ok (.istore 9, 2) := by decide +kernel
theorem d_Mo_one_710 : decode b_Mo_one 710 = .ok (.goto 242, 3) := by decide +kernel
theorem d_Mo_one_713 : decode b_Mo_one 713 = .ok (.aload_n 0, 1) := by decide +kernel
theorem d_Mo_one_714 : decode b_Mo_one 714 = .ok (.iload 4, 2) := by decide +kernel
theorem d_Mo_one_716 : decode b_Mo_one 716 = .ok (.iload_n 3, 1) := by decide +kernel
theorem d_Mo_one_717 : decode b_Mo_one 717 = .ok (.iload 5, 2) := by decide +kernel
theorem d_Mo_one_719 : decode b_Mo_one 719 = .ok (.aload_n 0, 1) := by decide +kernel
theorem d_Mo_one_720 : decode b_Mo_one 720 = .ok (.getfield 17, 3) := by decide +kernel
theorem d_Mo_one_723 : decode b_Mo_one 723 = .ok (.iload 5, 2) := by decide +kernel
theorem d_Mo_one_725 : decode b_Mo_one 725 = .ok (.iaload, 1) := by decide +kernel
theorem d_Mo_one_726 : decode b_Mo_one 726 = .ok (.iload 8, 2) := by decide +kernel
theorem d_Mo_one_728 : decode b_Mo_one 728 = .ok (.iadd, 1) := by decide +kernel
theorem d_Mo_one_729 : decode b_Mo_one 729 = .ok (.invokevirtual 149, 3) := by decide +kernel
theorem d_Mo_one_732 : decode b_Mo_one 732 = .ok (.ifCond .ne 220, 3) := by decide +kernel
theorem d_Mo_one_735 : decode b_Mo_one 735 = .ok (.return_, 1) := by decide +kernel
theorem d_Mo_one_736 : decode b_Mo_one 736 = .ok (.aload_n 0, 1) := by decide +kernel
theorem d_Mo_one_737 : decode b_Mo_one 737 = .ok (.iload 4, 2) := by decide +kernel
theorem d_Mo_one_739 : decode b_Mo_one 739 = .ok (.iload 5, 2) := by decide +kernel
theorem d_Mo_one_741 : decode b_Mo_one 741 = .ok (.iload 6, 2) := by decide +kernel
theorem d_Mo_one_743 : decode b_Mo_one 743 = .ok (.aload_n 0, 1) := by decide +kernel
theorem d_Mo_one_744 : decode b_Mo_one 744 = .ok (.getfield 17, 3) := by decide +kernel
theorem d_Mo_one_747 : decode b_Mo_one 747 = .ok (.iload 5, 2) := by decide +kernel
theorem d_Mo_one_749 : decode b_Mo_one 749 = .ok (.iaload, 1) := by decide +kernel
theorem d_Mo_one_750 : decode b_Mo_one 750 = .ok (.iload 7, 2) := by decide +kernel
theorem d_Mo_one_752 : decode b_Mo_one 752 = .ok (.iconst 5, 1) := by decide +kernel
theorem d_Mo_one_753 : decode b_Mo_one 753 = .ok (.ishl, 1) := by decide +kernel
theorem d_Mo_one_754 : decode b_Mo_one 754 = .ok (.iload_n 3, 1) := by decide +kernel
theorem d_Mo_one_755 : decode b_Mo_one 755 = .ok (.ior, 1) := by decide +kernel
theorem d_Mo_one_756 : decode b_Mo_one 756 = .ok (.bipush 12, 2) := by decide +kernel
theorem d_Mo_one_758 : decode b_Mo_one 758 = .ok (.invokestatic 136, 3) := by decide +kernel
theorem d_Mo_one_761 : decode b_Mo_one 761 = .ok (.iadd, 1) := by decide +kernel
theorem d_Mo_one_762 : decode b_Mo_one 762 = .ok (.invokevirtual 153, 3) := by decide +kernel
theorem d_Mo_one_765 : decode b_Mo_one 765 = .ok (.ifCond .ne 187, 3) := by decide +kernel
theorem d_Mo_one_768 : decode b_Mo_one 768 = .ok (.return_, 1) := by decide +kernel
theorem d_Mo_one_769 : decode b_Mo_one 769 = .ok (.iload 4, 2) := by decide +kernel
theorem d_Mo_one_771 : decode b_Mo_one 771 = .ok (.iconst 1, 1) := by decide +kernel
theorem d_Mo_one_772 : decode b_Mo_one 772 = .ok (.if_icmp .ne 8, 3) := by decide +kernel
theorem d_Mo_one_775 : decode b_Mo_one 775 = .ok (.iload 7, 2) := by decide +kernel
theorem d_Mo_one_777 : decode b_Mo_one 777 = .ok (.ifCond .ne 21, 3) := by decide +kernel
theorem d_Mo_one_780 : decode b_Mo_one 780 = .ok (.iload 4, 2) := by decide +kernel
theorem d_Mo_one_782 : decode b_Mo_one 782 = .ok (.iconst 5, 1) := by decide +kernel
theorem d_Mo_one_783 : decode b_Mo_one 783 = .ok (.if_icmp .ne 21, 3) := by decide +kernel
theorem d_Mo_one_786 : decode b_Mo_one 786 = .ok (.iload 7, 2) := by decide +kernel
theorem d_Mo_one_788 : decode b_Mo_one 788 = .ok (.ifCond .eq 16, 3) := by decide +kernel
theorem d_Mo_one_791 : decode b_Mo_one 791 = .ok (.iload 7, 2) := by decide +kernel
theorem d_Mo_one_793 : decode b_Mo_one 793 = .ok (.bipush 32, 2) := by decide +kernel
theorem d_Mo_one_795 : decode b_Mo_one 795 = .ok (.if_icmp .eq 9, 3) := by decide +kernel
theorem d_Mo_one_798 : decode b_Mo_one 798 = .ok (.aload_n 0, 1) := by decide +kernel
theorem d_Mo_one_799 : decode b_Mo_one 799 = .ok (.iconst 1, 1) := by decide +kernel
theorem d_Mo_one_800 : decode b_Mo_one 800 = .ok (.invokevirtual 120, 3) := by decide +kernel
theorem d_Mo_one_803 : decode b_Mo_one 803 = .ok (.return_, 1) := by decide +kernel
theorem d_Mo_one_804 : decode b_Mo_one 804 = .ok (.iload 4, 2) := by decide +kernel
theorem d_Mo_one_806 : decode b_Mo_one 806 = .ok (.iconst 1, 1) := by decide +kernel
theorem d_Mo_one_807 : decode b_Mo_one 807 = .ok (.if_icmp .eq 9, 3) := by decide +kernel
theorem d_Mo_one_810 : decode b_Mo_one 810 = .ok (.iload 4, 2) := by decide +kernel
theorem d_Mo_one_812 : decode b_Mo_one 812 = .ok (.iconst 5, 1) := by decide +kernel
theorem d_Mo_one_813 : decode b_Mo_one 813 = .ok (.if_icmp .ne 36, 3) := by decide +kernel
theorem d_Mo_one_816 : decode b_Mo_one 816 = .ok (.aload_n 0, 1) := by decide +kernel
theorem d_Mo_one_817 : decode b_Mo_one 817 = .ok (.iload 4, 2) := by decide +kernel
theorem d_Mo_one_819 : decode b_Mo_one 819 = .ok (.iconst 1, 1) := by decide +kernel
theorem d_Mo_one_820 : decode b_Mo_one 820 = .ok (.if_icmp .ne 7, 3) := by decide +kernel
theorem d_Mo_one_823 : decode b_Mo_one 823 = .ok (.iconst 0, 1) := by decide +kernel
theorem d_Mo_one_824 : decode b_Mo_one 824 = .ok (.goto 13, 3) := by decide +kernel
theorem d_Mo_one_827 : decode b_Mo_one 827 = .ok (.iload 7, 2) := by decide +kernel
theorem d_Mo_one_829 : decode b_Mo_one 829 = .ok (.ifCond .ne 7, 3) := by decide +kernel
theorem d_Mo_one_832 : decode b_Mo_one 832 = .ok (.iconst 1, 1) := by decide +kernel
theorem d_Mo_one_833 : decode b_Mo_one 833 = .ok (.goto 4, 3) := by decide +kernel
theorem d_Mo_one_836 : decode b_Mo_one 836 = .ok (.iconst 2, 1) := by decide +kernel
theorem d_Mo_one_837 : decode b_Mo_one 837 = .ok (.iload_n 3, 1) := by decide +kernel
theorem d_Mo_one_838 : decode b_Mo_one 838 = .ok (.iload 5, 2) := by decide +kernel
theorem d_Mo_one_840 : decode b_Mo_one 840 = .ok (.iload 6, 2) := by decide +kernel
theorem d_Mo_one_842 : decode b_Mo_one 842 = .ok (.iconst 0, 1) := by decide +kernel
theorem d_Mo_one_843 : decode b_Mo_one 843 = .ok (.invokevirtual 156, 3) := by decide +kernel
theorem d_Mo_one_846 : decode b_Mo_one 846 = .ok (.goto 106, 3) := by decide +kernel
theorem d_Mo_one_849 : decode b_Mo_one 849 = .ok (.aload_n 0, 1) := by decide +kernel
theorem d_Mo_one_850 : decode b_Mo_one 850 = .ok (.iload 4, 2) := by decide +kernel
theorem d_Mo_one_852 : decode b_Mo_one 852 = .ok (.iconst 0, 1) := by decide +kernel
theorem d_Mo_one_853 : decode b_Mo_one 853 = .ok (.iload_n 3, 1) := by decide +kernel
theorem d_Mo_one_854 : decode b_Mo_one 854 = .ok (.aload_n 0, 1) := by decide +kernel
theorem d_Mo_one_855 : decode b_Mo_one 855 = .ok (.getfield 17, 3) := by decide +kernel
theorem d_Mo_one_858 : decode b_Mo_one 858 = .ok (.iload 5, 2) := by decide +kernel
theorem d_Mo_one_860 : decode b_Mo_one 860 = .ok (.iaload, 1) := by decide +kernel
theorem d_Mo_one_861 : decode b_Mo_one 861 = .ok (.aload_n 0, 1) := by decide +kernel
theorem d_Mo_one_862 : decode b_Mo_one 862 = .ok (.iload 5, 2) := by decide +kernel
theorem d_Mo_one_864 : decode b_Mo_one 864 = .ok (.invokevirtual 160, 3) := by decide +kernel
theorem d_Mo_one_867 : decode b_Mo_one 867 = .ok (.iload 8, 2) := by decide +kernel
theorem d_Mo_one_869 : decode b_Mo_one 869 = .ok (.iconst 0, 1) := by decide +kernel
theorem d_Mo_one_870 : decode b_Mo_one 870 = .ok (.invokevirtual 162, 3) := by decide +kernel
theorem d_Mo_one_873 : decode b_Mo_one 873 = .ok (.goto 79, 3) := by decide +kernel
theorem d_Mo_one_876 : decode b_Mo_one 876 = .ok (.aload_n 0, 1) := by decide +kernel
theorem d_Mo_one_877 : decode b_Mo_one 877 = .ok (.iload 4, 2) := by decide +kernel
theorem d_Mo_one_879 : decode b_Mo_one 879 = .ok (.iload 7, 2) := by decide +kernel
theorem d_Mo_one_881 : decode b_Mo_one 881 = .ok (.iload_n 3, 1) := by decide +kernel
theorem d_Mo_one_882 : decode b_Mo_one 882 = .ok (.iload 5, 2) := by decide +kernel
theorem d_Mo_one_884 : decode b_Mo_one 884 = .ok (.iload 6, 2) := by decide +kernel
theorem d_Mo_one_886 : decode b_Mo_one 886 = .ok (.invokevirtual 166, 3) := by decide +kernel
theorem d_Mo_one_889 : decode b_Mo_one 889 = .ok (.ifCond .ne 63, 3) := by decide +kernel
theorem d_Mo_one_892 : decode b_Mo_one 892 = .ok (.aload_n 0, 1) := by decide +kernel
theorem d_Mo_one_893 : decode b_Mo_one 893 = .ok (.iconst 1, 1) := by decide +kernel
theorem d_Mo_one_894 : decode b_Mo_one 894 = .ok (.invokevirtual 120, 3) := by decide +kernel
theorem d_Mo_one_897 : decode b_Mo_one 897 = .ok (.return_, 1) := by decide +kernel
theorem d_Mo_one_898 : decode b_Mo_one 898 = .ok (.goto 54, 3) := by decide +kernel
theorem d_Mo_one_901 : decode b_Mo_one 901 = .ok (.iload_n 1, 1) := by decide +kernel
theorem d_Mo_one_902 : decode b_Mo_one 902 = .ok (.bipush 115, 2) := by decide +kernel
theorem d_Mo_one_904 : decode b_Mo_one 904 = .ok (.if_icmp .ne 26, 3) := by decide +kernel
theorem d_Mo_one_907 : decode b_Mo_one 907 = .ok (.aload_n 0, 1) := by decide +kernel
theorem d_Mo_one_908 : decode b_Mo_one 908 = .ok (.invokevirtual 170, 3) := by decide +kernel
theorem d_Mo_one_911 : decode b_Mo_one 911 = .ok (.aload_n 0, 1) := by decide +kernel
theorem d_Mo_one_912 : decode b_Mo_one 912 = .ok (.getfield 85, 3) := by decide +kernel
theorem d_Mo_one_915 : decode b_Mo_one 915 = .ok (.iconst 1, 1) := by decide +kernel
theorem d_Mo_one_916 : decode b_Mo_one 916 = .ok (.if_icmp .ne 36, 3) := by decide +kernel
theorem d_Mo_one_919 : decode b_Mo_one 919 = .ok (.aload_n 0, 1) := by decide +kernel
theorem d_Mo_one_920 : decode b_Mo_one 920 = .ok (.dup, 1) := by decide +kernel
theorem d_Mo_one_921 : decode b_Mo_one 921 = .ok (.getfield 91, 3) := by decide +kernel
theorem d_Mo_one_924 : decode b_Mo_one 924 = .ok (.iconst 1, 1) := by decide +kernel
theorem d_Mo_one_925 : decode b_Mo_one 925 = .ok (.iadd, 1) := by decide +kernel
theorem d_Mo_one_926 : decode b_Mo_one 926 = .ok (.putfield 91, 3) := by decide +kernel
theorem d_Mo_one_929 : decode b_Mo_one 929 = .ok (.return_, 1) := by decide +kernel
theorem d_Mo_one_930 : decode b_Mo_one 930 = .ok (.aload_n 0, 1) := by decide +kernel
theorem d_Mo_one_931 : decode b_Mo_one 931 = .ok (.iload_n 1, 1) := by decide +kernel
theorem d_Mo_one_932 : decode b_Mo_one 932 = .ok (.ldc 173, 2) := by decide +kernel
theorem d_Mo_one_934 : decode b_Mo_one 934 = .ok (.if_icmp .ne 7, 3) := by decide +kernel
theorem d_Mo_one_937 : decode b_Mo_one 937 = .ok (.iconst 3, 1) := by decide +kernel
theorem d_Mo_one_938 : decode b_Mo_one 938 = .ok (.goto 4, 3) := by decide +kernel
theorem d_Mo_one_941 : decode b_Mo_one 941 = .ok (.iconst 1, 1) := by decide +kernel
theorem d_Mo_one_942 : decode b_Mo_one 942 = .ok (.invokevirtual 120, 3) := by decide +kernel
theorem d_Mo_one_945 : decode b_Mo_one 945 = .ok (.return_, 1) := by decide +kernel
theorem d_Mo_one_946 : decode b_Mo_one 946 = .ok (.aload_n 0, 1) := by decide +kernel
theorem d_Mo_one_947 : decode b_Mo_one 947 = .ok (.iconst 1, 1) := by decide +kernel
theorem d_Mo_one_948 : decode b_Mo_one 948 = .ok (.invokevirtual 120, 3) := by decide +kernel
theorem d_Mo_one_951 : decode b_Mo_one 951 = .ok (.return_, 1) := by decide +kernel
theorem d_Mo_one_952 : decode b_Mo_one 952 = .ok (.aload_n 0, 1) := by decide +kernel
theorem d_Mo_one_953 : decode b_Mo_one 953 = .ok (.iload 9, 2) := by decide +kernel
theorem d_Mo_one_955 : decode b_Mo_one 955 = .ok (.putfield 82, 3) := by decide +kernel
theorem d_Mo_one_958 : decode b_Mo_one 958 = .ok (.aload_n 0, 1) := by decide +kernel
theorem d_Mo_one_959 : decode b_Mo_one 959 = .ok (.dup, 1) := by decide +kernel
theorem d_Mo_one_960 : decode b_Mo_one 960 = .ok (.getfield 91, 3) := by decide +kernel
theorem d_Mo_one_963 : decode b_Mo_one 963 = .ok (.iconst 1, 1) := by decide +kernel
theorem d_Mo_one_964 : decode b_Mo_one 964 = .ok (.iadd, 1) := by decide +kernel
theorem d_Mo_one_965 : decode b_Mo_one 965 = .ok (.putfield 91, 3) := by decide +kernel
theorem d_Mo_one_968 : decode b_Mo_one 968 = .ok (.return_, 1) := by decide +kernel
def f_Mo_one_952 (u : S5) (w : Int32) (op : Int32) (d : Nat) (f : Nat) (a : Nat) (b : Nat) (g : Int32) (im : Int32) (nx : Int32) (u2 : S5) : S5 := sI (sI u2 1 nx) 4 ((gI u2 4) + (1 : Int32))
def f_Mo_one_804 (u : S5) (w : Int32) (op : Int32) (d : Nat) (f : Nat) (a : Nat) (b : Nat) (g : Int32) (im : Int32) (v1 : S5) : S5 := if f = 1 then (let x9 : Int32 := if f = 1 then 0 else if g = 0 then 1 else 2; f_Mo_one_952 u w op d f a b g im ((gI v1 1) + (4 : Int32)) (f_Mo_shift x9 d a b false v1)) else if f = 5 then (let x13 : Int32 := if f = 1 then 0 else if g = 0 then 1 else 2; f_Mo_one_952 u w op d f a b g im ((gI v1 1) + (4 : Int32)) (f_Mo_shift x13 d a b false v1)) else f_Mo_one_952 u w op d f a b g im ((gI v1 1) + (4 : Int32)) (f_Mo_sum1 (nI f) false d (aI v1 2 a) (f_Mo_dark a v1) im 0 v1)
def f_Mo_one_780 (u : S5) (w : Int32) (op : Int32) (d : Nat) (f : Nat) (a : Nat) (b : Nat) (g : Int32) (im : Int32) (v1 : S5) : S5 := if f = 5 then (if g = 0 then f_Mo_one_804 u w op d f a b g im v1 else if g = 32 then f_Mo_one_804 u w op d f a b g im v1 else f_Mo_trap 1 v1) else f_Mo_one_804 u w op d f a b g im v1
def f_Mo_one_501 (u : S5) (w : Int32) (op : Int32) (d : Nat) (f : Nat) (a : Nat) (b : Nat) (g : Int32) (im : Int32) (v1 : S5) (u3 : S5) : S5 := let x30 : Int64 := if f < 6 then (aI u3 2 a).toInt64 else ((aI u3 2 a).toInt64) &&& 4294967295; let x31 : Int64 := if f < 6 then (aI u3 2 b).toInt64 else ((aI u3 2 b).toInt64) &&& 4294967295; let x32 : Bool := if f = 0 then (if (lg_cmp x30 x31) = 0 then true else false) else if f = 1 then (if (lg_cmp x30 x31) = 0 then false else true) else if f = 4 then (if 0 ≤ (lg_cmp x30 x31) then false else true) else if f = 6 then (if 0 ≤ (lg_cmp x30 x31) then false else true) else if (lg_cmp x30 x31) < 0 then false else true; if x32 = true then f_Mo_one_952 u w op d f a b g im ((gI u3 1) + (f_Mo_signed ((((((w.toUInt32 >>> ((31 : Int32).toUInt32 &&& Int32.toUInt32 31)).toInt32) <<< ((12 : Int32) &&& 31)) ||| (((w >>> ((7 : Int32) &&& 31)) &&& (1 : Int32)) <<< ((11 : Int32) &&& 31))) ||| (((w >>> ((25 : Int32) &&& 31)) &&& (63 : Int32)) <<< ((5 : Int32) &&& 31))) ||| (((w >>> ((8 : Int32) &&& 31)) &&& (15 : Int32)) <<< ((1 : Int32) &&& 31))) 13)) u3 else f_Mo_one_952 u w op d f a b g im ((gI v1 1) + (4 : Int32)) u3
def f_Mo_one_401 (u : S5) (w : Int32) (op : Int32) (d : Nat) (f : Nat) (a : Nat) (b : Nat) (g : Int32) (im : Int32) (v1 : S5) (u3 : S5) : S5 := if d = 1 then f_Mo_one_952 u w op d f a b g im (((aI v1 2 a) + im) &&& (-2 : Int32)) (f_Mo_push (f_Mo_give d ((gI u3 1) + (4 : Int32)) 0 u3)) else if a = 1 then (if (gN (f_Mo_give d ((gI u3 1) + (4 : Int32)) 0 u3) 5) = 0 then f_Mo_one_952 u w op d f a b g im (((aI v1 2 a) + im) &&& (-2 : Int32)) (f_Mo_give d ((gI u3 1) + (4 : Int32)) 0 u3) else f_Mo_one_952 u w op d f a b g im (((aI v1 2 a) + im) &&& (-2 : Int32)) (sN (f_Mo_give d ((gI u3 1) + (4 : Int32)) 0 u3) 5 (gN (f_Mo_give d ((gI u3 1) + (4 : Int32)) 0 u3) 5 - 1))) else f_Mo_one_952 u w op d f a b g im (((aI v1 2 a) + im) &&& (-2 : Int32)) (f_Mo_give d ((gI u3 1) + (4 : Int32)) 0 u3)
def f_Mo_one_95 (u : S5) (w : Int32) (op : Int32) (d : Nat) (f : Nat) (a : Nat) (b : Nat) (g : Int32) (im : Int32) : Nat → Nat → S5
  | 0, i => u
  | k95 + 1, i => if i < 4 then (if (aB u 0 ((gI u 1).toNatClampNeg + i)) = true then f_Mo_one_95 u w op d f a b g im k95 (i + 1) else (f_Mo_fault 1 (nI ((gI u 1).toNatClampNeg + i)) u)) else u
def f_Mo_one (u : S5) : S5 := if ((gI u 1) &&& (3 : Int32)) = 0 then (if (gI u 1) < 0 then f_Mo_trap 0 u else if (gI u 1) ≤ 65532 then (let w : Int32 := f_Mo_word ((gI u 1).toNatClampNeg) u; let op : Int32 := w &&& (127 : Int32); let d : Nat := n5 (w >>> ((7 : Int32) &&& 31)); let f : Nat := n3 (w >>> ((12 : Int32) &&& 31)); let a : Nat := n5 (w >>> ((15 : Int32) &&& 31)); let b : Nat := n5 (w >>> ((20 : Int32) &&& 31)); let g : Int32 := (w.toUInt32 >>> ((25 : Int32).toUInt32 &&& Int32.toUInt32 31)).toInt32; let im : Int32 := w >>> ((20 : Int32) &&& 31); let v1 : S5 := f_Mo_one_95 u w op d f a b g im 5 0; if op = 3 then (if ((f_Mo_reads f d a ((aI v1 2 a) + im) v1).1) = true then f_Mo_one_952 u w op d f a b g im ((gI v1 1) + (4 : Int32)) ((f_Mo_reads f d a ((aI v1 2 a) + im) v1).2) else (f_Mo_reads f d a ((aI v1 2 a) + im) v1).2) else if op = 15 then f_Mo_one_952 u w op d f a b g im ((gI v1 1) + (4 : Int32)) v1 else if op = 19 then (if f = 1 then (if g = 0 then f_Mo_one_780 u w op d f a b g im v1 else f_Mo_trap 1 v1) else f_Mo_one_780 u w op d f a b g im v1) else if op = 23 then f_Mo_one_952 u w op d f a b g im ((gI v1 1) + (4 : Int32)) (f_Mo_give d ((w &&& (-4096 : Int32)) + (gI v1 1)) 0 v1) else if op = 35 then (if ((f_Mo_stores f a b ((aI v1 2 a) + (f_Mo_signed ((g <<< ((5 : Int32) &&& 31)) ||| (nI d)) 12)) v1).1) = true then f_Mo_one_952 u w op d f a b g im ((gI v1 1) + (4 : Int32)) ((f_Mo_stores f a b ((aI v1 2 a) + (f_Mo_signed ((g <<< ((5 : Int32) &&& 31)) ||| (nI d)) 12)) v1).2) else (f_Mo_stores f a b ((aI v1 2 a) + (f_Mo_signed ((g <<< ((5 : Int32) &&& 31)) ||| (nI d)) 12)) v1).2) else if op = 51 then (if ((f_Mo_both (nI f) g d a b v1).1) = true then f_Mo_one_952 u w op d f a b g im ((gI v1 1) + (4 : Int32)) ((f_Mo_both (nI f) g d a b v1).2) else f_Mo_trap 1 ((f_Mo_both (nI f) g d a b v1).2)) else if op = 55 then f_Mo_one_952 u w op d f a b g im ((gI v1 1) + (4 : Int32)) (f_Mo_give d (w &&& (-4096 : Int32)) 0 v1) else if op = 99 then (if f = 2 then f_Mo_trap 1 v1 else if f = 3 then f_Mo_trap 1 v1 else if (f_Mo_anyDark a 32 v1) = true then f_Mo_one_501 u w op d f a b g im v1 (f_Mo_fault 2 0 v1) else if (f_Mo_anyDark b 32 v1) = true then f_Mo_one_501 u w op d f a b g im v1 (f_Mo_fault 2 0 v1) else f_Mo_one_501 u w op d f a b g im v1 v1) else if op = 103 then (if f = 0 then (if (f_Mo_anyDark a 32 v1) = true then f_Mo_one_401 u w op d f a b g im v1 (f_Mo_fault 3 (((aI v1 2 a) + im) &&& (-2 : Int32)) v1) else f_Mo_one_401 u w op d f a b g im v1 v1) else f_Mo_trap 1 v1) else if op = 111 then (if d = 1 then f_Mo_one_952 u w op d f a b g im ((gI (f_Mo_push (f_Mo_give d ((gI v1 1) + (4 : Int32)) 0 v1)) 1) + (f_Mo_signed ((((((w.toUInt32 >>> ((31 : Int32).toUInt32 &&& Int32.toUInt32 31)).toInt32) <<< ((20 : Int32) &&& 31)) ||| (((w >>> ((12 : Int32) &&& 31)) &&& (255 : Int32)) <<< ((12 : Int32) &&& 31))) ||| (((w >>> ((20 : Int32) &&& 31)) &&& (1 : Int32)) <<< ((11 : Int32) &&& 31))) ||| (((w >>> ((21 : Int32) &&& 31)) &&& (1023 : Int32)) <<< ((1 : Int32) &&& 31))) 21)) (f_Mo_push (f_Mo_give d ((gI v1 1) + (4 : Int32)) 0 v1)) else f_Mo_one_952 u w op d f a b g im ((gI (f_Mo_give d ((gI v1 1) + (4 : Int32)) 0 v1) 1) + (f_Mo_signed ((((((w.toUInt32 >>> ((31 : Int32).toUInt32 &&& Int32.toUInt32 31)).toInt32) <<< ((20 : Int32) &&& 31)) ||| (((w >>> ((12 : Int32) &&& 31)) &&& (255 : Int32)) <<< ((12 : Int32) &&& 31))) ||| (((w >>> ((20 : Int32) &&& 31)) &&& (1 : Int32)) <<< ((11 : Int32) &&& 31))) ||| (((w >>> ((21 : Int32) &&& 31)) &&& (1023 : Int32)) <<< ((1 : Int32) &&& 31))) 21)) (f_Mo_give d ((gI v1 1) + (4 : Int32)) 0 v1)) else if op = 115 then (if w = 115 then (if (gI (f_Mo_call v1) 2) = 1 then sI (f_Mo_call v1) 4 ((gI (f_Mo_call v1) 4) + (1 : Int32)) else f_Mo_one_952 u w op d f a b g im ((gI v1 1) + (4 : Int32)) (f_Mo_call v1)) else let x57 : Int32 := if w = 1048691 then 3 else 1; f_Mo_trap x57 v1) else f_Mo_trap 1 v1) else f_Mo_trap 0 u) else f_Mo_trap 0 u
set_option maxHeartbeats 8000000 in
set_option maxRecDepth 100000 in
theorem c_Mo_one (l : Launch) (dC : Nat → ClassId) (dI : Nat → Nat → Nat) (cI cZ : ClassId) (ad : Nat → Nat) (u : S5) (ok : OkE u) (okk : OkK u) (okq : OkQ u) (sz : Nat) : Met l y_Mo_one w_Mo_one rm_Mo_one (PreW (dC, dI) classes [(cI, .int), (cZ, .boolean)] (wM cI cZ ad) u sz [.ref (ad 0)]) (QWv (dC, dI) classes [(cI, .int), (cZ, .boolean)] (wM cI cZ ad) (va_A (wM cI cZ ad u) sz) (f_Mo_one u)) 0 0 (va_A (wM cI cZ ad u) sz) := by
  generalize hres : f_Mo_one u = res
  refine Met.ofW (cc := b_Mo_one) (maxL := 16) (ret := none) (by decide) rfl ?_
  intro p e s m args below meth c s₁ B hml hv
  obtain ⟨rfl, rfl, hP, hK, hD0⟩ := hv
  have hx := B.exec
  have hb := B.bytes
  have hr := B.returns
  have hts : ∀ w9 ∈ ALLW, w9.before ([.ref (ad 0)] : List Value).toArray s = true := fun w9 h => atoms_spec (ws := w_Mo_one) B.pre w9 (List.mem_cons_of_mem _ h)
  have hown : s.vm.findClass R_Mo = some m.cls := findClass_of_methodNamed B.named
  have hlocks := B.notSynchronized
  have hD := hD0.self (sz := s.heap.size)
  generalize hAe : va_A (wM cI cZ ad u) s.heap.size = A at hD ⊢
  have hA : ∀ q : Nat, s.heap.size ≤ q → A q := fun q h => by rw [← hAe]; exact Or.inr h
  have hS : va_S A s.heap s.heap [] := va_S.rf
  have hl := lv_entry ([.ref (ad 0)]) (n := 16) (Nat.le_of_ble_eq_true rfl)
  rw [lg_entry_eq]
  generalize (lg_sl ([.ref (ad 0)]) ++ List.replicate (16 - (lg_sl ([.ref (ad 0)])).length) Slot.unset).toArray = ls at hl ⊢
  have hl : lv_has ls 16 [(0, .ref (ad 0))] := hl
  have hq := hres.symm
  skip
  obtain ⟨oe6, oe5⟩ := id ok
  refine lv_aload_n hx hb d_Mo_one_0 rfl (lv_at hl 0 rfl) ?_
  refine va_get (D := (dC, dI)) (ci := 8) (v := .int (gI u 1)) (C := R_Mo) (T := F_Mo) (N := 31) hx hb hts in_Mo hown hK hP 0 rfl rfl 7 (by decide) (hts _ m_13_37) (fun _ h9 => h9) rfl d_Mo_one_1 ?_
  refine lv_iconst (v := 3) hx hb d_Mo_one_4 (by decide) ?_
  refine lv_iand hx hb d_Mo_one_5 ?_
  refine lv_if_ne (tgt := 25) hx hb d_Mo_one_6 (by decide) (fun c1 => ?_) (fun c1 => ?_)
  · skip
    refine lv_aload_n hx hb d_Mo_one_25 rfl (lv_at hl 0 rfl) ?_
    refine lv_iconst (v := 0) hx hb d_Mo_one_26 (by decide) ?_
    refine callWv (va_runV (As := [.int 0]) (rest := []) ⟨hx, hb, hml, hown, hts⟩ (c_Mo_trap l dC dI cI cZ ad u 0 s.heap.size) (cwV 1 hts (goodV m_15_38 m_15_39 m_19_17 m_0_12 m_16_0) rfl rfl rfl (by decide +kernel) ⟨Nat.le_of_ble_eq_true rfl, Nat.le_of_ble_eq_true rfl⟩) ⟨preW_blind, va_recv hK hP (ci := 8) (q0 := 0) rfl rfl, preW_ok hP hD hK⟩ rfl rfl hl.1 rfl (lv_room (Nat.le_of_ble_eq_true rfl)) d_Mo_one_27 ⟨Nat.zero_le _, Nat.zero_le _⟩) hP hD hS hA (fun H locs hP hD hS => ?_)
    have hE : res = f_Mo_trap 0 u := hq.trans ((if_neg c1).trans rfl)
    exact retWv hx hb hr hP hK hD hS hE.symm d_Mo_one_30 hlocks
  · skip
    refine lv_aload_n hx hb d_Mo_one_9 rfl (lv_at hl 0 rfl) ?_
    refine va_get (D := (dC, dI)) (ci := 8) (v := .int (gI u 1)) (C := R_Mo) (T := F_Mo) (N := 31) hx hb hts in_Mo hown hK hP 0 rfl rfl 7 (by decide) (hts _ m_13_37) (fun _ h9 => h9) rfl d_Mo_one_10 ?_
    refine lv_if_lt (tgt := 25) hx hb d_Mo_one_13 (by decide) (fun c2 => ?_) (fun c2 => ?_)
    · skip
      refine lv_aload_n hx hb d_Mo_one_25 rfl (lv_at hl 0 rfl) ?_
      refine lv_iconst (v := 0) hx hb d_Mo_one_26 (by decide) ?_
      refine callWv (va_runV (As := [.int 0]) (rest := []) ⟨hx, hb, hml, hown, hts⟩ (c_Mo_trap l dC dI cI cZ ad u 0 s.heap.size) (cwV 1 hts (goodV m_15_38 m_15_39 m_19_17 m_0_12 m_16_0) rfl rfl rfl (by decide +kernel) ⟨Nat.le_of_ble_eq_true rfl, Nat.le_of_ble_eq_true rfl⟩) ⟨preW_blind, va_recv hK hP (ci := 8) (q0 := 0) rfl rfl, preW_ok hP hD hK⟩ rfl rfl hl.1 rfl (lv_room (Nat.le_of_ble_eq_true rfl)) d_Mo_one_27 ⟨Nat.zero_le _, Nat.zero_le _⟩) hP hD hS hA (fun H locs hP hD hS => ?_)
      have hE : res = f_Mo_trap 0 u := hq.trans ((if_pos c1).trans ((if_pos c2).trans rfl))
      exact retWv hx hb hr hP hK hD hS hE.symm d_Mo_one_30 hlocks
    · skip
      refine lv_aload_n hx hb d_Mo_one_16 rfl (lv_at hl 0 rfl) ?_
      refine va_get (D := (dC, dI)) (ci := 8) (v := .int (gI u 1)) (C := R_Mo) (T := F_Mo) (N := 31) hx hb hts in_Mo hown hK hP 0 rfl rfl 7 (by decide) (hts _ m_13_37) (fun _ h9 => h9) rfl d_Mo_one_17 ?_
      refine lv_ldc (v := 65532) hx hb hown (hts _ m_15_37) d_Mo_one_20 ?_
      refine lv_icmp_le (tgt := 31) hx hb d_Mo_one_22 (by decide) (fun c3 => ?_) (fun c3 => ?_)
      · skip
        have hb0 := hp_p4 c2 c3
        refine lv_aload_n hx hb d_Mo_one_31 rfl (lv_at hl 0 rfl) ?_
        refine lv_aload_n hx hb d_Mo_one_32 rfl (lv_at hl 0 rfl) ?_
        refine va_get (D := (dC, dI)) (ci := 8) (v := .int (gI u 1)) (C := R_Mo) (T := F_Mo) (N := 31) hx hb hts in_Mo hown hK hP 0 rfl rfl 7 (by decide) (hts _ m_13_37) (fun _ h9 => h9) rfl d_Mo_one_33 ?_
        refine rw_top (y := nI ((gI u 1).toNatClampNeg)) (hp_n c2) ?_
        refine callWi (va_runV (As := [.int (nI ((gI u 1).toNatClampNeg))]) (rest := []) ⟨hx, hb, hml, hown, hts⟩ (c_Mo_word l dC dI cI cZ ad u ((gI u 1).toNatClampNeg) (by first | assumption | omega) s.heap.size) (cwV 1 hts (goodV m_16_1 m_16_2 m_19_18 m_0_12 m_16_3) rfl rfl rfl (by decide +kernel) ⟨Nat.le_of_ble_eq_true rfl, Nat.le_of_ble_eq_true rfl⟩) ⟨preW_blind, va_recv hK hP (ci := 8) (q0 := 0) rfl rfl, preW_ok hP hD hK⟩ rfl rfl hl.1 rfl (lv_room (Nat.le_of_ble_eq_true rfl)) d_Mo_one_36 ⟨Nat.zero_le _, Nat.zero_le _⟩) hP hD hS hA (fun H locs hP hD hS => ?_)
        obtain ⟨w, ew⟩ : ∃ z : Int32, z = f_Mo_word ((gI u 1).toNatClampNeg) u := ⟨_, rfl⟩
        refine rw_top (y := w) (by rw [ew]) ?_
        refine lv_istore_n (lv' := [(1, .int w), (0, .ref (ad 0))]) hx hb d_Mo_one_39 rfl hl (by decide) rfl (fun ls hl => ?_)
        refine lv_iload_n hx hb d_Mo_one_40 rfl (lv_at hl 0 rfl) ?_
        refine lv_bipush (v := 127) hx hb d_Mo_one_41 (by decide) ?_
        refine lv_iand hx hb d_Mo_one_43 ?_
        obtain ⟨op, eop⟩ : ∃ z : Int32, z = w &&& (127 : Int32) := ⟨_, rfl⟩
        refine rw_top (y := op) (by rw [eop]) ?_
        refine lv_istore_n (lv' := [(2, .int op), (1, .int w), (0, .ref (ad 0))]) hx hb d_Mo_one_44 rfl hl (by decide) rfl (fun ls hl => ?_)
        refine lv_iload_n hx hb d_Mo_one_45 rfl (lv_at hl 1 rfl) ?_
        refine lv_bipush (v := 7) hx hb d_Mo_one_46 (by decide) ?_
        refine lv_ishr hx hb d_Mo_one_48 ?_
        refine lv_bipush (v := 31) hx hb d_Mo_one_49 (by decide) ?_
        refine lv_iand hx hb d_Mo_one_51 ?_
        refine rw_top (y := nI (n5 (w >>> ((7 : Int32) &&& 31)))) (n5_e _) ?_
        obtain ⟨d, ed⟩ : ∃ z : Nat, z = n5 (w >>> ((7 : Int32) &&& 31)) := ⟨_, rfl⟩
        refine rw_top (y := nI d) (by rw [ed]) ?_
        have hd : d < 32 := by rw [ed]; exact n5_b _
        refine lv_istore_n (lv' := [(3, .int (nI d)), (2, .int op), (1, .int w), (0, .ref (ad 0))]) hx hb d_Mo_one_52 rfl hl (by decide) rfl (fun ls hl => ?_)
        refine lv_iload_n hx hb d_Mo_one_53 rfl (lv_at hl 2 rfl) ?_
        refine lv_bipush (v := 12) hx hb d_Mo_one_54 (by decide) ?_
        refine lv_ishr hx hb d_Mo_one_56 ?_
        refine lv_bipush (v := 7) hx hb d_Mo_one_57 (by decide) ?_
        refine lv_iand hx hb d_Mo_one_59 ?_
        refine rw_top (y := nI (n3 (w >>> ((12 : Int32) &&& 31)))) (n3_e _) ?_
        obtain ⟨f, ef⟩ : ∃ z : Nat, z = n3 (w >>> ((12 : Int32) &&& 31)) := ⟨_, rfl⟩
        refine rw_top (y := nI f) (by rw [ef]) ?_
        have hf : f < 8 := by rw [ef]; exact n3_b _
        refine lv_istore (lv' := [(4, .int (nI f)), (3, .int (nI d)), (2, .int op), (1, .int w), (0, .ref (ad 0))]) hx hb d_Mo_one_60 hl (by decide) rfl (fun ls hl => ?_)
        refine lv_iload_n hx hb d_Mo_one_62 rfl (lv_at hl 3 rfl) ?_
        refine lv_bipush (v := 15) hx hb d_Mo_one_63 (by decide) ?_
        refine lv_ishr hx hb d_Mo_one_65 ?_
        refine lv_bipush (v := 31) hx hb d_Mo_one_66 (by decide) ?_
        refine lv_iand hx hb d_Mo_one_68 ?_
        refine rw_top (y := nI (n5 (w >>> ((15 : Int32) &&& 31)))) (n5_e _) ?_
        obtain ⟨a, ea⟩ : ∃ z : Nat, z = n5 (w >>> ((15 : Int32) &&& 31)) := ⟨_, rfl⟩
        refine rw_top (y := nI a) (by rw [ea]) ?_
        have ha : a < 32 := by rw [ea]; exact n5_b _
        refine lv_istore (lv' := [(5, .int (nI a)), (4, .int (nI f)), (3, .int (nI d)), (2, .int op), (1, .int w), (0, .ref (ad 0))]) hx hb d_Mo_one_69 hl (by decide) rfl (fun ls hl => ?_)
        refine lv_iload_n hx hb d_Mo_one_71 rfl (lv_at hl 4 rfl) ?_
        refine lv_bipush (v := 20) hx hb d_Mo_one_72 (by decide) ?_
        refine lv_ishr hx hb d_Mo_one_74 ?_
        refine lv_bipush (v := 31) hx hb d_Mo_one_75 (by decide) ?_
        refine lv_iand hx hb d_Mo_one_77 ?_
        refine rw_top (y := nI (n5 (w >>> ((20 : Int32) &&& 31)))) (n5_e _) ?_
        obtain ⟨b, eb⟩ : ∃ z : Nat, z = n5 (w >>> ((20 : Int32) &&& 31)) := ⟨_, rfl⟩
        refine rw_top (y := nI b) (by rw [eb]) ?_
        have hbb : b < 32 := by rw [eb]; exact n5_b _
        refine lv_istore (lv' := [(6, .int (nI b)), (5, .int (nI a)), (4, .int (nI f)), (3, .int (nI d)), (2, .int op), (1, .int w), (0, .ref (ad 0))]) hx hb d_Mo_one_78 hl (by decide) rfl (fun ls hl => ?_)
        refine lv_iload_n hx hb d_Mo_one_80 rfl (lv_at hl 5 rfl) ?_
        refine lv_bipush (v := 25) hx hb d_Mo_one_81 (by decide) ?_
        refine lv_iushr (v := (w.toUInt32 >>> ((25 : Int32).toUInt32 &&& Int32.toUInt32 31)).toInt32) hx hb d_Mo_one_83 rfl ?_
        obtain ⟨g, eg⟩ : ∃ z : Int32, z = (w.toUInt32 >>> ((25 : Int32).toUInt32 &&& Int32.toUInt32 31)).toInt32 := ⟨_, rfl⟩
        refine rw_top (y := g) (by rw [eg]) ?_
        refine lv_istore (lv' := [(7, .int g), (6, .int (nI b)), (5, .int (nI a)), (4, .int (nI f)), (3, .int (nI d)), (2, .int op), (1, .int w), (0, .ref (ad 0))]) hx hb d_Mo_one_84 hl (by decide) rfl (fun ls hl => ?_)
        refine lv_iload_n hx hb d_Mo_one_86 rfl (lv_at hl 6 rfl) ?_
        refine lv_bipush (v := 20) hx hb d_Mo_one_87 (by decide) ?_
        refine lv_ishr hx hb d_Mo_one_89 ?_
        obtain ⟨im, eim⟩ : ∃ z : Int32, z = w >>> ((20 : Int32) &&& 31) := ⟨_, rfl⟩
        refine rw_top (y := im) (by rw [eim]) ?_
        refine lv_istore (lv' := [(8, .int im), (7, .int g), (6, .int (nI b)), (5, .int (nI a)), (4, .int (nI f)), (3, .int (nI d)), (2, .int op), (1, .int w), (0, .ref (ad 0))]) hx hb d_Mo_one_90 hl (by decide) rfl (fun ls hl => ?_)
        refine lv_iconst (v := nI 0) hx hb d_Mo_one_92 (by decide) ?_
        refine lv_istore (lv' := [(9, .int (nI 0)), (8, .int im), (7, .int g), (6, .int (nI b)), (5, .int (nI a)), (4, .int (nI f)), (3, .int (nI d)), (2, .int op), (1, .int w), (0, .ref (ad 0))]) hx hb d_Mo_one_93 hl (by decide) rfl (fun ls hl => ?_)
        obtain ⟨o95, ho95⟩ : ∃ z : S5, z = f_Mo_one_95 u w op d f a b g im 5 0 := ⟨_, rfl⟩
        have K95 : ∀ (v1 : S5) (H : Heap) (locs : List Loc) (ls : Array Slot), v1 = o95 → (OkE v1) → (OkK v1) → (OkQ v1) → va_P (dC, dI) classes (wM cI cZ ad v1) H → va_D A (wM cI cZ ad v1) → va_S A s.heap H locs → lv_has ls 16 [(8, .int im), (7, .int g), (6, .int (nI b)), (5, .int (nI a)), (4, .int (nI f)), (3, .int (nI d)), (2, .int op), (1, .int w), (0, .ref (ad 0))] → W p l e (headSpec w_Mo_one rm_Mo_one).room s m ([.ref (ad 0)] : List Value).toArray below meth c H locs 0 0 (MQ below (QWv (dC, dI) classes [(cI, .int), (cZ, .boolean)] (wM cI cZ ad) A res) ([.ref (ad 0)] : List Value).toArray s 0 0 A) (F0 m 137 ls []) := by
          intro v1 H locs ls eo oke1 okk1 okq1 hP hD hS hl
          have ev1 := eo
          refine lv_aload_n hx hb d_Mo_one_137 rfl (lv_at hl 8 rfl) ?_
          refine va_get (D := (dC, dI)) (ci := 8) (v := .int (gI v1 1)) (C := R_Mo) (T := F_Mo) (N := 31) hx hb hts in_Mo hown hK hP 0 rfl rfl 7 (by decide) (hts _ m_13_37) (fun _ h9 => h9) rfl d_Mo_one_138 ?_
          refine lv_iconst (v := 4) hx hb d_Mo_one_141 (by decide) ?_
          refine lv_iadd hx hb d_Mo_one_142 ?_
          refine lv_istore (lv' := [(9, .int ((gI v1 1) + (4 : Int32))), (8, .int im), (7, .int g), (6, .int (nI b)), (5, .int (nI a)), (4, .int (nI f)), (3, .int (nI d)), (2, .int op), (1, .int w), (0, .ref (ad 0))]) hx hb d_Mo_one_143 hl (by decide) rfl (fun ls hl => ?_)
          refine lv_iload_n hx hb d_Mo_one_145 rfl (lv_at hl 7 rfl) ?_
          have J952 : ∀ (nx : Int32) (u2 : S5) (H : Heap) (locs : List Loc) (ls : Array Slot), res = f_Mo_one_952 u w op d f a b g im nx u2 → va_P (dC, dI) classes (wM cI cZ ad u2) H → va_D A (wM cI cZ ad u2) → va_S A s.heap H locs → lv_has ls 16 [(9, .int nx), (8, .int im), (7, .int g), (6, .int (nI b)), (5, .int (nI a)), (4, .int (nI f)), (3, .int (nI d)), (2, .int op), (1, .int w), (0, .ref (ad 0))] → W p l e (headSpec w_Mo_one rm_Mo_one).room s m ([.ref (ad 0)] : List Value).toArray below meth c H locs 0 0 (MQ below (QWv (dC, dI) classes [(cI, .int), (cZ, .boolean)] (wM cI cZ ad) A res) ([.ref (ad 0)] : List Value).toArray s 0 0 A) (F0 m 952 ls []) := by
            intro nx u2 H locs ls hq hP hD hS hl
            refine lv_aload_n hx hb d_Mo_one_952 rfl (lv_at hl 9 rfl) ?_
            refine lv_iload hx hb d_Mo_one_953 (lv_at hl 0 rfl) ?_
            refine va_put (D := (dC, dI)) (ci := 8) (v := .int nx) (ty := .int) (C := R_Mo) (T := F_Mo) (N := 31) hx hb hts in_Mo t_Mo t_Mo_ok n_Mo hown hK hP hD hS 0 rfl rfl 7 (by decide) (hts _ m_13_37) (fun _ h9 => h9) rfl (by decide +kernel) rfl rfl (Nat.le_of_ble_eq_true rfl) d_Mo_one_955 (fun H locs hP hD hS => ?_)
            have hP : va_P (dC, dI) classes (wM cI cZ ad (sI u2 1 nx)) H := hP
            have hD : va_D A (wM cI cZ ad (sI u2 1 nx)) := hD
            refine lv_aload_n hx hb d_Mo_one_958 rfl (lv_at hl 9 rfl) ?_
            refine lv_dup hx hb d_Mo_one_959 rfl ?_
            refine va_get (D := (dC, dI)) (ci := 8) (v := .int (gI u2 4)) (C := R_Mo) (T := F_Mo) (N := 31) hx hb hts in_Mo hown hK hP 0 rfl rfl 10 (by decide) (hts _ m_14_0) (fun _ h9 => h9) rfl d_Mo_one_960 ?_
            refine lv_iconst (v := 1) hx hb d_Mo_one_963 (by decide) ?_
            refine lv_iadd hx hb d_Mo_one_964 ?_
            refine va_put (D := (dC, dI)) (ci := 8) (v := .int ((gI u2 4) + (1 : Int32))) (ty := .int) (C := R_Mo) (T := F_Mo) (N := 31) hx hb hts in_Mo t_Mo t_Mo_ok n_Mo hown hK hP hD hS 0 rfl rfl 10 (by decide) (hts _ m_14_0) (fun _ h9 => h9) rfl (by decide +kernel) rfl rfl (Nat.le_of_ble_eq_true rfl) d_Mo_one_965 (fun H locs hP hD hS => ?_)
            have hP : va_P (dC, dI) classes (wM cI cZ ad (sI (sI u2 1 nx) 4 ((gI u2 4) + (1 : Int32)))) H := hP
            have hD : va_D A (wM cI cZ ad (sI (sI u2 1 nx) 4 ((gI u2 4) + (1 : Int32)))) := hD
            have hE : res = sI (sI u2 1 nx) 4 ((gI u2 4) + (1 : Int32)) := hq.trans (rfl)
            exact retWv hx hb hr hP hK hD hS hE.symm d_Mo_one_968 hlocks
          by_cases c4 : op = 3
          · skip
            refine lv_lookup (off := 567) (tgt := 713) hx hb d_Mo_one_146 (by decide) (by rw [c4]; decide) (by decide) ?_
            refine lv_aload_n hx hb d_Mo_one_713 rfl (lv_at hl 9 rfl) ?_
            refine lv_iload hx hb d_Mo_one_714 (lv_at hl 5 rfl) ?_
            refine lv_iload_n hx hb d_Mo_one_716 rfl (lv_at hl 6 rfl) ?_
            refine lv_iload hx hb d_Mo_one_717 (lv_at hl 4 rfl) ?_
            refine lv_aload_n hx hb d_Mo_one_719 rfl (lv_at hl 9 rfl) ?_
            refine va_get (D := (dC, dI)) (ci := 8) (v := .ref (ad 3)) (C := R_Mo) (T := F_Mo) (N := 31) hx hb hts in_Mo hown hK hP 0 rfl rfl 3 (by decide) (hts _ m_13_33) (fun _ h9 => h9) rfl d_Mo_one_720 ?_
            refine lv_iload hx hb d_Mo_one_723 (lv_at hl 4 rfl) ?_
            refine aldM_x (u := v1) (v := aI v1 2 a) hx hb hK hP (by omega) rfl d_Mo_one_725 ?_
            refine lv_iload hx hb d_Mo_one_726 (lv_at hl 1 rfl) ?_
            refine lv_iadd hx hb d_Mo_one_728 ?_
            refine callWi (va_runV (As := [.int (nI f), .int (nI d), .int (nI a), .int ((aI v1 2 a) + im)]) (rest := []) ⟨hx, hb, hml, hown, hts⟩ (c_Mo_reads l dC dI cI cZ ad v1 f d a ((aI v1 2 a) + im) hf hd ha oke1 H.size) (cwV 4 hts (goodV m_16_20 m_16_21 m_19_23 m_0_12 m_16_22) rfl rfl rfl (by decide +kernel) ⟨Nat.le_of_ble_eq_true rfl, Nat.le_of_ble_eq_true rfl⟩) ⟨preW_blind, va_recv hK hP (ci := 8) (q0 := 0) rfl rfl, preW_ok hP hD hK⟩ rfl rfl hl.1 rfl (lv_room (Nat.le_of_ble_eq_true rfl)) d_Mo_one_729 ⟨Nat.zero_le _, Nat.zero_le _⟩) hP hD hS hA (fun H locs hP hD hS => ?_)
            refine rb_ne (tgt := 952) hx hb d_Mo_one_732 (by decide) (fun c5 => ?_) (fun c5 => ?_)
            · skip
              exact J952 ((gI v1 1) + (4 : Int32)) ((f_Mo_reads f d a ((aI v1 2 a) + im) v1).2) _ _ _ ((by subst ev1; subst ho95; subst eim; subst eg; subst eb; subst ea; subst ef; subst ed; subst eop; subst ew; exact hq.trans ((if_pos c1).trans ((if_neg c2).trans ((if_pos c3).trans ((if_pos c4).trans ((if_pos c5).trans rfl))))))) hP hD hS (lv_sub hl [0, 1, 2, 3, 4, 5, 6, 7, 8, 9] rfl)
            · skip
              have hE : res = (f_Mo_reads f d a ((aI v1 2 a) + im) v1).2 := (by subst ev1; subst ho95; subst eim; subst eg; subst eb; subst ea; subst ef; subst ed; subst eop; subst ew; exact hq.trans ((if_pos c1).trans ((if_neg c2).trans ((if_pos c3).trans ((if_pos c4).trans ((if_neg c5).trans rfl))))))
              exact retWv hx hb hr hP hK hD hS hE.symm d_Mo_one_735 hlocks
          by_cases c6 : op = 15
          · skip
            refine lv_lookup (off := 752) (tgt := 898) hx hb d_Mo_one_146 (by decide) (by rw [c6]; decide) (by decide) ?_
            refine lv_goto (tgt := 952) hx hb d_Mo_one_898 (by decide) ?_
            exact J952 ((gI v1 1) + (4 : Int32)) v1 _ _ _ ((by subst ev1; subst ho95; subst eim; subst eg; subst eb; subst ea; subst ef; subst ed; subst eop; subst ew; exact hq.trans ((if_pos c1).trans ((if_neg c2).trans ((if_pos c3).trans ((if_neg c4).trans ((if_pos c6).trans rfl))))))) hP hD hS (lv_sub hl [0, 1, 2, 3, 4, 5, 6, 7, 8, 9] rfl)
          by_cases c7 : op = 19
          · skip
            refine lv_lookup (off := 623) (tgt := 769) hx hb d_Mo_one_146 (by decide) (by rw [c7]; decide) (by decide) ?_
            refine lv_iload hx hb d_Mo_one_769 (lv_at hl 5 rfl) ?_
            refine lv_iconst (v := nI 1) hx hb d_Mo_one_771 (by decide) ?_
            have J780 : ∀  (H : Heap) (locs : List Loc) (ls : Array Slot), res = f_Mo_one_780 u w op d f a b g im v1 → va_P (dC, dI) classes (wM cI cZ ad v1) H → va_D A (wM cI cZ ad v1) → va_S A s.heap H locs → lv_has ls 16 [(9, .int ((gI v1 1) + (4 : Int32))), (8, .int im), (7, .int g), (6, .int (nI b)), (5, .int (nI a)), (4, .int (nI f)), (3, .int (nI d)), (2, .int op), (1, .int w), (0, .ref (ad 0))] → W p l e (headSpec w_Mo_one rm_Mo_one).room s m ([.ref (ad 0)] : List Value).toArray below meth c H locs 0 0 (MQ below (QWv (dC, dI) classes [(cI, .int), (cZ, .boolean)] (wM cI cZ ad) A res) ([.ref (ad 0)] : List Value).toArray s 0 0 A) (F0 m 780 ls []) := by
              intro  H locs ls hq hP hD hS hl
              refine lv_iload hx hb d_Mo_one_780 (lv_at hl 5 rfl) ?_
              refine lv_iconst (v := nI 5) hx hb d_Mo_one_782 (by decide) ?_
              have J804 : ∀  (H : Heap) (locs : List Loc) (ls : Array Slot), res = f_Mo_one_804 u w op d f a b g im v1 → va_P (dC, dI) classes (wM cI cZ ad v1) H → va_D A (wM cI cZ ad v1) → va_S A s.heap H locs → lv_has ls 16 [(9, .int ((gI v1 1) + (4 : Int32))), (8, .int im), (7, .int g), (6, .int (nI b)), (5, .int (nI a)), (4, .int (nI f)), (3, .int (nI d)), (2, .int op), (1, .int w), (0, .ref (ad 0))] → W p l e (headSpec w_Mo_one rm_Mo_one).room s m ([.ref (ad 0)] : List Value).toArray below meth c H locs 0 0 (MQ below (QWv (dC, dI) classes [(cI, .int), (cZ, .boolean)] (wM cI cZ ad) A res) ([.ref (ad 0)] : List Value).toArray s 0 0 A) (F0 m 804 ls []) := by
                intro  H locs ls hq hP hD hS hl
                refine lv_iload hx hb d_Mo_one_804 (lv_at hl 5 rfl) ?_
                refine lv_iconst (v := nI 1) hx hb d_Mo_one_806 (by decide) ?_
                refine rn_eq (tgt := 816) hx hb (by omega) (by omega) d_Mo_one_807 (by decide) (fun c8 => ?_) (fun c8 => ?_)
                · skip
                  refine lv_aload_n hx hb d_Mo_one_816 rfl (lv_at hl 9 rfl) ?_
                  refine lv_iload hx hb d_Mo_one_817 (lv_at hl 5 rfl) ?_
                  refine lv_iconst (v := nI 1) hx hb d_Mo_one_819 (by decide) ?_
                  have J837 : ∀ (x9 : Int32) (H : Heap) (locs : List Loc), x9 = (if f = 1 then 0 else if g = 0 then 1 else 2) → va_P (dC, dI) classes (wM cI cZ ad v1) H → va_D A (wM cI cZ ad v1) → va_S A s.heap H locs → W p l e (headSpec w_Mo_one rm_Mo_one).room s m ([.ref (ad 0)] : List Value).toArray below meth c H locs 0 0 (MQ below (QWv (dC, dI) classes [(cI, .int), (cZ, .boolean)] (wM cI cZ ad) A res) ([.ref (ad 0)] : List Value).toArray s 0 0 A) (F0 m 837 ls [.int x9, .ref (ad 0)]) := by
                    intro x9 H locs ex9 hP hD hS
                    refine lv_iload_n hx hb d_Mo_one_837 rfl (lv_at hl 6 rfl) ?_
                    refine lv_iload hx hb d_Mo_one_838 (lv_at hl 4 rfl) ?_
                    refine lv_iload hx hb d_Mo_one_840 (lv_at hl 3 rfl) ?_
                    refine lv_iconst (v := 0) hx hb d_Mo_one_842 (by decide) ?_
                    refine callWv (va_runV (As := [.int x9, .int (nI d), .int (nI a), .int (nI b), .int (b2i false)]) (rest := []) ⟨hx, hb, hml, hown, hts⟩ (c_Mo_shift l dC dI cI cZ ad v1 x9 d a b false (by first | assumption | omega) (by first | assumption | omega) (by first | assumption | omega) H.size) (cwV 5 hts (goodV m_16_32 m_16_33 m_19_26 m_0_12 m_16_34) rfl rfl rfl (by decide +kernel) ⟨Nat.le_of_ble_eq_true rfl, Nat.le_of_ble_eq_true rfl⟩) ⟨preW_blind, va_recv hK hP (ci := 8) (q0 := 0) rfl rfl, preW_ok hP hD hK⟩ rfl rfl hl.1 rfl (lv_room (Nat.le_of_ble_eq_true rfl)) d_Mo_one_843 ⟨Nat.zero_le _, Nat.zero_le _⟩) hP hD hS hA (fun H locs hP hD hS => ?_)
                    refine lv_goto (tgt := 952) hx hb d_Mo_one_846 (by decide) ?_
                    exact J952 ((gI v1 1) + (4 : Int32)) (f_Mo_shift x9 d a b false v1) _ _ _ ((by subst ex9; exact hq.trans ((if_pos c8).trans rfl))) hP hD hS (lv_sub hl [0, 1, 2, 3, 4, 5, 6, 7, 8, 9] rfl)
                  refine rn_ne (tgt := 827) hx hb (by omega) (by omega) d_Mo_one_820 (by decide) (fun c10 => ?_) (fun c10 => ?_)
                  · skip
                    refine lv_iload hx hb d_Mo_one_827 (lv_at hl 2 rfl) ?_
                    refine lv_if_ne (tgt := 836) hx hb d_Mo_one_829 (by decide) (fun c11 => ?_) (fun c11 => ?_)
                    · skip
                      refine lv_iconst (v := 2) hx hb d_Mo_one_836 (by decide) ?_
                      exact J837 2 _ _ (Eq.symm ((if_neg c10).trans ((if_neg c11).trans (rfl)))) hP hD hS
                    · skip
                      refine lv_iconst (v := 1) hx hb d_Mo_one_832 (by decide) ?_
                      refine lv_goto (tgt := 837) hx hb d_Mo_one_833 (by decide) ?_
                      exact J837 1 _ _ (Eq.symm ((if_neg c10).trans ((if_pos c11).trans (rfl)))) hP hD hS
                  · skip
                    refine lv_iconst (v := 0) hx hb d_Mo_one_823 (by decide) ?_
                    refine lv_goto (tgt := 837) hx hb d_Mo_one_824 (by decide) ?_
                    exact J837 0 _ _ (Eq.symm ((if_pos c10).trans (rfl))) hP hD hS
                · skip
                  refine lv_iload hx hb d_Mo_one_810 (lv_at hl 5 rfl) ?_
                  refine lv_iconst (v := nI 5) hx hb d_Mo_one_812 (by decide) ?_
                  refine rn_ne (tgt := 849) hx hb (by omega) (by omega) d_Mo_one_813 (by decide) (fun c12 => ?_) (fun c12 => ?_)
                  · skip
                    refine lv_aload_n hx hb d_Mo_one_849 rfl (lv_at hl 9 rfl) ?_
                    refine lv_iload hx hb d_Mo_one_850 (lv_at hl 5 rfl) ?_
                    refine lv_iconst (v := 0) hx hb d_Mo_one_852 (by decide) ?_
                    refine lv_iload_n hx hb d_Mo_one_853 rfl (lv_at hl 6 rfl) ?_
                    refine lv_aload_n hx hb d_Mo_one_854 rfl (lv_at hl 9 rfl) ?_
                    refine va_get (D := (dC, dI)) (ci := 8) (v := .ref (ad 3)) (C := R_Mo) (T := F_Mo) (N := 31) hx hb hts in_Mo hown hK hP 0 rfl rfl 3 (by decide) (hts _ m_13_33) (fun _ h9 => h9) rfl d_Mo_one_855 ?_
                    refine lv_iload hx hb d_Mo_one_858 (lv_at hl 4 rfl) ?_
                    refine aldM_x (u := v1) (v := aI v1 2 a) hx hb hK hP (by omega) rfl d_Mo_one_860 ?_
                    refine lv_aload_n hx hb d_Mo_one_861 rfl (lv_at hl 9 rfl) ?_
                    refine lv_iload hx hb d_Mo_one_862 (lv_at hl 4 rfl) ?_
                    refine callWi (va_runV (As := [.int (nI a)]) (rest := [.int (aI v1 2 a), .int (nI d), .int 0, .int (nI f), .ref (ad 0)]) ⟨hx, hb, hml, hown, hts⟩ (c_Mo_dark l dC dI cI cZ ad v1 a (by first | assumption | omega) H.size) (cwV 1 hts (goodV m_16_35 m_16_36 m_19_27 m_0_12 m_16_37) rfl rfl rfl (by decide +kernel) ⟨Nat.le_of_ble_eq_true rfl, Nat.le_of_ble_eq_true rfl⟩) ⟨preW_blind, va_recv hK hP (ci := 8) (q0 := 0) rfl rfl, preW_ok hP hD hK⟩ rfl rfl hl.1 rfl (lv_room (Nat.le_of_ble_eq_true rfl)) d_Mo_one_864 ⟨Nat.zero_le _, Nat.zero_le _⟩) hP hD hS hA (fun H locs hP hD hS => ?_)
                    refine lv_iload hx hb d_Mo_one_867 (lv_at hl 1 rfl) ?_
                    refine lv_iconst (v := 0) hx hb d_Mo_one_869 (by decide) ?_
                    refine callWv (va_runV (As := [.int (nI f), .int (b2i false), .int (nI d), .int (aI v1 2 a), .int (f_Mo_dark a v1), .int im, .int 0]) (rest := []) ⟨hx, hb, hml, hown, hts⟩ (c_Mo_sum1 l dC dI cI cZ ad v1 (nI f) false d (aI v1 2 a) (f_Mo_dark a v1) im 0 (by first | assumption | omega) H.size) (cwV 7 hts (goodV m_16_38 m_16_39 m_19_28 m_0_12 m_17_0) rfl rfl rfl (by decide +kernel) ⟨Nat.le_of_ble_eq_true rfl, Nat.le_of_ble_eq_true rfl⟩) ⟨preW_blind, va_recv hK hP (ci := 8) (q0 := 0) rfl rfl, preW_ok hP hD hK⟩ rfl rfl hl.1 rfl (lv_room (Nat.le_of_ble_eq_true rfl)) d_Mo_one_870 ⟨Nat.zero_le _, Nat.zero_le _⟩) hP hD hS hA (fun H locs hP hD hS => ?_)
                    refine lv_goto (tgt := 952) hx hb d_Mo_one_873 (by decide) ?_
                    exact J952 ((gI v1 1) + (4 : Int32)) (f_Mo_sum1 (nI f) false d (aI v1 2 a) (f_Mo_dark a v1) im 0 v1) _ _ _ (hq.trans ((if_neg c8).trans ((if_neg c12).trans rfl))) hP hD hS (lv_sub hl [0, 1, 2, 3, 4, 5, 6, 7, 8, 9] rfl)
                  · skip
                    refine lv_aload_n hx hb d_Mo_one_816 rfl (lv_at hl 9 rfl) ?_
                    refine lv_iload hx hb d_Mo_one_817 (lv_at hl 5 rfl) ?_
                    refine lv_iconst (v := nI 1) hx hb d_Mo_one_819 (by decide) ?_
                    have J837 : ∀ (x13 : Int32) (H : Heap) (locs : List Loc), x13 = (if f = 1 then 0 else if g = 0 then 1 else 2) → va_P (dC, dI) classes (wM cI cZ ad v1) H → va_D A (wM cI cZ ad v1) → va_S A s.heap H locs → W p l e (headSpec w_Mo_one rm_Mo_one).room s m ([.ref (ad 0)] : List Value).toArray below meth c H locs 0 0 (MQ below (QWv (dC, dI) classes [(cI, .int), (cZ, .boolean)] (wM cI cZ ad) A res) ([.ref (ad 0)] : List Value).toArray s 0 0 A) (F0 m 837 ls [.int x13, .ref (ad 0)]) := by
                      intro x13 H locs ex13 hP hD hS
                      refine lv_iload_n hx hb d_Mo_one_837 rfl (lv_at hl 6 rfl) ?_
                      refine lv_iload hx hb d_Mo_one_838 (lv_at hl 4 rfl) ?_
                      refine lv_iload hx hb d_Mo_one_840 (lv_at hl 3 rfl) ?_
                      refine lv_iconst (v := 0) hx hb d_Mo_one_842 (by decide) ?_
                      refine callWv (va_runV (As := [.int x13, .int (nI d), .int (nI a), .int (nI b), .int (b2i false)]) (rest := []) ⟨hx, hb, hml, hown, hts⟩ (c_Mo_shift l dC dI cI cZ ad v1 x13 d a b false (by first | assumption | omega) (by first | assumption | omega) (by first | assumption | omega) H.size) (cwV 5 hts (goodV m_16_32 m_16_33 m_19_26 m_0_12 m_16_34) rfl rfl rfl (by decide +kernel) ⟨Nat.le_of_ble_eq_true rfl, Nat.le_of_ble_eq_true rfl⟩) ⟨preW_blind, va_recv hK hP (ci := 8) (q0 := 0) rfl rfl, preW_ok hP hD hK⟩ rfl rfl hl.1 rfl (lv_room (Nat.le_of_ble_eq_true rfl)) d_Mo_one_843 ⟨Nat.zero_le _, Nat.zero_le _⟩) hP hD hS hA (fun H locs hP hD hS => ?_)
                      refine lv_goto (tgt := 952) hx hb d_Mo_one_846 (by decide) ?_
                      exact J952 ((gI v1 1) + (4 : Int32)) (f_Mo_shift x13 d a b false v1) _ _ _ ((by subst ex13; exact hq.trans ((if_neg c8).trans ((if_pos c12).trans rfl)))) hP hD hS (lv_sub hl [0, 1, 2, 3, 4, 5, 6, 7, 8, 9] rfl)
                    refine rn_ne (tgt := 827) hx hb (by omega) (by omega) d_Mo_one_820 (by decide) (fun c14 => ?_) (fun c14 => ?_)
                    · skip
                      refine lv_iload hx hb d_Mo_one_827 (lv_at hl 2 rfl) ?_
                      refine lv_if_ne (tgt := 836) hx hb d_Mo_one_829 (by decide) (fun c15 => ?_) (fun c15 => ?_)
                      · skip
                        refine lv_iconst (v := 2) hx hb d_Mo_one_836 (by decide) ?_
                        exact J837 2 _ _ (Eq.symm ((if_neg c14).trans ((if_neg c15).trans (rfl)))) hP hD hS
                      · skip
                        refine lv_iconst (v := 1) hx hb d_Mo_one_832 (by decide) ?_
                        refine lv_goto (tgt := 837) hx hb d_Mo_one_833 (by decide) ?_
                        exact J837 1 _ _ (Eq.symm ((if_neg c14).trans ((if_pos c15).trans (rfl)))) hP hD hS
                    · skip
                      refine lv_iconst (v := 0) hx hb d_Mo_one_823 (by decide) ?_
                      refine lv_goto (tgt := 837) hx hb d_Mo_one_824 (by decide) ?_
                      exact J837 0 _ _ (Eq.symm ((if_pos c14).trans (rfl))) hP hD hS
              refine rn_ne (tgt := 804) hx hb (by omega) (by omega) d_Mo_one_783 (by decide) (fun c16 => ?_) (fun c16 => ?_)
              · skip
                exact J804  _ _ _ (hq.trans ((if_neg c16).trans rfl)) hP hD hS (lv_sub hl [0, 1, 2, 3, 4, 5, 6, 7, 8, 9] rfl)
              · skip
                refine lv_iload hx hb d_Mo_one_786 (lv_at hl 2 rfl) ?_
                refine lv_if_eq (tgt := 804) hx hb d_Mo_one_788 (by decide) (fun c17 => ?_) (fun c17 => ?_)
                · skip
                  exact J804  _ _ _ (hq.trans ((if_pos c16).trans ((if_pos c17).trans rfl))) hP hD hS (lv_sub hl [0, 1, 2, 3, 4, 5, 6, 7, 8, 9] rfl)
                · skip
                  refine lv_iload hx hb d_Mo_one_791 (lv_at hl 2 rfl) ?_
                  refine lv_bipush (v := 32) hx hb d_Mo_one_793 (by decide) ?_
                  refine lv_icmp_eq (tgt := 804) hx hb d_Mo_one_795 (by decide) (fun c18 => ?_) (fun c18 => ?_)
                  · skip
                    exact J804  _ _ _ (hq.trans ((if_pos c16).trans ((if_neg c17).trans ((if_pos c18).trans rfl)))) hP hD hS (lv_sub hl [0, 1, 2, 3, 4, 5, 6, 7, 8, 9] rfl)
                  · skip
                    refine lv_aload_n hx hb d_Mo_one_798 rfl (lv_at hl 9 rfl) ?_
                    refine lv_iconst (v := 1) hx hb d_Mo_one_799 (by decide) ?_
                    refine callWv (va_runV (As := [.int 1]) (rest := []) ⟨hx, hb, hml, hown, hts⟩ (c_Mo_trap l dC dI cI cZ ad v1 1 H.size) (cwV 1 hts (goodV m_15_38 m_15_39 m_19_17 m_0_12 m_16_0) rfl rfl rfl (by decide +kernel) ⟨Nat.le_of_ble_eq_true rfl, Nat.le_of_ble_eq_true rfl⟩) ⟨preW_blind, va_recv hK hP (ci := 8) (q0 := 0) rfl rfl, preW_ok hP hD hK⟩ rfl rfl hl.1 rfl (lv_room (Nat.le_of_ble_eq_true rfl)) d_Mo_one_800 ⟨Nat.zero_le _, Nat.zero_le _⟩) hP hD hS hA (fun H locs hP hD hS => ?_)
                    have hE : res = f_Mo_trap 1 v1 := hq.trans ((if_pos c16).trans ((if_neg c17).trans ((if_neg c18).trans rfl)))
                    exact retWv hx hb hr hP hK hD hS hE.symm d_Mo_one_803 hlocks
            refine rn_ne (tgt := 780) hx hb (by omega) (by omega) d_Mo_one_772 (by decide) (fun c19 => ?_) (fun c19 => ?_)
            · skip
              exact J780  _ _ _ ((by subst ev1; subst ho95; subst eim; subst eg; subst eb; subst ea; subst ef; subst ed; subst eop; subst ew; exact hq.trans ((if_pos c1).trans ((if_neg c2).trans ((if_pos c3).trans ((if_neg c4).trans ((if_neg c6).trans ((if_pos c7).trans ((if_neg c19).trans rfl))))))))) hP hD hS (lv_sub hl [0, 1, 2, 3, 4, 5, 6, 7, 8, 9] rfl)
            · skip
              refine lv_iload hx hb d_Mo_one_775 (lv_at hl 2 rfl) ?_
              refine lv_if_ne (tgt := 798) hx hb d_Mo_one_777 (by decide) (fun c20 => ?_) (fun c20 => ?_)
              · skip
                refine lv_aload_n hx hb d_Mo_one_798 rfl (lv_at hl 9 rfl) ?_
                refine lv_iconst (v := 1) hx hb d_Mo_one_799 (by decide) ?_
                refine callWv (va_runV (As := [.int 1]) (rest := []) ⟨hx, hb, hml, hown, hts⟩ (c_Mo_trap l dC dI cI cZ ad v1 1 H.size) (cwV 1 hts (goodV m_15_38 m_15_39 m_19_17 m_0_12 m_16_0) rfl rfl rfl (by decide +kernel) ⟨Nat.le_of_ble_eq_true rfl, Nat.le_of_ble_eq_true rfl⟩) ⟨preW_blind, va_recv hK hP (ci := 8) (q0 := 0) rfl rfl, preW_ok hP hD hK⟩ rfl rfl hl.1 rfl (lv_room (Nat.le_of_ble_eq_true rfl)) d_Mo_one_800 ⟨Nat.zero_le _, Nat.zero_le _⟩) hP hD hS hA (fun H locs hP hD hS => ?_)
                have hE : res = f_Mo_trap 1 v1 := (by subst ev1; subst ho95; subst eim; subst eg; subst eb; subst ea; subst ef; subst ed; subst eop; subst ew; exact hq.trans ((if_pos c1).trans ((if_neg c2).trans ((if_pos c3).trans ((if_neg c4).trans ((if_neg c6).trans ((if_pos c7).trans ((if_pos c19).trans ((if_neg c20).trans rfl)))))))))
                exact retWv hx hb hr hP hK hD hS hE.symm d_Mo_one_803 hlocks
              · skip
                exact J780  _ _ _ ((by subst ev1; subst ho95; subst eim; subst eg; subst eb; subst ea; subst ef; subst ed; subst eop; subst ew; exact hq.trans ((if_pos c1).trans ((if_neg c2).trans ((if_pos c3).trans ((if_neg c4).trans ((if_neg c6).trans ((if_pos c7).trans ((if_pos c19).trans ((if_pos c20).trans rfl)))))))))) hP hD hS (lv_sub hl [0, 1, 2, 3, 4, 5, 6, 7, 8, 9] rfl)
          by_cases c21 : op = 23
          · skip
            refine lv_lookup (off := 112) (tgt := 258) hx hb d_Mo_one_146 (by decide) (by rw [c21]; decide) (by decide) ?_
            refine lv_aload_n hx hb d_Mo_one_258 rfl (lv_at hl 9 rfl) ?_
            refine lv_iload_n hx hb d_Mo_one_259 rfl (lv_at hl 6 rfl) ?_
            refine lv_iload_n hx hb d_Mo_one_260 rfl (lv_at hl 8 rfl) ?_
            refine lv_sipush (v := (-4096)) hx hb d_Mo_one_261 (by decide) ?_
            refine lv_iand hx hb d_Mo_one_264 ?_
            refine lv_aload_n hx hb d_Mo_one_265 rfl (lv_at hl 9 rfl) ?_
            refine va_get (D := (dC, dI)) (ci := 8) (v := .int (gI v1 1)) (C := R_Mo) (T := F_Mo) (N := 31) hx hb hts in_Mo hown hK hP 0 rfl rfl 7 (by decide) (hts _ m_13_37) (fun _ h9 => h9) rfl d_Mo_one_266 ?_
            refine lv_iadd hx hb d_Mo_one_269 ?_
            refine lv_iconst (v := 0) hx hb d_Mo_one_270 (by decide) ?_
            refine callWv (va_runV (As := [.int (nI d), .int ((w &&& (-4096 : Int32)) + (gI v1 1)), .int 0]) (rest := []) ⟨hx, hb, hml, hown, hts⟩ (c_Mo_give l dC dI cI cZ ad v1 d ((w &&& (-4096 : Int32)) + (gI v1 1)) 0 (by first | assumption | omega) H.size) (cwV 3 hts (goodV m_16_7 m_16_8 m_19_20 m_0_12 m_16_9) rfl rfl rfl (by decide +kernel) ⟨Nat.le_of_ble_eq_true rfl, Nat.le_of_ble_eq_true rfl⟩) ⟨preW_blind, va_recv hK hP (ci := 8) (q0 := 0) rfl rfl, preW_ok hP hD hK⟩ rfl rfl hl.1 rfl (lv_room (Nat.le_of_ble_eq_true rfl)) d_Mo_one_271 ⟨Nat.zero_le _, Nat.zero_le _⟩) hP hD hS hA (fun H locs hP hD hS => ?_)
            refine lv_goto (tgt := 952) hx hb d_Mo_one_274 (by decide) ?_
            exact J952 ((gI v1 1) + (4 : Int32)) (f_Mo_give d ((w &&& (-4096 : Int32)) + (gI v1 1)) 0 v1) _ _ _ ((by subst ev1; subst ho95; subst eim; subst eg; subst eb; subst ea; subst ef; subst ed; subst eop; subst ew; exact hq.trans ((if_pos c1).trans ((if_neg c2).trans ((if_pos c3).trans ((if_neg c4).trans ((if_neg c6).trans ((if_neg c7).trans ((if_pos c21).trans rfl))))))))) hP hD hS (lv_sub hl [0, 1, 2, 3, 4, 5, 6, 7, 8, 9] rfl)
          by_cases c22 : op = 35
          · skip
            refine lv_lookup (off := 590) (tgt := 736) hx hb d_Mo_one_146 (by decide) (by rw [c22]; decide) (by decide) ?_
            refine lv_aload_n hx hb d_Mo_one_736 rfl (lv_at hl 9 rfl) ?_
            refine lv_iload hx hb d_Mo_one_737 (lv_at hl 5 rfl) ?_
            refine lv_iload hx hb d_Mo_one_739 (lv_at hl 4 rfl) ?_
            refine lv_iload hx hb d_Mo_one_741 (lv_at hl 3 rfl) ?_
            refine lv_aload_n hx hb d_Mo_one_743 rfl (lv_at hl 9 rfl) ?_
            refine va_get (D := (dC, dI)) (ci := 8) (v := .ref (ad 3)) (C := R_Mo) (T := F_Mo) (N := 31) hx hb hts in_Mo hown hK hP 0 rfl rfl 3 (by decide) (hts _ m_13_33) (fun _ h9 => h9) rfl d_Mo_one_744 ?_
            refine lv_iload hx hb d_Mo_one_747 (lv_at hl 4 rfl) ?_
            refine aldM_x (u := v1) (v := aI v1 2 a) hx hb hK hP (by omega) rfl d_Mo_one_749 ?_
            refine lv_iload hx hb d_Mo_one_750 (lv_at hl 2 rfl) ?_
            refine lv_iconst (v := 5) hx hb d_Mo_one_752 (by decide) ?_
            refine lv_ishl hx hb d_Mo_one_753 ?_
            refine lv_iload_n hx hb d_Mo_one_754 rfl (lv_at hl 6 rfl) ?_
            refine lv_ior hx hb d_Mo_one_755 ?_
            refine lv_bipush (v := 12) hx hb d_Mo_one_756 (by decide) ?_
            refine callPi (va_runS (As := [.int ((g <<< ((5 : Int32) &&& 31)) ||| (nI d)), .int 12]) (rest := [.int (aI v1 2 a), .int (nI b), .int (nI a), .int (nI f), .ref (ad 0)]) ⟨hx, hb, hml, hown, hts⟩ (c_Mo_signed l ((g <<< ((5 : Int32) &&& 31)) ||| (nI d)) 12 H.size) (va_cwS 2 hts (goodS m_16_10 m_16_11 m_0_12 m_16_12) rfl rfl rfl (by decide +kernel) ⟨Nat.le_of_ble_eq_true rfl, Nat.le_of_ble_eq_true rfl⟩) ⟨preP_blind, preP_ok⟩ rfl rfl hl.1 rfl (lv_room (Nat.le_of_ble_eq_true rfl)) d_Mo_one_758 ⟨Nat.zero_le _, Nat.zero_le _⟩) hP hS hA (fun H locs hP hS => ?_)
            refine lv_iadd hx hb d_Mo_one_761 ?_
            refine callWi (va_runV (As := [.int (nI f), .int (nI a), .int (nI b), .int ((aI v1 2 a) + (f_Mo_signed ((g <<< ((5 : Int32) &&& 31)) ||| (nI d)) 12))]) (rest := []) ⟨hx, hb, hml, hown, hts⟩ (c_Mo_stores l dC dI cI cZ ad v1 f a b ((aI v1 2 a) + (f_Mo_signed ((g <<< ((5 : Int32) &&& 31)) ||| (nI d)) 12)) hf ha hbb oke1 H.size) (cwV 4 hts (goodV m_16_29 m_16_30 m_19_25 m_0_12 m_16_31) rfl rfl rfl (by decide +kernel) ⟨Nat.le_of_ble_eq_true rfl, Nat.le_of_ble_eq_true rfl⟩) ⟨preW_blind, va_recv hK hP (ci := 8) (q0 := 0) rfl rfl, preW_ok hP hD hK⟩ rfl rfl hl.1 rfl (lv_room (Nat.le_of_ble_eq_true rfl)) d_Mo_one_762 ⟨Nat.zero_le _, Nat.zero_le _⟩) hP hD hS hA (fun H locs hP hD hS => ?_)
            refine rb_ne (tgt := 952) hx hb d_Mo_one_765 (by decide) (fun c23 => ?_) (fun c23 => ?_)
            · skip
              exact J952 ((gI v1 1) + (4 : Int32)) ((f_Mo_stores f a b ((aI v1 2 a) + (f_Mo_signed ((g <<< ((5 : Int32) &&& 31)) ||| (nI d)) 12)) v1).2) _ _ _ ((by subst ev1; subst ho95; subst eim; subst eg; subst eb; subst ea; subst ef; subst ed; subst eop; subst ew; exact hq.trans ((if_pos c1).trans ((if_neg c2).trans ((if_pos c3).trans ((if_neg c4).trans ((if_neg c6).trans ((if_neg c7).trans ((if_neg c21).trans ((if_pos c22).trans ((if_pos c23).trans rfl))))))))))) hP hD hS (lv_sub hl [0, 1, 2, 3, 4, 5, 6, 7, 8, 9] rfl)
            · skip
              have hE : res = (f_Mo_stores f a b ((aI v1 2 a) + (f_Mo_signed ((g <<< ((5 : Int32) &&& 31)) ||| (nI d)) 12)) v1).2 := (by subst ev1; subst ho95; subst eim; subst eg; subst eb; subst ea; subst ef; subst ed; subst eop; subst ew; exact hq.trans ((if_pos c1).trans ((if_neg c2).trans ((if_pos c3).trans ((if_neg c4).trans ((if_neg c6).trans ((if_neg c7).trans ((if_neg c21).trans ((if_pos c22).trans ((if_neg c23).trans rfl))))))))))
              exact retWv hx hb hr hP hK hD hS hE.symm d_Mo_one_768 hlocks
          by_cases c24 : op = 51
          · skip
            refine lv_lookup (off := 730) (tgt := 876) hx hb d_Mo_one_146 (by decide) (by rw [c24]; decide) (by decide) ?_
            refine lv_aload_n hx hb d_Mo_one_876 rfl (lv_at hl 9 rfl) ?_
            refine lv_iload hx hb d_Mo_one_877 (lv_at hl 5 rfl) ?_
            refine lv_iload hx hb d_Mo_one_879 (lv_at hl 2 rfl) ?_
            refine lv_iload_n hx hb d_Mo_one_881 rfl (lv_at hl 6 rfl) ?_
            refine lv_iload hx hb d_Mo_one_882 (lv_at hl 4 rfl) ?_
            refine lv_iload hx hb d_Mo_one_884 (lv_at hl 3 rfl) ?_
            refine callWi (va_runV (As := [.int (nI f), .int g, .int (nI d), .int (nI a), .int (nI b)]) (rest := []) ⟨hx, hb, hml, hown, hts⟩ (c_Mo_both l dC dI cI cZ ad v1 (nI f) g d a b (by first | assumption | omega) (by first | assumption | omega) (by first | assumption | omega) H.size) (cwV 5 hts (goodV m_17_4 m_17_5 m_19_29 m_0_12 m_17_6) rfl rfl rfl (by decide +kernel) ⟨Nat.le_of_ble_eq_true rfl, Nat.le_of_ble_eq_true rfl⟩) ⟨preW_blind, va_recv hK hP (ci := 8) (q0 := 0) rfl rfl, preW_ok hP hD hK⟩ rfl rfl hl.1 rfl (lv_room (Nat.le_of_ble_eq_true rfl)) d_Mo_one_886 ⟨Nat.zero_le _, Nat.zero_le _⟩) hP hD hS hA (fun H locs hP hD hS => ?_)
            refine rb_ne (tgt := 952) hx hb d_Mo_one_889 (by decide) (fun c25 => ?_) (fun c25 => ?_)
            · skip
              exact J952 ((gI v1 1) + (4 : Int32)) ((f_Mo_both (nI f) g d a b v1).2) _ _ _ ((by subst ev1; subst ho95; subst eim; subst eg; subst eb; subst ea; subst ef; subst ed; subst eop; subst ew; exact hq.trans ((if_pos c1).trans ((if_neg c2).trans ((if_pos c3).trans ((if_neg c4).trans ((if_neg c6).trans ((if_neg c7).trans ((if_neg c21).trans ((if_neg c22).trans ((if_pos c24).trans ((if_pos c25).trans rfl)))))))))))) hP hD hS (lv_sub hl [0, 1, 2, 3, 4, 5, 6, 7, 8, 9] rfl)
            · skip
              refine lv_aload_n hx hb d_Mo_one_892 rfl (lv_at hl 9 rfl) ?_
              refine lv_iconst (v := 1) hx hb d_Mo_one_893 (by decide) ?_
              refine callWv (va_runV (As := [.int 1]) (rest := []) ⟨hx, hb, hml, hown, hts⟩ (c_Mo_trap l dC dI cI cZ ad ((f_Mo_both (nI f) g d a b v1).2) 1 H.size) (cwV 1 hts (goodV m_15_38 m_15_39 m_19_17 m_0_12 m_16_0) rfl rfl rfl (by decide +kernel) ⟨Nat.le_of_ble_eq_true rfl, Nat.le_of_ble_eq_true rfl⟩) ⟨preW_blind, va_recv hK hP (ci := 8) (q0 := 0) rfl rfl, preW_ok hP hD hK⟩ rfl rfl hl.1 rfl (lv_room (Nat.le_of_ble_eq_true rfl)) d_Mo_one_894 ⟨Nat.zero_le _, Nat.zero_le _⟩) hP hD hS hA (fun H locs hP hD hS => ?_)
              have hE : res = f_Mo_trap 1 ((f_Mo_both (nI f) g d a b v1).2) := (by subst ev1; subst ho95; subst eim; subst eg; subst eb; subst ea; subst ef; subst ed; subst eop; subst ew; exact hq.trans ((if_pos c1).trans ((if_neg c2).trans ((if_pos c3).trans ((if_neg c4).trans ((if_neg c6).trans ((if_neg c7).trans ((if_neg c21).trans ((if_neg c22).trans ((if_pos c24).trans ((if_neg c25).trans rfl)))))))))))
              exact retWv hx hb hr hP hK hD hS hE.symm d_Mo_one_897 hlocks
          by_cases c26 : op = 55
          · skip
            refine lv_lookup (off := 98) (tgt := 244) hx hb d_Mo_one_146 (by decide) (by rw [c26]; decide) (by decide) ?_
            refine lv_aload_n hx hb d_Mo_one_244 rfl (lv_at hl 9 rfl) ?_
            refine lv_iload_n hx hb d_Mo_one_245 rfl (lv_at hl 6 rfl) ?_
            refine lv_iload_n hx hb d_Mo_one_246 rfl (lv_at hl 8 rfl) ?_
            refine lv_sipush (v := (-4096)) hx hb d_Mo_one_247 (by decide) ?_
            refine lv_iand hx hb d_Mo_one_250 ?_
            refine lv_iconst (v := 0) hx hb d_Mo_one_251 (by decide) ?_
            refine callWv (va_runV (As := [.int (nI d), .int (w &&& (-4096 : Int32)), .int 0]) (rest := []) ⟨hx, hb, hml, hown, hts⟩ (c_Mo_give l dC dI cI cZ ad v1 d (w &&& (-4096 : Int32)) 0 (by first | assumption | omega) H.size) (cwV 3 hts (goodV m_16_7 m_16_8 m_19_20 m_0_12 m_16_9) rfl rfl rfl (by decide +kernel) ⟨Nat.le_of_ble_eq_true rfl, Nat.le_of_ble_eq_true rfl⟩) ⟨preW_blind, va_recv hK hP (ci := 8) (q0 := 0) rfl rfl, preW_ok hP hD hK⟩ rfl rfl hl.1 rfl (lv_room (Nat.le_of_ble_eq_true rfl)) d_Mo_one_252 ⟨Nat.zero_le _, Nat.zero_le _⟩) hP hD hS hA (fun H locs hP hD hS => ?_)
            refine lv_goto (tgt := 952) hx hb d_Mo_one_255 (by decide) ?_
            exact J952 ((gI v1 1) + (4 : Int32)) (f_Mo_give d (w &&& (-4096 : Int32)) 0 v1) _ _ _ ((by subst ev1; subst ho95; subst eim; subst eg; subst eb; subst ea; subst ef; subst ed; subst eop; subst ew; exact hq.trans ((if_pos c1).trans ((if_neg c2).trans ((if_pos c3).trans ((if_neg c4).trans ((if_neg c6).trans ((if_neg c7).trans ((if_neg c21).trans ((if_neg c22).trans ((if_neg c24).trans ((if_pos c26).trans rfl)))))))))))) hP hD hS (lv_sub hl [0, 1, 2, 3, 4, 5, 6, 7, 8, 9] rfl)
          by_cases c27 : op = 99
          · skip
            refine lv_lookup (off := 309) (tgt := 455) hx hb d_Mo_one_146 (by decide) (by rw [c27]; decide) (by decide) ?_
            refine lv_iload hx hb d_Mo_one_455 (lv_at hl 5 rfl) ?_
            refine lv_iconst (v := nI 2) hx hb d_Mo_one_457 (by decide) ?_
            refine rn_eq (tgt := 467) hx hb (by omega) (by omega) d_Mo_one_458 (by decide) (fun c28 => ?_) (fun c28 => ?_)
            · skip
              refine lv_aload_n hx hb d_Mo_one_467 rfl (lv_at hl 9 rfl) ?_
              refine lv_iconst (v := 1) hx hb d_Mo_one_468 (by decide) ?_
              refine callWv (va_runV (As := [.int 1]) (rest := []) ⟨hx, hb, hml, hown, hts⟩ (c_Mo_trap l dC dI cI cZ ad v1 1 H.size) (cwV 1 hts (goodV m_15_38 m_15_39 m_19_17 m_0_12 m_16_0) rfl rfl rfl (by decide +kernel) ⟨Nat.le_of_ble_eq_true rfl, Nat.le_of_ble_eq_true rfl⟩) ⟨preW_blind, va_recv hK hP (ci := 8) (q0 := 0) rfl rfl, preW_ok hP hD hK⟩ rfl rfl hl.1 rfl (lv_room (Nat.le_of_ble_eq_true rfl)) d_Mo_one_469 ⟨Nat.zero_le _, Nat.zero_le _⟩) hP hD hS hA (fun H locs hP hD hS => ?_)
              have hE : res = f_Mo_trap 1 v1 := (by subst ev1; subst ho95; subst eim; subst eg; subst eb; subst ea; subst ef; subst ed; subst eop; subst ew; exact hq.trans ((if_pos c1).trans ((if_neg c2).trans ((if_pos c3).trans ((if_neg c4).trans ((if_neg c6).trans ((if_neg c7).trans ((if_neg c21).trans ((if_neg c22).trans ((if_neg c24).trans ((if_neg c26).trans ((if_pos c27).trans ((if_pos c28).trans rfl)))))))))))))
              exact retWv hx hb hr hP hK hD hS hE.symm d_Mo_one_472 hlocks
            · skip
              refine lv_iload hx hb d_Mo_one_461 (lv_at hl 5 rfl) ?_
              refine lv_iconst (v := nI 3) hx hb d_Mo_one_463 (by decide) ?_
              refine rn_ne (tgt := 473) hx hb (by omega) (by omega) d_Mo_one_464 (by decide) (fun c29 => ?_) (fun c29 => ?_)
              · skip
                refine lv_aload_n hx hb d_Mo_one_473 rfl (lv_at hl 9 rfl) ?_
                refine lv_iload hx hb d_Mo_one_474 (lv_at hl 4 rfl) ?_
                refine lv_bipush (v := nI 32) hx hb d_Mo_one_476 (by decide) ?_
                refine callWi (va_runV (As := [.int (nI a), .int (nI 32)]) (rest := []) ⟨hx, hb, hml, hown, hts⟩ (c_Mo_anyDark l dC dI cI cZ ad v1 a 32 (by first | assumption | omega) (by first | assumption | omega) H.size) (cwV 2 hts (goodV m_16_16 m_16_17 m_19_22 m_0_12 m_16_18) rfl rfl rfl (by decide +kernel) ⟨Nat.le_of_ble_eq_true rfl, Nat.le_of_ble_eq_true rfl⟩) ⟨preW_blind, va_recv hK hP (ci := 8) (q0 := 0) rfl rfl, preW_ok hP hD hK⟩ rfl rfl hl.1 rfl (lv_room (Nat.le_of_ble_eq_true rfl)) d_Mo_one_478 ⟨Nat.zero_le _, Nat.zero_le _⟩) hP hD hS hA (fun H locs hP hD hS => ?_)
                have J501 : ∀ (u3 : S5) (H : Heap) (locs : List Loc) (ls : Array Slot), res = f_Mo_one_501 u w op d f a b g im v1 u3 → va_P (dC, dI) classes (wM cI cZ ad u3) H → va_D A (wM cI cZ ad u3) → va_S A s.heap H locs → lv_has ls 16 [(9, .int ((gI v1 1) + (4 : Int32))), (8, .int im), (7, .int g), (6, .int (nI b)), (5, .int (nI a)), (4, .int (nI f)), (3, .int (nI d)), (2, .int op), (1, .int w), (0, .ref (ad 0))] → W p l e (headSpec w_Mo_one rm_Mo_one).room s m ([.ref (ad 0)] : List Value).toArray below meth c H locs 0 0 (MQ below (QWv (dC, dI) classes [(cI, .int), (cZ, .boolean)] (wM cI cZ ad) A res) ([.ref (ad 0)] : List Value).toArray s 0 0 A) (F0 m 501 ls []) := by
                  intro u3 H locs ls hq hP hD hS hl
                  refine lv_iload hx hb d_Mo_one_501 (lv_at hl 5 rfl) ?_
                  refine lv_bipush (v := nI 6) hx hb d_Mo_one_503 (by decide) ?_
                  have J531 : ∀ (x30 : Int64) (H : Heap) (locs : List Loc), x30 = (if f < 6 then (aI u3 2 a).toInt64 else ((aI u3 2 a).toInt64) &&& 4294967295) → va_P (dC, dI) classes (wM cI cZ ad u3) H → va_D A (wM cI cZ ad u3) → va_S A s.heap H locs → W p l e (headSpec w_Mo_one rm_Mo_one).room s m ([.ref (ad 0)] : List Value).toArray below meth c H locs 0 0 (MQ below (QWv (dC, dI) classes [(cI, .int), (cZ, .boolean)] (wM cI cZ ad) A res) ([.ref (ad 0)] : List Value).toArray s 0 0 A) (F0 m 531 ls [.long x30]) := by
                    intro x30 H locs ex30 hP hD hS
                    refine lv_lstore (lv' := [(10, .long x30), (9, .int ((gI v1 1) + (4 : Int32))), (8, .int im), (7, .int g), (6, .int (nI b)), (5, .int (nI a)), (4, .int (nI f)), (3, .int (nI d)), (2, .int op), (1, .int w), (0, .ref (ad 0))]) hx hb d_Mo_one_531 hl (by decide) rfl (fun ls hl => ?_)
                    refine lv_iload hx hb d_Mo_one_533 (lv_at hl 6 rfl) ?_
                    refine lv_bipush (v := nI 6) hx hb d_Mo_one_535 (by decide) ?_
                    have J563 : ∀ (x31 : Int64) (H : Heap) (locs : List Loc), x31 = (if f < 6 then (aI u3 2 b).toInt64 else ((aI u3 2 b).toInt64) &&& 4294967295) → va_P (dC, dI) classes (wM cI cZ ad u3) H → va_D A (wM cI cZ ad u3) → va_S A s.heap H locs → W p l e (headSpec w_Mo_one rm_Mo_one).room s m ([.ref (ad 0)] : List Value).toArray below meth c H locs 0 0 (MQ below (QWv (dC, dI) classes [(cI, .int), (cZ, .boolean)] (wM cI cZ ad) A res) ([.ref (ad 0)] : List Value).toArray s 0 0 A) (F0 m 563 ls [.long x31]) := by
                      intro x31 H locs ex31 hP hD hS
                      refine lv_lstore (lv' := [(12, .long x31), (10, .long x30), (9, .int ((gI v1 1) + (4 : Int32))), (8, .int im), (7, .int g), (6, .int (nI b)), (5, .int (nI a)), (4, .int (nI f)), (3, .int (nI d)), (2, .int op), (1, .int w), (0, .ref (ad 0))]) hx hb d_Mo_one_563 hl (by decide) rfl (fun ls hl => ?_)
                      refine lv_iload hx hb d_Mo_one_565 (lv_at hl 7 rfl) ?_
                      have J650 : ∀ (x32 : Bool) (H : Heap) (locs : List Loc), x32 = (if f = 0 then (if (lg_cmp x30 x31) = 0 then true else false) else if f = 1 then (if (lg_cmp x30 x31) = 0 then false else true) else if f = 4 then (if 0 ≤ (lg_cmp x30 x31) then false else true) else if f = 6 then (if 0 ≤ (lg_cmp x30 x31) then false else true) else if (lg_cmp x30 x31) < 0 then false else true) → va_P (dC, dI) classes (wM cI cZ ad u3) H → va_D A (wM cI cZ ad u3) → va_S A s.heap H locs → W p l e (headSpec w_Mo_one rm_Mo_one).room s m ([.ref (ad 0)] : List Value).toArray below meth c H locs 0 0 (MQ below (QWv (dC, dI) classes [(cI, .int), (cZ, .boolean)] (wM cI cZ ad) A res) ([.ref (ad 0)] : List Value).toArray s 0 0 A) (F0 m 650 ls [.int (b2i x32)]) := by
                        intro x32 H locs ex32 hP hD hS
                        refine lv_istore (lv' := [(14, .int (b2i x32)), (12, .long x31), (10, .long x30), (9, .int ((gI v1 1) + (4 : Int32))), (8, .int im), (7, .int g), (6, .int (nI b)), (5, .int (nI a)), (4, .int (nI f)), (3, .int (nI d)), (2, .int op), (1, .int w), (0, .ref (ad 0))]) hx hb d_Mo_one_650 hl (by decide) rfl (fun ls hl => ?_)
                        refine lv_iload_n hx hb d_Mo_one_652 rfl (lv_at hl 11 rfl) ?_
                        refine lv_bipush (v := 31) hx hb d_Mo_one_653 (by decide) ?_
                        refine lv_iushr (v := (w.toUInt32 >>> ((31 : Int32).toUInt32 &&& Int32.toUInt32 31)).toInt32) hx hb d_Mo_one_655 rfl ?_
                        refine lv_bipush (v := 12) hx hb d_Mo_one_656 (by decide) ?_
                        refine lv_ishl hx hb d_Mo_one_658 ?_
                        refine lv_iload_n hx hb d_Mo_one_659 rfl (lv_at hl 11 rfl) ?_
                        refine lv_bipush (v := 7) hx hb d_Mo_one_660 (by decide) ?_
                        refine lv_ishr hx hb d_Mo_one_662 ?_
                        refine lv_iconst (v := 1) hx hb d_Mo_one_663 (by decide) ?_
                        refine lv_iand hx hb d_Mo_one_664 ?_
                        refine lv_bipush (v := 11) hx hb d_Mo_one_665 (by decide) ?_
                        refine lv_ishl hx hb d_Mo_one_667 ?_
                        refine lv_ior hx hb d_Mo_one_668 ?_
                        refine lv_iload_n hx hb d_Mo_one_669 rfl (lv_at hl 11 rfl) ?_
                        refine lv_bipush (v := 25) hx hb d_Mo_one_670 (by decide) ?_
                        refine lv_ishr hx hb d_Mo_one_672 ?_
                        refine lv_bipush (v := 63) hx hb d_Mo_one_673 (by decide) ?_
                        refine lv_iand hx hb d_Mo_one_675 ?_
                        refine lv_iconst (v := 5) hx hb d_Mo_one_676 (by decide) ?_
                        refine lv_ishl hx hb d_Mo_one_677 ?_
                        refine lv_ior hx hb d_Mo_one_678 ?_
                        refine lv_iload_n hx hb d_Mo_one_679 rfl (lv_at hl 11 rfl) ?_
                        refine lv_bipush (v := 8) hx hb d_Mo_one_680 (by decide) ?_
                        refine lv_ishr hx hb d_Mo_one_682 ?_
                        refine lv_bipush (v := 15) hx hb d_Mo_one_683 (by decide) ?_
                        refine lv_iand hx hb d_Mo_one_685 ?_
                        refine lv_iconst (v := 1) hx hb d_Mo_one_686 (by decide) ?_
                        refine lv_ishl hx hb d_Mo_one_687 ?_
                        refine lv_ior hx hb d_Mo_one_688 ?_
                        refine lv_bipush (v := 13) hx hb d_Mo_one_689 (by decide) ?_
                        refine callPi (va_runS (As := [.int ((((((w.toUInt32 >>> ((31 : Int32).toUInt32 &&& Int32.toUInt32 31)).toInt32) <<< ((12 : Int32) &&& 31)) ||| (((w >>> ((7 : Int32) &&& 31)) &&& (1 : Int32)) <<< ((11 : Int32) &&& 31))) ||| (((w >>> ((25 : Int32) &&& 31)) &&& (63 : Int32)) <<< ((5 : Int32) &&& 31))) ||| (((w >>> ((8 : Int32) &&& 31)) &&& (15 : Int32)) <<< ((1 : Int32) &&& 31))), .int 13]) (rest := []) ⟨hx, hb, hml, hown, hts⟩ (c_Mo_signed l ((((((w.toUInt32 >>> ((31 : Int32).toUInt32 &&& Int32.toUInt32 31)).toInt32) <<< ((12 : Int32) &&& 31)) ||| (((w >>> ((7 : Int32) &&& 31)) &&& (1 : Int32)) <<< ((11 : Int32) &&& 31))) ||| (((w >>> ((25 : Int32) &&& 31)) &&& (63 : Int32)) <<< ((5 : Int32) &&& 31))) ||| (((w >>> ((8 : Int32) &&& 31)) &&& (15 : Int32)) <<< ((1 : Int32) &&& 31))) 13 H.size) (va_cwS 2 hts (goodS m_16_10 m_16_11 m_0_12 m_16_12) rfl rfl rfl (by decide +kernel) ⟨Nat.le_of_ble_eq_true rfl, Nat.le_of_ble_eq_true rfl⟩) ⟨preP_blind, preP_ok⟩ rfl rfl hl.1 rfl (lv_room (Nat.le_of_ble_eq_true rfl)) d_Mo_one_691 ⟨Nat.zero_le _, Nat.zero_le _⟩) hP hS hA (fun H locs hP hS => ?_)
                        refine lv_istore (lv' := [(15, .int (f_Mo_signed ((((((w.toUInt32 >>> ((31 : Int32).toUInt32 &&& Int32.toUInt32 31)).toInt32) <<< ((12 : Int32) &&& 31)) ||| (((w >>> ((7 : Int32) &&& 31)) &&& (1 : Int32)) <<< ((11 : Int32) &&& 31))) ||| (((w >>> ((25 : Int32) &&& 31)) &&& (63 : Int32)) <<< ((5 : Int32) &&& 31))) ||| (((w >>> ((8 : Int32) &&& 31)) &&& (15 : Int32)) <<< ((1 : Int32) &&& 31))) 13)), (14, .int (b2i x32)), (12, .long x31), (10, .long x30), (9, .int ((gI v1 1) + (4 : Int32))), (8, .int im), (7, .int g), (6, .int (nI b)), (5, .int (nI a)), (4, .int (nI f)), (3, .int (nI d)), (2, .int op), (1, .int w), (0, .ref (ad 0))]) hx hb d_Mo_one_694 hl (by decide) rfl (fun ls hl => ?_)
                        refine lv_iload hx hb d_Mo_one_696 (lv_at hl 1 rfl) ?_
                        refine rb_eq (tgt := 952) hx hb d_Mo_one_698 (by decide) (fun c33 => ?_) (fun c33 => ?_)
                        · skip
                          exact J952 ((gI v1 1) + (4 : Int32)) u3 _ _ _ ((by subst ex32; subst ex31; subst ex30; exact hq.trans ((if_neg c33).trans rfl))) hP hD hS (lv_sub hl [4, 5, 6, 7, 8, 9, 10, 11, 12, 13] rfl)
                        · skip
                          refine lv_aload_n hx hb d_Mo_one_701 rfl (lv_at hl 13 rfl) ?_
                          refine va_get (D := (dC, dI)) (ci := 8) (v := .int (gI u3 1)) (C := R_Mo) (T := F_Mo) (N := 31) hx hb hts in_Mo hown hK hP 0 rfl rfl 7 (by decide) (hts _ m_13_37) (fun _ h9 => h9) rfl d_Mo_one_702 ?_
                          refine lv_iload hx hb d_Mo_one_705 (lv_at hl 0 rfl) ?_
                          refine lv_iadd hx hb d_Mo_one_707 ?_
                          refine lv_istore (lv' := [(9, .int ((gI u3 1) + (f_Mo_signed ((((((w.toUInt32 >>> ((31 : Int32).toUInt32 &&& Int32.toUInt32 31)).toInt32) <<< ((12 : Int32) &&& 31)) ||| (((w >>> ((7 : Int32) &&& 31)) &&& (1 : Int32)) <<< ((11 : Int32) &&& 31))) ||| (((w >>> ((25 : Int32) &&& 31)) &&& (63 : Int32)) <<< ((5 : Int32) &&& 31))) ||| (((w >>> ((8 : Int32) &&& 31)) &&& (15 : Int32)) <<< ((1 : Int32) &&& 31))) 13))), (15, .int (f_Mo_signed ((((((w.toUInt32 >>> ((31 : Int32).toUInt32 &&& Int32.toUInt32 31)).toInt32) <<< ((12 : Int32) &&& 31)) ||| (((w >>> ((7 : Int32) &&& 31)) &&& (1 : Int32)) <<< ((11 : Int32) &&& 31))) ||| (((w >>> ((25 : Int32) &&& 31)) &&& (63 : Int32)) <<< ((5 : Int32) &&& 31))) ||| (((w >>> ((8 : Int32) &&& 31)) &&& (15 : Int32)) <<< ((1 : Int32) &&& 31))) 13)), (14, .int (b2i x32)), (12, .long x31), (10, .long x30), (8, .int im), (7, .int g), (6, .int (nI b)), (5, .int (nI a)), (4, .int (nI f)), (3, .int (nI d)), (2, .int op), (1, .int w), (0, .ref (ad 0))]) hx hb d_Mo_one_708 hl (by decide) rfl (fun ls hl => ?_)
                          refine lv_goto (tgt := 952) hx hb d_Mo_one_710 (by decide) ?_
                          exact J952 ((gI u3 1) + (f_Mo_signed ((((((w.toUInt32 >>> ((31 : Int32).toUInt32 &&& Int32.toUInt32 31)).toInt32) <<< ((12 : Int32) &&& 31)) ||| (((w >>> ((7 : Int32) &&& 31)) &&& (1 : Int32)) <<< ((11 : Int32) &&& 31))) ||| (((w >>> ((25 : Int32) &&& 31)) &&& (63 : Int32)) <<< ((5 : Int32) &&& 31))) ||| (((w >>> ((8 : Int32) &&& 31)) &&& (15 : Int32)) <<< ((1 : Int32) &&& 31))) 13)) u3 _ _ _ ((by subst ex32; subst ex31; subst ex30; exact hq.trans ((if_pos c33).trans rfl))) hP hD hS (lv_sub hl [0, 5, 6, 7, 8, 9, 10, 11, 12, 13] rfl)
                      refine rz_ne (tgt := 586) hx hb (by omega) d_Mo_one_567 (by decide) (fun c34 => ?_) (fun c34 => ?_)
                      · skip
                        refine lv_iload hx hb d_Mo_one_586 (lv_at hl 7 rfl) ?_
                        refine lv_iconst (v := nI 1) hx hb d_Mo_one_588 (by decide) ?_
                        refine rn_ne (tgt := 608) hx hb (by omega) (by omega) d_Mo_one_589 (by decide) (fun c35 => ?_) (fun c35 => ?_)
                        · skip
                          refine lv_iload hx hb d_Mo_one_608 (lv_at hl 7 rfl) ?_
                          refine lv_iconst (v := nI 4) hx hb d_Mo_one_610 (by decide) ?_
                          refine rn_eq (tgt := 621) hx hb (by omega) (by omega) d_Mo_one_611 (by decide) (fun c36 => ?_) (fun c36 => ?_)
                          · skip
                            refine lv_lload hx hb d_Mo_one_621 (lv_at hl 1 rfl) ?_
                            refine lv_lload hx hb d_Mo_one_623 (lv_at hl 0 rfl) ?_
                            refine W.lcmp hx hb d_Mo_one_625 ?_
                            refine lv_if_ge (tgt := 633) hx hb d_Mo_one_626 (by decide) (fun c37 => ?_) (fun c37 => ?_)
                            · skip
                              refine lv_iconst (v := 0) hx hb d_Mo_one_633 (by decide) ?_
                              refine lv_goto (tgt := 650) hx hb d_Mo_one_634 (by decide) ?_
                              exact J650 false _ _ (Eq.symm ((if_neg c34).trans ((if_neg c35).trans ((if_pos c36).trans ((if_pos c37).trans (rfl)))))) hP hD hS
                            · skip
                              refine lv_iconst (v := 1) hx hb d_Mo_one_629 (by decide) ?_
                              refine lv_goto (tgt := 650) hx hb d_Mo_one_630 (by decide) ?_
                              exact J650 true _ _ (Eq.symm ((if_neg c34).trans ((if_neg c35).trans ((if_pos c36).trans ((if_neg c37).trans (rfl)))))) hP hD hS
                          · skip
                            refine lv_iload hx hb d_Mo_one_614 (lv_at hl 7 rfl) ?_
                            refine lv_bipush (v := nI 6) hx hb d_Mo_one_616 (by decide) ?_
                            refine rn_ne (tgt := 637) hx hb (by omega) (by omega) d_Mo_one_618 (by decide) (fun c38 => ?_) (fun c38 => ?_)
                            · skip
                              refine lv_lload hx hb d_Mo_one_637 (lv_at hl 1 rfl) ?_
                              refine lv_lload hx hb d_Mo_one_639 (lv_at hl 0 rfl) ?_
                              refine W.lcmp hx hb d_Mo_one_641 ?_
                              refine lv_if_lt (tgt := 649) hx hb d_Mo_one_642 (by decide) (fun c39 => ?_) (fun c39 => ?_)
                              · skip
                                refine lv_iconst (v := 0) hx hb d_Mo_one_649 (by decide) ?_
                                exact J650 false _ _ (Eq.symm ((if_neg c34).trans ((if_neg c35).trans ((if_neg c36).trans ((if_neg c38).trans ((if_pos c39).trans (rfl))))))) hP hD hS
                              · skip
                                refine lv_iconst (v := 1) hx hb d_Mo_one_645 (by decide) ?_
                                refine lv_goto (tgt := 650) hx hb d_Mo_one_646 (by decide) ?_
                                exact J650 true _ _ (Eq.symm ((if_neg c34).trans ((if_neg c35).trans ((if_neg c36).trans ((if_neg c38).trans ((if_neg c39).trans (rfl))))))) hP hD hS
                            · skip
                              refine lv_lload hx hb d_Mo_one_621 (lv_at hl 1 rfl) ?_
                              refine lv_lload hx hb d_Mo_one_623 (lv_at hl 0 rfl) ?_
                              refine W.lcmp hx hb d_Mo_one_625 ?_
                              refine lv_if_ge (tgt := 633) hx hb d_Mo_one_626 (by decide) (fun c40 => ?_) (fun c40 => ?_)
                              · skip
                                refine lv_iconst (v := 0) hx hb d_Mo_one_633 (by decide) ?_
                                refine lv_goto (tgt := 650) hx hb d_Mo_one_634 (by decide) ?_
                                exact J650 false _ _ (Eq.symm ((if_neg c34).trans ((if_neg c35).trans ((if_neg c36).trans ((if_pos c38).trans ((if_pos c40).trans (rfl))))))) hP hD hS
                              · skip
                                refine lv_iconst (v := 1) hx hb d_Mo_one_629 (by decide) ?_
                                refine lv_goto (tgt := 650) hx hb d_Mo_one_630 (by decide) ?_
                                exact J650 true _ _ (Eq.symm ((if_neg c34).trans ((if_neg c35).trans ((if_neg c36).trans ((if_pos c38).trans ((if_neg c40).trans (rfl))))))) hP hD hS
                        · skip
                          refine lv_lload hx hb d_Mo_one_592 (lv_at hl 1 rfl) ?_
                          refine lv_lload hx hb d_Mo_one_594 (lv_at hl 0 rfl) ?_
                          refine W.lcmp hx hb d_Mo_one_596 ?_
                          refine lv_if_eq (tgt := 604) hx hb d_Mo_one_597 (by decide) (fun c41 => ?_) (fun c41 => ?_)
                          · skip
                            refine lv_iconst (v := 0) hx hb d_Mo_one_604 (by decide) ?_
                            refine lv_goto (tgt := 650) hx hb d_Mo_one_605 (by decide) ?_
                            exact J650 false _ _ (Eq.symm ((if_neg c34).trans ((if_pos c35).trans ((if_pos c41).trans (rfl))))) hP hD hS
                          · skip
                            refine lv_iconst (v := 1) hx hb d_Mo_one_600 (by decide) ?_
                            refine lv_goto (tgt := 650) hx hb d_Mo_one_601 (by decide) ?_
                            exact J650 true _ _ (Eq.symm ((if_neg c34).trans ((if_pos c35).trans ((if_neg c41).trans (rfl))))) hP hD hS
                      · skip
                        refine lv_lload hx hb d_Mo_one_570 (lv_at hl 1 rfl) ?_
                        refine lv_lload hx hb d_Mo_one_572 (lv_at hl 0 rfl) ?_
                        refine W.lcmp hx hb d_Mo_one_574 ?_
                        refine lv_if_ne (tgt := 582) hx hb d_Mo_one_575 (by decide) (fun c42 => ?_) (fun c42 => ?_)
                        · skip
                          refine lv_iconst (v := 0) hx hb d_Mo_one_582 (by decide) ?_
                          refine lv_goto (tgt := 650) hx hb d_Mo_one_583 (by decide) ?_
                          exact J650 false _ _ (Eq.symm ((if_pos c34).trans ((if_neg c42).trans (rfl)))) hP hD hS
                        · skip
                          refine lv_iconst (v := 1) hx hb d_Mo_one_578 (by decide) ?_
                          refine lv_goto (tgt := 650) hx hb d_Mo_one_579 (by decide) ?_
                          exact J650 true _ _ (Eq.symm ((if_pos c34).trans ((if_pos c42).trans (rfl)))) hP hD hS
                    refine rn_ge (tgt := 551) hx hb (by omega) (by omega) d_Mo_one_537 (by decide) (fun c43 => ?_) (fun c43 => ?_)
                    · skip
                      refine lv_aload_n hx hb d_Mo_one_551 rfl (lv_at hl 10 rfl) ?_
                      refine va_get (D := (dC, dI)) (ci := 8) (v := .ref (ad 3)) (C := R_Mo) (T := F_Mo) (N := 31) hx hb hts in_Mo hown hK hP 0 rfl rfl 3 (by decide) (hts _ m_13_33) (fun _ h9 => h9) rfl d_Mo_one_552 ?_
                      refine lv_iload hx hb d_Mo_one_555 (lv_at hl 4 rfl) ?_
                      refine aldM_x (u := u3) (v := aI u3 2 b) hx hb hK hP (by omega) rfl d_Mo_one_557 ?_
                      refine lv_i2l (v := (aI u3 2 b).toInt64) hx hb d_Mo_one_558 rfl ?_
                      refine lv_ldc2 (v := 4294967295) hx hb hown (hts _ m_16_19) d_Mo_one_559 ?_
                      refine lv_land hx hb d_Mo_one_562 ?_
                      exact J563 (((aI u3 2 b).toInt64) &&& 4294967295) _ _ (Eq.symm ((if_neg (Nat.not_lt.mpr c43)).trans (rfl))) hP hD hS
                    · skip
                      refine lv_aload_n hx hb d_Mo_one_540 rfl (lv_at hl 10 rfl) ?_
                      refine va_get (D := (dC, dI)) (ci := 8) (v := .ref (ad 3)) (C := R_Mo) (T := F_Mo) (N := 31) hx hb hts in_Mo hown hK hP 0 rfl rfl 3 (by decide) (hts _ m_13_33) (fun _ h9 => h9) rfl d_Mo_one_541 ?_
                      refine lv_iload hx hb d_Mo_one_544 (lv_at hl 4 rfl) ?_
                      refine aldM_x (u := u3) (v := aI u3 2 b) hx hb hK hP (by omega) rfl d_Mo_one_546 ?_
                      refine lv_i2l (v := (aI u3 2 b).toInt64) hx hb d_Mo_one_547 rfl ?_
                      refine lv_goto (tgt := 563) hx hb d_Mo_one_548 (by decide) ?_
                      exact J563 ((aI u3 2 b).toInt64) _ _ (Eq.symm ((if_pos c43).trans (rfl))) hP hD hS
                  refine rn_ge (tgt := 519) hx hb (by omega) (by omega) d_Mo_one_505 (by decide) (fun c44 => ?_) (fun c44 => ?_)
                  · skip
                    refine lv_aload_n hx hb d_Mo_one_519 rfl (lv_at hl 9 rfl) ?_
                    refine va_get (D := (dC, dI)) (ci := 8) (v := .ref (ad 3)) (C := R_Mo) (T := F_Mo) (N := 31) hx hb hts in_Mo hown hK hP 0 rfl rfl 3 (by decide) (hts _ m_13_33) (fun _ h9 => h9) rfl d_Mo_one_520 ?_
                    refine lv_iload hx hb d_Mo_one_523 (lv_at hl 4 rfl) ?_
                    refine aldM_x (u := u3) (v := aI u3 2 a) hx hb hK hP (by omega) rfl d_Mo_one_525 ?_
                    refine lv_i2l (v := (aI u3 2 a).toInt64) hx hb d_Mo_one_526 rfl ?_
                    refine lv_ldc2 (v := 4294967295) hx hb hown (hts _ m_16_19) d_Mo_one_527 ?_
                    refine lv_land hx hb d_Mo_one_530 ?_
                    exact J531 (((aI u3 2 a).toInt64) &&& 4294967295) _ _ (Eq.symm ((if_neg (Nat.not_lt.mpr c44)).trans (rfl))) hP hD hS
                  · skip
                    refine lv_aload_n hx hb d_Mo_one_508 rfl (lv_at hl 9 rfl) ?_
                    refine va_get (D := (dC, dI)) (ci := 8) (v := .ref (ad 3)) (C := R_Mo) (T := F_Mo) (N := 31) hx hb hts in_Mo hown hK hP 0 rfl rfl 3 (by decide) (hts _ m_13_33) (fun _ h9 => h9) rfl d_Mo_one_509 ?_
                    refine lv_iload hx hb d_Mo_one_512 (lv_at hl 4 rfl) ?_
                    refine aldM_x (u := u3) (v := aI u3 2 a) hx hb hK hP (by omega) rfl d_Mo_one_514 ?_
                    refine lv_i2l (v := (aI u3 2 a).toInt64) hx hb d_Mo_one_515 rfl ?_
                    refine lv_goto (tgt := 531) hx hb d_Mo_one_516 (by decide) ?_
                    exact J531 ((aI u3 2 a).toInt64) _ _ (Eq.symm ((if_pos c44).trans (rfl))) hP hD hS
                refine rb_ne (tgt := 495) hx hb d_Mo_one_481 (by decide) (fun c45 => ?_) (fun c45 => ?_)
                · skip
                  refine lv_aload_n hx hb d_Mo_one_495 rfl (lv_at hl 9 rfl) ?_
                  refine lv_iconst (v := 2) hx hb d_Mo_one_496 (by decide) ?_
                  refine lv_iconst (v := 0) hx hb d_Mo_one_497 (by decide) ?_
                  refine callWv (va_runV (As := [.int 2, .int 0]) (rest := []) ⟨hx, hb, hml, hown, hts⟩ (c_Mo_fault l dC dI cI cZ ad v1 2 0 (by first | assumption | omega) H.size) (cwV 2 hts (goodV m_16_4 m_16_5 m_19_19 m_0_12 m_16_6) rfl rfl rfl (by decide +kernel) ⟨Nat.le_of_ble_eq_true rfl, Nat.le_of_ble_eq_true rfl⟩) ⟨preW_blind, va_recv hK hP (ci := 8) (q0 := 0) rfl rfl, preW_ok hP hD hK⟩ rfl rfl hl.1 rfl (lv_room (Nat.le_of_ble_eq_true rfl)) d_Mo_one_498 ⟨Nat.zero_le _, Nat.zero_le _⟩) hP hD hS hA (fun H locs hP hD hS => ?_)
                  exact J501 (f_Mo_fault 2 0 v1) _ _ _ ((by subst ev1; subst ho95; subst eim; subst eg; subst eb; subst ea; subst ef; subst ed; subst eop; subst ew; exact hq.trans ((if_pos c1).trans ((if_neg c2).trans ((if_pos c3).trans ((if_neg c4).trans ((if_neg c6).trans ((if_neg c7).trans ((if_neg c21).trans ((if_neg c22).trans ((if_neg c24).trans ((if_neg c26).trans ((if_pos c27).trans ((if_neg c28).trans ((if_neg c29).trans ((if_pos c45).trans rfl)))))))))))))))) hP hD hS (lv_sub hl [0, 1, 2, 3, 4, 5, 6, 7, 8, 9] rfl)
                · skip
                  refine lv_aload_n hx hb d_Mo_one_484 rfl (lv_at hl 9 rfl) ?_
                  refine lv_iload hx hb d_Mo_one_485 (lv_at hl 3 rfl) ?_
                  refine lv_bipush (v := nI 32) hx hb d_Mo_one_487 (by decide) ?_
                  refine callWi (va_runV (As := [.int (nI b), .int (nI 32)]) (rest := []) ⟨hx, hb, hml, hown, hts⟩ (c_Mo_anyDark l dC dI cI cZ ad v1 b 32 (by first | assumption | omega) (by first | assumption | omega) H.size) (cwV 2 hts (goodV m_16_16 m_16_17 m_19_22 m_0_12 m_16_18) rfl rfl rfl (by decide +kernel) ⟨Nat.le_of_ble_eq_true rfl, Nat.le_of_ble_eq_true rfl⟩) ⟨preW_blind, va_recv hK hP (ci := 8) (q0 := 0) rfl rfl, preW_ok hP hD hK⟩ rfl rfl hl.1 rfl (lv_room (Nat.le_of_ble_eq_true rfl)) d_Mo_one_489 ⟨Nat.zero_le _, Nat.zero_le _⟩) hP hD hS hA (fun H locs hP hD hS => ?_)
                  refine rb_eq (tgt := 501) hx hb d_Mo_one_492 (by decide) (fun c46 => ?_) (fun c46 => ?_)
                  · skip
                    exact J501 v1 _ _ _ ((by subst ev1; subst ho95; subst eim; subst eg; subst eb; subst ea; subst ef; subst ed; subst eop; subst ew; exact hq.trans ((if_pos c1).trans ((if_neg c2).trans ((if_pos c3).trans ((if_neg c4).trans ((if_neg c6).trans ((if_neg c7).trans ((if_neg c21).trans ((if_neg c22).trans ((if_neg c24).trans ((if_neg c26).trans ((if_pos c27).trans ((if_neg c28).trans ((if_neg c29).trans ((if_neg c45).trans ((if_neg c46).trans rfl))))))))))))))))) hP hD hS (lv_sub hl [0, 1, 2, 3, 4, 5, 6, 7, 8, 9] rfl)
                  · skip
                    refine lv_aload_n hx hb d_Mo_one_495 rfl (lv_at hl 9 rfl) ?_
                    refine lv_iconst (v := 2) hx hb d_Mo_one_496 (by decide) ?_
                    refine lv_iconst (v := 0) hx hb d_Mo_one_497 (by decide) ?_
                    refine callWv (va_runV (As := [.int 2, .int 0]) (rest := []) ⟨hx, hb, hml, hown, hts⟩ (c_Mo_fault l dC dI cI cZ ad v1 2 0 (by first | assumption | omega) H.size) (cwV 2 hts (goodV m_16_4 m_16_5 m_19_19 m_0_12 m_16_6) rfl rfl rfl (by decide +kernel) ⟨Nat.le_of_ble_eq_true rfl, Nat.le_of_ble_eq_true rfl⟩) ⟨preW_blind, va_recv hK hP (ci := 8) (q0 := 0) rfl rfl, preW_ok hP hD hK⟩ rfl rfl hl.1 rfl (lv_room (Nat.le_of_ble_eq_true rfl)) d_Mo_one_498 ⟨Nat.zero_le _, Nat.zero_le _⟩) hP hD hS hA (fun H locs hP hD hS => ?_)
                    exact J501 (f_Mo_fault 2 0 v1) _ _ _ ((by subst ev1; subst ho95; subst eim; subst eg; subst eb; subst ea; subst ef; subst ed; subst eop; subst ew; exact hq.trans ((if_pos c1).trans ((if_neg c2).trans ((if_pos c3).trans ((if_neg c4).trans ((if_neg c6).trans ((if_neg c7).trans ((if_neg c21).trans ((if_neg c22).trans ((if_neg c24).trans ((if_neg c26).trans ((if_pos c27).trans ((if_neg c28).trans ((if_neg c29).trans ((if_neg c45).trans ((if_pos c46).trans rfl))))))))))))))))) hP hD hS (lv_sub hl [0, 1, 2, 3, 4, 5, 6, 7, 8, 9] rfl)
              · skip
                refine lv_aload_n hx hb d_Mo_one_467 rfl (lv_at hl 9 rfl) ?_
                refine lv_iconst (v := 1) hx hb d_Mo_one_468 (by decide) ?_
                refine callWv (va_runV (As := [.int 1]) (rest := []) ⟨hx, hb, hml, hown, hts⟩ (c_Mo_trap l dC dI cI cZ ad v1 1 H.size) (cwV 1 hts (goodV m_15_38 m_15_39 m_19_17 m_0_12 m_16_0) rfl rfl rfl (by decide +kernel) ⟨Nat.le_of_ble_eq_true rfl, Nat.le_of_ble_eq_true rfl⟩) ⟨preW_blind, va_recv hK hP (ci := 8) (q0 := 0) rfl rfl, preW_ok hP hD hK⟩ rfl rfl hl.1 rfl (lv_room (Nat.le_of_ble_eq_true rfl)) d_Mo_one_469 ⟨Nat.zero_le _, Nat.zero_le _⟩) hP hD hS hA (fun H locs hP hD hS => ?_)
                have hE : res = f_Mo_trap 1 v1 := (by subst ev1; subst ho95; subst eim; subst eg; subst eb; subst ea; subst ef; subst ed; subst eop; subst ew; exact hq.trans ((if_pos c1).trans ((if_neg c2).trans ((if_pos c3).trans ((if_neg c4).trans ((if_neg c6).trans ((if_neg c7).trans ((if_neg c21).trans ((if_neg c22).trans ((if_neg c24).trans ((if_neg c26).trans ((if_pos c27).trans ((if_neg c28).trans ((if_pos c29).trans rfl))))))))))))))
                exact retWv hx hb hr hP hK hD hS hE.symm d_Mo_one_472 hlocks
          by_cases c47 : op = 103
          · skip
            refine lv_lookup (off := 211) (tgt := 357) hx hb d_Mo_one_146 (by decide) (by rw [c47]; decide) (by decide) ?_
            refine lv_iload hx hb d_Mo_one_357 (lv_at hl 5 rfl) ?_
            refine rz_eq (tgt := 368) hx hb (by omega) d_Mo_one_359 (by decide) (fun c48 => ?_) (fun c48 => ?_)
            · skip
              refine lv_aload_n hx hb d_Mo_one_368 rfl (lv_at hl 9 rfl) ?_
              refine va_get (D := (dC, dI)) (ci := 8) (v := .ref (ad 3)) (C := R_Mo) (T := F_Mo) (N := 31) hx hb hts in_Mo hown hK hP 0 rfl rfl 3 (by decide) (hts _ m_13_33) (fun _ h9 => h9) rfl d_Mo_one_369 ?_
              refine lv_iload hx hb d_Mo_one_372 (lv_at hl 4 rfl) ?_
              refine aldM_x (u := v1) (v := aI v1 2 a) hx hb hK hP (by omega) rfl d_Mo_one_374 ?_
              refine lv_iload hx hb d_Mo_one_375 (lv_at hl 1 rfl) ?_
              refine lv_iadd hx hb d_Mo_one_377 ?_
              refine lv_bipush (v := (-2)) hx hb d_Mo_one_378 (by decide) ?_
              refine lv_iand hx hb d_Mo_one_380 ?_
              refine lv_istore (lv' := [(10, .int (((aI v1 2 a) + im) &&& (-2 : Int32))), (9, .int ((gI v1 1) + (4 : Int32))), (8, .int im), (7, .int g), (6, .int (nI b)), (5, .int (nI a)), (4, .int (nI f)), (3, .int (nI d)), (2, .int op), (1, .int w), (0, .ref (ad 0))]) hx hb d_Mo_one_381 hl (by decide) rfl (fun ls hl => ?_)
              refine lv_aload_n hx hb d_Mo_one_383 rfl (lv_at hl 10 rfl) ?_
              refine lv_iload hx hb d_Mo_one_384 (lv_at hl 5 rfl) ?_
              refine lv_bipush (v := nI 32) hx hb d_Mo_one_386 (by decide) ?_
              refine callWi (va_runV (As := [.int (nI a), .int (nI 32)]) (rest := []) ⟨hx, hb, hml, hown, hts⟩ (c_Mo_anyDark l dC dI cI cZ ad v1 a 32 (by first | assumption | omega) (by first | assumption | omega) H.size) (cwV 2 hts (goodV m_16_16 m_16_17 m_19_22 m_0_12 m_16_18) rfl rfl rfl (by decide +kernel) ⟨Nat.le_of_ble_eq_true rfl, Nat.le_of_ble_eq_true rfl⟩) ⟨preW_blind, va_recv hK hP (ci := 8) (q0 := 0) rfl rfl, preW_ok hP hD hK⟩ rfl rfl hl.1 rfl (lv_room (Nat.le_of_ble_eq_true rfl)) d_Mo_one_388 ⟨Nat.zero_le _, Nat.zero_le _⟩) hP hD hS hA (fun H locs hP hD hS => ?_)
              have J401 : ∀ (u3 : S5) (H : Heap) (locs : List Loc) (ls : Array Slot), res = f_Mo_one_401 u w op d f a b g im v1 u3 → (OkE u3) → va_P (dC, dI) classes (wM cI cZ ad u3) H → va_D A (wM cI cZ ad u3) → va_S A s.heap H locs → lv_has ls 16 [(10, .int (((aI v1 2 a) + im) &&& (-2 : Int32))), (9, .int ((gI v1 1) + (4 : Int32))), (8, .int im), (7, .int g), (6, .int (nI b)), (5, .int (nI a)), (4, .int (nI f)), (3, .int (nI d)), (2, .int op), (1, .int w), (0, .ref (ad 0))] → W p l e (headSpec w_Mo_one rm_Mo_one).room s m ([.ref (ad 0)] : List Value).toArray below meth c H locs 0 0 (MQ below (QWv (dC, dI) classes [(cI, .int), (cZ, .boolean)] (wM cI cZ ad) A res) ([.ref (ad 0)] : List Value).toArray s 0 0 A) (F0 m 401 ls []) := by
                intro u3 H locs ls hq oke3 hP hD hS hl
                refine lv_aload_n hx hb d_Mo_one_401 rfl (lv_at hl 10 rfl) ?_
                refine lv_iload_n hx hb d_Mo_one_402 rfl (lv_at hl 7 rfl) ?_
                refine lv_aload_n hx hb d_Mo_one_403 rfl (lv_at hl 10 rfl) ?_
                refine va_get (D := (dC, dI)) (ci := 8) (v := .int (gI u3 1)) (C := R_Mo) (T := F_Mo) (N := 31) hx hb hts in_Mo hown hK hP 0 rfl rfl 7 (by decide) (hts _ m_13_37) (fun _ h9 => h9) rfl d_Mo_one_404 ?_
                refine lv_iconst (v := 4) hx hb d_Mo_one_407 (by decide) ?_
                refine lv_iadd hx hb d_Mo_one_408 ?_
                refine lv_iconst (v := 0) hx hb d_Mo_one_409 (by decide) ?_
                refine callWv (va_runV (As := [.int (nI d), .int ((gI u3 1) + (4 : Int32)), .int 0]) (rest := []) ⟨hx, hb, hml, hown, hts⟩ (c_Mo_give l dC dI cI cZ ad u3 d ((gI u3 1) + (4 : Int32)) 0 (by first | assumption | omega) H.size) (cwV 3 hts (goodV m_16_7 m_16_8 m_19_20 m_0_12 m_16_9) rfl rfl rfl (by decide +kernel) ⟨Nat.le_of_ble_eq_true rfl, Nat.le_of_ble_eq_true rfl⟩) ⟨preW_blind, va_recv hK hP (ci := 8) (q0 := 0) rfl rfl, preW_ok hP hD hK⟩ rfl rfl hl.1 rfl (lv_room (Nat.le_of_ble_eq_true rfl)) d_Mo_one_410 ⟨Nat.zero_le _, Nat.zero_le _⟩) hP hD hS hA (fun H locs hP hD hS => ?_)
                refine lv_iload_n hx hb d_Mo_one_413 rfl (lv_at hl 7 rfl) ?_
                refine lv_iconst (v := nI 1) hx hb d_Mo_one_414 (by decide) ?_
                refine rn_ne (tgt := 425) hx hb (by omega) (by omega) d_Mo_one_415 (by decide) (fun c49 => ?_) (fun c49 => ?_)
                · skip
                  refine lv_iload hx hb d_Mo_one_425 (lv_at hl 5 rfl) ?_
                  refine lv_iconst (v := nI 1) hx hb d_Mo_one_427 (by decide) ?_
                  refine rn_ne (tgt := 448) hx hb (by omega) (by omega) d_Mo_one_428 (by decide) (fun c50 => ?_) (fun c50 => ?_)
                  · skip
                    refine lv_iload hx hb d_Mo_one_448 (lv_at hl 0 rfl) ?_
                    refine lv_istore (lv' := [(9, .int (((aI v1 2 a) + im) &&& (-2 : Int32))), (10, .int (((aI v1 2 a) + im) &&& (-2 : Int32))), (8, .int im), (7, .int g), (6, .int (nI b)), (5, .int (nI a)), (4, .int (nI f)), (3, .int (nI d)), (2, .int op), (1, .int w), (0, .ref (ad 0))]) hx hb d_Mo_one_450 hl (by decide) rfl (fun ls hl => ?_)
                    refine lv_goto (tgt := 952) hx hb d_Mo_one_452 (by decide) ?_
                    exact J952 (((aI v1 2 a) + im) &&& (-2 : Int32)) (f_Mo_give d ((gI u3 1) + (4 : Int32)) 0 u3) _ _ _ (hq.trans ((if_neg c49).trans ((if_neg c50).trans rfl))) hP hD hS (lv_sub hl [0, 2, 3, 4, 5, 6, 7, 8, 9, 10] rfl)
                  · skip
                    have hg5 : gN (f_Mo_give d ((gI u3 1) + (4 : Int32)) 0 u3) 5 ≤ 32 := (by rw [(gv_fr _ _ _ _).2.1 5 (by decide)]; exact oke3.2)
                    refine lv_aload_n hx hb d_Mo_one_431 rfl (lv_at hl 10 rfl) ?_
                    refine va_get (D := (dC, dI)) (ci := 8) (v := .int (nI (gN (f_Mo_give d ((gI u3 1) + (4 : Int32)) 0 u3) 5))) (C := R_Mo) (T := F_Mo) (N := 31) hx hb hts in_Mo hown hK hP 0 rfl rfl 24 (by decide) (hts _ m_14_14) (fun _ h9 => h9) rfl d_Mo_one_432 ?_
                    refine rz_le (tgt := 448) hx hb (by omega) d_Mo_one_435 (by decide) (fun c51 => ?_) (fun c51 => ?_)
                    · skip
                      refine lv_iload hx hb d_Mo_one_448 (lv_at hl 0 rfl) ?_
                      refine lv_istore (lv' := [(9, .int (((aI v1 2 a) + im) &&& (-2 : Int32))), (10, .int (((aI v1 2 a) + im) &&& (-2 : Int32))), (8, .int im), (7, .int g), (6, .int (nI b)), (5, .int (nI a)), (4, .int (nI f)), (3, .int (nI d)), (2, .int op), (1, .int w), (0, .ref (ad 0))]) hx hb d_Mo_one_450 hl (by decide) rfl (fun ls hl => ?_)
                      refine lv_goto (tgt := 952) hx hb d_Mo_one_452 (by decide) ?_
                      exact J952 (((aI v1 2 a) + im) &&& (-2 : Int32)) (f_Mo_give d ((gI u3 1) + (4 : Int32)) 0 u3) _ _ _ (hq.trans ((if_neg c49).trans ((if_pos c50).trans ((if_pos c51).trans rfl)))) hP hD hS (lv_sub hl [0, 2, 3, 4, 5, 6, 7, 8, 9, 10] rfl)
                    · skip
                      refine lv_aload_n hx hb d_Mo_one_438 rfl (lv_at hl 10 rfl) ?_
                      refine lv_dup hx hb d_Mo_one_439 rfl ?_
                      refine va_get (D := (dC, dI)) (ci := 8) (v := .int (nI (gN (f_Mo_give d ((gI u3 1) + (4 : Int32)) 0 u3) 5))) (C := R_Mo) (T := F_Mo) (N := 31) hx hb hts in_Mo hown hK hP 0 rfl rfl 24 (by decide) (hts _ m_14_14) (fun _ h9 => h9) rfl d_Mo_one_440 ?_
                      refine lv_iconst (v := nI 1) hx hb d_Mo_one_443 (by decide) ?_
                      refine lv_isub hx hb d_Mo_one_444 ?_
                      refine rw_top (y := nI (gN (f_Mo_give d ((gI u3 1) + (4 : Int32)) 0 u3) 5 - 1)) (pk_sub (by omega)) ?_
                      refine va_put (D := (dC, dI)) (ci := 8) (v := .int (nI (gN (f_Mo_give d ((gI u3 1) + (4 : Int32)) 0 u3) 5 - 1))) (ty := .int) (C := R_Mo) (T := F_Mo) (N := 31) hx hb hts in_Mo t_Mo t_Mo_ok n_Mo hown hK hP hD hS 0 rfl rfl 24 (by decide) (hts _ m_14_14) (fun _ h9 => h9) rfl (by decide +kernel) rfl rfl (Nat.le_of_ble_eq_true rfl) d_Mo_one_445 (fun H locs hP hD hS => ?_)
                      have hP : va_P (dC, dI) classes (wM cI cZ ad (sN (f_Mo_give d ((gI u3 1) + (4 : Int32)) 0 u3) 5 (gN (f_Mo_give d ((gI u3 1) + (4 : Int32)) 0 u3) 5 - 1))) H := hP
                      have hD : va_D A (wM cI cZ ad (sN (f_Mo_give d ((gI u3 1) + (4 : Int32)) 0 u3) 5 (gN (f_Mo_give d ((gI u3 1) + (4 : Int32)) 0 u3) 5 - 1))) := hD
                      refine lv_iload hx hb d_Mo_one_448 (lv_at hl 0 rfl) ?_
                      refine lv_istore (lv' := [(9, .int (((aI v1 2 a) + im) &&& (-2 : Int32))), (10, .int (((aI v1 2 a) + im) &&& (-2 : Int32))), (8, .int im), (7, .int g), (6, .int (nI b)), (5, .int (nI a)), (4, .int (nI f)), (3, .int (nI d)), (2, .int op), (1, .int w), (0, .ref (ad 0))]) hx hb d_Mo_one_450 hl (by decide) rfl (fun ls hl => ?_)
                      refine lv_goto (tgt := 952) hx hb d_Mo_one_452 (by decide) ?_
                      exact J952 (((aI v1 2 a) + im) &&& (-2 : Int32)) (sN (f_Mo_give d ((gI u3 1) + (4 : Int32)) 0 u3) 5 (gN (f_Mo_give d ((gI u3 1) + (4 : Int32)) 0 u3) 5 - 1)) _ _ _ (hq.trans ((if_neg c49).trans ((if_pos c50).trans ((if_neg (by omega)).trans rfl)))) hP hD hS (lv_sub hl [0, 2, 3, 4, 5, 6, 7, 8, 9, 10] rfl)
                · skip
                  refine lv_aload_n hx hb d_Mo_one_418 rfl (lv_at hl 10 rfl) ?_
                  refine callWv (va_runV (As := []) (rest := []) ⟨hx, hb, hml, hown, hts⟩ (c_Mo_push l dC dI cI cZ ad (f_Mo_give d ((gI u3 1) + (4 : Int32)) 0 u3) (by rw [(gv_fr _ _ _ _).2.1 5 (by decide)]; exact oke3.2) H.size) (cwV 0 hts (goodV m_16_13 m_16_14 m_19_21 m_0_12 m_16_15) rfl rfl rfl (by decide +kernel) ⟨Nat.le_of_ble_eq_true rfl, Nat.le_of_ble_eq_true rfl⟩) ⟨preW_blind, va_recv hK hP (ci := 8) (q0 := 0) rfl rfl, preW_ok hP hD hK⟩ rfl rfl hl.1 rfl (lv_room (Nat.le_of_ble_eq_true rfl)) d_Mo_one_419 ⟨Nat.zero_le _, Nat.zero_le _⟩) hP hD hS hA (fun H locs hP hD hS => ?_)
                  refine lv_goto (tgt := 448) hx hb d_Mo_one_422 (by decide) ?_
                  refine lv_iload hx hb d_Mo_one_448 (lv_at hl 0 rfl) ?_
                  refine lv_istore (lv' := [(9, .int (((aI v1 2 a) + im) &&& (-2 : Int32))), (10, .int (((aI v1 2 a) + im) &&& (-2 : Int32))), (8, .int im), (7, .int g), (6, .int (nI b)), (5, .int (nI a)), (4, .int (nI f)), (3, .int (nI d)), (2, .int op), (1, .int w), (0, .ref (ad 0))]) hx hb d_Mo_one_450 hl (by decide) rfl (fun ls hl => ?_)
                  refine lv_goto (tgt := 952) hx hb d_Mo_one_452 (by decide) ?_
                  exact J952 (((aI v1 2 a) + im) &&& (-2 : Int32)) (f_Mo_push (f_Mo_give d ((gI u3 1) + (4 : Int32)) 0 u3)) _ _ _ (hq.trans ((if_pos c49).trans rfl)) hP hD hS (lv_sub hl [0, 2, 3, 4, 5, 6, 7, 8, 9, 10] rfl)
              refine rb_eq (tgt := 401) hx hb d_Mo_one_391 (by decide) (fun c52 => ?_) (fun c52 => ?_)
              · skip
                exact J401 v1 _ _ _ ((by subst ev1; subst ho95; subst eim; subst eg; subst eb; subst ea; subst ef; subst ed; subst eop; subst ew; exact hq.trans ((if_pos c1).trans ((if_neg c2).trans ((if_pos c3).trans ((if_neg c4).trans ((if_neg c6).trans ((if_neg c7).trans ((if_neg c21).trans ((if_neg c22).trans ((if_neg c24).trans ((if_neg c26).trans ((if_neg c27).trans ((if_pos c47).trans ((if_pos c48).trans ((if_neg c52).trans rfl)))))))))))))))) (by first | assumption | exact ft_ok _ _ oke1) hP hD hS (lv_sub hl [0, 1, 2, 3, 4, 5, 6, 7, 8, 9, 10] rfl)
              · skip
                refine lv_aload_n hx hb d_Mo_one_394 rfl (lv_at hl 10 rfl) ?_
                refine lv_iconst (v := 3) hx hb d_Mo_one_395 (by decide) ?_
                refine lv_iload hx hb d_Mo_one_396 (lv_at hl 0 rfl) ?_
                refine callWv (va_runV (As := [.int 3, .int (((aI v1 2 a) + im) &&& (-2 : Int32))]) (rest := []) ⟨hx, hb, hml, hown, hts⟩ (c_Mo_fault l dC dI cI cZ ad v1 3 (((aI v1 2 a) + im) &&& (-2 : Int32)) (by first | assumption | omega) H.size) (cwV 2 hts (goodV m_16_4 m_16_5 m_19_19 m_0_12 m_16_6) rfl rfl rfl (by decide +kernel) ⟨Nat.le_of_ble_eq_true rfl, Nat.le_of_ble_eq_true rfl⟩) ⟨preW_blind, va_recv hK hP (ci := 8) (q0 := 0) rfl rfl, preW_ok hP hD hK⟩ rfl rfl hl.1 rfl (lv_room (Nat.le_of_ble_eq_true rfl)) d_Mo_one_398 ⟨Nat.zero_le _, Nat.zero_le _⟩) hP hD hS hA (fun H locs hP hD hS => ?_)
                exact J401 (f_Mo_fault 3 (((aI v1 2 a) + im) &&& (-2 : Int32)) v1) _ _ _ ((by subst ev1; subst ho95; subst eim; subst eg; subst eb; subst ea; subst ef; subst ed; subst eop; subst ew; exact hq.trans ((if_pos c1).trans ((if_neg c2).trans ((if_pos c3).trans ((if_neg c4).trans ((if_neg c6).trans ((if_neg c7).trans ((if_neg c21).trans ((if_neg c22).trans ((if_neg c24).trans ((if_neg c26).trans ((if_neg c27).trans ((if_pos c47).trans ((if_pos c48).trans ((if_pos c52).trans rfl)))))))))))))))) (by first | assumption | exact ft_ok _ _ oke1) hP hD hS (lv_sub hl [0, 1, 2, 3, 4, 5, 6, 7, 8, 9, 10] rfl)
            · skip
              refine lv_aload_n hx hb d_Mo_one_362 rfl (lv_at hl 9 rfl) ?_
              refine lv_iconst (v := 1) hx hb d_Mo_one_363 (by decide) ?_
              refine callWv (va_runV (As := [.int 1]) (rest := []) ⟨hx, hb, hml, hown, hts⟩ (c_Mo_trap l dC dI cI cZ ad v1 1 H.size) (cwV 1 hts (goodV m_15_38 m_15_39 m_19_17 m_0_12 m_16_0) rfl rfl rfl (by decide +kernel) ⟨Nat.le_of_ble_eq_true rfl, Nat.le_of_ble_eq_true rfl⟩) ⟨preW_blind, va_recv hK hP (ci := 8) (q0 := 0) rfl rfl, preW_ok hP hD hK⟩ rfl rfl hl.1 rfl (lv_room (Nat.le_of_ble_eq_true rfl)) d_Mo_one_364 ⟨Nat.zero_le _, Nat.zero_le _⟩) hP hD hS hA (fun H locs hP hD hS => ?_)
              have hE : res = f_Mo_trap 1 v1 := (by subst ev1; subst ho95; subst eim; subst eg; subst eb; subst ea; subst ef; subst ed; subst eop; subst ew; exact hq.trans ((if_pos c1).trans ((if_neg c2).trans ((if_pos c3).trans ((if_neg c4).trans ((if_neg c6).trans ((if_neg c7).trans ((if_neg c21).trans ((if_neg c22).trans ((if_neg c24).trans ((if_neg c26).trans ((if_neg c27).trans ((if_pos c47).trans ((if_neg c48).trans rfl))))))))))))))
              exact retWv hx hb hr hP hK hD hS hE.symm d_Mo_one_367 hlocks
          by_cases c53 : op = 111
          · skip
            refine lv_lookup (off := 131) (tgt := 277) hx hb d_Mo_one_146 (by decide) (by rw [c53]; decide) (by decide) ?_
            refine lv_iload_n hx hb d_Mo_one_277 rfl (lv_at hl 8 rfl) ?_
            refine lv_bipush (v := 31) hx hb d_Mo_one_278 (by decide) ?_
            refine lv_iushr (v := (w.toUInt32 >>> ((31 : Int32).toUInt32 &&& Int32.toUInt32 31)).toInt32) hx hb d_Mo_one_280 rfl ?_
            refine lv_bipush (v := 20) hx hb d_Mo_one_281 (by decide) ?_
            refine lv_ishl hx hb d_Mo_one_283 ?_
            refine lv_iload_n hx hb d_Mo_one_284 rfl (lv_at hl 8 rfl) ?_
            refine lv_bipush (v := 12) hx hb d_Mo_one_285 (by decide) ?_
            refine lv_ishr hx hb d_Mo_one_287 ?_
            refine lv_sipush (v := 255) hx hb d_Mo_one_288 (by decide) ?_
            refine lv_iand hx hb d_Mo_one_291 ?_
            refine lv_bipush (v := 12) hx hb d_Mo_one_292 (by decide) ?_
            refine lv_ishl hx hb d_Mo_one_294 ?_
            refine lv_ior hx hb d_Mo_one_295 ?_
            refine lv_iload_n hx hb d_Mo_one_296 rfl (lv_at hl 8 rfl) ?_
            refine lv_bipush (v := 20) hx hb d_Mo_one_297 (by decide) ?_
            refine lv_ishr hx hb d_Mo_one_299 ?_
            refine lv_iconst (v := 1) hx hb d_Mo_one_300 (by decide) ?_
            refine lv_iand hx hb d_Mo_one_301 ?_
            refine lv_bipush (v := 11) hx hb d_Mo_one_302 (by decide) ?_
            refine lv_ishl hx hb d_Mo_one_304 ?_
            refine lv_ior hx hb d_Mo_one_305 ?_
            refine lv_iload_n hx hb d_Mo_one_306 rfl (lv_at hl 8 rfl) ?_
            refine lv_bipush (v := 21) hx hb d_Mo_one_307 (by decide) ?_
            refine lv_ishr hx hb d_Mo_one_309 ?_
            refine lv_sipush (v := 1023) hx hb d_Mo_one_310 (by decide) ?_
            refine lv_iand hx hb d_Mo_one_313 ?_
            refine lv_iconst (v := 1) hx hb d_Mo_one_314 (by decide) ?_
            refine lv_ishl hx hb d_Mo_one_315 ?_
            refine lv_ior hx hb d_Mo_one_316 ?_
            refine lv_bipush (v := 21) hx hb d_Mo_one_317 (by decide) ?_
            refine callPi (va_runS (As := [.int ((((((w.toUInt32 >>> ((31 : Int32).toUInt32 &&& Int32.toUInt32 31)).toInt32) <<< ((20 : Int32) &&& 31)) ||| (((w >>> ((12 : Int32) &&& 31)) &&& (255 : Int32)) <<< ((12 : Int32) &&& 31))) ||| (((w >>> ((20 : Int32) &&& 31)) &&& (1 : Int32)) <<< ((11 : Int32) &&& 31))) ||| (((w >>> ((21 : Int32) &&& 31)) &&& (1023 : Int32)) <<< ((1 : Int32) &&& 31))), .int 21]) (rest := []) ⟨hx, hb, hml, hown, hts⟩ (c_Mo_signed l ((((((w.toUInt32 >>> ((31 : Int32).toUInt32 &&& Int32.toUInt32 31)).toInt32) <<< ((20 : Int32) &&& 31)) ||| (((w >>> ((12 : Int32) &&& 31)) &&& (255 : Int32)) <<< ((12 : Int32) &&& 31))) ||| (((w >>> ((20 : Int32) &&& 31)) &&& (1 : Int32)) <<< ((11 : Int32) &&& 31))) ||| (((w >>> ((21 : Int32) &&& 31)) &&& (1023 : Int32)) <<< ((1 : Int32) &&& 31))) 21 H.size) (va_cwS 2 hts (goodS m_16_10 m_16_11 m_0_12 m_16_12) rfl rfl rfl (by decide +kernel) ⟨Nat.le_of_ble_eq_true rfl, Nat.le_of_ble_eq_true rfl⟩) ⟨preP_blind, preP_ok⟩ rfl rfl hl.1 rfl (lv_room (Nat.le_of_ble_eq_true rfl)) d_Mo_one_319 ⟨Nat.zero_le _, Nat.zero_le _⟩) hP hS hA (fun H locs hP hS => ?_)
            refine lv_istore (lv' := [(10, .int (f_Mo_signed ((((((w.toUInt32 >>> ((31 : Int32).toUInt32 &&& Int32.toUInt32 31)).toInt32) <<< ((20 : Int32) &&& 31)) ||| (((w >>> ((12 : Int32) &&& 31)) &&& (255 : Int32)) <<< ((12 : Int32) &&& 31))) ||| (((w >>> ((20 : Int32) &&& 31)) &&& (1 : Int32)) <<< ((11 : Int32) &&& 31))) ||| (((w >>> ((21 : Int32) &&& 31)) &&& (1023 : Int32)) <<< ((1 : Int32) &&& 31))) 21)), (9, .int ((gI v1 1) + (4 : Int32))), (8, .int im), (7, .int g), (6, .int (nI b)), (5, .int (nI a)), (4, .int (nI f)), (3, .int (nI d)), (2, .int op), (1, .int w), (0, .ref (ad 0))]) hx hb d_Mo_one_322 hl (by decide) rfl (fun ls hl => ?_)
            refine lv_aload_n hx hb d_Mo_one_324 rfl (lv_at hl 10 rfl) ?_
            refine lv_iload_n hx hb d_Mo_one_325 rfl (lv_at hl 7 rfl) ?_
            refine lv_aload_n hx hb d_Mo_one_326 rfl (lv_at hl 10 rfl) ?_
            refine va_get (D := (dC, dI)) (ci := 8) (v := .int (gI v1 1)) (C := R_Mo) (T := F_Mo) (N := 31) hx hb hts in_Mo hown hK hP 0 rfl rfl 7 (by decide) (hts _ m_13_37) (fun _ h9 => h9) rfl d_Mo_one_327 ?_
            refine lv_iconst (v := 4) hx hb d_Mo_one_330 (by decide) ?_
            refine lv_iadd hx hb d_Mo_one_331 ?_
            refine lv_iconst (v := 0) hx hb d_Mo_one_332 (by decide) ?_
            refine callWv (va_runV (As := [.int (nI d), .int ((gI v1 1) + (4 : Int32)), .int 0]) (rest := []) ⟨hx, hb, hml, hown, hts⟩ (c_Mo_give l dC dI cI cZ ad v1 d ((gI v1 1) + (4 : Int32)) 0 (by first | assumption | omega) H.size) (cwV 3 hts (goodV m_16_7 m_16_8 m_19_20 m_0_12 m_16_9) rfl rfl rfl (by decide +kernel) ⟨Nat.le_of_ble_eq_true rfl, Nat.le_of_ble_eq_true rfl⟩) ⟨preW_blind, va_recv hK hP (ci := 8) (q0 := 0) rfl rfl, preW_ok hP hD hK⟩ rfl rfl hl.1 rfl (lv_room (Nat.le_of_ble_eq_true rfl)) d_Mo_one_333 ⟨Nat.zero_le _, Nat.zero_le _⟩) hP hD hS hA (fun H locs hP hD hS => ?_)
            refine lv_iload_n hx hb d_Mo_one_336 rfl (lv_at hl 7 rfl) ?_
            refine lv_iconst (v := nI 1) hx hb d_Mo_one_337 (by decide) ?_
            refine rn_ne (tgt := 345) hx hb (by omega) (by omega) d_Mo_one_338 (by decide) (fun c54 => ?_) (fun c54 => ?_)
            · skip
              refine lv_aload_n hx hb d_Mo_one_345 rfl (lv_at hl 10 rfl) ?_
              refine va_get (D := (dC, dI)) (ci := 8) (v := .int (gI (f_Mo_give d ((gI v1 1) + (4 : Int32)) 0 v1) 1)) (C := R_Mo) (T := F_Mo) (N := 31) hx hb hts in_Mo hown hK hP 0 rfl rfl 7 (by decide) (hts _ m_13_37) (fun _ h9 => h9) rfl d_Mo_one_346 ?_
              refine lv_iload hx hb d_Mo_one_349 (lv_at hl 0 rfl) ?_
              refine lv_iadd hx hb d_Mo_one_351 ?_
              refine lv_istore (lv' := [(9, .int ((gI (f_Mo_give d ((gI v1 1) + (4 : Int32)) 0 v1) 1) + (f_Mo_signed ((((((w.toUInt32 >>> ((31 : Int32).toUInt32 &&& Int32.toUInt32 31)).toInt32) <<< ((20 : Int32) &&& 31)) ||| (((w >>> ((12 : Int32) &&& 31)) &&& (255 : Int32)) <<< ((12 : Int32) &&& 31))) ||| (((w >>> ((20 : Int32) &&& 31)) &&& (1 : Int32)) <<< ((11 : Int32) &&& 31))) ||| (((w >>> ((21 : Int32) &&& 31)) &&& (1023 : Int32)) <<< ((1 : Int32) &&& 31))) 21))), (10, .int (f_Mo_signed ((((((w.toUInt32 >>> ((31 : Int32).toUInt32 &&& Int32.toUInt32 31)).toInt32) <<< ((20 : Int32) &&& 31)) ||| (((w >>> ((12 : Int32) &&& 31)) &&& (255 : Int32)) <<< ((12 : Int32) &&& 31))) ||| (((w >>> ((20 : Int32) &&& 31)) &&& (1 : Int32)) <<< ((11 : Int32) &&& 31))) ||| (((w >>> ((21 : Int32) &&& 31)) &&& (1023 : Int32)) <<< ((1 : Int32) &&& 31))) 21)), (8, .int im), (7, .int g), (6, .int (nI b)), (5, .int (nI a)), (4, .int (nI f)), (3, .int (nI d)), (2, .int op), (1, .int w), (0, .ref (ad 0))]) hx hb d_Mo_one_352 hl (by decide) rfl (fun ls hl => ?_)
              refine lv_goto (tgt := 952) hx hb d_Mo_one_354 (by decide) ?_
              exact J952 ((gI (f_Mo_give d ((gI v1 1) + (4 : Int32)) 0 v1) 1) + (f_Mo_signed ((((((w.toUInt32 >>> ((31 : Int32).toUInt32 &&& Int32.toUInt32 31)).toInt32) <<< ((20 : Int32) &&& 31)) ||| (((w >>> ((12 : Int32) &&& 31)) &&& (255 : Int32)) <<< ((12 : Int32) &&& 31))) ||| (((w >>> ((20 : Int32) &&& 31)) &&& (1 : Int32)) <<< ((11 : Int32) &&& 31))) ||| (((w >>> ((21 : Int32) &&& 31)) &&& (1023 : Int32)) <<< ((1 : Int32) &&& 31))) 21)) (f_Mo_give d ((gI v1 1) + (4 : Int32)) 0 v1) _ _ _ ((by subst ev1; subst ho95; subst eim; subst eg; subst eb; subst ea; subst ef; subst ed; subst eop; subst ew; exact hq.trans ((if_pos c1).trans ((if_neg c2).trans ((if_pos c3).trans ((if_neg c4).trans ((if_neg c6).trans ((if_neg c7).trans ((if_neg c21).trans ((if_neg c22).trans ((if_neg c24).trans ((if_neg c26).trans ((if_neg c27).trans ((if_neg c47).trans ((if_pos c53).trans ((if_neg c54).trans rfl)))))))))))))))) hP hD hS (lv_sub hl [0, 2, 3, 4, 5, 6, 7, 8, 9, 10] rfl)
            · skip
              refine lv_aload_n hx hb d_Mo_one_341 rfl (lv_at hl 10 rfl) ?_
              refine callWv (va_runV (As := []) (rest := []) ⟨hx, hb, hml, hown, hts⟩ (c_Mo_push l dC dI cI cZ ad (f_Mo_give d ((gI v1 1) + (4 : Int32)) 0 v1) (by rw [(gv_fr _ _ _ _).2.1 5 (by decide)]; exact oke1.2) H.size) (cwV 0 hts (goodV m_16_13 m_16_14 m_19_21 m_0_12 m_16_15) rfl rfl rfl (by decide +kernel) ⟨Nat.le_of_ble_eq_true rfl, Nat.le_of_ble_eq_true rfl⟩) ⟨preW_blind, va_recv hK hP (ci := 8) (q0 := 0) rfl rfl, preW_ok hP hD hK⟩ rfl rfl hl.1 rfl (lv_room (Nat.le_of_ble_eq_true rfl)) d_Mo_one_342 ⟨Nat.zero_le _, Nat.zero_le _⟩) hP hD hS hA (fun H locs hP hD hS => ?_)
              refine lv_aload_n hx hb d_Mo_one_345 rfl (lv_at hl 10 rfl) ?_
              refine va_get (D := (dC, dI)) (ci := 8) (v := .int (gI (f_Mo_push (f_Mo_give d ((gI v1 1) + (4 : Int32)) 0 v1)) 1)) (C := R_Mo) (T := F_Mo) (N := 31) hx hb hts in_Mo hown hK hP 0 rfl rfl 7 (by decide) (hts _ m_13_37) (fun _ h9 => h9) rfl d_Mo_one_346 ?_
              refine lv_iload hx hb d_Mo_one_349 (lv_at hl 0 rfl) ?_
              refine lv_iadd hx hb d_Mo_one_351 ?_
              refine lv_istore (lv' := [(9, .int ((gI (f_Mo_push (f_Mo_give d ((gI v1 1) + (4 : Int32)) 0 v1)) 1) + (f_Mo_signed ((((((w.toUInt32 >>> ((31 : Int32).toUInt32 &&& Int32.toUInt32 31)).toInt32) <<< ((20 : Int32) &&& 31)) ||| (((w >>> ((12 : Int32) &&& 31)) &&& (255 : Int32)) <<< ((12 : Int32) &&& 31))) ||| (((w >>> ((20 : Int32) &&& 31)) &&& (1 : Int32)) <<< ((11 : Int32) &&& 31))) ||| (((w >>> ((21 : Int32) &&& 31)) &&& (1023 : Int32)) <<< ((1 : Int32) &&& 31))) 21))), (10, .int (f_Mo_signed ((((((w.toUInt32 >>> ((31 : Int32).toUInt32 &&& Int32.toUInt32 31)).toInt32) <<< ((20 : Int32) &&& 31)) ||| (((w >>> ((12 : Int32) &&& 31)) &&& (255 : Int32)) <<< ((12 : Int32) &&& 31))) ||| (((w >>> ((20 : Int32) &&& 31)) &&& (1 : Int32)) <<< ((11 : Int32) &&& 31))) ||| (((w >>> ((21 : Int32) &&& 31)) &&& (1023 : Int32)) <<< ((1 : Int32) &&& 31))) 21)), (8, .int im), (7, .int g), (6, .int (nI b)), (5, .int (nI a)), (4, .int (nI f)), (3, .int (nI d)), (2, .int op), (1, .int w), (0, .ref (ad 0))]) hx hb d_Mo_one_352 hl (by decide) rfl (fun ls hl => ?_)
              refine lv_goto (tgt := 952) hx hb d_Mo_one_354 (by decide) ?_
              exact J952 ((gI (f_Mo_push (f_Mo_give d ((gI v1 1) + (4 : Int32)) 0 v1)) 1) + (f_Mo_signed ((((((w.toUInt32 >>> ((31 : Int32).toUInt32 &&& Int32.toUInt32 31)).toInt32) <<< ((20 : Int32) &&& 31)) ||| (((w >>> ((12 : Int32) &&& 31)) &&& (255 : Int32)) <<< ((12 : Int32) &&& 31))) ||| (((w >>> ((20 : Int32) &&& 31)) &&& (1 : Int32)) <<< ((11 : Int32) &&& 31))) ||| (((w >>> ((21 : Int32) &&& 31)) &&& (1023 : Int32)) <<< ((1 : Int32) &&& 31))) 21)) (f_Mo_push (f_Mo_give d ((gI v1 1) + (4 : Int32)) 0 v1)) _ _ _ ((by subst ev1; subst ho95; subst eim; subst eg; subst eb; subst ea; subst ef; subst ed; subst eop; subst ew; exact hq.trans ((if_pos c1).trans ((if_neg c2).trans ((if_pos c3).trans ((if_neg c4).trans ((if_neg c6).trans ((if_neg c7).trans ((if_neg c21).trans ((if_neg c22).trans ((if_neg c24).trans ((if_neg c26).trans ((if_neg c27).trans ((if_neg c47).trans ((if_pos c53).trans ((if_pos c54).trans rfl)))))))))))))))) hP hD hS (lv_sub hl [0, 2, 3, 4, 5, 6, 7, 8, 9, 10] rfl)
          by_cases c55 : op = 115
          · skip
            refine lv_lookup (off := 755) (tgt := 901) hx hb d_Mo_one_146 (by decide) (by rw [c55]; decide) (by decide) ?_
            refine lv_iload_n hx hb d_Mo_one_901 rfl (lv_at hl 8 rfl) ?_
            refine lv_bipush (v := 115) hx hb d_Mo_one_902 (by decide) ?_
            refine lv_icmp_ne (tgt := 930) hx hb d_Mo_one_904 (by decide) (fun c56 => ?_) (fun c56 => ?_)
            · skip
              refine lv_aload_n hx hb d_Mo_one_930 rfl (lv_at hl 9 rfl) ?_
              refine lv_iload_n hx hb d_Mo_one_931 rfl (lv_at hl 8 rfl) ?_
              refine lv_ldc (v := 1048691) hx hb hown (hts _ m_18_10) d_Mo_one_932 ?_
              have J942 : ∀ (x57 : Int32) (H : Heap) (locs : List Loc), x57 = (if w = 1048691 then 3 else 1) → va_P (dC, dI) classes (wM cI cZ ad v1) H → va_D A (wM cI cZ ad v1) → va_S A s.heap H locs → W p l e (headSpec w_Mo_one rm_Mo_one).room s m ([.ref (ad 0)] : List Value).toArray below meth c H locs 0 0 (MQ below (QWv (dC, dI) classes [(cI, .int), (cZ, .boolean)] (wM cI cZ ad) A res) ([.ref (ad 0)] : List Value).toArray s 0 0 A) (F0 m 942 ls [.int x57, .ref (ad 0)]) := by
                intro x57 H locs ex57 hP hD hS
                refine callWv (va_runV (As := [.int x57]) (rest := []) ⟨hx, hb, hml, hown, hts⟩ (c_Mo_trap l dC dI cI cZ ad v1 x57 H.size) (cwV 1 hts (goodV m_15_38 m_15_39 m_19_17 m_0_12 m_16_0) rfl rfl rfl (by decide +kernel) ⟨Nat.le_of_ble_eq_true rfl, Nat.le_of_ble_eq_true rfl⟩) ⟨preW_blind, va_recv hK hP (ci := 8) (q0 := 0) rfl rfl, preW_ok hP hD hK⟩ rfl rfl hl.1 rfl (lv_room (Nat.le_of_ble_eq_true rfl)) d_Mo_one_942 ⟨Nat.zero_le _, Nat.zero_le _⟩) hP hD hS hA (fun H locs hP hD hS => ?_)
                have hE : res = f_Mo_trap x57 v1 := (by subst ex57; subst ev1; subst ho95; subst eim; subst eg; subst eb; subst ea; subst ef; subst ed; subst eop; subst ew; exact hq.trans ((if_pos c1).trans ((if_neg c2).trans ((if_pos c3).trans ((if_neg c4).trans ((if_neg c6).trans ((if_neg c7).trans ((if_neg c21).trans ((if_neg c22).trans ((if_neg c24).trans ((if_neg c26).trans ((if_neg c27).trans ((if_neg c47).trans ((if_neg c53).trans ((if_pos c55).trans ((if_neg c56).trans rfl))))))))))))))))
                exact retWv hx hb hr hP hK hD hS hE.symm d_Mo_one_945 hlocks
              refine lv_icmp_ne (tgt := 941) hx hb d_Mo_one_934 (by decide) (fun c58 => ?_) (fun c58 => ?_)
              · skip
                refine lv_iconst (v := 1) hx hb d_Mo_one_941 (by decide) ?_
                exact J942 1 _ _ (Eq.symm ((if_neg c58).trans (rfl))) hP hD hS
              · skip
                refine lv_iconst (v := 3) hx hb d_Mo_one_937 (by decide) ?_
                refine lv_goto (tgt := 942) hx hb d_Mo_one_938 (by decide) ?_
                exact J942 3 _ _ (Eq.symm ((if_pos c58).trans (rfl))) hP hD hS
            · skip
              refine lv_aload_n hx hb d_Mo_one_907 rfl (lv_at hl 9 rfl) ?_
              refine callWv (va_runV (As := []) (rest := []) ⟨hx, hb, hml, hown, hts⟩ (c_Mo_call l dC dI cI cZ ad v1 oke1 okk1 okq1 H.size) (cwV 0 hts (goodV m_17_10 m_17_11 m_19_30 m_0_12 m_17_12) rfl rfl rfl (by decide +kernel) ⟨Nat.le_of_ble_eq_true rfl, Nat.le_of_ble_eq_true rfl⟩) ⟨preW_blind, va_recv hK hP (ci := 8) (q0 := 0) rfl rfl, preW_ok hP hD hK⟩ rfl rfl hl.1 rfl (lv_room (Nat.le_of_ble_eq_true rfl)) d_Mo_one_908 ⟨Nat.zero_le _, Nat.zero_le _⟩) hP hD hS hA (fun H locs hP hD hS => ?_)
              refine lv_aload_n hx hb d_Mo_one_911 rfl (lv_at hl 9 rfl) ?_
              refine va_get (D := (dC, dI)) (ci := 8) (v := .int (gI (f_Mo_call v1) 2)) (C := R_Mo) (T := F_Mo) (N := 31) hx hb hts in_Mo hown hK hP 0 rfl rfl 8 (by decide) (hts _ m_13_38) (fun _ h9 => h9) rfl d_Mo_one_912 ?_
              refine lv_iconst (v := 1) hx hb d_Mo_one_915 (by decide) ?_
              refine lv_icmp_ne (tgt := 952) hx hb d_Mo_one_916 (by decide) (fun c59 => ?_) (fun c59 => ?_)
              · skip
                exact J952 ((gI v1 1) + (4 : Int32)) (f_Mo_call v1) _ _ _ ((by subst ev1; subst ho95; subst eim; subst eg; subst eb; subst ea; subst ef; subst ed; subst eop; subst ew; exact hq.trans ((if_pos c1).trans ((if_neg c2).trans ((if_pos c3).trans ((if_neg c4).trans ((if_neg c6).trans ((if_neg c7).trans ((if_neg c21).trans ((if_neg c22).trans ((if_neg c24).trans ((if_neg c26).trans ((if_neg c27).trans ((if_neg c47).trans ((if_neg c53).trans ((if_pos c55).trans ((if_pos c56).trans ((if_neg c59).trans rfl)))))))))))))))))) hP hD hS (lv_sub hl [0, 1, 2, 3, 4, 5, 6, 7, 8, 9] rfl)
              · skip
                refine lv_aload_n hx hb d_Mo_one_919 rfl (lv_at hl 9 rfl) ?_
                refine lv_dup hx hb d_Mo_one_920 rfl ?_
                refine va_get (D := (dC, dI)) (ci := 8) (v := .int (gI (f_Mo_call v1) 4)) (C := R_Mo) (T := F_Mo) (N := 31) hx hb hts in_Mo hown hK hP 0 rfl rfl 10 (by decide) (hts _ m_14_0) (fun _ h9 => h9) rfl d_Mo_one_921 ?_
                refine lv_iconst (v := 1) hx hb d_Mo_one_924 (by decide) ?_
                refine lv_iadd hx hb d_Mo_one_925 ?_
                refine va_put (D := (dC, dI)) (ci := 8) (v := .int ((gI (f_Mo_call v1) 4) + (1 : Int32))) (ty := .int) (C := R_Mo) (T := F_Mo) (N := 31) hx hb hts in_Mo t_Mo t_Mo_ok n_Mo hown hK hP hD hS 0 rfl rfl 10 (by decide) (hts _ m_14_0) (fun _ h9 => h9) rfl (by decide +kernel) rfl rfl (Nat.le_of_ble_eq_true rfl) d_Mo_one_926 (fun H locs hP hD hS => ?_)
                have hP : va_P (dC, dI) classes (wM cI cZ ad (sI (f_Mo_call v1) 4 ((gI (f_Mo_call v1) 4) + (1 : Int32)))) H := hP
                have hD : va_D A (wM cI cZ ad (sI (f_Mo_call v1) 4 ((gI (f_Mo_call v1) 4) + (1 : Int32)))) := hD
                have hE : res = sI (f_Mo_call v1) 4 ((gI (f_Mo_call v1) 4) + (1 : Int32)) := (by subst ev1; subst ho95; subst eim; subst eg; subst eb; subst ea; subst ef; subst ed; subst eop; subst ew; exact hq.trans ((if_pos c1).trans ((if_neg c2).trans ((if_pos c3).trans ((if_neg c4).trans ((if_neg c6).trans ((if_neg c7).trans ((if_neg c21).trans ((if_neg c22).trans ((if_neg c24).trans ((if_neg c26).trans ((if_neg c27).trans ((if_neg c47).trans ((if_neg c53).trans ((if_pos c55).trans ((if_pos c56).trans ((if_pos c59).trans rfl)))))))))))))))))
                exact retWv hx hb hr hP hK hD hS hE.symm d_Mo_one_929 hlocks
          refine lv_lookup (off := 800) (tgt := 946) hx hb d_Mo_one_146 (by decide) (by rw [lv_osw c4 (by decide), lv_osw c6 (by decide), lv_osw c7 (by decide), lv_osw c21 (by decide), lv_osw c22 (by decide), lv_osw c24 (by decide), lv_osw c26 (by decide), lv_osw c27 (by decide), lv_osw c47 (by decide), lv_osw c53 (by decide), lv_osw c55 (by decide)]; rfl) (by decide) ?_
          refine lv_aload_n hx hb d_Mo_one_946 rfl (lv_at hl 9 rfl) ?_
          refine lv_iconst (v := 1) hx hb d_Mo_one_947 (by decide) ?_
          refine callWv (va_runV (As := [.int 1]) (rest := []) ⟨hx, hb, hml, hown, hts⟩ (c_Mo_trap l dC dI cI cZ ad v1 1 H.size) (cwV 1 hts (goodV m_15_38 m_15_39 m_19_17 m_0_12 m_16_0) rfl rfl rfl (by decide +kernel) ⟨Nat.le_of_ble_eq_true rfl, Nat.le_of_ble_eq_true rfl⟩) ⟨preW_blind, va_recv hK hP (ci := 8) (q0 := 0) rfl rfl, preW_ok hP hD hK⟩ rfl rfl hl.1 rfl (lv_room (Nat.le_of_ble_eq_true rfl)) d_Mo_one_948 ⟨Nat.zero_le _, Nat.zero_le _⟩) hP hD hS hA (fun H locs hP hD hS => ?_)
          have hE : res = f_Mo_trap 1 v1 := (by subst ev1; subst ho95; subst eim; subst eg; subst eb; subst ea; subst ef; subst ed; subst eop; subst ew; exact hq.trans ((if_pos c1).trans ((if_neg c2).trans ((if_pos c3).trans ((if_neg c4).trans ((if_neg c6).trans ((if_neg c7).trans ((if_neg c21).trans ((if_neg c22).trans ((if_neg c24).trans ((if_neg c26).trans ((if_neg c27).trans ((if_neg c47).trans ((if_neg c53).trans ((if_neg c55).trans rfl)))))))))))))))
          exact retWv hx hb hr hP hK hD hS hE.symm d_Mo_one_951 hlocks
        have L95 : ∀ (k : Nat) (i : Nat) (H : Heap) (locs : List Loc) (ls : Array Slot), (i ≤ 4) → (4 - i) < k → o95 = f_Mo_one_95 u w op d f a b g im k i → va_P (dC, dI) classes (wM cI cZ ad u) H → va_D A (wM cI cZ ad u) → va_S A s.heap H locs → lv_has ls 16 [(9, .int (nI i)), (8, .int im), (7, .int g), (6, .int (nI b)), (5, .int (nI a)), (4, .int (nI f)), (3, .int (nI d)), (2, .int op), (1, .int w), (0, .ref (ad 0))] → W p l e (headSpec w_Mo_one rm_Mo_one).room s m ([.ref (ad 0)] : List Value).toArray below meth c H locs 0 0 (MQ below (QWv (dC, dI) classes [(cI, .int), (cZ, .boolean)] (wM cI cZ ad) A res) ([.ref (ad 0)] : List Value).toArray s 0 0 A) (F0 m 95 ls []) := by
          intro k
          induction k with
          | zero => intro i H locs ls hi hm; exact absurd hm (Nat.not_lt_zero _)
          | succ k95 ih95 =>
            intro i H locs ls hi hm hq95 hP hD hS hl
            refine lv_iload hx hb d_Mo_one_95 (lv_at hl 0 rfl) ?_
            refine lv_iconst (v := nI 4) hx hb d_Mo_one_97 (by decide) ?_
            refine rn_ge (tgt := 137) hx hb (by omega) (by omega) d_Mo_one_98 (by decide) (fun c60 => ?_) (fun c60 => ?_)
            · skip
              exact K95 u _ _ _ (Eq.symm (hq95.trans ((if_neg (Nat.not_lt.mpr c60)).trans rfl))) (by first | assumption | exact ft_ok _ _ ok) (by first | assumption | exact OkK.fm okk (ft_fr _ _ _) (by decide)) (by first | assumption | exact OkQ.fm okq (ft_fr _ _ _) (by decide)) hP hD hS (lv_sub hl [1, 2, 3, 4, 5, 6, 7, 8, 9] rfl)
            · skip
              refine lv_aload_n hx hb d_Mo_one_101 rfl (lv_at hl 9 rfl) ?_
              refine va_get (D := (dC, dI)) (ci := 8) (v := .ref (ad 4)) (C := R_Mo) (T := F_Mo) (N := 31) hx hb hts in_Mo hown hK hP 0 rfl rfl 4 (by decide) (hts _ m_13_34) (fun _ h9 => h9) rfl d_Mo_one_102 ?_
              refine lv_aload_n hx hb d_Mo_one_105 rfl (lv_at hl 9 rfl) ?_
              refine va_get (D := (dC, dI)) (ci := 8) (v := .int (gI u 1)) (C := R_Mo) (T := F_Mo) (N := 31) hx hb hts in_Mo hown hK hP 0 rfl rfl 7 (by decide) (hts _ m_13_37) (fun _ h9 => h9) rfl d_Mo_one_106 ?_
              refine rw_top (y := nI ((gI u 1).toNatClampNeg)) (hp_n c2) ?_
              refine lv_iload hx hb d_Mo_one_109 (lv_at hl 0 rfl) ?_
              refine lv_iadd hx hb d_Mo_one_111 ?_
              refine rw_top (y := nI ((gI u 1).toNatClampNeg + i)) (nI_add ((gI u 1).toNatClampNeg) i) ?_
              refine aldM_open (u := u) (v := aB u 0 ((gI u 1).toNatClampNeg + i)) hx hb hK hP (by omega) rfl d_Mo_one_112 ?_
              refine rb_ne (tgt := 131) hx hb d_Mo_one_113 (by decide) (fun c61 => ?_) (fun c61 => ?_)
              · skip
                refine lv_iinc (v := nI (i + 1)) (lv' := [(9, .int (nI (i + 1))), (8, .int im), (7, .int g), (6, .int (nI b)), (5, .int (nI a)), (4, .int (nI f)), (3, .int (nI d)), (2, .int op), (1, .int w), (0, .ref (ad 0))]) hx hb d_Mo_one_131 hl (k := 0) rfl (rn_inc i 1 (by decide)) (by decide) rfl (fun ls hl => ?_)
                refine lv_goto (tgt := 95) hx hb d_Mo_one_134 (by decide) ?_
                exact ih95 (i + 1) _ _ _ (by first | assumption | omega) (by omega) (hq95.trans ((if_pos c60).trans ((if_pos c61).trans rfl))) hP hD hS (lv_sub hl [0, 1, 2, 3, 4, 5, 6, 7, 8, 9] rfl)
              · skip
                refine lv_aload_n hx hb d_Mo_one_116 rfl (lv_at hl 9 rfl) ?_
                refine lv_iconst (v := 1) hx hb d_Mo_one_117 (by decide) ?_
                refine lv_aload_n hx hb d_Mo_one_118 rfl (lv_at hl 9 rfl) ?_
                refine va_get (D := (dC, dI)) (ci := 8) (v := .int (gI u 1)) (C := R_Mo) (T := F_Mo) (N := 31) hx hb hts in_Mo hown hK hP 0 rfl rfl 7 (by decide) (hts _ m_13_37) (fun _ h9 => h9) rfl d_Mo_one_119 ?_
                refine rw_top (y := nI ((gI u 1).toNatClampNeg)) (hp_n c2) ?_
                refine lv_iload hx hb d_Mo_one_122 (lv_at hl 0 rfl) ?_
                refine lv_iadd hx hb d_Mo_one_124 ?_
                refine rw_top (y := nI ((gI u 1).toNatClampNeg + i)) (nI_add ((gI u 1).toNatClampNeg) i) ?_
                refine callWv (va_runV (As := [.int 1, .int (nI ((gI u 1).toNatClampNeg + i))]) (rest := []) ⟨hx, hb, hml, hown, hts⟩ (c_Mo_fault l dC dI cI cZ ad u 1 (nI ((gI u 1).toNatClampNeg + i)) (by first | assumption | omega) H.size) (cwV 2 hts (goodV m_16_4 m_16_5 m_19_19 m_0_12 m_16_6) rfl rfl rfl (by decide +kernel) ⟨Nat.le_of_ble_eq_true rfl, Nat.le_of_ble_eq_true rfl⟩) ⟨preW_blind, va_recv hK hP (ci := 8) (q0 := 0) rfl rfl, preW_ok hP hD hK⟩ rfl rfl hl.1 rfl (lv_room (Nat.le_of_ble_eq_true rfl)) d_Mo_one_125 ⟨Nat.zero_le _, Nat.zero_le _⟩) hP hD hS hA (fun H locs hP hD hS => ?_)
                refine lv_goto (tgt := 137) hx hb d_Mo_one_128 (by decide) ?_
                exact K95 (f_Mo_fault 1 (nI ((gI u 1).toNatClampNeg + i)) u) _ _ _ (Eq.symm (hq95.trans ((if_pos c60).trans ((if_neg c61).trans rfl)))) (by first | assumption | exact ft_ok _ _ ok) (by first | assumption | exact OkK.fm okk (ft_fr _ _ _) (by decide)) (by first | assumption | exact OkQ.fm okq (ft_fr _ _ _) (by decide)) hP hD hS (lv_sub hl [1, 2, 3, 4, 5, 6, 7, 8, 9] rfl)
        exact L95 5 0 _ _ _ (by first | assumption | omega) (by omega) (ho95) hP hD hS (lv_sub hl [0, 1, 2, 3, 4, 5, 6, 7, 8, 9] rfl)
      · skip
        refine lv_aload_n hx hb d_Mo_one_25 rfl (lv_at hl 0 rfl) ?_
        refine lv_iconst (v := 0) hx hb d_Mo_one_26 (by decide) ?_
        refine callWv (va_runV (As := [.int 0]) (rest := []) ⟨hx, hb, hml, hown, hts⟩ (c_Mo_trap l dC dI cI cZ ad u 0 s.heap.size) (cwV 1 hts (goodV m_15_38 m_15_39 m_19_17 m_0_12 m_16_0) rfl rfl rfl (by decide +kernel) ⟨Nat.le_of_ble_eq_true rfl, Nat.le_of_ble_eq_true rfl⟩) ⟨preW_blind, va_recv hK hP (ci := 8) (q0 := 0) rfl rfl, preW_ok hP hD hK⟩ rfl rfl hl.1 rfl (lv_room (Nat.le_of_ble_eq_true rfl)) d_Mo_one_27 ⟨Nat.zero_le _, Nat.zero_le _⟩) hP hD hS hA (fun H locs hP hD hS => ?_)
        have hE : res = f_Mo_trap 0 u := hq.trans ((if_pos c1).trans ((if_neg c2).trans ((if_neg c3).trans rfl)))
        exact retWv hx hb hr hP hK hD hS hE.symm d_Mo_one_30 hlocks
