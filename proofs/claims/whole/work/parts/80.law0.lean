/-! The law: its own words -/
def zb (x : Int32) : Int32 := if x = 0 then 0 else 1
def zl (x : Int32) : Int64 := if x = 0 then 0 else 1
theorem cmp_self (x : Int64) : lg_cmp x x = 0 := by
  unfold lg_cmp
  rw [if_neg (by exact Int64.lt_irrefl), if_pos rfl]
theorem updL_at (f : Nat → Int64) (k : Nat) (x : Int64) : vp_updL f k x k = x := by unfold vp_updL; rw [if_pos rfl]
section LawRows
variable {p : Program} {l : Launch} {e : Env} {R : Room} {s : State} {m : MethodId} {args : Array Value} {below : List Frame} {meth : Method} {c : Code} {H : Heap} {locs : List Loc} {cells slots : Nat} {Q : State → Prop} {cc : ByteArray} {pc : Nat} {ls : Array Slot} {rest : List Value}
/-- x != 0, as a number -/
theorem lw_zb (hx : p.tables.exec = Jvm.exec) (hb : c.code = cc) {x : Int32} (d1 : decode cc pc = .ok (.ifCond .eq 7, 3)) (d2 : decode cc (pc + 3) = .ok (.iconst 1, 1)) (d3 : decode cc (pc + 4) = .ok (.goto 4, 3)) (d4 : decode cc (pc + 7) = .ok (.iconst 0, 1))
    (k : W p l e R s m args below meth c H locs cells slots Q (F0 m (pc + 8) ls (.int (zb x) :: rest))) : W p l e R s m args below meth c H locs cells slots Q (F0 m pc ls (.int x :: rest)) := by
  refine lv_if_eq (tgt := pc + 7) hx hb d1 (by omega) (fun h => ?_) (fun h => ?_)
  · exact lv_iconst (v := zb x) hx hb d4 (by rw [zb, if_pos h]; decide) k
  · refine lv_iconst (v := zb x) hx hb d2 (by rw [zb, if_neg h]; decide) ?_
    exact lv_goto (tgt := pc + 8) hx hb d3 (by omega) k
theorem lw_zl (hx : p.tables.exec = Jvm.exec) (hb : c.code = cc) {x : Int32} (d1 : decode cc pc = .ok (.ifCond .eq 7, 3)) (d2 : decode cc (pc + 3) = .ok (.lconst 1, 1)) (d3 : decode cc (pc + 4) = .ok (.goto 4, 3)) (d4 : decode cc (pc + 7) = .ok (.lconst 0, 1))
    (k : W p l e R s m args below meth c H locs cells slots Q (F0 m (pc + 8) ls (.long (zl x) :: rest))) : W p l e R s m args below meth c H locs cells slots Q (F0 m pc ls (.int x :: rest)) := by
  refine lv_if_eq (tgt := pc + 7) hx hb d1 (by omega) (fun h => ?_) (fun h => ?_)
  · exact lv_lconst (v := zl x) hx hb d4 (by rw [zl, if_pos h]; decide) k
  · refine lv_lconst (v := zl x) hx hb d2 (by rw [zl, if_neg h]; decide) ?_
    exact lv_goto (tgt := pc + 8) hx hb d3 (by omega) k
end LawRows
/-- what holds at every row of the law's body -/
def lcx (p : Program) (c : Code) (m : MethodId) (s : State) (args : Array Value) (R : Room) (D : va_G) (tys : List (ClassId × FieldType)) (A : Nat → Prop) (b L : Nat) (xs : Nat → Int32) (i : Int32) (j : Nat) : Prop :=
  p.tables.exec = Jvm.exec ∧ c.code = code ∧ c.maxLocals = 7 ∧ s.vm.findClass R_Law = some m.cls ∧ (∀ w ∈ tb, w.before args s = true) ∧ va_K D vwCl tys s ∧ (∀ q : Nat, s.heap.size ≤ q → A q) ∧ (∀ q : Nat, A q → s.heap.size ≤ q) ∧ 12 ≤ R.frames ∧ 438 ≤ R.locals ∧ kN s ∧ kT s ∧ kX s ∧ va_X b L xs s s.heap ∧ b < s.heap.size ∧ (∀ k : Int32, 0 ≤ k → k < 5 → vp_in (i + k) L) ∧ j ≤ 20000 ∧ 200000 ≤ R.cells ∧ 400000 ≤ R.slots

theorem d_law_0 : decode code 0 = .ok (.new 8, 3) := by decide +kernel
theorem d_law_3 : decode code 3 = .ok (.dup, 1) := by decide +kernel
theorem d_law_4 : decode code 4 = .ok (.aload_n 0, 1) := by decide +kernel
theorem d_law_5 : decode code 5 = .ok (.iconst 0, 1) := by decide +kernel
theorem d_law_6 : decode code 6 = .ok (.invokestatic 64, 3) := by decide +kernel
theorem d_law_9 : decode code 9 = .ok (.invokespecial 70, 3) := by decide +kernel
theorem d_law_12 : decode code 12 = .ok (.astore_n 1, 1) := by decide +kernel
theorem d_law_13 : decode code 13 = .ok (.new 73, 3) := by decide +kernel
theorem d_law_16 : decode code 16 = .ok (.dup, 1) := by decide +kernel
theorem d_law_17 : decode code 17 = .ok (.aload_n 0, 1) := by decide +kernel
theorem d_law_18 : decode code 18 = .ok (.iconst 0, 1) := by decide +kernel
theorem d_law_19 : decode code 19 = .ok (.invokestatic 64, 3) := by decide +kernel
theorem d_law_22 : decode code 22 = .ok (.invokespecial 75, 3) := by decide +kernel
theorem d_law_25 : decode code 25 = .ok (.astore_n 2, 1) := by decide +kernel
theorem d_law_26 : decode code 26 = .ok (.iconst 1, 1) := by decide +kernel
theorem d_law_27 : decode code 27 = .ok (.newarray .long, 2) := by decide +kernel
theorem d_law_29 : decode code 29 = .ok (.astore_n 3, 1) := by decide +kernel
theorem d_law_30 : decode code 30 = .ok (.iconst 1, 1) := by decide +kernel
theorem d_law_31 : decode code 31 = .ok (.istore 4, 2) := by decide +kernel
theorem d_law_33 : decode code 33 = .ok (.iload 4, 2) := by decide +kernel
theorem d_law_35 : decode code 35 = .ok (.aload_n 0, 1) := by decide +kernel
theorem d_law_36 : decode code 36 = .ok (.arraylength, 1) := by decide +kernel
theorem d_law_37 : decode code 37 = .ok (.iconst 5, 1) := by decide +kernel
theorem d_law_38 : decode code 38 = .ok (.isub, 1) := by decide +kernel
theorem d_law_39 : decode code 39 = .ok (.if_icmp .gt 1098, 3) := by decide +kernel
theorem d_law_42 : decode code 42 = .ok (.aload_n 0, 1) := by decide +kernel
theorem d_law_43 : decode code 43 = .ok (.iload 4, 2) := by decide +kernel
theorem d_law_45 : decode code 45 = .ok (.iaload, 1) := by decide +kernel
theorem d_law_46 : decode code 46 = .ok (.bipush 31, 2) := by decide +kernel
theorem d_law_48 : decode code 48 = .ok (.iand, 1) := by decide +kernel
theorem d_law_49 : decode code 49 = .ok (.tableswitch 1082 0 16 #[83, 151, 266, 346, 433, 525, 616, 629, 685, 741, 785, 798, 866, 934, 990, 1046, 1071], 83) := by decide +kernel
theorem d_law_132 : decode code 132 = .ok (.aload_n 1, 1) := by decide +kernel
theorem d_law_133 : decode code 133 = .ok (.aload_n 0, 1) := by decide +kernel
theorem d_law_134 : decode code 134 = .ok (.iload 4, 2) := by decide +kernel
theorem d_law_136 : decode code 136 = .ok (.iconst 1, 1) := by decide +kernel
theorem d_law_137 : decode code 137 = .ok (.iadd, 1) := by decide +kernel
theorem d_law_138 : decode code 138 = .ok (.iaload, 1) := by decide +kernel
theorem d_law_139 : decode code 139 = .ok (.aload_n 0, 1) := by decide +kernel
theorem d_law_140 : decode code 140 = .ok (.iload 4, 2) := by decide +kernel
theorem d_law_142 : decode code 142 = .ok (.iconst 2, 1) := by decide +kernel
theorem d_law_143 : decode code 143 = .ok (.iadd, 1) := by decide +kernel
theorem d_law_144 : decode code 144 = .ok (.iaload, 1) := by decide +kernel
theorem d_law_145 : decode code 145 = .ok (.aload_n 3, 1) := by decide +kernel
theorem d_law_146 : decode code 146 = .ok (.invokestatic 76, 3) := by decide +kernel
theorem d_law_149 : decode code 149 = .ok (.istore 5, 2) := by decide +kernel
theorem d_law_151 : decode code 151 = .ok (.aload_n 2, 1) := by decide +kernel
theorem d_law_152 : decode code 152 = .ok (.aload_n 0, 1) := by decide +kernel
theorem d_law_153 : decode code 153 = .ok (.iload 4, 2) := by decide +kernel
theorem d_law_155 : decode code 155 = .ok (.iconst 1, 1) := by decide +kernel
theorem d_law_156 : decode code 156 = .ok (.iadd, 1) := by decide +kernel
theorem d_law_157 : decode code 157 = .ok (.iaload, 1) := by decide +kernel
theorem d_law_158 : decode code 158 = .ok (.aload_n 0, 1) := by decide +kernel
theorem d_law_159 : decode code 159 = .ok (.iload 4, 2) := by decide +kernel
theorem d_law_161 : decode code 161 = .ok (.iconst 2, 1) := by decide +kernel
theorem d_law_162 : decode code 162 = .ok (.iadd, 1) := by decide +kernel
theorem d_law_163 : decode code 163 = .ok (.iaload, 1) := by decide +kernel
theorem d_law_164 : decode code 164 = .ok (.invokevirtual 79, 3) := by decide +kernel
theorem d_law_167 : decode code 167 = .ok (.istore 6, 2) := by decide +kernel
theorem d_law_169 : decode code 169 = .ok (.aload_n 2, 1) := by decide +kernel
theorem d_law_170 : decode code 170 = .ok (.invokevirtual 80, 3) := by decide +kernel
theorem d_law_173 : decode code 173 = .ok (.iload 5, 2) := by decide +kernel
theorem d_law_175 : decode code 175 = .ok (.if_icmp .eq 5, 3) := by decide +kernel
theorem d_law_178 : decode code 178 = .ok (.iconst 0, 1) := by decide +kernel
theorem d_law_179 : decode code 179 = .ok (.ireturn, 1) := by decide +kernel
theorem d_law_180 : decode code 180 = .ok (.iload 5, 2) := by decide +kernel
theorem d_law_182 : decode code 182 = .ok (.ifCond .ne 15, 3) := by decide +kernel
theorem d_law_185 : decode code 185 = .ok (.aload_n 3, 1) := by decide +kernel
theorem d_law_186 : decode code 186 = .ok (.iconst 0, 1) := by decide +kernel
theorem d_law_187 : decode code 187 = .ok (.laload, 1) := by decide +kernel
theorem d_law_188 : decode code 188 = .ok (.iload 6, 2) := by decide +kernel
theorem d_law_190 : decode code 190 = .ok (.i2l, 1) := by decide +kernel
theorem d_law_191 : decode code 191 = .ok (.lcmp, 1) := by decide +kernel
theorem d_law_192 : decode code 192 = .ok (.ifCond .eq 5, 3) := by decide +kernel
theorem d_law_195 : decode code 195 = .ok (.iconst 0, 1) := by decide +kernel
theorem d_law_196 : decode code 196 = .ok (.ireturn, 1) := by decide +kernel
theorem d_law_197 : decode code 197 = .ok (.goto 934, 3) := by decide +kernel
theorem d_law_200 : decode code 200 = .ok (.aload_n 1, 1) := by decide +kernel
theorem d_law_201 : decode code 201 = .ok (.aload_n 0, 1) := by decide +kernel
theorem d_law_202 : decode code 202 = .ok (.iload 4, 2) := by decide +kernel
theorem d_law_204 : decode code 204 = .ok (.iconst 1, 1) := by decide +kernel
theorem d_law_205 : decode code 205 = .ok (.iadd, 1) := by decide +kernel
theorem d_law_206 : decode code 206 = .ok (.iaload, 1) := by decide +kernel
theorem d_law_207 : decode code 207 = .ok (.aload_n 0, 1) := by decide +kernel
theorem d_law_208 : decode code 208 = .ok (.iload 4, 2) := by decide +kernel
theorem d_law_210 : decode code 210 = .ok (.iconst 2, 1) := by decide +kernel
theorem d_law_211 : decode code 211 = .ok (.iadd, 1) := by decide +kernel
theorem d_law_212 : decode code 212 = .ok (.iaload, 1) := by decide +kernel
theorem d_law_213 : decode code 213 = .ok (.aload_n 0, 1) := by decide +kernel
theorem d_law_214 : decode code 214 = .ok (.iload 4, 2) := by decide +kernel
theorem d_law_216 : decode code 216 = .ok (.iconst 3, 1) := by decide +kernel
theorem d_law_217 : decode code 217 = .ok (.iadd, 1) := by decide +kernel
theorem d_law_218 : decode code 218 = .ok (.iaload, 1) := by decide +kernel
theorem d_law_219 : decode code 219 = .ok (.aload_n 0, 1) := by decide +kernel
theorem d_law_220 : decode code 220 = .ok (.iload 4, 2) := by decide +kernel
theorem d_law_222 : decode code 222 = .ok (.iconst 4, 1) := by decide +kernel
theorem d_law_223 : decode code 223 = .ok (.iadd, 1) := by decide +kernel
theorem d_law_224 : decode code 224 = .ok (.iaload, 1) := by decide +kernel
theorem d_law_225 : decode code 225 = .ok (.ifCond .eq 7, 3) := by decide +kernel
theorem d_law_228 : decode code 228 = .ok (.iconst 1, 1) := by decide +kernel
theorem d_law_229 : decode code 229 = .ok (.goto 4, 3) := by decide +kernel
theorem d_law_232 : decode code 232 = .ok (.iconst 0, 1) := by decide +kernel
theorem d_law_233 : decode code 233 = .ok (.aload_n 3, 1) := by decide +kernel
theorem d_law_234 : decode code 234 = .ok (.invokestatic 83, 3) := by decide +kernel
theorem d_law_237 : decode code 237 = .ok (.istore 5, 2) := by decide +kernel
theorem d_law_239 : decode code 239 = .ok (.aload_n 2, 1) := by decide +kernel
theorem d_law_240 : decode code 240 = .ok (.aload_n 0, 1) := by decide +kernel
theorem d_law_241 : decode code 241 = .ok (.iload 4, 2) := by decide +kernel
theorem d_law_243 : decode code 243 = .ok (.iconst 1, 1) := by decide +kernel
theorem d_law_244 : decode code 244 = .ok (.iadd, 1) := by decide +kernel
theorem d_law_245 : decode code 245 = .ok (.iaload, 1) := by decide +kernel
theorem d_law_246 : decode code 246 = .ok (.aload_n 0, 1) := by decide +kernel
theorem d_law_247 : decode code 247 = .ok (.iload 4, 2) := by decide +kernel
theorem d_law_249 : decode code 249 = .ok (.iconst 2, 1) := by decide +kernel
theorem d_law_250 : decode code 250 = .ok (.iadd, 1) := by decide +kernel
theorem d_law_251 : decode code 251 = .ok (.iaload, 1) := by decide +kernel
theorem d_law_252 : decode code 252 = .ok (.aload_n 0, 1) := by decide +kernel
theorem d_law_253 : decode code 253 = .ok (.iload 4, 2) := by decide +kernel
theorem d_law_255 : decode code 255 = .ok (.iconst 3, 1) := by decide +kernel
theorem d_law_256 : decode code 256 = .ok (.iadd, 1) := by decide +kernel
theorem d_law_257 : decode code 257 = .ok (.iaload, 1) := by decide +kernel
theorem d_law_258 : decode code 258 = .ok (.aload_n 0, 1) := by decide +kernel
theorem d_law_259 : decode code 259 = .ok (.iload 4, 2) := by decide +kernel
theorem d_law_261 : decode code 261 = .ok (.iconst 4, 1) := by decide +kernel
theorem d_law_262 : decode code 262 = .ok (.iadd, 1) := by decide +kernel
theorem d_law_263 : decode code 263 = .ok (.iaload, 1) := by decide +kernel
theorem d_law_264 : decode code 264 = .ok (.ifCond .eq 7, 3) := by decide +kernel
theorem d_law_267 : decode code 267 = .ok (.iconst 1, 1) := by decide +kernel
theorem d_law_268 : decode code 268 = .ok (.goto 4, 3) := by decide +kernel
theorem d_law_271 : decode code 271 = .ok (.iconst 0, 1) := by decide +kernel
theorem d_law_272 : decode code 272 = .ok (.invokevirtual 86, 3) := by decide +kernel
theorem d_law_275 : decode code 275 = .ok (.istore 6, 2) := by decide +kernel
theorem d_law_277 : decode code 277 = .ok (.aload_n 2, 1) := by decide +kernel
theorem d_law_278 : decode code 278 = .ok (.invokevirtual 80, 3) := by decide +kernel
theorem d_law_281 : decode code 281 = .ok (.iload 5, 2) := by decide +kernel
theorem d_law_283 : decode code 283 = .ok (.if_icmp .eq 5, 3) := by decide +kernel
theorem d_law_286 : decode code 286 = .ok (.iconst 0, 1) := by decide +kernel
theorem d_law_287 : decode code 287 = .ok (.ireturn, 1) := by decide +kernel
theorem d_law_288 : decode code 288 = .ok (.iload 5, 2) := by decide +kernel
theorem d_law_290 : decode code 290 = .ok (.ifCond .ne 22, 3) := by decide +kernel
theorem d_law_293 : decode code 293 = .ok (.aload_n 3, 1) := by decide +kernel
theorem d_law_294 : decode code 294 = .ok (.iconst 0, 1) := by decide +kernel
theorem d_law_295 : decode code 295 = .ok (.laload, 1) := by decide +kernel
theorem d_law_296 : decode code 296 = .ok (.iload 6, 2) := by decide +kernel
theorem d_law_298 : decode code 298 = .ok (.ifCond .eq 7, 3) := by decide +kernel
theorem d_law_301 : decode code 301 = .ok (.lconst 1, 1) := by decide +kernel
theorem d_law_302 : decode code 302 = .ok (.goto 4, 3) := by decide +kernel
theorem d_law_305 : decode code 305 = .ok (.lconst 0, 1) := by decide +kernel
theorem d_law_306 : decode code 306 = .ok (.lcmp, 1) := by decide +kernel
theorem d_law_307 : decode code 307 = .ok (.ifCond .eq 5, 3) := by decide +kernel
theorem d_law_310 : decode code 310 = .ok (.iconst 0, 1) := by decide +kernel
theorem d_law_311 : decode code 311 = .ok (.ireturn, 1) := by decide +kernel
theorem d_law_312 : decode code 312 = .ok (.goto 819, 3) := by decide +kernel
theorem d_law_315 : decode code 315 = .ok (.aload_n 1, 1) := by decide +kernel
theorem d_law_316 : decode code 316 = .ok (.aload_n 0, 1) := by decide +kernel
theorem d_law_317 : decode code 317 = .ok (.iload 4, 2) := by decide +kernel
theorem d_law_319 : decode code 319 = .ok (.iconst 1, 1) := by decide +kernel
theorem d_law_320 : decode code 320 = .ok (.iadd, 1) := by decide +kernel
theorem d_law_321 : decode code 321 = .ok (.iaload, 1) := by decide +kernel
theorem d_law_322 : decode code 322 = .ok (.aload_n 0, 1) := by decide +kernel
theorem d_law_323 : decode code 323 = .ok (.iload 4, 2) := by decide +kernel
theorem d_law_325 : decode code 325 = .ok (.iconst 2, 1) := by decide +kernel
theorem d_law_326 : decode code 326 = .ok (.iadd, 1) := by decide +kernel
theorem d_law_327 : decode code 327 = .ok (.iaload, 1) := by decide +kernel
theorem d_law_328 : decode code 328 = .ok (.aload_n 0, 1) := by decide +kernel
theorem d_law_329 : decode code 329 = .ok (.iload 4, 2) := by decide +kernel
theorem d_law_331 : decode code 331 = .ok (.iconst 3, 1) := by decide +kernel
theorem d_law_332 : decode code 332 = .ok (.iadd, 1) := by decide +kernel
theorem d_law_333 : decode code 333 = .ok (.iaload, 1) := by decide +kernel
theorem d_law_334 : decode code 334 = .ok (.aload_n 3, 1) := by decide +kernel
theorem d_law_335 : decode code 335 = .ok (.invokestatic 87, 3) := by decide +kernel
theorem d_law_338 : decode code 338 = .ok (.istore 5, 2) := by decide +kernel
theorem d_law_340 : decode code 340 = .ok (.aload_n 2, 1) := by decide +kernel
theorem d_law_341 : decode code 341 = .ok (.aload_n 0, 1) := by decide +kernel
theorem d_law_342 : decode code 342 = .ok (.iload 4, 2) := by decide +kernel
theorem d_law_344 : decode code 344 = .ok (.iconst 1, 1) := by decide +kernel
theorem d_law_345 : decode code 345 = .ok (.iadd, 1) := by decide +kernel
theorem d_law_346 : decode code 346 = .ok (.iaload, 1) := by decide +kernel
theorem d_law_347 : decode code 347 = .ok (.aload_n 0, 1) := by decide +kernel
theorem d_law_348 : decode code 348 = .ok (.iload 4, 2) := by decide +kernel
theorem d_law_350 : decode code 350 = .ok (.iconst 2, 1) := by decide +kernel
theorem d_law_351 : decode code 351 = .ok (.iadd, 1) := by decide +kernel
theorem d_law_352 : decode code 352 = .ok (.iaload, 1) := by decide +kernel
theorem d_law_353 : decode code 353 = .ok (.aload_n 0, 1) := by decide +kernel
theorem d_law_354 : decode code 354 = .ok (.iload 4, 2) := by decide +kernel
theorem d_law_356 : decode code 356 = .ok (.iconst 3, 1) := by decide +kernel
theorem d_law_357 : decode code 357 = .ok (.iadd, 1) := by decide +kernel
theorem d_law_358 : decode code 358 = .ok (.iaload, 1) := by decide +kernel
theorem d_law_359 : decode code 359 = .ok (.invokevirtual 90, 3) := by decide +kernel
theorem d_law_362 : decode code 362 = .ok (.istore 6, 2) := by decide +kernel
theorem d_law_364 : decode code 364 = .ok (.aload_n 2, 1) := by decide +kernel
theorem d_law_365 : decode code 365 = .ok (.invokevirtual 80, 3) := by decide +kernel
theorem d_law_368 : decode code 368 = .ok (.iload 5, 2) := by decide +kernel
theorem d_law_370 : decode code 370 = .ok (.if_icmp .eq 5, 3) := by decide +kernel
theorem d_law_373 : decode code 373 = .ok (.iconst 0, 1) := by decide +kernel
theorem d_law_374 : decode code 374 = .ok (.ireturn, 1) := by decide +kernel
theorem d_law_375 : decode code 375 = .ok (.iload 5, 2) := by decide +kernel
theorem d_law_377 : decode code 377 = .ok (.ifCond .ne 15, 3) := by decide +kernel
theorem d_law_380 : decode code 380 = .ok (.aload_n 3, 1) := by decide +kernel
theorem d_law_381 : decode code 381 = .ok (.iconst 0, 1) := by decide +kernel
theorem d_law_382 : decode code 382 = .ok (.laload, 1) := by decide +kernel
theorem d_law_383 : decode code 383 = .ok (.iload 6, 2) := by decide +kernel
theorem d_law_385 : decode code 385 = .ok (.i2l, 1) := by decide +kernel
theorem d_law_386 : decode code 386 = .ok (.lcmp, 1) := by decide +kernel
theorem d_law_387 : decode code 387 = .ok (.ifCond .eq 5, 3) := by decide +kernel
theorem d_law_390 : decode code 390 = .ok (.iconst 0, 1) := by decide +kernel
theorem d_law_391 : decode code 391 = .ok (.ireturn, 1) := by decide +kernel
theorem d_law_392 : decode code 392 = .ok (.goto 739, 3) := by decide +kernel
theorem d_law_395 : decode code 395 = .ok (.aload_n 1, 1) := by decide +kernel
theorem d_law_396 : decode code 396 = .ok (.aload_n 0, 1) := by decide +kernel
theorem d_law_397 : decode code 397 = .ok (.iload 4, 2) := by decide +kernel
theorem d_law_399 : decode code 399 = .ok (.iconst 1, 1) := by decide +kernel
theorem d_law_400 : decode code 400 = .ok (.iadd, 1) := by decide +kernel
theorem d_law_401 : decode code 401 = .ok (.iaload, 1) := by decide +kernel
theorem d_law_402 : decode code 402 = .ok (.aload_n 0, 1) := by decide +kernel
theorem d_law_403 : decode code 403 = .ok (.iload 4, 2) := by decide +kernel
theorem d_law_405 : decode code 405 = .ok (.iconst 2, 1) := by decide +kernel
theorem d_law_406 : decode code 406 = .ok (.iadd, 1) := by decide +kernel
theorem d_law_407 : decode code 407 = .ok (.iaload, 1) := by decide +kernel
theorem d_law_408 : decode code 408 = .ok (.aload_n 0, 1) := by decide +kernel
theorem d_law_409 : decode code 409 = .ok (.iload 4, 2) := by decide +kernel
theorem d_law_411 : decode code 411 = .ok (.iconst 3, 1) := by decide +kernel
theorem d_law_412 : decode code 412 = .ok (.iadd, 1) := by decide +kernel
theorem d_law_413 : decode code 413 = .ok (.iaload, 1) := by decide +kernel
theorem d_law_414 : decode code 414 = .ok (.aload_n 3, 1) := by decide +kernel
theorem d_law_415 : decode code 415 = .ok (.invokestatic 91, 3) := by decide +kernel
theorem d_law_418 : decode code 418 = .ok (.istore 5, 2) := by decide +kernel
theorem d_law_420 : decode code 420 = .ok (.aload_n 2, 1) := by decide +kernel
theorem d_law_421 : decode code 421 = .ok (.aload_n 0, 1) := by decide +kernel
theorem d_law_422 : decode code 422 = .ok (.iload 4, 2) := by decide +kernel
theorem d_law_424 : decode code 424 = .ok (.iconst 1, 1) := by decide +kernel
theorem d_law_425 : decode code 425 = .ok (.iadd, 1) := by decide +kernel
theorem d_law_426 : decode code 426 = .ok (.iaload, 1) := by decide +kernel
theorem d_law_427 : decode code 427 = .ok (.aload_n 0, 1) := by decide +kernel
theorem d_law_428 : decode code 428 = .ok (.iload 4, 2) := by decide +kernel
theorem d_law_430 : decode code 430 = .ok (.iconst 2, 1) := by decide +kernel
theorem d_law_431 : decode code 431 = .ok (.iadd, 1) := by decide +kernel
theorem d_law_432 : decode code 432 = .ok (.iaload, 1) := by decide +kernel
theorem d_law_433 : decode code 433 = .ok (.aload_n 0, 1) := by decide +kernel
theorem d_law_434 : decode code 434 = .ok (.iload 4, 2) := by decide +kernel
theorem d_law_436 : decode code 436 = .ok (.iconst 3, 1) := by decide +kernel
theorem d_law_437 : decode code 437 = .ok (.iadd, 1) := by decide +kernel
theorem d_law_438 : decode code 438 = .ok (.iaload, 1) := by decide +kernel
theorem d_law_439 : decode code 439 = .ok (.invokevirtual 93, 3) := by decide +kernel
theorem d_law_442 : decode code 442 = .ok (.istore 6, 2) := by decide +kernel
theorem d_law_444 : decode code 444 = .ok (.aload_n 2, 1) := by decide +kernel
theorem d_law_445 : decode code 445 = .ok (.invokevirtual 80, 3) := by decide +kernel
theorem d_law_448 : decode code 448 = .ok (.iload 5, 2) := by decide +kernel
theorem d_law_450 : decode code 450 = .ok (.if_icmp .eq 5, 3) := by decide +kernel
theorem d_law_453 : decode code 453 = .ok (.iconst 0, 1) := by decide +kernel
theorem d_law_454 : decode code 454 = .ok (.ireturn, 1) := by decide +kernel
theorem d_law_455 : decode code 455 = .ok (.iload 5, 2) := by decide +kernel
theorem d_law_457 : decode code 457 = .ok (.ifCond .ne 22, 3) := by decide +kernel
theorem d_law_460 : decode code 460 = .ok (.aload_n 3, 1) := by decide +kernel
theorem d_law_461 : decode code 461 = .ok (.iconst 0, 1) := by decide +kernel
theorem d_law_462 : decode code 462 = .ok (.laload, 1) := by decide +kernel
theorem d_law_463 : decode code 463 = .ok (.iload 6, 2) := by decide +kernel
theorem d_law_465 : decode code 465 = .ok (.ifCond .eq 7, 3) := by decide +kernel
theorem d_law_468 : decode code 468 = .ok (.lconst 1, 1) := by decide +kernel
theorem d_law_469 : decode code 469 = .ok (.goto 4, 3) := by decide +kernel
theorem d_law_472 : decode code 472 = .ok (.lconst 0, 1) := by decide +kernel
theorem d_law_473 : decode code 473 = .ok (.lcmp, 1) := by decide +kernel
theorem d_law_474 : decode code 474 = .ok (.ifCond .eq 5, 3) := by decide +kernel
theorem d_law_477 : decode code 477 = .ok (.iconst 0, 1) := by decide +kernel
theorem d_law_478 : decode code 478 = .ok (.ireturn, 1) := by decide +kernel
theorem d_law_479 : decode code 479 = .ok (.goto 652, 3) := by decide +kernel
theorem d_law_482 : decode code 482 = .ok (.aload_n 1, 1) := by decide +kernel
theorem d_law_483 : decode code 483 = .ok (.aload_n 0, 1) := by decide +kernel
theorem d_law_484 : decode code 484 = .ok (.iload 4, 2) := by decide +kernel
theorem d_law_486 : decode code 486 = .ok (.iconst 1, 1) := by decide +kernel
theorem d_law_487 : decode code 487 = .ok (.iadd, 1) := by decide +kernel
theorem d_law_488 : decode code 488 = .ok (.iaload, 1) := by decide +kernel
theorem d_law_489 : decode code 489 = .ok (.aload_n 0, 1) := by decide +kernel
theorem d_law_490 : decode code 490 = .ok (.iload 4, 2) := by decide +kernel
theorem d_law_492 : decode code 492 = .ok (.iconst 2, 1) := by decide +kernel
theorem d_law_493 : decode code 493 = .ok (.iadd, 1) := by decide +kernel
theorem d_law_494 : decode code 494 = .ok (.iaload, 1) := by decide +kernel
theorem d_law_495 : decode code 495 = .ok (.aload_n 0, 1) := by decide +kernel
theorem d_law_496 : decode code 496 = .ok (.iload 4, 2) := by decide +kernel
theorem d_law_498 : decode code 498 = .ok (.iconst 3, 1) := by decide +kernel
theorem d_law_499 : decode code 499 = .ok (.iadd, 1) := by decide +kernel
theorem d_law_500 : decode code 500 = .ok (.iaload, 1) := by decide +kernel
theorem d_law_501 : decode code 501 = .ok (.aload_n 0, 1) := by decide +kernel
theorem d_law_502 : decode code 502 = .ok (.iload 4, 2) := by decide +kernel
theorem d_law_504 : decode code 504 = .ok (.iconst 4, 1) := by decide +kernel
theorem d_law_505 : decode code 505 = .ok (.iadd, 1) := by decide +kernel
theorem d_law_506 : decode code 506 = .ok (.iaload, 1) := by decide +kernel
theorem d_law_507 : decode code 507 = .ok (.aload_n 3, 1) := by decide +kernel
theorem d_law_508 : decode code 508 = .ok (.invokestatic 94, 3) := by decide +kernel
theorem d_law_511 : decode code 511 = .ok (.istore 5, 2) := by decide +kernel
theorem d_law_513 : decode code 513 = .ok (.aload_n 2, 1) := by decide +kernel
theorem d_law_514 : decode code 514 = .ok (.aload_n 0, 1) := by decide +kernel
theorem d_law_515 : decode code 515 = .ok (.iload 4, 2) := by decide +kernel
theorem d_law_517 : decode code 517 = .ok (.iconst 1, 1) := by decide +kernel
theorem d_law_518 : decode code 518 = .ok (.iadd, 1) := by decide +kernel
theorem d_law_519 : decode code 519 = .ok (.iaload, 1) := by decide +kernel
theorem d_law_520 : decode code 520 = .ok (.aload_n 0, 1) := by decide +kernel
theorem d_law_521 : decode code 521 = .ok (.iload 4, 2) := by decide +kernel
theorem d_law_523 : decode code 523 = .ok (.iconst 2, 1) := by decide +kernel
theorem d_law_524 : decode code 524 = .ok (.iadd, 1) := by decide +kernel
theorem d_law_525 : decode code 525 = .ok (.iaload, 1) := by decide +kernel
theorem d_law_526 : decode code 526 = .ok (.aload_n 0, 1) := by decide +kernel
theorem d_law_527 : decode code 527 = .ok (.iload 4, 2) := by decide +kernel
theorem d_law_529 : decode code 529 = .ok (.iconst 3, 1) := by decide +kernel
theorem d_law_530 : decode code 530 = .ok (.iadd, 1) := by decide +kernel
theorem d_law_531 : decode code 531 = .ok (.iaload, 1) := by decide +kernel
theorem d_law_532 : decode code 532 = .ok (.aload_n 0, 1) := by decide +kernel
theorem d_law_533 : decode code 533 = .ok (.iload 4, 2) := by decide +kernel
theorem d_law_535 : decode code 535 = .ok (.iconst 4, 1) := by decide +kernel
theorem d_law_536 : decode code 536 = .ok (.iadd, 1) := by decide +kernel
theorem d_law_537 : decode code 537 = .ok (.iaload, 1) := by decide +kernel
theorem d_law_538 : decode code 538 = .ok (.invokevirtual 97, 3) := by decide +kernel
theorem d_law_541 : decode code 541 = .ok (.istore 6, 2) := by decide +kernel
theorem d_law_543 : decode code 543 = .ok (.aload_n 2, 1) := by decide +kernel
theorem d_law_544 : decode code 544 = .ok (.invokevirtual 80, 3) := by decide +kernel
theorem d_law_547 : decode code 547 = .ok (.iload 5, 2) := by decide +kernel
theorem d_law_549 : decode code 549 = .ok (.if_icmp .eq 5, 3) := by decide +kernel
theorem d_law_552 : decode code 552 = .ok (.iconst 0, 1) := by decide +kernel
theorem d_law_553 : decode code 553 = .ok (.ireturn, 1) := by decide +kernel
theorem d_law_554 : decode code 554 = .ok (.iload 5, 2) := by decide +kernel
theorem d_law_556 : decode code 556 = .ok (.ifCond .ne 15, 3) := by decide +kernel
theorem d_law_559 : decode code 559 = .ok (.aload_n 3, 1) := by decide +kernel
theorem d_law_560 : decode code 560 = .ok (.iconst 0, 1) := by decide +kernel
theorem d_law_561 : decode code 561 = .ok (.laload, 1) := by decide +kernel
theorem d_law_562 : decode code 562 = .ok (.iload 6, 2) := by decide +kernel
theorem d_law_564 : decode code 564 = .ok (.i2l, 1) := by decide +kernel
theorem d_law_565 : decode code 565 = .ok (.lcmp, 1) := by decide +kernel
theorem d_law_566 : decode code 566 = .ok (.ifCond .eq 5, 3) := by decide +kernel
theorem d_law_569 : decode code 569 = .ok (.iconst 0, 1) := by decide +kernel
theorem d_law_570 : decode code 570 = .ok (.ireturn, 1) := by decide +kernel
theorem d_law_571 : decode code 571 = .ok (.goto 560, 3) := by decide +kernel
theorem d_law_574 : decode code 574 = .ok (.aload_n 1, 1) := by decide +kernel
theorem d_law_575 : decode code 575 = .ok (.aload_n 0, 1) := by decide +kernel
theorem d_law_576 : decode code 576 = .ok (.iload 4, 2) := by decide +kernel
theorem d_law_578 : decode code 578 = .ok (.iconst 1, 1) := by decide +kernel
theorem d_law_579 : decode code 579 = .ok (.iadd, 1) := by decide +kernel
theorem d_law_580 : decode code 580 = .ok (.iaload, 1) := by decide +kernel
theorem d_law_581 : decode code 581 = .ok (.aload_n 0, 1) := by decide +kernel
theorem d_law_582 : decode code 582 = .ok (.iload 4, 2) := by decide +kernel
theorem d_law_584 : decode code 584 = .ok (.iconst 2, 1) := by decide +kernel
theorem d_law_585 : decode code 585 = .ok (.iadd, 1) := by decide +kernel
theorem d_law_586 : decode code 586 = .ok (.iaload, 1) := by decide +kernel
theorem d_law_587 : decode code 587 = .ok (.ifCond .eq 7, 3) := by decide +kernel
theorem d_law_590 : decode code 590 = .ok (.iconst 1, 1) := by decide +kernel
theorem d_law_591 : decode code 591 = .ok (.goto 4, 3) := by decide +kernel
theorem d_law_594 : decode code 594 = .ok (.iconst 0, 1) := by decide +kernel
theorem d_law_595 : decode code 595 = .ok (.aload_n 3, 1) := by decide +kernel
theorem d_law_596 : decode code 596 = .ok (.invokestatic 98, 3) := by decide +kernel
theorem d_law_599 : decode code 599 = .ok (.istore 5, 2) := by decide +kernel
theorem d_law_601 : decode code 601 = .ok (.aload_n 2, 1) := by decide +kernel
theorem d_law_602 : decode code 602 = .ok (.aload_n 0, 1) := by decide +kernel
theorem d_law_603 : decode code 603 = .ok (.iload 4, 2) := by decide +kernel
theorem d_law_605 : decode code 605 = .ok (.iconst 1, 1) := by decide +kernel
theorem d_law_606 : decode code 606 = .ok (.iadd, 1) := by decide +kernel
theorem d_law_607 : decode code 607 = .ok (.iaload, 1) := by decide +kernel
theorem d_law_608 : decode code 608 = .ok (.aload_n 0, 1) := by decide +kernel
theorem d_law_609 : decode code 609 = .ok (.iload 4, 2) := by decide +kernel
theorem d_law_611 : decode code 611 = .ok (.iconst 2, 1) := by decide +kernel
theorem d_law_612 : decode code 612 = .ok (.iadd, 1) := by decide +kernel
theorem d_law_613 : decode code 613 = .ok (.iaload, 1) := by decide +kernel
theorem d_law_614 : decode code 614 = .ok (.ifCond .eq 7, 3) := by decide +kernel
theorem d_law_617 : decode code 617 = .ok (.iconst 1, 1) := by decide +kernel
theorem d_law_618 : decode code 618 = .ok (.goto 4, 3) := by decide +kernel
theorem d_law_621 : decode code 621 = .ok (.iconst 0, 1) := by decide +kernel
theorem d_law_622 : decode code 622 = .ok (.invokevirtual 101, 3) := by decide +kernel
theorem d_law_625 : decode code 625 = .ok (.istore 6, 2) := by decide +kernel
theorem d_law_627 : decode code 627 = .ok (.aload_n 2, 1) := by decide +kernel
theorem d_law_628 : decode code 628 = .ok (.invokevirtual 80, 3) := by decide +kernel
theorem d_law_631 : decode code 631 = .ok (.iload 5, 2) := by decide +kernel
theorem d_law_633 : decode code 633 = .ok (.if_icmp .eq 5, 3) := by decide +kernel
theorem d_law_636 : decode code 636 = .ok (.iconst 0, 1) := by decide +kernel
theorem d_law_637 : decode code 637 = .ok (.ireturn, 1) := by decide +kernel
theorem d_law_638 : decode code 638 = .ok (.iload 5, 2) := by decide +kernel
theorem d_law_640 : decode code 640 = .ok (.ifCond .ne 22, 3) := by decide +kernel
theorem d_law_643 : decode code 643 = .ok (.aload_n 3, 1) := by decide +kernel
theorem d_law_644 : decode code 644 = .ok (.iconst 0, 1) := by decide +kernel
theorem d_law_645 : decode code 645 = .ok (.laload, 1) := by decide +kernel
theorem d_law_646 : decode code 646 = .ok (.iload 6, 2) := by decide +kernel
theorem d_law_648 : decode code 648 = .ok (.ifCond .eq 7, 3) := by decide +kernel
theorem d_law_651 : decode code 651 = .ok (.lconst 1, 1) := by decide +kernel
theorem d_law_652 : decode code 652 = .ok (.goto 4, 3) := by decide +kernel
theorem d_law_655 : decode code 655 = .ok (.lconst 0, 1) := by decide +kernel
theorem d_law_656 : decode code 656 = .ok (.lcmp, 1) := by decide +kernel
theorem d_law_657 : decode code 657 = .ok (.ifCond .eq 5, 3) := by decide +kernel
theorem d_law_660 : decode code 660 = .ok (.iconst 0, 1) := by decide +kernel
theorem d_law_661 : decode code 661 = .ok (.ireturn, 1) := by decide +kernel
theorem d_law_662 : decode code 662 = .ok (.goto 469, 3) := by decide +kernel
theorem d_law_665 : decode code 665 = .ok (.aload_n 1, 1) := by decide +kernel
theorem d_law_666 : decode code 666 = .ok (.invokevirtual 102, 3) := by decide +kernel
theorem d_law_669 : decode code 669 = .ok (.aload_n 2, 1) := by decide +kernel
theorem d_law_670 : decode code 670 = .ok (.invokevirtual 105, 3) := by decide +kernel
theorem d_law_673 : decode code 673 = .ok (.if_icmp .eq 458, 3) := by decide +kernel
theorem d_law_676 : decode code 676 = .ok (.iconst 0, 1) := by decide +kernel
theorem d_law_677 : decode code 677 = .ok (.ireturn, 1) := by decide +kernel
theorem d_law_678 : decode code 678 = .ok (.aload_n 1, 1) := by decide +kernel
theorem d_law_679 : decode code 679 = .ok (.aload_n 0, 1) := by decide +kernel
theorem d_law_680 : decode code 680 = .ok (.iload 4, 2) := by decide +kernel
theorem d_law_682 : decode code 682 = .ok (.iconst 1, 1) := by decide +kernel
theorem d_law_683 : decode code 683 = .ok (.iadd, 1) := by decide +kernel
theorem d_law_684 : decode code 684 = .ok (.iaload, 1) := by decide +kernel
theorem d_law_685 : decode code 685 = .ok (.aload_n 3, 1) := by decide +kernel
theorem d_law_686 : decode code 686 = .ok (.invokestatic 106, 3) := by decide +kernel
theorem d_law_689 : decode code 689 = .ok (.istore 5, 2) := by decide +kernel
theorem d_law_691 : decode code 691 = .ok (.aload_n 2, 1) := by decide +kernel
theorem d_law_692 : decode code 692 = .ok (.aload_n 0, 1) := by decide +kernel
theorem d_law_693 : decode code 693 = .ok (.iload 4, 2) := by decide +kernel
theorem d_law_695 : decode code 695 = .ok (.iconst 1, 1) := by decide +kernel
theorem d_law_696 : decode code 696 = .ok (.iadd, 1) := by decide +kernel
theorem d_law_697 : decode code 697 = .ok (.iaload, 1) := by decide +kernel
theorem d_law_698 : decode code 698 = .ok (.invokevirtual 109, 3) := by decide +kernel
theorem d_law_701 : decode code 701 = .ok (.istore 6, 2) := by decide +kernel
theorem d_law_703 : decode code 703 = .ok (.aload_n 2, 1) := by decide +kernel
theorem d_law_704 : decode code 704 = .ok (.invokevirtual 80, 3) := by decide +kernel
theorem d_law_707 : decode code 707 = .ok (.iload 5, 2) := by decide +kernel
theorem d_law_709 : decode code 709 = .ok (.if_icmp .eq 5, 3) := by decide +kernel
theorem d_law_712 : decode code 712 = .ok (.iconst 0, 1) := by decide +kernel
theorem d_law_713 : decode code 713 = .ok (.ireturn, 1) := by decide +kernel
theorem d_law_714 : decode code 714 = .ok (.iload 5, 2) := by decide +kernel
theorem d_law_716 : decode code 716 = .ok (.ifCond .ne 15, 3) := by decide +kernel
theorem d_law_719 : decode code 719 = .ok (.aload_n 3, 1) := by decide +kernel
theorem d_law_720 : decode code 720 = .ok (.iconst 0, 1) := by decide +kernel
theorem d_law_721 : decode code 721 = .ok (.laload, 1) := by decide +kernel
theorem d_law_722 : decode code 722 = .ok (.iload 6, 2) := by decide +kernel
theorem d_law_724 : decode code 724 = .ok (.i2l, 1) := by decide +kernel
theorem d_law_725 : decode code 725 = .ok (.lcmp, 1) := by decide +kernel
theorem d_law_726 : decode code 726 = .ok (.ifCond .eq 5, 3) := by decide +kernel
theorem d_law_729 : decode code 729 = .ok (.iconst 0, 1) := by decide +kernel
theorem d_law_730 : decode code 730 = .ok (.ireturn, 1) := by decide +kernel
theorem d_law_731 : decode code 731 = .ok (.goto 400, 3) := by decide +kernel
theorem d_law_734 : decode code 734 = .ok (.aload_n 1, 1) := by decide +kernel
theorem d_law_735 : decode code 735 = .ok (.aload_n 0, 1) := by decide +kernel
theorem d_law_736 : decode code 736 = .ok (.iload 4, 2) := by decide +kernel
theorem d_law_738 : decode code 738 = .ok (.iconst 1, 1) := by decide +kernel
theorem d_law_739 : decode code 739 = .ok (.iadd, 1) := by decide +kernel
theorem d_law_740 : decode code 740 = .ok (.iaload, 1) := by decide +kernel
theorem d_law_741 : decode code 741 = .ok (.aload_n 3, 1) := by decide +kernel
theorem d_law_742 : decode code 742 = .ok (.invokestatic 110, 3) := by decide +kernel
theorem d_law_745 : decode code 745 = .ok (.istore 5, 2) := by decide +kernel
theorem d_law_747 : decode code 747 = .ok (.aload_n 2, 1) := by decide +kernel
theorem d_law_748 : decode code 748 = .ok (.aload_n 0, 1) := by decide +kernel
theorem d_law_749 : decode code 749 = .ok (.iload 4, 2) := by decide +kernel
theorem d_law_751 : decode code 751 = .ok (.iconst 1, 1) := by decide +kernel
theorem d_law_752 : decode code 752 = .ok (.iadd, 1) := by decide +kernel
theorem d_law_753 : decode code 753 = .ok (.iaload, 1) := by decide +kernel
theorem d_law_754 : decode code 754 = .ok (.invokevirtual 112, 3) := by decide +kernel
theorem d_law_757 : decode code 757 = .ok (.istore 6, 2) := by decide +kernel
theorem d_law_759 : decode code 759 = .ok (.aload_n 2, 1) := by decide +kernel
theorem d_law_760 : decode code 760 = .ok (.invokevirtual 80, 3) := by decide +kernel
theorem d_law_763 : decode code 763 = .ok (.iload 5, 2) := by decide +kernel
theorem d_law_765 : decode code 765 = .ok (.if_icmp .eq 5, 3) := by decide +kernel
theorem d_law_768 : decode code 768 = .ok (.iconst 0, 1) := by decide +kernel
theorem d_law_769 : decode code 769 = .ok (.ireturn, 1) := by decide +kernel
theorem d_law_770 : decode code 770 = .ok (.iload 5, 2) := by decide +kernel
theorem d_law_772 : decode code 772 = .ok (.ifCond .ne 15, 3) := by decide +kernel
theorem d_law_775 : decode code 775 = .ok (.aload_n 3, 1) := by decide +kernel
theorem d_law_776 : decode code 776 = .ok (.iconst 0, 1) := by decide +kernel
theorem d_law_777 : decode code 777 = .ok (.laload, 1) := by decide +kernel
theorem d_law_778 : decode code 778 = .ok (.iload 6, 2) := by decide +kernel
theorem d_law_780 : decode code 780 = .ok (.i2l, 1) := by decide +kernel
theorem d_law_781 : decode code 781 = .ok (.lcmp, 1) := by decide +kernel
theorem d_law_782 : decode code 782 = .ok (.ifCond .eq 5, 3) := by decide +kernel
theorem d_law_785 : decode code 785 = .ok (.iconst 0, 1) := by decide +kernel
theorem d_law_786 : decode code 786 = .ok (.ireturn, 1) := by decide +kernel
theorem d_law_787 : decode code 787 = .ok (.goto 344, 3) := by decide +kernel
theorem d_law_790 : decode code 790 = .ok (.aload_n 1, 1) := by decide +kernel
theorem d_law_791 : decode code 791 = .ok (.aload_n 3, 1) := by decide +kernel
theorem d_law_792 : decode code 792 = .ok (.invokestatic 113, 3) := by decide +kernel
theorem d_law_795 : decode code 795 = .ok (.istore 5, 2) := by decide +kernel
theorem d_law_797 : decode code 797 = .ok (.aload_n 2, 1) := by decide +kernel
theorem d_law_798 : decode code 798 = .ok (.invokevirtual 116, 3) := by decide +kernel
theorem d_law_801 : decode code 801 = .ok (.istore 6, 2) := by decide +kernel
theorem d_law_803 : decode code 803 = .ok (.aload_n 2, 1) := by decide +kernel
theorem d_law_804 : decode code 804 = .ok (.invokevirtual 80, 3) := by decide +kernel
theorem d_law_807 : decode code 807 = .ok (.iload 5, 2) := by decide +kernel
theorem d_law_809 : decode code 809 = .ok (.if_icmp .eq 5, 3) := by decide +kernel
theorem d_law_812 : decode code 812 = .ok (.iconst 0, 1) := by decide +kernel
theorem d_law_813 : decode code 813 = .ok (.ireturn, 1) := by decide +kernel
theorem d_law_814 : decode code 814 = .ok (.iload 5, 2) := by decide +kernel
theorem d_law_816 : decode code 816 = .ok (.ifCond .ne 15, 3) := by decide +kernel
theorem d_law_819 : decode code 819 = .ok (.aload_n 3, 1) := by decide +kernel
theorem d_law_820 : decode code 820 = .ok (.iconst 0, 1) := by decide +kernel
theorem d_law_821 : decode code 821 = .ok (.laload, 1) := by decide +kernel
theorem d_law_822 : decode code 822 = .ok (.iload 6, 2) := by decide +kernel
theorem d_law_824 : decode code 824 = .ok (.i2l, 1) := by decide +kernel
theorem d_law_825 : decode code 825 = .ok (.lcmp, 1) := by decide +kernel
theorem d_law_826 : decode code 826 = .ok (.ifCond .eq 5, 3) := by decide +kernel
theorem d_law_829 : decode code 829 = .ok (.iconst 0, 1) := by decide +kernel
theorem d_law_830 : decode code 830 = .ok (.ireturn, 1) := by decide +kernel
theorem d_law_831 : decode code 831 = .ok (.goto 300, 3) := by decide +kernel
theorem d_law_834 : decode code 834 = .ok (.aload_n 1, 1) := by decide +kernel
theorem d_law_835 : decode code 835 = .ok (.invokevirtual 117, 3) := by decide +kernel
theorem d_law_838 : decode code 838 = .ok (.aload_n 2, 1) := by decide +kernel
theorem d_law_839 : decode code 839 = .ok (.invokevirtual 120, 3) := by decide +kernel
theorem d_law_842 : decode code 842 = .ok (.if_icmp .eq 289, 3) := by decide +kernel
theorem d_law_845 : decode code 845 = .ok (.iconst 0, 1) := by decide +kernel
theorem d_law_846 : decode code 846 = .ok (.ireturn, 1) := by decide +kernel
theorem d_law_847 : decode code 847 = .ok (.aload_n 1, 1) := by decide +kernel
theorem d_law_848 : decode code 848 = .ok (.aload_n 0, 1) := by decide +kernel
theorem d_law_849 : decode code 849 = .ok (.iload 4, 2) := by decide +kernel
theorem d_law_851 : decode code 851 = .ok (.iconst 1, 1) := by decide +kernel
theorem d_law_852 : decode code 852 = .ok (.iadd, 1) := by decide +kernel
theorem d_law_853 : decode code 853 = .ok (.iaload, 1) := by decide +kernel
theorem d_law_854 : decode code 854 = .ok (.aload_n 0, 1) := by decide +kernel
theorem d_law_855 : decode code 855 = .ok (.iload 4, 2) := by decide +kernel
theorem d_law_857 : decode code 857 = .ok (.iconst 2, 1) := by decide +kernel
theorem d_law_858 : decode code 858 = .ok (.iadd, 1) := by decide +kernel
theorem d_law_859 : decode code 859 = .ok (.iaload, 1) := by decide +kernel
theorem d_law_860 : decode code 860 = .ok (.aload_n 3, 1) := by decide +kernel
theorem d_law_861 : decode code 861 = .ok (.invokestatic 121, 3) := by decide +kernel
theorem d_law_864 : decode code 864 = .ok (.istore 5, 2) := by decide +kernel
theorem d_law_866 : decode code 866 = .ok (.aload_n 2, 1) := by decide +kernel
theorem d_law_867 : decode code 867 = .ok (.aload_n 0, 1) := by decide +kernel
theorem d_law_868 : decode code 868 = .ok (.iload 4, 2) := by decide +kernel
theorem d_law_870 : decode code 870 = .ok (.iconst 1, 1) := by decide +kernel
theorem d_law_871 : decode code 871 = .ok (.iadd, 1) := by decide +kernel
theorem d_law_872 : decode code 872 = .ok (.iaload, 1) := by decide +kernel
theorem d_law_873 : decode code 873 = .ok (.aload_n 0, 1) := by decide +kernel
theorem d_law_874 : decode code 874 = .ok (.iload 4, 2) := by decide +kernel
theorem d_law_876 : decode code 876 = .ok (.iconst 2, 1) := by decide +kernel
theorem d_law_877 : decode code 877 = .ok (.iadd, 1) := by decide +kernel
theorem d_law_878 : decode code 878 = .ok (.iaload, 1) := by decide +kernel
theorem d_law_879 : decode code 879 = .ok (.invokevirtual 123, 3) := by decide +kernel
theorem d_law_882 : decode code 882 = .ok (.istore 6, 2) := by decide +kernel
theorem d_law_884 : decode code 884 = .ok (.aload_n 2, 1) := by decide +kernel
theorem d_law_885 : decode code 885 = .ok (.invokevirtual 80, 3) := by decide +kernel
theorem d_law_888 : decode code 888 = .ok (.iload 5, 2) := by decide +kernel
theorem d_law_890 : decode code 890 = .ok (.if_icmp .eq 5, 3) := by decide +kernel
theorem d_law_893 : decode code 893 = .ok (.iconst 0, 1) := by decide +kernel
theorem d_law_894 : decode code 894 = .ok (.ireturn, 1) := by decide +kernel
theorem d_law_895 : decode code 895 = .ok (.iload 5, 2) := by decide +kernel
theorem d_law_897 : decode code 897 = .ok (.ifCond .ne 15, 3) := by decide +kernel
theorem d_law_900 : decode code 900 = .ok (.aload_n 3, 1) := by decide +kernel
theorem d_law_901 : decode code 901 = .ok (.iconst 0, 1) := by decide +kernel
theorem d_law_902 : decode code 902 = .ok (.laload, 1) := by decide +kernel
theorem d_law_903 : decode code 903 = .ok (.iload 6, 2) := by decide +kernel
theorem d_law_905 : decode code 905 = .ok (.i2l, 1) := by decide +kernel
theorem d_law_906 : decode code 906 = .ok (.lcmp, 1) := by decide +kernel
theorem d_law_907 : decode code 907 = .ok (.ifCond .eq 5, 3) := by decide +kernel
theorem d_law_910 : decode code 910 = .ok (.iconst 0, 1) := by decide +kernel
theorem d_law_911 : decode code 911 = .ok (.ireturn, 1) := by decide +kernel
theorem d_law_912 : decode code 912 = .ok (.goto 219, 3) := by decide +kernel
theorem d_law_915 : decode code 915 = .ok (.aload_n 1, 1) := by decide +kernel
theorem d_law_916 : decode code 916 = .ok (.aload_n 0, 1) := by decide +kernel
theorem d_law_917 : decode code 917 = .ok (.iload 4, 2) := by decide +kernel
theorem d_law_919 : decode code 919 = .ok (.iconst 1, 1) := by decide +kernel
theorem d_law_920 : decode code 920 = .ok (.iadd, 1) := by decide +kernel
theorem d_law_921 : decode code 921 = .ok (.iaload, 1) := by decide +kernel
theorem d_law_922 : decode code 922 = .ok (.aload_n 0, 1) := by decide +kernel
theorem d_law_923 : decode code 923 = .ok (.iload 4, 2) := by decide +kernel
theorem d_law_925 : decode code 925 = .ok (.iconst 2, 1) := by decide +kernel
theorem d_law_926 : decode code 926 = .ok (.iadd, 1) := by decide +kernel
theorem d_law_927 : decode code 927 = .ok (.iaload, 1) := by decide +kernel
theorem d_law_928 : decode code 928 = .ok (.aload_n 3, 1) := by decide +kernel
theorem d_law_929 : decode code 929 = .ok (.invokestatic 124, 3) := by decide +kernel
theorem d_law_932 : decode code 932 = .ok (.istore 5, 2) := by decide +kernel
theorem d_law_934 : decode code 934 = .ok (.aload_n 2, 1) := by decide +kernel
theorem d_law_935 : decode code 935 = .ok (.aload_n 0, 1) := by decide +kernel
theorem d_law_936 : decode code 936 = .ok (.iload 4, 2) := by decide +kernel
theorem d_law_938 : decode code 938 = .ok (.iconst 1, 1) := by decide +kernel
theorem d_law_939 : decode code 939 = .ok (.iadd, 1) := by decide +kernel
theorem d_law_940 : decode code 940 = .ok (.iaload, 1) := by decide +kernel
theorem d_law_941 : decode code 941 = .ok (.aload_n 0, 1) := by decide +kernel
theorem d_law_942 : decode code 942 = .ok (.iload 4, 2) := by decide +kernel
theorem d_law_944 : decode code 944 = .ok (.iconst 2, 1) := by decide +kernel
theorem d_law_945 : decode code 945 = .ok (.iadd, 1) := by decide +kernel
theorem d_law_946 : decode code 946 = .ok (.iaload, 1) := by decide +kernel
theorem d_law_947 : decode code 947 = .ok (.invokevirtual 126, 3) := by decide +kernel
theorem d_law_950 : decode code 950 = .ok (.istore 6, 2) := by decide +kernel
theorem d_law_952 : decode code 952 = .ok (.aload_n 2, 1) := by decide +kernel
theorem d_law_953 : decode code 953 = .ok (.invokevirtual 80, 3) := by decide +kernel
theorem d_law_956 : decode code 956 = .ok (.iload 5, 2) := by decide +kernel
theorem d_law_958 : decode code 958 = .ok (.if_icmp .eq 5, 3) := by decide +kernel
theorem d_law_961 : decode code 961 = .ok (.iconst 0, 1) := by decide +kernel
theorem d_law_962 : decode code 962 = .ok (.ireturn, 1) := by decide +kernel
theorem d_law_963 : decode code 963 = .ok (.iload 5, 2) := by decide +kernel
theorem d_law_965 : decode code 965 = .ok (.ifCond .ne 15, 3) := by decide +kernel
theorem d_law_968 : decode code 968 = .ok (.aload_n 3, 1) := by decide +kernel
theorem d_law_969 : decode code 969 = .ok (.iconst 0, 1) := by decide +kernel
theorem d_law_970 : decode code 970 = .ok (.laload, 1) := by decide +kernel
theorem d_law_971 : decode code 971 = .ok (.iload 6, 2) := by decide +kernel
theorem d_law_973 : decode code 973 = .ok (.i2l, 1) := by decide +kernel
theorem d_law_974 : decode code 974 = .ok (.lcmp, 1) := by decide +kernel
theorem d_law_975 : decode code 975 = .ok (.ifCond .eq 5, 3) := by decide +kernel
theorem d_law_978 : decode code 978 = .ok (.iconst 0, 1) := by decide +kernel
theorem d_law_979 : decode code 979 = .ok (.ireturn, 1) := by decide +kernel
theorem d_law_980 : decode code 980 = .ok (.goto 151, 3) := by decide +kernel
theorem d_law_983 : decode code 983 = .ok (.aload_n 1, 1) := by decide +kernel
theorem d_law_984 : decode code 984 = .ok (.aload_n 0, 1) := by decide +kernel
theorem d_law_985 : decode code 985 = .ok (.iload 4, 2) := by decide +kernel
theorem d_law_987 : decode code 987 = .ok (.iconst 1, 1) := by decide +kernel
theorem d_law_988 : decode code 988 = .ok (.iadd, 1) := by decide +kernel
theorem d_law_989 : decode code 989 = .ok (.iaload, 1) := by decide +kernel
theorem d_law_990 : decode code 990 = .ok (.aload_n 3, 1) := by decide +kernel
theorem d_law_991 : decode code 991 = .ok (.invokestatic 127, 3) := by decide +kernel
theorem d_law_994 : decode code 994 = .ok (.istore 5, 2) := by decide +kernel
theorem d_law_996 : decode code 996 = .ok (.aload_n 2, 1) := by decide +kernel
theorem d_law_997 : decode code 997 = .ok (.aload_n 0, 1) := by decide +kernel
theorem d_law_998 : decode code 998 = .ok (.iload 4, 2) := by decide +kernel
theorem d_law_1000 : decode code 1000 = .ok (.iconst 1, 1) := by decide +kernel
theorem d_law_1001 : decode code 1001 = .ok (.iadd, 1) := by decide +kernel
theorem d_law_1002 : decode code 1002 = .ok (.iaload, 1) := by decide +kernel
theorem d_law_1003 : decode code 1003 = .ok (.invokevirtual 129, 3) := by decide +kernel
theorem d_law_1006 : decode code 1006 = .ok (.istore 6, 2) := by decide +kernel
theorem d_law_1008 : decode code 1008 = .ok (.aload_n 2, 1) := by decide +kernel
theorem d_law_1009 : decode code 1009 = .ok (.invokevirtual 80, 3) := by decide +kernel
theorem d_law_1012 : decode code 1012 = .ok (.iload 5, 2) := by decide +kernel
theorem d_law_1014 : decode code 1014 = .ok (.if_icmp .eq 5, 3) := by decide +kernel
theorem d_law_1017 : decode code 1017 = .ok (.iconst 0, 1) := by decide +kernel
theorem d_law_1018 : decode code 1018 = .ok (.ireturn, 1) := by decide +kernel
theorem d_law_1019 : decode code 1019 = .ok (.iload 5, 2) := by decide +kernel
theorem d_law_1021 : decode code 1021 = .ok (.ifCond .ne 15, 3) := by decide +kernel
theorem d_law_1024 : decode code 1024 = .ok (.aload_n 3, 1) := by decide +kernel
theorem d_law_1025 : decode code 1025 = .ok (.iconst 0, 1) := by decide +kernel
theorem d_law_1026 : decode code 1026 = .ok (.laload, 1) := by decide +kernel
theorem d_law_1027 : decode code 1027 = .ok (.iload 6, 2) := by decide +kernel
theorem d_law_1029 : decode code 1029 = .ok (.i2l, 1) := by decide +kernel
theorem d_law_1030 : decode code 1030 = .ok (.lcmp, 1) := by decide +kernel
theorem d_law_1031 : decode code 1031 = .ok (.ifCond .eq 5, 3) := by decide +kernel
theorem d_law_1034 : decode code 1034 = .ok (.iconst 0, 1) := by decide +kernel
theorem d_law_1035 : decode code 1035 = .ok (.ireturn, 1) := by decide +kernel
theorem d_law_1036 : decode code 1036 = .ok (.goto 95, 3) := by decide +kernel
theorem d_law_1039 : decode code 1039 = .ok (.aload_n 1, 1) := by decide +kernel
theorem d_law_1040 : decode code 1040 = .ok (.aload_n 0, 1) := by decide +kernel
theorem d_law_1041 : decode code 1041 = .ok (.iload 4, 2) := by decide +kernel
theorem d_law_1043 : decode code 1043 = .ok (.iconst 1, 1) := by decide +kernel
theorem d_law_1044 : decode code 1044 = .ok (.iadd, 1) := by decide +kernel
theorem d_law_1045 : decode code 1045 = .ok (.iaload, 1) := by decide +kernel
theorem d_law_1046 : decode code 1046 = .ok (.aload_n 3, 1) := by decide +kernel
theorem d_law_1047 : decode code 1047 = .ok (.invokestatic 130, 3) := by decide +kernel
theorem d_law_1050 : decode code 1050 = .ok (.istore 5, 2) := by decide +kernel
theorem d_law_1052 : decode code 1052 = .ok (.aload_n 2, 1) := by decide +kernel
theorem d_law_1053 : decode code 1053 = .ok (.aload_n 0, 1) := by decide +kernel
theorem d_law_1054 : decode code 1054 = .ok (.iload 4, 2) := by decide +kernel
theorem d_law_1056 : decode code 1056 = .ok (.iconst 1, 1) := by decide +kernel
theorem d_law_1057 : decode code 1057 = .ok (.iadd, 1) := by decide +kernel
theorem d_law_1058 : decode code 1058 = .ok (.iaload, 1) := by decide +kernel
theorem d_law_1059 : decode code 1059 = .ok (.invokevirtual 132, 3) := by decide +kernel
theorem d_law_1062 : decode code 1062 = .ok (.istore 6, 2) := by decide +kernel
theorem d_law_1064 : decode code 1064 = .ok (.aload_n 2, 1) := by decide +kernel
theorem d_law_1065 : decode code 1065 = .ok (.invokevirtual 80, 3) := by decide +kernel
theorem d_law_1068 : decode code 1068 = .ok (.iload 5, 2) := by decide +kernel
theorem d_law_1070 : decode code 1070 = .ok (.if_icmp .eq 5, 3) := by decide +kernel
theorem d_law_1073 : decode code 1073 = .ok (.iconst 0, 1) := by decide +kernel
theorem d_law_1074 : decode code 1074 = .ok (.ireturn, 1) := by decide +kernel
theorem d_law_1075 : decode code 1075 = .ok (.iload 5, 2) := by decide +kernel
theorem d_law_1077 : decode code 1077 = .ok (.ifCond .ne 15, 3) := by decide +kernel
theorem d_law_1080 : decode code 1080 = .ok (.aload_n 3, 1) := by decide +kernel
theorem d_law_1081 : decode code 1081 = .ok (.iconst 0, 1) := by decide +kernel
theorem d_law_1082 : decode code 1082 = .ok (.laload, 1) := by decide +kernel
theorem d_law_1083 : decode code 1083 = .ok (.iload 6, 2) := by decide +kernel
theorem d_law_1085 : decode code 1085 = .ok (.i2l, 1) := by decide +kernel
theorem d_law_1086 : decode code 1086 = .ok (.lcmp, 1) := by decide +kernel
theorem d_law_1087 : decode code 1087 = .ok (.ifCond .eq 5, 3) := by decide +kernel
theorem d_law_1090 : decode code 1090 = .ok (.iconst 0, 1) := by decide +kernel
theorem d_law_1091 : decode code 1091 = .ok (.ireturn, 1) := by decide +kernel
theorem d_law_1092 : decode code 1092 = .ok (.goto 39, 3) := by decide +kernel
theorem d_law_1095 : decode code 1095 = .ok (.aload_n 1, 1) := by decide +kernel
theorem d_law_1096 : decode code 1096 = .ok (.aload_n 0, 1) := by decide +kernel
theorem d_law_1097 : decode code 1097 = .ok (.iload 4, 2) := by decide +kernel
theorem d_law_1099 : decode code 1099 = .ok (.iconst 1, 1) := by decide +kernel
theorem d_law_1100 : decode code 1100 = .ok (.iadd, 1) := by decide +kernel
theorem d_law_1101 : decode code 1101 = .ok (.iaload, 1) := by decide +kernel
theorem d_law_1102 : decode code 1102 = .ok (.invokevirtual 133, 3) := by decide +kernel
theorem d_law_1105 : decode code 1105 = .ok (.aload_n 2, 1) := by decide +kernel
theorem d_law_1106 : decode code 1106 = .ok (.aload_n 0, 1) := by decide +kernel
theorem d_law_1107 : decode code 1107 = .ok (.iload 4, 2) := by decide +kernel
theorem d_law_1109 : decode code 1109 = .ok (.iconst 1, 1) := by decide +kernel
theorem d_law_1110 : decode code 1110 = .ok (.iadd, 1) := by decide +kernel
theorem d_law_1111 : decode code 1111 = .ok (.iaload, 1) := by decide +kernel
theorem d_law_1112 : decode code 1112 = .ok (.invokevirtual 136, 3) := by decide +kernel
theorem d_law_1115 : decode code 1115 = .ok (.if_icmp .eq 16, 3) := by decide +kernel
theorem d_law_1118 : decode code 1118 = .ok (.iconst 0, 1) := by decide +kernel
theorem d_law_1119 : decode code 1119 = .ok (.ireturn, 1) := by decide +kernel
theorem d_law_1120 : decode code 1120 = .ok (.aload_n 1, 1) := by decide +kernel
theorem d_law_1121 : decode code 1121 = .ok (.invokevirtual 137, 3) := by decide +kernel
theorem d_law_1124 : decode code 1124 = .ok (.aload_n 2, 1) := by decide +kernel
theorem d_law_1125 : decode code 1125 = .ok (.invokevirtual 140, 3) := by decide +kernel
theorem d_law_1128 : decode code 1128 = .ok (.goto 3, 3) := by decide +kernel
theorem d_law_1131 : decode code 1131 = .ok (.iinc 4 5, 3) := by decide +kernel
theorem d_law_1134 : decode code 1134 = .ok (.goto (-1101), 3) := by decide +kernel
theorem d_law_1137 : decode code 1137 = .ok (.iconst 1, 1) := by decide +kernel
theorem d_law_1138 : decode code 1138 = .ok (.ireturn, 1) := by decide +kernel
