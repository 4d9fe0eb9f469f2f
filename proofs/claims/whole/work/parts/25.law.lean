def CXs (g : GT) (G : GP) (cc : ByteArray) (own : String) (nL n scr len : Nat) (xs : Nat → Int32) : Prop := ∃ (p : Program) (e : Env) (R : Room) (s : State) (m : MethodId) (args : Array Value) (below : List Frame) (meth : Method) (c : Code) (cells slots : Nat) (Q : State → Prop), G = WW g p e R s m args below meth c nL cells slots Q ∧ (p.tables.exec = Jvm.exec ∧ c.code = cc ∧ c.maxLocals = nL ∧ s.vm.findClass own = some m.cls ∧ (∀ w ∈ TB, w.before args s = true) ∧ va_K (gD g) clX (tysX (gcy g)) s ∧ Stt g s s.heap ∧ GOK g ∧ n ≤ R.frames ∧ 64 * n ≤ R.locals ∧ cells ≤ R.cells ∧ slots ≤ R.slots) ∧ va_X scr len xs s s.heap ∧ scr < s.heap.size ∧ ¬ gA g scr
theorem CXs.X {g : GT} {G : GP} {cc : ByteArray} {own : String} {nL n scr len : Nat} {xs : Nat → Int32} (h : CXs g G cc own nL n scr len xs) : CX g G cc own nL n := by
  obtain ⟨p, e, R, s, m, args, below, meth, c, cells, slots, Q, h1, h2, -⟩ := h
  exact ⟨p, e, R, s, m, args, below, meth, c, cells, slots, Q, h1, h2⟩
section SIML
variable {g : GT} {G : GP} {cc : ByteArray} {own : String} {nL n scr len : Nat} {xs : Nat → Int32} {α : Type} {Pr : Option α} {K : α → Prop} {pc : Nat} {lv : LV} {st : List Value} {μ : Mem}
theorem s_sld (hX : CXs g G cc own nL n scr len xs) {i : Int32} (hd : decode cc pc = .ok (.iaload, 1)) (kk : Sim G Pr K (pc + 1) lv (.int (xs (ix i)) :: st) μ) : Sim G (chk i len Pr) K pc lv (.int i :: Value.ref scr :: st) μ := by
  obtain ⟨p, e, R, s, m, args, below, meth, c, cells, slots, Q, rfl, ⟨hx, hb, -⟩, hsc, hbl, hbA⟩ := hX
  intro a h1 h2
  unfold chk at h1
  by_cases hin : ¬ (i < 0 ∨ len ≤ ix i)
  · rw [if_pos hin] at h1
    exact fun H locs ls hP hS hl => va_sld hx hb hsc hbl hbA hS hin hd (kk a h1 h2 H locs ls hP hS hl)
  · rw [if_neg hin] at h1; cases h1
theorem s_slen (hX : CXs g G cc own nL n scr len xs) (hd : decode cc pc = .ok (.arraylength, 1)) (kk : Sim G Pr K (pc + 1) lv (.int (Int32.ofNat len) :: st) μ) : Sim G Pr K pc lv (Value.ref scr :: st) μ := by
  obtain ⟨p, e, R, s, m, args, below, meth, c, cells, slots, Q, rfl, ⟨hx, hb, -⟩, hsc, hbl, hbA⟩ := hX
  exact fun a h1 h2 H locs ls hP hS hl => va_slen hx hb hsc hbl hbA hS hd (kk a h1 h2 H locs ls hP hS hl)
end SIML
theorem dL_law_18 : decode cL_law 18 = .ok (.iload_n 3, 1) := by decide +kernel
theorem dL_law_19 : decode cL_law 19 = .ok (.aload_n 0, 1) := by decide +kernel
theorem dL_law_20 : decode cL_law 20 = .ok (.arraylength, 1) := by decide +kernel
theorem dL_law_21 : decode cL_law 21 = .ok (.iconst 4, 1) := by decide +kernel
theorem dL_law_22 : decode cL_law 22 = .ok (.isub, 1) := by decide +kernel
theorem dL_law_23 : decode cL_law 23 = .ok (.if_icmp .gt 1217, 3) := by decide +kernel
theorem dL_law_26 : decode cL_law 26 = .ok (.aload_n 0, 1) := by decide +kernel
theorem dL_law_27 : decode cL_law 27 = .ok (.iload_n 3, 1) := by decide +kernel
theorem dL_law_28 : decode cL_law 28 = .ok (.iaload, 1) := by decide +kernel
theorem dL_law_29 : decode cL_law 29 = .ok (.bipush 63, 2) := by decide +kernel
theorem dL_law_31 : decode cL_law 31 = .ok (.iand, 1) := by decide +kernel
theorem dL_law_32 : decode cL_law 32 = .ok (.tableswitch 1202 0 35 #[160, 183, 226, 259, 302, 315, 338, 371, 404, 453, 476, 489, 502, 551, 564, 597, 630, 653, 696, 719, 742, 775, 808, 851, 894, 917, 940, 973, 1006, 1039, 1072, 1096, 1119, 1142, 1165, 1188], 160) := by decide +kernel
theorem dL_law_192 : decode cL_law 192 = .ok (.aload_n 1, 1) := by decide +kernel
theorem dL_law_193 : decode cL_law 193 = .ok (.aload_n 0, 1) := by decide +kernel
theorem dL_law_194 : decode cL_law 194 = .ok (.iload_n 3, 1) := by decide +kernel
theorem dL_law_195 : decode cL_law 195 = .ok (.iconst 1, 1) := by decide +kernel
theorem dL_law_196 : decode cL_law 196 = .ok (.iadd, 1) := by decide +kernel
theorem dL_law_197 : decode cL_law 197 = .ok (.iaload, 1) := by decide +kernel
theorem dL_law_198 : decode cL_law 198 = .ok (.invokevirtual 13, 3) := by decide +kernel
theorem dL_law_201 : decode cL_law 201 = .ok (.aload_n 2, 1) := by decide +kernel
theorem dL_law_202 : decode cL_law 202 = .ok (.aload_n 0, 1) := by decide +kernel
theorem dL_law_203 : decode cL_law 203 = .ok (.iload_n 3, 1) := by decide +kernel
theorem dL_law_204 : decode cL_law 204 = .ok (.iconst 1, 1) := by decide +kernel
theorem dL_law_205 : decode cL_law 205 = .ok (.iadd, 1) := by decide +kernel
theorem dL_law_206 : decode cL_law 206 = .ok (.iaload, 1) := by decide +kernel
theorem dL_law_207 : decode cL_law 207 = .ok (.invokevirtual 17, 3) := by decide +kernel
theorem dL_law_210 : decode cL_law 210 = .ok (.if_icmp .eq 1024, 3) := by decide +kernel
theorem dL_law_213 : decode cL_law 213 = .ok (.iconst 0, 1) := by decide +kernel
theorem dL_law_214 : decode cL_law 214 = .ok (.ireturn, 1) := by decide +kernel
theorem dL_law_215 : decode cL_law 215 = .ok (.aload_n 1, 1) := by decide +kernel
theorem dL_law_216 : decode cL_law 216 = .ok (.aload_n 0, 1) := by decide +kernel
theorem dL_law_217 : decode cL_law 217 = .ok (.iload_n 3, 1) := by decide +kernel
theorem dL_law_218 : decode cL_law 218 = .ok (.iconst 1, 1) := by decide +kernel
theorem dL_law_219 : decode cL_law 219 = .ok (.iadd, 1) := by decide +kernel
theorem dL_law_220 : decode cL_law 220 = .ok (.iaload, 1) := by decide +kernel
theorem dL_law_221 : decode cL_law 221 = .ok (.aload_n 0, 1) := by decide +kernel
theorem dL_law_222 : decode cL_law 222 = .ok (.iload_n 3, 1) := by decide +kernel
theorem dL_law_223 : decode cL_law 223 = .ok (.iconst 2, 1) := by decide +kernel
theorem dL_law_224 : decode cL_law 224 = .ok (.iadd, 1) := by decide +kernel
theorem dL_law_225 : decode cL_law 225 = .ok (.iaload, 1) := by decide +kernel
theorem dL_law_226 : decode cL_law 226 = .ok (.aload_n 0, 1) := by decide +kernel
theorem dL_law_227 : decode cL_law 227 = .ok (.iload_n 3, 1) := by decide +kernel
theorem dL_law_228 : decode cL_law 228 = .ok (.iconst 3, 1) := by decide +kernel
theorem dL_law_229 : decode cL_law 229 = .ok (.iadd, 1) := by decide +kernel
theorem dL_law_230 : decode cL_law 230 = .ok (.iaload, 1) := by decide +kernel
theorem dL_law_231 : decode cL_law 231 = .ok (.invokevirtual 18, 3) := by decide +kernel
theorem dL_law_234 : decode cL_law 234 = .ok (.aload_n 2, 1) := by decide +kernel
theorem dL_law_235 : decode cL_law 235 = .ok (.aload_n 0, 1) := by decide +kernel
theorem dL_law_236 : decode cL_law 236 = .ok (.iload_n 3, 1) := by decide +kernel
theorem dL_law_237 : decode cL_law 237 = .ok (.iconst 1, 1) := by decide +kernel
theorem dL_law_238 : decode cL_law 238 = .ok (.iadd, 1) := by decide +kernel
theorem dL_law_239 : decode cL_law 239 = .ok (.iaload, 1) := by decide +kernel
theorem dL_law_240 : decode cL_law 240 = .ok (.aload_n 0, 1) := by decide +kernel
theorem dL_law_241 : decode cL_law 241 = .ok (.iload_n 3, 1) := by decide +kernel
theorem dL_law_242 : decode cL_law 242 = .ok (.iconst 2, 1) := by decide +kernel
theorem dL_law_243 : decode cL_law 243 = .ok (.iadd, 1) := by decide +kernel
theorem dL_law_244 : decode cL_law 244 = .ok (.iaload, 1) := by decide +kernel
theorem dL_law_245 : decode cL_law 245 = .ok (.aload_n 0, 1) := by decide +kernel
theorem dL_law_246 : decode cL_law 246 = .ok (.iload_n 3, 1) := by decide +kernel
theorem dL_law_247 : decode cL_law 247 = .ok (.iconst 3, 1) := by decide +kernel
theorem dL_law_248 : decode cL_law 248 = .ok (.iadd, 1) := by decide +kernel
theorem dL_law_249 : decode cL_law 249 = .ok (.iaload, 1) := by decide +kernel
theorem dL_law_250 : decode cL_law 250 = .ok (.invokevirtual 22, 3) := by decide +kernel
theorem dL_law_253 : decode cL_law 253 = .ok (.if_icmp .eq 981, 3) := by decide +kernel
theorem dL_law_256 : decode cL_law 256 = .ok (.iconst 0, 1) := by decide +kernel
theorem dL_law_257 : decode cL_law 257 = .ok (.ireturn, 1) := by decide +kernel
theorem dL_law_258 : decode cL_law 258 = .ok (.aload_n 1, 1) := by decide +kernel
theorem dL_law_259 : decode cL_law 259 = .ok (.aload_n 0, 1) := by decide +kernel
theorem dL_law_260 : decode cL_law 260 = .ok (.iload_n 3, 1) := by decide +kernel
theorem dL_law_261 : decode cL_law 261 = .ok (.iconst 1, 1) := by decide +kernel
theorem dL_law_262 : decode cL_law 262 = .ok (.iadd, 1) := by decide +kernel
theorem dL_law_263 : decode cL_law 263 = .ok (.iaload, 1) := by decide +kernel
theorem dL_law_264 : decode cL_law 264 = .ok (.aload_n 0, 1) := by decide +kernel
theorem dL_law_265 : decode cL_law 265 = .ok (.iload_n 3, 1) := by decide +kernel
theorem dL_law_266 : decode cL_law 266 = .ok (.iconst 2, 1) := by decide +kernel
theorem dL_law_267 : decode cL_law 267 = .ok (.iadd, 1) := by decide +kernel
theorem dL_law_268 : decode cL_law 268 = .ok (.iaload, 1) := by decide +kernel
theorem dL_law_269 : decode cL_law 269 = .ok (.invokevirtual 23, 3) := by decide +kernel
theorem dL_law_272 : decode cL_law 272 = .ok (.aload_n 2, 1) := by decide +kernel
theorem dL_law_273 : decode cL_law 273 = .ok (.aload_n 0, 1) := by decide +kernel
theorem dL_law_274 : decode cL_law 274 = .ok (.iload_n 3, 1) := by decide +kernel
theorem dL_law_275 : decode cL_law 275 = .ok (.iconst 1, 1) := by decide +kernel
theorem dL_law_276 : decode cL_law 276 = .ok (.iadd, 1) := by decide +kernel
theorem dL_law_277 : decode cL_law 277 = .ok (.iaload, 1) := by decide +kernel
theorem dL_law_278 : decode cL_law 278 = .ok (.aload_n 0, 1) := by decide +kernel
theorem dL_law_279 : decode cL_law 279 = .ok (.iload_n 3, 1) := by decide +kernel
theorem dL_law_280 : decode cL_law 280 = .ok (.iconst 2, 1) := by decide +kernel
theorem dL_law_281 : decode cL_law 281 = .ok (.iadd, 1) := by decide +kernel
theorem dL_law_282 : decode cL_law 282 = .ok (.iaload, 1) := by decide +kernel
theorem dL_law_283 : decode cL_law 283 = .ok (.invokevirtual 27, 3) := by decide +kernel
theorem dL_law_286 : decode cL_law 286 = .ok (.if_icmp .eq 948, 3) := by decide +kernel
theorem dL_law_289 : decode cL_law 289 = .ok (.iconst 0, 1) := by decide +kernel
theorem dL_law_290 : decode cL_law 290 = .ok (.ireturn, 1) := by decide +kernel
theorem dL_law_291 : decode cL_law 291 = .ok (.aload_n 1, 1) := by decide +kernel
theorem dL_law_292 : decode cL_law 292 = .ok (.aload_n 0, 1) := by decide +kernel
theorem dL_law_293 : decode cL_law 293 = .ok (.iload_n 3, 1) := by decide +kernel
theorem dL_law_294 : decode cL_law 294 = .ok (.iconst 1, 1) := by decide +kernel
theorem dL_law_295 : decode cL_law 295 = .ok (.iadd, 1) := by decide +kernel
theorem dL_law_296 : decode cL_law 296 = .ok (.iaload, 1) := by decide +kernel
theorem dL_law_297 : decode cL_law 297 = .ok (.aload_n 0, 1) := by decide +kernel
theorem dL_law_298 : decode cL_law 298 = .ok (.iload_n 3, 1) := by decide +kernel
theorem dL_law_299 : decode cL_law 299 = .ok (.iconst 2, 1) := by decide +kernel
theorem dL_law_300 : decode cL_law 300 = .ok (.iadd, 1) := by decide +kernel
theorem dL_law_301 : decode cL_law 301 = .ok (.iaload, 1) := by decide +kernel
theorem dL_law_302 : decode cL_law 302 = .ok (.aload_n 0, 1) := by decide +kernel
theorem dL_law_303 : decode cL_law 303 = .ok (.iload_n 3, 1) := by decide +kernel
theorem dL_law_304 : decode cL_law 304 = .ok (.iconst 3, 1) := by decide +kernel
theorem dL_law_305 : decode cL_law 305 = .ok (.iadd, 1) := by decide +kernel
theorem dL_law_306 : decode cL_law 306 = .ok (.iaload, 1) := by decide +kernel
theorem dL_law_307 : decode cL_law 307 = .ok (.invokevirtual 28, 3) := by decide +kernel
theorem dL_law_310 : decode cL_law 310 = .ok (.aload_n 2, 1) := by decide +kernel
theorem dL_law_311 : decode cL_law 311 = .ok (.aload_n 0, 1) := by decide +kernel
theorem dL_law_312 : decode cL_law 312 = .ok (.iload_n 3, 1) := by decide +kernel
theorem dL_law_313 : decode cL_law 313 = .ok (.iconst 1, 1) := by decide +kernel
theorem dL_law_314 : decode cL_law 314 = .ok (.iadd, 1) := by decide +kernel
theorem dL_law_315 : decode cL_law 315 = .ok (.iaload, 1) := by decide +kernel
theorem dL_law_316 : decode cL_law 316 = .ok (.aload_n 0, 1) := by decide +kernel
theorem dL_law_317 : decode cL_law 317 = .ok (.iload_n 3, 1) := by decide +kernel
theorem dL_law_318 : decode cL_law 318 = .ok (.iconst 2, 1) := by decide +kernel
theorem dL_law_319 : decode cL_law 319 = .ok (.iadd, 1) := by decide +kernel
theorem dL_law_320 : decode cL_law 320 = .ok (.iaload, 1) := by decide +kernel
theorem dL_law_321 : decode cL_law 321 = .ok (.aload_n 0, 1) := by decide +kernel
theorem dL_law_322 : decode cL_law 322 = .ok (.iload_n 3, 1) := by decide +kernel
theorem dL_law_323 : decode cL_law 323 = .ok (.iconst 3, 1) := by decide +kernel
theorem dL_law_324 : decode cL_law 324 = .ok (.iadd, 1) := by decide +kernel
theorem dL_law_325 : decode cL_law 325 = .ok (.iaload, 1) := by decide +kernel
theorem dL_law_326 : decode cL_law 326 = .ok (.invokevirtual 31, 3) := by decide +kernel
theorem dL_law_329 : decode cL_law 329 = .ok (.if_icmp .eq 905, 3) := by decide +kernel
theorem dL_law_332 : decode cL_law 332 = .ok (.iconst 0, 1) := by decide +kernel
theorem dL_law_333 : decode cL_law 333 = .ok (.ireturn, 1) := by decide +kernel
theorem dL_law_334 : decode cL_law 334 = .ok (.aload_n 1, 1) := by decide +kernel
theorem dL_law_335 : decode cL_law 335 = .ok (.invokevirtual 32, 3) := by decide +kernel
theorem dL_law_338 : decode cL_law 338 = .ok (.aload_n 2, 1) := by decide +kernel
theorem dL_law_339 : decode cL_law 339 = .ok (.invokevirtual 36, 3) := by decide +kernel
theorem dL_law_342 : decode cL_law 342 = .ok (.if_icmp .eq 892, 3) := by decide +kernel
theorem dL_law_345 : decode cL_law 345 = .ok (.iconst 0, 1) := by decide +kernel
theorem dL_law_346 : decode cL_law 346 = .ok (.ireturn, 1) := by decide +kernel
theorem dL_law_347 : decode cL_law 347 = .ok (.aload_n 1, 1) := by decide +kernel
theorem dL_law_348 : decode cL_law 348 = .ok (.aload_n 0, 1) := by decide +kernel
theorem dL_law_349 : decode cL_law 349 = .ok (.iload_n 3, 1) := by decide +kernel
theorem dL_law_350 : decode cL_law 350 = .ok (.iconst 1, 1) := by decide +kernel
theorem dL_law_351 : decode cL_law 351 = .ok (.iadd, 1) := by decide +kernel
theorem dL_law_352 : decode cL_law 352 = .ok (.iaload, 1) := by decide +kernel
theorem dL_law_353 : decode cL_law 353 = .ok (.invokevirtual 37, 3) := by decide +kernel
theorem dL_law_356 : decode cL_law 356 = .ok (.aload_n 2, 1) := by decide +kernel
theorem dL_law_357 : decode cL_law 357 = .ok (.aload_n 0, 1) := by decide +kernel
theorem dL_law_358 : decode cL_law 358 = .ok (.iload_n 3, 1) := by decide +kernel
theorem dL_law_359 : decode cL_law 359 = .ok (.iconst 1, 1) := by decide +kernel
theorem dL_law_360 : decode cL_law 360 = .ok (.iadd, 1) := by decide +kernel
theorem dL_law_361 : decode cL_law 361 = .ok (.iaload, 1) := by decide +kernel
theorem dL_law_362 : decode cL_law 362 = .ok (.invokevirtual 40, 3) := by decide +kernel
theorem dL_law_365 : decode cL_law 365 = .ok (.if_icmp .eq 869, 3) := by decide +kernel
theorem dL_law_368 : decode cL_law 368 = .ok (.iconst 0, 1) := by decide +kernel
theorem dL_law_369 : decode cL_law 369 = .ok (.ireturn, 1) := by decide +kernel
theorem dL_law_370 : decode cL_law 370 = .ok (.aload_n 1, 1) := by decide +kernel
theorem dL_law_371 : decode cL_law 371 = .ok (.aload_n 0, 1) := by decide +kernel
theorem dL_law_372 : decode cL_law 372 = .ok (.iload_n 3, 1) := by decide +kernel
theorem dL_law_373 : decode cL_law 373 = .ok (.iconst 1, 1) := by decide +kernel
theorem dL_law_374 : decode cL_law 374 = .ok (.iadd, 1) := by decide +kernel
theorem dL_law_375 : decode cL_law 375 = .ok (.iaload, 1) := by decide +kernel
theorem dL_law_376 : decode cL_law 376 = .ok (.aload_n 0, 1) := by decide +kernel
theorem dL_law_377 : decode cL_law 377 = .ok (.iload_n 3, 1) := by decide +kernel
theorem dL_law_378 : decode cL_law 378 = .ok (.iconst 2, 1) := by decide +kernel
theorem dL_law_379 : decode cL_law 379 = .ok (.iadd, 1) := by decide +kernel
theorem dL_law_380 : decode cL_law 380 = .ok (.iaload, 1) := by decide +kernel
theorem dL_law_381 : decode cL_law 381 = .ok (.invokevirtual 41, 3) := by decide +kernel
theorem dL_law_384 : decode cL_law 384 = .ok (.aload_n 2, 1) := by decide +kernel
theorem dL_law_385 : decode cL_law 385 = .ok (.aload_n 0, 1) := by decide +kernel
theorem dL_law_386 : decode cL_law 386 = .ok (.iload_n 3, 1) := by decide +kernel
theorem dL_law_387 : decode cL_law 387 = .ok (.iconst 1, 1) := by decide +kernel
theorem dL_law_388 : decode cL_law 388 = .ok (.iadd, 1) := by decide +kernel
theorem dL_law_389 : decode cL_law 389 = .ok (.iaload, 1) := by decide +kernel
theorem dL_law_390 : decode cL_law 390 = .ok (.aload_n 0, 1) := by decide +kernel
theorem dL_law_391 : decode cL_law 391 = .ok (.iload_n 3, 1) := by decide +kernel
theorem dL_law_392 : decode cL_law 392 = .ok (.iconst 2, 1) := by decide +kernel
theorem dL_law_393 : decode cL_law 393 = .ok (.iadd, 1) := by decide +kernel
theorem dL_law_394 : decode cL_law 394 = .ok (.iaload, 1) := by decide +kernel
theorem dL_law_395 : decode cL_law 395 = .ok (.invokevirtual 44, 3) := by decide +kernel
theorem dL_law_398 : decode cL_law 398 = .ok (.if_icmp .eq 836, 3) := by decide +kernel
theorem dL_law_401 : decode cL_law 401 = .ok (.iconst 0, 1) := by decide +kernel
theorem dL_law_402 : decode cL_law 402 = .ok (.ireturn, 1) := by decide +kernel
theorem dL_law_403 : decode cL_law 403 = .ok (.aload_n 1, 1) := by decide +kernel
theorem dL_law_404 : decode cL_law 404 = .ok (.aload_n 0, 1) := by decide +kernel
theorem dL_law_405 : decode cL_law 405 = .ok (.iload_n 3, 1) := by decide +kernel
theorem dL_law_406 : decode cL_law 406 = .ok (.iconst 1, 1) := by decide +kernel
theorem dL_law_407 : decode cL_law 407 = .ok (.iadd, 1) := by decide +kernel
theorem dL_law_408 : decode cL_law 408 = .ok (.iaload, 1) := by decide +kernel
theorem dL_law_409 : decode cL_law 409 = .ok (.aload_n 0, 1) := by decide +kernel
theorem dL_law_410 : decode cL_law 410 = .ok (.iload_n 3, 1) := by decide +kernel
theorem dL_law_411 : decode cL_law 411 = .ok (.iconst 2, 1) := by decide +kernel
theorem dL_law_412 : decode cL_law 412 = .ok (.iadd, 1) := by decide +kernel
theorem dL_law_413 : decode cL_law 413 = .ok (.iaload, 1) := by decide +kernel
theorem dL_law_414 : decode cL_law 414 = .ok (.invokevirtual 45, 3) := by decide +kernel
theorem dL_law_417 : decode cL_law 417 = .ok (.aload_n 2, 1) := by decide +kernel
theorem dL_law_418 : decode cL_law 418 = .ok (.aload_n 0, 1) := by decide +kernel
theorem dL_law_419 : decode cL_law 419 = .ok (.iload_n 3, 1) := by decide +kernel
theorem dL_law_420 : decode cL_law 420 = .ok (.iconst 1, 1) := by decide +kernel
theorem dL_law_421 : decode cL_law 421 = .ok (.iadd, 1) := by decide +kernel
theorem dL_law_422 : decode cL_law 422 = .ok (.iaload, 1) := by decide +kernel
theorem dL_law_423 : decode cL_law 423 = .ok (.aload_n 0, 1) := by decide +kernel
theorem dL_law_424 : decode cL_law 424 = .ok (.iload_n 3, 1) := by decide +kernel
theorem dL_law_425 : decode cL_law 425 = .ok (.iconst 2, 1) := by decide +kernel
theorem dL_law_426 : decode cL_law 426 = .ok (.iadd, 1) := by decide +kernel
theorem dL_law_427 : decode cL_law 427 = .ok (.iaload, 1) := by decide +kernel
theorem dL_law_428 : decode cL_law 428 = .ok (.invokevirtual 48, 3) := by decide +kernel
theorem dL_law_431 : decode cL_law 431 = .ok (.if_icmp .eq 803, 3) := by decide +kernel
theorem dL_law_434 : decode cL_law 434 = .ok (.iconst 0, 1) := by decide +kernel
theorem dL_law_435 : decode cL_law 435 = .ok (.ireturn, 1) := by decide +kernel
theorem dL_law_436 : decode cL_law 436 = .ok (.aload_n 1, 1) := by decide +kernel
theorem dL_law_437 : decode cL_law 437 = .ok (.aload_n 0, 1) := by decide +kernel
theorem dL_law_438 : decode cL_law 438 = .ok (.iload_n 3, 1) := by decide +kernel
theorem dL_law_439 : decode cL_law 439 = .ok (.iconst 1, 1) := by decide +kernel
theorem dL_law_440 : decode cL_law 440 = .ok (.iadd, 1) := by decide +kernel
theorem dL_law_441 : decode cL_law 441 = .ok (.iaload, 1) := by decide +kernel
theorem dL_law_442 : decode cL_law 442 = .ok (.aload_n 0, 1) := by decide +kernel
theorem dL_law_443 : decode cL_law 443 = .ok (.iload_n 3, 1) := by decide +kernel
theorem dL_law_444 : decode cL_law 444 = .ok (.iconst 2, 1) := by decide +kernel
theorem dL_law_445 : decode cL_law 445 = .ok (.iadd, 1) := by decide +kernel
theorem dL_law_446 : decode cL_law 446 = .ok (.iaload, 1) := by decide +kernel
theorem dL_law_447 : decode cL_law 447 = .ok (.ifCond .eq 7, 3) := by decide +kernel
theorem dL_law_450 : decode cL_law 450 = .ok (.iconst 1, 1) := by decide +kernel
theorem dL_law_451 : decode cL_law 451 = .ok (.goto 4, 3) := by decide +kernel
theorem dL_law_454 : decode cL_law 454 = .ok (.iconst 0, 1) := by decide +kernel
theorem dL_law_455 : decode cL_law 455 = .ok (.invokevirtual 49, 3) := by decide +kernel
theorem dL_law_458 : decode cL_law 458 = .ok (.aload_n 2, 1) := by decide +kernel
theorem dL_law_459 : decode cL_law 459 = .ok (.aload_n 0, 1) := by decide +kernel
theorem dL_law_460 : decode cL_law 460 = .ok (.iload_n 3, 1) := by decide +kernel
theorem dL_law_461 : decode cL_law 461 = .ok (.iconst 1, 1) := by decide +kernel
theorem dL_law_462 : decode cL_law 462 = .ok (.iadd, 1) := by decide +kernel
theorem dL_law_463 : decode cL_law 463 = .ok (.iaload, 1) := by decide +kernel
theorem dL_law_464 : decode cL_law 464 = .ok (.aload_n 0, 1) := by decide +kernel
theorem dL_law_465 : decode cL_law 465 = .ok (.iload_n 3, 1) := by decide +kernel
theorem dL_law_466 : decode cL_law 466 = .ok (.iconst 2, 1) := by decide +kernel
theorem dL_law_467 : decode cL_law 467 = .ok (.iadd, 1) := by decide +kernel
theorem dL_law_468 : decode cL_law 468 = .ok (.iaload, 1) := by decide +kernel
theorem dL_law_469 : decode cL_law 469 = .ok (.ifCond .eq 7, 3) := by decide +kernel
theorem dL_law_472 : decode cL_law 472 = .ok (.iconst 1, 1) := by decide +kernel
theorem dL_law_473 : decode cL_law 473 = .ok (.goto 4, 3) := by decide +kernel
theorem dL_law_476 : decode cL_law 476 = .ok (.iconst 0, 1) := by decide +kernel
theorem dL_law_477 : decode cL_law 477 = .ok (.invokevirtual 53, 3) := by decide +kernel
theorem dL_law_480 : decode cL_law 480 = .ok (.if_icmp .eq 754, 3) := by decide +kernel
theorem dL_law_483 : decode cL_law 483 = .ok (.iconst 0, 1) := by decide +kernel
theorem dL_law_484 : decode cL_law 484 = .ok (.ireturn, 1) := by decide +kernel
theorem dL_law_485 : decode cL_law 485 = .ok (.aload_n 1, 1) := by decide +kernel
theorem dL_law_486 : decode cL_law 486 = .ok (.aload_n 0, 1) := by decide +kernel
theorem dL_law_487 : decode cL_law 487 = .ok (.iload_n 3, 1) := by decide +kernel
theorem dL_law_488 : decode cL_law 488 = .ok (.iconst 1, 1) := by decide +kernel
theorem dL_law_489 : decode cL_law 489 = .ok (.iadd, 1) := by decide +kernel
theorem dL_law_490 : decode cL_law 490 = .ok (.iaload, 1) := by decide +kernel
theorem dL_law_491 : decode cL_law 491 = .ok (.invokevirtual 54, 3) := by decide +kernel
theorem dL_law_494 : decode cL_law 494 = .ok (.aload_n 2, 1) := by decide +kernel
theorem dL_law_495 : decode cL_law 495 = .ok (.aload_n 0, 1) := by decide +kernel
theorem dL_law_496 : decode cL_law 496 = .ok (.iload_n 3, 1) := by decide +kernel
theorem dL_law_497 : decode cL_law 497 = .ok (.iconst 1, 1) := by decide +kernel
theorem dL_law_498 : decode cL_law 498 = .ok (.iadd, 1) := by decide +kernel
theorem dL_law_499 : decode cL_law 499 = .ok (.iaload, 1) := by decide +kernel
theorem dL_law_500 : decode cL_law 500 = .ok (.invokevirtual 57, 3) := by decide +kernel
theorem dL_law_503 : decode cL_law 503 = .ok (.if_icmp .eq 731, 3) := by decide +kernel
theorem dL_law_506 : decode cL_law 506 = .ok (.iconst 0, 1) := by decide +kernel
theorem dL_law_507 : decode cL_law 507 = .ok (.ireturn, 1) := by decide +kernel
theorem dL_law_508 : decode cL_law 508 = .ok (.aload_n 1, 1) := by decide +kernel
theorem dL_law_509 : decode cL_law 509 = .ok (.invokevirtual 58, 3) := by decide +kernel
theorem dL_law_512 : decode cL_law 512 = .ok (.aload_n 2, 1) := by decide +kernel
theorem dL_law_513 : decode cL_law 513 = .ok (.invokevirtual 61, 3) := by decide +kernel
theorem dL_law_516 : decode cL_law 516 = .ok (.if_icmp .eq 718, 3) := by decide +kernel
theorem dL_law_519 : decode cL_law 519 = .ok (.iconst 0, 1) := by decide +kernel
theorem dL_law_520 : decode cL_law 520 = .ok (.ireturn, 1) := by decide +kernel
theorem dL_law_521 : decode cL_law 521 = .ok (.aload_n 1, 1) := by decide +kernel
theorem dL_law_522 : decode cL_law 522 = .ok (.invokevirtual 62, 3) := by decide +kernel
theorem dL_law_525 : decode cL_law 525 = .ok (.aload_n 2, 1) := by decide +kernel
theorem dL_law_526 : decode cL_law 526 = .ok (.invokevirtual 65, 3) := by decide +kernel
theorem dL_law_529 : decode cL_law 529 = .ok (.if_icmp .eq 705, 3) := by decide +kernel
theorem dL_law_532 : decode cL_law 532 = .ok (.iconst 0, 1) := by decide +kernel
theorem dL_law_533 : decode cL_law 533 = .ok (.ireturn, 1) := by decide +kernel
theorem dL_law_534 : decode cL_law 534 = .ok (.aload_n 1, 1) := by decide +kernel
theorem dL_law_535 : decode cL_law 535 = .ok (.aload_n 0, 1) := by decide +kernel
theorem dL_law_536 : decode cL_law 536 = .ok (.iload_n 3, 1) := by decide +kernel
theorem dL_law_537 : decode cL_law 537 = .ok (.iconst 1, 1) := by decide +kernel
theorem dL_law_538 : decode cL_law 538 = .ok (.iadd, 1) := by decide +kernel
theorem dL_law_539 : decode cL_law 539 = .ok (.iaload, 1) := by decide +kernel
theorem dL_law_540 : decode cL_law 540 = .ok (.aload_n 0, 1) := by decide +kernel
theorem dL_law_541 : decode cL_law 541 = .ok (.iload_n 3, 1) := by decide +kernel
theorem dL_law_542 : decode cL_law 542 = .ok (.iconst 2, 1) := by decide +kernel
theorem dL_law_543 : decode cL_law 543 = .ok (.iadd, 1) := by decide +kernel
theorem dL_law_544 : decode cL_law 544 = .ok (.iaload, 1) := by decide +kernel
theorem dL_law_545 : decode cL_law 545 = .ok (.ifCond .eq 7, 3) := by decide +kernel
theorem dL_law_548 : decode cL_law 548 = .ok (.iconst 1, 1) := by decide +kernel
theorem dL_law_549 : decode cL_law 549 = .ok (.goto 4, 3) := by decide +kernel
theorem dL_law_552 : decode cL_law 552 = .ok (.iconst 0, 1) := by decide +kernel
theorem dL_law_553 : decode cL_law 553 = .ok (.invokevirtual 66, 3) := by decide +kernel
theorem dL_law_556 : decode cL_law 556 = .ok (.aload_n 2, 1) := by decide +kernel
theorem dL_law_557 : decode cL_law 557 = .ok (.aload_n 0, 1) := by decide +kernel
theorem dL_law_558 : decode cL_law 558 = .ok (.iload_n 3, 1) := by decide +kernel
theorem dL_law_559 : decode cL_law 559 = .ok (.iconst 1, 1) := by decide +kernel
theorem dL_law_560 : decode cL_law 560 = .ok (.iadd, 1) := by decide +kernel
theorem dL_law_561 : decode cL_law 561 = .ok (.iaload, 1) := by decide +kernel
theorem dL_law_562 : decode cL_law 562 = .ok (.aload_n 0, 1) := by decide +kernel
theorem dL_law_563 : decode cL_law 563 = .ok (.iload_n 3, 1) := by decide +kernel
theorem dL_law_564 : decode cL_law 564 = .ok (.iconst 2, 1) := by decide +kernel
theorem dL_law_565 : decode cL_law 565 = .ok (.iadd, 1) := by decide +kernel
theorem dL_law_566 : decode cL_law 566 = .ok (.iaload, 1) := by decide +kernel
theorem dL_law_567 : decode cL_law 567 = .ok (.ifCond .eq 7, 3) := by decide +kernel
theorem dL_law_570 : decode cL_law 570 = .ok (.iconst 1, 1) := by decide +kernel
theorem dL_law_571 : decode cL_law 571 = .ok (.goto 4, 3) := by decide +kernel
theorem dL_law_574 : decode cL_law 574 = .ok (.iconst 0, 1) := by decide +kernel
theorem dL_law_575 : decode cL_law 575 = .ok (.invokevirtual 69, 3) := by decide +kernel
theorem dL_law_578 : decode cL_law 578 = .ok (.if_icmp .eq 656, 3) := by decide +kernel
theorem dL_law_581 : decode cL_law 581 = .ok (.iconst 0, 1) := by decide +kernel
theorem dL_law_582 : decode cL_law 582 = .ok (.ireturn, 1) := by decide +kernel
theorem dL_law_583 : decode cL_law 583 = .ok (.aload_n 1, 1) := by decide +kernel
theorem dL_law_584 : decode cL_law 584 = .ok (.invokevirtual 70, 3) := by decide +kernel
theorem dL_law_587 : decode cL_law 587 = .ok (.aload_n 2, 1) := by decide +kernel
theorem dL_law_588 : decode cL_law 588 = .ok (.invokevirtual 73, 3) := by decide +kernel
theorem dL_law_591 : decode cL_law 591 = .ok (.if_icmp .eq 643, 3) := by decide +kernel
theorem dL_law_594 : decode cL_law 594 = .ok (.iconst 0, 1) := by decide +kernel
theorem dL_law_595 : decode cL_law 595 = .ok (.ireturn, 1) := by decide +kernel
theorem dL_law_596 : decode cL_law 596 = .ok (.aload_n 1, 1) := by decide +kernel
theorem dL_law_597 : decode cL_law 597 = .ok (.aload_n 0, 1) := by decide +kernel
theorem dL_law_598 : decode cL_law 598 = .ok (.iload_n 3, 1) := by decide +kernel
theorem dL_law_599 : decode cL_law 599 = .ok (.iconst 1, 1) := by decide +kernel
theorem dL_law_600 : decode cL_law 600 = .ok (.iadd, 1) := by decide +kernel
theorem dL_law_601 : decode cL_law 601 = .ok (.iaload, 1) := by decide +kernel
theorem dL_law_602 : decode cL_law 602 = .ok (.aload_n 0, 1) := by decide +kernel
theorem dL_law_603 : decode cL_law 603 = .ok (.iload_n 3, 1) := by decide +kernel
theorem dL_law_604 : decode cL_law 604 = .ok (.iconst 2, 1) := by decide +kernel
theorem dL_law_605 : decode cL_law 605 = .ok (.iadd, 1) := by decide +kernel
theorem dL_law_606 : decode cL_law 606 = .ok (.iaload, 1) := by decide +kernel
theorem dL_law_607 : decode cL_law 607 = .ok (.invokevirtual 74, 3) := by decide +kernel
theorem dL_law_610 : decode cL_law 610 = .ok (.aload_n 2, 1) := by decide +kernel
theorem dL_law_611 : decode cL_law 611 = .ok (.aload_n 0, 1) := by decide +kernel
theorem dL_law_612 : decode cL_law 612 = .ok (.iload_n 3, 1) := by decide +kernel
theorem dL_law_613 : decode cL_law 613 = .ok (.iconst 1, 1) := by decide +kernel
theorem dL_law_614 : decode cL_law 614 = .ok (.iadd, 1) := by decide +kernel
theorem dL_law_615 : decode cL_law 615 = .ok (.iaload, 1) := by decide +kernel
theorem dL_law_616 : decode cL_law 616 = .ok (.aload_n 0, 1) := by decide +kernel
theorem dL_law_617 : decode cL_law 617 = .ok (.iload_n 3, 1) := by decide +kernel
theorem dL_law_618 : decode cL_law 618 = .ok (.iconst 2, 1) := by decide +kernel
theorem dL_law_619 : decode cL_law 619 = .ok (.iadd, 1) := by decide +kernel
theorem dL_law_620 : decode cL_law 620 = .ok (.iaload, 1) := by decide +kernel
theorem dL_law_621 : decode cL_law 621 = .ok (.invokevirtual 77, 3) := by decide +kernel
theorem dL_law_624 : decode cL_law 624 = .ok (.if_icmp .eq 610, 3) := by decide +kernel
theorem dL_law_627 : decode cL_law 627 = .ok (.iconst 0, 1) := by decide +kernel
theorem dL_law_628 : decode cL_law 628 = .ok (.ireturn, 1) := by decide +kernel
theorem dL_law_629 : decode cL_law 629 = .ok (.aload_n 1, 1) := by decide +kernel
theorem dL_law_630 : decode cL_law 630 = .ok (.aload_n 0, 1) := by decide +kernel
theorem dL_law_631 : decode cL_law 631 = .ok (.iload_n 3, 1) := by decide +kernel
theorem dL_law_632 : decode cL_law 632 = .ok (.iconst 1, 1) := by decide +kernel
theorem dL_law_633 : decode cL_law 633 = .ok (.iadd, 1) := by decide +kernel
theorem dL_law_634 : decode cL_law 634 = .ok (.iaload, 1) := by decide +kernel
theorem dL_law_635 : decode cL_law 635 = .ok (.aload_n 0, 1) := by decide +kernel
theorem dL_law_636 : decode cL_law 636 = .ok (.iload_n 3, 1) := by decide +kernel
theorem dL_law_637 : decode cL_law 637 = .ok (.iconst 2, 1) := by decide +kernel
theorem dL_law_638 : decode cL_law 638 = .ok (.iadd, 1) := by decide +kernel
theorem dL_law_639 : decode cL_law 639 = .ok (.iaload, 1) := by decide +kernel
theorem dL_law_640 : decode cL_law 640 = .ok (.invokevirtual 78, 3) := by decide +kernel
theorem dL_law_643 : decode cL_law 643 = .ok (.aload_n 2, 1) := by decide +kernel
theorem dL_law_644 : decode cL_law 644 = .ok (.aload_n 0, 1) := by decide +kernel
theorem dL_law_645 : decode cL_law 645 = .ok (.iload_n 3, 1) := by decide +kernel
theorem dL_law_646 : decode cL_law 646 = .ok (.iconst 1, 1) := by decide +kernel
theorem dL_law_647 : decode cL_law 647 = .ok (.iadd, 1) := by decide +kernel
theorem dL_law_648 : decode cL_law 648 = .ok (.iaload, 1) := by decide +kernel
theorem dL_law_649 : decode cL_law 649 = .ok (.aload_n 0, 1) := by decide +kernel
theorem dL_law_650 : decode cL_law 650 = .ok (.iload_n 3, 1) := by decide +kernel
theorem dL_law_651 : decode cL_law 651 = .ok (.iconst 2, 1) := by decide +kernel
theorem dL_law_652 : decode cL_law 652 = .ok (.iadd, 1) := by decide +kernel
theorem dL_law_653 : decode cL_law 653 = .ok (.iaload, 1) := by decide +kernel
theorem dL_law_654 : decode cL_law 654 = .ok (.invokevirtual 81, 3) := by decide +kernel
theorem dL_law_657 : decode cL_law 657 = .ok (.if_icmp .eq 577, 3) := by decide +kernel
theorem dL_law_660 : decode cL_law 660 = .ok (.iconst 0, 1) := by decide +kernel
theorem dL_law_661 : decode cL_law 661 = .ok (.ireturn, 1) := by decide +kernel
theorem dL_law_662 : decode cL_law 662 = .ok (.aload_n 1, 1) := by decide +kernel
theorem dL_law_663 : decode cL_law 663 = .ok (.aload_n 0, 1) := by decide +kernel
theorem dL_law_664 : decode cL_law 664 = .ok (.iload_n 3, 1) := by decide +kernel
theorem dL_law_665 : decode cL_law 665 = .ok (.iconst 1, 1) := by decide +kernel
theorem dL_law_666 : decode cL_law 666 = .ok (.iadd, 1) := by decide +kernel
theorem dL_law_667 : decode cL_law 667 = .ok (.iaload, 1) := by decide +kernel
theorem dL_law_668 : decode cL_law 668 = .ok (.invokevirtual 82, 3) := by decide +kernel
theorem dL_law_671 : decode cL_law 671 = .ok (.aload_n 2, 1) := by decide +kernel
theorem dL_law_672 : decode cL_law 672 = .ok (.aload_n 0, 1) := by decide +kernel
theorem dL_law_673 : decode cL_law 673 = .ok (.iload_n 3, 1) := by decide +kernel
theorem dL_law_674 : decode cL_law 674 = .ok (.iconst 1, 1) := by decide +kernel
theorem dL_law_675 : decode cL_law 675 = .ok (.iadd, 1) := by decide +kernel
theorem dL_law_676 : decode cL_law 676 = .ok (.iaload, 1) := by decide +kernel
theorem dL_law_677 : decode cL_law 677 = .ok (.invokevirtual 85, 3) := by decide +kernel
theorem dL_law_680 : decode cL_law 680 = .ok (.if_icmp .eq 554, 3) := by decide +kernel
theorem dL_law_683 : decode cL_law 683 = .ok (.iconst 0, 1) := by decide +kernel
theorem dL_law_684 : decode cL_law 684 = .ok (.ireturn, 1) := by decide +kernel
theorem dL_law_685 : decode cL_law 685 = .ok (.aload_n 1, 1) := by decide +kernel
theorem dL_law_686 : decode cL_law 686 = .ok (.aload_n 0, 1) := by decide +kernel
theorem dL_law_687 : decode cL_law 687 = .ok (.iload_n 3, 1) := by decide +kernel
theorem dL_law_688 : decode cL_law 688 = .ok (.iconst 1, 1) := by decide +kernel
theorem dL_law_689 : decode cL_law 689 = .ok (.iadd, 1) := by decide +kernel
theorem dL_law_690 : decode cL_law 690 = .ok (.iaload, 1) := by decide +kernel
theorem dL_law_691 : decode cL_law 691 = .ok (.aload_n 0, 1) := by decide +kernel
theorem dL_law_692 : decode cL_law 692 = .ok (.iload_n 3, 1) := by decide +kernel
theorem dL_law_693 : decode cL_law 693 = .ok (.iconst 2, 1) := by decide +kernel
theorem dL_law_694 : decode cL_law 694 = .ok (.iadd, 1) := by decide +kernel
theorem dL_law_695 : decode cL_law 695 = .ok (.iaload, 1) := by decide +kernel
theorem dL_law_696 : decode cL_law 696 = .ok (.aload_n 0, 1) := by decide +kernel
theorem dL_law_697 : decode cL_law 697 = .ok (.iload_n 3, 1) := by decide +kernel
theorem dL_law_698 : decode cL_law 698 = .ok (.iconst 3, 1) := by decide +kernel
theorem dL_law_699 : decode cL_law 699 = .ok (.iadd, 1) := by decide +kernel
theorem dL_law_700 : decode cL_law 700 = .ok (.iaload, 1) := by decide +kernel
theorem dL_law_701 : decode cL_law 701 = .ok (.invokevirtual 86, 3) := by decide +kernel
theorem dL_law_704 : decode cL_law 704 = .ok (.aload_n 2, 1) := by decide +kernel
theorem dL_law_705 : decode cL_law 705 = .ok (.aload_n 0, 1) := by decide +kernel
theorem dL_law_706 : decode cL_law 706 = .ok (.iload_n 3, 1) := by decide +kernel
theorem dL_law_707 : decode cL_law 707 = .ok (.iconst 1, 1) := by decide +kernel
theorem dL_law_708 : decode cL_law 708 = .ok (.iadd, 1) := by decide +kernel
theorem dL_law_709 : decode cL_law 709 = .ok (.iaload, 1) := by decide +kernel
theorem dL_law_710 : decode cL_law 710 = .ok (.aload_n 0, 1) := by decide +kernel
theorem dL_law_711 : decode cL_law 711 = .ok (.iload_n 3, 1) := by decide +kernel
theorem dL_law_712 : decode cL_law 712 = .ok (.iconst 2, 1) := by decide +kernel
theorem dL_law_713 : decode cL_law 713 = .ok (.iadd, 1) := by decide +kernel
theorem dL_law_714 : decode cL_law 714 = .ok (.iaload, 1) := by decide +kernel
theorem dL_law_715 : decode cL_law 715 = .ok (.aload_n 0, 1) := by decide +kernel
theorem dL_law_716 : decode cL_law 716 = .ok (.iload_n 3, 1) := by decide +kernel
theorem dL_law_717 : decode cL_law 717 = .ok (.iconst 3, 1) := by decide +kernel
theorem dL_law_718 : decode cL_law 718 = .ok (.iadd, 1) := by decide +kernel
theorem dL_law_719 : decode cL_law 719 = .ok (.iaload, 1) := by decide +kernel
theorem dL_law_720 : decode cL_law 720 = .ok (.invokevirtual 89, 3) := by decide +kernel
theorem dL_law_723 : decode cL_law 723 = .ok (.if_icmp .eq 511, 3) := by decide +kernel
theorem dL_law_726 : decode cL_law 726 = .ok (.iconst 0, 1) := by decide +kernel
theorem dL_law_727 : decode cL_law 727 = .ok (.ireturn, 1) := by decide +kernel
theorem dL_law_728 : decode cL_law 728 = .ok (.aload_n 1, 1) := by decide +kernel
theorem dL_law_729 : decode cL_law 729 = .ok (.aload_n 0, 1) := by decide +kernel
theorem dL_law_730 : decode cL_law 730 = .ok (.iload_n 3, 1) := by decide +kernel
theorem dL_law_731 : decode cL_law 731 = .ok (.iconst 1, 1) := by decide +kernel
theorem dL_law_732 : decode cL_law 732 = .ok (.iadd, 1) := by decide +kernel
theorem dL_law_733 : decode cL_law 733 = .ok (.iaload, 1) := by decide +kernel
theorem dL_law_734 : decode cL_law 734 = .ok (.invokevirtual 90, 3) := by decide +kernel
theorem dL_law_737 : decode cL_law 737 = .ok (.aload_n 2, 1) := by decide +kernel
theorem dL_law_738 : decode cL_law 738 = .ok (.aload_n 0, 1) := by decide +kernel
theorem dL_law_739 : decode cL_law 739 = .ok (.iload_n 3, 1) := by decide +kernel
theorem dL_law_740 : decode cL_law 740 = .ok (.iconst 1, 1) := by decide +kernel
theorem dL_law_741 : decode cL_law 741 = .ok (.iadd, 1) := by decide +kernel
theorem dL_law_742 : decode cL_law 742 = .ok (.iaload, 1) := by decide +kernel
theorem dL_law_743 : decode cL_law 743 = .ok (.invokevirtual 93, 3) := by decide +kernel
theorem dL_law_746 : decode cL_law 746 = .ok (.if_icmp .eq 488, 3) := by decide +kernel
theorem dL_law_749 : decode cL_law 749 = .ok (.iconst 0, 1) := by decide +kernel
theorem dL_law_750 : decode cL_law 750 = .ok (.ireturn, 1) := by decide +kernel
theorem dL_law_751 : decode cL_law 751 = .ok (.aload_n 1, 1) := by decide +kernel
theorem dL_law_752 : decode cL_law 752 = .ok (.aload_n 0, 1) := by decide +kernel
theorem dL_law_753 : decode cL_law 753 = .ok (.iload_n 3, 1) := by decide +kernel
theorem dL_law_754 : decode cL_law 754 = .ok (.iconst 1, 1) := by decide +kernel
theorem dL_law_755 : decode cL_law 755 = .ok (.iadd, 1) := by decide +kernel
theorem dL_law_756 : decode cL_law 756 = .ok (.iaload, 1) := by decide +kernel
theorem dL_law_757 : decode cL_law 757 = .ok (.invokevirtual 94, 3) := by decide +kernel
theorem dL_law_760 : decode cL_law 760 = .ok (.aload_n 2, 1) := by decide +kernel
theorem dL_law_761 : decode cL_law 761 = .ok (.aload_n 0, 1) := by decide +kernel
theorem dL_law_762 : decode cL_law 762 = .ok (.iload_n 3, 1) := by decide +kernel
theorem dL_law_763 : decode cL_law 763 = .ok (.iconst 1, 1) := by decide +kernel
theorem dL_law_764 : decode cL_law 764 = .ok (.iadd, 1) := by decide +kernel
theorem dL_law_765 : decode cL_law 765 = .ok (.iaload, 1) := by decide +kernel
theorem dL_law_766 : decode cL_law 766 = .ok (.invokevirtual 97, 3) := by decide +kernel
theorem dL_law_769 : decode cL_law 769 = .ok (.if_icmp .eq 465, 3) := by decide +kernel
theorem dL_law_772 : decode cL_law 772 = .ok (.iconst 0, 1) := by decide +kernel
theorem dL_law_773 : decode cL_law 773 = .ok (.ireturn, 1) := by decide +kernel
theorem dL_law_774 : decode cL_law 774 = .ok (.aload_n 1, 1) := by decide +kernel
theorem dL_law_775 : decode cL_law 775 = .ok (.aload_n 0, 1) := by decide +kernel
theorem dL_law_776 : decode cL_law 776 = .ok (.iload_n 3, 1) := by decide +kernel
theorem dL_law_777 : decode cL_law 777 = .ok (.iconst 1, 1) := by decide +kernel
theorem dL_law_778 : decode cL_law 778 = .ok (.iadd, 1) := by decide +kernel
theorem dL_law_779 : decode cL_law 779 = .ok (.iaload, 1) := by decide +kernel
theorem dL_law_780 : decode cL_law 780 = .ok (.aload_n 0, 1) := by decide +kernel
theorem dL_law_781 : decode cL_law 781 = .ok (.iload_n 3, 1) := by decide +kernel
theorem dL_law_782 : decode cL_law 782 = .ok (.iconst 2, 1) := by decide +kernel
theorem dL_law_783 : decode cL_law 783 = .ok (.iadd, 1) := by decide +kernel
theorem dL_law_784 : decode cL_law 784 = .ok (.iaload, 1) := by decide +kernel
theorem dL_law_785 : decode cL_law 785 = .ok (.invokevirtual 98, 3) := by decide +kernel
theorem dL_law_788 : decode cL_law 788 = .ok (.aload_n 2, 1) := by decide +kernel
theorem dL_law_789 : decode cL_law 789 = .ok (.aload_n 0, 1) := by decide +kernel
theorem dL_law_790 : decode cL_law 790 = .ok (.iload_n 3, 1) := by decide +kernel
theorem dL_law_791 : decode cL_law 791 = .ok (.iconst 1, 1) := by decide +kernel
theorem dL_law_792 : decode cL_law 792 = .ok (.iadd, 1) := by decide +kernel
theorem dL_law_793 : decode cL_law 793 = .ok (.iaload, 1) := by decide +kernel
theorem dL_law_794 : decode cL_law 794 = .ok (.aload_n 0, 1) := by decide +kernel
theorem dL_law_795 : decode cL_law 795 = .ok (.iload_n 3, 1) := by decide +kernel
theorem dL_law_796 : decode cL_law 796 = .ok (.iconst 2, 1) := by decide +kernel
theorem dL_law_797 : decode cL_law 797 = .ok (.iadd, 1) := by decide +kernel
theorem dL_law_798 : decode cL_law 798 = .ok (.iaload, 1) := by decide +kernel
theorem dL_law_799 : decode cL_law 799 = .ok (.invokevirtual 101, 3) := by decide +kernel
theorem dL_law_802 : decode cL_law 802 = .ok (.if_icmp .eq 432, 3) := by decide +kernel
theorem dL_law_805 : decode cL_law 805 = .ok (.iconst 0, 1) := by decide +kernel
theorem dL_law_806 : decode cL_law 806 = .ok (.ireturn, 1) := by decide +kernel
theorem dL_law_807 : decode cL_law 807 = .ok (.aload_n 1, 1) := by decide +kernel
theorem dL_law_808 : decode cL_law 808 = .ok (.aload_n 0, 1) := by decide +kernel
theorem dL_law_809 : decode cL_law 809 = .ok (.iload_n 3, 1) := by decide +kernel
theorem dL_law_810 : decode cL_law 810 = .ok (.iconst 1, 1) := by decide +kernel
theorem dL_law_811 : decode cL_law 811 = .ok (.iadd, 1) := by decide +kernel
theorem dL_law_812 : decode cL_law 812 = .ok (.iaload, 1) := by decide +kernel
theorem dL_law_813 : decode cL_law 813 = .ok (.aload_n 0, 1) := by decide +kernel
theorem dL_law_814 : decode cL_law 814 = .ok (.iload_n 3, 1) := by decide +kernel
theorem dL_law_815 : decode cL_law 815 = .ok (.iconst 2, 1) := by decide +kernel
theorem dL_law_816 : decode cL_law 816 = .ok (.iadd, 1) := by decide +kernel
theorem dL_law_817 : decode cL_law 817 = .ok (.iaload, 1) := by decide +kernel
theorem dL_law_818 : decode cL_law 818 = .ok (.invokevirtual 102, 3) := by decide +kernel
theorem dL_law_821 : decode cL_law 821 = .ok (.aload_n 2, 1) := by decide +kernel
theorem dL_law_822 : decode cL_law 822 = .ok (.aload_n 0, 1) := by decide +kernel
theorem dL_law_823 : decode cL_law 823 = .ok (.iload_n 3, 1) := by decide +kernel
theorem dL_law_824 : decode cL_law 824 = .ok (.iconst 1, 1) := by decide +kernel
theorem dL_law_825 : decode cL_law 825 = .ok (.iadd, 1) := by decide +kernel
theorem dL_law_826 : decode cL_law 826 = .ok (.iaload, 1) := by decide +kernel
theorem dL_law_827 : decode cL_law 827 = .ok (.aload_n 0, 1) := by decide +kernel
theorem dL_law_828 : decode cL_law 828 = .ok (.iload_n 3, 1) := by decide +kernel
theorem dL_law_829 : decode cL_law 829 = .ok (.iconst 2, 1) := by decide +kernel
theorem dL_law_830 : decode cL_law 830 = .ok (.iadd, 1) := by decide +kernel
theorem dL_law_831 : decode cL_law 831 = .ok (.iaload, 1) := by decide +kernel
theorem dL_law_832 : decode cL_law 832 = .ok (.invokevirtual 105, 3) := by decide +kernel
theorem dL_law_835 : decode cL_law 835 = .ok (.if_icmp .eq 399, 3) := by decide +kernel
theorem dL_law_838 : decode cL_law 838 = .ok (.iconst 0, 1) := by decide +kernel
theorem dL_law_839 : decode cL_law 839 = .ok (.ireturn, 1) := by decide +kernel
theorem dL_law_840 : decode cL_law 840 = .ok (.aload_n 1, 1) := by decide +kernel
theorem dL_law_841 : decode cL_law 841 = .ok (.aload_n 0, 1) := by decide +kernel
theorem dL_law_842 : decode cL_law 842 = .ok (.iload_n 3, 1) := by decide +kernel
theorem dL_law_843 : decode cL_law 843 = .ok (.iconst 1, 1) := by decide +kernel
theorem dL_law_844 : decode cL_law 844 = .ok (.iadd, 1) := by decide +kernel
theorem dL_law_845 : decode cL_law 845 = .ok (.iaload, 1) := by decide +kernel
theorem dL_law_846 : decode cL_law 846 = .ok (.aload_n 0, 1) := by decide +kernel
theorem dL_law_847 : decode cL_law 847 = .ok (.iload_n 3, 1) := by decide +kernel
theorem dL_law_848 : decode cL_law 848 = .ok (.iconst 2, 1) := by decide +kernel
theorem dL_law_849 : decode cL_law 849 = .ok (.iadd, 1) := by decide +kernel
theorem dL_law_850 : decode cL_law 850 = .ok (.iaload, 1) := by decide +kernel
theorem dL_law_851 : decode cL_law 851 = .ok (.aload_n 0, 1) := by decide +kernel
theorem dL_law_852 : decode cL_law 852 = .ok (.iload_n 3, 1) := by decide +kernel
theorem dL_law_853 : decode cL_law 853 = .ok (.iconst 3, 1) := by decide +kernel
theorem dL_law_854 : decode cL_law 854 = .ok (.iadd, 1) := by decide +kernel
theorem dL_law_855 : decode cL_law 855 = .ok (.iaload, 1) := by decide +kernel
theorem dL_law_856 : decode cL_law 856 = .ok (.invokevirtual 106, 3) := by decide +kernel
theorem dL_law_859 : decode cL_law 859 = .ok (.aload_n 2, 1) := by decide +kernel
theorem dL_law_860 : decode cL_law 860 = .ok (.aload_n 0, 1) := by decide +kernel
theorem dL_law_861 : decode cL_law 861 = .ok (.iload_n 3, 1) := by decide +kernel
theorem dL_law_862 : decode cL_law 862 = .ok (.iconst 1, 1) := by decide +kernel
theorem dL_law_863 : decode cL_law 863 = .ok (.iadd, 1) := by decide +kernel
theorem dL_law_864 : decode cL_law 864 = .ok (.iaload, 1) := by decide +kernel
theorem dL_law_865 : decode cL_law 865 = .ok (.aload_n 0, 1) := by decide +kernel
theorem dL_law_866 : decode cL_law 866 = .ok (.iload_n 3, 1) := by decide +kernel
theorem dL_law_867 : decode cL_law 867 = .ok (.iconst 2, 1) := by decide +kernel
theorem dL_law_868 : decode cL_law 868 = .ok (.iadd, 1) := by decide +kernel
theorem dL_law_869 : decode cL_law 869 = .ok (.iaload, 1) := by decide +kernel
theorem dL_law_870 : decode cL_law 870 = .ok (.aload_n 0, 1) := by decide +kernel
theorem dL_law_871 : decode cL_law 871 = .ok (.iload_n 3, 1) := by decide +kernel
theorem dL_law_872 : decode cL_law 872 = .ok (.iconst 3, 1) := by decide +kernel
theorem dL_law_873 : decode cL_law 873 = .ok (.iadd, 1) := by decide +kernel
theorem dL_law_874 : decode cL_law 874 = .ok (.iaload, 1) := by decide +kernel
theorem dL_law_875 : decode cL_law 875 = .ok (.invokevirtual 109, 3) := by decide +kernel
theorem dL_law_878 : decode cL_law 878 = .ok (.if_icmp .eq 356, 3) := by decide +kernel
theorem dL_law_881 : decode cL_law 881 = .ok (.iconst 0, 1) := by decide +kernel
theorem dL_law_882 : decode cL_law 882 = .ok (.ireturn, 1) := by decide +kernel
theorem dL_law_883 : decode cL_law 883 = .ok (.aload_n 1, 1) := by decide +kernel
theorem dL_law_884 : decode cL_law 884 = .ok (.aload_n 0, 1) := by decide +kernel
theorem dL_law_885 : decode cL_law 885 = .ok (.iload_n 3, 1) := by decide +kernel
theorem dL_law_886 : decode cL_law 886 = .ok (.iconst 1, 1) := by decide +kernel
theorem dL_law_887 : decode cL_law 887 = .ok (.iadd, 1) := by decide +kernel
theorem dL_law_888 : decode cL_law 888 = .ok (.iaload, 1) := by decide +kernel
theorem dL_law_889 : decode cL_law 889 = .ok (.aload_n 0, 1) := by decide +kernel
theorem dL_law_890 : decode cL_law 890 = .ok (.iload_n 3, 1) := by decide +kernel
theorem dL_law_891 : decode cL_law 891 = .ok (.iconst 2, 1) := by decide +kernel
theorem dL_law_892 : decode cL_law 892 = .ok (.iadd, 1) := by decide +kernel
theorem dL_law_893 : decode cL_law 893 = .ok (.iaload, 1) := by decide +kernel
theorem dL_law_894 : decode cL_law 894 = .ok (.aload_n 0, 1) := by decide +kernel
theorem dL_law_895 : decode cL_law 895 = .ok (.iload_n 3, 1) := by decide +kernel
theorem dL_law_896 : decode cL_law 896 = .ok (.iconst 3, 1) := by decide +kernel
theorem dL_law_897 : decode cL_law 897 = .ok (.iadd, 1) := by decide +kernel
theorem dL_law_898 : decode cL_law 898 = .ok (.iaload, 1) := by decide +kernel
theorem dL_law_899 : decode cL_law 899 = .ok (.invokevirtual 110, 3) := by decide +kernel
theorem dL_law_902 : decode cL_law 902 = .ok (.aload_n 2, 1) := by decide +kernel
theorem dL_law_903 : decode cL_law 903 = .ok (.aload_n 0, 1) := by decide +kernel
theorem dL_law_904 : decode cL_law 904 = .ok (.iload_n 3, 1) := by decide +kernel
theorem dL_law_905 : decode cL_law 905 = .ok (.iconst 1, 1) := by decide +kernel
theorem dL_law_906 : decode cL_law 906 = .ok (.iadd, 1) := by decide +kernel
theorem dL_law_907 : decode cL_law 907 = .ok (.iaload, 1) := by decide +kernel
theorem dL_law_908 : decode cL_law 908 = .ok (.aload_n 0, 1) := by decide +kernel
theorem dL_law_909 : decode cL_law 909 = .ok (.iload_n 3, 1) := by decide +kernel
theorem dL_law_910 : decode cL_law 910 = .ok (.iconst 2, 1) := by decide +kernel
theorem dL_law_911 : decode cL_law 911 = .ok (.iadd, 1) := by decide +kernel
theorem dL_law_912 : decode cL_law 912 = .ok (.iaload, 1) := by decide +kernel
theorem dL_law_913 : decode cL_law 913 = .ok (.aload_n 0, 1) := by decide +kernel
theorem dL_law_914 : decode cL_law 914 = .ok (.iload_n 3, 1) := by decide +kernel
theorem dL_law_915 : decode cL_law 915 = .ok (.iconst 3, 1) := by decide +kernel
theorem dL_law_916 : decode cL_law 916 = .ok (.iadd, 1) := by decide +kernel
theorem dL_law_917 : decode cL_law 917 = .ok (.iaload, 1) := by decide +kernel
theorem dL_law_918 : decode cL_law 918 = .ok (.invokevirtual 113, 3) := by decide +kernel
theorem dL_law_921 : decode cL_law 921 = .ok (.if_icmp .eq 313, 3) := by decide +kernel
theorem dL_law_924 : decode cL_law 924 = .ok (.iconst 0, 1) := by decide +kernel
theorem dL_law_925 : decode cL_law 925 = .ok (.ireturn, 1) := by decide +kernel
theorem dL_law_926 : decode cL_law 926 = .ok (.aload_n 1, 1) := by decide +kernel
theorem dL_law_927 : decode cL_law 927 = .ok (.aload_n 0, 1) := by decide +kernel
theorem dL_law_928 : decode cL_law 928 = .ok (.iload_n 3, 1) := by decide +kernel
theorem dL_law_929 : decode cL_law 929 = .ok (.iconst 1, 1) := by decide +kernel
theorem dL_law_930 : decode cL_law 930 = .ok (.iadd, 1) := by decide +kernel
theorem dL_law_931 : decode cL_law 931 = .ok (.iaload, 1) := by decide +kernel
theorem dL_law_932 : decode cL_law 932 = .ok (.invokevirtual 114, 3) := by decide +kernel
theorem dL_law_935 : decode cL_law 935 = .ok (.aload_n 2, 1) := by decide +kernel
theorem dL_law_936 : decode cL_law 936 = .ok (.aload_n 0, 1) := by decide +kernel
theorem dL_law_937 : decode cL_law 937 = .ok (.iload_n 3, 1) := by decide +kernel
theorem dL_law_938 : decode cL_law 938 = .ok (.iconst 1, 1) := by decide +kernel
theorem dL_law_939 : decode cL_law 939 = .ok (.iadd, 1) := by decide +kernel
theorem dL_law_940 : decode cL_law 940 = .ok (.iaload, 1) := by decide +kernel
theorem dL_law_941 : decode cL_law 941 = .ok (.invokevirtual 117, 3) := by decide +kernel
theorem dL_law_944 : decode cL_law 944 = .ok (.if_icmp .eq 290, 3) := by decide +kernel
theorem dL_law_947 : decode cL_law 947 = .ok (.iconst 0, 1) := by decide +kernel
theorem dL_law_948 : decode cL_law 948 = .ok (.ireturn, 1) := by decide +kernel
theorem dL_law_949 : decode cL_law 949 = .ok (.aload_n 1, 1) := by decide +kernel
theorem dL_law_950 : decode cL_law 950 = .ok (.aload_n 0, 1) := by decide +kernel
theorem dL_law_951 : decode cL_law 951 = .ok (.iload_n 3, 1) := by decide +kernel
theorem dL_law_952 : decode cL_law 952 = .ok (.iconst 1, 1) := by decide +kernel
theorem dL_law_953 : decode cL_law 953 = .ok (.iadd, 1) := by decide +kernel
theorem dL_law_954 : decode cL_law 954 = .ok (.iaload, 1) := by decide +kernel
theorem dL_law_955 : decode cL_law 955 = .ok (.invokevirtual 118, 3) := by decide +kernel
theorem dL_law_958 : decode cL_law 958 = .ok (.aload_n 2, 1) := by decide +kernel
theorem dL_law_959 : decode cL_law 959 = .ok (.aload_n 0, 1) := by decide +kernel
theorem dL_law_960 : decode cL_law 960 = .ok (.iload_n 3, 1) := by decide +kernel
theorem dL_law_961 : decode cL_law 961 = .ok (.iconst 1, 1) := by decide +kernel
theorem dL_law_962 : decode cL_law 962 = .ok (.iadd, 1) := by decide +kernel
theorem dL_law_963 : decode cL_law 963 = .ok (.iaload, 1) := by decide +kernel
theorem dL_law_964 : decode cL_law 964 = .ok (.invokevirtual 121, 3) := by decide +kernel
theorem dL_law_967 : decode cL_law 967 = .ok (.if_icmp .eq 267, 3) := by decide +kernel
theorem dL_law_970 : decode cL_law 970 = .ok (.iconst 0, 1) := by decide +kernel
theorem dL_law_971 : decode cL_law 971 = .ok (.ireturn, 1) := by decide +kernel
theorem dL_law_972 : decode cL_law 972 = .ok (.aload_n 1, 1) := by decide +kernel
theorem dL_law_973 : decode cL_law 973 = .ok (.aload_n 0, 1) := by decide +kernel
theorem dL_law_974 : decode cL_law 974 = .ok (.iload_n 3, 1) := by decide +kernel
theorem dL_law_975 : decode cL_law 975 = .ok (.iconst 1, 1) := by decide +kernel
theorem dL_law_976 : decode cL_law 976 = .ok (.iadd, 1) := by decide +kernel
theorem dL_law_977 : decode cL_law 977 = .ok (.iaload, 1) := by decide +kernel
theorem dL_law_978 : decode cL_law 978 = .ok (.aload_n 0, 1) := by decide +kernel
theorem dL_law_979 : decode cL_law 979 = .ok (.iload_n 3, 1) := by decide +kernel
theorem dL_law_980 : decode cL_law 980 = .ok (.iconst 2, 1) := by decide +kernel
theorem dL_law_981 : decode cL_law 981 = .ok (.iadd, 1) := by decide +kernel
theorem dL_law_982 : decode cL_law 982 = .ok (.iaload, 1) := by decide +kernel
theorem dL_law_983 : decode cL_law 983 = .ok (.invokevirtual 122, 3) := by decide +kernel
theorem dL_law_986 : decode cL_law 986 = .ok (.aload_n 2, 1) := by decide +kernel
theorem dL_law_987 : decode cL_law 987 = .ok (.aload_n 0, 1) := by decide +kernel
theorem dL_law_988 : decode cL_law 988 = .ok (.iload_n 3, 1) := by decide +kernel
theorem dL_law_989 : decode cL_law 989 = .ok (.iconst 1, 1) := by decide +kernel
theorem dL_law_990 : decode cL_law 990 = .ok (.iadd, 1) := by decide +kernel
theorem dL_law_991 : decode cL_law 991 = .ok (.iaload, 1) := by decide +kernel
theorem dL_law_992 : decode cL_law 992 = .ok (.aload_n 0, 1) := by decide +kernel
theorem dL_law_993 : decode cL_law 993 = .ok (.iload_n 3, 1) := by decide +kernel
theorem dL_law_994 : decode cL_law 994 = .ok (.iconst 2, 1) := by decide +kernel
theorem dL_law_995 : decode cL_law 995 = .ok (.iadd, 1) := by decide +kernel
theorem dL_law_996 : decode cL_law 996 = .ok (.iaload, 1) := by decide +kernel
theorem dL_law_997 : decode cL_law 997 = .ok (.invokevirtual 125, 3) := by decide +kernel
theorem dL_law_1000 : decode cL_law 1000 = .ok (.if_icmp .eq 234, 3) := by decide +kernel
theorem dL_law_1003 : decode cL_law 1003 = .ok (.iconst 0, 1) := by decide +kernel
theorem dL_law_1004 : decode cL_law 1004 = .ok (.ireturn, 1) := by decide +kernel
theorem dL_law_1005 : decode cL_law 1005 = .ok (.aload_n 1, 1) := by decide +kernel
theorem dL_law_1006 : decode cL_law 1006 = .ok (.aload_n 0, 1) := by decide +kernel
theorem dL_law_1007 : decode cL_law 1007 = .ok (.iload_n 3, 1) := by decide +kernel
theorem dL_law_1008 : decode cL_law 1008 = .ok (.iconst 1, 1) := by decide +kernel
theorem dL_law_1009 : decode cL_law 1009 = .ok (.iadd, 1) := by decide +kernel
theorem dL_law_1010 : decode cL_law 1010 = .ok (.iaload, 1) := by decide +kernel
theorem dL_law_1011 : decode cL_law 1011 = .ok (.aload_n 0, 1) := by decide +kernel
theorem dL_law_1012 : decode cL_law 1012 = .ok (.iload_n 3, 1) := by decide +kernel
theorem dL_law_1013 : decode cL_law 1013 = .ok (.iconst 2, 1) := by decide +kernel
theorem dL_law_1014 : decode cL_law 1014 = .ok (.iadd, 1) := by decide +kernel
theorem dL_law_1015 : decode cL_law 1015 = .ok (.iaload, 1) := by decide +kernel
theorem dL_law_1016 : decode cL_law 1016 = .ok (.invokevirtual 126, 3) := by decide +kernel
theorem dL_law_1019 : decode cL_law 1019 = .ok (.aload_n 2, 1) := by decide +kernel
theorem dL_law_1020 : decode cL_law 1020 = .ok (.aload_n 0, 1) := by decide +kernel
theorem dL_law_1021 : decode cL_law 1021 = .ok (.iload_n 3, 1) := by decide +kernel
theorem dL_law_1022 : decode cL_law 1022 = .ok (.iconst 1, 1) := by decide +kernel
theorem dL_law_1023 : decode cL_law 1023 = .ok (.iadd, 1) := by decide +kernel
theorem dL_law_1024 : decode cL_law 1024 = .ok (.iaload, 1) := by decide +kernel
theorem dL_law_1025 : decode cL_law 1025 = .ok (.aload_n 0, 1) := by decide +kernel
theorem dL_law_1026 : decode cL_law 1026 = .ok (.iload_n 3, 1) := by decide +kernel
theorem dL_law_1027 : decode cL_law 1027 = .ok (.iconst 2, 1) := by decide +kernel
theorem dL_law_1028 : decode cL_law 1028 = .ok (.iadd, 1) := by decide +kernel
theorem dL_law_1029 : decode cL_law 1029 = .ok (.iaload, 1) := by decide +kernel
theorem dL_law_1030 : decode cL_law 1030 = .ok (.invokevirtual 129, 3) := by decide +kernel
theorem dL_law_1033 : decode cL_law 1033 = .ok (.if_icmp .eq 201, 3) := by decide +kernel
theorem dL_law_1036 : decode cL_law 1036 = .ok (.iconst 0, 1) := by decide +kernel
theorem dL_law_1037 : decode cL_law 1037 = .ok (.ireturn, 1) := by decide +kernel
theorem dL_law_1038 : decode cL_law 1038 = .ok (.aload_n 1, 1) := by decide +kernel
theorem dL_law_1039 : decode cL_law 1039 = .ok (.aload_n 0, 1) := by decide +kernel
theorem dL_law_1040 : decode cL_law 1040 = .ok (.iload_n 3, 1) := by decide +kernel
theorem dL_law_1041 : decode cL_law 1041 = .ok (.iconst 1, 1) := by decide +kernel
theorem dL_law_1042 : decode cL_law 1042 = .ok (.iadd, 1) := by decide +kernel
theorem dL_law_1043 : decode cL_law 1043 = .ok (.iaload, 1) := by decide +kernel
theorem dL_law_1044 : decode cL_law 1044 = .ok (.aload_n 0, 1) := by decide +kernel
theorem dL_law_1045 : decode cL_law 1045 = .ok (.iload_n 3, 1) := by decide +kernel
theorem dL_law_1046 : decode cL_law 1046 = .ok (.iconst 2, 1) := by decide +kernel
theorem dL_law_1047 : decode cL_law 1047 = .ok (.iadd, 1) := by decide +kernel
theorem dL_law_1048 : decode cL_law 1048 = .ok (.iaload, 1) := by decide +kernel
theorem dL_law_1049 : decode cL_law 1049 = .ok (.invokevirtual 130, 3) := by decide +kernel
theorem dL_law_1052 : decode cL_law 1052 = .ok (.aload_n 2, 1) := by decide +kernel
theorem dL_law_1053 : decode cL_law 1053 = .ok (.aload_n 0, 1) := by decide +kernel
theorem dL_law_1054 : decode cL_law 1054 = .ok (.iload_n 3, 1) := by decide +kernel
theorem dL_law_1055 : decode cL_law 1055 = .ok (.iconst 1, 1) := by decide +kernel
theorem dL_law_1056 : decode cL_law 1056 = .ok (.iadd, 1) := by decide +kernel
theorem dL_law_1057 : decode cL_law 1057 = .ok (.iaload, 1) := by decide +kernel
theorem dL_law_1058 : decode cL_law 1058 = .ok (.aload_n 0, 1) := by decide +kernel
theorem dL_law_1059 : decode cL_law 1059 = .ok (.iload_n 3, 1) := by decide +kernel
theorem dL_law_1060 : decode cL_law 1060 = .ok (.iconst 2, 1) := by decide +kernel
theorem dL_law_1061 : decode cL_law 1061 = .ok (.iadd, 1) := by decide +kernel
theorem dL_law_1062 : decode cL_law 1062 = .ok (.iaload, 1) := by decide +kernel
theorem dL_law_1063 : decode cL_law 1063 = .ok (.invokevirtual 133, 3) := by decide +kernel
theorem dL_law_1066 : decode cL_law 1066 = .ok (.if_icmp .eq 168, 3) := by decide +kernel
theorem dL_law_1069 : decode cL_law 1069 = .ok (.iconst 0, 1) := by decide +kernel
theorem dL_law_1070 : decode cL_law 1070 = .ok (.ireturn, 1) := by decide +kernel
theorem dL_law_1071 : decode cL_law 1071 = .ok (.aload_n 1, 1) := by decide +kernel
theorem dL_law_1072 : decode cL_law 1072 = .ok (.aload_n 0, 1) := by decide +kernel
theorem dL_law_1073 : decode cL_law 1073 = .ok (.iload_n 3, 1) := by decide +kernel
theorem dL_law_1074 : decode cL_law 1074 = .ok (.iconst 1, 1) := by decide +kernel
theorem dL_law_1075 : decode cL_law 1075 = .ok (.iadd, 1) := by decide +kernel
theorem dL_law_1076 : decode cL_law 1076 = .ok (.iaload, 1) := by decide +kernel
theorem dL_law_1077 : decode cL_law 1077 = .ok (.aload_n 0, 1) := by decide +kernel
theorem dL_law_1078 : decode cL_law 1078 = .ok (.iload_n 3, 1) := by decide +kernel
theorem dL_law_1079 : decode cL_law 1079 = .ok (.iconst 2, 1) := by decide +kernel
theorem dL_law_1080 : decode cL_law 1080 = .ok (.iadd, 1) := by decide +kernel
theorem dL_law_1081 : decode cL_law 1081 = .ok (.iaload, 1) := by decide +kernel
theorem dL_law_1082 : decode cL_law 1082 = .ok (.invokevirtual 134, 3) := by decide +kernel
theorem dL_law_1085 : decode cL_law 1085 = .ok (.aload_n 2, 1) := by decide +kernel
theorem dL_law_1086 : decode cL_law 1086 = .ok (.aload_n 0, 1) := by decide +kernel
theorem dL_law_1087 : decode cL_law 1087 = .ok (.iload_n 3, 1) := by decide +kernel
theorem dL_law_1088 : decode cL_law 1088 = .ok (.iconst 1, 1) := by decide +kernel
theorem dL_law_1089 : decode cL_law 1089 = .ok (.iadd, 1) := by decide +kernel
theorem dL_law_1090 : decode cL_law 1090 = .ok (.iaload, 1) := by decide +kernel
theorem dL_law_1091 : decode cL_law 1091 = .ok (.aload_n 0, 1) := by decide +kernel
theorem dL_law_1092 : decode cL_law 1092 = .ok (.iload_n 3, 1) := by decide +kernel
theorem dL_law_1093 : decode cL_law 1093 = .ok (.iconst 2, 1) := by decide +kernel
theorem dL_law_1094 : decode cL_law 1094 = .ok (.iadd, 1) := by decide +kernel
theorem dL_law_1095 : decode cL_law 1095 = .ok (.iaload, 1) := by decide +kernel
theorem dL_law_1096 : decode cL_law 1096 = .ok (.invokevirtual 137, 3) := by decide +kernel
theorem dL_law_1099 : decode cL_law 1099 = .ok (.if_icmp .eq 135, 3) := by decide +kernel
theorem dL_law_1102 : decode cL_law 1102 = .ok (.iconst 0, 1) := by decide +kernel
theorem dL_law_1103 : decode cL_law 1103 = .ok (.ireturn, 1) := by decide +kernel
theorem dL_law_1104 : decode cL_law 1104 = .ok (.aload_n 1, 1) := by decide +kernel
theorem dL_law_1105 : decode cL_law 1105 = .ok (.aload_n 0, 1) := by decide +kernel
theorem dL_law_1106 : decode cL_law 1106 = .ok (.iload_n 3, 1) := by decide +kernel
theorem dL_law_1107 : decode cL_law 1107 = .ok (.iconst 1, 1) := by decide +kernel
theorem dL_law_1108 : decode cL_law 1108 = .ok (.iadd, 1) := by decide +kernel
theorem dL_law_1109 : decode cL_law 1109 = .ok (.iaload, 1) := by decide +kernel
theorem dL_law_1110 : decode cL_law 1110 = .ok (.invokevirtual 138, 3) := by decide +kernel
theorem dL_law_1113 : decode cL_law 1113 = .ok (.aload_n 2, 1) := by decide +kernel
theorem dL_law_1114 : decode cL_law 1114 = .ok (.aload_n 0, 1) := by decide +kernel
theorem dL_law_1115 : decode cL_law 1115 = .ok (.iload_n 3, 1) := by decide +kernel
theorem dL_law_1116 : decode cL_law 1116 = .ok (.iconst 1, 1) := by decide +kernel
theorem dL_law_1117 : decode cL_law 1117 = .ok (.iadd, 1) := by decide +kernel
theorem dL_law_1118 : decode cL_law 1118 = .ok (.iaload, 1) := by decide +kernel
theorem dL_law_1119 : decode cL_law 1119 = .ok (.invokevirtual 142, 3) := by decide +kernel
theorem dL_law_1122 : decode cL_law 1122 = .ok (.lcmp, 1) := by decide +kernel
theorem dL_law_1123 : decode cL_law 1123 = .ok (.ifCond .eq 111, 3) := by decide +kernel
theorem dL_law_1126 : decode cL_law 1126 = .ok (.iconst 0, 1) := by decide +kernel
theorem dL_law_1127 : decode cL_law 1127 = .ok (.ireturn, 1) := by decide +kernel
theorem dL_law_1128 : decode cL_law 1128 = .ok (.aload_n 1, 1) := by decide +kernel
theorem dL_law_1129 : decode cL_law 1129 = .ok (.aload_n 0, 1) := by decide +kernel
theorem dL_law_1130 : decode cL_law 1130 = .ok (.iload_n 3, 1) := by decide +kernel
theorem dL_law_1131 : decode cL_law 1131 = .ok (.iconst 1, 1) := by decide +kernel
theorem dL_law_1132 : decode cL_law 1132 = .ok (.iadd, 1) := by decide +kernel
theorem dL_law_1133 : decode cL_law 1133 = .ok (.iaload, 1) := by decide +kernel
theorem dL_law_1134 : decode cL_law 1134 = .ok (.invokevirtual 143, 3) := by decide +kernel
theorem dL_law_1137 : decode cL_law 1137 = .ok (.aload_n 2, 1) := by decide +kernel
theorem dL_law_1138 : decode cL_law 1138 = .ok (.aload_n 0, 1) := by decide +kernel
theorem dL_law_1139 : decode cL_law 1139 = .ok (.iload_n 3, 1) := by decide +kernel
theorem dL_law_1140 : decode cL_law 1140 = .ok (.iconst 1, 1) := by decide +kernel
theorem dL_law_1141 : decode cL_law 1141 = .ok (.iadd, 1) := by decide +kernel
theorem dL_law_1142 : decode cL_law 1142 = .ok (.iaload, 1) := by decide +kernel
theorem dL_law_1143 : decode cL_law 1143 = .ok (.invokevirtual 146, 3) := by decide +kernel
theorem dL_law_1146 : decode cL_law 1146 = .ok (.if_icmp .eq 88, 3) := by decide +kernel
theorem dL_law_1149 : decode cL_law 1149 = .ok (.iconst 0, 1) := by decide +kernel
theorem dL_law_1150 : decode cL_law 1150 = .ok (.ireturn, 1) := by decide +kernel
theorem dL_law_1151 : decode cL_law 1151 = .ok (.aload_n 1, 1) := by decide +kernel
theorem dL_law_1152 : decode cL_law 1152 = .ok (.aload_n 0, 1) := by decide +kernel
theorem dL_law_1153 : decode cL_law 1153 = .ok (.iload_n 3, 1) := by decide +kernel
theorem dL_law_1154 : decode cL_law 1154 = .ok (.iconst 1, 1) := by decide +kernel
theorem dL_law_1155 : decode cL_law 1155 = .ok (.iadd, 1) := by decide +kernel
theorem dL_law_1156 : decode cL_law 1156 = .ok (.iaload, 1) := by decide +kernel
theorem dL_law_1157 : decode cL_law 1157 = .ok (.invokevirtual 147, 3) := by decide +kernel
theorem dL_law_1160 : decode cL_law 1160 = .ok (.aload_n 2, 1) := by decide +kernel
theorem dL_law_1161 : decode cL_law 1161 = .ok (.aload_n 0, 1) := by decide +kernel
theorem dL_law_1162 : decode cL_law 1162 = .ok (.iload_n 3, 1) := by decide +kernel
theorem dL_law_1163 : decode cL_law 1163 = .ok (.iconst 1, 1) := by decide +kernel
theorem dL_law_1164 : decode cL_law 1164 = .ok (.iadd, 1) := by decide +kernel
theorem dL_law_1165 : decode cL_law 1165 = .ok (.iaload, 1) := by decide +kernel
theorem dL_law_1166 : decode cL_law 1166 = .ok (.invokevirtual 150, 3) := by decide +kernel
theorem dL_law_1169 : decode cL_law 1169 = .ok (.if_icmp .eq 65, 3) := by decide +kernel
theorem dL_law_1172 : decode cL_law 1172 = .ok (.iconst 0, 1) := by decide +kernel
theorem dL_law_1173 : decode cL_law 1173 = .ok (.ireturn, 1) := by decide +kernel
theorem dL_law_1174 : decode cL_law 1174 = .ok (.aload_n 1, 1) := by decide +kernel
theorem dL_law_1175 : decode cL_law 1175 = .ok (.aload_n 0, 1) := by decide +kernel
theorem dL_law_1176 : decode cL_law 1176 = .ok (.iload_n 3, 1) := by decide +kernel
theorem dL_law_1177 : decode cL_law 1177 = .ok (.iconst 1, 1) := by decide +kernel
theorem dL_law_1178 : decode cL_law 1178 = .ok (.iadd, 1) := by decide +kernel
theorem dL_law_1179 : decode cL_law 1179 = .ok (.iaload, 1) := by decide +kernel
theorem dL_law_1180 : decode cL_law 1180 = .ok (.invokevirtual 151, 3) := by decide +kernel
theorem dL_law_1183 : decode cL_law 1183 = .ok (.aload_n 2, 1) := by decide +kernel
theorem dL_law_1184 : decode cL_law 1184 = .ok (.aload_n 0, 1) := by decide +kernel
theorem dL_law_1185 : decode cL_law 1185 = .ok (.iload_n 3, 1) := by decide +kernel
theorem dL_law_1186 : decode cL_law 1186 = .ok (.iconst 1, 1) := by decide +kernel
theorem dL_law_1187 : decode cL_law 1187 = .ok (.iadd, 1) := by decide +kernel
theorem dL_law_1188 : decode cL_law 1188 = .ok (.iaload, 1) := by decide +kernel
theorem dL_law_1189 : decode cL_law 1189 = .ok (.invokevirtual 154, 3) := by decide +kernel
theorem dL_law_1192 : decode cL_law 1192 = .ok (.if_icmp .eq 42, 3) := by decide +kernel
theorem dL_law_1195 : decode cL_law 1195 = .ok (.iconst 0, 1) := by decide +kernel
theorem dL_law_1196 : decode cL_law 1196 = .ok (.ireturn, 1) := by decide +kernel
theorem dL_law_1197 : decode cL_law 1197 = .ok (.aload_n 1, 1) := by decide +kernel
theorem dL_law_1198 : decode cL_law 1198 = .ok (.aload_n 0, 1) := by decide +kernel
theorem dL_law_1199 : decode cL_law 1199 = .ok (.iload_n 3, 1) := by decide +kernel
theorem dL_law_1200 : decode cL_law 1200 = .ok (.iconst 1, 1) := by decide +kernel
theorem dL_law_1201 : decode cL_law 1201 = .ok (.iadd, 1) := by decide +kernel
theorem dL_law_1202 : decode cL_law 1202 = .ok (.iaload, 1) := by decide +kernel
theorem dL_law_1203 : decode cL_law 1203 = .ok (.invokevirtual 155, 3) := by decide +kernel
theorem dL_law_1206 : decode cL_law 1206 = .ok (.aload_n 2, 1) := by decide +kernel
theorem dL_law_1207 : decode cL_law 1207 = .ok (.aload_n 0, 1) := by decide +kernel
theorem dL_law_1208 : decode cL_law 1208 = .ok (.iload_n 3, 1) := by decide +kernel
theorem dL_law_1209 : decode cL_law 1209 = .ok (.iconst 1, 1) := by decide +kernel
theorem dL_law_1210 : decode cL_law 1210 = .ok (.iadd, 1) := by decide +kernel
theorem dL_law_1211 : decode cL_law 1211 = .ok (.iaload, 1) := by decide +kernel
theorem dL_law_1212 : decode cL_law 1212 = .ok (.invokevirtual 158, 3) := by decide +kernel
theorem dL_law_1215 : decode cL_law 1215 = .ok (.if_icmp .eq 19, 3) := by decide +kernel
theorem dL_law_1218 : decode cL_law 1218 = .ok (.iconst 0, 1) := by decide +kernel
theorem dL_law_1219 : decode cL_law 1219 = .ok (.ireturn, 1) := by decide +kernel
theorem dL_law_1220 : decode cL_law 1220 = .ok (.aload_n 1, 1) := by decide +kernel
theorem dL_law_1221 : decode cL_law 1221 = .ok (.invokevirtual 159, 3) := by decide +kernel
theorem dL_law_1224 : decode cL_law 1224 = .ok (.aload_n 2, 1) := by decide +kernel
theorem dL_law_1225 : decode cL_law 1225 = .ok (.invokevirtual 163, 3) := by decide +kernel
theorem dL_law_1228 : decode cL_law 1228 = .ok (.lcmp, 1) := by decide +kernel
theorem dL_law_1229 : decode cL_law 1229 = .ok (.ifCond .eq 5, 3) := by decide +kernel
theorem dL_law_1232 : decode cL_law 1232 = .ok (.iconst 0, 1) := by decide +kernel
theorem dL_law_1233 : decode cL_law 1233 = .ok (.ireturn, 1) := by decide +kernel
theorem dL_law_1234 : decode cL_law 1234 = .ok (.iinc 3 4, 3) := by decide +kernel
theorem dL_law_1237 : decode cL_law 1237 = .ok (.goto (-1219), 3) := by decide +kernel
theorem dL_law_1240 : decode cL_law 1240 = .ok (.iconst 1, 1) := by decide +kernel
theorem dL_law_1241 : decode cL_law 1241 = .ok (.ireturn, 1) := by decide +kernel
noncomputable def f_law (xs : Nat → Int32) (len : Nat) (μ : Mem) : Option (Int32 × Mem) :=
  bdr (lp (ε := (Mem) ⊕ (Int32 × Mem)) (cu2 fun (x3_1 : Int32) (ν2 : Mem) =>
    if ((Int32.ofNat len) - 4) < x3_1 then
      some (.inr (.inl ν2))
    else
      chk x3_1 len (
        jn (fun (ν5 : Mem) =>
          some (.inl ((x3_1 + 4), ν5))
          ) fun j6 =>
        if ((xs (ix x3_1)) &&& 63) = 0 then
          chk (x3_1 + 1) len (
            bd2 (f_X10_county (xs (ix (x3_1 + 1))) ν2) fun r7 ν8 =>
            chk (x3_1 + 1) len (
              bd2 (f_X11_county (xs (ix (x3_1 + 1))) ν8) fun r9 ν10 =>
              if r7 = r9 then
                j6 ν10
              else
                some (.inr (.inr (0, ν10)))
              )
            )
        else
        if ((xs (ix x3_1)) &&& 63) = 1 then
          chk (x3_1 + 1) len (
            chk (x3_1 + 2) len (
              chk (x3_1 + 3) len (
                bd2 (f_X10_lot (xs (ix (x3_1 + 1))) (xs (ix (x3_1 + 2))) (xs (ix (x3_1 + 3))) ν2) fun r12 ν13 =>
                chk (x3_1 + 1) len (
                  chk (x3_1 + 2) len (
                    chk (x3_1 + 3) len (
                      bd2 (f_X11_lot (xs (ix (x3_1 + 1))) (xs (ix (x3_1 + 2))) (xs (ix (x3_1 + 3))) ν13) fun r14 ν15 =>
                      if r12 = r14 then
                        j6 ν15
                      else
                        some (.inr (.inr (0, ν15)))
                      )
                    )
                  )
                )
              )
            )
        else
        if ((xs (ix x3_1)) &&& 63) = 2 then
          chk (x3_1 + 1) len (
            chk (x3_1 + 2) len (
              bd2 (f_X10_move (xs (ix (x3_1 + 1))) (xs (ix (x3_1 + 2))) ν2) fun r17 ν18 =>
              chk (x3_1 + 1) len (
                chk (x3_1 + 2) len (
                  bd2 (f_X11_move (xs (ix (x3_1 + 1))) (xs (ix (x3_1 + 2))) ν18) fun r19 ν20 =>
                  if r17 = r19 then
                    j6 ν20
                  else
                    some (.inr (.inr (0, ν20)))
                  )
                )
              )
            )
        else
        if ((xs (ix x3_1)) &&& 63) = 3 then
          chk (x3_1 + 1) len (
            chk (x3_1 + 2) len (
              chk (x3_1 + 3) len (
                bd2 (f_X10_drive (xs (ix (x3_1 + 1))) (xs (ix (x3_1 + 2))) (xs (ix (x3_1 + 3))) ν2) fun r22 ν23 =>
                chk (x3_1 + 1) len (
                  chk (x3_1 + 2) len (
                    chk (x3_1 + 3) len (
                      bd2 (f_X11_drive (xs (ix (x3_1 + 1))) (xs (ix (x3_1 + 2))) (xs (ix (x3_1 + 3))) ν23) fun r24 ν25 =>
                      if r22 = r24 then
                        j6 ν25
                      else
                        some (.inr (.inr (0, ν25)))
                      )
                    )
                  )
                )
              )
            )
        else
        if ((xs (ix x3_1)) &&& 63) = 4 then
          bd2 (f_X10_drop  ν2) fun r27 ν28 =>
          bd2 (f_X11_drop  ν28) fun r29 ν30 =>
          if r27 = r29 then
            j6 ν30
          else
            some (.inr (.inr (0, ν30)))
        else
        if ((xs (ix x3_1)) &&& 63) = 5 then
          chk (x3_1 + 1) len (
            bd2 (f_X10_growth (xs (ix (x3_1 + 1))) ν2) fun r32 ν33 =>
            chk (x3_1 + 1) len (
              bd2 (f_X11_growth (xs (ix (x3_1 + 1))) ν33) fun r34 ν35 =>
              if r32 = r34 then
                j6 ν35
              else
                some (.inr (.inr (0, ν35)))
              )
            )
        else
        if ((xs (ix x3_1)) &&& 63) = 6 then
          chk (x3_1 + 1) len (
            chk (x3_1 + 2) len (
              bd2 (f_X10_cloud (xs (ix (x3_1 + 1))) (xs (ix (x3_1 + 2))) ν2) fun r37 ν38 =>
              chk (x3_1 + 1) len (
                chk (x3_1 + 2) len (
                  bd2 (f_X11_cloud (xs (ix (x3_1 + 1))) (xs (ix (x3_1 + 2))) ν38) fun r39 ν40 =>
                  if r37 = r39 then
                    j6 ν40
                  else
                    some (.inr (.inr (0, ν40)))
                  )
                )
              )
            )
        else
        if ((xs (ix x3_1)) &&& 63) = 7 then
          chk (x3_1 + 1) len (
            chk (x3_1 + 2) len (
              bd2 (f_X10_road (xs (ix (x3_1 + 1))) (xs (ix (x3_1 + 2))) ν2) fun r42 ν43 =>
              chk (x3_1 + 1) len (
                chk (x3_1 + 2) len (
                  bd2 (f_X11_road (xs (ix (x3_1 + 1))) (xs (ix (x3_1 + 2))) ν43) fun r44 ν45 =>
                  if r42 = r44 then
                    j6 ν45
                  else
                    some (.inr (.inr (0, ν45)))
                  )
                )
              )
            )
        else
        if ((xs (ix x3_1)) &&& 63) = 8 then
          chk (x3_1 + 1) len (
            chk (x3_1 + 2) len (
              jn (fun (y47 : Int32) =>
                bd2 (f_X10_guard (xs (ix (x3_1 + 1))) y47 ν2) fun r49 ν50 =>
                chk (x3_1 + 1) len (
                  chk (x3_1 + 2) len (
                    jn (fun (y51 : Int32) =>
                      bd2 (f_X11_guard (xs (ix (x3_1 + 1))) y51 ν50) fun r53 ν54 =>
                      if r49 = r53 then
                        j6 ν54
                      else
                        some (.inr (.inr (0, ν54)))
                      ) fun j52 =>
                    if (xs (ix (x3_1 + 2))) = 0 then
                      j52 0
                    else
                      j52 1
                    )
                  )
                ) fun j48 =>
              if (xs (ix (x3_1 + 2))) = 0 then
                j48 0
              else
                j48 1
              )
            )
        else
        if ((xs (ix x3_1)) &&& 63) = 9 then
          chk (x3_1 + 1) len (
            bd2 (f_X10_type (xs (ix (x3_1 + 1))) ν2) fun r56 ν57 =>
            chk (x3_1 + 1) len (
              bd2 (f_X11_type (xs (ix (x3_1 + 1))) ν57) fun r58 ν59 =>
              if r56 = r58 then
                j6 ν59
              else
                some (.inr (.inr (0, ν59)))
              )
            )
        else
        if ((xs (ix x3_1)) &&& 63) = 10 then
          bd2 (f_X10_clear  ν2) fun r61 ν62 =>
          bd2 (f_X11_clear  ν62) fun r63 ν64 =>
          if r61 = r63 then
            j6 ν64
          else
            some (.inr (.inr (0, ν64)))
        else
        if ((xs (ix x3_1)) &&& 63) = 11 then
          bd2 (f_X10_read  ν2) fun r66 ν67 =>
          bd2 (f_X11_read  ν67) fun r68 ν69 =>
          if r66 = r68 then
            j6 ν69
          else
            some (.inr (.inr (0, ν69)))
        else
        if ((xs (ix x3_1)) &&& 63) = 12 then
          chk (x3_1 + 1) len (
            chk (x3_1 + 2) len (
              jn (fun (y71 : Int32) =>
                bd2 (f_X10_moon (xs (ix (x3_1 + 1))) y71 ν2) fun r73 ν74 =>
                chk (x3_1 + 1) len (
                  chk (x3_1 + 2) len (
                    jn (fun (y75 : Int32) =>
                      bd2 (f_X11_moon (xs (ix (x3_1 + 1))) y75 ν74) fun r77 ν78 =>
                      if r73 = r77 then
                        j6 ν78
                      else
                        some (.inr (.inr (0, ν78)))
                      ) fun j76 =>
                    if (xs (ix (x3_1 + 2))) = 0 then
                      j76 0
                    else
                      j76 1
                    )
                  )
                ) fun j72 =>
              if (xs (ix (x3_1 + 2))) = 0 then
                j72 0
              else
                j72 1
              )
            )
        else
        if ((xs (ix x3_1)) &&& 63) = 13 then
          bd2 (f_X10_undo  ν2) fun r80 ν81 =>
          bd2 (f_X11_undo  ν81) fun r82 ν83 =>
          if r80 = r82 then
            j6 ν83
          else
            some (.inr (.inr (0, ν83)))
        else
        if ((xs (ix x3_1)) &&& 63) = 14 then
          chk (x3_1 + 1) len (
            chk (x3_1 + 2) len (
              bd2 (f_X10_of (xs (ix (x3_1 + 1))) (xs (ix (x3_1 + 2))) ν2) fun r85 ν86 =>
              chk (x3_1 + 1) len (
                chk (x3_1 + 2) len (
                  bd2 (f_X11_of (xs (ix (x3_1 + 1))) (xs (ix (x3_1 + 2))) ν86) fun r87 ν88 =>
                  if r85 = r87 then
                    j6 ν88
                  else
                    some (.inr (.inr (0, ν88)))
                  )
                )
              )
            )
        else
        if ((xs (ix x3_1)) &&& 63) = 15 then
          chk (x3_1 + 1) len (
            chk (x3_1 + 2) len (
              bd2 (f_X10_village (xs (ix (x3_1 + 1))) (xs (ix (x3_1 + 2))) ν2) fun r90 ν91 =>
              chk (x3_1 + 1) len (
                chk (x3_1 + 2) len (
                  bd2 (f_X11_village (xs (ix (x3_1 + 1))) (xs (ix (x3_1 + 2))) ν91) fun r92 ν93 =>
                  if r90 = r92 then
                    j6 ν93
                  else
                    some (.inr (.inr (0, ν93)))
                  )
                )
              )
            )
        else
        if ((xs (ix x3_1)) &&& 63) = 16 then
          chk (x3_1 + 1) len (
            bd2 (f_X10_greatest (xs (ix (x3_1 + 1))) ν2) fun r95 ν96 =>
            chk (x3_1 + 1) len (
              bd2 (f_X11_greatest (xs (ix (x3_1 + 1))) ν96) fun r97 ν98 =>
              if r95 = r97 then
                j6 ν98
              else
                some (.inr (.inr (0, ν98)))
              )
            )
        else
        if ((xs (ix x3_1)) &&& 63) = 17 then
          chk (x3_1 + 1) len (
            chk (x3_1 + 2) len (
              chk (x3_1 + 3) len (
                bd2 (f_X10_least (xs (ix (x3_1 + 1))) (xs (ix (x3_1 + 2))) (xs (ix (x3_1 + 3))) ν2) fun r100 ν101 =>
                chk (x3_1 + 1) len (
                  chk (x3_1 + 2) len (
                    chk (x3_1 + 3) len (
                      bd2 (f_X11_least (xs (ix (x3_1 + 1))) (xs (ix (x3_1 + 2))) (xs (ix (x3_1 + 3))) ν101) fun r102 ν103 =>
                      if r100 = r102 then
                        j6 ν103
                      else
                        some (.inr (.inr (0, ν103)))
                      )
                    )
                  )
                )
              )
            )
        else
        if ((xs (ix x3_1)) &&& 63) = 18 then
          chk (x3_1 + 1) len (
            bd2 (f_X10_chance (xs (ix (x3_1 + 1))) ν2) fun r105 ν106 =>
            chk (x3_1 + 1) len (
              bd2 (f_X11_chance (xs (ix (x3_1 + 1))) ν106) fun r107 ν108 =>
              if r105 = r107 then
                j6 ν108
              else
                some (.inr (.inr (0, ν108)))
              )
            )
        else
        if ((xs (ix x3_1)) &&& 63) = 19 then
          chk (x3_1 + 1) len (
            bd2 (f_X10_mean (xs (ix (x3_1 + 1))) ν2) fun r110 ν111 =>
            chk (x3_1 + 1) len (
              bd2 (f_X11_mean (xs (ix (x3_1 + 1))) ν111) fun r112 ν113 =>
              if r110 = r112 then
                j6 ν113
              else
                some (.inr (.inr (0, ν113)))
              )
            )
        else
        if ((xs (ix x3_1)) &&& 63) = 20 then
          chk (x3_1 + 1) len (
            chk (x3_1 + 2) len (
              bd2 (f_X10_painting (xs (ix (x3_1 + 1))) (xs (ix (x3_1 + 2))) ν2) fun r115 ν116 =>
              chk (x3_1 + 1) len (
                chk (x3_1 + 2) len (
                  bd2 (f_X11_painting (xs (ix (x3_1 + 1))) (xs (ix (x3_1 + 2))) ν116) fun r117 ν118 =>
                  if r115 = r117 then
                    j6 ν118
                  else
                    some (.inr (.inr (0, ν118)))
                  )
                )
              )
            )
        else
        if ((xs (ix x3_1)) &&& 63) = 21 then
          chk (x3_1 + 1) len (
            chk (x3_1 + 2) len (
              bd2 (f_X10_unseen (xs (ix (x3_1 + 1))) (xs (ix (x3_1 + 2))) ν2) fun r120 ν121 =>
              chk (x3_1 + 1) len (
                chk (x3_1 + 2) len (
                  bd2 (f_X11_unseen (xs (ix (x3_1 + 1))) (xs (ix (x3_1 + 2))) ν121) fun r122 ν123 =>
                  if r120 = r122 then
                    j6 ν123
                  else
                    some (.inr (.inr (0, ν123)))
                  )
                )
              )
            )
        else
        if ((xs (ix x3_1)) &&& 63) = 22 then
          chk (x3_1 + 1) len (
            chk (x3_1 + 2) len (
              chk (x3_1 + 3) len (
                bd2 (f_X10_cut (xs (ix (x3_1 + 1))) (xs (ix (x3_1 + 2))) (xs (ix (x3_1 + 3))) ν2) fun r125 ν126 =>
                chk (x3_1 + 1) len (
                  chk (x3_1 + 2) len (
                    chk (x3_1 + 3) len (
                      bd2 (f_X11_cut (xs (ix (x3_1 + 1))) (xs (ix (x3_1 + 2))) (xs (ix (x3_1 + 3))) ν126) fun r127 ν128 =>
                      if r125 = r127 then
                        j6 ν128
                      else
                        some (.inr (.inr (0, ν128)))
                      )
                    )
                  )
                )
              )
            )
        else
        if ((xs (ix x3_1)) &&& 63) = 23 then
          chk (x3_1 + 1) len (
            chk (x3_1 + 2) len (
              chk (x3_1 + 3) len (
                bd2 (f_X10_game (xs (ix (x3_1 + 1))) (xs (ix (x3_1 + 2))) (xs (ix (x3_1 + 3))) ν2) fun r130 ν131 =>
                chk (x3_1 + 1) len (
                  chk (x3_1 + 2) len (
                    chk (x3_1 + 3) len (
                      bd2 (f_X11_game (xs (ix (x3_1 + 1))) (xs (ix (x3_1 + 2))) (xs (ix (x3_1 + 3))) ν131) fun r132 ν133 =>
                      if r130 = r132 then
                        j6 ν133
                      else
                        some (.inr (.inr (0, ν133)))
                      )
                    )
                  )
                )
              )
            )
        else
        if ((xs (ix x3_1)) &&& 63) = 24 then
          chk (x3_1 + 1) len (
            bd2 (f_X10_league (xs (ix (x3_1 + 1))) ν2) fun r135 ν136 =>
            chk (x3_1 + 1) len (
              bd2 (f_X11_league (xs (ix (x3_1 + 1))) ν136) fun r137 ν138 =>
              if r135 = r137 then
                j6 ν138
              else
                some (.inr (.inr (0, ν138)))
              )
            )
        else
        if ((xs (ix x3_1)) &&& 63) = 25 then
          chk (x3_1 + 1) len (
            bd2 (f_X10_share (xs (ix (x3_1 + 1))) ν2) fun r140 ν141 =>
            chk (x3_1 + 1) len (
              bd2 (f_X11_share (xs (ix (x3_1 + 1))) ν141) fun r142 ν143 =>
              if r140 = r142 then
                j6 ν143
              else
                some (.inr (.inr (0, ν143)))
              )
            )
        else
        if ((xs (ix x3_1)) &&& 63) = 26 then
          chk (x3_1 + 1) len (
            chk (x3_1 + 2) len (
              bd2 (f_X10_pays (xs (ix (x3_1 + 1))) (xs (ix (x3_1 + 2))) ν2) fun r145 ν146 =>
              chk (x3_1 + 1) len (
                chk (x3_1 + 2) len (
                  bd2 (f_X11_pays (xs (ix (x3_1 + 1))) (xs (ix (x3_1 + 2))) ν146) fun r147 ν148 =>
                  if r145 = r147 then
                    j6 ν148
                  else
                    some (.inr (.inr (0, ν148)))
                  )
                )
              )
            )
        else
        if ((xs (ix x3_1)) &&& 63) = 27 then
          chk (x3_1 + 1) len (
            chk (x3_1 + 2) len (
              bd2 (f_X10_told (xs (ix (x3_1 + 1))) (xs (ix (x3_1 + 2))) ν2) fun r150 ν151 =>
              chk (x3_1 + 1) len (
                chk (x3_1 + 2) len (
                  bd2 (f_X11_told (xs (ix (x3_1 + 1))) (xs (ix (x3_1 + 2))) ν151) fun r152 ν153 =>
                  if r150 = r152 then
                    j6 ν153
                  else
                    some (.inr (.inr (0, ν153)))
                  )
                )
              )
            )
        else
        if ((xs (ix x3_1)) &&& 63) = 28 then
          chk (x3_1 + 1) len (
            chk (x3_1 + 2) len (
              bd2 (f_X10_fit (xs (ix (x3_1 + 1))) (xs (ix (x3_1 + 2))) ν2) fun r155 ν156 =>
              chk (x3_1 + 1) len (
                chk (x3_1 + 2) len (
                  bd2 (f_X11_fit (xs (ix (x3_1 + 1))) (xs (ix (x3_1 + 2))) ν156) fun r157 ν158 =>
                  if r155 = r157 then
                    j6 ν158
                  else
                    some (.inr (.inr (0, ν158)))
                  )
                )
              )
            )
        else
        if ((xs (ix x3_1)) &&& 63) = 29 then
          chk (x3_1 + 1) len (
            chk (x3_1 + 2) len (
              bd2 (f_X10_drawn (xs (ix (x3_1 + 1))) (xs (ix (x3_1 + 2))) ν2) fun r160 ν161 =>
              chk (x3_1 + 1) len (
                chk (x3_1 + 2) len (
                  bd2 (f_X11_drawn (xs (ix (x3_1 + 1))) (xs (ix (x3_1 + 2))) ν161) fun r162 ν163 =>
                  if r160 = r162 then
                    j6 ν163
                  else
                    some (.inr (.inr (0, ν163)))
                  )
                )
              )
            )
        else
        if ((xs (ix x3_1)) &&& 63) = 30 then
          chk (x3_1 + 1) len (
            bd2 (f_X10_part (xs (ix (x3_1 + 1))) ν2) fun r165 ν166 =>
            chk (x3_1 + 1) len (
              bd2 (f_X11_part (xs (ix (x3_1 + 1))) ν166) fun r167 ν168 =>
              if r165 = r167 then
                j6 ν168
              else
                some (.inr (.inr (0, ν168)))
              )
            )
        else
        if ((xs (ix x3_1)) &&& 63) = 31 then
          chk (x3_1 + 1) len (
            bd2 (f_X10_image (xs (ix (x3_1 + 1))) ν2) fun r170 ν171 =>
            chk (x3_1 + 1) len (
              bd2 (f_X11_image (xs (ix (x3_1 + 1))) ν171) fun r172 ν173 =>
              if r170 = r172 then
                j6 ν173
              else
                some (.inr (.inr (0, ν173)))
              )
            )
        else
        if ((xs (ix x3_1)) &&& 63) = 32 then
          chk (x3_1 + 1) len (
            bd2 (f_X10_from (xs (ix (x3_1 + 1))) ν2) fun r175 ν176 =>
            chk (x3_1 + 1) len (
              bd2 (f_X11_from (xs (ix (x3_1 + 1))) ν176) fun r177 ν178 =>
              if r175 = r177 then
                j6 ν178
              else
                some (.inr (.inr (0, ν178)))
              )
            )
        else
        if ((xs (ix x3_1)) &&& 63) = 33 then
          chk (x3_1 + 1) len (
            bd2 (f_X10_status (xs (ix (x3_1 + 1))) ν2) fun r180 ν181 =>
            chk (x3_1 + 1) len (
              bd2 (f_X11_status (xs (ix (x3_1 + 1))) ν181) fun r182 ν183 =>
              if r180 = r182 then
                j6 ν183
              else
                some (.inr (.inr (0, ν183)))
              )
            )
        else
        if ((xs (ix x3_1)) &&& 63) = 34 then
          chk (x3_1 + 1) len (
            bd2 (f_X10_count (xs (ix (x3_1 + 1))) ν2) fun r185 ν186 =>
            chk (x3_1 + 1) len (
              bd2 (f_X11_count (xs (ix (x3_1 + 1))) ν186) fun r187 ν188 =>
              if r185 = r187 then
                j6 ν188
              else
                some (.inr (.inr (0, ν188)))
              )
            )
        else
        if ((xs (ix x3_1)) &&& 63) = 35 then
          bd (f_X10_digest  ν2) fun r190 =>
          bd (f_X11_digest  ν2) fun r191 =>
          if r190 = r191 then
            j6 ν2
          else
            some (.inr (.inr (0, ν2)))
        else
        j6 ν2
        )
    ) (0, μ)) (fun (ν3 : Mem) =>
    some (1, ν3)
    ) (fun r => some (r))
set_option maxHeartbeats 8000000 in
set_option maxRecDepth 100000 in
theorem law_sim {g : GT} {G : GP} {scr len : Nat} {xs : Nat → Int32} {μ μ0 : Mem} {r0 : Int32} (hXs : CXs g G cL_law RL 4 20 scr len xs) (hR : ∀ pc lv, decode cL_law pc = .ok (.ireturn, 1) → (r0 = 0 ∨ r0 = 1) → G pc lv [.int r0] μ0) (K : (Int32 × Mem) → Prop) (hK : ∀ a, K a → a = (r0, μ0)) : Sim G (f_law xs len μ) K 18 [(3, .int 0), (2, rf g 112), (1, rf g 0), (0, Value.ref scr)] [] μ := by
  have hX : CX g G cL_law RL 4 20 := hXs.X
  unfold f_law
  refine s_loopR hX 18 1240 (fun s : Int32 × Mem => [(0, Value.ref scr), (1, rf g 0), (2, rf g 112), (3, .int s.1)]) (fun s : Int32 × Mem => s.2) (fun s : Mem => []) (fun s : Mem => s) [3, 2, 1, 0] rfl rfl rfl (fun r => r = (r0, μ0)) (fun r a h k => by cases h; exact hK _ k) ?_ ?_
  · intro Kq4 hIq4 hJq4 hKq4 sq
    obtain ⟨x3_1, ν2⟩ := sq
    refine s_cu2 ?_
    show Sim G _ _ 18 [(0, Value.ref scr), (1, rf g 0), (2, rf g 112), (3, .int x3_1)] [] ν2
    refine s_iload_n hX dL_law_18 rfl 3 rfl ?_
    refine s_xload_n hX dL_law_19 rfl 0 rfl ?_
    refine s_slen hXs dL_law_20 ?_
    refine s_iconst (v := 4) hX dL_law_21 (by decide) ?_
    refine s_isub hX dL_law_22 ?_
    refine s_icmp_gt hX 1240 dL_law_23 (by decide) ?_ ?_
    · exact s_end hX (hJq4 ν2) [] rfl
    · refine s_xload_n hX dL_law_26 rfl 0 rfl ?_
      refine s_iload_n hX dL_law_27 rfl 3 rfl ?_
      refine s_sld hXs dL_law_28 ?_
      refine s_bipush (v := 63) hX dL_law_29 (by decide) ?_
      refine s_iand hX dL_law_31 ?_
      refine s_jn (C := fun j => ∀ (ν5 : Mem), Sim G (j ν5) Kq4 1234 [(0, Value.ref scr), (1, rf g 0), (2, rf g 112), (3, .int x3_1)] [] ν5) ?_ (fun j6 hj6 => ?_)
      · intro ν5
        show Sim G _ _ 1234 [(0, Value.ref scr), (1, rf g 0), (2, rf g 112), (3, .int x3_1)] [] ν5
        refine s_iinc (v := (x3_1 + 4)) (lv' := [(3, .int (x3_1 + 4)), (0, Value.ref scr), (1, rf g 0), (2, rf g 112)]) hX dL_law_1234 3 rfl rfl (by decide) rfl ?_
        refine s_goto hX 18 dL_law_1237 (by decide) ?_
        exact s_end hX (hIq4 ((x3_1 + 4), ν5)) [1, 2, 3, 0] rfl
      refine s_tabC (v := 0) (a := 0) hX 192 dL_law_32 (by decide) (by decide) (by decide) rfl (by decide) ?_ (fun hne11 => ?_)
      · refine s_aload_n hX dL_law_192 rfl 1 rfl ?_
        refine s_xload_n hX dL_law_193 rfl 0 rfl ?_
        refine s_iload_n hX dL_law_194 rfl 3 rfl ?_
        refine s_iconst (v := 1) hX dL_law_195 (by decide) ?_
        refine s_iadd hX dL_law_196 ?_
        refine s_sld hXs dL_law_197 ?_
        refine s_callViw hX [.int (xs (ix (x3_1 + 1)))] (k := 0) (ci := 9) rfl hc9 vkX10_county (fun r ν hF => c_X10_county  hF) mkX10_county cvL_13 rfl rfl ⟨by omega, by decide, Nat.le_of_ble_eq_true rfl⟩ dL_law_198 (fun r7 ν8 => ?_)
        refine s_aload_n hX dL_law_201 rfl 2 rfl ?_
        refine s_xload_n hX dL_law_202 rfl 0 rfl ?_
        refine s_iload_n hX dL_law_203 rfl 3 rfl ?_
        refine s_iconst (v := 1) hX dL_law_204 (by decide) ?_
        refine s_iadd hX dL_law_205 ?_
        refine s_sld hXs dL_law_206 ?_
        refine s_callViw hX [.int (xs (ix (x3_1 + 1)))] (k := 112) (ci := 10) rfl hc10 vkX11_county (fun r ν hF => c_X11_county  hF) mkX11_county cvL_17 rfl rfl ⟨by omega, by decide, Nat.le_of_ble_eq_true rfl⟩ dL_law_207 (fun r9 ν10 => ?_)
        refine s_icmp_eq hX 1234 dL_law_210 (by decide) ?_ ?_
        · exact s_to hX [0, 1, 2, 3] rfl (hj6 ν10)
        · refine s_iconst (v := 0) hX dL_law_213 (by decide) ?_
          exact s_zreti (by decide) hKq4 hR dL_law_214
      refine s_tabC (v := 1) (a := 1) hX 215 dL_law_32 (by decide) (by decide) (by decide) rfl (by decide) ?_ (fun hne16 => ?_)
      · refine s_aload_n hX dL_law_215 rfl 1 rfl ?_
        refine s_xload_n hX dL_law_216 rfl 0 rfl ?_
        refine s_iload_n hX dL_law_217 rfl 3 rfl ?_
        refine s_iconst (v := 1) hX dL_law_218 (by decide) ?_
        refine s_iadd hX dL_law_219 ?_
        refine s_sld hXs dL_law_220 ?_
        refine s_xload_n hX dL_law_221 rfl 0 rfl ?_
        refine s_iload_n hX dL_law_222 rfl 3 rfl ?_
        refine s_iconst (v := 2) hX dL_law_223 (by decide) ?_
        refine s_iadd hX dL_law_224 ?_
        refine s_sld hXs dL_law_225 ?_
        refine s_xload_n hX dL_law_226 rfl 0 rfl ?_
        refine s_iload_n hX dL_law_227 rfl 3 rfl ?_
        refine s_iconst (v := 3) hX dL_law_228 (by decide) ?_
        refine s_iadd hX dL_law_229 ?_
        refine s_sld hXs dL_law_230 ?_
        refine s_callViw hX [.int (xs (ix (x3_1 + 1))), .int (xs (ix (x3_1 + 2))), .int (xs (ix (x3_1 + 3)))] (k := 0) (ci := 9) rfl hc9 vkX10_lot (fun r ν hF => c_X10_lot  hF) mkX10_lot cvL_18 rfl rfl ⟨by omega, by decide, Nat.le_of_ble_eq_true rfl⟩ dL_law_231 (fun r12 ν13 => ?_)
        refine s_aload_n hX dL_law_234 rfl 2 rfl ?_
        refine s_xload_n hX dL_law_235 rfl 0 rfl ?_
        refine s_iload_n hX dL_law_236 rfl 3 rfl ?_
        refine s_iconst (v := 1) hX dL_law_237 (by decide) ?_
        refine s_iadd hX dL_law_238 ?_
        refine s_sld hXs dL_law_239 ?_
        refine s_xload_n hX dL_law_240 rfl 0 rfl ?_
        refine s_iload_n hX dL_law_241 rfl 3 rfl ?_
        refine s_iconst (v := 2) hX dL_law_242 (by decide) ?_
        refine s_iadd hX dL_law_243 ?_
        refine s_sld hXs dL_law_244 ?_
        refine s_xload_n hX dL_law_245 rfl 0 rfl ?_
        refine s_iload_n hX dL_law_246 rfl 3 rfl ?_
        refine s_iconst (v := 3) hX dL_law_247 (by decide) ?_
        refine s_iadd hX dL_law_248 ?_
        refine s_sld hXs dL_law_249 ?_
        refine s_callViw hX [.int (xs (ix (x3_1 + 1))), .int (xs (ix (x3_1 + 2))), .int (xs (ix (x3_1 + 3)))] (k := 112) (ci := 10) rfl hc10 vkX11_lot (fun r ν hF => c_X11_lot  hF) mkX11_lot cvL_22 rfl rfl ⟨by omega, by decide, Nat.le_of_ble_eq_true rfl⟩ dL_law_250 (fun r14 ν15 => ?_)
        refine s_icmp_eq hX 1234 dL_law_253 (by decide) ?_ ?_
        · exact s_to hX [0, 1, 2, 3] rfl (hj6 ν15)
        · refine s_iconst (v := 0) hX dL_law_256 (by decide) ?_
          exact s_zreti (by decide) hKq4 hR dL_law_257
      refine s_tabC (v := 2) (a := 2) hX 258 dL_law_32 (by decide) (by decide) (by decide) rfl (by decide) ?_ (fun hne21 => ?_)
      · refine s_aload_n hX dL_law_258 rfl 1 rfl ?_
        refine s_xload_n hX dL_law_259 rfl 0 rfl ?_
        refine s_iload_n hX dL_law_260 rfl 3 rfl ?_
        refine s_iconst (v := 1) hX dL_law_261 (by decide) ?_
        refine s_iadd hX dL_law_262 ?_
        refine s_sld hXs dL_law_263 ?_
        refine s_xload_n hX dL_law_264 rfl 0 rfl ?_
        refine s_iload_n hX dL_law_265 rfl 3 rfl ?_
        refine s_iconst (v := 2) hX dL_law_266 (by decide) ?_
        refine s_iadd hX dL_law_267 ?_
        refine s_sld hXs dL_law_268 ?_
        refine s_callViw hX [.int (xs (ix (x3_1 + 1))), .int (xs (ix (x3_1 + 2)))] (k := 0) (ci := 9) rfl hc9 vkX10_move (fun r ν hF => c_X10_move  hF) mkX10_move cvL_23 rfl rfl ⟨by omega, by decide, Nat.le_of_ble_eq_true rfl⟩ dL_law_269 (fun r17 ν18 => ?_)
        refine s_aload_n hX dL_law_272 rfl 2 rfl ?_
        refine s_xload_n hX dL_law_273 rfl 0 rfl ?_
        refine s_iload_n hX dL_law_274 rfl 3 rfl ?_
        refine s_iconst (v := 1) hX dL_law_275 (by decide) ?_
        refine s_iadd hX dL_law_276 ?_
        refine s_sld hXs dL_law_277 ?_
        refine s_xload_n hX dL_law_278 rfl 0 rfl ?_
        refine s_iload_n hX dL_law_279 rfl 3 rfl ?_
        refine s_iconst (v := 2) hX dL_law_280 (by decide) ?_
        refine s_iadd hX dL_law_281 ?_
        refine s_sld hXs dL_law_282 ?_
        refine s_callViw hX [.int (xs (ix (x3_1 + 1))), .int (xs (ix (x3_1 + 2)))] (k := 112) (ci := 10) rfl hc10 vkX11_move (fun r ν hF => c_X11_move  hF) mkX11_move cvL_27 rfl rfl ⟨by omega, by decide, Nat.le_of_ble_eq_true rfl⟩ dL_law_283 (fun r19 ν20 => ?_)
        refine s_icmp_eq hX 1234 dL_law_286 (by decide) ?_ ?_
        · exact s_to hX [0, 1, 2, 3] rfl (hj6 ν20)
        · refine s_iconst (v := 0) hX dL_law_289 (by decide) ?_
          exact s_zreti (by decide) hKq4 hR dL_law_290
      refine s_tabC (v := 3) (a := 3) hX 291 dL_law_32 (by decide) (by decide) (by decide) rfl (by decide) ?_ (fun hne26 => ?_)
      · refine s_aload_n hX dL_law_291 rfl 1 rfl ?_
        refine s_xload_n hX dL_law_292 rfl 0 rfl ?_
        refine s_iload_n hX dL_law_293 rfl 3 rfl ?_
        refine s_iconst (v := 1) hX dL_law_294 (by decide) ?_
        refine s_iadd hX dL_law_295 ?_
        refine s_sld hXs dL_law_296 ?_
        refine s_xload_n hX dL_law_297 rfl 0 rfl ?_
        refine s_iload_n hX dL_law_298 rfl 3 rfl ?_
        refine s_iconst (v := 2) hX dL_law_299 (by decide) ?_
        refine s_iadd hX dL_law_300 ?_
        refine s_sld hXs dL_law_301 ?_
        refine s_xload_n hX dL_law_302 rfl 0 rfl ?_
        refine s_iload_n hX dL_law_303 rfl 3 rfl ?_
        refine s_iconst (v := 3) hX dL_law_304 (by decide) ?_
        refine s_iadd hX dL_law_305 ?_
        refine s_sld hXs dL_law_306 ?_
        refine s_callViw hX [.int (xs (ix (x3_1 + 1))), .int (xs (ix (x3_1 + 2))), .int (xs (ix (x3_1 + 3)))] (k := 0) (ci := 9) rfl hc9 vkX10_drive (fun r ν hF => c_X10_drive  hF) mkX10_drive cvL_28 rfl rfl ⟨by omega, by decide, Nat.le_of_ble_eq_true rfl⟩ dL_law_307 (fun r22 ν23 => ?_)
        refine s_aload_n hX dL_law_310 rfl 2 rfl ?_
        refine s_xload_n hX dL_law_311 rfl 0 rfl ?_
        refine s_iload_n hX dL_law_312 rfl 3 rfl ?_
        refine s_iconst (v := 1) hX dL_law_313 (by decide) ?_
        refine s_iadd hX dL_law_314 ?_
        refine s_sld hXs dL_law_315 ?_
        refine s_xload_n hX dL_law_316 rfl 0 rfl ?_
        refine s_iload_n hX dL_law_317 rfl 3 rfl ?_
        refine s_iconst (v := 2) hX dL_law_318 (by decide) ?_
        refine s_iadd hX dL_law_319 ?_
        refine s_sld hXs dL_law_320 ?_
        refine s_xload_n hX dL_law_321 rfl 0 rfl ?_
        refine s_iload_n hX dL_law_322 rfl 3 rfl ?_
        refine s_iconst (v := 3) hX dL_law_323 (by decide) ?_
        refine s_iadd hX dL_law_324 ?_
        refine s_sld hXs dL_law_325 ?_
        refine s_callViw hX [.int (xs (ix (x3_1 + 1))), .int (xs (ix (x3_1 + 2))), .int (xs (ix (x3_1 + 3)))] (k := 112) (ci := 10) rfl hc10 vkX11_drive (fun r ν hF => c_X11_drive  hF) mkX11_drive cvL_31 rfl rfl ⟨by omega, by decide, Nat.le_of_ble_eq_true rfl⟩ dL_law_326 (fun r24 ν25 => ?_)
        refine s_icmp_eq hX 1234 dL_law_329 (by decide) ?_ ?_
        · exact s_to hX [0, 1, 2, 3] rfl (hj6 ν25)
        · refine s_iconst (v := 0) hX dL_law_332 (by decide) ?_
          exact s_zreti (by decide) hKq4 hR dL_law_333
      refine s_tabC (v := 4) (a := 4) hX 334 dL_law_32 (by decide) (by decide) (by decide) rfl (by decide) ?_ (fun hne31 => ?_)
      · refine s_aload_n hX dL_law_334 rfl 1 rfl ?_
        refine s_callViw hX [] (k := 0) (ci := 9) rfl hc9 vkX10_drop (fun r ν hF => c_X10_drop  hF) mkX10_drop cvL_32 rfl rfl ⟨by omega, by decide, Nat.le_of_ble_eq_true rfl⟩ dL_law_335 (fun r27 ν28 => ?_)
        refine s_aload_n hX dL_law_338 rfl 2 rfl ?_
        refine s_callViw hX [] (k := 112) (ci := 10) rfl hc10 vkX11_drop (fun r ν hF => c_X11_drop  hF) mkX11_drop cvL_36 rfl rfl ⟨by omega, by decide, Nat.le_of_ble_eq_true rfl⟩ dL_law_339 (fun r29 ν30 => ?_)
        refine s_icmp_eq hX 1234 dL_law_342 (by decide) ?_ ?_
        · exact s_to hX [0, 1, 2, 3] rfl (hj6 ν30)
        · refine s_iconst (v := 0) hX dL_law_345 (by decide) ?_
          exact s_zreti (by decide) hKq4 hR dL_law_346
      refine s_tabC (v := 5) (a := 5) hX 347 dL_law_32 (by decide) (by decide) (by decide) rfl (by decide) ?_ (fun hne36 => ?_)
      · refine s_aload_n hX dL_law_347 rfl 1 rfl ?_
        refine s_xload_n hX dL_law_348 rfl 0 rfl ?_
        refine s_iload_n hX dL_law_349 rfl 3 rfl ?_
        refine s_iconst (v := 1) hX dL_law_350 (by decide) ?_
        refine s_iadd hX dL_law_351 ?_
        refine s_sld hXs dL_law_352 ?_
        refine s_callViw hX [.int (xs (ix (x3_1 + 1)))] (k := 0) (ci := 9) rfl hc9 vkX10_growth (fun r ν hF => c_X10_growth  hF) mkX10_growth cvL_37 rfl rfl ⟨by omega, by decide, Nat.le_of_ble_eq_true rfl⟩ dL_law_353 (fun r32 ν33 => ?_)
        refine s_aload_n hX dL_law_356 rfl 2 rfl ?_
        refine s_xload_n hX dL_law_357 rfl 0 rfl ?_
        refine s_iload_n hX dL_law_358 rfl 3 rfl ?_
        refine s_iconst (v := 1) hX dL_law_359 (by decide) ?_
        refine s_iadd hX dL_law_360 ?_
        refine s_sld hXs dL_law_361 ?_
        refine s_callViw hX [.int (xs (ix (x3_1 + 1)))] (k := 112) (ci := 10) rfl hc10 vkX11_growth (fun r ν hF => c_X11_growth  hF) mkX11_growth cvL_40 rfl rfl ⟨by omega, by decide, Nat.le_of_ble_eq_true rfl⟩ dL_law_362 (fun r34 ν35 => ?_)
        refine s_icmp_eq hX 1234 dL_law_365 (by decide) ?_ ?_
        · exact s_to hX [0, 1, 2, 3] rfl (hj6 ν35)
        · refine s_iconst (v := 0) hX dL_law_368 (by decide) ?_
          exact s_zreti (by decide) hKq4 hR dL_law_369
      refine s_tabC (v := 6) (a := 6) hX 370 dL_law_32 (by decide) (by decide) (by decide) rfl (by decide) ?_ (fun hne41 => ?_)
      · refine s_aload_n hX dL_law_370 rfl 1 rfl ?_
        refine s_xload_n hX dL_law_371 rfl 0 rfl ?_
        refine s_iload_n hX dL_law_372 rfl 3 rfl ?_
        refine s_iconst (v := 1) hX dL_law_373 (by decide) ?_
        refine s_iadd hX dL_law_374 ?_
        refine s_sld hXs dL_law_375 ?_
        refine s_xload_n hX dL_law_376 rfl 0 rfl ?_
        refine s_iload_n hX dL_law_377 rfl 3 rfl ?_
        refine s_iconst (v := 2) hX dL_law_378 (by decide) ?_
        refine s_iadd hX dL_law_379 ?_
        refine s_sld hXs dL_law_380 ?_
        refine s_callViw hX [.int (xs (ix (x3_1 + 1))), .int (xs (ix (x3_1 + 2)))] (k := 0) (ci := 9) rfl hc9 vkX10_cloud (fun r ν hF => c_X10_cloud  hF) mkX10_cloud cvL_41 rfl rfl ⟨by omega, by decide, Nat.le_of_ble_eq_true rfl⟩ dL_law_381 (fun r37 ν38 => ?_)
        refine s_aload_n hX dL_law_384 rfl 2 rfl ?_
        refine s_xload_n hX dL_law_385 rfl 0 rfl ?_
        refine s_iload_n hX dL_law_386 rfl 3 rfl ?_
        refine s_iconst (v := 1) hX dL_law_387 (by decide) ?_
        refine s_iadd hX dL_law_388 ?_
        refine s_sld hXs dL_law_389 ?_
        refine s_xload_n hX dL_law_390 rfl 0 rfl ?_
        refine s_iload_n hX dL_law_391 rfl 3 rfl ?_
        refine s_iconst (v := 2) hX dL_law_392 (by decide) ?_
        refine s_iadd hX dL_law_393 ?_
        refine s_sld hXs dL_law_394 ?_
        refine s_callViw hX [.int (xs (ix (x3_1 + 1))), .int (xs (ix (x3_1 + 2)))] (k := 112) (ci := 10) rfl hc10 vkX11_cloud (fun r ν hF => c_X11_cloud  hF) mkX11_cloud cvL_44 rfl rfl ⟨by omega, by decide, Nat.le_of_ble_eq_true rfl⟩ dL_law_395 (fun r39 ν40 => ?_)
        refine s_icmp_eq hX 1234 dL_law_398 (by decide) ?_ ?_
        · exact s_to hX [0, 1, 2, 3] rfl (hj6 ν40)
        · refine s_iconst (v := 0) hX dL_law_401 (by decide) ?_
          exact s_zreti (by decide) hKq4 hR dL_law_402
      refine s_tabC (v := 7) (a := 7) hX 403 dL_law_32 (by decide) (by decide) (by decide) rfl (by decide) ?_ (fun hne46 => ?_)
      · refine s_aload_n hX dL_law_403 rfl 1 rfl ?_
        refine s_xload_n hX dL_law_404 rfl 0 rfl ?_
        refine s_iload_n hX dL_law_405 rfl 3 rfl ?_
        refine s_iconst (v := 1) hX dL_law_406 (by decide) ?_
        refine s_iadd hX dL_law_407 ?_
        refine s_sld hXs dL_law_408 ?_
        refine s_xload_n hX dL_law_409 rfl 0 rfl ?_
        refine s_iload_n hX dL_law_410 rfl 3 rfl ?_
        refine s_iconst (v := 2) hX dL_law_411 (by decide) ?_
        refine s_iadd hX dL_law_412 ?_
        refine s_sld hXs dL_law_413 ?_
        refine s_callViw hX [.int (xs (ix (x3_1 + 1))), .int (xs (ix (x3_1 + 2)))] (k := 0) (ci := 9) rfl hc9 vkX10_road (fun r ν hF => c_X10_road  hF) mkX10_road cvL_45 rfl rfl ⟨by omega, by decide, Nat.le_of_ble_eq_true rfl⟩ dL_law_414 (fun r42 ν43 => ?_)
        refine s_aload_n hX dL_law_417 rfl 2 rfl ?_
        refine s_xload_n hX dL_law_418 rfl 0 rfl ?_
        refine s_iload_n hX dL_law_419 rfl 3 rfl ?_
        refine s_iconst (v := 1) hX dL_law_420 (by decide) ?_
        refine s_iadd hX dL_law_421 ?_
        refine s_sld hXs dL_law_422 ?_
        refine s_xload_n hX dL_law_423 rfl 0 rfl ?_
        refine s_iload_n hX dL_law_424 rfl 3 rfl ?_
        refine s_iconst (v := 2) hX dL_law_425 (by decide) ?_
        refine s_iadd hX dL_law_426 ?_
        refine s_sld hXs dL_law_427 ?_
        refine s_callViw hX [.int (xs (ix (x3_1 + 1))), .int (xs (ix (x3_1 + 2)))] (k := 112) (ci := 10) rfl hc10 vkX11_road (fun r ν hF => c_X11_road  hF) mkX11_road cvL_48 rfl rfl ⟨by omega, by decide, Nat.le_of_ble_eq_true rfl⟩ dL_law_428 (fun r44 ν45 => ?_)
        refine s_icmp_eq hX 1234 dL_law_431 (by decide) ?_ ?_
        · exact s_to hX [0, 1, 2, 3] rfl (hj6 ν45)
        · refine s_iconst (v := 0) hX dL_law_434 (by decide) ?_
          exact s_zreti (by decide) hKq4 hR dL_law_435
      refine s_tabC (v := 8) (a := 8) hX 436 dL_law_32 (by decide) (by decide) (by decide) rfl (by decide) ?_ (fun hne55 => ?_)
      · refine s_aload_n hX dL_law_436 rfl 1 rfl ?_
        refine s_xload_n hX dL_law_437 rfl 0 rfl ?_
        refine s_iload_n hX dL_law_438 rfl 3 rfl ?_
        refine s_iconst (v := 1) hX dL_law_439 (by decide) ?_
        refine s_iadd hX dL_law_440 ?_
        refine s_sld hXs dL_law_441 ?_
        refine s_xload_n hX dL_law_442 rfl 0 rfl ?_
        refine s_iload_n hX dL_law_443 rfl 3 rfl ?_
        refine s_iconst (v := 2) hX dL_law_444 (by decide) ?_
        refine s_iadd hX dL_law_445 ?_
        refine s_sld hXs dL_law_446 ?_
        refine s_jn (C := fun j => ∀ (y47 : Int32), Sim G (j y47) Kq4 455 [(0, Value.ref scr), (1, rf g 0), (2, rf g 112), (3, .int x3_1)] [.int y47, .int (xs (ix (x3_1 + 1))), rf g 0] ν2) ?_ (fun j48 hj48 => ?_)
        · intro y47
          show Sim G _ _ 455 [(0, Value.ref scr), (1, rf g 0), (2, rf g 112), (3, .int x3_1)] [.int y47, .int (xs (ix (x3_1 + 1))), rf g 0] ν2
          refine s_callViw hX [.int (xs (ix (x3_1 + 1))), .int y47] (k := 0) (ci := 9) rfl hc9 vkX10_guard (fun r ν hF => c_X10_guard  hF) mkX10_guard cvL_49 rfl rfl ⟨by omega, by decide, Nat.le_of_ble_eq_true rfl⟩ dL_law_455 (fun r49 ν50 => ?_)
          refine s_aload_n hX dL_law_458 rfl 2 rfl ?_
          refine s_xload_n hX dL_law_459 rfl 0 rfl ?_
          refine s_iload_n hX dL_law_460 rfl 3 rfl ?_
          refine s_iconst (v := 1) hX dL_law_461 (by decide) ?_
          refine s_iadd hX dL_law_462 ?_
          refine s_sld hXs dL_law_463 ?_
          refine s_xload_n hX dL_law_464 rfl 0 rfl ?_
          refine s_iload_n hX dL_law_465 rfl 3 rfl ?_
          refine s_iconst (v := 2) hX dL_law_466 (by decide) ?_
          refine s_iadd hX dL_law_467 ?_
          refine s_sld hXs dL_law_468 ?_
          refine s_jn (C := fun j => ∀ (y51 : Int32), Sim G (j y51) Kq4 477 [(0, Value.ref scr), (1, rf g 0), (2, rf g 112), (3, .int x3_1)] [.int y51, .int (xs (ix (x3_1 + 1))), rf g 112, .int r49] ν50) ?_ (fun j52 hj52 => ?_)
          · intro y51
            show Sim G _ _ 477 [(0, Value.ref scr), (1, rf g 0), (2, rf g 112), (3, .int x3_1)] [.int y51, .int (xs (ix (x3_1 + 1))), rf g 112, .int r49] ν50
            refine s_callViw hX [.int (xs (ix (x3_1 + 1))), .int y51] (k := 112) (ci := 10) rfl hc10 vkX11_guard (fun r ν hF => c_X11_guard  hF) mkX11_guard cvL_53 rfl rfl ⟨by omega, by decide, Nat.le_of_ble_eq_true rfl⟩ dL_law_477 (fun r53 ν54 => ?_)
            refine s_icmp_eq hX 1234 dL_law_480 (by decide) ?_ ?_
            · exact s_to hX [0, 1, 2, 3] rfl (hj6 ν54)
            · refine s_iconst (v := 0) hX dL_law_483 (by decide) ?_
              exact s_zreti (by decide) hKq4 hR dL_law_484
          refine s_if_eq hX 476 dL_law_469 (by decide) ?_ ?_
          · refine s_iconst (v := 0) hX dL_law_476 (by decide) ?_
            exact s_to hX [0, 1, 2, 3] rfl (hj52 0)
          · refine s_iconst (v := 1) hX dL_law_472 (by decide) ?_
            refine s_goto hX 477 dL_law_473 (by decide) ?_
            exact s_to hX [0, 1, 2, 3] rfl (hj52 1)
        refine s_if_eq hX 454 dL_law_447 (by decide) ?_ ?_
        · refine s_iconst (v := 0) hX dL_law_454 (by decide) ?_
          exact s_to hX [0, 1, 2, 3] rfl (hj48 0)
        · refine s_iconst (v := 1) hX dL_law_450 (by decide) ?_
          refine s_goto hX 455 dL_law_451 (by decide) ?_
          exact s_to hX [0, 1, 2, 3] rfl (hj48 1)
      refine s_tabC (v := 9) (a := 9) hX 485 dL_law_32 (by decide) (by decide) (by decide) rfl (by decide) ?_ (fun hne60 => ?_)
      · refine s_aload_n hX dL_law_485 rfl 1 rfl ?_
        refine s_xload_n hX dL_law_486 rfl 0 rfl ?_
        refine s_iload_n hX dL_law_487 rfl 3 rfl ?_
        refine s_iconst (v := 1) hX dL_law_488 (by decide) ?_
        refine s_iadd hX dL_law_489 ?_
        refine s_sld hXs dL_law_490 ?_
        refine s_callViw hX [.int (xs (ix (x3_1 + 1)))] (k := 0) (ci := 9) rfl hc9 vkX10_type (fun r ν hF => c_X10_type  hF) mkX10_type cvL_54 rfl rfl ⟨by omega, by decide, Nat.le_of_ble_eq_true rfl⟩ dL_law_491 (fun r56 ν57 => ?_)
        refine s_aload_n hX dL_law_494 rfl 2 rfl ?_
        refine s_xload_n hX dL_law_495 rfl 0 rfl ?_
        refine s_iload_n hX dL_law_496 rfl 3 rfl ?_
        refine s_iconst (v := 1) hX dL_law_497 (by decide) ?_
        refine s_iadd hX dL_law_498 ?_
        refine s_sld hXs dL_law_499 ?_
        refine s_callViw hX [.int (xs (ix (x3_1 + 1)))] (k := 112) (ci := 10) rfl hc10 vkX11_type (fun r ν hF => c_X11_type  hF) mkX11_type cvL_57 rfl rfl ⟨by omega, by decide, Nat.le_of_ble_eq_true rfl⟩ dL_law_500 (fun r58 ν59 => ?_)
        refine s_icmp_eq hX 1234 dL_law_503 (by decide) ?_ ?_
        · exact s_to hX [0, 1, 2, 3] rfl (hj6 ν59)
        · refine s_iconst (v := 0) hX dL_law_506 (by decide) ?_
          exact s_zreti (by decide) hKq4 hR dL_law_507
      refine s_tabC (v := 10) (a := 10) hX 508 dL_law_32 (by decide) (by decide) (by decide) rfl (by decide) ?_ (fun hne65 => ?_)
      · refine s_aload_n hX dL_law_508 rfl 1 rfl ?_
        refine s_callViw hX [] (k := 0) (ci := 9) rfl hc9 vkX10_clear (fun r ν hF => c_X10_clear  hF) mkX10_clear cvL_58 rfl rfl ⟨by omega, by decide, Nat.le_of_ble_eq_true rfl⟩ dL_law_509 (fun r61 ν62 => ?_)
        refine s_aload_n hX dL_law_512 rfl 2 rfl ?_
        refine s_callViw hX [] (k := 112) (ci := 10) rfl hc10 vkX11_clear (fun r ν hF => c_X11_clear  hF) mkX11_clear cvL_61 rfl rfl ⟨by omega, by decide, Nat.le_of_ble_eq_true rfl⟩ dL_law_513 (fun r63 ν64 => ?_)
        refine s_icmp_eq hX 1234 dL_law_516 (by decide) ?_ ?_
        · exact s_to hX [0, 1, 2, 3] rfl (hj6 ν64)
        · refine s_iconst (v := 0) hX dL_law_519 (by decide) ?_
          exact s_zreti (by decide) hKq4 hR dL_law_520
      refine s_tabC (v := 11) (a := 11) hX 521 dL_law_32 (by decide) (by decide) (by decide) rfl (by decide) ?_ (fun hne70 => ?_)
      · refine s_aload_n hX dL_law_521 rfl 1 rfl ?_
        refine s_callViw hX [] (k := 0) (ci := 9) rfl hc9 vkX10_read (fun r ν hF => c_X10_read  hF) mkX10_read cvL_62 rfl rfl ⟨by omega, by decide, Nat.le_of_ble_eq_true rfl⟩ dL_law_522 (fun r66 ν67 => ?_)
        refine s_aload_n hX dL_law_525 rfl 2 rfl ?_
        refine s_callViw hX [] (k := 112) (ci := 10) rfl hc10 vkX11_read (fun r ν hF => c_X11_read  hF) mkX11_read cvL_65 rfl rfl ⟨by omega, by decide, Nat.le_of_ble_eq_true rfl⟩ dL_law_526 (fun r68 ν69 => ?_)
        refine s_icmp_eq hX 1234 dL_law_529 (by decide) ?_ ?_
        · exact s_to hX [0, 1, 2, 3] rfl (hj6 ν69)
        · refine s_iconst (v := 0) hX dL_law_532 (by decide) ?_
          exact s_zreti (by decide) hKq4 hR dL_law_533
      refine s_tabC (v := 12) (a := 12) hX 534 dL_law_32 (by decide) (by decide) (by decide) rfl (by decide) ?_ (fun hne79 => ?_)
      · refine s_aload_n hX dL_law_534 rfl 1 rfl ?_
        refine s_xload_n hX dL_law_535 rfl 0 rfl ?_
        refine s_iload_n hX dL_law_536 rfl 3 rfl ?_
        refine s_iconst (v := 1) hX dL_law_537 (by decide) ?_
        refine s_iadd hX dL_law_538 ?_
        refine s_sld hXs dL_law_539 ?_
        refine s_xload_n hX dL_law_540 rfl 0 rfl ?_
        refine s_iload_n hX dL_law_541 rfl 3 rfl ?_
        refine s_iconst (v := 2) hX dL_law_542 (by decide) ?_
        refine s_iadd hX dL_law_543 ?_
        refine s_sld hXs dL_law_544 ?_
        refine s_jn (C := fun j => ∀ (y71 : Int32), Sim G (j y71) Kq4 553 [(0, Value.ref scr), (1, rf g 0), (2, rf g 112), (3, .int x3_1)] [.int y71, .int (xs (ix (x3_1 + 1))), rf g 0] ν2) ?_ (fun j72 hj72 => ?_)
        · intro y71
          show Sim G _ _ 553 [(0, Value.ref scr), (1, rf g 0), (2, rf g 112), (3, .int x3_1)] [.int y71, .int (xs (ix (x3_1 + 1))), rf g 0] ν2
          refine s_callViw hX [.int (xs (ix (x3_1 + 1))), .int y71] (k := 0) (ci := 9) rfl hc9 vkX10_moon (fun r ν hF => c_X10_moon  hF) mkX10_moon cvL_66 rfl rfl ⟨by omega, by decide, Nat.le_of_ble_eq_true rfl⟩ dL_law_553 (fun r73 ν74 => ?_)
          refine s_aload_n hX dL_law_556 rfl 2 rfl ?_
          refine s_xload_n hX dL_law_557 rfl 0 rfl ?_
          refine s_iload_n hX dL_law_558 rfl 3 rfl ?_
          refine s_iconst (v := 1) hX dL_law_559 (by decide) ?_
          refine s_iadd hX dL_law_560 ?_
          refine s_sld hXs dL_law_561 ?_
          refine s_xload_n hX dL_law_562 rfl 0 rfl ?_
          refine s_iload_n hX dL_law_563 rfl 3 rfl ?_
          refine s_iconst (v := 2) hX dL_law_564 (by decide) ?_
          refine s_iadd hX dL_law_565 ?_
          refine s_sld hXs dL_law_566 ?_
          refine s_jn (C := fun j => ∀ (y75 : Int32), Sim G (j y75) Kq4 575 [(0, Value.ref scr), (1, rf g 0), (2, rf g 112), (3, .int x3_1)] [.int y75, .int (xs (ix (x3_1 + 1))), rf g 112, .int r73] ν74) ?_ (fun j76 hj76 => ?_)
          · intro y75
            show Sim G _ _ 575 [(0, Value.ref scr), (1, rf g 0), (2, rf g 112), (3, .int x3_1)] [.int y75, .int (xs (ix (x3_1 + 1))), rf g 112, .int r73] ν74
            refine s_callViw hX [.int (xs (ix (x3_1 + 1))), .int y75] (k := 112) (ci := 10) rfl hc10 vkX11_moon (fun r ν hF => c_X11_moon  hF) mkX11_moon cvL_69 rfl rfl ⟨by omega, by decide, Nat.le_of_ble_eq_true rfl⟩ dL_law_575 (fun r77 ν78 => ?_)
            refine s_icmp_eq hX 1234 dL_law_578 (by decide) ?_ ?_
            · exact s_to hX [0, 1, 2, 3] rfl (hj6 ν78)
            · refine s_iconst (v := 0) hX dL_law_581 (by decide) ?_
              exact s_zreti (by decide) hKq4 hR dL_law_582
          refine s_if_eq hX 574 dL_law_567 (by decide) ?_ ?_
          · refine s_iconst (v := 0) hX dL_law_574 (by decide) ?_
            exact s_to hX [0, 1, 2, 3] rfl (hj76 0)
          · refine s_iconst (v := 1) hX dL_law_570 (by decide) ?_
            refine s_goto hX 575 dL_law_571 (by decide) ?_
            exact s_to hX [0, 1, 2, 3] rfl (hj76 1)
        refine s_if_eq hX 552 dL_law_545 (by decide) ?_ ?_
        · refine s_iconst (v := 0) hX dL_law_552 (by decide) ?_
          exact s_to hX [0, 1, 2, 3] rfl (hj72 0)
        · refine s_iconst (v := 1) hX dL_law_548 (by decide) ?_
          refine s_goto hX 553 dL_law_549 (by decide) ?_
          exact s_to hX [0, 1, 2, 3] rfl (hj72 1)
      refine s_tabC (v := 13) (a := 13) hX 583 dL_law_32 (by decide) (by decide) (by decide) rfl (by decide) ?_ (fun hne84 => ?_)
      · refine s_aload_n hX dL_law_583 rfl 1 rfl ?_
        refine s_callViw hX [] (k := 0) (ci := 9) rfl hc9 vkX10_undo (fun r ν hF => c_X10_undo  hF) mkX10_undo cvL_70 rfl rfl ⟨by omega, by decide, Nat.le_of_ble_eq_true rfl⟩ dL_law_584 (fun r80 ν81 => ?_)
        refine s_aload_n hX dL_law_587 rfl 2 rfl ?_
        refine s_callViw hX [] (k := 112) (ci := 10) rfl hc10 vkX11_undo (fun r ν hF => c_X11_undo  hF) mkX11_undo cvL_73 rfl rfl ⟨by omega, by decide, Nat.le_of_ble_eq_true rfl⟩ dL_law_588 (fun r82 ν83 => ?_)
        refine s_icmp_eq hX 1234 dL_law_591 (by decide) ?_ ?_
        · exact s_to hX [0, 1, 2, 3] rfl (hj6 ν83)
        · refine s_iconst (v := 0) hX dL_law_594 (by decide) ?_
          exact s_zreti (by decide) hKq4 hR dL_law_595
      refine s_tabC (v := 14) (a := 14) hX 596 dL_law_32 (by decide) (by decide) (by decide) rfl (by decide) ?_ (fun hne89 => ?_)
      · refine s_aload_n hX dL_law_596 rfl 1 rfl ?_
        refine s_xload_n hX dL_law_597 rfl 0 rfl ?_
        refine s_iload_n hX dL_law_598 rfl 3 rfl ?_
        refine s_iconst (v := 1) hX dL_law_599 (by decide) ?_
        refine s_iadd hX dL_law_600 ?_
        refine s_sld hXs dL_law_601 ?_
        refine s_xload_n hX dL_law_602 rfl 0 rfl ?_
        refine s_iload_n hX dL_law_603 rfl 3 rfl ?_
        refine s_iconst (v := 2) hX dL_law_604 (by decide) ?_
        refine s_iadd hX dL_law_605 ?_
        refine s_sld hXs dL_law_606 ?_
        refine s_callViw hX [.int (xs (ix (x3_1 + 1))), .int (xs (ix (x3_1 + 2)))] (k := 0) (ci := 9) rfl hc9 vkX10_of (fun r ν hF => c_X10_of  hF) mkX10_of cvL_74 rfl rfl ⟨by omega, by decide, Nat.le_of_ble_eq_true rfl⟩ dL_law_607 (fun r85 ν86 => ?_)
        refine s_aload_n hX dL_law_610 rfl 2 rfl ?_
        refine s_xload_n hX dL_law_611 rfl 0 rfl ?_
        refine s_iload_n hX dL_law_612 rfl 3 rfl ?_
        refine s_iconst (v := 1) hX dL_law_613 (by decide) ?_
        refine s_iadd hX dL_law_614 ?_
        refine s_sld hXs dL_law_615 ?_
        refine s_xload_n hX dL_law_616 rfl 0 rfl ?_
        refine s_iload_n hX dL_law_617 rfl 3 rfl ?_
        refine s_iconst (v := 2) hX dL_law_618 (by decide) ?_
        refine s_iadd hX dL_law_619 ?_
        refine s_sld hXs dL_law_620 ?_
        refine s_callViw hX [.int (xs (ix (x3_1 + 1))), .int (xs (ix (x3_1 + 2)))] (k := 112) (ci := 10) rfl hc10 vkX11_of (fun r ν hF => c_X11_of  hF) mkX11_of cvL_77 rfl rfl ⟨by omega, by decide, Nat.le_of_ble_eq_true rfl⟩ dL_law_621 (fun r87 ν88 => ?_)
        refine s_icmp_eq hX 1234 dL_law_624 (by decide) ?_ ?_
        · exact s_to hX [0, 1, 2, 3] rfl (hj6 ν88)
        · refine s_iconst (v := 0) hX dL_law_627 (by decide) ?_
          exact s_zreti (by decide) hKq4 hR dL_law_628
      refine s_tabC (v := 15) (a := 15) hX 629 dL_law_32 (by decide) (by decide) (by decide) rfl (by decide) ?_ (fun hne94 => ?_)
      · refine s_aload_n hX dL_law_629 rfl 1 rfl ?_
        refine s_xload_n hX dL_law_630 rfl 0 rfl ?_
        refine s_iload_n hX dL_law_631 rfl 3 rfl ?_
        refine s_iconst (v := 1) hX dL_law_632 (by decide) ?_
        refine s_iadd hX dL_law_633 ?_
        refine s_sld hXs dL_law_634 ?_
        refine s_xload_n hX dL_law_635 rfl 0 rfl ?_
        refine s_iload_n hX dL_law_636 rfl 3 rfl ?_
        refine s_iconst (v := 2) hX dL_law_637 (by decide) ?_
        refine s_iadd hX dL_law_638 ?_
        refine s_sld hXs dL_law_639 ?_
        refine s_callViw hX [.int (xs (ix (x3_1 + 1))), .int (xs (ix (x3_1 + 2)))] (k := 0) (ci := 9) rfl hc9 vkX10_village (fun r ν hF => c_X10_village  hF) mkX10_village cvL_78 rfl rfl ⟨by omega, by decide, Nat.le_of_ble_eq_true rfl⟩ dL_law_640 (fun r90 ν91 => ?_)
        refine s_aload_n hX dL_law_643 rfl 2 rfl ?_
        refine s_xload_n hX dL_law_644 rfl 0 rfl ?_
        refine s_iload_n hX dL_law_645 rfl 3 rfl ?_
        refine s_iconst (v := 1) hX dL_law_646 (by decide) ?_
        refine s_iadd hX dL_law_647 ?_
        refine s_sld hXs dL_law_648 ?_
        refine s_xload_n hX dL_law_649 rfl 0 rfl ?_
        refine s_iload_n hX dL_law_650 rfl 3 rfl ?_
        refine s_iconst (v := 2) hX dL_law_651 (by decide) ?_
        refine s_iadd hX dL_law_652 ?_
        refine s_sld hXs dL_law_653 ?_
        refine s_callViw hX [.int (xs (ix (x3_1 + 1))), .int (xs (ix (x3_1 + 2)))] (k := 112) (ci := 10) rfl hc10 vkX11_village (fun r ν hF => c_X11_village  hF) mkX11_village cvL_81 rfl rfl ⟨by omega, by decide, Nat.le_of_ble_eq_true rfl⟩ dL_law_654 (fun r92 ν93 => ?_)
        refine s_icmp_eq hX 1234 dL_law_657 (by decide) ?_ ?_
        · exact s_to hX [0, 1, 2, 3] rfl (hj6 ν93)
        · refine s_iconst (v := 0) hX dL_law_660 (by decide) ?_
          exact s_zreti (by decide) hKq4 hR dL_law_661
      refine s_tabC (v := 16) (a := 16) hX 662 dL_law_32 (by decide) (by decide) (by decide) rfl (by decide) ?_ (fun hne99 => ?_)
      · refine s_aload_n hX dL_law_662 rfl 1 rfl ?_
        refine s_xload_n hX dL_law_663 rfl 0 rfl ?_
        refine s_iload_n hX dL_law_664 rfl 3 rfl ?_
        refine s_iconst (v := 1) hX dL_law_665 (by decide) ?_
        refine s_iadd hX dL_law_666 ?_
        refine s_sld hXs dL_law_667 ?_
        refine s_callViw hX [.int (xs (ix (x3_1 + 1)))] (k := 0) (ci := 9) rfl hc9 vkX10_greatest (fun r ν hF => c_X10_greatest  hF) mkX10_greatest cvL_82 rfl rfl ⟨by omega, by decide, Nat.le_of_ble_eq_true rfl⟩ dL_law_668 (fun r95 ν96 => ?_)
        refine s_aload_n hX dL_law_671 rfl 2 rfl ?_
        refine s_xload_n hX dL_law_672 rfl 0 rfl ?_
        refine s_iload_n hX dL_law_673 rfl 3 rfl ?_
        refine s_iconst (v := 1) hX dL_law_674 (by decide) ?_
        refine s_iadd hX dL_law_675 ?_
        refine s_sld hXs dL_law_676 ?_
        refine s_callViw hX [.int (xs (ix (x3_1 + 1)))] (k := 112) (ci := 10) rfl hc10 vkX11_greatest (fun r ν hF => c_X11_greatest  hF) mkX11_greatest cvL_85 rfl rfl ⟨by omega, by decide, Nat.le_of_ble_eq_true rfl⟩ dL_law_677 (fun r97 ν98 => ?_)
        refine s_icmp_eq hX 1234 dL_law_680 (by decide) ?_ ?_
        · exact s_to hX [0, 1, 2, 3] rfl (hj6 ν98)
        · refine s_iconst (v := 0) hX dL_law_683 (by decide) ?_
          exact s_zreti (by decide) hKq4 hR dL_law_684
      refine s_tabC (v := 17) (a := 17) hX 685 dL_law_32 (by decide) (by decide) (by decide) rfl (by decide) ?_ (fun hne104 => ?_)
      · refine s_aload_n hX dL_law_685 rfl 1 rfl ?_
        refine s_xload_n hX dL_law_686 rfl 0 rfl ?_
        refine s_iload_n hX dL_law_687 rfl 3 rfl ?_
        refine s_iconst (v := 1) hX dL_law_688 (by decide) ?_
        refine s_iadd hX dL_law_689 ?_
        refine s_sld hXs dL_law_690 ?_
        refine s_xload_n hX dL_law_691 rfl 0 rfl ?_
        refine s_iload_n hX dL_law_692 rfl 3 rfl ?_
        refine s_iconst (v := 2) hX dL_law_693 (by decide) ?_
        refine s_iadd hX dL_law_694 ?_
        refine s_sld hXs dL_law_695 ?_
        refine s_xload_n hX dL_law_696 rfl 0 rfl ?_
        refine s_iload_n hX dL_law_697 rfl 3 rfl ?_
        refine s_iconst (v := 3) hX dL_law_698 (by decide) ?_
        refine s_iadd hX dL_law_699 ?_
        refine s_sld hXs dL_law_700 ?_
        refine s_callViw hX [.int (xs (ix (x3_1 + 1))), .int (xs (ix (x3_1 + 2))), .int (xs (ix (x3_1 + 3)))] (k := 0) (ci := 9) rfl hc9 vkX10_least (fun r ν hF => c_X10_least  hF) mkX10_least cvL_86 rfl rfl ⟨by omega, by decide, Nat.le_of_ble_eq_true rfl⟩ dL_law_701 (fun r100 ν101 => ?_)
        refine s_aload_n hX dL_law_704 rfl 2 rfl ?_
        refine s_xload_n hX dL_law_705 rfl 0 rfl ?_
        refine s_iload_n hX dL_law_706 rfl 3 rfl ?_
        refine s_iconst (v := 1) hX dL_law_707 (by decide) ?_
        refine s_iadd hX dL_law_708 ?_
        refine s_sld hXs dL_law_709 ?_
        refine s_xload_n hX dL_law_710 rfl 0 rfl ?_
        refine s_iload_n hX dL_law_711 rfl 3 rfl ?_
        refine s_iconst (v := 2) hX dL_law_712 (by decide) ?_
        refine s_iadd hX dL_law_713 ?_
        refine s_sld hXs dL_law_714 ?_
        refine s_xload_n hX dL_law_715 rfl 0 rfl ?_
        refine s_iload_n hX dL_law_716 rfl 3 rfl ?_
        refine s_iconst (v := 3) hX dL_law_717 (by decide) ?_
        refine s_iadd hX dL_law_718 ?_
        refine s_sld hXs dL_law_719 ?_
        refine s_callViw hX [.int (xs (ix (x3_1 + 1))), .int (xs (ix (x3_1 + 2))), .int (xs (ix (x3_1 + 3)))] (k := 112) (ci := 10) rfl hc10 vkX11_least (fun r ν hF => c_X11_least  hF) mkX11_least cvL_89 rfl rfl ⟨by omega, by decide, Nat.le_of_ble_eq_true rfl⟩ dL_law_720 (fun r102 ν103 => ?_)
        refine s_icmp_eq hX 1234 dL_law_723 (by decide) ?_ ?_
        · exact s_to hX [0, 1, 2, 3] rfl (hj6 ν103)
        · refine s_iconst (v := 0) hX dL_law_726 (by decide) ?_
          exact s_zreti (by decide) hKq4 hR dL_law_727
      refine s_tabC (v := 18) (a := 18) hX 728 dL_law_32 (by decide) (by decide) (by decide) rfl (by decide) ?_ (fun hne109 => ?_)
      · refine s_aload_n hX dL_law_728 rfl 1 rfl ?_
        refine s_xload_n hX dL_law_729 rfl 0 rfl ?_
        refine s_iload_n hX dL_law_730 rfl 3 rfl ?_
        refine s_iconst (v := 1) hX dL_law_731 (by decide) ?_
        refine s_iadd hX dL_law_732 ?_
        refine s_sld hXs dL_law_733 ?_
        refine s_callViw hX [.int (xs (ix (x3_1 + 1)))] (k := 0) (ci := 9) rfl hc9 vkX10_chance (fun r ν hF => c_X10_chance  hF) mkX10_chance cvL_90 rfl rfl ⟨by omega, by decide, Nat.le_of_ble_eq_true rfl⟩ dL_law_734 (fun r105 ν106 => ?_)
        refine s_aload_n hX dL_law_737 rfl 2 rfl ?_
        refine s_xload_n hX dL_law_738 rfl 0 rfl ?_
        refine s_iload_n hX dL_law_739 rfl 3 rfl ?_
        refine s_iconst (v := 1) hX dL_law_740 (by decide) ?_
        refine s_iadd hX dL_law_741 ?_
        refine s_sld hXs dL_law_742 ?_
        refine s_callViw hX [.int (xs (ix (x3_1 + 1)))] (k := 112) (ci := 10) rfl hc10 vkX11_chance (fun r ν hF => c_X11_chance  hF) mkX11_chance cvL_93 rfl rfl ⟨by omega, by decide, Nat.le_of_ble_eq_true rfl⟩ dL_law_743 (fun r107 ν108 => ?_)
        refine s_icmp_eq hX 1234 dL_law_746 (by decide) ?_ ?_
        · exact s_to hX [0, 1, 2, 3] rfl (hj6 ν108)
        · refine s_iconst (v := 0) hX dL_law_749 (by decide) ?_
          exact s_zreti (by decide) hKq4 hR dL_law_750
      refine s_tabC (v := 19) (a := 19) hX 751 dL_law_32 (by decide) (by decide) (by decide) rfl (by decide) ?_ (fun hne114 => ?_)
      · refine s_aload_n hX dL_law_751 rfl 1 rfl ?_
        refine s_xload_n hX dL_law_752 rfl 0 rfl ?_
        refine s_iload_n hX dL_law_753 rfl 3 rfl ?_
        refine s_iconst (v := 1) hX dL_law_754 (by decide) ?_
        refine s_iadd hX dL_law_755 ?_
        refine s_sld hXs dL_law_756 ?_
        refine s_callViw hX [.int (xs (ix (x3_1 + 1)))] (k := 0) (ci := 9) rfl hc9 vkX10_mean (fun r ν hF => c_X10_mean  hF) mkX10_mean cvL_94 rfl rfl ⟨by omega, by decide, Nat.le_of_ble_eq_true rfl⟩ dL_law_757 (fun r110 ν111 => ?_)
        refine s_aload_n hX dL_law_760 rfl 2 rfl ?_
        refine s_xload_n hX dL_law_761 rfl 0 rfl ?_
        refine s_iload_n hX dL_law_762 rfl 3 rfl ?_
        refine s_iconst (v := 1) hX dL_law_763 (by decide) ?_
        refine s_iadd hX dL_law_764 ?_
        refine s_sld hXs dL_law_765 ?_
        refine s_callViw hX [.int (xs (ix (x3_1 + 1)))] (k := 112) (ci := 10) rfl hc10 vkX11_mean (fun r ν hF => c_X11_mean  hF) mkX11_mean cvL_97 rfl rfl ⟨by omega, by decide, Nat.le_of_ble_eq_true rfl⟩ dL_law_766 (fun r112 ν113 => ?_)
        refine s_icmp_eq hX 1234 dL_law_769 (by decide) ?_ ?_
        · exact s_to hX [0, 1, 2, 3] rfl (hj6 ν113)
        · refine s_iconst (v := 0) hX dL_law_772 (by decide) ?_
          exact s_zreti (by decide) hKq4 hR dL_law_773
      refine s_tabC (v := 20) (a := 20) hX 774 dL_law_32 (by decide) (by decide) (by decide) rfl (by decide) ?_ (fun hne119 => ?_)
      · refine s_aload_n hX dL_law_774 rfl 1 rfl ?_
        refine s_xload_n hX dL_law_775 rfl 0 rfl ?_
        refine s_iload_n hX dL_law_776 rfl 3 rfl ?_
        refine s_iconst (v := 1) hX dL_law_777 (by decide) ?_
        refine s_iadd hX dL_law_778 ?_
        refine s_sld hXs dL_law_779 ?_
        refine s_xload_n hX dL_law_780 rfl 0 rfl ?_
        refine s_iload_n hX dL_law_781 rfl 3 rfl ?_
        refine s_iconst (v := 2) hX dL_law_782 (by decide) ?_
        refine s_iadd hX dL_law_783 ?_
        refine s_sld hXs dL_law_784 ?_
        refine s_callViw hX [.int (xs (ix (x3_1 + 1))), .int (xs (ix (x3_1 + 2)))] (k := 0) (ci := 9) rfl hc9 vkX10_painting (fun r ν hF => c_X10_painting  hF) mkX10_painting cvL_98 rfl rfl ⟨by omega, by decide, Nat.le_of_ble_eq_true rfl⟩ dL_law_785 (fun r115 ν116 => ?_)
        refine s_aload_n hX dL_law_788 rfl 2 rfl ?_
        refine s_xload_n hX dL_law_789 rfl 0 rfl ?_
        refine s_iload_n hX dL_law_790 rfl 3 rfl ?_
        refine s_iconst (v := 1) hX dL_law_791 (by decide) ?_
        refine s_iadd hX dL_law_792 ?_
        refine s_sld hXs dL_law_793 ?_
        refine s_xload_n hX dL_law_794 rfl 0 rfl ?_
        refine s_iload_n hX dL_law_795 rfl 3 rfl ?_
        refine s_iconst (v := 2) hX dL_law_796 (by decide) ?_
        refine s_iadd hX dL_law_797 ?_
        refine s_sld hXs dL_law_798 ?_
        refine s_callViw hX [.int (xs (ix (x3_1 + 1))), .int (xs (ix (x3_1 + 2)))] (k := 112) (ci := 10) rfl hc10 vkX11_painting (fun r ν hF => c_X11_painting  hF) mkX11_painting cvL_101 rfl rfl ⟨by omega, by decide, Nat.le_of_ble_eq_true rfl⟩ dL_law_799 (fun r117 ν118 => ?_)
        refine s_icmp_eq hX 1234 dL_law_802 (by decide) ?_ ?_
        · exact s_to hX [0, 1, 2, 3] rfl (hj6 ν118)
        · refine s_iconst (v := 0) hX dL_law_805 (by decide) ?_
          exact s_zreti (by decide) hKq4 hR dL_law_806
      refine s_tabC (v := 21) (a := 21) hX 807 dL_law_32 (by decide) (by decide) (by decide) rfl (by decide) ?_ (fun hne124 => ?_)
      · refine s_aload_n hX dL_law_807 rfl 1 rfl ?_
        refine s_xload_n hX dL_law_808 rfl 0 rfl ?_
        refine s_iload_n hX dL_law_809 rfl 3 rfl ?_
        refine s_iconst (v := 1) hX dL_law_810 (by decide) ?_
        refine s_iadd hX dL_law_811 ?_
        refine s_sld hXs dL_law_812 ?_
        refine s_xload_n hX dL_law_813 rfl 0 rfl ?_
        refine s_iload_n hX dL_law_814 rfl 3 rfl ?_
        refine s_iconst (v := 2) hX dL_law_815 (by decide) ?_
        refine s_iadd hX dL_law_816 ?_
        refine s_sld hXs dL_law_817 ?_
        refine s_callViw hX [.int (xs (ix (x3_1 + 1))), .int (xs (ix (x3_1 + 2)))] (k := 0) (ci := 9) rfl hc9 vkX10_unseen (fun r ν hF => c_X10_unseen  hF) mkX10_unseen cvL_102 rfl rfl ⟨by omega, by decide, Nat.le_of_ble_eq_true rfl⟩ dL_law_818 (fun r120 ν121 => ?_)
        refine s_aload_n hX dL_law_821 rfl 2 rfl ?_
        refine s_xload_n hX dL_law_822 rfl 0 rfl ?_
        refine s_iload_n hX dL_law_823 rfl 3 rfl ?_
        refine s_iconst (v := 1) hX dL_law_824 (by decide) ?_
        refine s_iadd hX dL_law_825 ?_
        refine s_sld hXs dL_law_826 ?_
        refine s_xload_n hX dL_law_827 rfl 0 rfl ?_
        refine s_iload_n hX dL_law_828 rfl 3 rfl ?_
        refine s_iconst (v := 2) hX dL_law_829 (by decide) ?_
        refine s_iadd hX dL_law_830 ?_
        refine s_sld hXs dL_law_831 ?_
        refine s_callViw hX [.int (xs (ix (x3_1 + 1))), .int (xs (ix (x3_1 + 2)))] (k := 112) (ci := 10) rfl hc10 vkX11_unseen (fun r ν hF => c_X11_unseen  hF) mkX11_unseen cvL_105 rfl rfl ⟨by omega, by decide, Nat.le_of_ble_eq_true rfl⟩ dL_law_832 (fun r122 ν123 => ?_)
        refine s_icmp_eq hX 1234 dL_law_835 (by decide) ?_ ?_
        · exact s_to hX [0, 1, 2, 3] rfl (hj6 ν123)
        · refine s_iconst (v := 0) hX dL_law_838 (by decide) ?_
          exact s_zreti (by decide) hKq4 hR dL_law_839
      refine s_tabC (v := 22) (a := 22) hX 840 dL_law_32 (by decide) (by decide) (by decide) rfl (by decide) ?_ (fun hne129 => ?_)
      · refine s_aload_n hX dL_law_840 rfl 1 rfl ?_
        refine s_xload_n hX dL_law_841 rfl 0 rfl ?_
        refine s_iload_n hX dL_law_842 rfl 3 rfl ?_
        refine s_iconst (v := 1) hX dL_law_843 (by decide) ?_
        refine s_iadd hX dL_law_844 ?_
        refine s_sld hXs dL_law_845 ?_
        refine s_xload_n hX dL_law_846 rfl 0 rfl ?_
        refine s_iload_n hX dL_law_847 rfl 3 rfl ?_
        refine s_iconst (v := 2) hX dL_law_848 (by decide) ?_
        refine s_iadd hX dL_law_849 ?_
        refine s_sld hXs dL_law_850 ?_
        refine s_xload_n hX dL_law_851 rfl 0 rfl ?_
        refine s_iload_n hX dL_law_852 rfl 3 rfl ?_
        refine s_iconst (v := 3) hX dL_law_853 (by decide) ?_
        refine s_iadd hX dL_law_854 ?_
        refine s_sld hXs dL_law_855 ?_
        refine s_callViw hX [.int (xs (ix (x3_1 + 1))), .int (xs (ix (x3_1 + 2))), .int (xs (ix (x3_1 + 3)))] (k := 0) (ci := 9) rfl hc9 vkX10_cut (fun r ν hF => c_X10_cut  hF) mkX10_cut cvL_106 rfl rfl ⟨by omega, by decide, Nat.le_of_ble_eq_true rfl⟩ dL_law_856 (fun r125 ν126 => ?_)
        refine s_aload_n hX dL_law_859 rfl 2 rfl ?_
        refine s_xload_n hX dL_law_860 rfl 0 rfl ?_
        refine s_iload_n hX dL_law_861 rfl 3 rfl ?_
        refine s_iconst (v := 1) hX dL_law_862 (by decide) ?_
        refine s_iadd hX dL_law_863 ?_
        refine s_sld hXs dL_law_864 ?_
        refine s_xload_n hX dL_law_865 rfl 0 rfl ?_
        refine s_iload_n hX dL_law_866 rfl 3 rfl ?_
        refine s_iconst (v := 2) hX dL_law_867 (by decide) ?_
        refine s_iadd hX dL_law_868 ?_
        refine s_sld hXs dL_law_869 ?_
        refine s_xload_n hX dL_law_870 rfl 0 rfl ?_
        refine s_iload_n hX dL_law_871 rfl 3 rfl ?_
        refine s_iconst (v := 3) hX dL_law_872 (by decide) ?_
        refine s_iadd hX dL_law_873 ?_
        refine s_sld hXs dL_law_874 ?_
        refine s_callViw hX [.int (xs (ix (x3_1 + 1))), .int (xs (ix (x3_1 + 2))), .int (xs (ix (x3_1 + 3)))] (k := 112) (ci := 10) rfl hc10 vkX11_cut (fun r ν hF => c_X11_cut  hF) mkX11_cut cvL_109 rfl rfl ⟨by omega, by decide, Nat.le_of_ble_eq_true rfl⟩ dL_law_875 (fun r127 ν128 => ?_)
        refine s_icmp_eq hX 1234 dL_law_878 (by decide) ?_ ?_
        · exact s_to hX [0, 1, 2, 3] rfl (hj6 ν128)
        · refine s_iconst (v := 0) hX dL_law_881 (by decide) ?_
          exact s_zreti (by decide) hKq4 hR dL_law_882
      refine s_tabC (v := 23) (a := 23) hX 883 dL_law_32 (by decide) (by decide) (by decide) rfl (by decide) ?_ (fun hne134 => ?_)
      · refine s_aload_n hX dL_law_883 rfl 1 rfl ?_
        refine s_xload_n hX dL_law_884 rfl 0 rfl ?_
        refine s_iload_n hX dL_law_885 rfl 3 rfl ?_
        refine s_iconst (v := 1) hX dL_law_886 (by decide) ?_
        refine s_iadd hX dL_law_887 ?_
        refine s_sld hXs dL_law_888 ?_
        refine s_xload_n hX dL_law_889 rfl 0 rfl ?_
        refine s_iload_n hX dL_law_890 rfl 3 rfl ?_
        refine s_iconst (v := 2) hX dL_law_891 (by decide) ?_
        refine s_iadd hX dL_law_892 ?_
        refine s_sld hXs dL_law_893 ?_
        refine s_xload_n hX dL_law_894 rfl 0 rfl ?_
        refine s_iload_n hX dL_law_895 rfl 3 rfl ?_
        refine s_iconst (v := 3) hX dL_law_896 (by decide) ?_
        refine s_iadd hX dL_law_897 ?_
        refine s_sld hXs dL_law_898 ?_
        refine s_callViw hX [.int (xs (ix (x3_1 + 1))), .int (xs (ix (x3_1 + 2))), .int (xs (ix (x3_1 + 3)))] (k := 0) (ci := 9) rfl hc9 vkX10_game (fun r ν hF => c_X10_game  hF) mkX10_game cvL_110 rfl rfl ⟨by omega, by decide, Nat.le_of_ble_eq_true rfl⟩ dL_law_899 (fun r130 ν131 => ?_)
        refine s_aload_n hX dL_law_902 rfl 2 rfl ?_
        refine s_xload_n hX dL_law_903 rfl 0 rfl ?_
        refine s_iload_n hX dL_law_904 rfl 3 rfl ?_
        refine s_iconst (v := 1) hX dL_law_905 (by decide) ?_
        refine s_iadd hX dL_law_906 ?_
        refine s_sld hXs dL_law_907 ?_
        refine s_xload_n hX dL_law_908 rfl 0 rfl ?_
        refine s_iload_n hX dL_law_909 rfl 3 rfl ?_
        refine s_iconst (v := 2) hX dL_law_910 (by decide) ?_
        refine s_iadd hX dL_law_911 ?_
        refine s_sld hXs dL_law_912 ?_
        refine s_xload_n hX dL_law_913 rfl 0 rfl ?_
        refine s_iload_n hX dL_law_914 rfl 3 rfl ?_
        refine s_iconst (v := 3) hX dL_law_915 (by decide) ?_
        refine s_iadd hX dL_law_916 ?_
        refine s_sld hXs dL_law_917 ?_
        refine s_callViw hX [.int (xs (ix (x3_1 + 1))), .int (xs (ix (x3_1 + 2))), .int (xs (ix (x3_1 + 3)))] (k := 112) (ci := 10) rfl hc10 vkX11_game (fun r ν hF => c_X11_game  hF) mkX11_game cvL_113 rfl rfl ⟨by omega, by decide, Nat.le_of_ble_eq_true rfl⟩ dL_law_918 (fun r132 ν133 => ?_)
        refine s_icmp_eq hX 1234 dL_law_921 (by decide) ?_ ?_
        · exact s_to hX [0, 1, 2, 3] rfl (hj6 ν133)
        · refine s_iconst (v := 0) hX dL_law_924 (by decide) ?_
          exact s_zreti (by decide) hKq4 hR dL_law_925
      refine s_tabC (v := 24) (a := 24) hX 926 dL_law_32 (by decide) (by decide) (by decide) rfl (by decide) ?_ (fun hne139 => ?_)
      · refine s_aload_n hX dL_law_926 rfl 1 rfl ?_
        refine s_xload_n hX dL_law_927 rfl 0 rfl ?_
        refine s_iload_n hX dL_law_928 rfl 3 rfl ?_
        refine s_iconst (v := 1) hX dL_law_929 (by decide) ?_
        refine s_iadd hX dL_law_930 ?_
        refine s_sld hXs dL_law_931 ?_
        refine s_callViw hX [.int (xs (ix (x3_1 + 1)))] (k := 0) (ci := 9) rfl hc9 vkX10_league (fun r ν hF => c_X10_league  hF) mkX10_league cvL_114 rfl rfl ⟨by omega, by decide, Nat.le_of_ble_eq_true rfl⟩ dL_law_932 (fun r135 ν136 => ?_)
        refine s_aload_n hX dL_law_935 rfl 2 rfl ?_
        refine s_xload_n hX dL_law_936 rfl 0 rfl ?_
        refine s_iload_n hX dL_law_937 rfl 3 rfl ?_
        refine s_iconst (v := 1) hX dL_law_938 (by decide) ?_
        refine s_iadd hX dL_law_939 ?_
        refine s_sld hXs dL_law_940 ?_
        refine s_callViw hX [.int (xs (ix (x3_1 + 1)))] (k := 112) (ci := 10) rfl hc10 vkX11_league (fun r ν hF => c_X11_league  hF) mkX11_league cvL_117 rfl rfl ⟨by omega, by decide, Nat.le_of_ble_eq_true rfl⟩ dL_law_941 (fun r137 ν138 => ?_)
        refine s_icmp_eq hX 1234 dL_law_944 (by decide) ?_ ?_
        · exact s_to hX [0, 1, 2, 3] rfl (hj6 ν138)
        · refine s_iconst (v := 0) hX dL_law_947 (by decide) ?_
          exact s_zreti (by decide) hKq4 hR dL_law_948
      refine s_tabC (v := 25) (a := 25) hX 949 dL_law_32 (by decide) (by decide) (by decide) rfl (by decide) ?_ (fun hne144 => ?_)
      · refine s_aload_n hX dL_law_949 rfl 1 rfl ?_
        refine s_xload_n hX dL_law_950 rfl 0 rfl ?_
        refine s_iload_n hX dL_law_951 rfl 3 rfl ?_
        refine s_iconst (v := 1) hX dL_law_952 (by decide) ?_
        refine s_iadd hX dL_law_953 ?_
        refine s_sld hXs dL_law_954 ?_
        refine s_callViw hX [.int (xs (ix (x3_1 + 1)))] (k := 0) (ci := 9) rfl hc9 vkX10_share (fun r ν hF => c_X10_share  hF) mkX10_share cvL_118 rfl rfl ⟨by omega, by decide, Nat.le_of_ble_eq_true rfl⟩ dL_law_955 (fun r140 ν141 => ?_)
        refine s_aload_n hX dL_law_958 rfl 2 rfl ?_
        refine s_xload_n hX dL_law_959 rfl 0 rfl ?_
        refine s_iload_n hX dL_law_960 rfl 3 rfl ?_
        refine s_iconst (v := 1) hX dL_law_961 (by decide) ?_
        refine s_iadd hX dL_law_962 ?_
        refine s_sld hXs dL_law_963 ?_
        refine s_callViw hX [.int (xs (ix (x3_1 + 1)))] (k := 112) (ci := 10) rfl hc10 vkX11_share (fun r ν hF => c_X11_share  hF) mkX11_share cvL_121 rfl rfl ⟨by omega, by decide, Nat.le_of_ble_eq_true rfl⟩ dL_law_964 (fun r142 ν143 => ?_)
        refine s_icmp_eq hX 1234 dL_law_967 (by decide) ?_ ?_
        · exact s_to hX [0, 1, 2, 3] rfl (hj6 ν143)
        · refine s_iconst (v := 0) hX dL_law_970 (by decide) ?_
          exact s_zreti (by decide) hKq4 hR dL_law_971
      refine s_tabC (v := 26) (a := 26) hX 972 dL_law_32 (by decide) (by decide) (by decide) rfl (by decide) ?_ (fun hne149 => ?_)
      · refine s_aload_n hX dL_law_972 rfl 1 rfl ?_
        refine s_xload_n hX dL_law_973 rfl 0 rfl ?_
        refine s_iload_n hX dL_law_974 rfl 3 rfl ?_
        refine s_iconst (v := 1) hX dL_law_975 (by decide) ?_
        refine s_iadd hX dL_law_976 ?_
        refine s_sld hXs dL_law_977 ?_
        refine s_xload_n hX dL_law_978 rfl 0 rfl ?_
        refine s_iload_n hX dL_law_979 rfl 3 rfl ?_
        refine s_iconst (v := 2) hX dL_law_980 (by decide) ?_
        refine s_iadd hX dL_law_981 ?_
        refine s_sld hXs dL_law_982 ?_
        refine s_callViw hX [.int (xs (ix (x3_1 + 1))), .int (xs (ix (x3_1 + 2)))] (k := 0) (ci := 9) rfl hc9 vkX10_pays (fun r ν hF => c_X10_pays  hF) mkX10_pays cvL_122 rfl rfl ⟨by omega, by decide, Nat.le_of_ble_eq_true rfl⟩ dL_law_983 (fun r145 ν146 => ?_)
        refine s_aload_n hX dL_law_986 rfl 2 rfl ?_
        refine s_xload_n hX dL_law_987 rfl 0 rfl ?_
        refine s_iload_n hX dL_law_988 rfl 3 rfl ?_
        refine s_iconst (v := 1) hX dL_law_989 (by decide) ?_
        refine s_iadd hX dL_law_990 ?_
        refine s_sld hXs dL_law_991 ?_
        refine s_xload_n hX dL_law_992 rfl 0 rfl ?_
        refine s_iload_n hX dL_law_993 rfl 3 rfl ?_
        refine s_iconst (v := 2) hX dL_law_994 (by decide) ?_
        refine s_iadd hX dL_law_995 ?_
        refine s_sld hXs dL_law_996 ?_
        refine s_callViw hX [.int (xs (ix (x3_1 + 1))), .int (xs (ix (x3_1 + 2)))] (k := 112) (ci := 10) rfl hc10 vkX11_pays (fun r ν hF => c_X11_pays  hF) mkX11_pays cvL_125 rfl rfl ⟨by omega, by decide, Nat.le_of_ble_eq_true rfl⟩ dL_law_997 (fun r147 ν148 => ?_)
        refine s_icmp_eq hX 1234 dL_law_1000 (by decide) ?_ ?_
        · exact s_to hX [0, 1, 2, 3] rfl (hj6 ν148)
        · refine s_iconst (v := 0) hX dL_law_1003 (by decide) ?_
          exact s_zreti (by decide) hKq4 hR dL_law_1004
      refine s_tabC (v := 27) (a := 27) hX 1005 dL_law_32 (by decide) (by decide) (by decide) rfl (by decide) ?_ (fun hne154 => ?_)
      · refine s_aload_n hX dL_law_1005 rfl 1 rfl ?_
        refine s_xload_n hX dL_law_1006 rfl 0 rfl ?_
        refine s_iload_n hX dL_law_1007 rfl 3 rfl ?_
        refine s_iconst (v := 1) hX dL_law_1008 (by decide) ?_
        refine s_iadd hX dL_law_1009 ?_
        refine s_sld hXs dL_law_1010 ?_
        refine s_xload_n hX dL_law_1011 rfl 0 rfl ?_
        refine s_iload_n hX dL_law_1012 rfl 3 rfl ?_
        refine s_iconst (v := 2) hX dL_law_1013 (by decide) ?_
        refine s_iadd hX dL_law_1014 ?_
        refine s_sld hXs dL_law_1015 ?_
        refine s_callViw hX [.int (xs (ix (x3_1 + 1))), .int (xs (ix (x3_1 + 2)))] (k := 0) (ci := 9) rfl hc9 vkX10_told (fun r ν hF => c_X10_told  hF) mkX10_told cvL_126 rfl rfl ⟨by omega, by decide, Nat.le_of_ble_eq_true rfl⟩ dL_law_1016 (fun r150 ν151 => ?_)
        refine s_aload_n hX dL_law_1019 rfl 2 rfl ?_
        refine s_xload_n hX dL_law_1020 rfl 0 rfl ?_
        refine s_iload_n hX dL_law_1021 rfl 3 rfl ?_
        refine s_iconst (v := 1) hX dL_law_1022 (by decide) ?_
        refine s_iadd hX dL_law_1023 ?_
        refine s_sld hXs dL_law_1024 ?_
        refine s_xload_n hX dL_law_1025 rfl 0 rfl ?_
        refine s_iload_n hX dL_law_1026 rfl 3 rfl ?_
        refine s_iconst (v := 2) hX dL_law_1027 (by decide) ?_
        refine s_iadd hX dL_law_1028 ?_
        refine s_sld hXs dL_law_1029 ?_
        refine s_callViw hX [.int (xs (ix (x3_1 + 1))), .int (xs (ix (x3_1 + 2)))] (k := 112) (ci := 10) rfl hc10 vkX11_told (fun r ν hF => c_X11_told  hF) mkX11_told cvL_129 rfl rfl ⟨by omega, by decide, Nat.le_of_ble_eq_true rfl⟩ dL_law_1030 (fun r152 ν153 => ?_)
        refine s_icmp_eq hX 1234 dL_law_1033 (by decide) ?_ ?_
        · exact s_to hX [0, 1, 2, 3] rfl (hj6 ν153)
        · refine s_iconst (v := 0) hX dL_law_1036 (by decide) ?_
          exact s_zreti (by decide) hKq4 hR dL_law_1037
      refine s_tabC (v := 28) (a := 28) hX 1038 dL_law_32 (by decide) (by decide) (by decide) rfl (by decide) ?_ (fun hne159 => ?_)
      · refine s_aload_n hX dL_law_1038 rfl 1 rfl ?_
        refine s_xload_n hX dL_law_1039 rfl 0 rfl ?_
        refine s_iload_n hX dL_law_1040 rfl 3 rfl ?_
        refine s_iconst (v := 1) hX dL_law_1041 (by decide) ?_
        refine s_iadd hX dL_law_1042 ?_
        refine s_sld hXs dL_law_1043 ?_
        refine s_xload_n hX dL_law_1044 rfl 0 rfl ?_
        refine s_iload_n hX dL_law_1045 rfl 3 rfl ?_
        refine s_iconst (v := 2) hX dL_law_1046 (by decide) ?_
        refine s_iadd hX dL_law_1047 ?_
        refine s_sld hXs dL_law_1048 ?_
        refine s_callViw hX [.int (xs (ix (x3_1 + 1))), .int (xs (ix (x3_1 + 2)))] (k := 0) (ci := 9) rfl hc9 vkX10_fit (fun r ν hF => c_X10_fit  hF) mkX10_fit cvL_130 rfl rfl ⟨by omega, by decide, Nat.le_of_ble_eq_true rfl⟩ dL_law_1049 (fun r155 ν156 => ?_)
        refine s_aload_n hX dL_law_1052 rfl 2 rfl ?_
        refine s_xload_n hX dL_law_1053 rfl 0 rfl ?_
        refine s_iload_n hX dL_law_1054 rfl 3 rfl ?_
        refine s_iconst (v := 1) hX dL_law_1055 (by decide) ?_
        refine s_iadd hX dL_law_1056 ?_
        refine s_sld hXs dL_law_1057 ?_
        refine s_xload_n hX dL_law_1058 rfl 0 rfl ?_
        refine s_iload_n hX dL_law_1059 rfl 3 rfl ?_
        refine s_iconst (v := 2) hX dL_law_1060 (by decide) ?_
        refine s_iadd hX dL_law_1061 ?_
        refine s_sld hXs dL_law_1062 ?_
        refine s_callViw hX [.int (xs (ix (x3_1 + 1))), .int (xs (ix (x3_1 + 2)))] (k := 112) (ci := 10) rfl hc10 vkX11_fit (fun r ν hF => c_X11_fit  hF) mkX11_fit cvL_133 rfl rfl ⟨by omega, by decide, Nat.le_of_ble_eq_true rfl⟩ dL_law_1063 (fun r157 ν158 => ?_)
        refine s_icmp_eq hX 1234 dL_law_1066 (by decide) ?_ ?_
        · exact s_to hX [0, 1, 2, 3] rfl (hj6 ν158)
        · refine s_iconst (v := 0) hX dL_law_1069 (by decide) ?_
          exact s_zreti (by decide) hKq4 hR dL_law_1070
      refine s_tabC (v := 29) (a := 29) hX 1071 dL_law_32 (by decide) (by decide) (by decide) rfl (by decide) ?_ (fun hne164 => ?_)
      · refine s_aload_n hX dL_law_1071 rfl 1 rfl ?_
        refine s_xload_n hX dL_law_1072 rfl 0 rfl ?_
        refine s_iload_n hX dL_law_1073 rfl 3 rfl ?_
        refine s_iconst (v := 1) hX dL_law_1074 (by decide) ?_
        refine s_iadd hX dL_law_1075 ?_
        refine s_sld hXs dL_law_1076 ?_
        refine s_xload_n hX dL_law_1077 rfl 0 rfl ?_
        refine s_iload_n hX dL_law_1078 rfl 3 rfl ?_
        refine s_iconst (v := 2) hX dL_law_1079 (by decide) ?_
        refine s_iadd hX dL_law_1080 ?_
        refine s_sld hXs dL_law_1081 ?_
        refine s_callViw hX [.int (xs (ix (x3_1 + 1))), .int (xs (ix (x3_1 + 2)))] (k := 0) (ci := 9) rfl hc9 vkX10_drawn (fun r ν hF => c_X10_drawn  hF) mkX10_drawn cvL_134 rfl rfl ⟨by omega, by decide, Nat.le_of_ble_eq_true rfl⟩ dL_law_1082 (fun r160 ν161 => ?_)
        refine s_aload_n hX dL_law_1085 rfl 2 rfl ?_
        refine s_xload_n hX dL_law_1086 rfl 0 rfl ?_
        refine s_iload_n hX dL_law_1087 rfl 3 rfl ?_
        refine s_iconst (v := 1) hX dL_law_1088 (by decide) ?_
        refine s_iadd hX dL_law_1089 ?_
        refine s_sld hXs dL_law_1090 ?_
        refine s_xload_n hX dL_law_1091 rfl 0 rfl ?_
        refine s_iload_n hX dL_law_1092 rfl 3 rfl ?_
        refine s_iconst (v := 2) hX dL_law_1093 (by decide) ?_
        refine s_iadd hX dL_law_1094 ?_
        refine s_sld hXs dL_law_1095 ?_
        refine s_callViw hX [.int (xs (ix (x3_1 + 1))), .int (xs (ix (x3_1 + 2)))] (k := 112) (ci := 10) rfl hc10 vkX11_drawn (fun r ν hF => c_X11_drawn  hF) mkX11_drawn cvL_137 rfl rfl ⟨by omega, by decide, Nat.le_of_ble_eq_true rfl⟩ dL_law_1096 (fun r162 ν163 => ?_)
        refine s_icmp_eq hX 1234 dL_law_1099 (by decide) ?_ ?_
        · exact s_to hX [0, 1, 2, 3] rfl (hj6 ν163)
        · refine s_iconst (v := 0) hX dL_law_1102 (by decide) ?_
          exact s_zreti (by decide) hKq4 hR dL_law_1103
      refine s_tabC (v := 30) (a := 30) hX 1104 dL_law_32 (by decide) (by decide) (by decide) rfl (by decide) ?_ (fun hne169 => ?_)
      · refine s_aload_n hX dL_law_1104 rfl 1 rfl ?_
        refine s_xload_n hX dL_law_1105 rfl 0 rfl ?_
        refine s_iload_n hX dL_law_1106 rfl 3 rfl ?_
        refine s_iconst (v := 1) hX dL_law_1107 (by decide) ?_
        refine s_iadd hX dL_law_1108 ?_
        refine s_sld hXs dL_law_1109 ?_
        refine s_callVlw hX [.int (xs (ix (x3_1 + 1)))] (k := 0) (ci := 9) rfl hc9 vkX10_part (fun r ν hF => c_X10_part  hF) mkX10_part cvL_138 rfl rfl ⟨by omega, by decide, Nat.le_of_ble_eq_true rfl⟩ dL_law_1110 (fun r165 ν166 => ?_)
        refine s_aload_n hX dL_law_1113 rfl 2 rfl ?_
        refine s_xload_n hX dL_law_1114 rfl 0 rfl ?_
        refine s_iload_n hX dL_law_1115 rfl 3 rfl ?_
        refine s_iconst (v := 1) hX dL_law_1116 (by decide) ?_
        refine s_iadd hX dL_law_1117 ?_
        refine s_sld hXs dL_law_1118 ?_
        refine s_callVlw hX [.int (xs (ix (x3_1 + 1)))] (k := 112) (ci := 10) rfl hc10 vkX11_part (fun r ν hF => c_X11_part  hF) mkX11_part cvL_142 rfl rfl ⟨by omega, by decide, Nat.le_of_ble_eq_true rfl⟩ dL_law_1119 (fun r167 ν168 => ?_)
        refine s_lcmp_eq hX 1234 dL_law_1122 dL_law_1123 (by decide) ?_ ?_
        · exact s_to hX [0, 1, 2, 3] rfl (hj6 ν168)
        · refine s_iconst (v := 0) hX dL_law_1126 (by decide) ?_
          exact s_zreti (by decide) hKq4 hR dL_law_1127
      refine s_tabC (v := 31) (a := 31) hX 1128 dL_law_32 (by decide) (by decide) (by decide) rfl (by decide) ?_ (fun hne174 => ?_)
      · refine s_aload_n hX dL_law_1128 rfl 1 rfl ?_
        refine s_xload_n hX dL_law_1129 rfl 0 rfl ?_
        refine s_iload_n hX dL_law_1130 rfl 3 rfl ?_
        refine s_iconst (v := 1) hX dL_law_1131 (by decide) ?_
        refine s_iadd hX dL_law_1132 ?_
        refine s_sld hXs dL_law_1133 ?_
        refine s_callViw hX [.int (xs (ix (x3_1 + 1)))] (k := 0) (ci := 9) rfl hc9 vkX10_image (fun r ν hF => c_X10_image  hF) mkX10_image cvL_143 rfl rfl ⟨by omega, by decide, Nat.le_of_ble_eq_true rfl⟩ dL_law_1134 (fun r170 ν171 => ?_)
        refine s_aload_n hX dL_law_1137 rfl 2 rfl ?_
        refine s_xload_n hX dL_law_1138 rfl 0 rfl ?_
        refine s_iload_n hX dL_law_1139 rfl 3 rfl ?_
        refine s_iconst (v := 1) hX dL_law_1140 (by decide) ?_
        refine s_iadd hX dL_law_1141 ?_
        refine s_sld hXs dL_law_1142 ?_
        refine s_callViw hX [.int (xs (ix (x3_1 + 1)))] (k := 112) (ci := 10) rfl hc10 vkX11_image (fun r ν hF => c_X11_image  hF) mkX11_image cvL_146 rfl rfl ⟨by omega, by decide, Nat.le_of_ble_eq_true rfl⟩ dL_law_1143 (fun r172 ν173 => ?_)
        refine s_icmp_eq hX 1234 dL_law_1146 (by decide) ?_ ?_
        · exact s_to hX [0, 1, 2, 3] rfl (hj6 ν173)
        · refine s_iconst (v := 0) hX dL_law_1149 (by decide) ?_
          exact s_zreti (by decide) hKq4 hR dL_law_1150
      refine s_tabC (v := 32) (a := 32) hX 1151 dL_law_32 (by decide) (by decide) (by decide) rfl (by decide) ?_ (fun hne179 => ?_)
      · refine s_aload_n hX dL_law_1151 rfl 1 rfl ?_
        refine s_xload_n hX dL_law_1152 rfl 0 rfl ?_
        refine s_iload_n hX dL_law_1153 rfl 3 rfl ?_
        refine s_iconst (v := 1) hX dL_law_1154 (by decide) ?_
        refine s_iadd hX dL_law_1155 ?_
        refine s_sld hXs dL_law_1156 ?_
        refine s_callViw hX [.int (xs (ix (x3_1 + 1)))] (k := 0) (ci := 9) rfl hc9 vkX10_from (fun r ν hF => c_X10_from  hF) mkX10_from cvL_147 rfl rfl ⟨by omega, by decide, Nat.le_of_ble_eq_true rfl⟩ dL_law_1157 (fun r175 ν176 => ?_)
        refine s_aload_n hX dL_law_1160 rfl 2 rfl ?_
        refine s_xload_n hX dL_law_1161 rfl 0 rfl ?_
        refine s_iload_n hX dL_law_1162 rfl 3 rfl ?_
        refine s_iconst (v := 1) hX dL_law_1163 (by decide) ?_
        refine s_iadd hX dL_law_1164 ?_
        refine s_sld hXs dL_law_1165 ?_
        refine s_callViw hX [.int (xs (ix (x3_1 + 1)))] (k := 112) (ci := 10) rfl hc10 vkX11_from (fun r ν hF => c_X11_from  hF) mkX11_from cvL_150 rfl rfl ⟨by omega, by decide, Nat.le_of_ble_eq_true rfl⟩ dL_law_1166 (fun r177 ν178 => ?_)
        refine s_icmp_eq hX 1234 dL_law_1169 (by decide) ?_ ?_
        · exact s_to hX [0, 1, 2, 3] rfl (hj6 ν178)
        · refine s_iconst (v := 0) hX dL_law_1172 (by decide) ?_
          exact s_zreti (by decide) hKq4 hR dL_law_1173
      refine s_tabC (v := 33) (a := 33) hX 1174 dL_law_32 (by decide) (by decide) (by decide) rfl (by decide) ?_ (fun hne184 => ?_)
      · refine s_aload_n hX dL_law_1174 rfl 1 rfl ?_
        refine s_xload_n hX dL_law_1175 rfl 0 rfl ?_
        refine s_iload_n hX dL_law_1176 rfl 3 rfl ?_
        refine s_iconst (v := 1) hX dL_law_1177 (by decide) ?_
        refine s_iadd hX dL_law_1178 ?_
        refine s_sld hXs dL_law_1179 ?_
        refine s_callViw hX [.int (xs (ix (x3_1 + 1)))] (k := 0) (ci := 9) rfl hc9 vkX10_status (fun r ν hF => c_X10_status  hF) mkX10_status cvL_151 rfl rfl ⟨by omega, by decide, Nat.le_of_ble_eq_true rfl⟩ dL_law_1180 (fun r180 ν181 => ?_)
        refine s_aload_n hX dL_law_1183 rfl 2 rfl ?_
        refine s_xload_n hX dL_law_1184 rfl 0 rfl ?_
        refine s_iload_n hX dL_law_1185 rfl 3 rfl ?_
        refine s_iconst (v := 1) hX dL_law_1186 (by decide) ?_
        refine s_iadd hX dL_law_1187 ?_
        refine s_sld hXs dL_law_1188 ?_
        refine s_callViw hX [.int (xs (ix (x3_1 + 1)))] (k := 112) (ci := 10) rfl hc10 vkX11_status (fun r ν hF => c_X11_status  hF) mkX11_status cvL_154 rfl rfl ⟨by omega, by decide, Nat.le_of_ble_eq_true rfl⟩ dL_law_1189 (fun r182 ν183 => ?_)
        refine s_icmp_eq hX 1234 dL_law_1192 (by decide) ?_ ?_
        · exact s_to hX [0, 1, 2, 3] rfl (hj6 ν183)
        · refine s_iconst (v := 0) hX dL_law_1195 (by decide) ?_
          exact s_zreti (by decide) hKq4 hR dL_law_1196
      refine s_tabC (v := 34) (a := 34) hX 1197 dL_law_32 (by decide) (by decide) (by decide) rfl (by decide) ?_ (fun hne189 => ?_)
      · refine s_aload_n hX dL_law_1197 rfl 1 rfl ?_
        refine s_xload_n hX dL_law_1198 rfl 0 rfl ?_
        refine s_iload_n hX dL_law_1199 rfl 3 rfl ?_
        refine s_iconst (v := 1) hX dL_law_1200 (by decide) ?_
        refine s_iadd hX dL_law_1201 ?_
        refine s_sld hXs dL_law_1202 ?_
        refine s_callViw hX [.int (xs (ix (x3_1 + 1)))] (k := 0) (ci := 9) rfl hc9 vkX10_count (fun r ν hF => c_X10_count  hF) mkX10_count cvL_155 rfl rfl ⟨by omega, by decide, Nat.le_of_ble_eq_true rfl⟩ dL_law_1203 (fun r185 ν186 => ?_)
        refine s_aload_n hX dL_law_1206 rfl 2 rfl ?_
        refine s_xload_n hX dL_law_1207 rfl 0 rfl ?_
        refine s_iload_n hX dL_law_1208 rfl 3 rfl ?_
        refine s_iconst (v := 1) hX dL_law_1209 (by decide) ?_
        refine s_iadd hX dL_law_1210 ?_
        refine s_sld hXs dL_law_1211 ?_
        refine s_callViw hX [.int (xs (ix (x3_1 + 1)))] (k := 112) (ci := 10) rfl hc10 vkX11_count (fun r ν hF => c_X11_count  hF) mkX11_count cvL_158 rfl rfl ⟨by omega, by decide, Nat.le_of_ble_eq_true rfl⟩ dL_law_1212 (fun r187 ν188 => ?_)
        refine s_icmp_eq hX 1234 dL_law_1215 (by decide) ?_ ?_
        · exact s_to hX [0, 1, 2, 3] rfl (hj6 ν188)
        · refine s_iconst (v := 0) hX dL_law_1218 (by decide) ?_
          exact s_zreti (by decide) hKq4 hR dL_law_1219
      refine s_tabC (v := 35) (a := 35) hX 1220 dL_law_32 (by decide) (by decide) (by decide) rfl (by decide) ?_ (fun hne192 => ?_)
      · refine s_aload_n hX dL_law_1220 rfl 1 rfl ?_
        refine s_callVlr hX [] (k := 0) (ci := 9) rfl hc9 vkX10_digest (fun r hF => c_X10_digest  hF) mkX10_digest cvL_159 rfl rfl ⟨by omega, by decide, Nat.le_of_ble_eq_true rfl⟩ dL_law_1221 (fun r190 => ?_)
        refine s_aload_n hX dL_law_1224 rfl 2 rfl ?_
        refine s_callVlr hX [] (k := 112) (ci := 10) rfl hc10 vkX11_digest (fun r hF => c_X11_digest  hF) mkX11_digest cvL_163 rfl rfl ⟨by omega, by decide, Nat.le_of_ble_eq_true rfl⟩ dL_law_1225 (fun r191 => ?_)
        refine s_lcmp_eq hX 1234 dL_law_1228 dL_law_1229 (by decide) ?_ ?_
        · exact s_to hX [0, 1, 2, 3] rfl (hj6 ν2)
        · refine s_iconst (v := 0) hX dL_law_1232 (by decide) ?_
          exact s_zreti (by decide) hKq4 hR dL_law_1233
      refine s_tabD hX 1234 dL_law_32 (by omega) (by decide) ?_
      exact s_to hX [0, 1, 2, 3] rfl (hj6 ν2)
  · intro sq
    obtain ⟨ν3, rfl⟩ : ∃ z, z = sq := ⟨_, rfl⟩
    show Sim G _ _ 1240 [] [] ν3
    refine s_iconst (v := 1) hX dL_law_1240 (by decide) ?_
    exact s_zreti (by decide) hK hR dL_law_1241
