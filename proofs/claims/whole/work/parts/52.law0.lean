
theorem d_LAW_168 : decode code 168 = .ok (.aload_n 1, 1) := by decide +kernel
theorem d_LAW_169 : decode code 169 = .ok (.aload_n 0, 1) := by decide +kernel
theorem d_LAW_170 : decode code 170 = .ok (.iload 4, 2) := by decide +kernel
theorem d_LAW_172 : decode code 172 = .ok (.iconst 1, 1) := by decide +kernel
theorem d_LAW_173 : decode code 173 = .ok (.iadd, 1) := by decide +kernel
theorem d_LAW_174 : decode code 174 = .ok (.iaload, 1) := by decide +kernel
theorem d_LAW_175 : decode code 175 = .ok (.aload_n 0, 1) := by decide +kernel
theorem d_LAW_176 : decode code 176 = .ok (.iload 4, 2) := by decide +kernel
theorem d_LAW_178 : decode code 178 = .ok (.iconst 2, 1) := by decide +kernel
theorem d_LAW_179 : decode code 179 = .ok (.iadd, 1) := by decide +kernel
theorem d_LAW_180 : decode code 180 = .ok (.iaload, 1) := by decide +kernel
theorem d_LAW_181 : decode code 181 = .ok (.i2l, 1) := by decide +kernel
theorem d_LAW_182 : decode code 182 = .ok (.bipush 32, 2) := by decide +kernel
theorem d_LAW_184 : decode code 184 = .ok (.lshl, 1) := by decide +kernel
theorem d_LAW_185 : decode code 185 = .ok (.aload_n 0, 1) := by decide +kernel
theorem d_LAW_186 : decode code 186 = .ok (.iload 4, 2) := by decide +kernel
theorem d_LAW_188 : decode code 188 = .ok (.iconst 3, 1) := by decide +kernel
theorem d_LAW_189 : decode code 189 = .ok (.iadd, 1) := by decide +kernel
theorem d_LAW_190 : decode code 190 = .ok (.iaload, 1) := by decide +kernel
theorem d_LAW_191 : decode code 191 = .ok (.i2l, 1) := by decide +kernel
theorem d_LAW_192 : decode code 192 = .ok (.ldc2_w 97, 3) := by decide +kernel
theorem d_LAW_195 : decode code 195 = .ok (.land, 1) := by decide +kernel
theorem d_LAW_196 : decode code 196 = .ok (.lor, 1) := by decide +kernel
theorem d_LAW_197 : decode code 197 = .ok (.aload_n 3, 1) := by decide +kernel
theorem d_LAW_198 : decode code 198 = .ok (.invokestatic 99, 3) := by decide +kernel
theorem d_LAW_201 : decode code 201 = .ok (.istore 5, 2) := by decide +kernel
theorem d_LAW_203 : decode code 203 = .ok (.aload_n 2, 1) := by decide +kernel
theorem d_LAW_204 : decode code 204 = .ok (.aload_n 0, 1) := by decide +kernel
theorem d_LAW_205 : decode code 205 = .ok (.iload 4, 2) := by decide +kernel
theorem d_LAW_207 : decode code 207 = .ok (.iconst 1, 1) := by decide +kernel
theorem d_LAW_208 : decode code 208 = .ok (.iadd, 1) := by decide +kernel
theorem d_LAW_209 : decode code 209 = .ok (.iaload, 1) := by decide +kernel
theorem d_LAW_210 : decode code 210 = .ok (.aload_n 0, 1) := by decide +kernel
theorem d_LAW_211 : decode code 211 = .ok (.iload 4, 2) := by decide +kernel
theorem d_LAW_213 : decode code 213 = .ok (.iconst 2, 1) := by decide +kernel
theorem d_LAW_214 : decode code 214 = .ok (.iadd, 1) := by decide +kernel
theorem d_LAW_215 : decode code 215 = .ok (.iaload, 1) := by decide +kernel
theorem d_LAW_216 : decode code 216 = .ok (.i2l, 1) := by decide +kernel
theorem d_LAW_217 : decode code 217 = .ok (.bipush 32, 2) := by decide +kernel
theorem d_LAW_219 : decode code 219 = .ok (.lshl, 1) := by decide +kernel
theorem d_LAW_220 : decode code 220 = .ok (.aload_n 0, 1) := by decide +kernel
theorem d_LAW_221 : decode code 221 = .ok (.iload 4, 2) := by decide +kernel
theorem d_LAW_223 : decode code 223 = .ok (.iconst 3, 1) := by decide +kernel
theorem d_LAW_224 : decode code 224 = .ok (.iadd, 1) := by decide +kernel
theorem d_LAW_225 : decode code 225 = .ok (.iaload, 1) := by decide +kernel
theorem d_LAW_226 : decode code 226 = .ok (.i2l, 1) := by decide +kernel
theorem d_LAW_227 : decode code 227 = .ok (.ldc2_w 97, 3) := by decide +kernel
theorem d_LAW_230 : decode code 230 = .ok (.land, 1) := by decide +kernel
theorem d_LAW_231 : decode code 231 = .ok (.lor, 1) := by decide +kernel
theorem d_LAW_232 : decode code 232 = .ok (.invokevirtual 104, 3) := by decide +kernel
theorem d_LAW_235 : decode code 235 = .ok (.istore 6, 2) := by decide +kernel
theorem d_LAW_237 : decode code 237 = .ok (.aload_n 2, 1) := by decide +kernel
theorem d_LAW_238 : decode code 238 = .ok (.invokevirtual 105, 3) := by decide +kernel
theorem d_LAW_241 : decode code 241 = .ok (.iload 5, 2) := by decide +kernel
theorem d_LAW_243 : decode code 243 = .ok (.if_icmp .eq 5, 3) := by decide +kernel
theorem d_LAW_246 : decode code 246 = .ok (.iconst 0, 1) := by decide +kernel
theorem d_LAW_247 : decode code 247 = .ok (.ireturn, 1) := by decide +kernel
theorem d_LAW_248 : decode code 248 = .ok (.iload 5, 2) := by decide +kernel
theorem d_LAW_250 : decode code 250 = .ok (.ifCond .ne 15, 3) := by decide +kernel
theorem d_LAW_253 : decode code 253 = .ok (.aload_n 3, 1) := by decide +kernel
theorem d_LAW_254 : decode code 254 = .ok (.iconst 0, 1) := by decide +kernel
theorem d_LAW_255 : decode code 255 = .ok (.laload, 1) := by decide +kernel
theorem d_LAW_256 : decode code 256 = .ok (.iload 6, 2) := by decide +kernel
theorem d_LAW_258 : decode code 258 = .ok (.i2l, 1) := by decide +kernel
theorem d_LAW_259 : decode code 259 = .ok (.lcmp, 1) := by decide +kernel
theorem d_LAW_260 : decode code 260 = .ok (.ifCond .eq 5, 3) := by decide +kernel
theorem d_LAW_263 : decode code 263 = .ok (.iconst 0, 1) := by decide +kernel
theorem d_LAW_264 : decode code 264 = .ok (.ireturn, 1) := by decide +kernel
theorem d_LAW_265 : decode code 265 = .ok (.goto 1910, 3) := by decide +kernel
theorem d_LAW_268 : decode code 268 = .ok (.aload_n 1, 1) := by decide +kernel
theorem d_LAW_269 : decode code 269 = .ok (.aload_n 0, 1) := by decide +kernel
theorem d_LAW_270 : decode code 270 = .ok (.iload 4, 2) := by decide +kernel
theorem d_LAW_272 : decode code 272 = .ok (.iconst 1, 1) := by decide +kernel
theorem d_LAW_273 : decode code 273 = .ok (.iadd, 1) := by decide +kernel
theorem d_LAW_274 : decode code 274 = .ok (.iaload, 1) := by decide +kernel
theorem d_LAW_275 : decode code 275 = .ok (.aload_n 3, 1) := by decide +kernel
theorem d_LAW_276 : decode code 276 = .ok (.invokestatic 109, 3) := by decide +kernel
theorem d_LAW_279 : decode code 279 = .ok (.istore 5, 2) := by decide +kernel
theorem d_LAW_281 : decode code 281 = .ok (.aload_n 2, 1) := by decide +kernel
theorem d_LAW_282 : decode code 282 = .ok (.aload_n 0, 1) := by decide +kernel
theorem d_LAW_283 : decode code 283 = .ok (.iload 4, 2) := by decide +kernel
theorem d_LAW_285 : decode code 285 = .ok (.iconst 1, 1) := by decide +kernel
theorem d_LAW_286 : decode code 286 = .ok (.iadd, 1) := by decide +kernel
theorem d_LAW_287 : decode code 287 = .ok (.iaload, 1) := by decide +kernel
theorem d_LAW_288 : decode code 288 = .ok (.invokevirtual 112, 3) := by decide +kernel
theorem d_LAW_291 : decode code 291 = .ok (.istore 6, 2) := by decide +kernel
theorem d_LAW_293 : decode code 293 = .ok (.aload_n 2, 1) := by decide +kernel
theorem d_LAW_294 : decode code 294 = .ok (.invokevirtual 105, 3) := by decide +kernel
theorem d_LAW_297 : decode code 297 = .ok (.iload 5, 2) := by decide +kernel
theorem d_LAW_299 : decode code 299 = .ok (.if_icmp .eq 5, 3) := by decide +kernel
theorem d_LAW_302 : decode code 302 = .ok (.iconst 0, 1) := by decide +kernel
theorem d_LAW_303 : decode code 303 = .ok (.ireturn, 1) := by decide +kernel
theorem d_LAW_304 : decode code 304 = .ok (.iload 5, 2) := by decide +kernel
theorem d_LAW_306 : decode code 306 = .ok (.ifCond .ne 15, 3) := by decide +kernel
theorem d_LAW_309 : decode code 309 = .ok (.aload_n 3, 1) := by decide +kernel
theorem d_LAW_310 : decode code 310 = .ok (.iconst 0, 1) := by decide +kernel
theorem d_LAW_311 : decode code 311 = .ok (.laload, 1) := by decide +kernel
theorem d_LAW_312 : decode code 312 = .ok (.iload 6, 2) := by decide +kernel
theorem d_LAW_314 : decode code 314 = .ok (.i2l, 1) := by decide +kernel
theorem d_LAW_315 : decode code 315 = .ok (.lcmp, 1) := by decide +kernel
theorem d_LAW_316 : decode code 316 = .ok (.ifCond .eq 5, 3) := by decide +kernel
theorem d_LAW_319 : decode code 319 = .ok (.iconst 0, 1) := by decide +kernel
theorem d_LAW_320 : decode code 320 = .ok (.ireturn, 1) := by decide +kernel
theorem d_LAW_321 : decode code 321 = .ok (.goto 1854, 3) := by decide +kernel
theorem d_LAW_324 : decode code 324 = .ok (.aload_n 1, 1) := by decide +kernel
theorem d_LAW_325 : decode code 325 = .ok (.aload_n 0, 1) := by decide +kernel
theorem d_LAW_326 : decode code 326 = .ok (.iload 4, 2) := by decide +kernel
theorem d_LAW_328 : decode code 328 = .ok (.iconst 1, 1) := by decide +kernel
theorem d_LAW_329 : decode code 329 = .ok (.iadd, 1) := by decide +kernel
theorem d_LAW_330 : decode code 330 = .ok (.iaload, 1) := by decide +kernel
theorem d_LAW_331 : decode code 331 = .ok (.aload_n 0, 1) := by decide +kernel
theorem d_LAW_332 : decode code 332 = .ok (.iload 4, 2) := by decide +kernel
theorem d_LAW_334 : decode code 334 = .ok (.iconst 2, 1) := by decide +kernel
theorem d_LAW_335 : decode code 335 = .ok (.iadd, 1) := by decide +kernel
theorem d_LAW_336 : decode code 336 = .ok (.iaload, 1) := by decide +kernel
theorem d_LAW_337 : decode code 337 = .ok (.ifCond .eq 7, 3) := by decide +kernel
theorem d_LAW_340 : decode code 340 = .ok (.iconst 1, 1) := by decide +kernel
theorem d_LAW_341 : decode code 341 = .ok (.goto 4, 3) := by decide +kernel
theorem d_LAW_344 : decode code 344 = .ok (.iconst 0, 1) := by decide +kernel
theorem d_LAW_345 : decode code 345 = .ok (.aload_n 3, 1) := by decide +kernel
theorem d_LAW_346 : decode code 346 = .ok (.invokestatic 113, 3) := by decide +kernel
theorem d_LAW_349 : decode code 349 = .ok (.istore 5, 2) := by decide +kernel
theorem d_LAW_351 : decode code 351 = .ok (.aload_n 2, 1) := by decide +kernel
theorem d_LAW_352 : decode code 352 = .ok (.aload_n 0, 1) := by decide +kernel
theorem d_LAW_353 : decode code 353 = .ok (.iload 4, 2) := by decide +kernel
theorem d_LAW_355 : decode code 355 = .ok (.iconst 1, 1) := by decide +kernel
theorem d_LAW_356 : decode code 356 = .ok (.iadd, 1) := by decide +kernel
theorem d_LAW_357 : decode code 357 = .ok (.iaload, 1) := by decide +kernel
theorem d_LAW_358 : decode code 358 = .ok (.aload_n 0, 1) := by decide +kernel
theorem d_LAW_359 : decode code 359 = .ok (.iload 4, 2) := by decide +kernel
theorem d_LAW_361 : decode code 361 = .ok (.iconst 2, 1) := by decide +kernel
theorem d_LAW_362 : decode code 362 = .ok (.iadd, 1) := by decide +kernel
theorem d_LAW_363 : decode code 363 = .ok (.iaload, 1) := by decide +kernel
theorem d_LAW_364 : decode code 364 = .ok (.ifCond .eq 7, 3) := by decide +kernel
theorem d_LAW_367 : decode code 367 = .ok (.iconst 1, 1) := by decide +kernel
theorem d_LAW_368 : decode code 368 = .ok (.goto 4, 3) := by decide +kernel
theorem d_LAW_371 : decode code 371 = .ok (.iconst 0, 1) := by decide +kernel
theorem d_LAW_372 : decode code 372 = .ok (.invokevirtual 116, 3) := by decide +kernel
theorem d_LAW_375 : decode code 375 = .ok (.istore 6, 2) := by decide +kernel
theorem d_LAW_377 : decode code 377 = .ok (.aload_n 2, 1) := by decide +kernel
theorem d_LAW_378 : decode code 378 = .ok (.invokevirtual 105, 3) := by decide +kernel
theorem d_LAW_381 : decode code 381 = .ok (.iload 5, 2) := by decide +kernel
theorem d_LAW_383 : decode code 383 = .ok (.if_icmp .eq 5, 3) := by decide +kernel
theorem d_LAW_386 : decode code 386 = .ok (.iconst 0, 1) := by decide +kernel
theorem d_LAW_387 : decode code 387 = .ok (.ireturn, 1) := by decide +kernel
theorem d_LAW_388 : decode code 388 = .ok (.iload 5, 2) := by decide +kernel
theorem d_LAW_390 : decode code 390 = .ok (.ifCond .ne 15, 3) := by decide +kernel
theorem d_LAW_393 : decode code 393 = .ok (.aload_n 3, 1) := by decide +kernel
theorem d_LAW_394 : decode code 394 = .ok (.iconst 0, 1) := by decide +kernel
theorem d_LAW_395 : decode code 395 = .ok (.laload, 1) := by decide +kernel
theorem d_LAW_396 : decode code 396 = .ok (.iload 6, 2) := by decide +kernel
theorem d_LAW_398 : decode code 398 = .ok (.i2l, 1) := by decide +kernel
theorem d_LAW_399 : decode code 399 = .ok (.lcmp, 1) := by decide +kernel
theorem d_LAW_400 : decode code 400 = .ok (.ifCond .eq 5, 3) := by decide +kernel
theorem d_LAW_403 : decode code 403 = .ok (.iconst 0, 1) := by decide +kernel
theorem d_LAW_404 : decode code 404 = .ok (.ireturn, 1) := by decide +kernel
theorem d_LAW_405 : decode code 405 = .ok (.goto 1770, 3) := by decide +kernel
theorem d_LAW_408 : decode code 408 = .ok (.aload_n 1, 1) := by decide +kernel
theorem d_LAW_409 : decode code 409 = .ok (.invokevirtual 117, 3) := by decide +kernel
theorem d_LAW_412 : decode code 412 = .ok (.aload_n 2, 1) := by decide +kernel
theorem d_LAW_413 : decode code 413 = .ok (.invokevirtual 120, 3) := by decide +kernel
theorem d_LAW_416 : decode code 416 = .ok (.if_icmp .eq 1759, 3) := by decide +kernel
theorem d_LAW_419 : decode code 419 = .ok (.iconst 0, 1) := by decide +kernel
theorem d_LAW_420 : decode code 420 = .ok (.ireturn, 1) := by decide +kernel
theorem d_LAW_421 : decode code 421 = .ok (.aload_n 1, 1) := by decide +kernel
theorem d_LAW_422 : decode code 422 = .ok (.invokevirtual 121, 3) := by decide +kernel
theorem d_LAW_425 : decode code 425 = .ok (.aload_n 2, 1) := by decide +kernel
theorem d_LAW_426 : decode code 426 = .ok (.invokevirtual 124, 3) := by decide +kernel
theorem d_LAW_429 : decode code 429 = .ok (.if_icmp .eq 1746, 3) := by decide +kernel
theorem d_LAW_432 : decode code 432 = .ok (.iconst 0, 1) := by decide +kernel
theorem d_LAW_433 : decode code 433 = .ok (.ireturn, 1) := by decide +kernel
section
variable {p : Program} {l : Launch} {e : Env} {R : Room} {s : State} {m : MethodId} {args : Array Value} {below : List Frame} {meth : Method} {c : Code} {H : Heap} {locs : List Loc} {cells slots : Nat} {Q : State → Prop} {ls : Array Slot} {dC : Nat → ClassId} {dI : Nat → Nat → Nat} {hx hm o : Nat} {S : CS} {M : MS} {a : Int64} {b L : Nat} {xs : Nat → Int32}
set_option maxRecDepth 100000 in
set_option maxHeartbeats 1000000 in
theorem law_feed (C0 : Cx p s m meth c args R code "ZoneFilesLaw" 8 (some .boolean) 12 518) (hLX : LX s b L xs) (hno : NT l) (nf : Nat) {i : Int32} (h1 : vp_in (i + 1) L) (h2 : vp_in (i + 2) L) (h3 : vp_in (i + 3) L) (hLA : LA dC dI s hx hm o S M a H locs) (hl : lv_has ls 8 [(0, .ref b), (1, .ref hx), (2, .ref hm), (3, .ref o), (4, .int i)]) {S' : CS} {k : Int32} {ans : Int64} {kc ks : Nat} (hc : cq_feed nf S (xs (i + 1).toNatClampNeg) (((xs (i + 2).toNatClampNeg).toInt64 <<< ((32 : Int32).toInt64 &&& 63)) ||| ((xs (i + 3).toNatClampNeg).toInt64 &&& 4294967295)) = some (k, ans, S', kc, ks)) {r0 : Int32} {M' : MS} (hm1 : f_Mo_feed nf (xs (i + 1).toNatClampNeg) (((xs (i + 2).toNatClampNeg).toInt64 <<< ((32 : Int32).toInt64 &&& 63)) ||| ((xs (i + 3).toNatClampNeg).toInt64 &&& 4294967295)) M.1 M.2.1 M.2.2.1 M.2.2.2 = some (r0, M')) (ht : f_Mo_thrown nf M'.1 M'.2.1 M'.2.2.1 M'.2.2.2 = some k) (he : k = 0 → ans = r0.toInt64) (hcell : cells + kc ≤ R.cells) (hslot : slots + ks ≤ R.slots)
    (kk : ∀ (H1 : Heap) (locs1 : List Loc) (a1 : Int64) (ls1 : Array Slot), LA dC dI s hx hm o S' M' a1 H1 locs1 → lv_has ls1 8 [(0, .ref b), (1, .ref hx), (2, .ref hm), (3, .ref o), (4, .int i)] → W p l e R s m args below meth c H1 locs1 (cells + kc) (slots + ks) Q (F0 m 2175 ls1 [])) : W p l e R s m args below meth c H locs cells slots Q (F0 m 168 ls []) := by
  obtain ⟨hx', hb, hr, hml, hown, hts, hlocks, hRf, hRl⟩ := id C0
  obtain ⟨vi, vj, va, vb⟩ := M'
  refine lv_aload_n hx' hb d_LAW_168 rfl (lv_at hl 1 rfl) ?_
  refine lv_aload_n hx' hb d_LAW_169 rfl (lv_at hl 0 rfl) ?_
  refine lv_iload hx' hb d_LAW_170 (lv_at hl 4 rfl) ?_
  refine lv_iconst (v := 1) hx' hb d_LAW_172 (by decide) ?_
  refine lv_iadd hx' hb d_LAW_173 ?_
  refine law_ld C0 hLX hLA h1 d_LAW_174 ?_
  refine lv_aload_n hx' hb d_LAW_175 rfl (lv_at hl 0 rfl) ?_
  refine lv_iload hx' hb d_LAW_176 (lv_at hl 4 rfl) ?_
  refine lv_iconst (v := 2) hx' hb d_LAW_178 (by decide) ?_
  refine lv_iadd hx' hb d_LAW_179 ?_
  refine law_ld C0 hLX hLA h2 d_LAW_180 ?_
  refine lv_i2l hx' hb d_LAW_181 rfl ?_
  refine lv_bipush (v := 32) hx' hb d_LAW_182 (by decide) ?_
  refine lv_lshl hx' hb d_LAW_184 rfl ?_
  refine lv_aload_n hx' hb d_LAW_185 rfl (lv_at hl 0 rfl) ?_
  refine lv_iload hx' hb d_LAW_186 (lv_at hl 4 rfl) ?_
  refine lv_iconst (v := 3) hx' hb d_LAW_188 (by decide) ?_
  refine lv_iadd hx' hb d_LAW_189 ?_
  refine law_ld C0 hLX hLA h3 d_LAW_190 ?_
  refine lv_i2l hx' hb d_LAW_191 rfl ?_
  refine lv_ldc2 (v := 4294967295) hx' hb hown (hts (.constantLong "ZoneFilesLaw" 97 4294967295) m_8_234) d_LAW_192 ?_
  refine lv_land hx' hb d_LAW_195 ?_
  refine lv_lor hx' hb d_LAW_196 ?_
  refine lv_aload_n hx' hb d_LAW_197 rfl (lv_at hl 3 rfl) ?_
  refine law_W (y := y_LW_feed) (n := 4) (As := [.ref hx, .int (xs (i + 1).toNatClampNeg), .long (((xs (i + 2).toNatClampNeg).toInt64 <<< ((32 : Int32).toInt64 &&& 63)) ||| ((xs (i + 3).toNatClampNeg).toInt64 &&& 4294967295)), .ref o]) (rest := []) C0 hLX hLA (fun ad cA za zad zcA cO f => q_feed l hno dC dI hx ad cA za zad zcA S nf (xs (i + 1).toNatClampNeg) (((xs (i + 2).toNatClampNeg).toInt64 <<< ((32 : Int32).toInt64 &&& 63)) ||| ((xs (i + 3).toNatClampNeg).toInt64 &&& 4294967295)) hc o cO f) m_3_46 m_3_47 m_1_0 m_3_48 (by decide +kernel) ⟨Nat.le_trans (Nat.le_of_ble_eq_true rfl) hRf, Nat.le_trans (Nat.le_of_ble_eq_true rfl) hRl⟩ ⟨Nat.le_trans (Nat.le_of_ble_eq_true rfl) hRf, Nat.le_trans (Nat.le_of_ble_eq_true rfl) hRl⟩ rfl hl.1 rfl (Nat.le_of_ble_eq_true rfl) d_LAW_198 ⟨hcell, hslot⟩ (fun H locs a1 ha hLA => ?_)
  refine lv_istore (lv' := [(5, .int k), (0, .ref b), (1, .ref hx), (2, .ref hm), (3, .ref o), (4, .int i)]) hx' hb d_LAW_201 hl (by decide) rfl (fun ls hl => ?_)
  refine lv_aload_n hx' hb d_LAW_203 rfl (lv_at hl 3 rfl) ?_
  refine lv_aload_n hx' hb d_LAW_204 rfl (lv_at hl 1 rfl) ?_
  refine lv_iload hx' hb d_LAW_205 (lv_at hl 5 rfl) ?_
  refine lv_iconst (v := 1) hx' hb d_LAW_207 (by decide) ?_
  refine lv_iadd hx' hb d_LAW_208 ?_
  refine law_ld C0 hLX hLA h1 d_LAW_209 ?_
  refine lv_aload_n hx' hb d_LAW_210 rfl (lv_at hl 1 rfl) ?_
  refine lv_iload hx' hb d_LAW_211 (lv_at hl 5 rfl) ?_
  refine lv_iconst (v := 2) hx' hb d_LAW_213 (by decide) ?_
  refine lv_iadd hx' hb d_LAW_214 ?_
  refine law_ld C0 hLX hLA h2 d_LAW_215 ?_
  refine lv_i2l hx' hb d_LAW_216 rfl ?_
  refine lv_bipush (v := 32) hx' hb d_LAW_217 (by decide) ?_
  refine lv_lshl hx' hb d_LAW_219 rfl ?_
  refine lv_aload_n hx' hb d_LAW_220 rfl (lv_at hl 1 rfl) ?_
  refine lv_iload hx' hb d_LAW_221 (lv_at hl 5 rfl) ?_
  refine lv_iconst (v := 3) hx' hb d_LAW_223 (by decide) ?_
  refine lv_iadd hx' hb d_LAW_224 ?_
  refine law_ld C0 hLX hLA h3 d_LAW_225 ?_
  refine lv_i2l hx' hb d_LAW_226 rfl ?_
  refine lv_ldc2 (v := 4294967295) hx' hb hown (hts (.constantLong "ZoneFilesLaw" 97 4294967295) m_8_234) d_LAW_227 ?_
  refine lv_land hx' hb d_LAW_230 ?_
  refine lv_lor hx' hb d_LAW_231 ?_
  refine law_M (As := [.int (xs (i + 1).toNatClampNeg), .long (((xs (i + 2).toNatClampNeg).toInt64 <<< ((32 : Int32).toInt64 &&& 63)) ||| ((xs (i + 3).toNatClampNeg).toInt64 &&& 4294967295))]) (rest := []) (M' := (vi, vj, va, vb)) C0 hLX hLA (fun r cM => OM.ofMo (fun sz => c_Mo_feed l dC dI hm r cM sz nf (xs (i + 1).toNatClampNeg) (((xs (i + 2).toNatClampNeg).toInt64 <<< ((32 : Int32).toInt64 &&& 63)) ||| ((xs (i + 3).toNatClampNeg).toInt64 &&& 4294967295)) M.1 M.2.1 M.2.2.1 M.2.2.2 hm1)) (cwV 2 hts (gdV m_7_109 m_7_110 m_7_111 m_1_10 m_7_112) rfl rfl rfl (by decide +kernel) ⟨Nat.le_trans (Nat.le_of_ble_eq_true rfl) hRf, Nat.le_trans (Nat.le_of_ble_eq_true rfl) hRl⟩) rfl hl.1 rfl (Nat.le_of_ble_eq_true rfl) d_LAW_232 ⟨hcell, hslot⟩ rfl (fun H locs hLA => ?_)
  refine lv_istore (lv' := [(6, .int r0), (5, .int k), (0, .ref b), (1, .ref hx), (2, .ref hm), (3, .ref o), (4, .int i)]) hx' hb d_LAW_235 hl (by decide) rfl (fun ls hl => ?_)
  refine lv_aload_n hx' hb d_LAW_237 rfl (lv_at hl 4 rfl) ?_
  refine law_M (As := []) (rest := []) (M' := (vi, vj, va, vb)) C0 hLX hLA (fun r cM => OM.ofRO (c_Mo_thrown l dC dI hm r cM nf vi vj va vb ht)) (cwV 0 hts (gdV m_7_105 m_7_106 m_7_107 m_1_10 m_7_108) rfl rfl rfl (by decide +kernel) ⟨Nat.le_trans (Nat.le_of_ble_eq_true rfl) hRf, Nat.le_trans (Nat.le_of_ble_eq_true rfl) hRl⟩) rfl hl.1 rfl (Nat.le_of_ble_eq_true rfl) d_LAW_238 ⟨hcell, hslot⟩ rfl (fun H locs hLA => ?_)
  refine lv_iload hx' hb d_LAW_241 (lv_at hl 1 rfl) ?_
  refine lv_icmp_eq (tgt := 248) hx' hb d_LAW_243 (by decide) (fun _ => ?_) (fun cc => absurd rfl cc)
  refine lv_iload hx' hb d_LAW_248 (lv_at hl 1 rfl) ?_
  refine lv_if_ne (tgt := 265) hx' hb d_LAW_250 (by decide) (fun ck => ?_) (fun ck => ?_)
  · refine lv_goto (tgt := 2175) hx' hb d_LAW_265 (by decide) ?_
    exact kk _ _ _ _ hLA (lv_sub hl [2, 3, 4, 5, 6] rfl)
  · refine lv_aload_n hx' hb d_LAW_253 rfl (lv_at hl 5 rfl) ?_
    refine lv_iconst (v := 0) hx' hb d_LAW_254 (by decide) ?_
    refine law_out C0 hLA d_LAW_255 ?_
    refine lv_iload hx' hb d_LAW_256 (lv_at hl 0 rfl) ?_
    refine lv_i2l hx' hb d_LAW_258 rfl ?_
    refine lc_eq (tgt := 265) hx' hb d_LAW_259 d_LAW_260 (by decide) (fun _ => ?_) (fun cc => absurd ((ha ck).trans (he ck)) cc)
    refine lv_goto (tgt := 2175) hx' hb d_LAW_265 (by decide) ?_
    exact kk _ _ _ _ hLA (lv_sub hl [2, 3, 4, 5, 6] rfl)
set_option maxRecDepth 100000 in
set_option maxHeartbeats 1000000 in
theorem law_read (C0 : Cx p s m meth c args R code "ZoneFilesLaw" 8 (some .boolean) 12 518) (hLX : LX s b L xs) (hno : NT l) (nf : Nat) {i : Int32} (h1 : vp_in (i + 1) L) (hLA : LA dC dI s hx hm o S M a H locs) (hl : lv_has ls 8 [(0, .ref b), (1, .ref hx), (2, .ref hm), (3, .ref o), (4, .int i)]) {S' : CS} {k : Int32} {ans : Int64} {kc ks : Nat} (hc : cq_read nf S (xs (i + 1).toNatClampNeg) = some (k, ans, S', kc, ks)) {r0 : Int32} {M' : MS} (hm1 : f_Mo_read nf (xs (i + 1).toNatClampNeg) M.1 M.2.1 M.2.2.1 M.2.2.2 = some (r0, M')) (ht : f_Mo_thrown nf M'.1 M'.2.1 M'.2.2.1 M'.2.2.2 = some k) (he : k = 0 → ans = r0.toInt64) (hcell : cells + kc ≤ R.cells) (hslot : slots + ks ≤ R.slots)
    (kk : ∀ (H1 : Heap) (locs1 : List Loc) (a1 : Int64) (ls1 : Array Slot), LA dC dI s hx hm o S' M' a1 H1 locs1 → lv_has ls1 8 [(0, .ref b), (1, .ref hx), (2, .ref hm), (3, .ref o), (4, .int i)] → W p l e R s m args below meth c H1 locs1 (cells + kc) (slots + ks) Q (F0 m 2175 ls1 [])) : W p l e R s m args below meth c H locs cells slots Q (F0 m 268 ls []) := by
  obtain ⟨hx', hb, hr, hml, hown, hts, hlocks, hRf, hRl⟩ := id C0
  obtain ⟨vi, vj, va, vb⟩ := M'
  refine lv_aload_n hx' hb d_LAW_268 rfl (lv_at hl 1 rfl) ?_
  refine lv_aload_n hx' hb d_LAW_269 rfl (lv_at hl 0 rfl) ?_
  refine lv_iload hx' hb d_LAW_270 (lv_at hl 4 rfl) ?_
  refine lv_iconst (v := 1) hx' hb d_LAW_272 (by decide) ?_
  refine lv_iadd hx' hb d_LAW_273 ?_
  refine law_ld C0 hLX hLA h1 d_LAW_274 ?_
  refine lv_aload_n hx' hb d_LAW_275 rfl (lv_at hl 3 rfl) ?_
  refine law_W (y := y_LW_read) (n := 3) (As := [.ref hx, .int (xs (i + 1).toNatClampNeg), .ref o]) (rest := []) C0 hLX hLA (fun ad cA za zad zcA cO f => q_read l hno dC dI hx ad cA za zad zcA S nf (xs (i + 1).toNatClampNeg) hc o cO f) m_3_123 m_3_124 m_1_0 m_3_125 (by decide +kernel) ⟨Nat.le_trans (Nat.le_of_ble_eq_true rfl) hRf, Nat.le_trans (Nat.le_of_ble_eq_true rfl) hRl⟩ ⟨Nat.le_trans (Nat.le_of_ble_eq_true rfl) hRf, Nat.le_trans (Nat.le_of_ble_eq_true rfl) hRl⟩ rfl hl.1 rfl (Nat.le_of_ble_eq_true rfl) d_LAW_276 ⟨hcell, hslot⟩ (fun H locs a1 ha hLA => ?_)
  refine lv_istore (lv' := [(5, .int k), (0, .ref b), (1, .ref hx), (2, .ref hm), (3, .ref o), (4, .int i)]) hx' hb d_LAW_279 hl (by decide) rfl (fun ls hl => ?_)
  refine lv_aload_n hx' hb d_LAW_281 rfl (lv_at hl 3 rfl) ?_
  refine lv_aload_n hx' hb d_LAW_282 rfl (lv_at hl 1 rfl) ?_
  refine lv_iload hx' hb d_LAW_283 (lv_at hl 5 rfl) ?_
  refine lv_iconst (v := 1) hx' hb d_LAW_285 (by decide) ?_
  refine lv_iadd hx' hb d_LAW_286 ?_
  refine law_ld C0 hLX hLA h1 d_LAW_287 ?_
  refine law_M (As := [.int (xs (i + 1).toNatClampNeg)]) (rest := []) (M' := (vi, vj, va, vb)) C0 hLX hLA (fun r cM => OM.ofMo (fun sz => c_Mo_read l dC dI hm r cM sz nf (xs (i + 1).toNatClampNeg) M.1 M.2.1 M.2.2.1 M.2.2.2 hm1)) (cwV 1 hts (gdV m_7_118 m_7_119 m_7_120 m_1_10 m_7_121) rfl rfl rfl (by decide +kernel) ⟨Nat.le_trans (Nat.le_of_ble_eq_true rfl) hRf, Nat.le_trans (Nat.le_of_ble_eq_true rfl) hRl⟩) rfl hl.1 rfl (Nat.le_of_ble_eq_true rfl) d_LAW_288 ⟨hcell, hslot⟩ rfl (fun H locs hLA => ?_)
  refine lv_istore (lv' := [(6, .int r0), (5, .int k), (0, .ref b), (1, .ref hx), (2, .ref hm), (3, .ref o), (4, .int i)]) hx' hb d_LAW_291 hl (by decide) rfl (fun ls hl => ?_)
  refine lv_aload_n hx' hb d_LAW_293 rfl (lv_at hl 4 rfl) ?_
  refine law_M (As := []) (rest := []) (M' := (vi, vj, va, vb)) C0 hLX hLA (fun r cM => OM.ofRO (c_Mo_thrown l dC dI hm r cM nf vi vj va vb ht)) (cwV 0 hts (gdV m_7_105 m_7_106 m_7_107 m_1_10 m_7_108) rfl rfl rfl (by decide +kernel) ⟨Nat.le_trans (Nat.le_of_ble_eq_true rfl) hRf, Nat.le_trans (Nat.le_of_ble_eq_true rfl) hRl⟩) rfl hl.1 rfl (Nat.le_of_ble_eq_true rfl) d_LAW_294 ⟨hcell, hslot⟩ rfl (fun H locs hLA => ?_)
  refine lv_iload hx' hb d_LAW_297 (lv_at hl 1 rfl) ?_
  refine lv_icmp_eq (tgt := 304) hx' hb d_LAW_299 (by decide) (fun _ => ?_) (fun cc => absurd rfl cc)
  refine lv_iload hx' hb d_LAW_304 (lv_at hl 1 rfl) ?_
  refine lv_if_ne (tgt := 321) hx' hb d_LAW_306 (by decide) (fun ck => ?_) (fun ck => ?_)
  · refine lv_goto (tgt := 2175) hx' hb d_LAW_321 (by decide) ?_
    exact kk _ _ _ _ hLA (lv_sub hl [2, 3, 4, 5, 6] rfl)
  · refine lv_aload_n hx' hb d_LAW_309 rfl (lv_at hl 5 rfl) ?_
    refine lv_iconst (v := 0) hx' hb d_LAW_310 (by decide) ?_
    refine law_out C0 hLA d_LAW_311 ?_
    refine lv_iload hx' hb d_LAW_312 (lv_at hl 0 rfl) ?_
    refine lv_i2l hx' hb d_LAW_314 rfl ?_
    refine lc_eq (tgt := 321) hx' hb d_LAW_315 d_LAW_316 (by decide) (fun _ => ?_) (fun cc => absurd ((ha ck).trans (he ck)) cc)
    refine lv_goto (tgt := 2175) hx' hb d_LAW_321 (by decide) ?_
    exact kk _ _ _ _ hLA (lv_sub hl [2, 3, 4, 5, 6] rfl)
set_option maxRecDepth 100000 in
set_option maxHeartbeats 1000000 in
theorem law_rule (C0 : Cx p s m meth c args R code "ZoneFilesLaw" 8 (some .boolean) 12 518) (hLX : LX s b L xs) (hno : NT l) (nf : Nat) {i : Int32} (h1 : vp_in (i + 1) L) (h2 : vp_in (i + 2) L) (hLA : LA dC dI s hx hm o S M a H locs) (hl : lv_has ls 8 [(0, .ref b), (1, .ref hx), (2, .ref hm), (3, .ref o), (4, .int i)]) {S' : CS} {k : Int32} {ans : Int64} {kc ks : Nat} (hc : cq_rule nf S (xs (i + 1).toNatClampNeg) (if (xs (i + 2).toNatClampNeg) = 0 then 0 else 1) = some (k, ans, S', kc, ks)) {r0 : Int32} {M' : MS} (hm1 : f_Mo_rule nf (xs (i + 1).toNatClampNeg) (if (xs (i + 2).toNatClampNeg) = 0 then 0 else 1) M.1 M.2.1 M.2.2.1 M.2.2.2 = some (r0, M')) (ht : f_Mo_thrown nf M'.1 M'.2.1 M'.2.2.1 M'.2.2.2 = some k) (he : k = 0 → ans = r0.toInt64) (hcell : cells + kc ≤ R.cells) (hslot : slots + ks ≤ R.slots)
    (kk : ∀ (H1 : Heap) (locs1 : List Loc) (a1 : Int64) (ls1 : Array Slot), LA dC dI s hx hm o S' M' a1 H1 locs1 → lv_has ls1 8 [(0, .ref b), (1, .ref hx), (2, .ref hm), (3, .ref o), (4, .int i)] → W p l e R s m args below meth c H1 locs1 (cells + kc) (slots + ks) Q (F0 m 2175 ls1 [])) : W p l e R s m args below meth c H locs cells slots Q (F0 m 324 ls []) := by
  obtain ⟨hx', hb, hr, hml, hown, hts, hlocks, hRf, hRl⟩ := id C0
  obtain ⟨vi, vj, va, vb⟩ := M'
  by_cases c0 : (xs (i + 2).toNatClampNeg) = 0
  · rw [if_pos c0] at hc hm1
    refine lv_aload_n hx' hb d_LAW_324 rfl (lv_at hl 1 rfl) ?_
    refine lv_aload_n hx' hb d_LAW_325 rfl (lv_at hl 0 rfl) ?_
    refine lv_iload hx' hb d_LAW_326 (lv_at hl 4 rfl) ?_
    refine lv_iconst (v := 1) hx' hb d_LAW_328 (by decide) ?_
    refine lv_iadd hx' hb d_LAW_329 ?_
    refine law_ld C0 hLX hLA h1 d_LAW_330 ?_
    refine lv_aload_n hx' hb d_LAW_331 rfl (lv_at hl 0 rfl) ?_
    refine lv_iload hx' hb d_LAW_332 (lv_at hl 4 rfl) ?_
    refine lv_iconst (v := 2) hx' hb d_LAW_334 (by decide) ?_
    refine lv_iadd hx' hb d_LAW_335 ?_
    refine law_ld C0 hLX hLA h2 d_LAW_336 ?_
    refine lv_if_eq (tgt := 344) hx' hb d_LAW_337 (by decide) (fun _ => ?_) (fun cc => absurd c0 cc)
    refine lv_iconst (v := 0) hx' hb d_LAW_344 (by decide) ?_
    refine lv_aload_n hx' hb d_LAW_345 rfl (lv_at hl 3 rfl) ?_
    refine law_W (y := y_LW_rule) (n := 4) (As := [.ref hx, .int (xs (i + 1).toNatClampNeg), .int 0, .ref o]) (rest := []) C0 hLX hLA (fun ad cA za zad zcA cO f => q_rule l hno dC dI hx ad cA za zad zcA S nf (xs (i + 1).toNatClampNeg) 0 hc o cO f) m_4_208 m_4_209 m_1_0 m_4_210 (by decide +kernel) ⟨Nat.le_trans (Nat.le_of_ble_eq_true rfl) hRf, Nat.le_trans (Nat.le_of_ble_eq_true rfl) hRl⟩ ⟨Nat.le_trans (Nat.le_of_ble_eq_true rfl) hRf, Nat.le_trans (Nat.le_of_ble_eq_true rfl) hRl⟩ rfl hl.1 rfl (Nat.le_of_ble_eq_true rfl) d_LAW_346 ⟨hcell, hslot⟩ (fun H locs a1 ha hLA => ?_)
    refine lv_istore (lv' := [(5, .int k), (0, .ref b), (1, .ref hx), (2, .ref hm), (3, .ref o), (4, .int i)]) hx' hb d_LAW_349 hl (by decide) rfl (fun ls hl => ?_)
    refine lv_aload_n hx' hb d_LAW_351 rfl (lv_at hl 3 rfl) ?_
    refine lv_aload_n hx' hb d_LAW_352 rfl (lv_at hl 1 rfl) ?_
    refine lv_iload hx' hb d_LAW_353 (lv_at hl 5 rfl) ?_
    refine lv_iconst (v := 1) hx' hb d_LAW_355 (by decide) ?_
    refine lv_iadd hx' hb d_LAW_356 ?_
    refine law_ld C0 hLX hLA h1 d_LAW_357 ?_
    refine lv_aload_n hx' hb d_LAW_358 rfl (lv_at hl 1 rfl) ?_
    refine lv_iload hx' hb d_LAW_359 (lv_at hl 5 rfl) ?_
    refine lv_iconst (v := 2) hx' hb d_LAW_361 (by decide) ?_
    refine lv_iadd hx' hb d_LAW_362 ?_
    refine law_ld C0 hLX hLA h2 d_LAW_363 ?_
    refine lv_if_eq (tgt := 371) hx' hb d_LAW_364 (by decide) (fun _ => ?_) (fun cc => absurd c0 cc)
    refine lv_iconst (v := 0) hx' hb d_LAW_371 (by decide) ?_
    refine law_M (As := [.int (xs (i + 1).toNatClampNeg), .int 0]) (rest := []) (M' := (vi, vj, va, vb)) C0 hLX hLA (fun r cM => OM.ofMo (fun sz => c_Mo_rule l dC dI hm r cM sz nf (xs (i + 1).toNatClampNeg) 0 M.1 M.2.1 M.2.2.1 M.2.2.2 hm1)) (cwV 2 hts (gdV m_7_114 m_7_115 m_7_116 m_1_10 m_7_117) rfl rfl rfl (by decide +kernel) ⟨Nat.le_trans (Nat.le_of_ble_eq_true rfl) hRf, Nat.le_trans (Nat.le_of_ble_eq_true rfl) hRl⟩) rfl hl.1 rfl (Nat.le_of_ble_eq_true rfl) d_LAW_372 ⟨hcell, hslot⟩ rfl (fun H locs hLA => ?_)
    refine lv_istore (lv' := [(6, .int r0), (5, .int k), (0, .ref b), (1, .ref hx), (2, .ref hm), (3, .ref o), (4, .int i)]) hx' hb d_LAW_375 hl (by decide) rfl (fun ls hl => ?_)
    refine lv_aload_n hx' hb d_LAW_377 rfl (lv_at hl 4 rfl) ?_
    refine law_M (As := []) (rest := []) (M' := (vi, vj, va, vb)) C0 hLX hLA (fun r cM => OM.ofRO (c_Mo_thrown l dC dI hm r cM nf vi vj va vb ht)) (cwV 0 hts (gdV m_7_105 m_7_106 m_7_107 m_1_10 m_7_108) rfl rfl rfl (by decide +kernel) ⟨Nat.le_trans (Nat.le_of_ble_eq_true rfl) hRf, Nat.le_trans (Nat.le_of_ble_eq_true rfl) hRl⟩) rfl hl.1 rfl (Nat.le_of_ble_eq_true rfl) d_LAW_378 ⟨hcell, hslot⟩ rfl (fun H locs hLA => ?_)
    refine lv_iload hx' hb d_LAW_381 (lv_at hl 1 rfl) ?_
    refine lv_icmp_eq (tgt := 388) hx' hb d_LAW_383 (by decide) (fun _ => ?_) (fun cc => absurd rfl cc)
    refine lv_iload hx' hb d_LAW_388 (lv_at hl 1 rfl) ?_
    refine lv_if_ne (tgt := 405) hx' hb d_LAW_390 (by decide) (fun ck => ?_) (fun ck => ?_)
    · refine lv_goto (tgt := 2175) hx' hb d_LAW_405 (by decide) ?_
      exact kk _ _ _ _ hLA (lv_sub hl [2, 3, 4, 5, 6] rfl)
    · refine lv_aload_n hx' hb d_LAW_393 rfl (lv_at hl 5 rfl) ?_
      refine lv_iconst (v := 0) hx' hb d_LAW_394 (by decide) ?_
      refine law_out C0 hLA d_LAW_395 ?_
      refine lv_iload hx' hb d_LAW_396 (lv_at hl 0 rfl) ?_
      refine lv_i2l hx' hb d_LAW_398 rfl ?_
      refine lc_eq (tgt := 405) hx' hb d_LAW_399 d_LAW_400 (by decide) (fun _ => ?_) (fun cc => absurd ((ha ck).trans (he ck)) cc)
      refine lv_goto (tgt := 2175) hx' hb d_LAW_405 (by decide) ?_
      exact kk _ _ _ _ hLA (lv_sub hl [2, 3, 4, 5, 6] rfl)
  · rw [if_neg c0] at hc hm1
    refine lv_aload_n hx' hb d_LAW_324 rfl (lv_at hl 1 rfl) ?_
    refine lv_aload_n hx' hb d_LAW_325 rfl (lv_at hl 0 rfl) ?_
    refine lv_iload hx' hb d_LAW_326 (lv_at hl 4 rfl) ?_
    refine lv_iconst (v := 1) hx' hb d_LAW_328 (by decide) ?_
    refine lv_iadd hx' hb d_LAW_329 ?_
    refine law_ld C0 hLX hLA h1 d_LAW_330 ?_
    refine lv_aload_n hx' hb d_LAW_331 rfl (lv_at hl 0 rfl) ?_
    refine lv_iload hx' hb d_LAW_332 (lv_at hl 4 rfl) ?_
    refine lv_iconst (v := 2) hx' hb d_LAW_334 (by decide) ?_
    refine lv_iadd hx' hb d_LAW_335 ?_
    refine law_ld C0 hLX hLA h2 d_LAW_336 ?_
    refine lv_if_eq (tgt := 344) hx' hb d_LAW_337 (by decide) (fun cc => absurd cc c0) (fun _ => ?_)
    refine lv_iconst (v := 1) hx' hb d_LAW_340 (by decide) ?_
    refine lv_goto (tgt := 345) hx' hb d_LAW_341 (by decide) ?_
    refine lv_aload_n hx' hb d_LAW_345 rfl (lv_at hl 3 rfl) ?_
    refine law_W (y := y_LW_rule) (n := 4) (As := [.ref hx, .int (xs (i + 1).toNatClampNeg), .int 1, .ref o]) (rest := []) C0 hLX hLA (fun ad cA za zad zcA cO f => q_rule l hno dC dI hx ad cA za zad zcA S nf (xs (i + 1).toNatClampNeg) 1 hc o cO f) m_4_208 m_4_209 m_1_0 m_4_210 (by decide +kernel) ⟨Nat.le_trans (Nat.le_of_ble_eq_true rfl) hRf, Nat.le_trans (Nat.le_of_ble_eq_true rfl) hRl⟩ ⟨Nat.le_trans (Nat.le_of_ble_eq_true rfl) hRf, Nat.le_trans (Nat.le_of_ble_eq_true rfl) hRl⟩ rfl hl.1 rfl (Nat.le_of_ble_eq_true rfl) d_LAW_346 ⟨hcell, hslot⟩ (fun H locs a1 ha hLA => ?_)
    refine lv_istore (lv' := [(5, .int k), (0, .ref b), (1, .ref hx), (2, .ref hm), (3, .ref o), (4, .int i)]) hx' hb d_LAW_349 hl (by decide) rfl (fun ls hl => ?_)
    refine lv_aload_n hx' hb d_LAW_351 rfl (lv_at hl 3 rfl) ?_
    refine lv_aload_n hx' hb d_LAW_352 rfl (lv_at hl 1 rfl) ?_
    refine lv_iload hx' hb d_LAW_353 (lv_at hl 5 rfl) ?_
    refine lv_iconst (v := 1) hx' hb d_LAW_355 (by decide) ?_
    refine lv_iadd hx' hb d_LAW_356 ?_
    refine law_ld C0 hLX hLA h1 d_LAW_357 ?_
    refine lv_aload_n hx' hb d_LAW_358 rfl (lv_at hl 1 rfl) ?_
    refine lv_iload hx' hb d_LAW_359 (lv_at hl 5 rfl) ?_
    refine lv_iconst (v := 2) hx' hb d_LAW_361 (by decide) ?_
    refine lv_iadd hx' hb d_LAW_362 ?_
    refine law_ld C0 hLX hLA h2 d_LAW_363 ?_
    refine lv_if_eq (tgt := 371) hx' hb d_LAW_364 (by decide) (fun cc => absurd cc c0) (fun _ => ?_)
    refine lv_iconst (v := 1) hx' hb d_LAW_367 (by decide) ?_
    refine lv_goto (tgt := 372) hx' hb d_LAW_368 (by decide) ?_
    refine law_M (As := [.int (xs (i + 1).toNatClampNeg), .int 1]) (rest := []) (M' := (vi, vj, va, vb)) C0 hLX hLA (fun r cM => OM.ofMo (fun sz => c_Mo_rule l dC dI hm r cM sz nf (xs (i + 1).toNatClampNeg) 1 M.1 M.2.1 M.2.2.1 M.2.2.2 hm1)) (cwV 2 hts (gdV m_7_114 m_7_115 m_7_116 m_1_10 m_7_117) rfl rfl rfl (by decide +kernel) ⟨Nat.le_trans (Nat.le_of_ble_eq_true rfl) hRf, Nat.le_trans (Nat.le_of_ble_eq_true rfl) hRl⟩) rfl hl.1 rfl (Nat.le_of_ble_eq_true rfl) d_LAW_372 ⟨hcell, hslot⟩ rfl (fun H locs hLA => ?_)
    refine lv_istore (lv' := [(6, .int r0), (5, .int k), (0, .ref b), (1, .ref hx), (2, .ref hm), (3, .ref o), (4, .int i)]) hx' hb d_LAW_375 hl (by decide) rfl (fun ls hl => ?_)
    refine lv_aload_n hx' hb d_LAW_377 rfl (lv_at hl 4 rfl) ?_
    refine law_M (As := []) (rest := []) (M' := (vi, vj, va, vb)) C0 hLX hLA (fun r cM => OM.ofRO (c_Mo_thrown l dC dI hm r cM nf vi vj va vb ht)) (cwV 0 hts (gdV m_7_105 m_7_106 m_7_107 m_1_10 m_7_108) rfl rfl rfl (by decide +kernel) ⟨Nat.le_trans (Nat.le_of_ble_eq_true rfl) hRf, Nat.le_trans (Nat.le_of_ble_eq_true rfl) hRl⟩) rfl hl.1 rfl (Nat.le_of_ble_eq_true rfl) d_LAW_378 ⟨hcell, hslot⟩ rfl (fun H locs hLA => ?_)
    refine lv_iload hx' hb d_LAW_381 (lv_at hl 1 rfl) ?_
    refine lv_icmp_eq (tgt := 388) hx' hb d_LAW_383 (by decide) (fun _ => ?_) (fun cc => absurd rfl cc)
    refine lv_iload hx' hb d_LAW_388 (lv_at hl 1 rfl) ?_
    refine lv_if_ne (tgt := 405) hx' hb d_LAW_390 (by decide) (fun ck => ?_) (fun ck => ?_)
    · refine lv_goto (tgt := 2175) hx' hb d_LAW_405 (by decide) ?_
      exact kk _ _ _ _ hLA (lv_sub hl [2, 3, 4, 5, 6] rfl)
    · refine lv_aload_n hx' hb d_LAW_393 rfl (lv_at hl 5 rfl) ?_
      refine lv_iconst (v := 0) hx' hb d_LAW_394 (by decide) ?_
      refine law_out C0 hLA d_LAW_395 ?_
      refine lv_iload hx' hb d_LAW_396 (lv_at hl 0 rfl) ?_
      refine lv_i2l hx' hb d_LAW_398 rfl ?_
      refine lc_eq (tgt := 405) hx' hb d_LAW_399 d_LAW_400 (by decide) (fun _ => ?_) (fun cc => absurd ((ha ck).trans (he ck)) cc)
      refine lv_goto (tgt := 2175) hx' hb d_LAW_405 (by decide) ?_
      exact kk _ _ _ _ hLA (lv_sub hl [2, 3, 4, 5, 6] rfl)
set_option maxRecDepth 100000 in
set_option maxHeartbeats 1000000 in
theorem law_table (C0 : Cx p s m meth c args R code "ZoneFilesLaw" 8 (some .boolean) 12 518) (hLX : LX s b L xs) (hno : NT l) (nf : Nat) {i : Int32} (hLA : LA dC dI s hx hm o S M a H locs) (hl : lv_has ls 8 [(0, .ref b), (1, .ref hx), (2, .ref hm), (3, .ref o), (4, .int i)]) {S' : CS} {rc r0 : Int32} {kc ks : Nat} (hc : cq_table nf S = some (rc, S', kc, ks)) {M' : MS} (hm1 : f_Mo_table nf M.1 M.2.1 M.2.2.1 M.2.2.2 = some (r0, M')) (he : rc = r0) (hcell : cells + kc ≤ R.cells) (hslot : slots + ks ≤ R.slots)
    (kk : ∀ (H1 : Heap) (locs1 : List Loc) (a1 : Int64) (ls1 : Array Slot), LA dC dI s hx hm o S' M' a1 H1 locs1 → lv_has ls1 8 [(0, .ref b), (1, .ref hx), (2, .ref hm), (3, .ref o), (4, .int i)] → W p l e R s m args below meth c H1 locs1 (cells + kc) (slots + ks) Q (F0 m 2175 ls1 [])) : W p l e R s m args below meth c H locs cells slots Q (F0 m 408 ls []) := by
  obtain ⟨hx', hb, hr, hml, hown, hts, hlocks, hRf, hRl⟩ := id C0
  obtain ⟨vi, vj, va, vb⟩ := M'
  refine lv_aload_n hx' hb d_LAW_408 rfl (lv_at hl 1 rfl) ?_
  refine law_C (As := []) (rest := []) C0 hLX hLA (fun ad cA za zad zcA => q_table l dC dI hx ad cA za zad zcA S nf hc) (cwV 0 hts (gdV m_2_145 m_2_146 m_2_147 m_1_1 m_2_148) rfl rfl rfl (by decide +kernel) ⟨Nat.le_trans (Nat.le_of_ble_eq_true rfl) hRf, Nat.le_trans (Nat.le_of_ble_eq_true rfl) hRl⟩) rfl hl.1 rfl (Nat.le_of_ble_eq_true rfl) d_LAW_409 ⟨hcell, hslot⟩ rfl (fun H locs hLA => ?_)
  refine lv_aload_n hx' hb d_LAW_412 rfl (lv_at hl 2 rfl) ?_
  refine law_M (As := []) (rest := [.int rc]) (M' := (vi, vj, va, vb)) C0 hLX hLA (fun r cM => OM.ofMo (fun sz => c_Mo_table l dC dI hm r cM sz nf M.1 M.2.1 M.2.2.1 M.2.2.2 hm1)) (cwV 0 hts (gdV m_8_169 m_8_170 m_8_171 m_1_10 m_8_172) rfl rfl rfl (by decide +kernel) ⟨Nat.le_trans (Nat.le_of_ble_eq_true rfl) hRf, Nat.le_trans (Nat.le_of_ble_eq_true rfl) hRl⟩) rfl hl.1 rfl (Nat.le_of_ble_eq_true rfl) d_LAW_413 ⟨hcell, hslot⟩ rfl (fun H locs hLA => ?_)
  refine lv_icmp_eq (tgt := 2175) hx' hb d_LAW_416 (by decide) (fun _ => ?_) (fun cc => absurd he cc)
  exact kk _ _ _ _ hLA (lv_sub hl [0, 1, 2, 3, 4] rfl)
set_option maxRecDepth 100000 in
set_option maxHeartbeats 1000000 in
theorem law_place (C0 : Cx p s m meth c args R code "ZoneFilesLaw" 8 (some .boolean) 12 518) (hLX : LX s b L xs) (hno : NT l) (nf : Nat) {i : Int32} (hLA : LA dC dI s hx hm o S M a H locs) (hl : lv_has ls 8 [(0, .ref b), (1, .ref hx), (2, .ref hm), (3, .ref o), (4, .int i)]) {S' : CS} {rc r0 : Int32} {kc ks : Nat} (hc : cq_place nf S = some (rc, S', kc, ks)) {M' : MS} (hm1 : f_Mo_place nf M.1 M.2.1 M.2.2.1 M.2.2.2 = some (r0, M')) (he : rc = r0) (hcell : cells + kc ≤ R.cells) (hslot : slots + ks ≤ R.slots)
    (kk : ∀ (H1 : Heap) (locs1 : List Loc) (a1 : Int64) (ls1 : Array Slot), LA dC dI s hx hm o S' M' a1 H1 locs1 → lv_has ls1 8 [(0, .ref b), (1, .ref hx), (2, .ref hm), (3, .ref o), (4, .int i)] → W p l e R s m args below meth c H1 locs1 (cells + kc) (slots + ks) Q (F0 m 2175 ls1 [])) : W p l e R s m args below meth c H locs cells slots Q (F0 m 421 ls []) := by
  obtain ⟨hx', hb, hr, hml, hown, hts, hlocks, hRf, hRl⟩ := id C0
  obtain ⟨vi, vj, va, vb⟩ := M'
  refine lv_aload_n hx' hb d_LAW_421 rfl (lv_at hl 1 rfl) ?_
  refine law_C (As := []) (rest := []) C0 hLX hLA (fun ad cA za zad zcA => q_place l dC dI hx ad cA za zad zcA S nf hc) (cwV 0 hts (gdV m_2_239 m_3_0 m_3_1 m_1_1 m_3_2) rfl rfl rfl (by decide +kernel) ⟨Nat.le_trans (Nat.le_of_ble_eq_true rfl) hRf, Nat.le_trans (Nat.le_of_ble_eq_true rfl) hRl⟩) rfl hl.1 rfl (Nat.le_of_ble_eq_true rfl) d_LAW_422 ⟨hcell, hslot⟩ rfl (fun H locs hLA => ?_)
  refine lv_aload_n hx' hb d_LAW_425 rfl (lv_at hl 2 rfl) ?_
  refine law_M (As := []) (rest := [.int rc]) (M' := (vi, vj, va, vb)) C0 hLX hLA (fun r cM => OM.ofMo (fun sz => c_Mo_place l dC dI hm r cM sz nf M.1 M.2.1 M.2.2.1 M.2.2.2 hm1)) (cwV 0 hts (gdV m_8_141 m_8_142 m_8_143 m_1_10 m_8_144) rfl rfl rfl (by decide +kernel) ⟨Nat.le_trans (Nat.le_of_ble_eq_true rfl) hRf, Nat.le_trans (Nat.le_of_ble_eq_true rfl) hRl⟩) rfl hl.1 rfl (Nat.le_of_ble_eq_true rfl) d_LAW_426 ⟨hcell, hslot⟩ rfl (fun H locs hLA => ?_)
  refine lv_icmp_eq (tgt := 2175) hx' hb d_LAW_429 (by decide) (fun _ => ?_) (fun cc => absurd he cc)
  exact kk _ _ _ _ hLA (lv_sub hl [0, 1, 2, 3, 4] rfl)
end
