/-! MY OWN (by program): the law's loop as a function -/
abbrev mL_law : zMI := (x, cL_law, 4, some .boolean)
def aX {β : Type} (sc : Nat × (Nat → Int32)) (j : Int32) (F : Int32 → Option β) : Option β := if ixb j sc.1 = true then F (sc.2 j.toNatClampNeg) else none
theorem kR.scI {sc : Nat × (Nat → Int32)} {d : Nat} {q : zMI} {pc : Nat} {ls : List (Nat × Value)} {st : List Value} {σ : zS} {o : Option Value × zM} {γ : Type} {w : γ} {j : Int32} {F : Int32 → Option γ} (dg : decode q.2.1 pc = .ok (.iaload, 1)) (h : aX sc j F = some w) (kk : ∀ v, F v = some w → zR (zY0 sc) d 0 0 q (pc + 1) ls (.int v :: st) (zE σ) o) : zR (zY0 sc) d 0 0 q pc ls (.int j :: .ref 1100 :: st) (zE σ) o := by
  unfold aX at h
  split at h
  · exact zR.scI dg (ixb_in (by assumption)) (kk _ h)
  · cases h
theorem dL_law_18 : decode cL_law 18 = .ok (.iload_n 3, 1) := by decide +kernel
theorem dL_law_19 : decode cL_law 19 = .ok (.aload_n 0, 1) := by decide +kernel
theorem dL_law_20 : decode cL_law 20 = .ok (.arraylength, 1) := by decide +kernel
theorem dL_law_21 : decode cL_law 21 = .ok (.bipush 6, 2) := by decide +kernel
theorem dL_law_23 : decode cL_law 23 = .ok (.isub, 1) := by decide +kernel
theorem dL_law_24 : decode cL_law 24 = .ok (.if_icmp .gt 1191, 3) := by decide +kernel
theorem dL_law_27 : decode cL_law 27 = .ok (.aload_n 0, 1) := by decide +kernel
theorem dL_law_28 : decode cL_law 28 = .ok (.iload_n 3, 1) := by decide +kernel
theorem dL_law_29 : decode cL_law 29 = .ok (.iaload, 1) := by decide +kernel
theorem dL_law_30 : decode cL_law 30 = .ok (.bipush 63, 2) := by decide +kernel
theorem dL_law_32 : decode cL_law 32 = .ok (.iand, 1) := by decide +kernel
theorem dL_law_33 : decode cL_law 33 = .ok (.tableswitch 1176 0 32 #[147, 210, 233, 246, 269, 292, 335, 368, 401, 424, 457, 500, 533, 576, 629, 672, 715, 748, 791, 834, 877, 900, 923, 946, 959, 1002, 1035, 1048, 1071, 1104, 1117, 1140, 1153], 147) := by decide +kernel
theorem dL_law_180 : decode cL_law 180 = .ok (.aload_n 1, 1) := by decide +kernel
theorem dL_law_181 : decode cL_law 181 = .ok (.aload_n 0, 1) := by decide +kernel
theorem dL_law_182 : decode cL_law 182 = .ok (.iload_n 3, 1) := by decide +kernel
theorem dL_law_183 : decode cL_law 183 = .ok (.iconst 1, 1) := by decide +kernel
theorem dL_law_184 : decode cL_law 184 = .ok (.iadd, 1) := by decide +kernel
theorem dL_law_185 : decode cL_law 185 = .ok (.iaload, 1) := by decide +kernel
theorem dL_law_186 : decode cL_law 186 = .ok (.aload_n 0, 1) := by decide +kernel
theorem dL_law_187 : decode cL_law 187 = .ok (.iload_n 3, 1) := by decide +kernel
theorem dL_law_188 : decode cL_law 188 = .ok (.iconst 2, 1) := by decide +kernel
theorem dL_law_189 : decode cL_law 189 = .ok (.iadd, 1) := by decide +kernel
theorem dL_law_190 : decode cL_law 190 = .ok (.iaload, 1) := by decide +kernel
theorem dL_law_191 : decode cL_law 191 = .ok (.aload_n 0, 1) := by decide +kernel
theorem dL_law_192 : decode cL_law 192 = .ok (.iload_n 3, 1) := by decide +kernel
theorem dL_law_193 : decode cL_law 193 = .ok (.iconst 3, 1) := by decide +kernel
theorem dL_law_194 : decode cL_law 194 = .ok (.iadd, 1) := by decide +kernel
theorem dL_law_195 : decode cL_law 195 = .ok (.iaload, 1) := by decide +kernel
theorem dL_law_196 : decode cL_law 196 = .ok (.aload_n 0, 1) := by decide +kernel
theorem dL_law_197 : decode cL_law 197 = .ok (.iload_n 3, 1) := by decide +kernel
theorem dL_law_198 : decode cL_law 198 = .ok (.iconst 4, 1) := by decide +kernel
theorem dL_law_199 : decode cL_law 199 = .ok (.iadd, 1) := by decide +kernel
theorem dL_law_200 : decode cL_law 200 = .ok (.iaload, 1) := by decide +kernel
theorem dL_law_201 : decode cL_law 201 = .ok (.aload_n 0, 1) := by decide +kernel
theorem dL_law_202 : decode cL_law 202 = .ok (.iload_n 3, 1) := by decide +kernel
theorem dL_law_203 : decode cL_law 203 = .ok (.iconst 5, 1) := by decide +kernel
theorem dL_law_204 : decode cL_law 204 = .ok (.iadd, 1) := by decide +kernel
theorem dL_law_205 : decode cL_law 205 = .ok (.iaload, 1) := by decide +kernel
theorem dL_law_206 : decode cL_law 206 = .ok (.invokevirtual 13, 3) := by decide +kernel
theorem dL_law_209 : decode cL_law 209 = .ok (.aload_n 2, 1) := by decide +kernel
theorem dL_law_210 : decode cL_law 210 = .ok (.aload_n 0, 1) := by decide +kernel
theorem dL_law_211 : decode cL_law 211 = .ok (.iload_n 3, 1) := by decide +kernel
theorem dL_law_212 : decode cL_law 212 = .ok (.iconst 1, 1) := by decide +kernel
theorem dL_law_213 : decode cL_law 213 = .ok (.iadd, 1) := by decide +kernel
theorem dL_law_214 : decode cL_law 214 = .ok (.iaload, 1) := by decide +kernel
theorem dL_law_215 : decode cL_law 215 = .ok (.aload_n 0, 1) := by decide +kernel
theorem dL_law_216 : decode cL_law 216 = .ok (.iload_n 3, 1) := by decide +kernel
theorem dL_law_217 : decode cL_law 217 = .ok (.iconst 2, 1) := by decide +kernel
theorem dL_law_218 : decode cL_law 218 = .ok (.iadd, 1) := by decide +kernel
theorem dL_law_219 : decode cL_law 219 = .ok (.iaload, 1) := by decide +kernel
theorem dL_law_220 : decode cL_law 220 = .ok (.aload_n 0, 1) := by decide +kernel
theorem dL_law_221 : decode cL_law 221 = .ok (.iload_n 3, 1) := by decide +kernel
theorem dL_law_222 : decode cL_law 222 = .ok (.iconst 3, 1) := by decide +kernel
theorem dL_law_223 : decode cL_law 223 = .ok (.iadd, 1) := by decide +kernel
theorem dL_law_224 : decode cL_law 224 = .ok (.iaload, 1) := by decide +kernel
theorem dL_law_225 : decode cL_law 225 = .ok (.aload_n 0, 1) := by decide +kernel
theorem dL_law_226 : decode cL_law 226 = .ok (.iload_n 3, 1) := by decide +kernel
theorem dL_law_227 : decode cL_law 227 = .ok (.iconst 4, 1) := by decide +kernel
theorem dL_law_228 : decode cL_law 228 = .ok (.iadd, 1) := by decide +kernel
theorem dL_law_229 : decode cL_law 229 = .ok (.iaload, 1) := by decide +kernel
theorem dL_law_230 : decode cL_law 230 = .ok (.aload_n 0, 1) := by decide +kernel
theorem dL_law_231 : decode cL_law 231 = .ok (.iload_n 3, 1) := by decide +kernel
theorem dL_law_232 : decode cL_law 232 = .ok (.iconst 5, 1) := by decide +kernel
theorem dL_law_233 : decode cL_law 233 = .ok (.iadd, 1) := by decide +kernel
theorem dL_law_234 : decode cL_law 234 = .ok (.iaload, 1) := by decide +kernel
theorem dL_law_235 : decode cL_law 235 = .ok (.invokevirtual 17, 3) := by decide +kernel
theorem dL_law_238 : decode cL_law 238 = .ok (.if_icmp .eq 971, 3) := by decide +kernel
theorem dL_law_241 : decode cL_law 241 = .ok (.iconst 0, 1) := by decide +kernel
theorem dL_law_242 : decode cL_law 242 = .ok (.ireturn, 1) := by decide +kernel
theorem dL_law_243 : decode cL_law 243 = .ok (.aload_n 1, 1) := by decide +kernel
theorem dL_law_244 : decode cL_law 244 = .ok (.aload_n 0, 1) := by decide +kernel
theorem dL_law_245 : decode cL_law 245 = .ok (.iload_n 3, 1) := by decide +kernel
theorem dL_law_246 : decode cL_law 246 = .ok (.iconst 1, 1) := by decide +kernel
theorem dL_law_247 : decode cL_law 247 = .ok (.iadd, 1) := by decide +kernel
theorem dL_law_248 : decode cL_law 248 = .ok (.iaload, 1) := by decide +kernel
theorem dL_law_249 : decode cL_law 249 = .ok (.invokevirtual 18, 3) := by decide +kernel
theorem dL_law_252 : decode cL_law 252 = .ok (.aload_n 2, 1) := by decide +kernel
theorem dL_law_253 : decode cL_law 253 = .ok (.aload_n 0, 1) := by decide +kernel
theorem dL_law_254 : decode cL_law 254 = .ok (.iload_n 3, 1) := by decide +kernel
theorem dL_law_255 : decode cL_law 255 = .ok (.iconst 1, 1) := by decide +kernel
theorem dL_law_256 : decode cL_law 256 = .ok (.iadd, 1) := by decide +kernel
theorem dL_law_257 : decode cL_law 257 = .ok (.iaload, 1) := by decide +kernel
theorem dL_law_258 : decode cL_law 258 = .ok (.invokevirtual 22, 3) := by decide +kernel
theorem dL_law_261 : decode cL_law 261 = .ok (.if_icmp .eq 948, 3) := by decide +kernel
theorem dL_law_264 : decode cL_law 264 = .ok (.iconst 0, 1) := by decide +kernel
theorem dL_law_265 : decode cL_law 265 = .ok (.ireturn, 1) := by decide +kernel
theorem dL_law_266 : decode cL_law 266 = .ok (.aload_n 1, 1) := by decide +kernel
theorem dL_law_267 : decode cL_law 267 = .ok (.invokevirtual 23, 3) := by decide +kernel
theorem dL_law_270 : decode cL_law 270 = .ok (.aload_n 2, 1) := by decide +kernel
theorem dL_law_271 : decode cL_law 271 = .ok (.invokevirtual 27, 3) := by decide +kernel
theorem dL_law_274 : decode cL_law 274 = .ok (.if_icmp .eq 935, 3) := by decide +kernel
theorem dL_law_277 : decode cL_law 277 = .ok (.iconst 0, 1) := by decide +kernel
theorem dL_law_278 : decode cL_law 278 = .ok (.ireturn, 1) := by decide +kernel
theorem dL_law_279 : decode cL_law 279 = .ok (.aload_n 1, 1) := by decide +kernel
theorem dL_law_280 : decode cL_law 280 = .ok (.aload_n 0, 1) := by decide +kernel
theorem dL_law_281 : decode cL_law 281 = .ok (.iload_n 3, 1) := by decide +kernel
theorem dL_law_282 : decode cL_law 282 = .ok (.iconst 1, 1) := by decide +kernel
theorem dL_law_283 : decode cL_law 283 = .ok (.iadd, 1) := by decide +kernel
theorem dL_law_284 : decode cL_law 284 = .ok (.iaload, 1) := by decide +kernel
theorem dL_law_285 : decode cL_law 285 = .ok (.invokevirtual 28, 3) := by decide +kernel
theorem dL_law_288 : decode cL_law 288 = .ok (.aload_n 2, 1) := by decide +kernel
theorem dL_law_289 : decode cL_law 289 = .ok (.aload_n 0, 1) := by decide +kernel
theorem dL_law_290 : decode cL_law 290 = .ok (.iload_n 3, 1) := by decide +kernel
theorem dL_law_291 : decode cL_law 291 = .ok (.iconst 1, 1) := by decide +kernel
theorem dL_law_292 : decode cL_law 292 = .ok (.iadd, 1) := by decide +kernel
theorem dL_law_293 : decode cL_law 293 = .ok (.iaload, 1) := by decide +kernel
theorem dL_law_294 : decode cL_law 294 = .ok (.invokevirtual 32, 3) := by decide +kernel
theorem dL_law_297 : decode cL_law 297 = .ok (.if_icmp .eq 912, 3) := by decide +kernel
theorem dL_law_300 : decode cL_law 300 = .ok (.iconst 0, 1) := by decide +kernel
theorem dL_law_301 : decode cL_law 301 = .ok (.ireturn, 1) := by decide +kernel
theorem dL_law_302 : decode cL_law 302 = .ok (.aload_n 1, 1) := by decide +kernel
theorem dL_law_303 : decode cL_law 303 = .ok (.aload_n 0, 1) := by decide +kernel
theorem dL_law_304 : decode cL_law 304 = .ok (.iload_n 3, 1) := by decide +kernel
theorem dL_law_305 : decode cL_law 305 = .ok (.iconst 1, 1) := by decide +kernel
theorem dL_law_306 : decode cL_law 306 = .ok (.iadd, 1) := by decide +kernel
theorem dL_law_307 : decode cL_law 307 = .ok (.iaload, 1) := by decide +kernel
theorem dL_law_308 : decode cL_law 308 = .ok (.invokevirtual 33, 3) := by decide +kernel
theorem dL_law_311 : decode cL_law 311 = .ok (.aload_n 2, 1) := by decide +kernel
theorem dL_law_312 : decode cL_law 312 = .ok (.aload_n 0, 1) := by decide +kernel
theorem dL_law_313 : decode cL_law 313 = .ok (.iload_n 3, 1) := by decide +kernel
theorem dL_law_314 : decode cL_law 314 = .ok (.iconst 1, 1) := by decide +kernel
theorem dL_law_315 : decode cL_law 315 = .ok (.iadd, 1) := by decide +kernel
theorem dL_law_316 : decode cL_law 316 = .ok (.iaload, 1) := by decide +kernel
theorem dL_law_317 : decode cL_law 317 = .ok (.invokevirtual 36, 3) := by decide +kernel
theorem dL_law_320 : decode cL_law 320 = .ok (.if_icmp .eq 889, 3) := by decide +kernel
theorem dL_law_323 : decode cL_law 323 = .ok (.iconst 0, 1) := by decide +kernel
theorem dL_law_324 : decode cL_law 324 = .ok (.ireturn, 1) := by decide +kernel
theorem dL_law_325 : decode cL_law 325 = .ok (.aload_n 1, 1) := by decide +kernel
theorem dL_law_326 : decode cL_law 326 = .ok (.aload_n 0, 1) := by decide +kernel
theorem dL_law_327 : decode cL_law 327 = .ok (.iload_n 3, 1) := by decide +kernel
theorem dL_law_328 : decode cL_law 328 = .ok (.iconst 1, 1) := by decide +kernel
theorem dL_law_329 : decode cL_law 329 = .ok (.iadd, 1) := by decide +kernel
theorem dL_law_330 : decode cL_law 330 = .ok (.iaload, 1) := by decide +kernel
theorem dL_law_331 : decode cL_law 331 = .ok (.aload_n 0, 1) := by decide +kernel
theorem dL_law_332 : decode cL_law 332 = .ok (.iload_n 3, 1) := by decide +kernel
theorem dL_law_333 : decode cL_law 333 = .ok (.iconst 2, 1) := by decide +kernel
theorem dL_law_334 : decode cL_law 334 = .ok (.iadd, 1) := by decide +kernel
theorem dL_law_335 : decode cL_law 335 = .ok (.iaload, 1) := by decide +kernel
theorem dL_law_336 : decode cL_law 336 = .ok (.aload_n 0, 1) := by decide +kernel
theorem dL_law_337 : decode cL_law 337 = .ok (.iload_n 3, 1) := by decide +kernel
theorem dL_law_338 : decode cL_law 338 = .ok (.iconst 3, 1) := by decide +kernel
theorem dL_law_339 : decode cL_law 339 = .ok (.iadd, 1) := by decide +kernel
theorem dL_law_340 : decode cL_law 340 = .ok (.iaload, 1) := by decide +kernel
theorem dL_law_341 : decode cL_law 341 = .ok (.invokevirtual 37, 3) := by decide +kernel
theorem dL_law_344 : decode cL_law 344 = .ok (.aload_n 2, 1) := by decide +kernel
theorem dL_law_345 : decode cL_law 345 = .ok (.aload_n 0, 1) := by decide +kernel
theorem dL_law_346 : decode cL_law 346 = .ok (.iload_n 3, 1) := by decide +kernel
theorem dL_law_347 : decode cL_law 347 = .ok (.iconst 1, 1) := by decide +kernel
theorem dL_law_348 : decode cL_law 348 = .ok (.iadd, 1) := by decide +kernel
theorem dL_law_349 : decode cL_law 349 = .ok (.iaload, 1) := by decide +kernel
theorem dL_law_350 : decode cL_law 350 = .ok (.aload_n 0, 1) := by decide +kernel
theorem dL_law_351 : decode cL_law 351 = .ok (.iload_n 3, 1) := by decide +kernel
theorem dL_law_352 : decode cL_law 352 = .ok (.iconst 2, 1) := by decide +kernel
theorem dL_law_353 : decode cL_law 353 = .ok (.iadd, 1) := by decide +kernel
theorem dL_law_354 : decode cL_law 354 = .ok (.iaload, 1) := by decide +kernel
theorem dL_law_355 : decode cL_law 355 = .ok (.aload_n 0, 1) := by decide +kernel
theorem dL_law_356 : decode cL_law 356 = .ok (.iload_n 3, 1) := by decide +kernel
theorem dL_law_357 : decode cL_law 357 = .ok (.iconst 3, 1) := by decide +kernel
theorem dL_law_358 : decode cL_law 358 = .ok (.iadd, 1) := by decide +kernel
theorem dL_law_359 : decode cL_law 359 = .ok (.iaload, 1) := by decide +kernel
theorem dL_law_360 : decode cL_law 360 = .ok (.invokevirtual 41, 3) := by decide +kernel
theorem dL_law_363 : decode cL_law 363 = .ok (.if_icmp .eq 846, 3) := by decide +kernel
theorem dL_law_366 : decode cL_law 366 = .ok (.iconst 0, 1) := by decide +kernel
theorem dL_law_367 : decode cL_law 367 = .ok (.ireturn, 1) := by decide +kernel
theorem dL_law_368 : decode cL_law 368 = .ok (.aload_n 1, 1) := by decide +kernel
theorem dL_law_369 : decode cL_law 369 = .ok (.aload_n 0, 1) := by decide +kernel
theorem dL_law_370 : decode cL_law 370 = .ok (.iload_n 3, 1) := by decide +kernel
theorem dL_law_371 : decode cL_law 371 = .ok (.iconst 1, 1) := by decide +kernel
theorem dL_law_372 : decode cL_law 372 = .ok (.iadd, 1) := by decide +kernel
theorem dL_law_373 : decode cL_law 373 = .ok (.iaload, 1) := by decide +kernel
theorem dL_law_374 : decode cL_law 374 = .ok (.aload_n 0, 1) := by decide +kernel
theorem dL_law_375 : decode cL_law 375 = .ok (.iload_n 3, 1) := by decide +kernel
theorem dL_law_376 : decode cL_law 376 = .ok (.iconst 2, 1) := by decide +kernel
theorem dL_law_377 : decode cL_law 377 = .ok (.iadd, 1) := by decide +kernel
theorem dL_law_378 : decode cL_law 378 = .ok (.iaload, 1) := by decide +kernel
theorem dL_law_379 : decode cL_law 379 = .ok (.invokevirtual 42, 3) := by decide +kernel
theorem dL_law_382 : decode cL_law 382 = .ok (.aload_n 2, 1) := by decide +kernel
theorem dL_law_383 : decode cL_law 383 = .ok (.aload_n 0, 1) := by decide +kernel
theorem dL_law_384 : decode cL_law 384 = .ok (.iload_n 3, 1) := by decide +kernel
theorem dL_law_385 : decode cL_law 385 = .ok (.iconst 1, 1) := by decide +kernel
theorem dL_law_386 : decode cL_law 386 = .ok (.iadd, 1) := by decide +kernel
theorem dL_law_387 : decode cL_law 387 = .ok (.iaload, 1) := by decide +kernel
theorem dL_law_388 : decode cL_law 388 = .ok (.aload_n 0, 1) := by decide +kernel
theorem dL_law_389 : decode cL_law 389 = .ok (.iload_n 3, 1) := by decide +kernel
theorem dL_law_390 : decode cL_law 390 = .ok (.iconst 2, 1) := by decide +kernel
theorem dL_law_391 : decode cL_law 391 = .ok (.iadd, 1) := by decide +kernel
theorem dL_law_392 : decode cL_law 392 = .ok (.iaload, 1) := by decide +kernel
theorem dL_law_393 : decode cL_law 393 = .ok (.invokevirtual 46, 3) := by decide +kernel
theorem dL_law_396 : decode cL_law 396 = .ok (.if_icmp .eq 813, 3) := by decide +kernel
theorem dL_law_399 : decode cL_law 399 = .ok (.iconst 0, 1) := by decide +kernel
theorem dL_law_400 : decode cL_law 400 = .ok (.ireturn, 1) := by decide +kernel
theorem dL_law_401 : decode cL_law 401 = .ok (.aload_n 1, 1) := by decide +kernel
theorem dL_law_402 : decode cL_law 402 = .ok (.aload_n 0, 1) := by decide +kernel
theorem dL_law_403 : decode cL_law 403 = .ok (.iload_n 3, 1) := by decide +kernel
theorem dL_law_404 : decode cL_law 404 = .ok (.iconst 1, 1) := by decide +kernel
theorem dL_law_405 : decode cL_law 405 = .ok (.iadd, 1) := by decide +kernel
theorem dL_law_406 : decode cL_law 406 = .ok (.iaload, 1) := by decide +kernel
theorem dL_law_407 : decode cL_law 407 = .ok (.aload_n 0, 1) := by decide +kernel
theorem dL_law_408 : decode cL_law 408 = .ok (.iload_n 3, 1) := by decide +kernel
theorem dL_law_409 : decode cL_law 409 = .ok (.iconst 2, 1) := by decide +kernel
theorem dL_law_410 : decode cL_law 410 = .ok (.iadd, 1) := by decide +kernel
theorem dL_law_411 : decode cL_law 411 = .ok (.iaload, 1) := by decide +kernel
theorem dL_law_412 : decode cL_law 412 = .ok (.invokevirtual 47, 3) := by decide +kernel
theorem dL_law_415 : decode cL_law 415 = .ok (.aload_n 2, 1) := by decide +kernel
theorem dL_law_416 : decode cL_law 416 = .ok (.aload_n 0, 1) := by decide +kernel
theorem dL_law_417 : decode cL_law 417 = .ok (.iload_n 3, 1) := by decide +kernel
theorem dL_law_418 : decode cL_law 418 = .ok (.iconst 1, 1) := by decide +kernel
theorem dL_law_419 : decode cL_law 419 = .ok (.iadd, 1) := by decide +kernel
theorem dL_law_420 : decode cL_law 420 = .ok (.iaload, 1) := by decide +kernel
theorem dL_law_421 : decode cL_law 421 = .ok (.aload_n 0, 1) := by decide +kernel
theorem dL_law_422 : decode cL_law 422 = .ok (.iload_n 3, 1) := by decide +kernel
theorem dL_law_423 : decode cL_law 423 = .ok (.iconst 2, 1) := by decide +kernel
theorem dL_law_424 : decode cL_law 424 = .ok (.iadd, 1) := by decide +kernel
theorem dL_law_425 : decode cL_law 425 = .ok (.iaload, 1) := by decide +kernel
theorem dL_law_426 : decode cL_law 426 = .ok (.invokevirtual 50, 3) := by decide +kernel
theorem dL_law_429 : decode cL_law 429 = .ok (.if_icmp .eq 780, 3) := by decide +kernel
theorem dL_law_432 : decode cL_law 432 = .ok (.iconst 0, 1) := by decide +kernel
theorem dL_law_433 : decode cL_law 433 = .ok (.ireturn, 1) := by decide +kernel
theorem dL_law_434 : decode cL_law 434 = .ok (.aload_n 1, 1) := by decide +kernel
theorem dL_law_435 : decode cL_law 435 = .ok (.aload_n 0, 1) := by decide +kernel
theorem dL_law_436 : decode cL_law 436 = .ok (.iload_n 3, 1) := by decide +kernel
theorem dL_law_437 : decode cL_law 437 = .ok (.iconst 1, 1) := by decide +kernel
theorem dL_law_438 : decode cL_law 438 = .ok (.iadd, 1) := by decide +kernel
theorem dL_law_439 : decode cL_law 439 = .ok (.iaload, 1) := by decide +kernel
theorem dL_law_440 : decode cL_law 440 = .ok (.invokevirtual 51, 3) := by decide +kernel
theorem dL_law_443 : decode cL_law 443 = .ok (.aload_n 2, 1) := by decide +kernel
theorem dL_law_444 : decode cL_law 444 = .ok (.aload_n 0, 1) := by decide +kernel
theorem dL_law_445 : decode cL_law 445 = .ok (.iload_n 3, 1) := by decide +kernel
theorem dL_law_446 : decode cL_law 446 = .ok (.iconst 1, 1) := by decide +kernel
theorem dL_law_447 : decode cL_law 447 = .ok (.iadd, 1) := by decide +kernel
theorem dL_law_448 : decode cL_law 448 = .ok (.iaload, 1) := by decide +kernel
theorem dL_law_449 : decode cL_law 449 = .ok (.invokevirtual 54, 3) := by decide +kernel
theorem dL_law_452 : decode cL_law 452 = .ok (.if_icmp .eq 757, 3) := by decide +kernel
theorem dL_law_455 : decode cL_law 455 = .ok (.iconst 0, 1) := by decide +kernel
theorem dL_law_456 : decode cL_law 456 = .ok (.ireturn, 1) := by decide +kernel
theorem dL_law_457 : decode cL_law 457 = .ok (.aload_n 1, 1) := by decide +kernel
theorem dL_law_458 : decode cL_law 458 = .ok (.aload_n 0, 1) := by decide +kernel
theorem dL_law_459 : decode cL_law 459 = .ok (.iload_n 3, 1) := by decide +kernel
theorem dL_law_460 : decode cL_law 460 = .ok (.iconst 1, 1) := by decide +kernel
theorem dL_law_461 : decode cL_law 461 = .ok (.iadd, 1) := by decide +kernel
theorem dL_law_462 : decode cL_law 462 = .ok (.iaload, 1) := by decide +kernel
theorem dL_law_463 : decode cL_law 463 = .ok (.aload_n 0, 1) := by decide +kernel
theorem dL_law_464 : decode cL_law 464 = .ok (.iload_n 3, 1) := by decide +kernel
theorem dL_law_465 : decode cL_law 465 = .ok (.iconst 2, 1) := by decide +kernel
theorem dL_law_466 : decode cL_law 466 = .ok (.iadd, 1) := by decide +kernel
theorem dL_law_467 : decode cL_law 467 = .ok (.iaload, 1) := by decide +kernel
theorem dL_law_468 : decode cL_law 468 = .ok (.invokevirtual 55, 3) := by decide +kernel
theorem dL_law_471 : decode cL_law 471 = .ok (.aload_n 2, 1) := by decide +kernel
theorem dL_law_472 : decode cL_law 472 = .ok (.aload_n 0, 1) := by decide +kernel
theorem dL_law_473 : decode cL_law 473 = .ok (.iload_n 3, 1) := by decide +kernel
theorem dL_law_474 : decode cL_law 474 = .ok (.iconst 1, 1) := by decide +kernel
theorem dL_law_475 : decode cL_law 475 = .ok (.iadd, 1) := by decide +kernel
theorem dL_law_476 : decode cL_law 476 = .ok (.iaload, 1) := by decide +kernel
theorem dL_law_477 : decode cL_law 477 = .ok (.aload_n 0, 1) := by decide +kernel
theorem dL_law_478 : decode cL_law 478 = .ok (.iload_n 3, 1) := by decide +kernel
theorem dL_law_479 : decode cL_law 479 = .ok (.iconst 2, 1) := by decide +kernel
theorem dL_law_480 : decode cL_law 480 = .ok (.iadd, 1) := by decide +kernel
theorem dL_law_481 : decode cL_law 481 = .ok (.iaload, 1) := by decide +kernel
theorem dL_law_482 : decode cL_law 482 = .ok (.invokevirtual 58, 3) := by decide +kernel
theorem dL_law_485 : decode cL_law 485 = .ok (.if_icmp .eq 724, 3) := by decide +kernel
theorem dL_law_488 : decode cL_law 488 = .ok (.iconst 0, 1) := by decide +kernel
theorem dL_law_489 : decode cL_law 489 = .ok (.ireturn, 1) := by decide +kernel
theorem dL_law_490 : decode cL_law 490 = .ok (.aload_n 1, 1) := by decide +kernel
theorem dL_law_491 : decode cL_law 491 = .ok (.aload_n 0, 1) := by decide +kernel
theorem dL_law_492 : decode cL_law 492 = .ok (.iload_n 3, 1) := by decide +kernel
theorem dL_law_493 : decode cL_law 493 = .ok (.iconst 1, 1) := by decide +kernel
theorem dL_law_494 : decode cL_law 494 = .ok (.iadd, 1) := by decide +kernel
theorem dL_law_495 : decode cL_law 495 = .ok (.iaload, 1) := by decide +kernel
theorem dL_law_496 : decode cL_law 496 = .ok (.aload_n 0, 1) := by decide +kernel
theorem dL_law_497 : decode cL_law 497 = .ok (.iload_n 3, 1) := by decide +kernel
theorem dL_law_498 : decode cL_law 498 = .ok (.iconst 2, 1) := by decide +kernel
theorem dL_law_499 : decode cL_law 499 = .ok (.iadd, 1) := by decide +kernel
theorem dL_law_500 : decode cL_law 500 = .ok (.iaload, 1) := by decide +kernel
theorem dL_law_501 : decode cL_law 501 = .ok (.aload_n 0, 1) := by decide +kernel
theorem dL_law_502 : decode cL_law 502 = .ok (.iload_n 3, 1) := by decide +kernel
theorem dL_law_503 : decode cL_law 503 = .ok (.iconst 3, 1) := by decide +kernel
theorem dL_law_504 : decode cL_law 504 = .ok (.iadd, 1) := by decide +kernel
theorem dL_law_505 : decode cL_law 505 = .ok (.iaload, 1) := by decide +kernel
theorem dL_law_506 : decode cL_law 506 = .ok (.invokevirtual 59, 3) := by decide +kernel
theorem dL_law_509 : decode cL_law 509 = .ok (.aload_n 2, 1) := by decide +kernel
theorem dL_law_510 : decode cL_law 510 = .ok (.aload_n 0, 1) := by decide +kernel
theorem dL_law_511 : decode cL_law 511 = .ok (.iload_n 3, 1) := by decide +kernel
theorem dL_law_512 : decode cL_law 512 = .ok (.iconst 1, 1) := by decide +kernel
theorem dL_law_513 : decode cL_law 513 = .ok (.iadd, 1) := by decide +kernel
theorem dL_law_514 : decode cL_law 514 = .ok (.iaload, 1) := by decide +kernel
theorem dL_law_515 : decode cL_law 515 = .ok (.aload_n 0, 1) := by decide +kernel
theorem dL_law_516 : decode cL_law 516 = .ok (.iload_n 3, 1) := by decide +kernel
theorem dL_law_517 : decode cL_law 517 = .ok (.iconst 2, 1) := by decide +kernel
theorem dL_law_518 : decode cL_law 518 = .ok (.iadd, 1) := by decide +kernel
theorem dL_law_519 : decode cL_law 519 = .ok (.iaload, 1) := by decide +kernel
theorem dL_law_520 : decode cL_law 520 = .ok (.aload_n 0, 1) := by decide +kernel
theorem dL_law_521 : decode cL_law 521 = .ok (.iload_n 3, 1) := by decide +kernel
theorem dL_law_522 : decode cL_law 522 = .ok (.iconst 3, 1) := by decide +kernel
theorem dL_law_523 : decode cL_law 523 = .ok (.iadd, 1) := by decide +kernel
theorem dL_law_524 : decode cL_law 524 = .ok (.iaload, 1) := by decide +kernel
theorem dL_law_525 : decode cL_law 525 = .ok (.invokevirtual 62, 3) := by decide +kernel
theorem dL_law_528 : decode cL_law 528 = .ok (.if_icmp .eq 681, 3) := by decide +kernel
theorem dL_law_531 : decode cL_law 531 = .ok (.iconst 0, 1) := by decide +kernel
theorem dL_law_532 : decode cL_law 532 = .ok (.ireturn, 1) := by decide +kernel
theorem dL_law_533 : decode cL_law 533 = .ok (.aload_n 1, 1) := by decide +kernel
theorem dL_law_534 : decode cL_law 534 = .ok (.aload_n 0, 1) := by decide +kernel
theorem dL_law_535 : decode cL_law 535 = .ok (.iload_n 3, 1) := by decide +kernel
theorem dL_law_536 : decode cL_law 536 = .ok (.iconst 1, 1) := by decide +kernel
theorem dL_law_537 : decode cL_law 537 = .ok (.iadd, 1) := by decide +kernel
theorem dL_law_538 : decode cL_law 538 = .ok (.iaload, 1) := by decide +kernel
theorem dL_law_539 : decode cL_law 539 = .ok (.aload_n 0, 1) := by decide +kernel
theorem dL_law_540 : decode cL_law 540 = .ok (.iload_n 3, 1) := by decide +kernel
theorem dL_law_541 : decode cL_law 541 = .ok (.iconst 2, 1) := by decide +kernel
theorem dL_law_542 : decode cL_law 542 = .ok (.iadd, 1) := by decide +kernel
theorem dL_law_543 : decode cL_law 543 = .ok (.iaload, 1) := by decide +kernel
theorem dL_law_544 : decode cL_law 544 = .ok (.invokevirtual 63, 3) := by decide +kernel
theorem dL_law_547 : decode cL_law 547 = .ok (.aload_n 2, 1) := by decide +kernel
theorem dL_law_548 : decode cL_law 548 = .ok (.aload_n 0, 1) := by decide +kernel
theorem dL_law_549 : decode cL_law 549 = .ok (.iload_n 3, 1) := by decide +kernel
theorem dL_law_550 : decode cL_law 550 = .ok (.iconst 1, 1) := by decide +kernel
theorem dL_law_551 : decode cL_law 551 = .ok (.iadd, 1) := by decide +kernel
theorem dL_law_552 : decode cL_law 552 = .ok (.iaload, 1) := by decide +kernel
theorem dL_law_553 : decode cL_law 553 = .ok (.aload_n 0, 1) := by decide +kernel
theorem dL_law_554 : decode cL_law 554 = .ok (.iload_n 3, 1) := by decide +kernel
theorem dL_law_555 : decode cL_law 555 = .ok (.iconst 2, 1) := by decide +kernel
theorem dL_law_556 : decode cL_law 556 = .ok (.iadd, 1) := by decide +kernel
theorem dL_law_557 : decode cL_law 557 = .ok (.iaload, 1) := by decide +kernel
theorem dL_law_558 : decode cL_law 558 = .ok (.invokevirtual 66, 3) := by decide +kernel
theorem dL_law_561 : decode cL_law 561 = .ok (.if_icmp .eq 648, 3) := by decide +kernel
theorem dL_law_564 : decode cL_law 564 = .ok (.iconst 0, 1) := by decide +kernel
theorem dL_law_565 : decode cL_law 565 = .ok (.ireturn, 1) := by decide +kernel
theorem dL_law_566 : decode cL_law 566 = .ok (.aload_n 1, 1) := by decide +kernel
theorem dL_law_567 : decode cL_law 567 = .ok (.aload_n 0, 1) := by decide +kernel
theorem dL_law_568 : decode cL_law 568 = .ok (.iload_n 3, 1) := by decide +kernel
theorem dL_law_569 : decode cL_law 569 = .ok (.iconst 1, 1) := by decide +kernel
theorem dL_law_570 : decode cL_law 570 = .ok (.iadd, 1) := by decide +kernel
theorem dL_law_571 : decode cL_law 571 = .ok (.iaload, 1) := by decide +kernel
theorem dL_law_572 : decode cL_law 572 = .ok (.aload_n 0, 1) := by decide +kernel
theorem dL_law_573 : decode cL_law 573 = .ok (.iload_n 3, 1) := by decide +kernel
theorem dL_law_574 : decode cL_law 574 = .ok (.iconst 2, 1) := by decide +kernel
theorem dL_law_575 : decode cL_law 575 = .ok (.iadd, 1) := by decide +kernel
theorem dL_law_576 : decode cL_law 576 = .ok (.iaload, 1) := by decide +kernel
theorem dL_law_577 : decode cL_law 577 = .ok (.aload_n 0, 1) := by decide +kernel
theorem dL_law_578 : decode cL_law 578 = .ok (.iload_n 3, 1) := by decide +kernel
theorem dL_law_579 : decode cL_law 579 = .ok (.iconst 3, 1) := by decide +kernel
theorem dL_law_580 : decode cL_law 580 = .ok (.iadd, 1) := by decide +kernel
theorem dL_law_581 : decode cL_law 581 = .ok (.iaload, 1) := by decide +kernel
theorem dL_law_582 : decode cL_law 582 = .ok (.invokevirtual 67, 3) := by decide +kernel
theorem dL_law_585 : decode cL_law 585 = .ok (.aload_n 2, 1) := by decide +kernel
theorem dL_law_586 : decode cL_law 586 = .ok (.aload_n 0, 1) := by decide +kernel
theorem dL_law_587 : decode cL_law 587 = .ok (.iload_n 3, 1) := by decide +kernel
theorem dL_law_588 : decode cL_law 588 = .ok (.iconst 1, 1) := by decide +kernel
theorem dL_law_589 : decode cL_law 589 = .ok (.iadd, 1) := by decide +kernel
theorem dL_law_590 : decode cL_law 590 = .ok (.iaload, 1) := by decide +kernel
theorem dL_law_591 : decode cL_law 591 = .ok (.aload_n 0, 1) := by decide +kernel
theorem dL_law_592 : decode cL_law 592 = .ok (.iload_n 3, 1) := by decide +kernel
theorem dL_law_593 : decode cL_law 593 = .ok (.iconst 2, 1) := by decide +kernel
theorem dL_law_594 : decode cL_law 594 = .ok (.iadd, 1) := by decide +kernel
theorem dL_law_595 : decode cL_law 595 = .ok (.iaload, 1) := by decide +kernel
theorem dL_law_596 : decode cL_law 596 = .ok (.aload_n 0, 1) := by decide +kernel
theorem dL_law_597 : decode cL_law 597 = .ok (.iload_n 3, 1) := by decide +kernel
theorem dL_law_598 : decode cL_law 598 = .ok (.iconst 3, 1) := by decide +kernel
theorem dL_law_599 : decode cL_law 599 = .ok (.iadd, 1) := by decide +kernel
theorem dL_law_600 : decode cL_law 600 = .ok (.iaload, 1) := by decide +kernel
theorem dL_law_601 : decode cL_law 601 = .ok (.invokevirtual 70, 3) := by decide +kernel
theorem dL_law_604 : decode cL_law 604 = .ok (.if_icmp .eq 605, 3) := by decide +kernel
theorem dL_law_607 : decode cL_law 607 = .ok (.iconst 0, 1) := by decide +kernel
theorem dL_law_608 : decode cL_law 608 = .ok (.ireturn, 1) := by decide +kernel
theorem dL_law_609 : decode cL_law 609 = .ok (.aload_n 1, 1) := by decide +kernel
theorem dL_law_610 : decode cL_law 610 = .ok (.aload_n 0, 1) := by decide +kernel
theorem dL_law_611 : decode cL_law 611 = .ok (.iload_n 3, 1) := by decide +kernel
theorem dL_law_612 : decode cL_law 612 = .ok (.iconst 1, 1) := by decide +kernel
theorem dL_law_613 : decode cL_law 613 = .ok (.iadd, 1) := by decide +kernel
theorem dL_law_614 : decode cL_law 614 = .ok (.iaload, 1) := by decide +kernel
theorem dL_law_615 : decode cL_law 615 = .ok (.aload_n 0, 1) := by decide +kernel
theorem dL_law_616 : decode cL_law 616 = .ok (.iload_n 3, 1) := by decide +kernel
theorem dL_law_617 : decode cL_law 617 = .ok (.iconst 2, 1) := by decide +kernel
theorem dL_law_618 : decode cL_law 618 = .ok (.iadd, 1) := by decide +kernel
theorem dL_law_619 : decode cL_law 619 = .ok (.iaload, 1) := by decide +kernel
theorem dL_law_620 : decode cL_law 620 = .ok (.aload_n 0, 1) := by decide +kernel
theorem dL_law_621 : decode cL_law 621 = .ok (.iload_n 3, 1) := by decide +kernel
theorem dL_law_622 : decode cL_law 622 = .ok (.iconst 3, 1) := by decide +kernel
theorem dL_law_623 : decode cL_law 623 = .ok (.iadd, 1) := by decide +kernel
theorem dL_law_624 : decode cL_law 624 = .ok (.iaload, 1) := by decide +kernel
theorem dL_law_625 : decode cL_law 625 = .ok (.aload_n 0, 1) := by decide +kernel
theorem dL_law_626 : decode cL_law 626 = .ok (.iload_n 3, 1) := by decide +kernel
theorem dL_law_627 : decode cL_law 627 = .ok (.iconst 4, 1) := by decide +kernel
theorem dL_law_628 : decode cL_law 628 = .ok (.iadd, 1) := by decide +kernel
theorem dL_law_629 : decode cL_law 629 = .ok (.iaload, 1) := by decide +kernel
theorem dL_law_630 : decode cL_law 630 = .ok (.invokevirtual 71, 3) := by decide +kernel
theorem dL_law_633 : decode cL_law 633 = .ok (.aload_n 2, 1) := by decide +kernel
theorem dL_law_634 : decode cL_law 634 = .ok (.aload_n 0, 1) := by decide +kernel
theorem dL_law_635 : decode cL_law 635 = .ok (.iload_n 3, 1) := by decide +kernel
theorem dL_law_636 : decode cL_law 636 = .ok (.iconst 1, 1) := by decide +kernel
theorem dL_law_637 : decode cL_law 637 = .ok (.iadd, 1) := by decide +kernel
theorem dL_law_638 : decode cL_law 638 = .ok (.iaload, 1) := by decide +kernel
theorem dL_law_639 : decode cL_law 639 = .ok (.aload_n 0, 1) := by decide +kernel
theorem dL_law_640 : decode cL_law 640 = .ok (.iload_n 3, 1) := by decide +kernel
theorem dL_law_641 : decode cL_law 641 = .ok (.iconst 2, 1) := by decide +kernel
theorem dL_law_642 : decode cL_law 642 = .ok (.iadd, 1) := by decide +kernel
theorem dL_law_643 : decode cL_law 643 = .ok (.iaload, 1) := by decide +kernel
theorem dL_law_644 : decode cL_law 644 = .ok (.aload_n 0, 1) := by decide +kernel
theorem dL_law_645 : decode cL_law 645 = .ok (.iload_n 3, 1) := by decide +kernel
theorem dL_law_646 : decode cL_law 646 = .ok (.iconst 3, 1) := by decide +kernel
theorem dL_law_647 : decode cL_law 647 = .ok (.iadd, 1) := by decide +kernel
theorem dL_law_648 : decode cL_law 648 = .ok (.iaload, 1) := by decide +kernel
theorem dL_law_649 : decode cL_law 649 = .ok (.aload_n 0, 1) := by decide +kernel
theorem dL_law_650 : decode cL_law 650 = .ok (.iload_n 3, 1) := by decide +kernel
theorem dL_law_651 : decode cL_law 651 = .ok (.iconst 4, 1) := by decide +kernel
theorem dL_law_652 : decode cL_law 652 = .ok (.iadd, 1) := by decide +kernel
theorem dL_law_653 : decode cL_law 653 = .ok (.iaload, 1) := by decide +kernel
theorem dL_law_654 : decode cL_law 654 = .ok (.invokevirtual 75, 3) := by decide +kernel
theorem dL_law_657 : decode cL_law 657 = .ok (.if_icmp .eq 552, 3) := by decide +kernel
theorem dL_law_660 : decode cL_law 660 = .ok (.iconst 0, 1) := by decide +kernel
theorem dL_law_661 : decode cL_law 661 = .ok (.ireturn, 1) := by decide +kernel
theorem dL_law_662 : decode cL_law 662 = .ok (.aload_n 1, 1) := by decide +kernel
theorem dL_law_663 : decode cL_law 663 = .ok (.aload_n 0, 1) := by decide +kernel
theorem dL_law_664 : decode cL_law 664 = .ok (.iload_n 3, 1) := by decide +kernel
theorem dL_law_665 : decode cL_law 665 = .ok (.iconst 1, 1) := by decide +kernel
theorem dL_law_666 : decode cL_law 666 = .ok (.iadd, 1) := by decide +kernel
theorem dL_law_667 : decode cL_law 667 = .ok (.iaload, 1) := by decide +kernel
theorem dL_law_668 : decode cL_law 668 = .ok (.aload_n 0, 1) := by decide +kernel
theorem dL_law_669 : decode cL_law 669 = .ok (.iload_n 3, 1) := by decide +kernel
theorem dL_law_670 : decode cL_law 670 = .ok (.iconst 2, 1) := by decide +kernel
theorem dL_law_671 : decode cL_law 671 = .ok (.iadd, 1) := by decide +kernel
theorem dL_law_672 : decode cL_law 672 = .ok (.iaload, 1) := by decide +kernel
theorem dL_law_673 : decode cL_law 673 = .ok (.aload_n 0, 1) := by decide +kernel
theorem dL_law_674 : decode cL_law 674 = .ok (.iload_n 3, 1) := by decide +kernel
theorem dL_law_675 : decode cL_law 675 = .ok (.iconst 3, 1) := by decide +kernel
theorem dL_law_676 : decode cL_law 676 = .ok (.iadd, 1) := by decide +kernel
theorem dL_law_677 : decode cL_law 677 = .ok (.iaload, 1) := by decide +kernel
theorem dL_law_678 : decode cL_law 678 = .ok (.invokevirtual 76, 3) := by decide +kernel
theorem dL_law_681 : decode cL_law 681 = .ok (.aload_n 2, 1) := by decide +kernel
theorem dL_law_682 : decode cL_law 682 = .ok (.aload_n 0, 1) := by decide +kernel
theorem dL_law_683 : decode cL_law 683 = .ok (.iload_n 3, 1) := by decide +kernel
theorem dL_law_684 : decode cL_law 684 = .ok (.iconst 1, 1) := by decide +kernel
theorem dL_law_685 : decode cL_law 685 = .ok (.iadd, 1) := by decide +kernel
theorem dL_law_686 : decode cL_law 686 = .ok (.iaload, 1) := by decide +kernel
theorem dL_law_687 : decode cL_law 687 = .ok (.aload_n 0, 1) := by decide +kernel
theorem dL_law_688 : decode cL_law 688 = .ok (.iload_n 3, 1) := by decide +kernel
theorem dL_law_689 : decode cL_law 689 = .ok (.iconst 2, 1) := by decide +kernel
theorem dL_law_690 : decode cL_law 690 = .ok (.iadd, 1) := by decide +kernel
theorem dL_law_691 : decode cL_law 691 = .ok (.iaload, 1) := by decide +kernel
theorem dL_law_692 : decode cL_law 692 = .ok (.aload_n 0, 1) := by decide +kernel
theorem dL_law_693 : decode cL_law 693 = .ok (.iload_n 3, 1) := by decide +kernel
theorem dL_law_694 : decode cL_law 694 = .ok (.iconst 3, 1) := by decide +kernel
theorem dL_law_695 : decode cL_law 695 = .ok (.iadd, 1) := by decide +kernel
theorem dL_law_696 : decode cL_law 696 = .ok (.iaload, 1) := by decide +kernel
theorem dL_law_697 : decode cL_law 697 = .ok (.invokevirtual 79, 3) := by decide +kernel
theorem dL_law_700 : decode cL_law 700 = .ok (.if_icmp .eq 509, 3) := by decide +kernel
theorem dL_law_703 : decode cL_law 703 = .ok (.iconst 0, 1) := by decide +kernel
theorem dL_law_704 : decode cL_law 704 = .ok (.ireturn, 1) := by decide +kernel
theorem dL_law_705 : decode cL_law 705 = .ok (.aload_n 1, 1) := by decide +kernel
theorem dL_law_706 : decode cL_law 706 = .ok (.aload_n 0, 1) := by decide +kernel
theorem dL_law_707 : decode cL_law 707 = .ok (.iload_n 3, 1) := by decide +kernel
theorem dL_law_708 : decode cL_law 708 = .ok (.iconst 1, 1) := by decide +kernel
theorem dL_law_709 : decode cL_law 709 = .ok (.iadd, 1) := by decide +kernel
theorem dL_law_710 : decode cL_law 710 = .ok (.iaload, 1) := by decide +kernel
theorem dL_law_711 : decode cL_law 711 = .ok (.aload_n 0, 1) := by decide +kernel
theorem dL_law_712 : decode cL_law 712 = .ok (.iload_n 3, 1) := by decide +kernel
theorem dL_law_713 : decode cL_law 713 = .ok (.iconst 2, 1) := by decide +kernel
theorem dL_law_714 : decode cL_law 714 = .ok (.iadd, 1) := by decide +kernel
theorem dL_law_715 : decode cL_law 715 = .ok (.iaload, 1) := by decide +kernel
theorem dL_law_716 : decode cL_law 716 = .ok (.aload_n 0, 1) := by decide +kernel
theorem dL_law_717 : decode cL_law 717 = .ok (.iload_n 3, 1) := by decide +kernel
theorem dL_law_718 : decode cL_law 718 = .ok (.iconst 3, 1) := by decide +kernel
theorem dL_law_719 : decode cL_law 719 = .ok (.iadd, 1) := by decide +kernel
theorem dL_law_720 : decode cL_law 720 = .ok (.iaload, 1) := by decide +kernel
theorem dL_law_721 : decode cL_law 721 = .ok (.invokevirtual 80, 3) := by decide +kernel
theorem dL_law_724 : decode cL_law 724 = .ok (.aload_n 2, 1) := by decide +kernel
theorem dL_law_725 : decode cL_law 725 = .ok (.aload_n 0, 1) := by decide +kernel
theorem dL_law_726 : decode cL_law 726 = .ok (.iload_n 3, 1) := by decide +kernel
theorem dL_law_727 : decode cL_law 727 = .ok (.iconst 1, 1) := by decide +kernel
theorem dL_law_728 : decode cL_law 728 = .ok (.iadd, 1) := by decide +kernel
theorem dL_law_729 : decode cL_law 729 = .ok (.iaload, 1) := by decide +kernel
theorem dL_law_730 : decode cL_law 730 = .ok (.aload_n 0, 1) := by decide +kernel
theorem dL_law_731 : decode cL_law 731 = .ok (.iload_n 3, 1) := by decide +kernel
theorem dL_law_732 : decode cL_law 732 = .ok (.iconst 2, 1) := by decide +kernel
theorem dL_law_733 : decode cL_law 733 = .ok (.iadd, 1) := by decide +kernel
theorem dL_law_734 : decode cL_law 734 = .ok (.iaload, 1) := by decide +kernel
theorem dL_law_735 : decode cL_law 735 = .ok (.aload_n 0, 1) := by decide +kernel
theorem dL_law_736 : decode cL_law 736 = .ok (.iload_n 3, 1) := by decide +kernel
theorem dL_law_737 : decode cL_law 737 = .ok (.iconst 3, 1) := by decide +kernel
theorem dL_law_738 : decode cL_law 738 = .ok (.iadd, 1) := by decide +kernel
theorem dL_law_739 : decode cL_law 739 = .ok (.iaload, 1) := by decide +kernel
theorem dL_law_740 : decode cL_law 740 = .ok (.invokevirtual 83, 3) := by decide +kernel
theorem dL_law_743 : decode cL_law 743 = .ok (.if_icmp .eq 466, 3) := by decide +kernel
theorem dL_law_746 : decode cL_law 746 = .ok (.iconst 0, 1) := by decide +kernel
theorem dL_law_747 : decode cL_law 747 = .ok (.ireturn, 1) := by decide +kernel
theorem dL_law_748 : decode cL_law 748 = .ok (.aload_n 1, 1) := by decide +kernel
theorem dL_law_749 : decode cL_law 749 = .ok (.aload_n 0, 1) := by decide +kernel
theorem dL_law_750 : decode cL_law 750 = .ok (.iload_n 3, 1) := by decide +kernel
theorem dL_law_751 : decode cL_law 751 = .ok (.iconst 1, 1) := by decide +kernel
theorem dL_law_752 : decode cL_law 752 = .ok (.iadd, 1) := by decide +kernel
theorem dL_law_753 : decode cL_law 753 = .ok (.iaload, 1) := by decide +kernel
theorem dL_law_754 : decode cL_law 754 = .ok (.aload_n 0, 1) := by decide +kernel
theorem dL_law_755 : decode cL_law 755 = .ok (.iload_n 3, 1) := by decide +kernel
theorem dL_law_756 : decode cL_law 756 = .ok (.iconst 2, 1) := by decide +kernel
theorem dL_law_757 : decode cL_law 757 = .ok (.iadd, 1) := by decide +kernel
theorem dL_law_758 : decode cL_law 758 = .ok (.iaload, 1) := by decide +kernel
theorem dL_law_759 : decode cL_law 759 = .ok (.invokevirtual 84, 3) := by decide +kernel
theorem dL_law_762 : decode cL_law 762 = .ok (.aload_n 2, 1) := by decide +kernel
theorem dL_law_763 : decode cL_law 763 = .ok (.aload_n 0, 1) := by decide +kernel
theorem dL_law_764 : decode cL_law 764 = .ok (.iload_n 3, 1) := by decide +kernel
theorem dL_law_765 : decode cL_law 765 = .ok (.iconst 1, 1) := by decide +kernel
theorem dL_law_766 : decode cL_law 766 = .ok (.iadd, 1) := by decide +kernel
theorem dL_law_767 : decode cL_law 767 = .ok (.iaload, 1) := by decide +kernel
theorem dL_law_768 : decode cL_law 768 = .ok (.aload_n 0, 1) := by decide +kernel
theorem dL_law_769 : decode cL_law 769 = .ok (.iload_n 3, 1) := by decide +kernel
theorem dL_law_770 : decode cL_law 770 = .ok (.iconst 2, 1) := by decide +kernel
theorem dL_law_771 : decode cL_law 771 = .ok (.iadd, 1) := by decide +kernel
theorem dL_law_772 : decode cL_law 772 = .ok (.iaload, 1) := by decide +kernel
theorem dL_law_773 : decode cL_law 773 = .ok (.invokevirtual 87, 3) := by decide +kernel
theorem dL_law_776 : decode cL_law 776 = .ok (.if_icmp .eq 433, 3) := by decide +kernel
theorem dL_law_779 : decode cL_law 779 = .ok (.iconst 0, 1) := by decide +kernel
theorem dL_law_780 : decode cL_law 780 = .ok (.ireturn, 1) := by decide +kernel
theorem dL_law_781 : decode cL_law 781 = .ok (.aload_n 1, 1) := by decide +kernel
theorem dL_law_782 : decode cL_law 782 = .ok (.aload_n 0, 1) := by decide +kernel
theorem dL_law_783 : decode cL_law 783 = .ok (.iload_n 3, 1) := by decide +kernel
theorem dL_law_784 : decode cL_law 784 = .ok (.iconst 1, 1) := by decide +kernel
theorem dL_law_785 : decode cL_law 785 = .ok (.iadd, 1) := by decide +kernel
theorem dL_law_786 : decode cL_law 786 = .ok (.iaload, 1) := by decide +kernel
theorem dL_law_787 : decode cL_law 787 = .ok (.aload_n 0, 1) := by decide +kernel
theorem dL_law_788 : decode cL_law 788 = .ok (.iload_n 3, 1) := by decide +kernel
theorem dL_law_789 : decode cL_law 789 = .ok (.iconst 2, 1) := by decide +kernel
theorem dL_law_790 : decode cL_law 790 = .ok (.iadd, 1) := by decide +kernel
theorem dL_law_791 : decode cL_law 791 = .ok (.iaload, 1) := by decide +kernel
theorem dL_law_792 : decode cL_law 792 = .ok (.aload_n 0, 1) := by decide +kernel
theorem dL_law_793 : decode cL_law 793 = .ok (.iload_n 3, 1) := by decide +kernel
theorem dL_law_794 : decode cL_law 794 = .ok (.iconst 3, 1) := by decide +kernel
theorem dL_law_795 : decode cL_law 795 = .ok (.iadd, 1) := by decide +kernel
theorem dL_law_796 : decode cL_law 796 = .ok (.iaload, 1) := by decide +kernel
theorem dL_law_797 : decode cL_law 797 = .ok (.invokevirtual 88, 3) := by decide +kernel
theorem dL_law_800 : decode cL_law 800 = .ok (.aload_n 2, 1) := by decide +kernel
theorem dL_law_801 : decode cL_law 801 = .ok (.aload_n 0, 1) := by decide +kernel
theorem dL_law_802 : decode cL_law 802 = .ok (.iload_n 3, 1) := by decide +kernel
theorem dL_law_803 : decode cL_law 803 = .ok (.iconst 1, 1) := by decide +kernel
theorem dL_law_804 : decode cL_law 804 = .ok (.iadd, 1) := by decide +kernel
theorem dL_law_805 : decode cL_law 805 = .ok (.iaload, 1) := by decide +kernel
theorem dL_law_806 : decode cL_law 806 = .ok (.aload_n 0, 1) := by decide +kernel
theorem dL_law_807 : decode cL_law 807 = .ok (.iload_n 3, 1) := by decide +kernel
theorem dL_law_808 : decode cL_law 808 = .ok (.iconst 2, 1) := by decide +kernel
theorem dL_law_809 : decode cL_law 809 = .ok (.iadd, 1) := by decide +kernel
theorem dL_law_810 : decode cL_law 810 = .ok (.iaload, 1) := by decide +kernel
theorem dL_law_811 : decode cL_law 811 = .ok (.aload_n 0, 1) := by decide +kernel
theorem dL_law_812 : decode cL_law 812 = .ok (.iload_n 3, 1) := by decide +kernel
theorem dL_law_813 : decode cL_law 813 = .ok (.iconst 3, 1) := by decide +kernel
theorem dL_law_814 : decode cL_law 814 = .ok (.iadd, 1) := by decide +kernel
theorem dL_law_815 : decode cL_law 815 = .ok (.iaload, 1) := by decide +kernel
theorem dL_law_816 : decode cL_law 816 = .ok (.invokevirtual 91, 3) := by decide +kernel
theorem dL_law_819 : decode cL_law 819 = .ok (.if_icmp .eq 390, 3) := by decide +kernel
theorem dL_law_822 : decode cL_law 822 = .ok (.iconst 0, 1) := by decide +kernel
theorem dL_law_823 : decode cL_law 823 = .ok (.ireturn, 1) := by decide +kernel
theorem dL_law_824 : decode cL_law 824 = .ok (.aload_n 1, 1) := by decide +kernel
theorem dL_law_825 : decode cL_law 825 = .ok (.aload_n 0, 1) := by decide +kernel
theorem dL_law_826 : decode cL_law 826 = .ok (.iload_n 3, 1) := by decide +kernel
theorem dL_law_827 : decode cL_law 827 = .ok (.iconst 1, 1) := by decide +kernel
theorem dL_law_828 : decode cL_law 828 = .ok (.iadd, 1) := by decide +kernel
theorem dL_law_829 : decode cL_law 829 = .ok (.iaload, 1) := by decide +kernel
theorem dL_law_830 : decode cL_law 830 = .ok (.aload_n 0, 1) := by decide +kernel
theorem dL_law_831 : decode cL_law 831 = .ok (.iload_n 3, 1) := by decide +kernel
theorem dL_law_832 : decode cL_law 832 = .ok (.iconst 2, 1) := by decide +kernel
theorem dL_law_833 : decode cL_law 833 = .ok (.iadd, 1) := by decide +kernel
theorem dL_law_834 : decode cL_law 834 = .ok (.iaload, 1) := by decide +kernel
theorem dL_law_835 : decode cL_law 835 = .ok (.aload_n 0, 1) := by decide +kernel
theorem dL_law_836 : decode cL_law 836 = .ok (.iload_n 3, 1) := by decide +kernel
theorem dL_law_837 : decode cL_law 837 = .ok (.iconst 3, 1) := by decide +kernel
theorem dL_law_838 : decode cL_law 838 = .ok (.iadd, 1) := by decide +kernel
theorem dL_law_839 : decode cL_law 839 = .ok (.iaload, 1) := by decide +kernel
theorem dL_law_840 : decode cL_law 840 = .ok (.invokevirtual 92, 3) := by decide +kernel
theorem dL_law_843 : decode cL_law 843 = .ok (.aload_n 2, 1) := by decide +kernel
theorem dL_law_844 : decode cL_law 844 = .ok (.aload_n 0, 1) := by decide +kernel
theorem dL_law_845 : decode cL_law 845 = .ok (.iload_n 3, 1) := by decide +kernel
theorem dL_law_846 : decode cL_law 846 = .ok (.iconst 1, 1) := by decide +kernel
theorem dL_law_847 : decode cL_law 847 = .ok (.iadd, 1) := by decide +kernel
theorem dL_law_848 : decode cL_law 848 = .ok (.iaload, 1) := by decide +kernel
theorem dL_law_849 : decode cL_law 849 = .ok (.aload_n 0, 1) := by decide +kernel
theorem dL_law_850 : decode cL_law 850 = .ok (.iload_n 3, 1) := by decide +kernel
theorem dL_law_851 : decode cL_law 851 = .ok (.iconst 2, 1) := by decide +kernel
theorem dL_law_852 : decode cL_law 852 = .ok (.iadd, 1) := by decide +kernel
theorem dL_law_853 : decode cL_law 853 = .ok (.iaload, 1) := by decide +kernel
theorem dL_law_854 : decode cL_law 854 = .ok (.aload_n 0, 1) := by decide +kernel
theorem dL_law_855 : decode cL_law 855 = .ok (.iload_n 3, 1) := by decide +kernel
theorem dL_law_856 : decode cL_law 856 = .ok (.iconst 3, 1) := by decide +kernel
theorem dL_law_857 : decode cL_law 857 = .ok (.iadd, 1) := by decide +kernel
theorem dL_law_858 : decode cL_law 858 = .ok (.iaload, 1) := by decide +kernel
theorem dL_law_859 : decode cL_law 859 = .ok (.invokevirtual 95, 3) := by decide +kernel
theorem dL_law_862 : decode cL_law 862 = .ok (.if_icmp .eq 347, 3) := by decide +kernel
theorem dL_law_865 : decode cL_law 865 = .ok (.iconst 0, 1) := by decide +kernel
theorem dL_law_866 : decode cL_law 866 = .ok (.ireturn, 1) := by decide +kernel
theorem dL_law_867 : decode cL_law 867 = .ok (.aload_n 1, 1) := by decide +kernel
theorem dL_law_868 : decode cL_law 868 = .ok (.aload_n 0, 1) := by decide +kernel
theorem dL_law_869 : decode cL_law 869 = .ok (.iload_n 3, 1) := by decide +kernel
theorem dL_law_870 : decode cL_law 870 = .ok (.iconst 1, 1) := by decide +kernel
theorem dL_law_871 : decode cL_law 871 = .ok (.iadd, 1) := by decide +kernel
theorem dL_law_872 : decode cL_law 872 = .ok (.iaload, 1) := by decide +kernel
theorem dL_law_873 : decode cL_law 873 = .ok (.aload_n 0, 1) := by decide +kernel
theorem dL_law_874 : decode cL_law 874 = .ok (.iload_n 3, 1) := by decide +kernel
theorem dL_law_875 : decode cL_law 875 = .ok (.iconst 2, 1) := by decide +kernel
theorem dL_law_876 : decode cL_law 876 = .ok (.iadd, 1) := by decide +kernel
theorem dL_law_877 : decode cL_law 877 = .ok (.iaload, 1) := by decide +kernel
theorem dL_law_878 : decode cL_law 878 = .ok (.aload_n 0, 1) := by decide +kernel
theorem dL_law_879 : decode cL_law 879 = .ok (.iload_n 3, 1) := by decide +kernel
theorem dL_law_880 : decode cL_law 880 = .ok (.iconst 3, 1) := by decide +kernel
theorem dL_law_881 : decode cL_law 881 = .ok (.iadd, 1) := by decide +kernel
theorem dL_law_882 : decode cL_law 882 = .ok (.iaload, 1) := by decide +kernel
theorem dL_law_883 : decode cL_law 883 = .ok (.invokevirtual 96, 3) := by decide +kernel
theorem dL_law_886 : decode cL_law 886 = .ok (.aload_n 2, 1) := by decide +kernel
theorem dL_law_887 : decode cL_law 887 = .ok (.aload_n 0, 1) := by decide +kernel
theorem dL_law_888 : decode cL_law 888 = .ok (.iload_n 3, 1) := by decide +kernel
theorem dL_law_889 : decode cL_law 889 = .ok (.iconst 1, 1) := by decide +kernel
theorem dL_law_890 : decode cL_law 890 = .ok (.iadd, 1) := by decide +kernel
theorem dL_law_891 : decode cL_law 891 = .ok (.iaload, 1) := by decide +kernel
theorem dL_law_892 : decode cL_law 892 = .ok (.aload_n 0, 1) := by decide +kernel
theorem dL_law_893 : decode cL_law 893 = .ok (.iload_n 3, 1) := by decide +kernel
theorem dL_law_894 : decode cL_law 894 = .ok (.iconst 2, 1) := by decide +kernel
theorem dL_law_895 : decode cL_law 895 = .ok (.iadd, 1) := by decide +kernel
theorem dL_law_896 : decode cL_law 896 = .ok (.iaload, 1) := by decide +kernel
theorem dL_law_897 : decode cL_law 897 = .ok (.aload_n 0, 1) := by decide +kernel
theorem dL_law_898 : decode cL_law 898 = .ok (.iload_n 3, 1) := by decide +kernel
theorem dL_law_899 : decode cL_law 899 = .ok (.iconst 3, 1) := by decide +kernel
theorem dL_law_900 : decode cL_law 900 = .ok (.iadd, 1) := by decide +kernel
theorem dL_law_901 : decode cL_law 901 = .ok (.iaload, 1) := by decide +kernel
theorem dL_law_902 : decode cL_law 902 = .ok (.invokevirtual 99, 3) := by decide +kernel
theorem dL_law_905 : decode cL_law 905 = .ok (.if_icmp .eq 304, 3) := by decide +kernel
theorem dL_law_908 : decode cL_law 908 = .ok (.iconst 0, 1) := by decide +kernel
theorem dL_law_909 : decode cL_law 909 = .ok (.ireturn, 1) := by decide +kernel
theorem dL_law_910 : decode cL_law 910 = .ok (.aload_n 1, 1) := by decide +kernel
theorem dL_law_911 : decode cL_law 911 = .ok (.aload_n 0, 1) := by decide +kernel
theorem dL_law_912 : decode cL_law 912 = .ok (.iload_n 3, 1) := by decide +kernel
theorem dL_law_913 : decode cL_law 913 = .ok (.iconst 1, 1) := by decide +kernel
theorem dL_law_914 : decode cL_law 914 = .ok (.iadd, 1) := by decide +kernel
theorem dL_law_915 : decode cL_law 915 = .ok (.iaload, 1) := by decide +kernel
theorem dL_law_916 : decode cL_law 916 = .ok (.invokevirtual 100, 3) := by decide +kernel
theorem dL_law_919 : decode cL_law 919 = .ok (.aload_n 2, 1) := by decide +kernel
theorem dL_law_920 : decode cL_law 920 = .ok (.aload_n 0, 1) := by decide +kernel
theorem dL_law_921 : decode cL_law 921 = .ok (.iload_n 3, 1) := by decide +kernel
theorem dL_law_922 : decode cL_law 922 = .ok (.iconst 1, 1) := by decide +kernel
theorem dL_law_923 : decode cL_law 923 = .ok (.iadd, 1) := by decide +kernel
theorem dL_law_924 : decode cL_law 924 = .ok (.iaload, 1) := by decide +kernel
theorem dL_law_925 : decode cL_law 925 = .ok (.invokevirtual 103, 3) := by decide +kernel
theorem dL_law_928 : decode cL_law 928 = .ok (.if_icmp .eq 281, 3) := by decide +kernel
theorem dL_law_931 : decode cL_law 931 = .ok (.iconst 0, 1) := by decide +kernel
theorem dL_law_932 : decode cL_law 932 = .ok (.ireturn, 1) := by decide +kernel
theorem dL_law_933 : decode cL_law 933 = .ok (.aload_n 1, 1) := by decide +kernel
theorem dL_law_934 : decode cL_law 934 = .ok (.aload_n 0, 1) := by decide +kernel
theorem dL_law_935 : decode cL_law 935 = .ok (.iload_n 3, 1) := by decide +kernel
theorem dL_law_936 : decode cL_law 936 = .ok (.iconst 1, 1) := by decide +kernel
theorem dL_law_937 : decode cL_law 937 = .ok (.iadd, 1) := by decide +kernel
theorem dL_law_938 : decode cL_law 938 = .ok (.iaload, 1) := by decide +kernel
theorem dL_law_939 : decode cL_law 939 = .ok (.invokevirtual 104, 3) := by decide +kernel
theorem dL_law_942 : decode cL_law 942 = .ok (.aload_n 2, 1) := by decide +kernel
theorem dL_law_943 : decode cL_law 943 = .ok (.aload_n 0, 1) := by decide +kernel
theorem dL_law_944 : decode cL_law 944 = .ok (.iload_n 3, 1) := by decide +kernel
theorem dL_law_945 : decode cL_law 945 = .ok (.iconst 1, 1) := by decide +kernel
theorem dL_law_946 : decode cL_law 946 = .ok (.iadd, 1) := by decide +kernel
theorem dL_law_947 : decode cL_law 947 = .ok (.iaload, 1) := by decide +kernel
theorem dL_law_948 : decode cL_law 948 = .ok (.invokevirtual 107, 3) := by decide +kernel
theorem dL_law_951 : decode cL_law 951 = .ok (.if_icmp .eq 258, 3) := by decide +kernel
theorem dL_law_954 : decode cL_law 954 = .ok (.iconst 0, 1) := by decide +kernel
theorem dL_law_955 : decode cL_law 955 = .ok (.ireturn, 1) := by decide +kernel
theorem dL_law_956 : decode cL_law 956 = .ok (.aload_n 1, 1) := by decide +kernel
theorem dL_law_957 : decode cL_law 957 = .ok (.aload_n 0, 1) := by decide +kernel
theorem dL_law_958 : decode cL_law 958 = .ok (.iload_n 3, 1) := by decide +kernel
theorem dL_law_959 : decode cL_law 959 = .ok (.iconst 1, 1) := by decide +kernel
theorem dL_law_960 : decode cL_law 960 = .ok (.iadd, 1) := by decide +kernel
theorem dL_law_961 : decode cL_law 961 = .ok (.iaload, 1) := by decide +kernel
theorem dL_law_962 : decode cL_law 962 = .ok (.invokevirtual 108, 3) := by decide +kernel
theorem dL_law_965 : decode cL_law 965 = .ok (.aload_n 2, 1) := by decide +kernel
theorem dL_law_966 : decode cL_law 966 = .ok (.aload_n 0, 1) := by decide +kernel
theorem dL_law_967 : decode cL_law 967 = .ok (.iload_n 3, 1) := by decide +kernel
theorem dL_law_968 : decode cL_law 968 = .ok (.iconst 1, 1) := by decide +kernel
theorem dL_law_969 : decode cL_law 969 = .ok (.iadd, 1) := by decide +kernel
theorem dL_law_970 : decode cL_law 970 = .ok (.iaload, 1) := by decide +kernel
theorem dL_law_971 : decode cL_law 971 = .ok (.invokevirtual 111, 3) := by decide +kernel
theorem dL_law_974 : decode cL_law 974 = .ok (.if_icmp .eq 235, 3) := by decide +kernel
theorem dL_law_977 : decode cL_law 977 = .ok (.iconst 0, 1) := by decide +kernel
theorem dL_law_978 : decode cL_law 978 = .ok (.ireturn, 1) := by decide +kernel
theorem dL_law_979 : decode cL_law 979 = .ok (.aload_n 1, 1) := by decide +kernel
theorem dL_law_980 : decode cL_law 980 = .ok (.invokevirtual 112, 3) := by decide +kernel
theorem dL_law_983 : decode cL_law 983 = .ok (.aload_n 2, 1) := by decide +kernel
theorem dL_law_984 : decode cL_law 984 = .ok (.invokevirtual 115, 3) := by decide +kernel
theorem dL_law_987 : decode cL_law 987 = .ok (.if_icmp .eq 222, 3) := by decide +kernel
theorem dL_law_990 : decode cL_law 990 = .ok (.iconst 0, 1) := by decide +kernel
theorem dL_law_991 : decode cL_law 991 = .ok (.ireturn, 1) := by decide +kernel
theorem dL_law_992 : decode cL_law 992 = .ok (.aload_n 1, 1) := by decide +kernel
theorem dL_law_993 : decode cL_law 993 = .ok (.aload_n 0, 1) := by decide +kernel
theorem dL_law_994 : decode cL_law 994 = .ok (.iload_n 3, 1) := by decide +kernel
theorem dL_law_995 : decode cL_law 995 = .ok (.iconst 1, 1) := by decide +kernel
theorem dL_law_996 : decode cL_law 996 = .ok (.iadd, 1) := by decide +kernel
theorem dL_law_997 : decode cL_law 997 = .ok (.iaload, 1) := by decide +kernel
theorem dL_law_998 : decode cL_law 998 = .ok (.aload_n 0, 1) := by decide +kernel
theorem dL_law_999 : decode cL_law 999 = .ok (.iload_n 3, 1) := by decide +kernel
theorem dL_law_1000 : decode cL_law 1000 = .ok (.iconst 2, 1) := by decide +kernel
theorem dL_law_1001 : decode cL_law 1001 = .ok (.iadd, 1) := by decide +kernel
theorem dL_law_1002 : decode cL_law 1002 = .ok (.iaload, 1) := by decide +kernel
theorem dL_law_1003 : decode cL_law 1003 = .ok (.aload_n 0, 1) := by decide +kernel
theorem dL_law_1004 : decode cL_law 1004 = .ok (.iload_n 3, 1) := by decide +kernel
theorem dL_law_1005 : decode cL_law 1005 = .ok (.iconst 3, 1) := by decide +kernel
theorem dL_law_1006 : decode cL_law 1006 = .ok (.iadd, 1) := by decide +kernel
theorem dL_law_1007 : decode cL_law 1007 = .ok (.iaload, 1) := by decide +kernel
theorem dL_law_1008 : decode cL_law 1008 = .ok (.invokevirtual 116, 3) := by decide +kernel
theorem dL_law_1011 : decode cL_law 1011 = .ok (.aload_n 2, 1) := by decide +kernel
theorem dL_law_1012 : decode cL_law 1012 = .ok (.aload_n 0, 1) := by decide +kernel
theorem dL_law_1013 : decode cL_law 1013 = .ok (.iload_n 3, 1) := by decide +kernel
theorem dL_law_1014 : decode cL_law 1014 = .ok (.iconst 1, 1) := by decide +kernel
theorem dL_law_1015 : decode cL_law 1015 = .ok (.iadd, 1) := by decide +kernel
theorem dL_law_1016 : decode cL_law 1016 = .ok (.iaload, 1) := by decide +kernel
theorem dL_law_1017 : decode cL_law 1017 = .ok (.aload_n 0, 1) := by decide +kernel
theorem dL_law_1018 : decode cL_law 1018 = .ok (.iload_n 3, 1) := by decide +kernel
theorem dL_law_1019 : decode cL_law 1019 = .ok (.iconst 2, 1) := by decide +kernel
theorem dL_law_1020 : decode cL_law 1020 = .ok (.iadd, 1) := by decide +kernel
theorem dL_law_1021 : decode cL_law 1021 = .ok (.iaload, 1) := by decide +kernel
theorem dL_law_1022 : decode cL_law 1022 = .ok (.aload_n 0, 1) := by decide +kernel
theorem dL_law_1023 : decode cL_law 1023 = .ok (.iload_n 3, 1) := by decide +kernel
theorem dL_law_1024 : decode cL_law 1024 = .ok (.iconst 3, 1) := by decide +kernel
theorem dL_law_1025 : decode cL_law 1025 = .ok (.iadd, 1) := by decide +kernel
theorem dL_law_1026 : decode cL_law 1026 = .ok (.iaload, 1) := by decide +kernel
theorem dL_law_1027 : decode cL_law 1027 = .ok (.invokevirtual 119, 3) := by decide +kernel
theorem dL_law_1030 : decode cL_law 1030 = .ok (.if_icmp .eq 179, 3) := by decide +kernel
theorem dL_law_1033 : decode cL_law 1033 = .ok (.iconst 0, 1) := by decide +kernel
theorem dL_law_1034 : decode cL_law 1034 = .ok (.ireturn, 1) := by decide +kernel
theorem dL_law_1035 : decode cL_law 1035 = .ok (.aload_n 1, 1) := by decide +kernel
theorem dL_law_1036 : decode cL_law 1036 = .ok (.aload_n 0, 1) := by decide +kernel
theorem dL_law_1037 : decode cL_law 1037 = .ok (.iload_n 3, 1) := by decide +kernel
theorem dL_law_1038 : decode cL_law 1038 = .ok (.iconst 1, 1) := by decide +kernel
theorem dL_law_1039 : decode cL_law 1039 = .ok (.iadd, 1) := by decide +kernel
theorem dL_law_1040 : decode cL_law 1040 = .ok (.iaload, 1) := by decide +kernel
theorem dL_law_1041 : decode cL_law 1041 = .ok (.aload_n 0, 1) := by decide +kernel
theorem dL_law_1042 : decode cL_law 1042 = .ok (.iload_n 3, 1) := by decide +kernel
theorem dL_law_1043 : decode cL_law 1043 = .ok (.iconst 2, 1) := by decide +kernel
theorem dL_law_1044 : decode cL_law 1044 = .ok (.iadd, 1) := by decide +kernel
theorem dL_law_1045 : decode cL_law 1045 = .ok (.iaload, 1) := by decide +kernel
theorem dL_law_1046 : decode cL_law 1046 = .ok (.invokevirtual 120, 3) := by decide +kernel
theorem dL_law_1049 : decode cL_law 1049 = .ok (.aload_n 2, 1) := by decide +kernel
theorem dL_law_1050 : decode cL_law 1050 = .ok (.aload_n 0, 1) := by decide +kernel
theorem dL_law_1051 : decode cL_law 1051 = .ok (.iload_n 3, 1) := by decide +kernel
theorem dL_law_1052 : decode cL_law 1052 = .ok (.iconst 1, 1) := by decide +kernel
theorem dL_law_1053 : decode cL_law 1053 = .ok (.iadd, 1) := by decide +kernel
theorem dL_law_1054 : decode cL_law 1054 = .ok (.iaload, 1) := by decide +kernel
theorem dL_law_1055 : decode cL_law 1055 = .ok (.aload_n 0, 1) := by decide +kernel
theorem dL_law_1056 : decode cL_law 1056 = .ok (.iload_n 3, 1) := by decide +kernel
theorem dL_law_1057 : decode cL_law 1057 = .ok (.iconst 2, 1) := by decide +kernel
theorem dL_law_1058 : decode cL_law 1058 = .ok (.iadd, 1) := by decide +kernel
theorem dL_law_1059 : decode cL_law 1059 = .ok (.iaload, 1) := by decide +kernel
theorem dL_law_1060 : decode cL_law 1060 = .ok (.invokevirtual 123, 3) := by decide +kernel
theorem dL_law_1063 : decode cL_law 1063 = .ok (.if_icmp .eq 146, 3) := by decide +kernel
theorem dL_law_1066 : decode cL_law 1066 = .ok (.iconst 0, 1) := by decide +kernel
theorem dL_law_1067 : decode cL_law 1067 = .ok (.ireturn, 1) := by decide +kernel
theorem dL_law_1068 : decode cL_law 1068 = .ok (.aload_n 1, 1) := by decide +kernel
theorem dL_law_1069 : decode cL_law 1069 = .ok (.invokevirtual 124, 3) := by decide +kernel
theorem dL_law_1072 : decode cL_law 1072 = .ok (.aload_n 2, 1) := by decide +kernel
theorem dL_law_1073 : decode cL_law 1073 = .ok (.invokevirtual 128, 3) := by decide +kernel
theorem dL_law_1076 : decode cL_law 1076 = .ok (.if_icmp .eq 133, 3) := by decide +kernel
theorem dL_law_1079 : decode cL_law 1079 = .ok (.iconst 0, 1) := by decide +kernel
theorem dL_law_1080 : decode cL_law 1080 = .ok (.ireturn, 1) := by decide +kernel
theorem dL_law_1081 : decode cL_law 1081 = .ok (.aload_n 1, 1) := by decide +kernel
theorem dL_law_1082 : decode cL_law 1082 = .ok (.aload_n 0, 1) := by decide +kernel
theorem dL_law_1083 : decode cL_law 1083 = .ok (.iload_n 3, 1) := by decide +kernel
theorem dL_law_1084 : decode cL_law 1084 = .ok (.iconst 1, 1) := by decide +kernel
theorem dL_law_1085 : decode cL_law 1085 = .ok (.iadd, 1) := by decide +kernel
theorem dL_law_1086 : decode cL_law 1086 = .ok (.iaload, 1) := by decide +kernel
theorem dL_law_1087 : decode cL_law 1087 = .ok (.invokevirtual 129, 3) := by decide +kernel
theorem dL_law_1090 : decode cL_law 1090 = .ok (.aload_n 2, 1) := by decide +kernel
theorem dL_law_1091 : decode cL_law 1091 = .ok (.aload_n 0, 1) := by decide +kernel
theorem dL_law_1092 : decode cL_law 1092 = .ok (.iload_n 3, 1) := by decide +kernel
theorem dL_law_1093 : decode cL_law 1093 = .ok (.iconst 1, 1) := by decide +kernel
theorem dL_law_1094 : decode cL_law 1094 = .ok (.iadd, 1) := by decide +kernel
theorem dL_law_1095 : decode cL_law 1095 = .ok (.iaload, 1) := by decide +kernel
theorem dL_law_1096 : decode cL_law 1096 = .ok (.invokevirtual 132, 3) := by decide +kernel
theorem dL_law_1099 : decode cL_law 1099 = .ok (.if_icmp .eq 110, 3) := by decide +kernel
theorem dL_law_1102 : decode cL_law 1102 = .ok (.iconst 0, 1) := by decide +kernel
theorem dL_law_1103 : decode cL_law 1103 = .ok (.ireturn, 1) := by decide +kernel
theorem dL_law_1104 : decode cL_law 1104 = .ok (.aload_n 1, 1) := by decide +kernel
theorem dL_law_1105 : decode cL_law 1105 = .ok (.aload_n 0, 1) := by decide +kernel
theorem dL_law_1106 : decode cL_law 1106 = .ok (.iload_n 3, 1) := by decide +kernel
theorem dL_law_1107 : decode cL_law 1107 = .ok (.iconst 1, 1) := by decide +kernel
theorem dL_law_1108 : decode cL_law 1108 = .ok (.iadd, 1) := by decide +kernel
theorem dL_law_1109 : decode cL_law 1109 = .ok (.iaload, 1) := by decide +kernel
theorem dL_law_1110 : decode cL_law 1110 = .ok (.aload_n 0, 1) := by decide +kernel
theorem dL_law_1111 : decode cL_law 1111 = .ok (.iload_n 3, 1) := by decide +kernel
theorem dL_law_1112 : decode cL_law 1112 = .ok (.iconst 2, 1) := by decide +kernel
theorem dL_law_1113 : decode cL_law 1113 = .ok (.iadd, 1) := by decide +kernel
theorem dL_law_1114 : decode cL_law 1114 = .ok (.iaload, 1) := by decide +kernel
theorem dL_law_1115 : decode cL_law 1115 = .ok (.invokevirtual 133, 3) := by decide +kernel
theorem dL_law_1118 : decode cL_law 1118 = .ok (.aload_n 2, 1) := by decide +kernel
theorem dL_law_1119 : decode cL_law 1119 = .ok (.aload_n 0, 1) := by decide +kernel
theorem dL_law_1120 : decode cL_law 1120 = .ok (.iload_n 3, 1) := by decide +kernel
theorem dL_law_1121 : decode cL_law 1121 = .ok (.iconst 1, 1) := by decide +kernel
theorem dL_law_1122 : decode cL_law 1122 = .ok (.iadd, 1) := by decide +kernel
theorem dL_law_1123 : decode cL_law 1123 = .ok (.iaload, 1) := by decide +kernel
theorem dL_law_1124 : decode cL_law 1124 = .ok (.aload_n 0, 1) := by decide +kernel
theorem dL_law_1125 : decode cL_law 1125 = .ok (.iload_n 3, 1) := by decide +kernel
theorem dL_law_1126 : decode cL_law 1126 = .ok (.iconst 2, 1) := by decide +kernel
theorem dL_law_1127 : decode cL_law 1127 = .ok (.iadd, 1) := by decide +kernel
theorem dL_law_1128 : decode cL_law 1128 = .ok (.iaload, 1) := by decide +kernel
theorem dL_law_1129 : decode cL_law 1129 = .ok (.invokevirtual 136, 3) := by decide +kernel
theorem dL_law_1132 : decode cL_law 1132 = .ok (.if_icmp .eq 77, 3) := by decide +kernel
theorem dL_law_1135 : decode cL_law 1135 = .ok (.iconst 0, 1) := by decide +kernel
theorem dL_law_1136 : decode cL_law 1136 = .ok (.ireturn, 1) := by decide +kernel
theorem dL_law_1137 : decode cL_law 1137 = .ok (.aload_n 1, 1) := by decide +kernel
theorem dL_law_1138 : decode cL_law 1138 = .ok (.invokevirtual 137, 3) := by decide +kernel
theorem dL_law_1141 : decode cL_law 1141 = .ok (.aload_n 2, 1) := by decide +kernel
theorem dL_law_1142 : decode cL_law 1142 = .ok (.invokevirtual 140, 3) := by decide +kernel
theorem dL_law_1145 : decode cL_law 1145 = .ok (.if_icmp .eq 64, 3) := by decide +kernel
theorem dL_law_1148 : decode cL_law 1148 = .ok (.iconst 0, 1) := by decide +kernel
theorem dL_law_1149 : decode cL_law 1149 = .ok (.ireturn, 1) := by decide +kernel
theorem dL_law_1150 : decode cL_law 1150 = .ok (.aload_n 1, 1) := by decide +kernel
theorem dL_law_1151 : decode cL_law 1151 = .ok (.aload_n 0, 1) := by decide +kernel
theorem dL_law_1152 : decode cL_law 1152 = .ok (.iload_n 3, 1) := by decide +kernel
theorem dL_law_1153 : decode cL_law 1153 = .ok (.iconst 1, 1) := by decide +kernel
theorem dL_law_1154 : decode cL_law 1154 = .ok (.iadd, 1) := by decide +kernel
theorem dL_law_1155 : decode cL_law 1155 = .ok (.iaload, 1) := by decide +kernel
theorem dL_law_1156 : decode cL_law 1156 = .ok (.invokevirtual 141, 3) := by decide +kernel
theorem dL_law_1159 : decode cL_law 1159 = .ok (.aload_n 2, 1) := by decide +kernel
theorem dL_law_1160 : decode cL_law 1160 = .ok (.aload_n 0, 1) := by decide +kernel
theorem dL_law_1161 : decode cL_law 1161 = .ok (.iload_n 3, 1) := by decide +kernel
theorem dL_law_1162 : decode cL_law 1162 = .ok (.iconst 1, 1) := by decide +kernel
theorem dL_law_1163 : decode cL_law 1163 = .ok (.iadd, 1) := by decide +kernel
theorem dL_law_1164 : decode cL_law 1164 = .ok (.iaload, 1) := by decide +kernel
theorem dL_law_1165 : decode cL_law 1165 = .ok (.invokevirtual 144, 3) := by decide +kernel
theorem dL_law_1168 : decode cL_law 1168 = .ok (.if_icmp .eq 41, 3) := by decide +kernel
theorem dL_law_1171 : decode cL_law 1171 = .ok (.iconst 0, 1) := by decide +kernel
theorem dL_law_1172 : decode cL_law 1172 = .ok (.ireturn, 1) := by decide +kernel
theorem dL_law_1173 : decode cL_law 1173 = .ok (.aload_n 1, 1) := by decide +kernel
theorem dL_law_1174 : decode cL_law 1174 = .ok (.invokevirtual 145, 3) := by decide +kernel
theorem dL_law_1177 : decode cL_law 1177 = .ok (.aload_n 2, 1) := by decide +kernel
theorem dL_law_1178 : decode cL_law 1178 = .ok (.invokevirtual 148, 3) := by decide +kernel
theorem dL_law_1181 : decode cL_law 1181 = .ok (.if_icmp .eq 28, 3) := by decide +kernel
theorem dL_law_1184 : decode cL_law 1184 = .ok (.iconst 0, 1) := by decide +kernel
theorem dL_law_1185 : decode cL_law 1185 = .ok (.ireturn, 1) := by decide +kernel
theorem dL_law_1186 : decode cL_law 1186 = .ok (.aload_n 1, 1) := by decide +kernel
theorem dL_law_1187 : decode cL_law 1187 = .ok (.aload_n 0, 1) := by decide +kernel
theorem dL_law_1188 : decode cL_law 1188 = .ok (.iload_n 3, 1) := by decide +kernel
theorem dL_law_1189 : decode cL_law 1189 = .ok (.iconst 1, 1) := by decide +kernel
theorem dL_law_1190 : decode cL_law 1190 = .ok (.iadd, 1) := by decide +kernel
theorem dL_law_1191 : decode cL_law 1191 = .ok (.iaload, 1) := by decide +kernel
theorem dL_law_1192 : decode cL_law 1192 = .ok (.invokevirtual 149, 3) := by decide +kernel
theorem dL_law_1195 : decode cL_law 1195 = .ok (.aload_n 2, 1) := by decide +kernel
theorem dL_law_1196 : decode cL_law 1196 = .ok (.aload_n 0, 1) := by decide +kernel
theorem dL_law_1197 : decode cL_law 1197 = .ok (.iload_n 3, 1) := by decide +kernel
theorem dL_law_1198 : decode cL_law 1198 = .ok (.iconst 1, 1) := by decide +kernel
theorem dL_law_1199 : decode cL_law 1199 = .ok (.iadd, 1) := by decide +kernel
theorem dL_law_1200 : decode cL_law 1200 = .ok (.iaload, 1) := by decide +kernel
theorem dL_law_1201 : decode cL_law 1201 = .ok (.invokevirtual 152, 3) := by decide +kernel
theorem dL_law_1204 : decode cL_law 1204 = .ok (.if_icmp .eq 5, 3) := by decide +kernel
theorem dL_law_1207 : decode cL_law 1207 = .ok (.iconst 0, 1) := by decide +kernel
theorem dL_law_1208 : decode cL_law 1208 = .ok (.ireturn, 1) := by decide +kernel
theorem dL_law_1209 : decode cL_law 1209 = .ok (.iinc 3 6, 3) := by decide +kernel
theorem dL_law_1212 : decode cL_law 1212 = .ok (.goto (-1194), 3) := by decide +kernel
theorem dL_law_1215 : decode cL_law 1215 = .ok (.iconst 1, 1) := by decide +kernel
theorem dL_law_1216 : decode cL_law 1216 = .ok (.ireturn, 1) := by decide +kernel
def fL_law_1209 (sc : Nat × (Nat → Int32)) (r18 : Int32 → zS → Option (Int32 × zS)) (x3 : Int32) (σ : zS) : Option (Int32 × zS) := r18 (x3 + 6) σ
theorem kL_law_1209  (sc : Nat × (Nat → Int32)) (r18 : Int32 → zS → Option (Int32 × zS)) (hr18 : ∀ (x3 : Int32) (σ : zS) (w : Int32 × zS), r18 x3 σ = some w → zR (zY0 sc) 2048 0 0 mL_law 18 [(0, .ref 1100), (1, .ref 1), (2, .ref 56), (3, .int x3)] [] (zE σ) (some (.int w.1), zE w.2)) (x3 : Int32) (σ : zS) (w : Int32 × zS) (h : fL_law_1209 sc r18 x3 σ = some w) : zR (zY0 sc) 2048 0 0 mL_law 1209 [(0, .ref 1100), (1, .ref 1), (2, .ref 56), (3, .int x3)] [] (zE σ) (some (.int w.1), zE w.2) := by
  unfold fL_law_1209 at h
  refine zR.iinc 3 (v := x3 + 6) (ls' := [(3, .int (x3 + 6)), (0, .ref 1100), (1, .ref 1), (2, .ref 56)]) dL_law_1209 rfl rfl (by decide) rfl ?_
  refine zR.goto (tgt := 18) dL_law_1212 (by decide) ?_
  refine zR.sub [1, 2, 3, 0] rfl ?_
  exact hr18 _ _ _ h
def fL_law_18 (sc : Nat × (Nat → Int32)) : Nat → Int32 → zS → Option (Int32 × zS)
  | 0, _, _ => none
  | f + 1, x3, σ => if ((Int32.ofNat sc.1) - 6) < x3 then some (1, σ) else aX sc x3 fun v1 => if (v1 &&& 63) = 0 then aX sc (x3 + 1) fun v2 => aX sc (x3 + 2) fun v3 => aX sc (x3 + 3) fun v4 => aX sc (x3 + 4) fun v5 => aX sc (x3 + 5) fun v6 => bnc (fX10_feed v2 v3 v4 v5 v6 σ) fun v9 σ7 => aX sc (x3 + 1) fun v10 => aX sc (x3 + 2) fun v11 => aX sc (x3 + 3) fun v12 => aX sc (x3 + 4) fun v13 => aX sc (x3 + 5) fun v14 => bnc (fX11_feed v10 v11 v12 v13 v14 σ7) fun v17 σ15 => if v9 = v17 then fL_law_1209 sc (fL_law_18 sc f) x3 σ15 else some (0, σ15) else if (v1 &&& 63) = 1 then aX sc (x3 + 1) fun v18 => bnc (fX10_end v18 σ) fun v21 σ19 => aX sc (x3 + 1) fun v22 => bnc (fX11_end v22 σ19) fun v25 σ23 => if v21 = v25 then fL_law_1209 sc (fL_law_18 sc f) x3 σ23 else some (0, σ23) else if (v1 &&& 63) = 2 then bnc (fX10_road σ) fun v28 σ26 => bnc (fX11_road σ26) fun v31 σ29 => if v28 = v31 then fL_law_1209 sc (fL_law_18 sc f) x3 σ29 else some (0, σ29) else if (v1 &&& 63) = 3 then aX sc (x3 + 1) fun v32 => aX sc (x3 + 1) fun v33 => if (fX10_fault σ v32) = (fX11_fault σ v33) then fL_law_1209 sc (fL_law_18 sc f) x3 σ else some (0, σ) else if (v1 &&& 63) = 4 then aX sc (x3 + 1) fun v34 => bnr (fX10_has σ v34) fun v35 => aX sc (x3 + 1) fun v37 => bnr (fX11_has σ v37) fun v38 => if v35 = v38 then fL_law_1209 sc (fL_law_18 sc f) x3 σ else some (0, σ) else if (v1 &&& 63) = 5 then aX sc (x3 + 1) fun v40 => aX sc (x3 + 2) fun v41 => aX sc (x3 + 3) fun v42 => bnr (fX10_letter σ v40 v41 v42) fun v43 => aX sc (x3 + 1) fun v45 => aX sc (x3 + 2) fun v46 => aX sc (x3 + 3) fun v47 => bnr (fX11_letter σ v45 v46 v47) fun v48 => if v43 = v48 then fL_law_1209 sc (fL_law_18 sc f) x3 σ else some (0, σ) else if (v1 &&& 63) = 6 then aX sc (x3 + 1) fun v50 => aX sc (x3 + 2) fun v51 => bnr (fX10_tunnel σ v50 v51) fun v52 => aX sc (x3 + 1) fun v54 => aX sc (x3 + 2) fun v55 => bnr (fX11_tunnel σ v54 v55) fun v56 => if v52 = v56 then fL_law_1209 sc (fL_law_18 sc f) x3 σ else some (0, σ) else if (v1 &&& 63) = 7 then aX sc (x3 + 1) fun v58 => aX sc (x3 + 2) fun v59 => bnr (fX10_holder σ v58 v59) fun v60 => aX sc (x3 + 1) fun v62 => aX sc (x3 + 2) fun v63 => bnr (fX11_holder σ v62 v63) fun v64 => if v60 = v64 then fL_law_1209 sc (fL_law_18 sc f) x3 σ else some (0, σ) else if (v1 &&& 63) = 8 then aX sc (x3 + 1) fun v66 => bnr (fX10_score σ v66) fun v67 => aX sc (x3 + 1) fun v69 => bnr (fX11_score σ v69) fun v70 => if v67 = v70 then fL_law_1209 sc (fL_law_18 sc f) x3 σ else some (0, σ) else if (v1 &&& 63) = 9 then aX sc (x3 + 1) fun v72 => aX sc (x3 + 2) fun v73 => bnr (fX10_likely σ v72 v73) fun v74 => aX sc (x3 + 1) fun v76 => aX sc (x3 + 2) fun v77 => bnr (fX11_likely σ v76 v77) fun v78 => if v74 = v78 then fL_law_1209 sc (fL_law_18 sc f) x3 σ else some (0, σ) else if (v1 &&& 63) = 10 then aX sc (x3 + 1) fun v80 => aX sc (x3 + 2) fun v81 => aX sc (x3 + 3) fun v82 => bnr (fX10_holds σ v80 v81 v82) fun v83 => aX sc (x3 + 1) fun v85 => aX sc (x3 + 2) fun v86 => aX sc (x3 + 3) fun v87 => bnr (fX11_holds σ v85 v86 v87) fun v88 => if v83 = v88 then fL_law_1209 sc (fL_law_18 sc f) x3 σ else some (0, σ) else if (v1 &&& 63) = 11 then aX sc (x3 + 1) fun v90 => aX sc (x3 + 2) fun v91 => bnr (fX10_made σ v90 v91) fun v92 => aX sc (x3 + 1) fun v94 => aX sc (x3 + 2) fun v95 => bnr (fX11_made σ v94 v95) fun v96 => if v92 = v96 then fL_law_1209 sc (fL_law_18 sc f) x3 σ else some (0, σ) else if (v1 &&& 63) = 12 then aX sc (x3 + 1) fun v98 => aX sc (x3 + 2) fun v99 => aX sc (x3 + 3) fun v100 => bnc (fX10_worth v98 v99 v100 σ) fun v103 σ101 => aX sc (x3 + 1) fun v104 => aX sc (x3 + 2) fun v105 => aX sc (x3 + 3) fun v106 => bnc (fX11_worth v104 v105 v106 σ101) fun v109 σ107 => if v103 = v109 then fL_law_1209 sc (fL_law_18 sc f) x3 σ107 else some (0, σ107) else if (v1 &&& 63) = 13 then aX sc (x3 + 1) fun v110 => aX sc (x3 + 2) fun v111 => aX sc (x3 + 3) fun v112 => aX sc (x3 + 4) fun v113 => bnc (fX10_tired v110 v111 v112 v113 σ) fun v116 σ114 => aX sc (x3 + 1) fun v117 => aX sc (x3 + 2) fun v118 => aX sc (x3 + 3) fun v119 => aX sc (x3 + 4) fun v120 => bnc (fX11_tired v117 v118 v119 v120 σ114) fun v123 σ121 => if v116 = v123 then fL_law_1209 sc (fL_law_18 sc f) x3 σ121 else some (0, σ121) else if (v1 &&& 63) = 14 then aX sc (x3 + 1) fun v124 => aX sc (x3 + 2) fun v125 => aX sc (x3 + 3) fun v126 => bnc (fX10_alone v124 v125 v126 σ) fun v129 σ127 => aX sc (x3 + 1) fun v130 => aX sc (x3 + 2) fun v131 => aX sc (x3 + 3) fun v132 => bnc (fX11_alone v130 v131 v132 σ127) fun v135 σ133 => if v129 = v135 then fL_law_1209 sc (fL_law_18 sc f) x3 σ133 else some (0, σ133) else if (v1 &&& 63) = 15 then aX sc (x3 + 1) fun v136 => aX sc (x3 + 2) fun v137 => aX sc (x3 + 3) fun v138 => bnc (fX10_on v136 v137 v138 σ) fun v141 σ139 => aX sc (x3 + 1) fun v142 => aX sc (x3 + 2) fun v143 => aX sc (x3 + 3) fun v144 => bnc (fX11_on v142 v143 v144 σ139) fun v147 σ145 => if v141 = v147 then fL_law_1209 sc (fL_law_18 sc f) x3 σ145 else some (0, σ145) else if (v1 &&& 63) = 16 then aX sc (x3 + 1) fun v148 => aX sc (x3 + 2) fun v149 => bnc (fX10_rest v148 v149 σ) fun v152 σ150 => aX sc (x3 + 1) fun v153 => aX sc (x3 + 2) fun v154 => bnc (fX11_rest v153 v154 σ150) fun v157 σ155 => if v152 = v157 then fL_law_1209 sc (fL_law_18 sc f) x3 σ155 else some (0, σ155) else if (v1 &&& 63) = 17 then aX sc (x3 + 1) fun v158 => aX sc (x3 + 2) fun v159 => aX sc (x3 + 3) fun v160 => bnc (fX10_hidden v158 v159 v160 σ) fun v163 σ161 => aX sc (x3 + 1) fun v164 => aX sc (x3 + 2) fun v165 => aX sc (x3 + 3) fun v166 => bnc (fX11_hidden v164 v165 v166 σ161) fun v169 σ167 => if v163 = v169 then fL_law_1209 sc (fL_law_18 sc f) x3 σ167 else some (0, σ167) else if (v1 &&& 63) = 18 then aX sc (x3 + 1) fun v170 => aX sc (x3 + 2) fun v171 => aX sc (x3 + 3) fun v172 => bnr (fX10_pace σ v170 v171 v172) fun v173 => aX sc (x3 + 1) fun v175 => aX sc (x3 + 2) fun v176 => aX sc (x3 + 3) fun v177 => bnr (fX11_pace σ v175 v176 v177) fun v178 => if v173 = v178 then fL_law_1209 sc (fL_law_18 sc f) x3 σ else some (0, σ) else if (v1 &&& 63) = 19 then aX sc (x3 + 1) fun v180 => aX sc (x3 + 2) fun v181 => aX sc (x3 + 3) fun v182 => bnc (fX10_whom v180 v181 v182 σ) fun v185 σ183 => aX sc (x3 + 1) fun v186 => aX sc (x3 + 2) fun v187 => aX sc (x3 + 3) fun v188 => bnc (fX11_whom v186 v187 v188 σ183) fun v191 σ189 => if v185 = v191 then fL_law_1209 sc (fL_law_18 sc f) x3 σ189 else some (0, σ189) else if (v1 &&& 63) = 20 then aX sc (x3 + 1) fun v192 => bnc (fX10_faces v192 σ) fun v195 σ193 => aX sc (x3 + 1) fun v196 => bnc (fX11_faces v196 σ193) fun v199 σ197 => if v195 = v199 then fL_law_1209 sc (fL_law_18 sc f) x3 σ197 else some (0, σ197) else if (v1 &&& 63) = 21 then aX sc (x3 + 1) fun v200 => bnr (fX10_fit σ v200) fun v201 => aX sc (x3 + 1) fun v203 => bnr (fX11_fit σ v203) fun v204 => if v201 = v204 then fL_law_1209 sc (fL_law_18 sc f) x3 σ else some (0, σ) else if (v1 &&& 63) = 22 then aX sc (x3 + 1) fun v206 => bnc (fX10_drive v206 σ) fun v209 σ207 => aX sc (x3 + 1) fun v210 => bnc (fX11_drive v210 σ207) fun v213 σ211 => if v209 = v213 then fL_law_1209 sc (fL_law_18 sc f) x3 σ211 else some (0, σ211) else if (v1 &&& 63) = 23 then bnc (fX10_pause σ) fun v216 σ214 => bnc (fX11_pause σ214) fun v219 σ217 => if v216 = v219 then fL_law_1209 sc (fL_law_18 sc f) x3 σ217 else some (0, σ217) else if (v1 &&& 63) = 24 then aX sc (x3 + 1) fun v220 => aX sc (x3 + 2) fun v221 => aX sc (x3 + 3) fun v222 => bnc (fX10_believe v220 v221 v222 σ) fun v225 σ223 => aX sc (x3 + 1) fun v226 => aX sc (x3 + 2) fun v227 => aX sc (x3 + 3) fun v228 => bnc (fX11_believe v226 v227 v228 σ223) fun v231 σ229 => if v225 = v231 then fL_law_1209 sc (fL_law_18 sc f) x3 σ229 else some (0, σ229) else if (v1 &&& 63) = 25 then aX sc (x3 + 1) fun v232 => aX sc (x3 + 2) fun v233 => bnc (fX10_give v232 v233 σ) fun v236 σ234 => aX sc (x3 + 1) fun v237 => aX sc (x3 + 2) fun v238 => bnc (fX11_give v237 v238 σ234) fun v241 σ239 => if v236 = v241 then fL_law_1209 sc (fL_law_18 sc f) x3 σ239 else some (0, σ239) else if (v1 &&& 63) = 26 then bnc (fX10_undo σ) fun v244 σ242 => bnc (fX11_undo σ242) fun v247 σ245 => if v244 = v247 then fL_law_1209 sc (fL_law_18 sc f) x3 σ245 else some (0, σ245) else if (v1 &&& 63) = 27 then aX sc (x3 + 1) fun v248 => bnc (fX10_seed v248 σ) fun v251 σ249 => aX sc (x3 + 1) fun v252 => bnc (fX11_seed v252 σ249) fun v255 σ253 => if v251 = v255 then fL_law_1209 sc (fL_law_18 sc f) x3 σ253 else some (0, σ253) else if (v1 &&& 63) = 28 then aX sc (x3 + 1) fun v256 => aX sc (x3 + 2) fun v257 => bnr (fX10_kept σ v256 v257) fun v258 => aX sc (x3 + 1) fun v260 => aX sc (x3 + 2) fun v261 => bnr (fX11_kept σ v260 v261) fun v262 => if v258 = v262 then fL_law_1209 sc (fL_law_18 sc f) x3 σ else some (0, σ) else if (v1 &&& 63) = 29 then bnc (fX10_image σ) fun v266 σ264 => bnc (fX11_image σ264) fun v269 σ267 => if v266 = v269 then fL_law_1209 sc (fL_law_18 sc f) x3 σ267 else some (0, σ267) else if (v1 &&& 63) = 30 then aX sc (x3 + 1) fun v270 => bnr (fX10_octet σ v270) fun v271 => aX sc (x3 + 1) fun v273 => bnr (fX11_octet σ v273) fun v274 => if v271 = v274 then fL_law_1209 sc (fL_law_18 sc f) x3 σ else some (0, σ) else if (v1 &&& 63) = 31 then bnc (fX10_goOn σ) fun v278 σ276 => bnc (fX11_goOn σ276) fun v281 σ279 => if v278 = v281 then fL_law_1209 sc (fL_law_18 sc f) x3 σ279 else some (0, σ279) else if (v1 &&& 63) = 32 then aX sc (x3 + 1) fun v282 => bnr (fX10_status σ v282) fun v283 => aX sc (x3 + 1) fun v285 => bnr (fX11_status σ v285) fun v286 => if v283 = v286 then fL_law_1209 sc (fL_law_18 sc f) x3 σ else some (0, σ) else fL_law_1209 sc (fL_law_18 sc f) x3 σ
theorem kL_law_18  (sc : Nat × (Nat → Int32)) : ∀ (fuel : Nat) (x3 : Int32) (σ : zS) (w : Int32 × zS) (h : fL_law_18 sc fuel x3 σ = some w), zR (zY0 sc) 2048 0 0 mL_law 18 [(0, .ref 1100), (1, .ref 1), (2, .ref 56), (3, .int x3)] [] (zE σ) (some (.int w.1), zE w.2) := by
  intro fuel
  induction fuel with
  | zero => intro x3 σ w h; exact nomatch h
  | succ f ih =>
    intro x3 σ w h
    rw [fL_law_18] at h
    refine kR.iload_n dL_law_18 3 rfl ?_
    refine kR.aload_n dL_law_19 0 rfl ?_
    refine zR.scN (v := Int32.ofNat sc.1) dL_law_20 rfl ?_
    refine zR.bipush (v := 6) dL_law_21 (by decide) ?_
    refine zR.isub dL_law_23 ?_
    refine kR.icmp_gt (tgt := 1215) dL_law_24 (by decide) h (fun h => ?_) (fun h => ?_)
    · refine zR.iconst (v := 1) dL_law_1215 (by decide) ?_
      exact kR.iretW dL_law_1216 (nzZ rfl (Or.inr rfl)) h
    · refine kR.aload_n dL_law_27 0 rfl ?_
      refine kR.iload_n dL_law_28 3 rfl ?_
      refine kR.scI dL_law_29 h (fun v1 h => ?_)
      refine zR.bipush (v := 63) dL_law_30 (by decide) ?_
      refine zR.iand dL_law_32 ?_
      by_cases e0 : (v1 &&& 63) = 0
      · rw [if_pos e0] at h
        refine zR.tableIn (off := 147) (tgt := 180) dL_law_33 (by rw [e0]; decide) (by rw [e0]; decide) (by rw [e0]; rfl) (by decide) ?_
        refine kR.aload_n dL_law_180 1 rfl ?_
        refine kR.aload_n dL_law_181 0 rfl ?_
        refine kR.iload_n dL_law_182 3 rfl ?_
        refine zR.iconst (v := 1) dL_law_183 (by decide) ?_
        refine zR.iadd dL_law_184 ?_
        refine kR.scI dL_law_185 h (fun v2 h => ?_)
        refine kR.aload_n dL_law_186 0 rfl ?_
        refine kR.iload_n dL_law_187 3 rfl ?_
        refine zR.iconst (v := 2) dL_law_188 (by decide) ?_
        refine zR.iadd dL_law_189 ?_
        refine kR.scI dL_law_190 h (fun v3 h => ?_)
        refine kR.aload_n dL_law_191 0 rfl ?_
        refine kR.iload_n dL_law_192 3 rfl ?_
        refine zR.iconst (v := 3) dL_law_193 (by decide) ?_
        refine zR.iadd dL_law_194 ?_
        refine kR.scI dL_law_195 h (fun v4 h => ?_)
        refine kR.aload_n dL_law_196 0 rfl ?_
        refine kR.iload_n dL_law_197 3 rfl ?_
        refine zR.iconst (v := 4) dL_law_198 (by decide) ?_
        refine zR.iadd dL_law_199 ?_
        refine kR.scI dL_law_200 h (fun v5 h => ?_)
        refine kR.aload_n dL_law_201 0 rfl ?_
        refine kR.iload_n dL_law_202 3 rfl ?_
        refine zR.iconst (v := 5) dL_law_203 (by decide) ?_
        refine zR.iadd dL_law_204 ?_
        refine kR.scI dL_law_205 h (fun v6 h => ?_)
        obtain ⟨v9, σ7, e8, h⟩ := bnc_some h
        refine kR.cVi [.int v2, .int v3, .int v4, .int v5, .int v6] dL_law_206 rfl (by decide) mwL_13 zp1 (by decide) rfl rfl (Nat.le_of_ble_eq_true rfl) (lX10_feed v2 v3 v4 v5 v6 σ _ e8) ?_
        refine kR.aload_n dL_law_209 2 rfl ?_
        refine kR.aload_n dL_law_210 0 rfl ?_
        refine kR.iload_n dL_law_211 3 rfl ?_
        refine zR.iconst (v := 1) dL_law_212 (by decide) ?_
        refine zR.iadd dL_law_213 ?_
        refine kR.scI dL_law_214 h (fun v10 h => ?_)
        refine kR.aload_n dL_law_215 0 rfl ?_
        refine kR.iload_n dL_law_216 3 rfl ?_
        refine zR.iconst (v := 2) dL_law_217 (by decide) ?_
        refine zR.iadd dL_law_218 ?_
        refine kR.scI dL_law_219 h (fun v11 h => ?_)
        refine kR.aload_n dL_law_220 0 rfl ?_
        refine kR.iload_n dL_law_221 3 rfl ?_
        refine zR.iconst (v := 3) dL_law_222 (by decide) ?_
        refine zR.iadd dL_law_223 ?_
        refine kR.scI dL_law_224 h (fun v12 h => ?_)
        refine kR.aload_n dL_law_225 0 rfl ?_
        refine kR.iload_n dL_law_226 3 rfl ?_
        refine zR.iconst (v := 4) dL_law_227 (by decide) ?_
        refine zR.iadd dL_law_228 ?_
        refine kR.scI dL_law_229 h (fun v13 h => ?_)
        refine kR.aload_n dL_law_230 0 rfl ?_
        refine kR.iload_n dL_law_231 3 rfl ?_
        refine zR.iconst (v := 5) dL_law_232 (by decide) ?_
        refine zR.iadd dL_law_233 ?_
        refine kR.scI dL_law_234 h (fun v14 h => ?_)
        obtain ⟨v17, σ15, e16, h⟩ := bnc_some h
        refine kR.cVi [.int v10, .int v11, .int v12, .int v13, .int v14] dL_law_235 rfl (by decide) mwL_17 zp56 (by decide) rfl rfl (Nat.le_of_ble_eq_true rfl) (lX11_feed v10 v11 v12 v13 v14 σ7 _ e16) ?_
        refine kR.icmp_eq (tgt := 1209) dL_law_238 (by decide) h (fun h => ?_) (fun h => ?_)
        · exact kL_law_1209 sc (fL_law_18 sc f) ih _ _ _ h
        · refine zR.iconst (v := 0) dL_law_241 (by decide) ?_
          exact kR.iretW dL_law_242 (nzZ rfl (Or.inl rfl)) h
      rw [if_neg e0] at h
      by_cases e1 : (v1 &&& 63) = 1
      · rw [if_pos e1] at h
        refine zR.tableIn (off := 210) (tgt := 243) dL_law_33 (by rw [e1]; decide) (by rw [e1]; decide) (by rw [e1]; rfl) (by decide) ?_
        refine kR.aload_n dL_law_243 1 rfl ?_
        refine kR.aload_n dL_law_244 0 rfl ?_
        refine kR.iload_n dL_law_245 3 rfl ?_
        refine zR.iconst (v := 1) dL_law_246 (by decide) ?_
        refine zR.iadd dL_law_247 ?_
        refine kR.scI dL_law_248 h (fun v18 h => ?_)
        obtain ⟨v21, σ19, e20, h⟩ := bnc_some h
        refine kR.cVi [.int v18] dL_law_249 rfl (by decide) mwL_18 zp1 (by decide) rfl rfl (Nat.le_of_ble_eq_true rfl) (lX10_end v18 σ _ e20) ?_
        refine kR.aload_n dL_law_252 2 rfl ?_
        refine kR.aload_n dL_law_253 0 rfl ?_
        refine kR.iload_n dL_law_254 3 rfl ?_
        refine zR.iconst (v := 1) dL_law_255 (by decide) ?_
        refine zR.iadd dL_law_256 ?_
        refine kR.scI dL_law_257 h (fun v22 h => ?_)
        obtain ⟨v25, σ23, e24, h⟩ := bnc_some h
        refine kR.cVi [.int v22] dL_law_258 rfl (by decide) mwL_22 zp56 (by decide) rfl rfl (Nat.le_of_ble_eq_true rfl) (lX11_end v22 σ19 _ e24) ?_
        refine kR.icmp_eq (tgt := 1209) dL_law_261 (by decide) h (fun h => ?_) (fun h => ?_)
        · exact kL_law_1209 sc (fL_law_18 sc f) ih _ _ _ h
        · refine zR.iconst (v := 0) dL_law_264 (by decide) ?_
          exact kR.iretW dL_law_265 (nzZ rfl (Or.inl rfl)) h
      rw [if_neg e1] at h
      by_cases e2 : (v1 &&& 63) = 2
      · rw [if_pos e2] at h
        refine zR.tableIn (off := 233) (tgt := 266) dL_law_33 (by rw [e2]; decide) (by rw [e2]; decide) (by rw [e2]; rfl) (by decide) ?_
        refine kR.aload_n dL_law_266 1 rfl ?_
        obtain ⟨v28, σ26, e27, h⟩ := bnc_some h
        refine kR.cVi [] dL_law_267 rfl (by decide) mwL_23 zp1 (by decide) rfl rfl (Nat.le_of_ble_eq_true rfl) (lX10_road σ _ e27) ?_
        refine kR.aload_n dL_law_270 2 rfl ?_
        obtain ⟨v31, σ29, e30, h⟩ := bnc_some h
        refine kR.cVi [] dL_law_271 rfl (by decide) mwL_27 zp56 (by decide) rfl rfl (Nat.le_of_ble_eq_true rfl) (lX11_road σ26 _ e30) ?_
        refine kR.icmp_eq (tgt := 1209) dL_law_274 (by decide) h (fun h => ?_) (fun h => ?_)
        · exact kL_law_1209 sc (fL_law_18 sc f) ih _ _ _ h
        · refine zR.iconst (v := 0) dL_law_277 (by decide) ?_
          exact kR.iretW dL_law_278 (nzZ rfl (Or.inl rfl)) h
      rw [if_neg e2] at h
      by_cases e3 : (v1 &&& 63) = 3
      · rw [if_pos e3] at h
        refine zR.tableIn (off := 246) (tgt := 279) dL_law_33 (by rw [e3]; decide) (by rw [e3]; decide) (by rw [e3]; rfl) (by decide) ?_
        refine kR.aload_n dL_law_279 1 rfl ?_
        refine kR.aload_n dL_law_280 0 rfl ?_
        refine kR.iload_n dL_law_281 3 rfl ?_
        refine zR.iconst (v := 1) dL_law_282 (by decide) ?_
        refine zR.iadd dL_law_283 ?_
        refine kR.scI dL_law_284 h (fun v32 h => ?_)
        refine kR.cVi [.int v32] dL_law_285 rfl (by decide) mwL_28 zp1 (by decide) rfl rfl (Nat.le_of_ble_eq_true rfl) (lX10_fault σ v32) ?_
        refine kR.aload_n dL_law_288 2 rfl ?_
        refine kR.aload_n dL_law_289 0 rfl ?_
        refine kR.iload_n dL_law_290 3 rfl ?_
        refine zR.iconst (v := 1) dL_law_291 (by decide) ?_
        refine zR.iadd dL_law_292 ?_
        refine kR.scI dL_law_293 h (fun v33 h => ?_)
        refine kR.cVi [.int v33] dL_law_294 rfl (by decide) mwL_32 zp56 (by decide) rfl rfl (Nat.le_of_ble_eq_true rfl) (lX11_fault σ v33) ?_
        refine kR.icmp_eq (tgt := 1209) dL_law_297 (by decide) h (fun h => ?_) (fun h => ?_)
        · exact kL_law_1209 sc (fL_law_18 sc f) ih _ _ _ h
        · refine zR.iconst (v := 0) dL_law_300 (by decide) ?_
          exact kR.iretW dL_law_301 (nzZ rfl (Or.inl rfl)) h
      rw [if_neg e3] at h
      by_cases e4 : (v1 &&& 63) = 4
      · rw [if_pos e4] at h
        refine zR.tableIn (off := 269) (tgt := 302) dL_law_33 (by rw [e4]; decide) (by rw [e4]; decide) (by rw [e4]; rfl) (by decide) ?_
        refine kR.aload_n dL_law_302 1 rfl ?_
        refine kR.aload_n dL_law_303 0 rfl ?_
        refine kR.iload_n dL_law_304 3 rfl ?_
        refine zR.iconst (v := 1) dL_law_305 (by decide) ?_
        refine zR.iadd dL_law_306 ?_
        refine kR.scI dL_law_307 h (fun v34 h => ?_)
        obtain ⟨v35, e36, h⟩ := bnr_some h
        refine kR.cVi [.int v34] dL_law_308 rfl (by decide) mwL_33 zp1 (by decide) rfl rfl (Nat.le_of_ble_eq_true rfl) (lX10_has σ v34 _ e36) ?_
        refine kR.aload_n dL_law_311 2 rfl ?_
        refine kR.aload_n dL_law_312 0 rfl ?_
        refine kR.iload_n dL_law_313 3 rfl ?_
        refine zR.iconst (v := 1) dL_law_314 (by decide) ?_
        refine zR.iadd dL_law_315 ?_
        refine kR.scI dL_law_316 h (fun v37 h => ?_)
        obtain ⟨v38, e39, h⟩ := bnr_some h
        refine kR.cVi [.int v37] dL_law_317 rfl (by decide) mwL_36 zp56 (by decide) rfl rfl (Nat.le_of_ble_eq_true rfl) (lX11_has σ v37 _ e39) ?_
        refine kR.icmp_eq (tgt := 1209) dL_law_320 (by decide) h (fun h => ?_) (fun h => ?_)
        · exact kL_law_1209 sc (fL_law_18 sc f) ih _ _ _ h
        · refine zR.iconst (v := 0) dL_law_323 (by decide) ?_
          exact kR.iretW dL_law_324 (nzZ rfl (Or.inl rfl)) h
      rw [if_neg e4] at h
      by_cases e5 : (v1 &&& 63) = 5
      · rw [if_pos e5] at h
        refine zR.tableIn (off := 292) (tgt := 325) dL_law_33 (by rw [e5]; decide) (by rw [e5]; decide) (by rw [e5]; rfl) (by decide) ?_
        refine kR.aload_n dL_law_325 1 rfl ?_
        refine kR.aload_n dL_law_326 0 rfl ?_
        refine kR.iload_n dL_law_327 3 rfl ?_
        refine zR.iconst (v := 1) dL_law_328 (by decide) ?_
        refine zR.iadd dL_law_329 ?_
        refine kR.scI dL_law_330 h (fun v40 h => ?_)
        refine kR.aload_n dL_law_331 0 rfl ?_
        refine kR.iload_n dL_law_332 3 rfl ?_
        refine zR.iconst (v := 2) dL_law_333 (by decide) ?_
        refine zR.iadd dL_law_334 ?_
        refine kR.scI dL_law_335 h (fun v41 h => ?_)
        refine kR.aload_n dL_law_336 0 rfl ?_
        refine kR.iload_n dL_law_337 3 rfl ?_
        refine zR.iconst (v := 3) dL_law_338 (by decide) ?_
        refine zR.iadd dL_law_339 ?_
        refine kR.scI dL_law_340 h (fun v42 h => ?_)
        obtain ⟨v43, e44, h⟩ := bnr_some h
        refine kR.cVi [.int v40, .int v41, .int v42] dL_law_341 rfl (by decide) mwL_37 zp1 (by decide) rfl rfl (Nat.le_of_ble_eq_true rfl) (lX10_letter σ v40 v41 v42 _ e44) ?_
        refine kR.aload_n dL_law_344 2 rfl ?_
        refine kR.aload_n dL_law_345 0 rfl ?_
        refine kR.iload_n dL_law_346 3 rfl ?_
        refine zR.iconst (v := 1) dL_law_347 (by decide) ?_
        refine zR.iadd dL_law_348 ?_
        refine kR.scI dL_law_349 h (fun v45 h => ?_)
        refine kR.aload_n dL_law_350 0 rfl ?_
        refine kR.iload_n dL_law_351 3 rfl ?_
        refine zR.iconst (v := 2) dL_law_352 (by decide) ?_
        refine zR.iadd dL_law_353 ?_
        refine kR.scI dL_law_354 h (fun v46 h => ?_)
        refine kR.aload_n dL_law_355 0 rfl ?_
        refine kR.iload_n dL_law_356 3 rfl ?_
        refine zR.iconst (v := 3) dL_law_357 (by decide) ?_
        refine zR.iadd dL_law_358 ?_
        refine kR.scI dL_law_359 h (fun v47 h => ?_)
        obtain ⟨v48, e49, h⟩ := bnr_some h
        refine kR.cVi [.int v45, .int v46, .int v47] dL_law_360 rfl (by decide) mwL_41 zp56 (by decide) rfl rfl (Nat.le_of_ble_eq_true rfl) (lX11_letter σ v45 v46 v47 _ e49) ?_
        refine kR.icmp_eq (tgt := 1209) dL_law_363 (by decide) h (fun h => ?_) (fun h => ?_)
        · exact kL_law_1209 sc (fL_law_18 sc f) ih _ _ _ h
        · refine zR.iconst (v := 0) dL_law_366 (by decide) ?_
          exact kR.iretW dL_law_367 (nzZ rfl (Or.inl rfl)) h
      rw [if_neg e5] at h
      by_cases e6 : (v1 &&& 63) = 6
      · rw [if_pos e6] at h
        refine zR.tableIn (off := 335) (tgt := 368) dL_law_33 (by rw [e6]; decide) (by rw [e6]; decide) (by rw [e6]; rfl) (by decide) ?_
        refine kR.aload_n dL_law_368 1 rfl ?_
        refine kR.aload_n dL_law_369 0 rfl ?_
        refine kR.iload_n dL_law_370 3 rfl ?_
        refine zR.iconst (v := 1) dL_law_371 (by decide) ?_
        refine zR.iadd dL_law_372 ?_
        refine kR.scI dL_law_373 h (fun v50 h => ?_)
        refine kR.aload_n dL_law_374 0 rfl ?_
        refine kR.iload_n dL_law_375 3 rfl ?_
        refine zR.iconst (v := 2) dL_law_376 (by decide) ?_
        refine zR.iadd dL_law_377 ?_
        refine kR.scI dL_law_378 h (fun v51 h => ?_)
        obtain ⟨v52, e53, h⟩ := bnr_some h
        refine kR.cVi [.int v50, .int v51] dL_law_379 rfl (by decide) mwL_42 zp1 (by decide) rfl rfl (Nat.le_of_ble_eq_true rfl) (lX10_tunnel σ v50 v51 _ e53) ?_
        refine kR.aload_n dL_law_382 2 rfl ?_
        refine kR.aload_n dL_law_383 0 rfl ?_
        refine kR.iload_n dL_law_384 3 rfl ?_
        refine zR.iconst (v := 1) dL_law_385 (by decide) ?_
        refine zR.iadd dL_law_386 ?_
        refine kR.scI dL_law_387 h (fun v54 h => ?_)
        refine kR.aload_n dL_law_388 0 rfl ?_
        refine kR.iload_n dL_law_389 3 rfl ?_
        refine zR.iconst (v := 2) dL_law_390 (by decide) ?_
        refine zR.iadd dL_law_391 ?_
        refine kR.scI dL_law_392 h (fun v55 h => ?_)
        obtain ⟨v56, e57, h⟩ := bnr_some h
        refine kR.cVi [.int v54, .int v55] dL_law_393 rfl (by decide) mwL_46 zp56 (by decide) rfl rfl (Nat.le_of_ble_eq_true rfl) (lX11_tunnel σ v54 v55 _ e57) ?_
        refine kR.icmp_eq (tgt := 1209) dL_law_396 (by decide) h (fun h => ?_) (fun h => ?_)
        · exact kL_law_1209 sc (fL_law_18 sc f) ih _ _ _ h
        · refine zR.iconst (v := 0) dL_law_399 (by decide) ?_
          exact kR.iretW dL_law_400 (nzZ rfl (Or.inl rfl)) h
      rw [if_neg e6] at h
      by_cases e7 : (v1 &&& 63) = 7
      · rw [if_pos e7] at h
        refine zR.tableIn (off := 368) (tgt := 401) dL_law_33 (by rw [e7]; decide) (by rw [e7]; decide) (by rw [e7]; rfl) (by decide) ?_
        refine kR.aload_n dL_law_401 1 rfl ?_
        refine kR.aload_n dL_law_402 0 rfl ?_
        refine kR.iload_n dL_law_403 3 rfl ?_
        refine zR.iconst (v := 1) dL_law_404 (by decide) ?_
        refine zR.iadd dL_law_405 ?_
        refine kR.scI dL_law_406 h (fun v58 h => ?_)
        refine kR.aload_n dL_law_407 0 rfl ?_
        refine kR.iload_n dL_law_408 3 rfl ?_
        refine zR.iconst (v := 2) dL_law_409 (by decide) ?_
        refine zR.iadd dL_law_410 ?_
        refine kR.scI dL_law_411 h (fun v59 h => ?_)
        obtain ⟨v60, e61, h⟩ := bnr_some h
        refine kR.cVi [.int v58, .int v59] dL_law_412 rfl (by decide) mwL_47 zp1 (by decide) rfl rfl (Nat.le_of_ble_eq_true rfl) (lX10_holder σ v58 v59 _ e61) ?_
        refine kR.aload_n dL_law_415 2 rfl ?_
        refine kR.aload_n dL_law_416 0 rfl ?_
        refine kR.iload_n dL_law_417 3 rfl ?_
        refine zR.iconst (v := 1) dL_law_418 (by decide) ?_
        refine zR.iadd dL_law_419 ?_
        refine kR.scI dL_law_420 h (fun v62 h => ?_)
        refine kR.aload_n dL_law_421 0 rfl ?_
        refine kR.iload_n dL_law_422 3 rfl ?_
        refine zR.iconst (v := 2) dL_law_423 (by decide) ?_
        refine zR.iadd dL_law_424 ?_
        refine kR.scI dL_law_425 h (fun v63 h => ?_)
        obtain ⟨v64, e65, h⟩ := bnr_some h
        refine kR.cVi [.int v62, .int v63] dL_law_426 rfl (by decide) mwL_50 zp56 (by decide) rfl rfl (Nat.le_of_ble_eq_true rfl) (lX11_holder σ v62 v63 _ e65) ?_
        refine kR.icmp_eq (tgt := 1209) dL_law_429 (by decide) h (fun h => ?_) (fun h => ?_)
        · exact kL_law_1209 sc (fL_law_18 sc f) ih _ _ _ h
        · refine zR.iconst (v := 0) dL_law_432 (by decide) ?_
          exact kR.iretW dL_law_433 (nzZ rfl (Or.inl rfl)) h
      rw [if_neg e7] at h
      by_cases e8 : (v1 &&& 63) = 8
      · rw [if_pos e8] at h
        refine zR.tableIn (off := 401) (tgt := 434) dL_law_33 (by rw [e8]; decide) (by rw [e8]; decide) (by rw [e8]; rfl) (by decide) ?_
        refine kR.aload_n dL_law_434 1 rfl ?_
        refine kR.aload_n dL_law_435 0 rfl ?_
        refine kR.iload_n dL_law_436 3 rfl ?_
        refine zR.iconst (v := 1) dL_law_437 (by decide) ?_
        refine zR.iadd dL_law_438 ?_
        refine kR.scI dL_law_439 h (fun v66 h => ?_)
        obtain ⟨v67, e68, h⟩ := bnr_some h
        refine kR.cVi [.int v66] dL_law_440 rfl (by decide) mwL_51 zp1 (by decide) rfl rfl (Nat.le_of_ble_eq_true rfl) (lX10_score σ v66 _ e68) ?_
        refine kR.aload_n dL_law_443 2 rfl ?_
        refine kR.aload_n dL_law_444 0 rfl ?_
        refine kR.iload_n dL_law_445 3 rfl ?_
        refine zR.iconst (v := 1) dL_law_446 (by decide) ?_
        refine zR.iadd dL_law_447 ?_
        refine kR.scI dL_law_448 h (fun v69 h => ?_)
        obtain ⟨v70, e71, h⟩ := bnr_some h
        refine kR.cVi [.int v69] dL_law_449 rfl (by decide) mwL_54 zp56 (by decide) rfl rfl (Nat.le_of_ble_eq_true rfl) (lX11_score σ v69 _ e71) ?_
        refine kR.icmp_eq (tgt := 1209) dL_law_452 (by decide) h (fun h => ?_) (fun h => ?_)
        · exact kL_law_1209 sc (fL_law_18 sc f) ih _ _ _ h
        · refine zR.iconst (v := 0) dL_law_455 (by decide) ?_
          exact kR.iretW dL_law_456 (nzZ rfl (Or.inl rfl)) h
      rw [if_neg e8] at h
      by_cases e9 : (v1 &&& 63) = 9
      · rw [if_pos e9] at h
        refine zR.tableIn (off := 424) (tgt := 457) dL_law_33 (by rw [e9]; decide) (by rw [e9]; decide) (by rw [e9]; rfl) (by decide) ?_
        refine kR.aload_n dL_law_457 1 rfl ?_
        refine kR.aload_n dL_law_458 0 rfl ?_
        refine kR.iload_n dL_law_459 3 rfl ?_
        refine zR.iconst (v := 1) dL_law_460 (by decide) ?_
        refine zR.iadd dL_law_461 ?_
        refine kR.scI dL_law_462 h (fun v72 h => ?_)
        refine kR.aload_n dL_law_463 0 rfl ?_
        refine kR.iload_n dL_law_464 3 rfl ?_
        refine zR.iconst (v := 2) dL_law_465 (by decide) ?_
        refine zR.iadd dL_law_466 ?_
        refine kR.scI dL_law_467 h (fun v73 h => ?_)
        obtain ⟨v74, e75, h⟩ := bnr_some h
        refine kR.cVi [.int v72, .int v73] dL_law_468 rfl (by decide) mwL_55 zp1 (by decide) rfl rfl (Nat.le_of_ble_eq_true rfl) (lX10_likely σ v72 v73 _ e75) ?_
        refine kR.aload_n dL_law_471 2 rfl ?_
        refine kR.aload_n dL_law_472 0 rfl ?_
        refine kR.iload_n dL_law_473 3 rfl ?_
        refine zR.iconst (v := 1) dL_law_474 (by decide) ?_
        refine zR.iadd dL_law_475 ?_
        refine kR.scI dL_law_476 h (fun v76 h => ?_)
        refine kR.aload_n dL_law_477 0 rfl ?_
        refine kR.iload_n dL_law_478 3 rfl ?_
        refine zR.iconst (v := 2) dL_law_479 (by decide) ?_
        refine zR.iadd dL_law_480 ?_
        refine kR.scI dL_law_481 h (fun v77 h => ?_)
        obtain ⟨v78, e79, h⟩ := bnr_some h
        refine kR.cVi [.int v76, .int v77] dL_law_482 rfl (by decide) mwL_58 zp56 (by decide) rfl rfl (Nat.le_of_ble_eq_true rfl) (lX11_likely σ v76 v77 _ e79) ?_
        refine kR.icmp_eq (tgt := 1209) dL_law_485 (by decide) h (fun h => ?_) (fun h => ?_)
        · exact kL_law_1209 sc (fL_law_18 sc f) ih _ _ _ h
        · refine zR.iconst (v := 0) dL_law_488 (by decide) ?_
          exact kR.iretW dL_law_489 (nzZ rfl (Or.inl rfl)) h
      rw [if_neg e9] at h
      by_cases e10 : (v1 &&& 63) = 10
      · rw [if_pos e10] at h
        refine zR.tableIn (off := 457) (tgt := 490) dL_law_33 (by rw [e10]; decide) (by rw [e10]; decide) (by rw [e10]; rfl) (by decide) ?_
        refine kR.aload_n dL_law_490 1 rfl ?_
        refine kR.aload_n dL_law_491 0 rfl ?_
        refine kR.iload_n dL_law_492 3 rfl ?_
        refine zR.iconst (v := 1) dL_law_493 (by decide) ?_
        refine zR.iadd dL_law_494 ?_
        refine kR.scI dL_law_495 h (fun v80 h => ?_)
        refine kR.aload_n dL_law_496 0 rfl ?_
        refine kR.iload_n dL_law_497 3 rfl ?_
        refine zR.iconst (v := 2) dL_law_498 (by decide) ?_
        refine zR.iadd dL_law_499 ?_
        refine kR.scI dL_law_500 h (fun v81 h => ?_)
        refine kR.aload_n dL_law_501 0 rfl ?_
        refine kR.iload_n dL_law_502 3 rfl ?_
        refine zR.iconst (v := 3) dL_law_503 (by decide) ?_
        refine zR.iadd dL_law_504 ?_
        refine kR.scI dL_law_505 h (fun v82 h => ?_)
        obtain ⟨v83, e84, h⟩ := bnr_some h
        refine kR.cVi [.int v80, .int v81, .int v82] dL_law_506 rfl (by decide) mwL_59 zp1 (by decide) rfl rfl (Nat.le_of_ble_eq_true rfl) (lX10_holds σ v80 v81 v82 _ e84) ?_
        refine kR.aload_n dL_law_509 2 rfl ?_
        refine kR.aload_n dL_law_510 0 rfl ?_
        refine kR.iload_n dL_law_511 3 rfl ?_
        refine zR.iconst (v := 1) dL_law_512 (by decide) ?_
        refine zR.iadd dL_law_513 ?_
        refine kR.scI dL_law_514 h (fun v85 h => ?_)
        refine kR.aload_n dL_law_515 0 rfl ?_
        refine kR.iload_n dL_law_516 3 rfl ?_
        refine zR.iconst (v := 2) dL_law_517 (by decide) ?_
        refine zR.iadd dL_law_518 ?_
        refine kR.scI dL_law_519 h (fun v86 h => ?_)
        refine kR.aload_n dL_law_520 0 rfl ?_
        refine kR.iload_n dL_law_521 3 rfl ?_
        refine zR.iconst (v := 3) dL_law_522 (by decide) ?_
        refine zR.iadd dL_law_523 ?_
        refine kR.scI dL_law_524 h (fun v87 h => ?_)
        obtain ⟨v88, e89, h⟩ := bnr_some h
        refine kR.cVi [.int v85, .int v86, .int v87] dL_law_525 rfl (by decide) mwL_62 zp56 (by decide) rfl rfl (Nat.le_of_ble_eq_true rfl) (lX11_holds σ v85 v86 v87 _ e89) ?_
        refine kR.icmp_eq (tgt := 1209) dL_law_528 (by decide) h (fun h => ?_) (fun h => ?_)
        · exact kL_law_1209 sc (fL_law_18 sc f) ih _ _ _ h
        · refine zR.iconst (v := 0) dL_law_531 (by decide) ?_
          exact kR.iretW dL_law_532 (nzZ rfl (Or.inl rfl)) h
      rw [if_neg e10] at h
      by_cases e11 : (v1 &&& 63) = 11
      · rw [if_pos e11] at h
        refine zR.tableIn (off := 500) (tgt := 533) dL_law_33 (by rw [e11]; decide) (by rw [e11]; decide) (by rw [e11]; rfl) (by decide) ?_
        refine kR.aload_n dL_law_533 1 rfl ?_
        refine kR.aload_n dL_law_534 0 rfl ?_
        refine kR.iload_n dL_law_535 3 rfl ?_
        refine zR.iconst (v := 1) dL_law_536 (by decide) ?_
        refine zR.iadd dL_law_537 ?_
        refine kR.scI dL_law_538 h (fun v90 h => ?_)
        refine kR.aload_n dL_law_539 0 rfl ?_
        refine kR.iload_n dL_law_540 3 rfl ?_
        refine zR.iconst (v := 2) dL_law_541 (by decide) ?_
        refine zR.iadd dL_law_542 ?_
        refine kR.scI dL_law_543 h (fun v91 h => ?_)
        obtain ⟨v92, e93, h⟩ := bnr_some h
        refine kR.cVi [.int v90, .int v91] dL_law_544 rfl (by decide) mwL_63 zp1 (by decide) rfl rfl (Nat.le_of_ble_eq_true rfl) (lX10_made σ v90 v91 _ e93) ?_
        refine kR.aload_n dL_law_547 2 rfl ?_
        refine kR.aload_n dL_law_548 0 rfl ?_
        refine kR.iload_n dL_law_549 3 rfl ?_
        refine zR.iconst (v := 1) dL_law_550 (by decide) ?_
        refine zR.iadd dL_law_551 ?_
        refine kR.scI dL_law_552 h (fun v94 h => ?_)
        refine kR.aload_n dL_law_553 0 rfl ?_
        refine kR.iload_n dL_law_554 3 rfl ?_
        refine zR.iconst (v := 2) dL_law_555 (by decide) ?_
        refine zR.iadd dL_law_556 ?_
        refine kR.scI dL_law_557 h (fun v95 h => ?_)
        obtain ⟨v96, e97, h⟩ := bnr_some h
        refine kR.cVi [.int v94, .int v95] dL_law_558 rfl (by decide) mwL_66 zp56 (by decide) rfl rfl (Nat.le_of_ble_eq_true rfl) (lX11_made σ v94 v95 _ e97) ?_
        refine kR.icmp_eq (tgt := 1209) dL_law_561 (by decide) h (fun h => ?_) (fun h => ?_)
        · exact kL_law_1209 sc (fL_law_18 sc f) ih _ _ _ h
        · refine zR.iconst (v := 0) dL_law_564 (by decide) ?_
          exact kR.iretW dL_law_565 (nzZ rfl (Or.inl rfl)) h
      rw [if_neg e11] at h
      by_cases e12 : (v1 &&& 63) = 12
      · rw [if_pos e12] at h
        refine zR.tableIn (off := 533) (tgt := 566) dL_law_33 (by rw [e12]; decide) (by rw [e12]; decide) (by rw [e12]; rfl) (by decide) ?_
        refine kR.aload_n dL_law_566 1 rfl ?_
        refine kR.aload_n dL_law_567 0 rfl ?_
        refine kR.iload_n dL_law_568 3 rfl ?_
        refine zR.iconst (v := 1) dL_law_569 (by decide) ?_
        refine zR.iadd dL_law_570 ?_
        refine kR.scI dL_law_571 h (fun v98 h => ?_)
        refine kR.aload_n dL_law_572 0 rfl ?_
        refine kR.iload_n dL_law_573 3 rfl ?_
        refine zR.iconst (v := 2) dL_law_574 (by decide) ?_
        refine zR.iadd dL_law_575 ?_
        refine kR.scI dL_law_576 h (fun v99 h => ?_)
        refine kR.aload_n dL_law_577 0 rfl ?_
        refine kR.iload_n dL_law_578 3 rfl ?_
        refine zR.iconst (v := 3) dL_law_579 (by decide) ?_
        refine zR.iadd dL_law_580 ?_
        refine kR.scI dL_law_581 h (fun v100 h => ?_)
        obtain ⟨v103, σ101, e102, h⟩ := bnc_some h
        refine kR.cVi [.int v98, .int v99, .int v100] dL_law_582 rfl (by decide) mwL_67 zp1 (by decide) rfl rfl (Nat.le_of_ble_eq_true rfl) (lX10_worth v98 v99 v100 σ _ e102) ?_
        refine kR.aload_n dL_law_585 2 rfl ?_
        refine kR.aload_n dL_law_586 0 rfl ?_
        refine kR.iload_n dL_law_587 3 rfl ?_
        refine zR.iconst (v := 1) dL_law_588 (by decide) ?_
        refine zR.iadd dL_law_589 ?_
        refine kR.scI dL_law_590 h (fun v104 h => ?_)
        refine kR.aload_n dL_law_591 0 rfl ?_
        refine kR.iload_n dL_law_592 3 rfl ?_
        refine zR.iconst (v := 2) dL_law_593 (by decide) ?_
        refine zR.iadd dL_law_594 ?_
        refine kR.scI dL_law_595 h (fun v105 h => ?_)
        refine kR.aload_n dL_law_596 0 rfl ?_
        refine kR.iload_n dL_law_597 3 rfl ?_
        refine zR.iconst (v := 3) dL_law_598 (by decide) ?_
        refine zR.iadd dL_law_599 ?_
        refine kR.scI dL_law_600 h (fun v106 h => ?_)
        obtain ⟨v109, σ107, e108, h⟩ := bnc_some h
        refine kR.cVi [.int v104, .int v105, .int v106] dL_law_601 rfl (by decide) mwL_70 zp56 (by decide) rfl rfl (Nat.le_of_ble_eq_true rfl) (lX11_worth v104 v105 v106 σ101 _ e108) ?_
        refine kR.icmp_eq (tgt := 1209) dL_law_604 (by decide) h (fun h => ?_) (fun h => ?_)
        · exact kL_law_1209 sc (fL_law_18 sc f) ih _ _ _ h
        · refine zR.iconst (v := 0) dL_law_607 (by decide) ?_
          exact kR.iretW dL_law_608 (nzZ rfl (Or.inl rfl)) h
      rw [if_neg e12] at h
      by_cases e13 : (v1 &&& 63) = 13
      · rw [if_pos e13] at h
        refine zR.tableIn (off := 576) (tgt := 609) dL_law_33 (by rw [e13]; decide) (by rw [e13]; decide) (by rw [e13]; rfl) (by decide) ?_
        refine kR.aload_n dL_law_609 1 rfl ?_
        refine kR.aload_n dL_law_610 0 rfl ?_
        refine kR.iload_n dL_law_611 3 rfl ?_
        refine zR.iconst (v := 1) dL_law_612 (by decide) ?_
        refine zR.iadd dL_law_613 ?_
        refine kR.scI dL_law_614 h (fun v110 h => ?_)
        refine kR.aload_n dL_law_615 0 rfl ?_
        refine kR.iload_n dL_law_616 3 rfl ?_
        refine zR.iconst (v := 2) dL_law_617 (by decide) ?_
        refine zR.iadd dL_law_618 ?_
        refine kR.scI dL_law_619 h (fun v111 h => ?_)
        refine kR.aload_n dL_law_620 0 rfl ?_
        refine kR.iload_n dL_law_621 3 rfl ?_
        refine zR.iconst (v := 3) dL_law_622 (by decide) ?_
        refine zR.iadd dL_law_623 ?_
        refine kR.scI dL_law_624 h (fun v112 h => ?_)
        refine kR.aload_n dL_law_625 0 rfl ?_
        refine kR.iload_n dL_law_626 3 rfl ?_
        refine zR.iconst (v := 4) dL_law_627 (by decide) ?_
        refine zR.iadd dL_law_628 ?_
        refine kR.scI dL_law_629 h (fun v113 h => ?_)
        obtain ⟨v116, σ114, e115, h⟩ := bnc_some h
        refine kR.cVi [.int v110, .int v111, .int v112, .int v113] dL_law_630 rfl (by decide) mwL_71 zp1 (by decide) rfl rfl (Nat.le_of_ble_eq_true rfl) (lX10_tired v110 v111 v112 v113 σ _ e115) ?_
        refine kR.aload_n dL_law_633 2 rfl ?_
        refine kR.aload_n dL_law_634 0 rfl ?_
        refine kR.iload_n dL_law_635 3 rfl ?_
        refine zR.iconst (v := 1) dL_law_636 (by decide) ?_
        refine zR.iadd dL_law_637 ?_
        refine kR.scI dL_law_638 h (fun v117 h => ?_)
        refine kR.aload_n dL_law_639 0 rfl ?_
        refine kR.iload_n dL_law_640 3 rfl ?_
        refine zR.iconst (v := 2) dL_law_641 (by decide) ?_
        refine zR.iadd dL_law_642 ?_
        refine kR.scI dL_law_643 h (fun v118 h => ?_)
        refine kR.aload_n dL_law_644 0 rfl ?_
        refine kR.iload_n dL_law_645 3 rfl ?_
        refine zR.iconst (v := 3) dL_law_646 (by decide) ?_
        refine zR.iadd dL_law_647 ?_
        refine kR.scI dL_law_648 h (fun v119 h => ?_)
        refine kR.aload_n dL_law_649 0 rfl ?_
        refine kR.iload_n dL_law_650 3 rfl ?_
        refine zR.iconst (v := 4) dL_law_651 (by decide) ?_
        refine zR.iadd dL_law_652 ?_
        refine kR.scI dL_law_653 h (fun v120 h => ?_)
        obtain ⟨v123, σ121, e122, h⟩ := bnc_some h
        refine kR.cVi [.int v117, .int v118, .int v119, .int v120] dL_law_654 rfl (by decide) mwL_75 zp56 (by decide) rfl rfl (Nat.le_of_ble_eq_true rfl) (lX11_tired v117 v118 v119 v120 σ114 _ e122) ?_
        refine kR.icmp_eq (tgt := 1209) dL_law_657 (by decide) h (fun h => ?_) (fun h => ?_)
        · exact kL_law_1209 sc (fL_law_18 sc f) ih _ _ _ h
        · refine zR.iconst (v := 0) dL_law_660 (by decide) ?_
          exact kR.iretW dL_law_661 (nzZ rfl (Or.inl rfl)) h
      rw [if_neg e13] at h
      by_cases e14 : (v1 &&& 63) = 14
      · rw [if_pos e14] at h
        refine zR.tableIn (off := 629) (tgt := 662) dL_law_33 (by rw [e14]; decide) (by rw [e14]; decide) (by rw [e14]; rfl) (by decide) ?_
        refine kR.aload_n dL_law_662 1 rfl ?_
        refine kR.aload_n dL_law_663 0 rfl ?_
        refine kR.iload_n dL_law_664 3 rfl ?_
        refine zR.iconst (v := 1) dL_law_665 (by decide) ?_
        refine zR.iadd dL_law_666 ?_
        refine kR.scI dL_law_667 h (fun v124 h => ?_)
        refine kR.aload_n dL_law_668 0 rfl ?_
        refine kR.iload_n dL_law_669 3 rfl ?_
        refine zR.iconst (v := 2) dL_law_670 (by decide) ?_
        refine zR.iadd dL_law_671 ?_
        refine kR.scI dL_law_672 h (fun v125 h => ?_)
        refine kR.aload_n dL_law_673 0 rfl ?_
        refine kR.iload_n dL_law_674 3 rfl ?_
        refine zR.iconst (v := 3) dL_law_675 (by decide) ?_
        refine zR.iadd dL_law_676 ?_
        refine kR.scI dL_law_677 h (fun v126 h => ?_)
        obtain ⟨v129, σ127, e128, h⟩ := bnc_some h
        refine kR.cVi [.int v124, .int v125, .int v126] dL_law_678 rfl (by decide) mwL_76 zp1 (by decide) rfl rfl (Nat.le_of_ble_eq_true rfl) (lX10_alone v124 v125 v126 σ _ e128) ?_
        refine kR.aload_n dL_law_681 2 rfl ?_
        refine kR.aload_n dL_law_682 0 rfl ?_
        refine kR.iload_n dL_law_683 3 rfl ?_
        refine zR.iconst (v := 1) dL_law_684 (by decide) ?_
        refine zR.iadd dL_law_685 ?_
        refine kR.scI dL_law_686 h (fun v130 h => ?_)
        refine kR.aload_n dL_law_687 0 rfl ?_
        refine kR.iload_n dL_law_688 3 rfl ?_
        refine zR.iconst (v := 2) dL_law_689 (by decide) ?_
        refine zR.iadd dL_law_690 ?_
        refine kR.scI dL_law_691 h (fun v131 h => ?_)
        refine kR.aload_n dL_law_692 0 rfl ?_
        refine kR.iload_n dL_law_693 3 rfl ?_
        refine zR.iconst (v := 3) dL_law_694 (by decide) ?_
        refine zR.iadd dL_law_695 ?_
        refine kR.scI dL_law_696 h (fun v132 h => ?_)
        obtain ⟨v135, σ133, e134, h⟩ := bnc_some h
        refine kR.cVi [.int v130, .int v131, .int v132] dL_law_697 rfl (by decide) mwL_79 zp56 (by decide) rfl rfl (Nat.le_of_ble_eq_true rfl) (lX11_alone v130 v131 v132 σ127 _ e134) ?_
        refine kR.icmp_eq (tgt := 1209) dL_law_700 (by decide) h (fun h => ?_) (fun h => ?_)
        · exact kL_law_1209 sc (fL_law_18 sc f) ih _ _ _ h
        · refine zR.iconst (v := 0) dL_law_703 (by decide) ?_
          exact kR.iretW dL_law_704 (nzZ rfl (Or.inl rfl)) h
      rw [if_neg e14] at h
      by_cases e15 : (v1 &&& 63) = 15
      · rw [if_pos e15] at h
        refine zR.tableIn (off := 672) (tgt := 705) dL_law_33 (by rw [e15]; decide) (by rw [e15]; decide) (by rw [e15]; rfl) (by decide) ?_
        refine kR.aload_n dL_law_705 1 rfl ?_
        refine kR.aload_n dL_law_706 0 rfl ?_
        refine kR.iload_n dL_law_707 3 rfl ?_
        refine zR.iconst (v := 1) dL_law_708 (by decide) ?_
        refine zR.iadd dL_law_709 ?_
        refine kR.scI dL_law_710 h (fun v136 h => ?_)
        refine kR.aload_n dL_law_711 0 rfl ?_
        refine kR.iload_n dL_law_712 3 rfl ?_
        refine zR.iconst (v := 2) dL_law_713 (by decide) ?_
        refine zR.iadd dL_law_714 ?_
        refine kR.scI dL_law_715 h (fun v137 h => ?_)
        refine kR.aload_n dL_law_716 0 rfl ?_
        refine kR.iload_n dL_law_717 3 rfl ?_
        refine zR.iconst (v := 3) dL_law_718 (by decide) ?_
        refine zR.iadd dL_law_719 ?_
        refine kR.scI dL_law_720 h (fun v138 h => ?_)
        obtain ⟨v141, σ139, e140, h⟩ := bnc_some h
        refine kR.cVi [.int v136, .int v137, .int v138] dL_law_721 rfl (by decide) mwL_80 zp1 (by decide) rfl rfl (Nat.le_of_ble_eq_true rfl) (lX10_on v136 v137 v138 σ _ e140) ?_
        refine kR.aload_n dL_law_724 2 rfl ?_
        refine kR.aload_n dL_law_725 0 rfl ?_
        refine kR.iload_n dL_law_726 3 rfl ?_
        refine zR.iconst (v := 1) dL_law_727 (by decide) ?_
        refine zR.iadd dL_law_728 ?_
        refine kR.scI dL_law_729 h (fun v142 h => ?_)
        refine kR.aload_n dL_law_730 0 rfl ?_
        refine kR.iload_n dL_law_731 3 rfl ?_
        refine zR.iconst (v := 2) dL_law_732 (by decide) ?_
        refine zR.iadd dL_law_733 ?_
        refine kR.scI dL_law_734 h (fun v143 h => ?_)
        refine kR.aload_n dL_law_735 0 rfl ?_
        refine kR.iload_n dL_law_736 3 rfl ?_
        refine zR.iconst (v := 3) dL_law_737 (by decide) ?_
        refine zR.iadd dL_law_738 ?_
        refine kR.scI dL_law_739 h (fun v144 h => ?_)
        obtain ⟨v147, σ145, e146, h⟩ := bnc_some h
        refine kR.cVi [.int v142, .int v143, .int v144] dL_law_740 rfl (by decide) mwL_83 zp56 (by decide) rfl rfl (Nat.le_of_ble_eq_true rfl) (lX11_on v142 v143 v144 σ139 _ e146) ?_
        refine kR.icmp_eq (tgt := 1209) dL_law_743 (by decide) h (fun h => ?_) (fun h => ?_)
        · exact kL_law_1209 sc (fL_law_18 sc f) ih _ _ _ h
        · refine zR.iconst (v := 0) dL_law_746 (by decide) ?_
          exact kR.iretW dL_law_747 (nzZ rfl (Or.inl rfl)) h
      rw [if_neg e15] at h
      by_cases e16 : (v1 &&& 63) = 16
      · rw [if_pos e16] at h
        refine zR.tableIn (off := 715) (tgt := 748) dL_law_33 (by rw [e16]; decide) (by rw [e16]; decide) (by rw [e16]; rfl) (by decide) ?_
        refine kR.aload_n dL_law_748 1 rfl ?_
        refine kR.aload_n dL_law_749 0 rfl ?_
        refine kR.iload_n dL_law_750 3 rfl ?_
        refine zR.iconst (v := 1) dL_law_751 (by decide) ?_
        refine zR.iadd dL_law_752 ?_
        refine kR.scI dL_law_753 h (fun v148 h => ?_)
        refine kR.aload_n dL_law_754 0 rfl ?_
        refine kR.iload_n dL_law_755 3 rfl ?_
        refine zR.iconst (v := 2) dL_law_756 (by decide) ?_
        refine zR.iadd dL_law_757 ?_
        refine kR.scI dL_law_758 h (fun v149 h => ?_)
        obtain ⟨v152, σ150, e151, h⟩ := bnc_some h
        refine kR.cVi [.int v148, .int v149] dL_law_759 rfl (by decide) mwL_84 zp1 (by decide) rfl rfl (Nat.le_of_ble_eq_true rfl) (lX10_rest v148 v149 σ _ e151) ?_
        refine kR.aload_n dL_law_762 2 rfl ?_
        refine kR.aload_n dL_law_763 0 rfl ?_
        refine kR.iload_n dL_law_764 3 rfl ?_
        refine zR.iconst (v := 1) dL_law_765 (by decide) ?_
        refine zR.iadd dL_law_766 ?_
        refine kR.scI dL_law_767 h (fun v153 h => ?_)
        refine kR.aload_n dL_law_768 0 rfl ?_
        refine kR.iload_n dL_law_769 3 rfl ?_
        refine zR.iconst (v := 2) dL_law_770 (by decide) ?_
        refine zR.iadd dL_law_771 ?_
        refine kR.scI dL_law_772 h (fun v154 h => ?_)
        obtain ⟨v157, σ155, e156, h⟩ := bnc_some h
        refine kR.cVi [.int v153, .int v154] dL_law_773 rfl (by decide) mwL_87 zp56 (by decide) rfl rfl (Nat.le_of_ble_eq_true rfl) (lX11_rest v153 v154 σ150 _ e156) ?_
        refine kR.icmp_eq (tgt := 1209) dL_law_776 (by decide) h (fun h => ?_) (fun h => ?_)
        · exact kL_law_1209 sc (fL_law_18 sc f) ih _ _ _ h
        · refine zR.iconst (v := 0) dL_law_779 (by decide) ?_
          exact kR.iretW dL_law_780 (nzZ rfl (Or.inl rfl)) h
      rw [if_neg e16] at h
      by_cases e17 : (v1 &&& 63) = 17
      · rw [if_pos e17] at h
        refine zR.tableIn (off := 748) (tgt := 781) dL_law_33 (by rw [e17]; decide) (by rw [e17]; decide) (by rw [e17]; rfl) (by decide) ?_
        refine kR.aload_n dL_law_781 1 rfl ?_
        refine kR.aload_n dL_law_782 0 rfl ?_
        refine kR.iload_n dL_law_783 3 rfl ?_
        refine zR.iconst (v := 1) dL_law_784 (by decide) ?_
        refine zR.iadd dL_law_785 ?_
        refine kR.scI dL_law_786 h (fun v158 h => ?_)
        refine kR.aload_n dL_law_787 0 rfl ?_
        refine kR.iload_n dL_law_788 3 rfl ?_
        refine zR.iconst (v := 2) dL_law_789 (by decide) ?_
        refine zR.iadd dL_law_790 ?_
        refine kR.scI dL_law_791 h (fun v159 h => ?_)
        refine kR.aload_n dL_law_792 0 rfl ?_
        refine kR.iload_n dL_law_793 3 rfl ?_
        refine zR.iconst (v := 3) dL_law_794 (by decide) ?_
        refine zR.iadd dL_law_795 ?_
        refine kR.scI dL_law_796 h (fun v160 h => ?_)
        obtain ⟨v163, σ161, e162, h⟩ := bnc_some h
        refine kR.cVi [.int v158, .int v159, .int v160] dL_law_797 rfl (by decide) mwL_88 zp1 (by decide) rfl rfl (Nat.le_of_ble_eq_true rfl) (lX10_hidden v158 v159 v160 σ _ e162) ?_
        refine kR.aload_n dL_law_800 2 rfl ?_
        refine kR.aload_n dL_law_801 0 rfl ?_
        refine kR.iload_n dL_law_802 3 rfl ?_
        refine zR.iconst (v := 1) dL_law_803 (by decide) ?_
        refine zR.iadd dL_law_804 ?_
        refine kR.scI dL_law_805 h (fun v164 h => ?_)
        refine kR.aload_n dL_law_806 0 rfl ?_
        refine kR.iload_n dL_law_807 3 rfl ?_
        refine zR.iconst (v := 2) dL_law_808 (by decide) ?_
        refine zR.iadd dL_law_809 ?_
        refine kR.scI dL_law_810 h (fun v165 h => ?_)
        refine kR.aload_n dL_law_811 0 rfl ?_
        refine kR.iload_n dL_law_812 3 rfl ?_
        refine zR.iconst (v := 3) dL_law_813 (by decide) ?_
        refine zR.iadd dL_law_814 ?_
        refine kR.scI dL_law_815 h (fun v166 h => ?_)
        obtain ⟨v169, σ167, e168, h⟩ := bnc_some h
        refine kR.cVi [.int v164, .int v165, .int v166] dL_law_816 rfl (by decide) mwL_91 zp56 (by decide) rfl rfl (Nat.le_of_ble_eq_true rfl) (lX11_hidden v164 v165 v166 σ161 _ e168) ?_
        refine kR.icmp_eq (tgt := 1209) dL_law_819 (by decide) h (fun h => ?_) (fun h => ?_)
        · exact kL_law_1209 sc (fL_law_18 sc f) ih _ _ _ h
        · refine zR.iconst (v := 0) dL_law_822 (by decide) ?_
          exact kR.iretW dL_law_823 (nzZ rfl (Or.inl rfl)) h
      rw [if_neg e17] at h
      by_cases e18 : (v1 &&& 63) = 18
      · rw [if_pos e18] at h
        refine zR.tableIn (off := 791) (tgt := 824) dL_law_33 (by rw [e18]; decide) (by rw [e18]; decide) (by rw [e18]; rfl) (by decide) ?_
        refine kR.aload_n dL_law_824 1 rfl ?_
        refine kR.aload_n dL_law_825 0 rfl ?_
        refine kR.iload_n dL_law_826 3 rfl ?_
        refine zR.iconst (v := 1) dL_law_827 (by decide) ?_
        refine zR.iadd dL_law_828 ?_
        refine kR.scI dL_law_829 h (fun v170 h => ?_)
        refine kR.aload_n dL_law_830 0 rfl ?_
        refine kR.iload_n dL_law_831 3 rfl ?_
        refine zR.iconst (v := 2) dL_law_832 (by decide) ?_
        refine zR.iadd dL_law_833 ?_
        refine kR.scI dL_law_834 h (fun v171 h => ?_)
        refine kR.aload_n dL_law_835 0 rfl ?_
        refine kR.iload_n dL_law_836 3 rfl ?_
        refine zR.iconst (v := 3) dL_law_837 (by decide) ?_
        refine zR.iadd dL_law_838 ?_
        refine kR.scI dL_law_839 h (fun v172 h => ?_)
        obtain ⟨v173, e174, h⟩ := bnr_some h
        refine kR.cVi [.int v170, .int v171, .int v172] dL_law_840 rfl (by decide) mwL_92 zp1 (by decide) rfl rfl (Nat.le_of_ble_eq_true rfl) (lX10_pace σ v170 v171 v172 _ e174) ?_
        refine kR.aload_n dL_law_843 2 rfl ?_
        refine kR.aload_n dL_law_844 0 rfl ?_
        refine kR.iload_n dL_law_845 3 rfl ?_
        refine zR.iconst (v := 1) dL_law_846 (by decide) ?_
        refine zR.iadd dL_law_847 ?_
        refine kR.scI dL_law_848 h (fun v175 h => ?_)
        refine kR.aload_n dL_law_849 0 rfl ?_
        refine kR.iload_n dL_law_850 3 rfl ?_
        refine zR.iconst (v := 2) dL_law_851 (by decide) ?_
        refine zR.iadd dL_law_852 ?_
        refine kR.scI dL_law_853 h (fun v176 h => ?_)
        refine kR.aload_n dL_law_854 0 rfl ?_
        refine kR.iload_n dL_law_855 3 rfl ?_
        refine zR.iconst (v := 3) dL_law_856 (by decide) ?_
        refine zR.iadd dL_law_857 ?_
        refine kR.scI dL_law_858 h (fun v177 h => ?_)
        obtain ⟨v178, e179, h⟩ := bnr_some h
        refine kR.cVi [.int v175, .int v176, .int v177] dL_law_859 rfl (by decide) mwL_95 zp56 (by decide) rfl rfl (Nat.le_of_ble_eq_true rfl) (lX11_pace σ v175 v176 v177 _ e179) ?_
        refine kR.icmp_eq (tgt := 1209) dL_law_862 (by decide) h (fun h => ?_) (fun h => ?_)
        · exact kL_law_1209 sc (fL_law_18 sc f) ih _ _ _ h
        · refine zR.iconst (v := 0) dL_law_865 (by decide) ?_
          exact kR.iretW dL_law_866 (nzZ rfl (Or.inl rfl)) h
      rw [if_neg e18] at h
      by_cases e19 : (v1 &&& 63) = 19
      · rw [if_pos e19] at h
        refine zR.tableIn (off := 834) (tgt := 867) dL_law_33 (by rw [e19]; decide) (by rw [e19]; decide) (by rw [e19]; rfl) (by decide) ?_
        refine kR.aload_n dL_law_867 1 rfl ?_
        refine kR.aload_n dL_law_868 0 rfl ?_
        refine kR.iload_n dL_law_869 3 rfl ?_
        refine zR.iconst (v := 1) dL_law_870 (by decide) ?_
        refine zR.iadd dL_law_871 ?_
        refine kR.scI dL_law_872 h (fun v180 h => ?_)
        refine kR.aload_n dL_law_873 0 rfl ?_
        refine kR.iload_n dL_law_874 3 rfl ?_
        refine zR.iconst (v := 2) dL_law_875 (by decide) ?_
        refine zR.iadd dL_law_876 ?_
        refine kR.scI dL_law_877 h (fun v181 h => ?_)
        refine kR.aload_n dL_law_878 0 rfl ?_
        refine kR.iload_n dL_law_879 3 rfl ?_
        refine zR.iconst (v := 3) dL_law_880 (by decide) ?_
        refine zR.iadd dL_law_881 ?_
        refine kR.scI dL_law_882 h (fun v182 h => ?_)
        obtain ⟨v185, σ183, e184, h⟩ := bnc_some h
        refine kR.cVi [.int v180, .int v181, .int v182] dL_law_883 rfl (by decide) mwL_96 zp1 (by decide) rfl rfl (Nat.le_of_ble_eq_true rfl) (lX10_whom v180 v181 v182 σ _ e184) ?_
        refine kR.aload_n dL_law_886 2 rfl ?_
        refine kR.aload_n dL_law_887 0 rfl ?_
        refine kR.iload_n dL_law_888 3 rfl ?_
        refine zR.iconst (v := 1) dL_law_889 (by decide) ?_
        refine zR.iadd dL_law_890 ?_
        refine kR.scI dL_law_891 h (fun v186 h => ?_)
        refine kR.aload_n dL_law_892 0 rfl ?_
        refine kR.iload_n dL_law_893 3 rfl ?_
        refine zR.iconst (v := 2) dL_law_894 (by decide) ?_
        refine zR.iadd dL_law_895 ?_
        refine kR.scI dL_law_896 h (fun v187 h => ?_)
        refine kR.aload_n dL_law_897 0 rfl ?_
        refine kR.iload_n dL_law_898 3 rfl ?_
        refine zR.iconst (v := 3) dL_law_899 (by decide) ?_
        refine zR.iadd dL_law_900 ?_
        refine kR.scI dL_law_901 h (fun v188 h => ?_)
        obtain ⟨v191, σ189, e190, h⟩ := bnc_some h
        refine kR.cVi [.int v186, .int v187, .int v188] dL_law_902 rfl (by decide) mwL_99 zp56 (by decide) rfl rfl (Nat.le_of_ble_eq_true rfl) (lX11_whom v186 v187 v188 σ183 _ e190) ?_
        refine kR.icmp_eq (tgt := 1209) dL_law_905 (by decide) h (fun h => ?_) (fun h => ?_)
        · exact kL_law_1209 sc (fL_law_18 sc f) ih _ _ _ h
        · refine zR.iconst (v := 0) dL_law_908 (by decide) ?_
          exact kR.iretW dL_law_909 (nzZ rfl (Or.inl rfl)) h
      rw [if_neg e19] at h
      by_cases e20 : (v1 &&& 63) = 20
      · rw [if_pos e20] at h
        refine zR.tableIn (off := 877) (tgt := 910) dL_law_33 (by rw [e20]; decide) (by rw [e20]; decide) (by rw [e20]; rfl) (by decide) ?_
        refine kR.aload_n dL_law_910 1 rfl ?_
        refine kR.aload_n dL_law_911 0 rfl ?_
        refine kR.iload_n dL_law_912 3 rfl ?_
        refine zR.iconst (v := 1) dL_law_913 (by decide) ?_
        refine zR.iadd dL_law_914 ?_
        refine kR.scI dL_law_915 h (fun v192 h => ?_)
        obtain ⟨v195, σ193, e194, h⟩ := bnc_some h
        refine kR.cVi [.int v192] dL_law_916 rfl (by decide) mwL_100 zp1 (by decide) rfl rfl (Nat.le_of_ble_eq_true rfl) (lX10_faces v192 σ _ e194) ?_
        refine kR.aload_n dL_law_919 2 rfl ?_
        refine kR.aload_n dL_law_920 0 rfl ?_
        refine kR.iload_n dL_law_921 3 rfl ?_
        refine zR.iconst (v := 1) dL_law_922 (by decide) ?_
        refine zR.iadd dL_law_923 ?_
        refine kR.scI dL_law_924 h (fun v196 h => ?_)
        obtain ⟨v199, σ197, e198, h⟩ := bnc_some h
        refine kR.cVi [.int v196] dL_law_925 rfl (by decide) mwL_103 zp56 (by decide) rfl rfl (Nat.le_of_ble_eq_true rfl) (lX11_faces v196 σ193 _ e198) ?_
        refine kR.icmp_eq (tgt := 1209) dL_law_928 (by decide) h (fun h => ?_) (fun h => ?_)
        · exact kL_law_1209 sc (fL_law_18 sc f) ih _ _ _ h
        · refine zR.iconst (v := 0) dL_law_931 (by decide) ?_
          exact kR.iretW dL_law_932 (nzZ rfl (Or.inl rfl)) h
      rw [if_neg e20] at h
      by_cases e21 : (v1 &&& 63) = 21
      · rw [if_pos e21] at h
        refine zR.tableIn (off := 900) (tgt := 933) dL_law_33 (by rw [e21]; decide) (by rw [e21]; decide) (by rw [e21]; rfl) (by decide) ?_
        refine kR.aload_n dL_law_933 1 rfl ?_
        refine kR.aload_n dL_law_934 0 rfl ?_
        refine kR.iload_n dL_law_935 3 rfl ?_
        refine zR.iconst (v := 1) dL_law_936 (by decide) ?_
        refine zR.iadd dL_law_937 ?_
        refine kR.scI dL_law_938 h (fun v200 h => ?_)
        obtain ⟨v201, e202, h⟩ := bnr_some h
        refine kR.cVi [.int v200] dL_law_939 rfl (by decide) mwL_104 zp1 (by decide) rfl rfl (Nat.le_of_ble_eq_true rfl) (lX10_fit σ v200 _ e202) ?_
        refine kR.aload_n dL_law_942 2 rfl ?_
        refine kR.aload_n dL_law_943 0 rfl ?_
        refine kR.iload_n dL_law_944 3 rfl ?_
        refine zR.iconst (v := 1) dL_law_945 (by decide) ?_
        refine zR.iadd dL_law_946 ?_
        refine kR.scI dL_law_947 h (fun v203 h => ?_)
        obtain ⟨v204, e205, h⟩ := bnr_some h
        refine kR.cVi [.int v203] dL_law_948 rfl (by decide) mwL_107 zp56 (by decide) rfl rfl (Nat.le_of_ble_eq_true rfl) (lX11_fit σ v203 _ e205) ?_
        refine kR.icmp_eq (tgt := 1209) dL_law_951 (by decide) h (fun h => ?_) (fun h => ?_)
        · exact kL_law_1209 sc (fL_law_18 sc f) ih _ _ _ h
        · refine zR.iconst (v := 0) dL_law_954 (by decide) ?_
          exact kR.iretW dL_law_955 (nzZ rfl (Or.inl rfl)) h
      rw [if_neg e21] at h
      by_cases e22 : (v1 &&& 63) = 22
      · rw [if_pos e22] at h
        refine zR.tableIn (off := 923) (tgt := 956) dL_law_33 (by rw [e22]; decide) (by rw [e22]; decide) (by rw [e22]; rfl) (by decide) ?_
        refine kR.aload_n dL_law_956 1 rfl ?_
        refine kR.aload_n dL_law_957 0 rfl ?_
        refine kR.iload_n dL_law_958 3 rfl ?_
        refine zR.iconst (v := 1) dL_law_959 (by decide) ?_
        refine zR.iadd dL_law_960 ?_
        refine kR.scI dL_law_961 h (fun v206 h => ?_)
        obtain ⟨v209, σ207, e208, h⟩ := bnc_some h
        refine kR.cVi [.int v206] dL_law_962 rfl (by decide) mwL_108 zp1 (by decide) rfl rfl (Nat.le_of_ble_eq_true rfl) (lX10_drive v206 σ _ e208) ?_
        refine kR.aload_n dL_law_965 2 rfl ?_
        refine kR.aload_n dL_law_966 0 rfl ?_
        refine kR.iload_n dL_law_967 3 rfl ?_
        refine zR.iconst (v := 1) dL_law_968 (by decide) ?_
        refine zR.iadd dL_law_969 ?_
        refine kR.scI dL_law_970 h (fun v210 h => ?_)
        obtain ⟨v213, σ211, e212, h⟩ := bnc_some h
        refine kR.cVi [.int v210] dL_law_971 rfl (by decide) mwL_111 zp56 (by decide) rfl rfl (Nat.le_of_ble_eq_true rfl) (lX11_drive v210 σ207 _ e212) ?_
        refine kR.icmp_eq (tgt := 1209) dL_law_974 (by decide) h (fun h => ?_) (fun h => ?_)
        · exact kL_law_1209 sc (fL_law_18 sc f) ih _ _ _ h
        · refine zR.iconst (v := 0) dL_law_977 (by decide) ?_
          exact kR.iretW dL_law_978 (nzZ rfl (Or.inl rfl)) h
      rw [if_neg e22] at h
      by_cases e23 : (v1 &&& 63) = 23
      · rw [if_pos e23] at h
        refine zR.tableIn (off := 946) (tgt := 979) dL_law_33 (by rw [e23]; decide) (by rw [e23]; decide) (by rw [e23]; rfl) (by decide) ?_
        refine kR.aload_n dL_law_979 1 rfl ?_
        obtain ⟨v216, σ214, e215, h⟩ := bnc_some h
        refine kR.cVi [] dL_law_980 rfl (by decide) mwL_112 zp1 (by decide) rfl rfl (Nat.le_of_ble_eq_true rfl) (lX10_pause σ _ e215) ?_
        refine kR.aload_n dL_law_983 2 rfl ?_
        obtain ⟨v219, σ217, e218, h⟩ := bnc_some h
        refine kR.cVi [] dL_law_984 rfl (by decide) mwL_115 zp56 (by decide) rfl rfl (Nat.le_of_ble_eq_true rfl) (lX11_pause σ214 _ e218) ?_
        refine kR.icmp_eq (tgt := 1209) dL_law_987 (by decide) h (fun h => ?_) (fun h => ?_)
        · exact kL_law_1209 sc (fL_law_18 sc f) ih _ _ _ h
        · refine zR.iconst (v := 0) dL_law_990 (by decide) ?_
          exact kR.iretW dL_law_991 (nzZ rfl (Or.inl rfl)) h
      rw [if_neg e23] at h
      by_cases e24 : (v1 &&& 63) = 24
      · rw [if_pos e24] at h
        refine zR.tableIn (off := 959) (tgt := 992) dL_law_33 (by rw [e24]; decide) (by rw [e24]; decide) (by rw [e24]; rfl) (by decide) ?_
        refine kR.aload_n dL_law_992 1 rfl ?_
        refine kR.aload_n dL_law_993 0 rfl ?_
        refine kR.iload_n dL_law_994 3 rfl ?_
        refine zR.iconst (v := 1) dL_law_995 (by decide) ?_
        refine zR.iadd dL_law_996 ?_
        refine kR.scI dL_law_997 h (fun v220 h => ?_)
        refine kR.aload_n dL_law_998 0 rfl ?_
        refine kR.iload_n dL_law_999 3 rfl ?_
        refine zR.iconst (v := 2) dL_law_1000 (by decide) ?_
        refine zR.iadd dL_law_1001 ?_
        refine kR.scI dL_law_1002 h (fun v221 h => ?_)
        refine kR.aload_n dL_law_1003 0 rfl ?_
        refine kR.iload_n dL_law_1004 3 rfl ?_
        refine zR.iconst (v := 3) dL_law_1005 (by decide) ?_
        refine zR.iadd dL_law_1006 ?_
        refine kR.scI dL_law_1007 h (fun v222 h => ?_)
        obtain ⟨v225, σ223, e224, h⟩ := bnc_some h
        refine kR.cVi [.int v220, .int v221, .int v222] dL_law_1008 rfl (by decide) mwL_116 zp1 (by decide) rfl rfl (Nat.le_of_ble_eq_true rfl) (lX10_believe v220 v221 v222 σ _ e224) ?_
        refine kR.aload_n dL_law_1011 2 rfl ?_
        refine kR.aload_n dL_law_1012 0 rfl ?_
        refine kR.iload_n dL_law_1013 3 rfl ?_
        refine zR.iconst (v := 1) dL_law_1014 (by decide) ?_
        refine zR.iadd dL_law_1015 ?_
        refine kR.scI dL_law_1016 h (fun v226 h => ?_)
        refine kR.aload_n dL_law_1017 0 rfl ?_
        refine kR.iload_n dL_law_1018 3 rfl ?_
        refine zR.iconst (v := 2) dL_law_1019 (by decide) ?_
        refine zR.iadd dL_law_1020 ?_
        refine kR.scI dL_law_1021 h (fun v227 h => ?_)
        refine kR.aload_n dL_law_1022 0 rfl ?_
        refine kR.iload_n dL_law_1023 3 rfl ?_
        refine zR.iconst (v := 3) dL_law_1024 (by decide) ?_
        refine zR.iadd dL_law_1025 ?_
        refine kR.scI dL_law_1026 h (fun v228 h => ?_)
        obtain ⟨v231, σ229, e230, h⟩ := bnc_some h
        refine kR.cVi [.int v226, .int v227, .int v228] dL_law_1027 rfl (by decide) mwL_119 zp56 (by decide) rfl rfl (Nat.le_of_ble_eq_true rfl) (lX11_believe v226 v227 v228 σ223 _ e230) ?_
        refine kR.icmp_eq (tgt := 1209) dL_law_1030 (by decide) h (fun h => ?_) (fun h => ?_)
        · exact kL_law_1209 sc (fL_law_18 sc f) ih _ _ _ h
        · refine zR.iconst (v := 0) dL_law_1033 (by decide) ?_
          exact kR.iretW dL_law_1034 (nzZ rfl (Or.inl rfl)) h
      rw [if_neg e24] at h
      by_cases e25 : (v1 &&& 63) = 25
      · rw [if_pos e25] at h
        refine zR.tableIn (off := 1002) (tgt := 1035) dL_law_33 (by rw [e25]; decide) (by rw [e25]; decide) (by rw [e25]; rfl) (by decide) ?_
        refine kR.aload_n dL_law_1035 1 rfl ?_
        refine kR.aload_n dL_law_1036 0 rfl ?_
        refine kR.iload_n dL_law_1037 3 rfl ?_
        refine zR.iconst (v := 1) dL_law_1038 (by decide) ?_
        refine zR.iadd dL_law_1039 ?_
        refine kR.scI dL_law_1040 h (fun v232 h => ?_)
        refine kR.aload_n dL_law_1041 0 rfl ?_
        refine kR.iload_n dL_law_1042 3 rfl ?_
        refine zR.iconst (v := 2) dL_law_1043 (by decide) ?_
        refine zR.iadd dL_law_1044 ?_
        refine kR.scI dL_law_1045 h (fun v233 h => ?_)
        obtain ⟨v236, σ234, e235, h⟩ := bnc_some h
        refine kR.cVi [.int v232, .int v233] dL_law_1046 rfl (by decide) mwL_120 zp1 (by decide) rfl rfl (Nat.le_of_ble_eq_true rfl) (lX10_give v232 v233 σ _ e235) ?_
        refine kR.aload_n dL_law_1049 2 rfl ?_
        refine kR.aload_n dL_law_1050 0 rfl ?_
        refine kR.iload_n dL_law_1051 3 rfl ?_
        refine zR.iconst (v := 1) dL_law_1052 (by decide) ?_
        refine zR.iadd dL_law_1053 ?_
        refine kR.scI dL_law_1054 h (fun v237 h => ?_)
        refine kR.aload_n dL_law_1055 0 rfl ?_
        refine kR.iload_n dL_law_1056 3 rfl ?_
        refine zR.iconst (v := 2) dL_law_1057 (by decide) ?_
        refine zR.iadd dL_law_1058 ?_
        refine kR.scI dL_law_1059 h (fun v238 h => ?_)
        obtain ⟨v241, σ239, e240, h⟩ := bnc_some h
        refine kR.cVi [.int v237, .int v238] dL_law_1060 rfl (by decide) mwL_123 zp56 (by decide) rfl rfl (Nat.le_of_ble_eq_true rfl) (lX11_give v237 v238 σ234 _ e240) ?_
        refine kR.icmp_eq (tgt := 1209) dL_law_1063 (by decide) h (fun h => ?_) (fun h => ?_)
        · exact kL_law_1209 sc (fL_law_18 sc f) ih _ _ _ h
        · refine zR.iconst (v := 0) dL_law_1066 (by decide) ?_
          exact kR.iretW dL_law_1067 (nzZ rfl (Or.inl rfl)) h
      rw [if_neg e25] at h
      by_cases e26 : (v1 &&& 63) = 26
      · rw [if_pos e26] at h
        refine zR.tableIn (off := 1035) (tgt := 1068) dL_law_33 (by rw [e26]; decide) (by rw [e26]; decide) (by rw [e26]; rfl) (by decide) ?_
        refine kR.aload_n dL_law_1068 1 rfl ?_
        obtain ⟨v244, σ242, e243, h⟩ := bnc_some h
        refine kR.cVi [] dL_law_1069 rfl (by decide) mwL_124 zp1 (by decide) rfl rfl (Nat.le_of_ble_eq_true rfl) (lX10_undo σ _ e243) ?_
        refine kR.aload_n dL_law_1072 2 rfl ?_
        obtain ⟨v247, σ245, e246, h⟩ := bnc_some h
        refine kR.cVi [] dL_law_1073 rfl (by decide) mwL_128 zp56 (by decide) rfl rfl (Nat.le_of_ble_eq_true rfl) (lX11_undo σ242 _ e246) ?_
        refine kR.icmp_eq (tgt := 1209) dL_law_1076 (by decide) h (fun h => ?_) (fun h => ?_)
        · exact kL_law_1209 sc (fL_law_18 sc f) ih _ _ _ h
        · refine zR.iconst (v := 0) dL_law_1079 (by decide) ?_
          exact kR.iretW dL_law_1080 (nzZ rfl (Or.inl rfl)) h
      rw [if_neg e26] at h
      by_cases e27 : (v1 &&& 63) = 27
      · rw [if_pos e27] at h
        refine zR.tableIn (off := 1048) (tgt := 1081) dL_law_33 (by rw [e27]; decide) (by rw [e27]; decide) (by rw [e27]; rfl) (by decide) ?_
        refine kR.aload_n dL_law_1081 1 rfl ?_
        refine kR.aload_n dL_law_1082 0 rfl ?_
        refine kR.iload_n dL_law_1083 3 rfl ?_
        refine zR.iconst (v := 1) dL_law_1084 (by decide) ?_
        refine zR.iadd dL_law_1085 ?_
        refine kR.scI dL_law_1086 h (fun v248 h => ?_)
        obtain ⟨v251, σ249, e250, h⟩ := bnc_some h
        refine kR.cVi [.int v248] dL_law_1087 rfl (by decide) mwL_129 zp1 (by decide) rfl rfl (Nat.le_of_ble_eq_true rfl) (lX10_seed v248 σ _ e250) ?_
        refine kR.aload_n dL_law_1090 2 rfl ?_
        refine kR.aload_n dL_law_1091 0 rfl ?_
        refine kR.iload_n dL_law_1092 3 rfl ?_
        refine zR.iconst (v := 1) dL_law_1093 (by decide) ?_
        refine zR.iadd dL_law_1094 ?_
        refine kR.scI dL_law_1095 h (fun v252 h => ?_)
        obtain ⟨v255, σ253, e254, h⟩ := bnc_some h
        refine kR.cVi [.int v252] dL_law_1096 rfl (by decide) mwL_132 zp56 (by decide) rfl rfl (Nat.le_of_ble_eq_true rfl) (lX11_seed v252 σ249 _ e254) ?_
        refine kR.icmp_eq (tgt := 1209) dL_law_1099 (by decide) h (fun h => ?_) (fun h => ?_)
        · exact kL_law_1209 sc (fL_law_18 sc f) ih _ _ _ h
        · refine zR.iconst (v := 0) dL_law_1102 (by decide) ?_
          exact kR.iretW dL_law_1103 (nzZ rfl (Or.inl rfl)) h
      rw [if_neg e27] at h
      by_cases e28 : (v1 &&& 63) = 28
      · rw [if_pos e28] at h
        refine zR.tableIn (off := 1071) (tgt := 1104) dL_law_33 (by rw [e28]; decide) (by rw [e28]; decide) (by rw [e28]; rfl) (by decide) ?_
        refine kR.aload_n dL_law_1104 1 rfl ?_
        refine kR.aload_n dL_law_1105 0 rfl ?_
        refine kR.iload_n dL_law_1106 3 rfl ?_
        refine zR.iconst (v := 1) dL_law_1107 (by decide) ?_
        refine zR.iadd dL_law_1108 ?_
        refine kR.scI dL_law_1109 h (fun v256 h => ?_)
        refine kR.aload_n dL_law_1110 0 rfl ?_
        refine kR.iload_n dL_law_1111 3 rfl ?_
        refine zR.iconst (v := 2) dL_law_1112 (by decide) ?_
        refine zR.iadd dL_law_1113 ?_
        refine kR.scI dL_law_1114 h (fun v257 h => ?_)
        obtain ⟨v258, e259, h⟩ := bnr_some h
        refine kR.cVi [.int v256, .int v257] dL_law_1115 rfl (by decide) mwL_133 zp1 (by decide) rfl rfl (Nat.le_of_ble_eq_true rfl) (lX10_kept σ v256 v257 _ e259) ?_
        refine kR.aload_n dL_law_1118 2 rfl ?_
        refine kR.aload_n dL_law_1119 0 rfl ?_
        refine kR.iload_n dL_law_1120 3 rfl ?_
        refine zR.iconst (v := 1) dL_law_1121 (by decide) ?_
        refine zR.iadd dL_law_1122 ?_
        refine kR.scI dL_law_1123 h (fun v260 h => ?_)
        refine kR.aload_n dL_law_1124 0 rfl ?_
        refine kR.iload_n dL_law_1125 3 rfl ?_
        refine zR.iconst (v := 2) dL_law_1126 (by decide) ?_
        refine zR.iadd dL_law_1127 ?_
        refine kR.scI dL_law_1128 h (fun v261 h => ?_)
        obtain ⟨v262, e263, h⟩ := bnr_some h
        refine kR.cVi [.int v260, .int v261] dL_law_1129 rfl (by decide) mwL_136 zp56 (by decide) rfl rfl (Nat.le_of_ble_eq_true rfl) (lX11_kept σ v260 v261 _ e263) ?_
        refine kR.icmp_eq (tgt := 1209) dL_law_1132 (by decide) h (fun h => ?_) (fun h => ?_)
        · exact kL_law_1209 sc (fL_law_18 sc f) ih _ _ _ h
        · refine zR.iconst (v := 0) dL_law_1135 (by decide) ?_
          exact kR.iretW dL_law_1136 (nzZ rfl (Or.inl rfl)) h
      rw [if_neg e28] at h
      by_cases e29 : (v1 &&& 63) = 29
      · rw [if_pos e29] at h
        refine zR.tableIn (off := 1104) (tgt := 1137) dL_law_33 (by rw [e29]; decide) (by rw [e29]; decide) (by rw [e29]; rfl) (by decide) ?_
        refine kR.aload_n dL_law_1137 1 rfl ?_
        obtain ⟨v266, σ264, e265, h⟩ := bnc_some h
        refine kR.cVi [] dL_law_1138 rfl (by decide) mwL_137 zp1 (by decide) rfl rfl (Nat.le_of_ble_eq_true rfl) (lX10_image σ _ e265) ?_
        refine kR.aload_n dL_law_1141 2 rfl ?_
        obtain ⟨v269, σ267, e268, h⟩ := bnc_some h
        refine kR.cVi [] dL_law_1142 rfl (by decide) mwL_140 zp56 (by decide) rfl rfl (Nat.le_of_ble_eq_true rfl) (lX11_image σ264 _ e268) ?_
        refine kR.icmp_eq (tgt := 1209) dL_law_1145 (by decide) h (fun h => ?_) (fun h => ?_)
        · exact kL_law_1209 sc (fL_law_18 sc f) ih _ _ _ h
        · refine zR.iconst (v := 0) dL_law_1148 (by decide) ?_
          exact kR.iretW dL_law_1149 (nzZ rfl (Or.inl rfl)) h
      rw [if_neg e29] at h
      by_cases e30 : (v1 &&& 63) = 30
      · rw [if_pos e30] at h
        refine zR.tableIn (off := 1117) (tgt := 1150) dL_law_33 (by rw [e30]; decide) (by rw [e30]; decide) (by rw [e30]; rfl) (by decide) ?_
        refine kR.aload_n dL_law_1150 1 rfl ?_
        refine kR.aload_n dL_law_1151 0 rfl ?_
        refine kR.iload_n dL_law_1152 3 rfl ?_
        refine zR.iconst (v := 1) dL_law_1153 (by decide) ?_
        refine zR.iadd dL_law_1154 ?_
        refine kR.scI dL_law_1155 h (fun v270 h => ?_)
        obtain ⟨v271, e272, h⟩ := bnr_some h
        refine kR.cVi [.int v270] dL_law_1156 rfl (by decide) mwL_141 zp1 (by decide) rfl rfl (Nat.le_of_ble_eq_true rfl) (lX10_octet σ v270 _ e272) ?_
        refine kR.aload_n dL_law_1159 2 rfl ?_
        refine kR.aload_n dL_law_1160 0 rfl ?_
        refine kR.iload_n dL_law_1161 3 rfl ?_
        refine zR.iconst (v := 1) dL_law_1162 (by decide) ?_
        refine zR.iadd dL_law_1163 ?_
        refine kR.scI dL_law_1164 h (fun v273 h => ?_)
        obtain ⟨v274, e275, h⟩ := bnr_some h
        refine kR.cVi [.int v273] dL_law_1165 rfl (by decide) mwL_144 zp56 (by decide) rfl rfl (Nat.le_of_ble_eq_true rfl) (lX11_octet σ v273 _ e275) ?_
        refine kR.icmp_eq (tgt := 1209) dL_law_1168 (by decide) h (fun h => ?_) (fun h => ?_)
        · exact kL_law_1209 sc (fL_law_18 sc f) ih _ _ _ h
        · refine zR.iconst (v := 0) dL_law_1171 (by decide) ?_
          exact kR.iretW dL_law_1172 (nzZ rfl (Or.inl rfl)) h
      rw [if_neg e30] at h
      by_cases e31 : (v1 &&& 63) = 31
      · rw [if_pos e31] at h
        refine zR.tableIn (off := 1140) (tgt := 1173) dL_law_33 (by rw [e31]; decide) (by rw [e31]; decide) (by rw [e31]; rfl) (by decide) ?_
        refine kR.aload_n dL_law_1173 1 rfl ?_
        obtain ⟨v278, σ276, e277, h⟩ := bnc_some h
        refine kR.cVi [] dL_law_1174 rfl (by decide) mwL_145 zp1 (by decide) rfl rfl (Nat.le_of_ble_eq_true rfl) (lX10_goOn σ _ e277) ?_
        refine kR.aload_n dL_law_1177 2 rfl ?_
        obtain ⟨v281, σ279, e280, h⟩ := bnc_some h
        refine kR.cVi [] dL_law_1178 rfl (by decide) mwL_148 zp56 (by decide) rfl rfl (Nat.le_of_ble_eq_true rfl) (lX11_goOn σ276 _ e280) ?_
        refine kR.icmp_eq (tgt := 1209) dL_law_1181 (by decide) h (fun h => ?_) (fun h => ?_)
        · exact kL_law_1209 sc (fL_law_18 sc f) ih _ _ _ h
        · refine zR.iconst (v := 0) dL_law_1184 (by decide) ?_
          exact kR.iretW dL_law_1185 (nzZ rfl (Or.inl rfl)) h
      rw [if_neg e31] at h
      by_cases e32 : (v1 &&& 63) = 32
      · rw [if_pos e32] at h
        refine zR.tableIn (off := 1153) (tgt := 1186) dL_law_33 (by rw [e32]; decide) (by rw [e32]; decide) (by rw [e32]; rfl) (by decide) ?_
        refine kR.aload_n dL_law_1186 1 rfl ?_
        refine kR.aload_n dL_law_1187 0 rfl ?_
        refine kR.iload_n dL_law_1188 3 rfl ?_
        refine zR.iconst (v := 1) dL_law_1189 (by decide) ?_
        refine zR.iadd dL_law_1190 ?_
        refine kR.scI dL_law_1191 h (fun v282 h => ?_)
        obtain ⟨v283, e284, h⟩ := bnr_some h
        refine kR.cVi [.int v282] dL_law_1192 rfl (by decide) mwL_149 zp1 (by decide) rfl rfl (Nat.le_of_ble_eq_true rfl) (lX10_status σ v282 _ e284) ?_
        refine kR.aload_n dL_law_1195 2 rfl ?_
        refine kR.aload_n dL_law_1196 0 rfl ?_
        refine kR.iload_n dL_law_1197 3 rfl ?_
        refine zR.iconst (v := 1) dL_law_1198 (by decide) ?_
        refine zR.iadd dL_law_1199 ?_
        refine kR.scI dL_law_1200 h (fun v285 h => ?_)
        obtain ⟨v286, e287, h⟩ := bnr_some h
        refine kR.cVi [.int v285] dL_law_1201 rfl (by decide) mwL_152 zp56 (by decide) rfl rfl (Nat.le_of_ble_eq_true rfl) (lX11_status σ v285 _ e287) ?_
        refine kR.icmp_eq (tgt := 1209) dL_law_1204 (by decide) h (fun h => ?_) (fun h => ?_)
        · exact kL_law_1209 sc (fL_law_18 sc f) ih _ _ _ h
        · refine zR.iconst (v := 0) dL_law_1207 (by decide) ?_
          exact kR.iretW dL_law_1208 (nzZ rfl (Or.inl rfl)) h
      rw [if_neg e32] at h
      refine zR.tableD (tgt := 1209) dL_law_33 (ts_out 33 (by decide) (fun j hj e => match j, hj, e with | 0, _, e => absurd e (tne e0 rfl) | 1, _, e => absurd e (tne e1 rfl) | 2, _, e => absurd e (tne e2 rfl) | 3, _, e => absurd e (tne e3 rfl) | 4, _, e => absurd e (tne e4 rfl) | 5, _, e => absurd e (tne e5 rfl) | 6, _, e => absurd e (tne e6 rfl) | 7, _, e => absurd e (tne e7 rfl) | 8, _, e => absurd e (tne e8 rfl) | 9, _, e => absurd e (tne e9 rfl) | 10, _, e => absurd e (tne e10 rfl) | 11, _, e => absurd e (tne e11 rfl) | 12, _, e => absurd e (tne e12 rfl) | 13, _, e => absurd e (tne e13 rfl) | 14, _, e => absurd e (tne e14 rfl) | 15, _, e => absurd e (tne e15 rfl) | 16, _, e => absurd e (tne e16 rfl) | 17, _, e => absurd e (tne e17 rfl) | 18, _, e => absurd e (tne e18 rfl) | 19, _, e => absurd e (tne e19 rfl) | 20, _, e => absurd e (tne e20 rfl) | 21, _, e => absurd e (tne e21 rfl) | 22, _, e => absurd e (tne e22 rfl) | 23, _, e => absurd e (tne e23 rfl) | 24, _, e => absurd e (tne e24 rfl) | 25, _, e => absurd e (tne e25 rfl) | 26, _, e => absurd e (tne e26 rfl) | 27, _, e => absurd e (tne e27 rfl) | 28, _, e => absurd e (tne e28 rfl) | 29, _, e => absurd e (tne e29 rfl) | 30, _, e => absurd e (tne e30 rfl) | 31, _, e => absurd e (tne e31 rfl) | 32, _, e => absurd e (tne e32 rfl) | j + 33, hj, _ => absurd hj (by omega))) (by decide) ?_
      exact kL_law_1209 sc (fL_law_18 sc f) ih _ _ _ h
def fL_law (sc : Nat × (Nat → Int32)) (p3 : Int32) (σ : zS) : Option (Int32 × zS) := fL_law_18 sc zF p3 σ
theorem eL_law  (sc : Nat × (Nat → Int32)) (p3 : Int32) (σ : zS) (w : Int32 × zS) (h : fL_law sc p3 σ = some w) : zR (zY0 sc) 2048 0 0 mL_law 18 [(0, .ref 1100), (1, .ref 1), (2, .ref 56), (3, .int p3)] [] (zE σ) (some (.int w.1), zE w.2) := by
  unfold fL_law at h
  exact kL_law_18 sc zF _ _ _ h
