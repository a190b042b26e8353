/-! Block lemmas, by program (wip/whole/gen_blk.py). -/
theorem k243_36 : px_cod 243 36 = some ((.iconst 2), 1, [], 2) := rfl
theorem k243_37 : px_cod 243 37 = some ((.istore_n 3), 1, [], 3) := rfl
theorem k243_38 : px_cod 243 38 = some ((.iload_n 3), 1, [], 3) := rfl
theorem k243_39 : px_cod 243 39 = some ((.aload_n 0), 1, [], 0) := rfl
theorem k243_40 : px_cod 243 40 = some (.arraylength, 1, [], 0) := rfl
theorem k243_41 : px_cod 243 41 = some ((.bipush 8), 2, [], 8) := rfl
theorem k243_43 : px_cod 243 43 = some (.isub, 1, [], 0) := rfl
theorem k243_44 : px_cod 243 44 = some ((.if_icmp .gt 1135), 3, [1179], 0) := rfl
theorem k243_47 : px_cod 243 47 = some ((.aload_n 0), 1, [], 0) := rfl
theorem k243_48 : px_cod 243 48 = some ((.iload_n 3), 1, [], 3) := rfl
theorem k243_49 : px_cod 243 49 = some (.iaload, 1, [], 0) := rfl
theorem k243_50 : px_cod 243 50 = some ((.bipush 31), 2, [], 31) := rfl
theorem k243_52 : px_cod 243 52 = some (.iand, 1, [], 0) := rfl
theorem k243_53 : px_cod 243 53 = some ((.tableswitch 1120 0 28 #[131, 190, 213, 246, 279, 382, 441, 504, 527, 540, 563, 586, 609, 642, 685, 718, 751, 794, 817, 870, 903, 936, 959, 972, 1015, 1038, 1071, 1084, 1097]), 131, [1173, 184, 243, 266, 299, 332, 435, 494, 557, 580, 593, 616, 639, 662, 695, 738, 771, 804, 847, 870, 923, 956, 989, 1012, 1025, 1068, 1091, 1124, 1137, 1150], 0) := rfl
theorem k243_184 : px_cod 243 184 = some ((.aload_n 1), 1, [], 1) := rfl
theorem k243_185 : px_cod 243 185 = some ((.aload_n 0), 1, [], 0) := rfl
theorem k243_186 : px_cod 243 186 = some ((.iload_n 3), 1, [], 3) := rfl
theorem k243_187 : px_cod 243 187 = some ((.iconst 1), 1, [], 1) := rfl
theorem k243_188 : px_cod 243 188 = some (.iadd, 1, [], 0) := rfl
theorem k243_189 : px_cod 243 189 = some (.iaload, 1, [], 0) := rfl
theorem k243_190 : px_cod 243 190 = some ((.aload_n 0), 1, [], 0) := rfl
theorem k243_191 : px_cod 243 191 = some ((.iload_n 3), 1, [], 3) := rfl
theorem k243_192 : px_cod 243 192 = some ((.iconst 2), 1, [], 2) := rfl
theorem k243_193 : px_cod 243 193 = some (.iadd, 1, [], 0) := rfl
theorem k243_194 : px_cod 243 194 = some (.iaload, 1, [], 0) := rfl
theorem k243_195 : px_cod 243 195 = some ((.aload_n 0), 1, [], 0) := rfl
theorem k243_196 : px_cod 243 196 = some ((.iload_n 3), 1, [], 3) := rfl
theorem k243_197 : px_cod 243 197 = some ((.iconst 3), 1, [], 3) := rfl
theorem k243_198 : px_cod 243 198 = some (.iadd, 1, [], 0) := rfl
theorem k243_199 : px_cod 243 199 = some (.iaload, 1, [], 0) := rfl
theorem k243_200 : px_cod 243 200 = some ((.ifCond .eq 7), 3, [207], 0) := rfl
theorem k243_203 : px_cod 243 203 = some ((.iconst 1), 1, [], 1) := rfl
theorem k243_204 : px_cod 243 204 = some ((.goto 4), 3, [208], 0) := rfl
theorem k243_207 : px_cod 243 207 = some ((.iconst 0), 1, [], 0) := rfl
theorem k243_208 : px_cod 243 208 = some ((.invokevirtual 21), 3, [0, 14, 1], 0) := rfl
theorem k243_211 : px_cod 243 211 = some ((.aload_n 2), 1, [], 2) := rfl
theorem k243_212 : px_cod 243 212 = some ((.aload_n 0), 1, [], 0) := rfl
theorem k243_213 : px_cod 243 213 = some ((.iload_n 3), 1, [], 3) := rfl
theorem k243_214 : px_cod 243 214 = some ((.iconst 1), 1, [], 1) := rfl
theorem k243_215 : px_cod 243 215 = some (.iadd, 1, [], 0) := rfl
theorem k243_216 : px_cod 243 216 = some (.iaload, 1, [], 0) := rfl
theorem k243_217 : px_cod 243 217 = some ((.aload_n 0), 1, [], 0) := rfl
theorem k243_218 : px_cod 243 218 = some ((.iload_n 3), 1, [], 3) := rfl
theorem k243_219 : px_cod 243 219 = some ((.iconst 2), 1, [], 2) := rfl
theorem k243_220 : px_cod 243 220 = some (.iadd, 1, [], 0) := rfl
theorem k243_221 : px_cod 243 221 = some (.iaload, 1, [], 0) := rfl
theorem k243_222 : px_cod 243 222 = some ((.aload_n 0), 1, [], 0) := rfl
theorem k243_223 : px_cod 243 223 = some ((.iload_n 3), 1, [], 3) := rfl
theorem k243_224 : px_cod 243 224 = some ((.iconst 3), 1, [], 3) := rfl
theorem k243_225 : px_cod 243 225 = some (.iadd, 1, [], 0) := rfl
theorem k243_226 : px_cod 243 226 = some (.iaload, 1, [], 0) := rfl
theorem k243_227 : px_cod 243 227 = some ((.ifCond .eq 7), 3, [234], 0) := rfl
theorem k243_230 : px_cod 243 230 = some ((.iconst 1), 1, [], 1) := rfl
theorem k243_231 : px_cod 243 231 = some ((.goto 4), 3, [235], 0) := rfl
theorem k243_234 : px_cod 243 234 = some ((.iconst 0), 1, [], 0) := rfl
theorem k243_235 : px_cod 243 235 = some ((.invokevirtual 24), 3, [0, 207, 147], 0) := rfl
theorem k243_238 : px_cod 243 238 = some ((.if_icmp .eq 935), 3, [1173], 0) := rfl
theorem k243_241 : px_cod 243 241 = some ((.iconst 0), 1, [], 0) := rfl
theorem k243_242 : px_cod 243 242 = some (.ireturn, 1, [], 0) := rfl
theorem k243_243 : px_cod 243 243 = some ((.aload_n 1), 1, [], 1) := rfl
theorem k243_244 : px_cod 243 244 = some ((.aload_n 0), 1, [], 0) := rfl
theorem k243_245 : px_cod 243 245 = some ((.iload_n 3), 1, [], 3) := rfl
theorem k243_246 : px_cod 243 246 = some ((.iconst 1), 1, [], 1) := rfl
theorem k243_247 : px_cod 243 247 = some (.iadd, 1, [], 0) := rfl
theorem k243_248 : px_cod 243 248 = some (.iaload, 1, [], 0) := rfl
theorem k243_249 : px_cod 243 249 = some ((.invokevirtual 25), 3, [0, 19, 2], 0) := rfl
theorem k243_252 : px_cod 243 252 = some ((.aload_n 2), 1, [], 2) := rfl
theorem k243_253 : px_cod 243 253 = some ((.aload_n 0), 1, [], 0) := rfl
theorem k243_254 : px_cod 243 254 = some ((.iload_n 3), 1, [], 3) := rfl
theorem k243_255 : px_cod 243 255 = some ((.iconst 1), 1, [], 1) := rfl
theorem k243_256 : px_cod 243 256 = some (.iadd, 1, [], 0) := rfl
theorem k243_257 : px_cod 243 257 = some (.iaload, 1, [], 0) := rfl
theorem k243_258 : px_cod 243 258 = some ((.invokevirtual 29), 3, [0, 210, 148], 0) := rfl
theorem k243_261 : px_cod 243 261 = some ((.if_icmp .eq 912), 3, [1173], 0) := rfl
theorem k243_264 : px_cod 243 264 = some ((.iconst 0), 1, [], 0) := rfl
theorem k243_265 : px_cod 243 265 = some (.ireturn, 1, [], 0) := rfl
theorem k243_266 : px_cod 243 266 = some ((.aload_n 1), 1, [], 1) := rfl
theorem k243_267 : px_cod 243 267 = some ((.aload_n 0), 1, [], 0) := rfl
theorem k243_268 : px_cod 243 268 = some ((.iload_n 3), 1, [], 3) := rfl
theorem k243_269 : px_cod 243 269 = some ((.iconst 1), 1, [], 1) := rfl
theorem k243_270 : px_cod 243 270 = some (.iadd, 1, [], 0) := rfl
theorem k243_271 : px_cod 243 271 = some (.iaload, 1, [], 0) := rfl
theorem k243_272 : px_cod 243 272 = some ((.aload_n 0), 1, [], 0) := rfl
theorem k243_273 : px_cod 243 273 = some ((.iload_n 3), 1, [], 3) := rfl
theorem k243_274 : px_cod 243 274 = some ((.iconst 2), 1, [], 2) := rfl
theorem k243_275 : px_cod 243 275 = some (.iadd, 1, [], 0) := rfl
theorem k243_276 : px_cod 243 276 = some (.iaload, 1, [], 0) := rfl
theorem k243_277 : px_cod 243 277 = some ((.invokevirtual 30), 3, [0, 20, 3], 0) := rfl
theorem k243_280 : px_cod 243 280 = some ((.aload_n 2), 1, [], 2) := rfl
theorem k243_281 : px_cod 243 281 = some ((.aload_n 0), 1, [], 0) := rfl
theorem k243_282 : px_cod 243 282 = some ((.iload_n 3), 1, [], 3) := rfl
theorem k243_283 : px_cod 243 283 = some ((.iconst 1), 1, [], 1) := rfl
theorem k243_284 : px_cod 243 284 = some (.iadd, 1, [], 0) := rfl
theorem k243_285 : px_cod 243 285 = some (.iaload, 1, [], 0) := rfl
theorem k243_286 : px_cod 243 286 = some ((.aload_n 0), 1, [], 0) := rfl
theorem k243_287 : px_cod 243 287 = some ((.iload_n 3), 1, [], 3) := rfl
theorem k243_288 : px_cod 243 288 = some ((.iconst 2), 1, [], 2) := rfl
theorem k243_289 : px_cod 243 289 = some (.iadd, 1, [], 0) := rfl
theorem k243_290 : px_cod 243 290 = some (.iaload, 1, [], 0) := rfl
theorem k243_291 : px_cod 243 291 = some ((.invokevirtual 34), 3, [0, 211, 149], 0) := rfl
theorem k243_294 : px_cod 243 294 = some ((.if_icmp .eq 879), 3, [1173], 0) := rfl
theorem k243_297 : px_cod 243 297 = some ((.iconst 0), 1, [], 0) := rfl
theorem k243_298 : px_cod 243 298 = some (.ireturn, 1, [], 0) := rfl
theorem k243_299 : px_cod 243 299 = some ((.aload_n 1), 1, [], 1) := rfl
theorem k243_300 : px_cod 243 300 = some ((.aload_n 0), 1, [], 0) := rfl
theorem k243_301 : px_cod 243 301 = some ((.iload_n 3), 1, [], 3) := rfl
theorem k243_302 : px_cod 243 302 = some ((.iconst 1), 1, [], 1) := rfl
theorem k243_303 : px_cod 243 303 = some (.iadd, 1, [], 0) := rfl
theorem k243_304 : px_cod 243 304 = some (.iaload, 1, [], 0) := rfl
theorem k243_305 : px_cod 243 305 = some ((.aload_n 0), 1, [], 0) := rfl
theorem k243_306 : px_cod 243 306 = some ((.iload_n 3), 1, [], 3) := rfl
theorem k243_307 : px_cod 243 307 = some ((.iconst 2), 1, [], 2) := rfl
theorem k243_308 : px_cod 243 308 = some (.iadd, 1, [], 0) := rfl
theorem k243_309 : px_cod 243 309 = some (.iaload, 1, [], 0) := rfl
theorem k243_310 : px_cod 243 310 = some ((.invokevirtual 35), 3, [0, 22, 4], 0) := rfl
theorem k243_313 : px_cod 243 313 = some ((.aload_n 2), 1, [], 2) := rfl
theorem k243_314 : px_cod 243 314 = some ((.aload_n 0), 1, [], 0) := rfl
theorem k243_315 : px_cod 243 315 = some ((.iload_n 3), 1, [], 3) := rfl
theorem k243_316 : px_cod 243 316 = some ((.iconst 1), 1, [], 1) := rfl
theorem k243_317 : px_cod 243 317 = some (.iadd, 1, [], 0) := rfl
theorem k243_318 : px_cod 243 318 = some (.iaload, 1, [], 0) := rfl
theorem k243_319 : px_cod 243 319 = some ((.aload_n 0), 1, [], 0) := rfl
theorem k243_320 : px_cod 243 320 = some ((.iload_n 3), 1, [], 3) := rfl
theorem k243_321 : px_cod 243 321 = some ((.iconst 2), 1, [], 2) := rfl
theorem k243_322 : px_cod 243 322 = some (.iadd, 1, [], 0) := rfl
theorem k243_323 : px_cod 243 323 = some (.iaload, 1, [], 0) := rfl
theorem k243_324 : px_cod 243 324 = some ((.invokevirtual 39), 3, [0, 212, 150], 0) := rfl
theorem k243_327 : px_cod 243 327 = some ((.if_icmp .eq 846), 3, [1173], 0) := rfl
theorem k243_330 : px_cod 243 330 = some ((.iconst 0), 1, [], 0) := rfl
theorem k243_331 : px_cod 243 331 = some (.ireturn, 1, [], 0) := rfl
theorem k243_332 : px_cod 243 332 = some ((.aload_n 1), 1, [], 1) := rfl
theorem k243_333 : px_cod 243 333 = some ((.aload_n 0), 1, [], 0) := rfl
theorem k243_334 : px_cod 243 334 = some ((.iload_n 3), 1, [], 3) := rfl
theorem k243_335 : px_cod 243 335 = some ((.iconst 1), 1, [], 1) := rfl
theorem k243_336 : px_cod 243 336 = some (.iadd, 1, [], 0) := rfl
theorem k243_337 : px_cod 243 337 = some (.iaload, 1, [], 0) := rfl
theorem k243_338 : px_cod 243 338 = some ((.aload_n 0), 1, [], 0) := rfl
theorem k243_339 : px_cod 243 339 = some ((.iload_n 3), 1, [], 3) := rfl
theorem k243_340 : px_cod 243 340 = some ((.iconst 2), 1, [], 2) := rfl
theorem k243_341 : px_cod 243 341 = some (.iadd, 1, [], 0) := rfl
theorem k243_342 : px_cod 243 342 = some (.iaload, 1, [], 0) := rfl
theorem k243_343 : px_cod 243 343 = some ((.aload_n 0), 1, [], 0) := rfl
theorem k243_344 : px_cod 243 344 = some ((.iload_n 3), 1, [], 3) := rfl
theorem k243_345 : px_cod 243 345 = some ((.iconst 3), 1, [], 3) := rfl
theorem k243_346 : px_cod 243 346 = some (.iadd, 1, [], 0) := rfl
theorem k243_347 : px_cod 243 347 = some (.iaload, 1, [], 0) := rfl
theorem k243_348 : px_cod 243 348 = some ((.ifCond .eq 7), 3, [355], 0) := rfl
theorem k243_351 : px_cod 243 351 = some ((.iconst 1), 1, [], 1) := rfl
theorem k243_352 : px_cod 243 352 = some ((.goto 4), 3, [356], 0) := rfl
theorem k243_355 : px_cod 243 355 = some ((.iconst 0), 1, [], 0) := rfl
theorem k243_356 : px_cod 243 356 = some ((.aload_n 0), 1, [], 0) := rfl
theorem k243_357 : px_cod 243 357 = some ((.iload_n 3), 1, [], 3) := rfl
theorem k243_358 : px_cod 243 358 = some ((.iconst 4), 1, [], 4) := rfl
theorem k243_359 : px_cod 243 359 = some (.iadd, 1, [], 0) := rfl
theorem k243_360 : px_cod 243 360 = some (.iaload, 1, [], 0) := rfl
theorem k243_361 : px_cod 243 361 = some ((.aload_n 0), 1, [], 0) := rfl
theorem k243_362 : px_cod 243 362 = some ((.iload_n 3), 1, [], 3) := rfl
theorem k243_363 : px_cod 243 363 = some ((.iconst 5), 1, [], 5) := rfl
theorem k243_364 : px_cod 243 364 = some (.iadd, 1, [], 0) := rfl
theorem k243_365 : px_cod 243 365 = some (.iaload, 1, [], 0) := rfl
theorem k243_366 : px_cod 243 366 = some ((.aload_n 0), 1, [], 0) := rfl
theorem k243_367 : px_cod 243 367 = some ((.iload_n 3), 1, [], 3) := rfl
theorem k243_368 : px_cod 243 368 = some ((.bipush 6), 2, [], 6) := rfl
theorem k243_370 : px_cod 243 370 = some (.iadd, 1, [], 0) := rfl
theorem k243_371 : px_cod 243 371 = some (.iaload, 1, [], 0) := rfl
theorem k243_372 : px_cod 243 372 = some ((.aload_n 0), 1, [], 0) := rfl
theorem k243_373 : px_cod 243 373 = some ((.iload_n 3), 1, [], 3) := rfl
theorem k243_374 : px_cod 243 374 = some ((.bipush 7), 2, [], 7) := rfl
theorem k243_376 : px_cod 243 376 = some (.iadd, 1, [], 0) := rfl
theorem k243_377 : px_cod 243 377 = some (.iaload, 1, [], 0) := rfl
theorem k243_378 : px_cod 243 378 = some ((.invokevirtual 40), 3, [0, 25, 5], 0) := rfl
theorem k243_381 : px_cod 243 381 = some ((.aload_n 2), 1, [], 2) := rfl
theorem k243_382 : px_cod 243 382 = some ((.aload_n 0), 1, [], 0) := rfl
theorem k243_383 : px_cod 243 383 = some ((.iload_n 3), 1, [], 3) := rfl
theorem k243_384 : px_cod 243 384 = some ((.iconst 1), 1, [], 1) := rfl
theorem k243_385 : px_cod 243 385 = some (.iadd, 1, [], 0) := rfl
theorem k243_386 : px_cod 243 386 = some (.iaload, 1, [], 0) := rfl
theorem k243_387 : px_cod 243 387 = some ((.aload_n 0), 1, [], 0) := rfl
theorem k243_388 : px_cod 243 388 = some ((.iload_n 3), 1, [], 3) := rfl
theorem k243_389 : px_cod 243 389 = some ((.iconst 2), 1, [], 2) := rfl
theorem k243_390 : px_cod 243 390 = some (.iadd, 1, [], 0) := rfl
theorem k243_391 : px_cod 243 391 = some (.iaload, 1, [], 0) := rfl
theorem k243_392 : px_cod 243 392 = some ((.aload_n 0), 1, [], 0) := rfl
theorem k243_393 : px_cod 243 393 = some ((.iload_n 3), 1, [], 3) := rfl
theorem k243_394 : px_cod 243 394 = some ((.iconst 3), 1, [], 3) := rfl
theorem k243_395 : px_cod 243 395 = some (.iadd, 1, [], 0) := rfl
theorem k243_396 : px_cod 243 396 = some (.iaload, 1, [], 0) := rfl
theorem k243_397 : px_cod 243 397 = some ((.ifCond .eq 7), 3, [404], 0) := rfl
theorem k243_400 : px_cod 243 400 = some ((.iconst 1), 1, [], 1) := rfl
theorem k243_401 : px_cod 243 401 = some ((.goto 4), 3, [405], 0) := rfl
theorem k243_404 : px_cod 243 404 = some ((.iconst 0), 1, [], 0) := rfl
theorem k243_405 : px_cod 243 405 = some ((.aload_n 0), 1, [], 0) := rfl
theorem k243_406 : px_cod 243 406 = some ((.iload_n 3), 1, [], 3) := rfl
theorem k243_407 : px_cod 243 407 = some ((.iconst 4), 1, [], 4) := rfl
theorem k243_408 : px_cod 243 408 = some (.iadd, 1, [], 0) := rfl
theorem k243_409 : px_cod 243 409 = some (.iaload, 1, [], 0) := rfl
theorem k243_410 : px_cod 243 410 = some ((.aload_n 0), 1, [], 0) := rfl
theorem k243_411 : px_cod 243 411 = some ((.iload_n 3), 1, [], 3) := rfl
theorem k243_412 : px_cod 243 412 = some ((.iconst 5), 1, [], 5) := rfl
theorem k243_413 : px_cod 243 413 = some (.iadd, 1, [], 0) := rfl
theorem k243_414 : px_cod 243 414 = some (.iaload, 1, [], 0) := rfl
theorem k243_415 : px_cod 243 415 = some ((.aload_n 0), 1, [], 0) := rfl
theorem k243_416 : px_cod 243 416 = some ((.iload_n 3), 1, [], 3) := rfl
theorem k243_417 : px_cod 243 417 = some ((.bipush 6), 2, [], 6) := rfl
theorem k243_419 : px_cod 243 419 = some (.iadd, 1, [], 0) := rfl
theorem k243_420 : px_cod 243 420 = some (.iaload, 1, [], 0) := rfl
theorem k243_421 : px_cod 243 421 = some ((.aload_n 0), 1, [], 0) := rfl
theorem k243_422 : px_cod 243 422 = some ((.iload_n 3), 1, [], 3) := rfl
theorem k243_423 : px_cod 243 423 = some ((.bipush 7), 2, [], 7) := rfl
theorem k243_425 : px_cod 243 425 = some (.iadd, 1, [], 0) := rfl
theorem k243_426 : px_cod 243 426 = some (.iaload, 1, [], 0) := rfl
theorem k243_427 : px_cod 243 427 = some ((.invokevirtual 44), 3, [0, 213, 151], 0) := rfl
theorem k243_430 : px_cod 243 430 = some ((.if_icmp .eq 743), 3, [1173], 0) := rfl
theorem k243_433 : px_cod 243 433 = some ((.iconst 0), 1, [], 0) := rfl
theorem k243_434 : px_cod 243 434 = some (.ireturn, 1, [], 0) := rfl
theorem k243_435 : px_cod 243 435 = some ((.aload_n 1), 1, [], 1) := rfl
theorem k243_436 : px_cod 243 436 = some ((.aload_n 0), 1, [], 0) := rfl
theorem k243_437 : px_cod 243 437 = some ((.iload_n 3), 1, [], 3) := rfl
theorem k243_438 : px_cod 243 438 = some ((.iconst 1), 1, [], 1) := rfl
theorem k243_439 : px_cod 243 439 = some (.iadd, 1, [], 0) := rfl
theorem k243_440 : px_cod 243 440 = some (.iaload, 1, [], 0) := rfl
theorem k243_441 : px_cod 243 441 = some ((.aload_n 0), 1, [], 0) := rfl
theorem k243_442 : px_cod 243 442 = some ((.iload_n 3), 1, [], 3) := rfl
theorem k243_443 : px_cod 243 443 = some ((.iconst 2), 1, [], 2) := rfl
theorem k243_444 : px_cod 243 444 = some (.iadd, 1, [], 0) := rfl
theorem k243_445 : px_cod 243 445 = some (.iaload, 1, [], 0) := rfl
theorem k243_446 : px_cod 243 446 = some ((.aload_n 0), 1, [], 0) := rfl
theorem k243_447 : px_cod 243 447 = some ((.iload_n 3), 1, [], 3) := rfl
theorem k243_448 : px_cod 243 448 = some ((.iconst 3), 1, [], 3) := rfl
theorem k243_449 : px_cod 243 449 = some (.iadd, 1, [], 0) := rfl
theorem k243_450 : px_cod 243 450 = some (.iaload, 1, [], 0) := rfl
theorem k243_451 : px_cod 243 451 = some ((.ifCond .eq 7), 3, [458], 0) := rfl
theorem k243_454 : px_cod 243 454 = some ((.iconst 1), 1, [], 1) := rfl
theorem k243_455 : px_cod 243 455 = some ((.goto 4), 3, [459], 0) := rfl
theorem k243_458 : px_cod 243 458 = some ((.iconst 0), 1, [], 0) := rfl
theorem k243_459 : px_cod 243 459 = some ((.invokevirtual 45), 3, [0, 31, 6], 0) := rfl
theorem k243_462 : px_cod 243 462 = some ((.aload_n 2), 1, [], 2) := rfl
theorem k243_463 : px_cod 243 463 = some ((.aload_n 0), 1, [], 0) := rfl
theorem k243_464 : px_cod 243 464 = some ((.iload_n 3), 1, [], 3) := rfl
theorem k243_465 : px_cod 243 465 = some ((.iconst 1), 1, [], 1) := rfl
theorem k243_466 : px_cod 243 466 = some (.iadd, 1, [], 0) := rfl
theorem k243_467 : px_cod 243 467 = some (.iaload, 1, [], 0) := rfl
theorem k243_468 : px_cod 243 468 = some ((.aload_n 0), 1, [], 0) := rfl
theorem k243_469 : px_cod 243 469 = some ((.iload_n 3), 1, [], 3) := rfl
theorem k243_470 : px_cod 243 470 = some ((.iconst 2), 1, [], 2) := rfl
theorem k243_471 : px_cod 243 471 = some (.iadd, 1, [], 0) := rfl
theorem k243_472 : px_cod 243 472 = some (.iaload, 1, [], 0) := rfl
theorem k243_473 : px_cod 243 473 = some ((.aload_n 0), 1, [], 0) := rfl
theorem k243_474 : px_cod 243 474 = some ((.iload_n 3), 1, [], 3) := rfl
theorem k243_475 : px_cod 243 475 = some ((.iconst 3), 1, [], 3) := rfl
theorem k243_476 : px_cod 243 476 = some (.iadd, 1, [], 0) := rfl
theorem k243_477 : px_cod 243 477 = some (.iaload, 1, [], 0) := rfl
theorem k243_478 : px_cod 243 478 = some ((.ifCond .eq 7), 3, [485], 0) := rfl
theorem k243_481 : px_cod 243 481 = some ((.iconst 1), 1, [], 1) := rfl
theorem k243_482 : px_cod 243 482 = some ((.goto 4), 3, [486], 0) := rfl
theorem k243_485 : px_cod 243 485 = some ((.iconst 0), 1, [], 0) := rfl
theorem k243_486 : px_cod 243 486 = some ((.invokevirtual 48), 3, [0, 214, 152], 0) := rfl
theorem k243_489 : px_cod 243 489 = some ((.if_icmp .eq 684), 3, [1173], 0) := rfl
theorem k243_492 : px_cod 243 492 = some ((.iconst 0), 1, [], 0) := rfl
theorem k243_493 : px_cod 243 493 = some (.ireturn, 1, [], 0) := rfl
theorem k243_494 : px_cod 243 494 = some ((.aload_n 1), 1, [], 1) := rfl
theorem k243_495 : px_cod 243 495 = some ((.aload_n 0), 1, [], 0) := rfl
theorem k243_496 : px_cod 243 496 = some ((.iload_n 3), 1, [], 3) := rfl
theorem k243_497 : px_cod 243 497 = some ((.iconst 1), 1, [], 1) := rfl
theorem k243_498 : px_cod 243 498 = some (.iadd, 1, [], 0) := rfl
theorem k243_499 : px_cod 243 499 = some (.iaload, 1, [], 0) := rfl
theorem k243_500 : px_cod 243 500 = some ((.aload_n 0), 1, [], 0) := rfl
theorem k243_501 : px_cod 243 501 = some ((.iload_n 3), 1, [], 3) := rfl
theorem k243_502 : px_cod 243 502 = some ((.iconst 2), 1, [], 2) := rfl
theorem k243_503 : px_cod 243 503 = some (.iadd, 1, [], 0) := rfl
theorem k243_504 : px_cod 243 504 = some (.iaload, 1, [], 0) := rfl
theorem k243_505 : px_cod 243 505 = some ((.aload_n 0), 1, [], 0) := rfl
theorem k243_506 : px_cod 243 506 = some ((.iload_n 3), 1, [], 3) := rfl
theorem k243_507 : px_cod 243 507 = some ((.iconst 3), 1, [], 3) := rfl
theorem k243_508 : px_cod 243 508 = some (.iadd, 1, [], 0) := rfl
theorem k243_509 : px_cod 243 509 = some (.iaload, 1, [], 0) := rfl
theorem k243_510 : px_cod 243 510 = some ((.aload_n 0), 1, [], 0) := rfl
theorem k243_511 : px_cod 243 511 = some ((.iload_n 3), 1, [], 3) := rfl
theorem k243_512 : px_cod 243 512 = some ((.iconst 4), 1, [], 4) := rfl
theorem k243_513 : px_cod 243 513 = some (.iadd, 1, [], 0) := rfl
theorem k243_514 : px_cod 243 514 = some (.iaload, 1, [], 0) := rfl
theorem k243_515 : px_cod 243 515 = some ((.aload_n 0), 1, [], 0) := rfl
theorem k243_516 : px_cod 243 516 = some ((.iload_n 3), 1, [], 3) := rfl
theorem k243_517 : px_cod 243 517 = some ((.iconst 5), 1, [], 5) := rfl
theorem k243_518 : px_cod 243 518 = some (.iadd, 1, [], 0) := rfl
theorem k243_519 : px_cod 243 519 = some (.iaload, 1, [], 0) := rfl
theorem k243_520 : px_cod 243 520 = some ((.invokevirtual 49), 3, [0, 33, 7], 0) := rfl
theorem k243_523 : px_cod 243 523 = some ((.aload_n 2), 1, [], 2) := rfl
theorem k243_524 : px_cod 243 524 = some ((.aload_n 0), 1, [], 0) := rfl
theorem k243_525 : px_cod 243 525 = some ((.iload_n 3), 1, [], 3) := rfl
theorem k243_526 : px_cod 243 526 = some ((.iconst 1), 1, [], 1) := rfl
theorem k243_527 : px_cod 243 527 = some (.iadd, 1, [], 0) := rfl
theorem k243_528 : px_cod 243 528 = some (.iaload, 1, [], 0) := rfl
theorem k243_529 : px_cod 243 529 = some ((.aload_n 0), 1, [], 0) := rfl
theorem k243_530 : px_cod 243 530 = some ((.iload_n 3), 1, [], 3) := rfl
theorem k243_531 : px_cod 243 531 = some ((.iconst 2), 1, [], 2) := rfl
theorem k243_532 : px_cod 243 532 = some (.iadd, 1, [], 0) := rfl
theorem k243_533 : px_cod 243 533 = some (.iaload, 1, [], 0) := rfl
theorem k243_534 : px_cod 243 534 = some ((.aload_n 0), 1, [], 0) := rfl
theorem k243_535 : px_cod 243 535 = some ((.iload_n 3), 1, [], 3) := rfl
theorem k243_536 : px_cod 243 536 = some ((.iconst 3), 1, [], 3) := rfl
theorem k243_537 : px_cod 243 537 = some (.iadd, 1, [], 0) := rfl
theorem k243_538 : px_cod 243 538 = some (.iaload, 1, [], 0) := rfl
theorem k243_539 : px_cod 243 539 = some ((.aload_n 0), 1, [], 0) := rfl
theorem k243_540 : px_cod 243 540 = some ((.iload_n 3), 1, [], 3) := rfl
theorem k243_541 : px_cod 243 541 = some ((.iconst 4), 1, [], 4) := rfl
theorem k243_542 : px_cod 243 542 = some (.iadd, 1, [], 0) := rfl
theorem k243_543 : px_cod 243 543 = some (.iaload, 1, [], 0) := rfl
theorem k243_544 : px_cod 243 544 = some ((.aload_n 0), 1, [], 0) := rfl
theorem k243_545 : px_cod 243 545 = some ((.iload_n 3), 1, [], 3) := rfl
theorem k243_546 : px_cod 243 546 = some ((.iconst 5), 1, [], 5) := rfl
theorem k243_547 : px_cod 243 547 = some (.iadd, 1, [], 0) := rfl
theorem k243_548 : px_cod 243 548 = some (.iaload, 1, [], 0) := rfl
theorem k243_549 : px_cod 243 549 = some ((.invokevirtual 53), 3, [0, 216, 154], 0) := rfl
theorem k243_552 : px_cod 243 552 = some ((.if_icmp .eq 621), 3, [1173], 0) := rfl
theorem k243_555 : px_cod 243 555 = some ((.iconst 0), 1, [], 0) := rfl
theorem k243_556 : px_cod 243 556 = some (.ireturn, 1, [], 0) := rfl
theorem k243_557 : px_cod 243 557 = some ((.aload_n 1), 1, [], 1) := rfl
theorem k243_558 : px_cod 243 558 = some ((.aload_n 0), 1, [], 0) := rfl
theorem k243_559 : px_cod 243 559 = some ((.iload_n 3), 1, [], 3) := rfl
theorem k243_560 : px_cod 243 560 = some ((.iconst 1), 1, [], 1) := rfl
theorem k243_561 : px_cod 243 561 = some (.iadd, 1, [], 0) := rfl
theorem k243_562 : px_cod 243 562 = some (.iaload, 1, [], 0) := rfl
theorem k243_563 : px_cod 243 563 = some ((.invokevirtual 54), 3, [0, 37, 8], 0) := rfl
theorem k243_566 : px_cod 243 566 = some ((.aload_n 2), 1, [], 2) := rfl
theorem k243_567 : px_cod 243 567 = some ((.aload_n 0), 1, [], 0) := rfl
theorem k243_568 : px_cod 243 568 = some ((.iload_n 3), 1, [], 3) := rfl
theorem k243_569 : px_cod 243 569 = some ((.iconst 1), 1, [], 1) := rfl
theorem k243_570 : px_cod 243 570 = some (.iadd, 1, [], 0) := rfl
theorem k243_571 : px_cod 243 571 = some (.iaload, 1, [], 0) := rfl
theorem k243_572 : px_cod 243 572 = some ((.invokevirtual 58), 3, [0, 218, 155], 0) := rfl
theorem k243_575 : px_cod 243 575 = some ((.if_icmp .eq 598), 3, [1173], 0) := rfl
theorem k243_578 : px_cod 243 578 = some ((.iconst 0), 1, [], 0) := rfl
theorem k243_579 : px_cod 243 579 = some (.ireturn, 1, [], 0) := rfl
theorem k243_580 : px_cod 243 580 = some ((.aload_n 1), 1, [], 1) := rfl
theorem k243_581 : px_cod 243 581 = some ((.invokevirtual 59), 3, [0, 38, 9], 0) := rfl
theorem k243_584 : px_cod 243 584 = some ((.aload_n 2), 1, [], 2) := rfl
theorem k243_585 : px_cod 243 585 = some ((.invokevirtual 63), 3, [0, 219, 180], 0) := rfl
theorem k243_588 : px_cod 243 588 = some ((.if_icmp .eq 585), 3, [1173], 0) := rfl
theorem k243_591 : px_cod 243 591 = some ((.iconst 0), 1, [], 0) := rfl
theorem k243_592 : px_cod 243 592 = some (.ireturn, 1, [], 0) := rfl
theorem k243_593 : px_cod 243 593 = some ((.aload_n 1), 1, [], 1) := rfl
theorem k243_594 : px_cod 243 594 = some ((.aload_n 0), 1, [], 0) := rfl
theorem k243_595 : px_cod 243 595 = some ((.iload_n 3), 1, [], 3) := rfl
theorem k243_596 : px_cod 243 596 = some ((.iconst 1), 1, [], 1) := rfl
theorem k243_597 : px_cod 243 597 = some (.iadd, 1, [], 0) := rfl
theorem k243_598 : px_cod 243 598 = some (.iaload, 1, [], 0) := rfl
theorem k243_599 : px_cod 243 599 = some ((.invokevirtual 64), 3, [0, 65, 10], 0) := rfl
theorem k243_602 : px_cod 243 602 = some ((.aload_n 2), 1, [], 2) := rfl
theorem k243_603 : px_cod 243 603 = some ((.aload_n 0), 1, [], 0) := rfl
theorem k243_604 : px_cod 243 604 = some ((.iload_n 3), 1, [], 3) := rfl
theorem k243_605 : px_cod 243 605 = some ((.iconst 1), 1, [], 1) := rfl
theorem k243_606 : px_cod 243 606 = some (.iadd, 1, [], 0) := rfl
theorem k243_607 : px_cod 243 607 = some (.iaload, 1, [], 0) := rfl
theorem k243_608 : px_cod 243 608 = some ((.invokevirtual 67), 3, [0, 245, 182], 0) := rfl
theorem k243_611 : px_cod 243 611 = some ((.if_icmp .eq 562), 3, [1173], 0) := rfl
theorem k243_614 : px_cod 243 614 = some ((.iconst 0), 1, [], 0) := rfl
theorem k243_615 : px_cod 243 615 = some (.ireturn, 1, [], 0) := rfl
theorem k243_616 : px_cod 243 616 = some ((.aload_n 1), 1, [], 1) := rfl
theorem k243_617 : px_cod 243 617 = some ((.aload_n 0), 1, [], 0) := rfl
theorem k243_618 : px_cod 243 618 = some ((.iload_n 3), 1, [], 3) := rfl
theorem k243_619 : px_cod 243 619 = some ((.iconst 1), 1, [], 1) := rfl
theorem k243_620 : px_cod 243 620 = some (.iadd, 1, [], 0) := rfl
theorem k243_621 : px_cod 243 621 = some (.iaload, 1, [], 0) := rfl
theorem k243_622 : px_cod 243 622 = some ((.invokevirtual 68), 3, [0, 66, 11], 0) := rfl
theorem k243_625 : px_cod 243 625 = some ((.aload_n 2), 1, [], 2) := rfl
theorem k243_626 : px_cod 243 626 = some ((.aload_n 0), 1, [], 0) := rfl
theorem k243_627 : px_cod 243 627 = some ((.iload_n 3), 1, [], 3) := rfl
theorem k243_628 : px_cod 243 628 = some ((.iconst 1), 1, [], 1) := rfl
theorem k243_629 : px_cod 243 629 = some (.iadd, 1, [], 0) := rfl
theorem k243_630 : px_cod 243 630 = some (.iaload, 1, [], 0) := rfl
theorem k243_631 : px_cod 243 631 = some ((.invokevirtual 71), 3, [0, 246, 186], 0) := rfl
theorem k243_634 : px_cod 243 634 = some ((.if_icmp .eq 539), 3, [1173], 0) := rfl
theorem k243_637 : px_cod 243 637 = some ((.iconst 0), 1, [], 0) := rfl
theorem k243_638 : px_cod 243 638 = some (.ireturn, 1, [], 0) := rfl
theorem k243_639 : px_cod 243 639 = some ((.aload_n 1), 1, [], 1) := rfl
theorem k243_640 : px_cod 243 640 = some ((.aload_n 0), 1, [], 0) := rfl
theorem k243_641 : px_cod 243 641 = some ((.iload_n 3), 1, [], 3) := rfl
theorem k243_642 : px_cod 243 642 = some ((.iconst 1), 1, [], 1) := rfl
theorem k243_643 : px_cod 243 643 = some (.iadd, 1, [], 0) := rfl
theorem k243_644 : px_cod 243 644 = some (.iaload, 1, [], 0) := rfl
theorem k243_645 : px_cod 243 645 = some ((.invokevirtual 72), 3, [0, 67, 12], 0) := rfl
theorem k243_648 : px_cod 243 648 = some ((.aload_n 2), 1, [], 2) := rfl
theorem k243_649 : px_cod 243 649 = some ((.aload_n 0), 1, [], 0) := rfl
theorem k243_650 : px_cod 243 650 = some ((.iload_n 3), 1, [], 3) := rfl
theorem k243_651 : px_cod 243 651 = some ((.iconst 1), 1, [], 1) := rfl
theorem k243_652 : px_cod 243 652 = some (.iadd, 1, [], 0) := rfl
theorem k243_653 : px_cod 243 653 = some (.iaload, 1, [], 0) := rfl
theorem k243_654 : px_cod 243 654 = some ((.invokevirtual 75), 3, [0, 247, 193], 0) := rfl
theorem k243_657 : px_cod 243 657 = some ((.if_icmp .eq 516), 3, [1173], 0) := rfl
theorem k243_660 : px_cod 243 660 = some ((.iconst 0), 1, [], 0) := rfl
theorem k243_661 : px_cod 243 661 = some (.ireturn, 1, [], 0) := rfl
theorem k243_662 : px_cod 243 662 = some ((.aload_n 1), 1, [], 1) := rfl
theorem k243_663 : px_cod 243 663 = some ((.aload_n 0), 1, [], 0) := rfl
theorem k243_664 : px_cod 243 664 = some ((.iload_n 3), 1, [], 3) := rfl
theorem k243_665 : px_cod 243 665 = some ((.iconst 1), 1, [], 1) := rfl
theorem k243_666 : px_cod 243 666 = some (.iadd, 1, [], 0) := rfl
theorem k243_667 : px_cod 243 667 = some (.iaload, 1, [], 0) := rfl
theorem k243_668 : px_cod 243 668 = some ((.aload_n 0), 1, [], 0) := rfl
theorem k243_669 : px_cod 243 669 = some ((.iload_n 3), 1, [], 3) := rfl
theorem k243_670 : px_cod 243 670 = some ((.iconst 2), 1, [], 2) := rfl
theorem k243_671 : px_cod 243 671 = some (.iadd, 1, [], 0) := rfl
theorem k243_672 : px_cod 243 672 = some (.iaload, 1, [], 0) := rfl
theorem k243_673 : px_cod 243 673 = some ((.invokevirtual 76), 3, [0, 78, 13], 0) := rfl
theorem k243_676 : px_cod 243 676 = some ((.aload_n 2), 1, [], 2) := rfl
theorem k243_677 : px_cod 243 677 = some ((.aload_n 0), 1, [], 0) := rfl
theorem k243_678 : px_cod 243 678 = some ((.iload_n 3), 1, [], 3) := rfl
theorem k243_679 : px_cod 243 679 = some ((.iconst 1), 1, [], 1) := rfl
theorem k243_680 : px_cod 243 680 = some (.iadd, 1, [], 0) := rfl
theorem k243_681 : px_cod 243 681 = some (.iaload, 1, [], 0) := rfl
theorem k243_682 : px_cod 243 682 = some ((.aload_n 0), 1, [], 0) := rfl
theorem k243_683 : px_cod 243 683 = some ((.iload_n 3), 1, [], 3) := rfl
theorem k243_684 : px_cod 243 684 = some ((.iconst 2), 1, [], 2) := rfl
theorem k243_685 : px_cod 243 685 = some (.iadd, 1, [], 0) := rfl
theorem k243_686 : px_cod 243 686 = some (.iaload, 1, [], 0) := rfl
theorem k243_687 : px_cod 243 687 = some ((.invokevirtual 79), 3, [0, 257, 199], 0) := rfl
theorem k243_690 : px_cod 243 690 = some ((.if_icmp .eq 483), 3, [1173], 0) := rfl
theorem k243_693 : px_cod 243 693 = some ((.iconst 0), 1, [], 0) := rfl
theorem k243_694 : px_cod 243 694 = some (.ireturn, 1, [], 0) := rfl
theorem k243_695 : px_cod 243 695 = some ((.aload_n 1), 1, [], 1) := rfl
theorem k243_696 : px_cod 243 696 = some ((.aload_n 0), 1, [], 0) := rfl
theorem k243_697 : px_cod 243 697 = some ((.iload_n 3), 1, [], 3) := rfl
theorem k243_698 : px_cod 243 698 = some ((.iconst 1), 1, [], 1) := rfl
theorem k243_699 : px_cod 243 699 = some (.iadd, 1, [], 0) := rfl
theorem k243_700 : px_cod 243 700 = some (.iaload, 1, [], 0) := rfl
theorem k243_701 : px_cod 243 701 = some ((.aload_n 0), 1, [], 0) := rfl
theorem k243_702 : px_cod 243 702 = some ((.iload_n 3), 1, [], 3) := rfl
theorem k243_703 : px_cod 243 703 = some ((.iconst 2), 1, [], 2) := rfl
theorem k243_704 : px_cod 243 704 = some (.iadd, 1, [], 0) := rfl
theorem k243_705 : px_cod 243 705 = some (.iaload, 1, [], 0) := rfl
theorem k243_706 : px_cod 243 706 = some ((.aload_n 0), 1, [], 0) := rfl
theorem k243_707 : px_cod 243 707 = some ((.iload_n 3), 1, [], 3) := rfl
theorem k243_708 : px_cod 243 708 = some ((.iconst 3), 1, [], 3) := rfl
theorem k243_709 : px_cod 243 709 = some (.iadd, 1, [], 0) := rfl
theorem k243_710 : px_cod 243 710 = some (.iaload, 1, [], 0) := rfl
theorem k243_711 : px_cod 243 711 = some ((.invokevirtual 80), 3, [0, 94, 14], 0) := rfl
theorem k243_714 : px_cod 243 714 = some ((.aload_n 2), 1, [], 2) := rfl
theorem k243_715 : px_cod 243 715 = some ((.aload_n 0), 1, [], 0) := rfl
theorem k243_716 : px_cod 243 716 = some ((.iload_n 3), 1, [], 3) := rfl
theorem k243_717 : px_cod 243 717 = some ((.iconst 1), 1, [], 1) := rfl
theorem k243_718 : px_cod 243 718 = some (.iadd, 1, [], 0) := rfl
theorem k243_719 : px_cod 243 719 = some (.iaload, 1, [], 0) := rfl
theorem k243_720 : px_cod 243 720 = some ((.aload_n 0), 1, [], 0) := rfl
theorem k243_721 : px_cod 243 721 = some ((.iload_n 3), 1, [], 3) := rfl
theorem k243_722 : px_cod 243 722 = some ((.iconst 2), 1, [], 2) := rfl
theorem k243_723 : px_cod 243 723 = some (.iadd, 1, [], 0) := rfl
theorem k243_724 : px_cod 243 724 = some (.iaload, 1, [], 0) := rfl
theorem k243_725 : px_cod 243 725 = some ((.aload_n 0), 1, [], 0) := rfl
theorem k243_726 : px_cod 243 726 = some ((.iload_n 3), 1, [], 3) := rfl
theorem k243_727 : px_cod 243 727 = some ((.iconst 3), 1, [], 3) := rfl
theorem k243_728 : px_cod 243 728 = some (.iadd, 1, [], 0) := rfl
theorem k243_729 : px_cod 243 729 = some (.iaload, 1, [], 0) := rfl
theorem k243_730 : px_cod 243 730 = some ((.invokevirtual 84), 3, [0, 265, 203], 0) := rfl
theorem k243_733 : px_cod 243 733 = some ((.if_icmp .eq 440), 3, [1173], 0) := rfl
theorem k243_736 : px_cod 243 736 = some ((.iconst 0), 1, [], 0) := rfl
theorem k243_737 : px_cod 243 737 = some (.ireturn, 1, [], 0) := rfl
theorem k243_738 : px_cod 243 738 = some ((.aload_n 1), 1, [], 1) := rfl
theorem k243_739 : px_cod 243 739 = some ((.aload_n 0), 1, [], 0) := rfl
theorem k243_740 : px_cod 243 740 = some ((.iload_n 3), 1, [], 3) := rfl
theorem k243_741 : px_cod 243 741 = some ((.iconst 1), 1, [], 1) := rfl
theorem k243_742 : px_cod 243 742 = some (.iadd, 1, [], 0) := rfl
theorem k243_743 : px_cod 243 743 = some (.iaload, 1, [], 0) := rfl
theorem k243_744 : px_cod 243 744 = some ((.aload_n 0), 1, [], 0) := rfl
theorem k243_745 : px_cod 243 745 = some ((.iload_n 3), 1, [], 3) := rfl
theorem k243_746 : px_cod 243 746 = some ((.iconst 2), 1, [], 2) := rfl
theorem k243_747 : px_cod 243 747 = some (.iadd, 1, [], 0) := rfl
theorem k243_748 : px_cod 243 748 = some (.iaload, 1, [], 0) := rfl
theorem k243_749 : px_cod 243 749 = some ((.invokevirtual 85), 3, [0, 110, 15], 0) := rfl
theorem k243_752 : px_cod 243 752 = some ((.aload_n 2), 1, [], 2) := rfl
theorem k243_753 : px_cod 243 753 = some ((.aload_n 0), 1, [], 0) := rfl
theorem k243_754 : px_cod 243 754 = some ((.iload_n 3), 1, [], 3) := rfl
theorem k243_755 : px_cod 243 755 = some ((.iconst 1), 1, [], 1) := rfl
theorem k243_756 : px_cod 243 756 = some (.iadd, 1, [], 0) := rfl
theorem k243_757 : px_cod 243 757 = some (.iaload, 1, [], 0) := rfl
theorem k243_758 : px_cod 243 758 = some ((.aload_n 0), 1, [], 0) := rfl
theorem k243_759 : px_cod 243 759 = some ((.iload_n 3), 1, [], 3) := rfl
theorem k243_760 : px_cod 243 760 = some ((.iconst 2), 1, [], 2) := rfl
theorem k243_761 : px_cod 243 761 = some (.iadd, 1, [], 0) := rfl
theorem k243_762 : px_cod 243 762 = some (.iaload, 1, [], 0) := rfl
theorem k243_763 : px_cod 243 763 = some ((.invokevirtual 88), 3, [0, 269, 205], 0) := rfl
theorem k243_766 : px_cod 243 766 = some ((.if_icmp .eq 407), 3, [1173], 0) := rfl
theorem k243_769 : px_cod 243 769 = some ((.iconst 0), 1, [], 0) := rfl
theorem k243_770 : px_cod 243 770 = some (.ireturn, 1, [], 0) := rfl
theorem k243_771 : px_cod 243 771 = some ((.aload_n 1), 1, [], 1) := rfl
theorem k243_772 : px_cod 243 772 = some ((.aload_n 0), 1, [], 0) := rfl
theorem k243_773 : px_cod 243 773 = some ((.iload_n 3), 1, [], 3) := rfl
theorem k243_774 : px_cod 243 774 = some ((.iconst 1), 1, [], 1) := rfl
theorem k243_775 : px_cod 243 775 = some (.iadd, 1, [], 0) := rfl
theorem k243_776 : px_cod 243 776 = some (.iaload, 1, [], 0) := rfl
theorem k243_777 : px_cod 243 777 = some ((.aload_n 0), 1, [], 0) := rfl
theorem k243_778 : px_cod 243 778 = some ((.iload_n 3), 1, [], 3) := rfl
theorem k243_779 : px_cod 243 779 = some ((.iconst 2), 1, [], 2) := rfl
theorem k243_780 : px_cod 243 780 = some (.iadd, 1, [], 0) := rfl
theorem k243_781 : px_cod 243 781 = some (.iaload, 1, [], 0) := rfl
theorem k243_782 : px_cod 243 782 = some ((.invokevirtual 89), 3, [0, 114, 16], 0) := rfl
theorem k243_785 : px_cod 243 785 = some ((.aload_n 2), 1, [], 2) := rfl
theorem k243_786 : px_cod 243 786 = some ((.aload_n 0), 1, [], 0) := rfl
theorem k243_787 : px_cod 243 787 = some ((.iload_n 3), 1, [], 3) := rfl
theorem k243_788 : px_cod 243 788 = some ((.iconst 1), 1, [], 1) := rfl
theorem k243_789 : px_cod 243 789 = some (.iadd, 1, [], 0) := rfl
theorem k243_790 : px_cod 243 790 = some (.iaload, 1, [], 0) := rfl
theorem k243_791 : px_cod 243 791 = some ((.aload_n 0), 1, [], 0) := rfl
theorem k243_792 : px_cod 243 792 = some ((.iload_n 3), 1, [], 3) := rfl
theorem k243_793 : px_cod 243 793 = some ((.iconst 2), 1, [], 2) := rfl
theorem k243_794 : px_cod 243 794 = some (.iadd, 1, [], 0) := rfl
theorem k243_795 : px_cod 243 795 = some (.iaload, 1, [], 0) := rfl
theorem k243_796 : px_cod 243 796 = some ((.invokevirtual 92), 3, [0, 271, 206], 0) := rfl
theorem k243_799 : px_cod 243 799 = some ((.if_icmp .eq 374), 3, [1173], 0) := rfl
theorem k243_802 : px_cod 243 802 = some ((.iconst 0), 1, [], 0) := rfl
theorem k243_803 : px_cod 243 803 = some (.ireturn, 1, [], 0) := rfl
theorem k243_804 : px_cod 243 804 = some ((.aload_n 1), 1, [], 1) := rfl
theorem k243_805 : px_cod 243 805 = some ((.aload_n 0), 1, [], 0) := rfl
theorem k243_806 : px_cod 243 806 = some ((.iload_n 3), 1, [], 3) := rfl
theorem k243_807 : px_cod 243 807 = some ((.iconst 1), 1, [], 1) := rfl
theorem k243_808 : px_cod 243 808 = some (.iadd, 1, [], 0) := rfl
theorem k243_809 : px_cod 243 809 = some (.iaload, 1, [], 0) := rfl
theorem k243_810 : px_cod 243 810 = some ((.aload_n 0), 1, [], 0) := rfl
theorem k243_811 : px_cod 243 811 = some ((.iload_n 3), 1, [], 3) := rfl
theorem k243_812 : px_cod 243 812 = some ((.iconst 2), 1, [], 2) := rfl
theorem k243_813 : px_cod 243 813 = some (.iadd, 1, [], 0) := rfl
theorem k243_814 : px_cod 243 814 = some (.iaload, 1, [], 0) := rfl
theorem k243_815 : px_cod 243 815 = some ((.aload_n 0), 1, [], 0) := rfl
theorem k243_816 : px_cod 243 816 = some ((.iload_n 3), 1, [], 3) := rfl
theorem k243_817 : px_cod 243 817 = some ((.iconst 3), 1, [], 3) := rfl
theorem k243_818 : px_cod 243 818 = some (.iadd, 1, [], 0) := rfl
theorem k243_819 : px_cod 243 819 = some (.iaload, 1, [], 0) := rfl
theorem k243_820 : px_cod 243 820 = some ((.invokevirtual 93), 3, [0, 119, 17], 0) := rfl
theorem k243_823 : px_cod 243 823 = some ((.aload_n 2), 1, [], 2) := rfl
theorem k243_824 : px_cod 243 824 = some ((.aload_n 0), 1, [], 0) := rfl
theorem k243_825 : px_cod 243 825 = some ((.iload_n 3), 1, [], 3) := rfl
theorem k243_826 : px_cod 243 826 = some ((.iconst 1), 1, [], 1) := rfl
theorem k243_827 : px_cod 243 827 = some (.iadd, 1, [], 0) := rfl
theorem k243_828 : px_cod 243 828 = some (.iaload, 1, [], 0) := rfl
theorem k243_829 : px_cod 243 829 = some ((.aload_n 0), 1, [], 0) := rfl
theorem k243_830 : px_cod 243 830 = some ((.iload_n 3), 1, [], 3) := rfl
theorem k243_831 : px_cod 243 831 = some ((.iconst 2), 1, [], 2) := rfl
theorem k243_832 : px_cod 243 832 = some (.iadd, 1, [], 0) := rfl
theorem k243_833 : px_cod 243 833 = some (.iaload, 1, [], 0) := rfl
theorem k243_834 : px_cod 243 834 = some ((.aload_n 0), 1, [], 0) := rfl
theorem k243_835 : px_cod 243 835 = some ((.iload_n 3), 1, [], 3) := rfl
theorem k243_836 : px_cod 243 836 = some ((.iconst 3), 1, [], 3) := rfl
theorem k243_837 : px_cod 243 837 = some (.iadd, 1, [], 0) := rfl
theorem k243_838 : px_cod 243 838 = some (.iaload, 1, [], 0) := rfl
theorem k243_839 : px_cod 243 839 = some ((.invokevirtual 96), 3, [0, 272, 213], 0) := rfl
theorem k243_842 : px_cod 243 842 = some ((.if_icmp .eq 331), 3, [1173], 0) := rfl
theorem k243_845 : px_cod 243 845 = some ((.iconst 0), 1, [], 0) := rfl
theorem k243_846 : px_cod 243 846 = some (.ireturn, 1, [], 0) := rfl
theorem k243_847 : px_cod 243 847 = some ((.aload_n 1), 1, [], 1) := rfl
theorem k243_848 : px_cod 243 848 = some ((.aload_n 0), 1, [], 0) := rfl
theorem k243_849 : px_cod 243 849 = some ((.iload_n 3), 1, [], 3) := rfl
theorem k243_850 : px_cod 243 850 = some ((.iconst 1), 1, [], 1) := rfl
theorem k243_851 : px_cod 243 851 = some (.iadd, 1, [], 0) := rfl
theorem k243_852 : px_cod 243 852 = some (.iaload, 1, [], 0) := rfl
theorem k243_853 : px_cod 243 853 = some ((.invokevirtual 97), 3, [0, 132, 18], 0) := rfl
theorem k243_856 : px_cod 243 856 = some ((.aload_n 2), 1, [], 2) := rfl
theorem k243_857 : px_cod 243 857 = some ((.aload_n 0), 1, [], 0) := rfl
theorem k243_858 : px_cod 243 858 = some ((.iload_n 3), 1, [], 3) := rfl
theorem k243_859 : px_cod 243 859 = some ((.iconst 1), 1, [], 1) := rfl
theorem k243_860 : px_cod 243 860 = some (.iadd, 1, [], 0) := rfl
theorem k243_861 : px_cod 243 861 = some (.iaload, 1, [], 0) := rfl
theorem k243_862 : px_cod 243 862 = some ((.invokevirtual 100), 3, [0, 279, 214], 0) := rfl
theorem k243_865 : px_cod 243 865 = some ((.if_icmp .eq 308), 3, [1173], 0) := rfl
theorem k243_868 : px_cod 243 868 = some ((.iconst 0), 1, [], 0) := rfl
theorem k243_869 : px_cod 243 869 = some (.ireturn, 1, [], 0) := rfl
theorem k243_870 : px_cod 243 870 = some ((.aload_n 1), 1, [], 1) := rfl
theorem k243_871 : px_cod 243 871 = some ((.aload_n 0), 1, [], 0) := rfl
theorem k243_872 : px_cod 243 872 = some ((.iload_n 3), 1, [], 3) := rfl
theorem k243_873 : px_cod 243 873 = some ((.iconst 1), 1, [], 1) := rfl
theorem k243_874 : px_cod 243 874 = some (.iadd, 1, [], 0) := rfl
theorem k243_875 : px_cod 243 875 = some (.iaload, 1, [], 0) := rfl
theorem k243_876 : px_cod 243 876 = some ((.aload_n 0), 1, [], 0) := rfl
theorem k243_877 : px_cod 243 877 = some ((.iload_n 3), 1, [], 3) := rfl
theorem k243_878 : px_cod 243 878 = some ((.iconst 2), 1, [], 2) := rfl
theorem k243_879 : px_cod 243 879 = some (.iadd, 1, [], 0) := rfl
theorem k243_880 : px_cod 243 880 = some (.iaload, 1, [], 0) := rfl
theorem k243_881 : px_cod 243 881 = some ((.aload_n 0), 1, [], 0) := rfl
theorem k243_882 : px_cod 243 882 = some ((.iload_n 3), 1, [], 3) := rfl
theorem k243_883 : px_cod 243 883 = some ((.iconst 3), 1, [], 3) := rfl
theorem k243_884 : px_cod 243 884 = some (.iadd, 1, [], 0) := rfl
theorem k243_885 : px_cod 243 885 = some (.iaload, 1, [], 0) := rfl
theorem k243_886 : px_cod 243 886 = some ((.aload_n 0), 1, [], 0) := rfl
theorem k243_887 : px_cod 243 887 = some ((.iload_n 3), 1, [], 3) := rfl
theorem k243_888 : px_cod 243 888 = some ((.iconst 4), 1, [], 4) := rfl
theorem k243_889 : px_cod 243 889 = some (.iadd, 1, [], 0) := rfl
theorem k243_890 : px_cod 243 890 = some (.iaload, 1, [], 0) := rfl
theorem k243_891 : px_cod 243 891 = some ((.invokevirtual 101), 3, [0, 135, 19], 0) := rfl
theorem k243_894 : px_cod 243 894 = some ((.aload_n 2), 1, [], 2) := rfl
theorem k243_895 : px_cod 243 895 = some ((.aload_n 0), 1, [], 0) := rfl
theorem k243_896 : px_cod 243 896 = some ((.iload_n 3), 1, [], 3) := rfl
theorem k243_897 : px_cod 243 897 = some ((.iconst 1), 1, [], 1) := rfl
theorem k243_898 : px_cod 243 898 = some (.iadd, 1, [], 0) := rfl
theorem k243_899 : px_cod 243 899 = some (.iaload, 1, [], 0) := rfl
theorem k243_900 : px_cod 243 900 = some ((.aload_n 0), 1, [], 0) := rfl
theorem k243_901 : px_cod 243 901 = some ((.iload_n 3), 1, [], 3) := rfl
theorem k243_902 : px_cod 243 902 = some ((.iconst 2), 1, [], 2) := rfl
theorem k243_903 : px_cod 243 903 = some (.iadd, 1, [], 0) := rfl
theorem k243_904 : px_cod 243 904 = some (.iaload, 1, [], 0) := rfl
theorem k243_905 : px_cod 243 905 = some ((.aload_n 0), 1, [], 0) := rfl
theorem k243_906 : px_cod 243 906 = some ((.iload_n 3), 1, [], 3) := rfl
theorem k243_907 : px_cod 243 907 = some ((.iconst 3), 1, [], 3) := rfl
theorem k243_908 : px_cod 243 908 = some (.iadd, 1, [], 0) := rfl
theorem k243_909 : px_cod 243 909 = some (.iaload, 1, [], 0) := rfl
theorem k243_910 : px_cod 243 910 = some ((.aload_n 0), 1, [], 0) := rfl
theorem k243_911 : px_cod 243 911 = some ((.iload_n 3), 1, [], 3) := rfl
theorem k243_912 : px_cod 243 912 = some ((.iconst 4), 1, [], 4) := rfl
theorem k243_913 : px_cod 243 913 = some (.iadd, 1, [], 0) := rfl
theorem k243_914 : px_cod 243 914 = some (.iaload, 1, [], 0) := rfl
theorem k243_915 : px_cod 243 915 = some ((.invokevirtual 105), 3, [0, 280, 218], 0) := rfl
theorem k243_918 : px_cod 243 918 = some ((.if_icmp .eq 255), 3, [1173], 0) := rfl
theorem k243_921 : px_cod 243 921 = some ((.iconst 0), 1, [], 0) := rfl
theorem k243_922 : px_cod 243 922 = some (.ireturn, 1, [], 0) := rfl
theorem k243_923 : px_cod 243 923 = some ((.aload_n 1), 1, [], 1) := rfl
theorem k243_924 : px_cod 243 924 = some ((.aload_n 0), 1, [], 0) := rfl
theorem k243_925 : px_cod 243 925 = some ((.iload_n 3), 1, [], 3) := rfl
theorem k243_926 : px_cod 243 926 = some ((.iconst 1), 1, [], 1) := rfl
theorem k243_927 : px_cod 243 927 = some (.iadd, 1, [], 0) := rfl
theorem k243_928 : px_cod 243 928 = some (.iaload, 1, [], 0) := rfl
theorem k243_929 : px_cod 243 929 = some ((.aload_n 0), 1, [], 0) := rfl
theorem k243_930 : px_cod 243 930 = some ((.iload_n 3), 1, [], 3) := rfl
theorem k243_931 : px_cod 243 931 = some ((.iconst 2), 1, [], 2) := rfl
theorem k243_932 : px_cod 243 932 = some (.iadd, 1, [], 0) := rfl
theorem k243_933 : px_cod 243 933 = some (.iaload, 1, [], 0) := rfl
theorem k243_934 : px_cod 243 934 = some ((.invokevirtual 106), 3, [0, 147, 20], 0) := rfl
theorem k243_937 : px_cod 243 937 = some ((.aload_n 2), 1, [], 2) := rfl
theorem k243_938 : px_cod 243 938 = some ((.aload_n 0), 1, [], 0) := rfl
theorem k243_939 : px_cod 243 939 = some ((.iload_n 3), 1, [], 3) := rfl
theorem k243_940 : px_cod 243 940 = some ((.iconst 1), 1, [], 1) := rfl
theorem k243_941 : px_cod 243 941 = some (.iadd, 1, [], 0) := rfl
theorem k243_942 : px_cod 243 942 = some (.iaload, 1, [], 0) := rfl
theorem k243_943 : px_cod 243 943 = some ((.aload_n 0), 1, [], 0) := rfl
theorem k243_944 : px_cod 243 944 = some ((.iload_n 3), 1, [], 3) := rfl
theorem k243_945 : px_cod 243 945 = some ((.iconst 2), 1, [], 2) := rfl
theorem k243_946 : px_cod 243 946 = some (.iadd, 1, [], 0) := rfl
theorem k243_947 : px_cod 243 947 = some (.iaload, 1, [], 0) := rfl
theorem k243_948 : px_cod 243 948 = some ((.invokevirtual 109), 3, [0, 284, 221], 0) := rfl
theorem k243_951 : px_cod 243 951 = some ((.if_icmp .eq 222), 3, [1173], 0) := rfl
theorem k243_954 : px_cod 243 954 = some ((.iconst 0), 1, [], 0) := rfl
theorem k243_955 : px_cod 243 955 = some (.ireturn, 1, [], 0) := rfl
theorem k243_956 : px_cod 243 956 = some ((.aload_n 1), 1, [], 1) := rfl
theorem k243_957 : px_cod 243 957 = some ((.aload_n 0), 1, [], 0) := rfl
theorem k243_958 : px_cod 243 958 = some ((.iload_n 3), 1, [], 3) := rfl
theorem k243_959 : px_cod 243 959 = some ((.iconst 1), 1, [], 1) := rfl
theorem k243_960 : px_cod 243 960 = some (.iadd, 1, [], 0) := rfl
theorem k243_961 : px_cod 243 961 = some (.iaload, 1, [], 0) := rfl
theorem k243_962 : px_cod 243 962 = some ((.aload_n 0), 1, [], 0) := rfl
theorem k243_963 : px_cod 243 963 = some ((.iload_n 3), 1, [], 3) := rfl
theorem k243_964 : px_cod 243 964 = some ((.iconst 2), 1, [], 2) := rfl
theorem k243_965 : px_cod 243 965 = some (.iadd, 1, [], 0) := rfl
theorem k243_966 : px_cod 243 966 = some (.iaload, 1, [], 0) := rfl
theorem k243_967 : px_cod 243 967 = some ((.invokevirtual 110), 3, [0, 161, 21], 0) := rfl
theorem k243_970 : px_cod 243 970 = some ((.aload_n 2), 1, [], 2) := rfl
theorem k243_971 : px_cod 243 971 = some ((.aload_n 0), 1, [], 0) := rfl
theorem k243_972 : px_cod 243 972 = some ((.iload_n 3), 1, [], 3) := rfl
theorem k243_973 : px_cod 243 973 = some ((.iconst 1), 1, [], 1) := rfl
theorem k243_974 : px_cod 243 974 = some (.iadd, 1, [], 0) := rfl
theorem k243_975 : px_cod 243 975 = some (.iaload, 1, [], 0) := rfl
theorem k243_976 : px_cod 243 976 = some ((.aload_n 0), 1, [], 0) := rfl
theorem k243_977 : px_cod 243 977 = some ((.iload_n 3), 1, [], 3) := rfl
theorem k243_978 : px_cod 243 978 = some ((.iconst 2), 1, [], 2) := rfl
theorem k243_979 : px_cod 243 979 = some (.iadd, 1, [], 0) := rfl
theorem k243_980 : px_cod 243 980 = some (.iaload, 1, [], 0) := rfl
theorem k243_981 : px_cod 243 981 = some ((.invokevirtual 113), 3, [0, 287, 224], 0) := rfl
theorem k243_984 : px_cod 243 984 = some ((.if_icmp .eq 189), 3, [1173], 0) := rfl
theorem k243_987 : px_cod 243 987 = some ((.iconst 0), 1, [], 0) := rfl
theorem k243_988 : px_cod 243 988 = some (.ireturn, 1, [], 0) := rfl
theorem k243_989 : px_cod 243 989 = some ((.aload_n 1), 1, [], 1) := rfl
theorem k243_990 : px_cod 243 990 = some ((.aload_n 0), 1, [], 0) := rfl
theorem k243_991 : px_cod 243 991 = some ((.iload_n 3), 1, [], 3) := rfl
theorem k243_992 : px_cod 243 992 = some ((.iconst 1), 1, [], 1) := rfl
theorem k243_993 : px_cod 243 993 = some (.iadd, 1, [], 0) := rfl
theorem k243_994 : px_cod 243 994 = some (.iaload, 1, [], 0) := rfl
theorem k243_995 : px_cod 243 995 = some ((.invokevirtual 114), 3, [0, 169, 22], 0) := rfl
theorem k243_998 : px_cod 243 998 = some ((.aload_n 2), 1, [], 2) := rfl
theorem k243_999 : px_cod 243 999 = some ((.aload_n 0), 1, [], 0) := rfl
theorem k243_1000 : px_cod 243 1000 = some ((.iload_n 3), 1, [], 3) := rfl
theorem k243_1001 : px_cod 243 1001 = some ((.iconst 1), 1, [], 1) := rfl
theorem k243_1002 : px_cod 243 1002 = some (.iadd, 1, [], 0) := rfl
theorem k243_1003 : px_cod 243 1003 = some (.iaload, 1, [], 0) := rfl
theorem k243_1004 : px_cod 243 1004 = some ((.invokevirtual 117), 3, [0, 290, 225], 0) := rfl
theorem k243_1007 : px_cod 243 1007 = some ((.if_icmp .eq 166), 3, [1173], 0) := rfl
theorem k243_1010 : px_cod 243 1010 = some ((.iconst 0), 1, [], 0) := rfl
theorem k243_1011 : px_cod 243 1011 = some (.ireturn, 1, [], 0) := rfl
theorem k243_1012 : px_cod 243 1012 = some ((.aload_n 1), 1, [], 1) := rfl
theorem k243_1013 : px_cod 243 1013 = some ((.invokevirtual 118), 3, [0, 171, 23], 0) := rfl
theorem k243_1016 : px_cod 243 1016 = some ((.aload_n 2), 1, [], 2) := rfl
theorem k243_1017 : px_cod 243 1017 = some ((.invokevirtual 121), 3, [0, 291, 227], 0) := rfl
theorem k243_1020 : px_cod 243 1020 = some ((.if_icmp .eq 153), 3, [1173], 0) := rfl
theorem k243_1023 : px_cod 243 1023 = some ((.iconst 0), 1, [], 0) := rfl
theorem k243_1024 : px_cod 243 1024 = some (.ireturn, 1, [], 0) := rfl
theorem k243_1025 : px_cod 243 1025 = some ((.aload_n 1), 1, [], 1) := rfl
theorem k243_1026 : px_cod 243 1026 = some ((.aload_n 0), 1, [], 0) := rfl
theorem k243_1027 : px_cod 243 1027 = some ((.iload_n 3), 1, [], 3) := rfl
theorem k243_1028 : px_cod 243 1028 = some ((.iconst 1), 1, [], 1) := rfl
theorem k243_1029 : px_cod 243 1029 = some (.iadd, 1, [], 0) := rfl
theorem k243_1030 : px_cod 243 1030 = some (.iaload, 1, [], 0) := rfl
theorem k243_1031 : px_cod 243 1031 = some ((.aload_n 0), 1, [], 0) := rfl
theorem k243_1032 : px_cod 243 1032 = some ((.iload_n 3), 1, [], 3) := rfl
theorem k243_1033 : px_cod 243 1033 = some ((.iconst 2), 1, [], 2) := rfl
theorem k243_1034 : px_cod 243 1034 = some (.iadd, 1, [], 0) := rfl
theorem k243_1035 : px_cod 243 1035 = some (.iaload, 1, [], 0) := rfl
theorem k243_1036 : px_cod 243 1036 = some ((.aload_n 0), 1, [], 0) := rfl
theorem k243_1037 : px_cod 243 1037 = some ((.iload_n 3), 1, [], 3) := rfl
theorem k243_1038 : px_cod 243 1038 = some ((.iconst 3), 1, [], 3) := rfl
theorem k243_1039 : px_cod 243 1039 = some (.iadd, 1, [], 0) := rfl
theorem k243_1040 : px_cod 243 1040 = some (.iaload, 1, [], 0) := rfl
theorem k243_1041 : px_cod 243 1041 = some ((.invokevirtual 122), 3, [0, 176, 24], 0) := rfl
theorem k243_1044 : px_cod 243 1044 = some ((.aload_n 2), 1, [], 2) := rfl
theorem k243_1045 : px_cod 243 1045 = some ((.aload_n 0), 1, [], 0) := rfl
theorem k243_1046 : px_cod 243 1046 = some ((.iload_n 3), 1, [], 3) := rfl
theorem k243_1047 : px_cod 243 1047 = some ((.iconst 1), 1, [], 1) := rfl
theorem k243_1048 : px_cod 243 1048 = some (.iadd, 1, [], 0) := rfl
theorem k243_1049 : px_cod 243 1049 = some (.iaload, 1, [], 0) := rfl
theorem k243_1050 : px_cod 243 1050 = some ((.aload_n 0), 1, [], 0) := rfl
theorem k243_1051 : px_cod 243 1051 = some ((.iload_n 3), 1, [], 3) := rfl
theorem k243_1052 : px_cod 243 1052 = some ((.iconst 2), 1, [], 2) := rfl
theorem k243_1053 : px_cod 243 1053 = some (.iadd, 1, [], 0) := rfl
theorem k243_1054 : px_cod 243 1054 = some (.iaload, 1, [], 0) := rfl
theorem k243_1055 : px_cod 243 1055 = some ((.aload_n 0), 1, [], 0) := rfl
theorem k243_1056 : px_cod 243 1056 = some ((.iload_n 3), 1, [], 3) := rfl
theorem k243_1057 : px_cod 243 1057 = some ((.iconst 3), 1, [], 3) := rfl
theorem k243_1058 : px_cod 243 1058 = some (.iadd, 1, [], 0) := rfl
theorem k243_1059 : px_cod 243 1059 = some (.iaload, 1, [], 0) := rfl
theorem k243_1060 : px_cod 243 1060 = some ((.invokevirtual 125), 3, [0, 293, 228], 0) := rfl
theorem k243_1063 : px_cod 243 1063 = some ((.if_icmp .eq 110), 3, [1173], 0) := rfl
theorem k243_1066 : px_cod 243 1066 = some ((.iconst 0), 1, [], 0) := rfl
theorem k243_1067 : px_cod 243 1067 = some (.ireturn, 1, [], 0) := rfl
theorem k243_1068 : px_cod 243 1068 = some ((.aload_n 1), 1, [], 1) := rfl
theorem k243_1069 : px_cod 243 1069 = some ((.aload_n 0), 1, [], 0) := rfl
theorem k243_1070 : px_cod 243 1070 = some ((.iload_n 3), 1, [], 3) := rfl
theorem k243_1071 : px_cod 243 1071 = some ((.iconst 1), 1, [], 1) := rfl
theorem k243_1072 : px_cod 243 1072 = some (.iadd, 1, [], 0) := rfl
theorem k243_1073 : px_cod 243 1073 = some (.iaload, 1, [], 0) := rfl
theorem k243_1074 : px_cod 243 1074 = some ((.invokevirtual 126), 3, [0, 179, 25], 0) := rfl
theorem k243_1077 : px_cod 243 1077 = some ((.aload_n 2), 1, [], 2) := rfl
theorem k243_1078 : px_cod 243 1078 = some ((.aload_n 0), 1, [], 0) := rfl
theorem k243_1079 : px_cod 243 1079 = some ((.iload_n 3), 1, [], 3) := rfl
theorem k243_1080 : px_cod 243 1080 = some ((.iconst 1), 1, [], 1) := rfl
theorem k243_1081 : px_cod 243 1081 = some (.iadd, 1, [], 0) := rfl
theorem k243_1082 : px_cod 243 1082 = some (.iaload, 1, [], 0) := rfl
theorem k243_1083 : px_cod 243 1083 = some ((.invokevirtual 129), 3, [0, 294, 230], 0) := rfl
theorem k243_1086 : px_cod 243 1086 = some ((.if_icmp .eq 87), 3, [1173], 0) := rfl
theorem k243_1089 : px_cod 243 1089 = some ((.iconst 0), 1, [], 0) := rfl
theorem k243_1090 : px_cod 243 1090 = some (.ireturn, 1, [], 0) := rfl
theorem k243_1091 : px_cod 243 1091 = some ((.aload_n 1), 1, [], 1) := rfl
theorem k243_1092 : px_cod 243 1092 = some ((.aload_n 0), 1, [], 0) := rfl
theorem k243_1093 : px_cod 243 1093 = some ((.iload_n 3), 1, [], 3) := rfl
theorem k243_1094 : px_cod 243 1094 = some ((.iconst 1), 1, [], 1) := rfl
theorem k243_1095 : px_cod 243 1095 = some (.iadd, 1, [], 0) := rfl
theorem k243_1096 : px_cod 243 1096 = some (.iaload, 1, [], 0) := rfl
theorem k243_1097 : px_cod 243 1097 = some ((.aload_n 0), 1, [], 0) := rfl
theorem k243_1098 : px_cod 243 1098 = some ((.iload_n 3), 1, [], 3) := rfl
theorem k243_1099 : px_cod 243 1099 = some ((.iconst 2), 1, [], 2) := rfl
theorem k243_1100 : px_cod 243 1100 = some (.iadd, 1, [], 0) := rfl
theorem k243_1101 : px_cod 243 1101 = some (.iaload, 1, [], 0) := rfl
theorem k243_1102 : px_cod 243 1102 = some ((.invokevirtual 130), 3, [0, 183, 26], 0) := rfl
theorem k243_1105 : px_cod 243 1105 = some ((.aload_n 2), 1, [], 2) := rfl
theorem k243_1106 : px_cod 243 1106 = some ((.aload_n 0), 1, [], 0) := rfl
theorem k243_1107 : px_cod 243 1107 = some ((.iload_n 3), 1, [], 3) := rfl
theorem k243_1108 : px_cod 243 1108 = some ((.iconst 1), 1, [], 1) := rfl
theorem k243_1109 : px_cod 243 1109 = some (.iadd, 1, [], 0) := rfl
theorem k243_1110 : px_cod 243 1110 = some (.iaload, 1, [], 0) := rfl
theorem k243_1111 : px_cod 243 1111 = some ((.aload_n 0), 1, [], 0) := rfl
theorem k243_1112 : px_cod 243 1112 = some ((.iload_n 3), 1, [], 3) := rfl
theorem k243_1113 : px_cod 243 1113 = some ((.iconst 2), 1, [], 2) := rfl
theorem k243_1114 : px_cod 243 1114 = some (.iadd, 1, [], 0) := rfl
theorem k243_1115 : px_cod 243 1115 = some (.iaload, 1, [], 0) := rfl
theorem k243_1116 : px_cod 243 1116 = some ((.invokevirtual 133), 3, [0, 296, 232], 0) := rfl
theorem k243_1119 : px_cod 243 1119 = some ((.if_icmp .eq 54), 3, [1173], 0) := rfl
theorem k243_1122 : px_cod 243 1122 = some ((.iconst 0), 1, [], 0) := rfl
theorem k243_1123 : px_cod 243 1123 = some (.ireturn, 1, [], 0) := rfl
theorem k243_1124 : px_cod 243 1124 = some ((.aload_n 1), 1, [], 1) := rfl
theorem k243_1125 : px_cod 243 1125 = some ((.invokevirtual 134), 3, [0, 186, 27], 0) := rfl
theorem k243_1128 : px_cod 243 1128 = some ((.aload_n 2), 1, [], 2) := rfl
theorem k243_1129 : px_cod 243 1129 = some ((.invokevirtual 137), 3, [0, 298, 233], 0) := rfl
theorem k243_1132 : px_cod 243 1132 = some ((.if_icmp .eq 41), 3, [1173], 0) := rfl
theorem k243_1135 : px_cod 243 1135 = some ((.iconst 0), 1, [], 0) := rfl
theorem k243_1136 : px_cod 243 1136 = some (.ireturn, 1, [], 0) := rfl
theorem k243_1137 : px_cod 243 1137 = some ((.aload_n 1), 1, [], 1) := rfl
theorem k243_1138 : px_cod 243 1138 = some ((.invokevirtual 138), 3, [0, 197, 28], 0) := rfl
theorem k243_1141 : px_cod 243 1141 = some ((.aload_n 2), 1, [], 2) := rfl
theorem k243_1142 : px_cod 243 1142 = some ((.invokevirtual 141), 3, [0, 299, 234], 0) := rfl
theorem k243_1145 : px_cod 243 1145 = some ((.if_icmp .eq 28), 3, [1173], 0) := rfl
theorem k243_1148 : px_cod 243 1148 = some ((.iconst 0), 1, [], 0) := rfl
theorem k243_1149 : px_cod 243 1149 = some (.ireturn, 1, [], 0) := rfl
theorem k243_1150 : px_cod 243 1150 = some ((.aload_n 1), 1, [], 1) := rfl
theorem k243_1151 : px_cod 243 1151 = some ((.aload_n 0), 1, [], 0) := rfl
theorem k243_1152 : px_cod 243 1152 = some ((.iload_n 3), 1, [], 3) := rfl
theorem k243_1153 : px_cod 243 1153 = some ((.iconst 1), 1, [], 1) := rfl
theorem k243_1154 : px_cod 243 1154 = some (.iadd, 1, [], 0) := rfl
theorem k243_1155 : px_cod 243 1155 = some (.iaload, 1, [], 0) := rfl
theorem k243_1156 : px_cod 243 1156 = some ((.invokevirtual 142), 3, [0, 198, 29], 0) := rfl
theorem k243_1159 : px_cod 243 1159 = some ((.aload_n 2), 1, [], 2) := rfl
theorem k243_1160 : px_cod 243 1160 = some ((.aload_n 0), 1, [], 0) := rfl
theorem k243_1161 : px_cod 243 1161 = some ((.iload_n 3), 1, [], 3) := rfl
theorem k243_1162 : px_cod 243 1162 = some ((.iconst 1), 1, [], 1) := rfl
theorem k243_1163 : px_cod 243 1163 = some (.iadd, 1, [], 0) := rfl
theorem k243_1164 : px_cod 243 1164 = some (.iaload, 1, [], 0) := rfl
theorem k243_1165 : px_cod 243 1165 = some ((.invokevirtual 145), 3, [0, 300, 235], 0) := rfl
theorem k243_1168 : px_cod 243 1168 = some ((.if_icmp .eq 5), 3, [1173], 0) := rfl
theorem k243_1171 : px_cod 243 1171 = some ((.iconst 0), 1, [], 0) := rfl
theorem k243_1172 : px_cod 243 1172 = some (.ireturn, 1, [], 0) := rfl
theorem k243_1173 : px_cod 243 1173 = some ((.iinc 3 8), 3, [3], 8) := rfl
theorem k243_1176 : px_cod 243 1176 = some ((.goto (-1138)), 3, [38], 0) := rfl
theorem k243_1179 : px_cod 243 1179 = some ((.iconst 1), 1, [], 1) := rfl
theorem k243_1180 : px_cod 243 1180 = some (.ireturn, 1, [], 0) := rfl
section PXL
variable {L t : Nat} {r : MR}
-- TideGuestsLaw.law ('law',)
theorem b243_36 (hr : px_hr r) (d : Nat) (i l : MI)  : px_X d 243 (36, [vR 0, vR 3, vR 123, vJ], []) (px_sh L, i, l, r, t) = px_X d 243 (38, [vR 0, vR 3, vR 123, vI 2], []) (px_sh L, i, l, r, t) := ((xs_ic k243_36 (by omega)).trans (xs_istn k243_37 (Nat.le_of_ble_eq_true rfl) (ls' := [vR 0, vR 3, vR 123, vI 2]) rfl))
theorem b243_38 (hr : px_hr r) (d : Nat) (i l : MI) (x3 : Int) (h1 : (¬ ((px_w32 ((L : Int) - 8)) < x3)) → 0 ≤ x3 ∧ x3 < (L : Int)) (h2 : (¬ ((px_w32 ((L : Int) - 8)) < x3)) → ((px_and (i 0 x3) 31) = 0) → 0 ≤ (px_w32 (x3 + 1)) ∧ (px_w32 (x3 + 1)) < (L : Int)) (h3 : (¬ ((px_w32 ((L : Int) - 8)) < x3)) → ((px_and (i 0 x3) 31) = 0) → 0 ≤ (px_w32 (x3 + 2)) ∧ (px_w32 (x3 + 2)) < (L : Int)) (h4 : (¬ ((px_w32 ((L : Int) - 8)) < x3)) → ((px_and (i 0 x3) 31) = 0) → 0 ≤ (px_w32 (x3 + 3)) ∧ (px_w32 (x3 + 3)) < (L : Int)) (h5 : (¬ ((px_w32 ((L : Int) - 8)) < x3)) → (¬ ((px_and (i 0 x3) 31) = 0)) → ((px_and (i 0 x3) 31) = 1) → 0 ≤ (px_w32 (x3 + 1)) ∧ (px_w32 (x3 + 1)) < (L : Int)) (h6 : (¬ ((px_w32 ((L : Int) - 8)) < x3)) → (¬ ((px_and (i 0 x3) 31) = 0)) → (¬ ((px_and (i 0 x3) 31) = 1)) → ((px_and (i 0 x3) 31) = 2) → 0 ≤ (px_w32 (x3 + 1)) ∧ (px_w32 (x3 + 1)) < (L : Int)) (h7 : (¬ ((px_w32 ((L : Int) - 8)) < x3)) → (¬ ((px_and (i 0 x3) 31) = 0)) → (¬ ((px_and (i 0 x3) 31) = 1)) → ((px_and (i 0 x3) 31) = 2) → 0 ≤ (px_w32 (x3 + 2)) ∧ (px_w32 (x3 + 2)) < (L : Int)) (h8 : (¬ ((px_w32 ((L : Int) - 8)) < x3)) → (¬ ((px_and (i 0 x3) 31) = 0)) → (¬ ((px_and (i 0 x3) 31) = 1)) → (¬ ((px_and (i 0 x3) 31) = 2)) → ((px_and (i 0 x3) 31) = 3) → 0 ≤ (px_w32 (x3 + 1)) ∧ (px_w32 (x3 + 1)) < (L : Int)) (h9 : (¬ ((px_w32 ((L : Int) - 8)) < x3)) → (¬ ((px_and (i 0 x3) 31) = 0)) → (¬ ((px_and (i 0 x3) 31) = 1)) → (¬ ((px_and (i 0 x3) 31) = 2)) → ((px_and (i 0 x3) 31) = 3) → 0 ≤ (px_w32 (x3 + 2)) ∧ (px_w32 (x3 + 2)) < (L : Int)) (h10 : (¬ ((px_w32 ((L : Int) - 8)) < x3)) → (¬ ((px_and (i 0 x3) 31) = 0)) → (¬ ((px_and (i 0 x3) 31) = 1)) → (¬ ((px_and (i 0 x3) 31) = 2)) → (¬ ((px_and (i 0 x3) 31) = 3)) → ((px_and (i 0 x3) 31) = 4) → 0 ≤ (px_w32 (x3 + 1)) ∧ (px_w32 (x3 + 1)) < (L : Int)) (h11 : (¬ ((px_w32 ((L : Int) - 8)) < x3)) → (¬ ((px_and (i 0 x3) 31) = 0)) → (¬ ((px_and (i 0 x3) 31) = 1)) → (¬ ((px_and (i 0 x3) 31) = 2)) → (¬ ((px_and (i 0 x3) 31) = 3)) → ((px_and (i 0 x3) 31) = 4) → 0 ≤ (px_w32 (x3 + 2)) ∧ (px_w32 (x3 + 2)) < (L : Int)) (h12 : (¬ ((px_w32 ((L : Int) - 8)) < x3)) → (¬ ((px_and (i 0 x3) 31) = 0)) → (¬ ((px_and (i 0 x3) 31) = 1)) → (¬ ((px_and (i 0 x3) 31) = 2)) → (¬ ((px_and (i 0 x3) 31) = 3)) → ((px_and (i 0 x3) 31) = 4) → 0 ≤ (px_w32 (x3 + 3)) ∧ (px_w32 (x3 + 3)) < (L : Int)) (h13 : (¬ ((px_w32 ((L : Int) - 8)) < x3)) → (¬ ((px_and (i 0 x3) 31) = 0)) → (¬ ((px_and (i 0 x3) 31) = 1)) → (¬ ((px_and (i 0 x3) 31) = 2)) → (¬ ((px_and (i 0 x3) 31) = 3)) → (¬ ((px_and (i 0 x3) 31) = 4)) → ((px_and (i 0 x3) 31) = 5) → 0 ≤ (px_w32 (x3 + 1)) ∧ (px_w32 (x3 + 1)) < (L : Int)) (h14 : (¬ ((px_w32 ((L : Int) - 8)) < x3)) → (¬ ((px_and (i 0 x3) 31) = 0)) → (¬ ((px_and (i 0 x3) 31) = 1)) → (¬ ((px_and (i 0 x3) 31) = 2)) → (¬ ((px_and (i 0 x3) 31) = 3)) → (¬ ((px_and (i 0 x3) 31) = 4)) → ((px_and (i 0 x3) 31) = 5) → 0 ≤ (px_w32 (x3 + 2)) ∧ (px_w32 (x3 + 2)) < (L : Int)) (h15 : (¬ ((px_w32 ((L : Int) - 8)) < x3)) → (¬ ((px_and (i 0 x3) 31) = 0)) → (¬ ((px_and (i 0 x3) 31) = 1)) → (¬ ((px_and (i 0 x3) 31) = 2)) → (¬ ((px_and (i 0 x3) 31) = 3)) → (¬ ((px_and (i 0 x3) 31) = 4)) → ((px_and (i 0 x3) 31) = 5) → 0 ≤ (px_w32 (x3 + 3)) ∧ (px_w32 (x3 + 3)) < (L : Int)) (h16 : (¬ ((px_w32 ((L : Int) - 8)) < x3)) → (¬ ((px_and (i 0 x3) 31) = 0)) → (¬ ((px_and (i 0 x3) 31) = 1)) → (¬ ((px_and (i 0 x3) 31) = 2)) → (¬ ((px_and (i 0 x3) 31) = 3)) → (¬ ((px_and (i 0 x3) 31) = 4)) → (¬ ((px_and (i 0 x3) 31) = 5)) → ((px_and (i 0 x3) 31) = 6) → 0 ≤ (px_w32 (x3 + 1)) ∧ (px_w32 (x3 + 1)) < (L : Int)) (h17 : (¬ ((px_w32 ((L : Int) - 8)) < x3)) → (¬ ((px_and (i 0 x3) 31) = 0)) → (¬ ((px_and (i 0 x3) 31) = 1)) → (¬ ((px_and (i 0 x3) 31) = 2)) → (¬ ((px_and (i 0 x3) 31) = 3)) → (¬ ((px_and (i 0 x3) 31) = 4)) → (¬ ((px_and (i 0 x3) 31) = 5)) → ((px_and (i 0 x3) 31) = 6) → 0 ≤ (px_w32 (x3 + 2)) ∧ (px_w32 (x3 + 2)) < (L : Int)) (h18 : (¬ ((px_w32 ((L : Int) - 8)) < x3)) → (¬ ((px_and (i 0 x3) 31) = 0)) → (¬ ((px_and (i 0 x3) 31) = 1)) → (¬ ((px_and (i 0 x3) 31) = 2)) → (¬ ((px_and (i 0 x3) 31) = 3)) → (¬ ((px_and (i 0 x3) 31) = 4)) → (¬ ((px_and (i 0 x3) 31) = 5)) → ((px_and (i 0 x3) 31) = 6) → 0 ≤ (px_w32 (x3 + 3)) ∧ (px_w32 (x3 + 3)) < (L : Int)) (h19 : (¬ ((px_w32 ((L : Int) - 8)) < x3)) → (¬ ((px_and (i 0 x3) 31) = 0)) → (¬ ((px_and (i 0 x3) 31) = 1)) → (¬ ((px_and (i 0 x3) 31) = 2)) → (¬ ((px_and (i 0 x3) 31) = 3)) → (¬ ((px_and (i 0 x3) 31) = 4)) → (¬ ((px_and (i 0 x3) 31) = 5)) → ((px_and (i 0 x3) 31) = 6) → 0 ≤ (px_w32 (x3 + 4)) ∧ (px_w32 (x3 + 4)) < (L : Int)) (h20 : (¬ ((px_w32 ((L : Int) - 8)) < x3)) → (¬ ((px_and (i 0 x3) 31) = 0)) → (¬ ((px_and (i 0 x3) 31) = 1)) → (¬ ((px_and (i 0 x3) 31) = 2)) → (¬ ((px_and (i 0 x3) 31) = 3)) → (¬ ((px_and (i 0 x3) 31) = 4)) → (¬ ((px_and (i 0 x3) 31) = 5)) → ((px_and (i 0 x3) 31) = 6) → 0 ≤ (px_w32 (x3 + 5)) ∧ (px_w32 (x3 + 5)) < (L : Int)) (h21 : (¬ ((px_w32 ((L : Int) - 8)) < x3)) → (¬ ((px_and (i 0 x3) 31) = 0)) → (¬ ((px_and (i 0 x3) 31) = 1)) → (¬ ((px_and (i 0 x3) 31) = 2)) → (¬ ((px_and (i 0 x3) 31) = 3)) → (¬ ((px_and (i 0 x3) 31) = 4)) → (¬ ((px_and (i 0 x3) 31) = 5)) → (¬ ((px_and (i 0 x3) 31) = 6)) → ((px_and (i 0 x3) 31) = 7) → 0 ≤ (px_w32 (x3 + 1)) ∧ (px_w32 (x3 + 1)) < (L : Int)) (h22 : (¬ ((px_w32 ((L : Int) - 8)) < x3)) → (¬ ((px_and (i 0 x3) 31) = 0)) → (¬ ((px_and (i 0 x3) 31) = 1)) → (¬ ((px_and (i 0 x3) 31) = 2)) → (¬ ((px_and (i 0 x3) 31) = 3)) → (¬ ((px_and (i 0 x3) 31) = 4)) → (¬ ((px_and (i 0 x3) 31) = 5)) → (¬ ((px_and (i 0 x3) 31) = 6)) → (¬ ((px_and (i 0 x3) 31) = 7)) → (¬ ((px_and (i 0 x3) 31) = 8)) → ((px_and (i 0 x3) 31) = 9) → 0 ≤ (px_w32 (x3 + 1)) ∧ (px_w32 (x3 + 1)) < (L : Int)) (h23 : (¬ ((px_w32 ((L : Int) - 8)) < x3)) → (¬ ((px_and (i 0 x3) 31) = 0)) → (¬ ((px_and (i 0 x3) 31) = 1)) → (¬ ((px_and (i 0 x3) 31) = 2)) → (¬ ((px_and (i 0 x3) 31) = 3)) → (¬ ((px_and (i 0 x3) 31) = 4)) → (¬ ((px_and (i 0 x3) 31) = 5)) → (¬ ((px_and (i 0 x3) 31) = 6)) → (¬ ((px_and (i 0 x3) 31) = 7)) → (¬ ((px_and (i 0 x3) 31) = 8)) → (¬ ((px_and (i 0 x3) 31) = 9)) → ((px_and (i 0 x3) 31) = 10) → 0 ≤ (px_w32 (x3 + 1)) ∧ (px_w32 (x3 + 1)) < (L : Int)) (h24 : (¬ ((px_w32 ((L : Int) - 8)) < x3)) → (¬ ((px_and (i 0 x3) 31) = 0)) → (¬ ((px_and (i 0 x3) 31) = 1)) → (¬ ((px_and (i 0 x3) 31) = 2)) → (¬ ((px_and (i 0 x3) 31) = 3)) → (¬ ((px_and (i 0 x3) 31) = 4)) → (¬ ((px_and (i 0 x3) 31) = 5)) → (¬ ((px_and (i 0 x3) 31) = 6)) → (¬ ((px_and (i 0 x3) 31) = 7)) → (¬ ((px_and (i 0 x3) 31) = 8)) → (¬ ((px_and (i 0 x3) 31) = 9)) → (¬ ((px_and (i 0 x3) 31) = 10)) → ((px_and (i 0 x3) 31) = 11) → 0 ≤ (px_w32 (x3 + 1)) ∧ (px_w32 (x3 + 1)) < (L : Int)) (h25 : (¬ ((px_w32 ((L : Int) - 8)) < x3)) → (¬ ((px_and (i 0 x3) 31) = 0)) → (¬ ((px_and (i 0 x3) 31) = 1)) → (¬ ((px_and (i 0 x3) 31) = 2)) → (¬ ((px_and (i 0 x3) 31) = 3)) → (¬ ((px_and (i 0 x3) 31) = 4)) → (¬ ((px_and (i 0 x3) 31) = 5)) → (¬ ((px_and (i 0 x3) 31) = 6)) → (¬ ((px_and (i 0 x3) 31) = 7)) → (¬ ((px_and (i 0 x3) 31) = 8)) → (¬ ((px_and (i 0 x3) 31) = 9)) → (¬ ((px_and (i 0 x3) 31) = 10)) → (¬ ((px_and (i 0 x3) 31) = 11)) → ((px_and (i 0 x3) 31) = 12) → 0 ≤ (px_w32 (x3 + 1)) ∧ (px_w32 (x3 + 1)) < (L : Int)) (h26 : (¬ ((px_w32 ((L : Int) - 8)) < x3)) → (¬ ((px_and (i 0 x3) 31) = 0)) → (¬ ((px_and (i 0 x3) 31) = 1)) → (¬ ((px_and (i 0 x3) 31) = 2)) → (¬ ((px_and (i 0 x3) 31) = 3)) → (¬ ((px_and (i 0 x3) 31) = 4)) → (¬ ((px_and (i 0 x3) 31) = 5)) → (¬ ((px_and (i 0 x3) 31) = 6)) → (¬ ((px_and (i 0 x3) 31) = 7)) → (¬ ((px_and (i 0 x3) 31) = 8)) → (¬ ((px_and (i 0 x3) 31) = 9)) → (¬ ((px_and (i 0 x3) 31) = 10)) → (¬ ((px_and (i 0 x3) 31) = 11)) → ((px_and (i 0 x3) 31) = 12) → 0 ≤ (px_w32 (x3 + 2)) ∧ (px_w32 (x3 + 2)) < (L : Int)) (h27 : (¬ ((px_w32 ((L : Int) - 8)) < x3)) → (¬ ((px_and (i 0 x3) 31) = 0)) → (¬ ((px_and (i 0 x3) 31) = 1)) → (¬ ((px_and (i 0 x3) 31) = 2)) → (¬ ((px_and (i 0 x3) 31) = 3)) → (¬ ((px_and (i 0 x3) 31) = 4)) → (¬ ((px_and (i 0 x3) 31) = 5)) → (¬ ((px_and (i 0 x3) 31) = 6)) → (¬ ((px_and (i 0 x3) 31) = 7)) → (¬ ((px_and (i 0 x3) 31) = 8)) → (¬ ((px_and (i 0 x3) 31) = 9)) → (¬ ((px_and (i 0 x3) 31) = 10)) → (¬ ((px_and (i 0 x3) 31) = 11)) → (¬ ((px_and (i 0 x3) 31) = 12)) → ((px_and (i 0 x3) 31) = 13) → 0 ≤ (px_w32 (x3 + 1)) ∧ (px_w32 (x3 + 1)) < (L : Int)) (h28 : (¬ ((px_w32 ((L : Int) - 8)) < x3)) → (¬ ((px_and (i 0 x3) 31) = 0)) → (¬ ((px_and (i 0 x3) 31) = 1)) → (¬ ((px_and (i 0 x3) 31) = 2)) → (¬ ((px_and (i 0 x3) 31) = 3)) → (¬ ((px_and (i 0 x3) 31) = 4)) → (¬ ((px_and (i 0 x3) 31) = 5)) → (¬ ((px_and (i 0 x3) 31) = 6)) → (¬ ((px_and (i 0 x3) 31) = 7)) → (¬ ((px_and (i 0 x3) 31) = 8)) → (¬ ((px_and (i 0 x3) 31) = 9)) → (¬ ((px_and (i 0 x3) 31) = 10)) → (¬ ((px_and (i 0 x3) 31) = 11)) → (¬ ((px_and (i 0 x3) 31) = 12)) → ((px_and (i 0 x3) 31) = 13) → 0 ≤ (px_w32 (x3 + 2)) ∧ (px_w32 (x3 + 2)) < (L : Int)) (h29 : (¬ ((px_w32 ((L : Int) - 8)) < x3)) → (¬ ((px_and (i 0 x3) 31) = 0)) → (¬ ((px_and (i 0 x3) 31) = 1)) → (¬ ((px_and (i 0 x3) 31) = 2)) → (¬ ((px_and (i 0 x3) 31) = 3)) → (¬ ((px_and (i 0 x3) 31) = 4)) → (¬ ((px_and (i 0 x3) 31) = 5)) → (¬ ((px_and (i 0 x3) 31) = 6)) → (¬ ((px_and (i 0 x3) 31) = 7)) → (¬ ((px_and (i 0 x3) 31) = 8)) → (¬ ((px_and (i 0 x3) 31) = 9)) → (¬ ((px_and (i 0 x3) 31) = 10)) → (¬ ((px_and (i 0 x3) 31) = 11)) → (¬ ((px_and (i 0 x3) 31) = 12)) → ((px_and (i 0 x3) 31) = 13) → 0 ≤ (px_w32 (x3 + 3)) ∧ (px_w32 (x3 + 3)) < (L : Int)) (h30 : (¬ ((px_w32 ((L : Int) - 8)) < x3)) → (¬ ((px_and (i 0 x3) 31) = 0)) → (¬ ((px_and (i 0 x3) 31) = 1)) → (¬ ((px_and (i 0 x3) 31) = 2)) → (¬ ((px_and (i 0 x3) 31) = 3)) → (¬ ((px_and (i 0 x3) 31) = 4)) → (¬ ((px_and (i 0 x3) 31) = 5)) → (¬ ((px_and (i 0 x3) 31) = 6)) → (¬ ((px_and (i 0 x3) 31) = 7)) → (¬ ((px_and (i 0 x3) 31) = 8)) → (¬ ((px_and (i 0 x3) 31) = 9)) → (¬ ((px_and (i 0 x3) 31) = 10)) → (¬ ((px_and (i 0 x3) 31) = 11)) → (¬ ((px_and (i 0 x3) 31) = 12)) → (¬ ((px_and (i 0 x3) 31) = 13)) → ((px_and (i 0 x3) 31) = 14) → 0 ≤ (px_w32 (x3 + 1)) ∧ (px_w32 (x3 + 1)) < (L : Int)) (h31 : (¬ ((px_w32 ((L : Int) - 8)) < x3)) → (¬ ((px_and (i 0 x3) 31) = 0)) → (¬ ((px_and (i 0 x3) 31) = 1)) → (¬ ((px_and (i 0 x3) 31) = 2)) → (¬ ((px_and (i 0 x3) 31) = 3)) → (¬ ((px_and (i 0 x3) 31) = 4)) → (¬ ((px_and (i 0 x3) 31) = 5)) → (¬ ((px_and (i 0 x3) 31) = 6)) → (¬ ((px_and (i 0 x3) 31) = 7)) → (¬ ((px_and (i 0 x3) 31) = 8)) → (¬ ((px_and (i 0 x3) 31) = 9)) → (¬ ((px_and (i 0 x3) 31) = 10)) → (¬ ((px_and (i 0 x3) 31) = 11)) → (¬ ((px_and (i 0 x3) 31) = 12)) → (¬ ((px_and (i 0 x3) 31) = 13)) → ((px_and (i 0 x3) 31) = 14) → 0 ≤ (px_w32 (x3 + 2)) ∧ (px_w32 (x3 + 2)) < (L : Int)) (h32 : (¬ ((px_w32 ((L : Int) - 8)) < x3)) → (¬ ((px_and (i 0 x3) 31) = 0)) → (¬ ((px_and (i 0 x3) 31) = 1)) → (¬ ((px_and (i 0 x3) 31) = 2)) → (¬ ((px_and (i 0 x3) 31) = 3)) → (¬ ((px_and (i 0 x3) 31) = 4)) → (¬ ((px_and (i 0 x3) 31) = 5)) → (¬ ((px_and (i 0 x3) 31) = 6)) → (¬ ((px_and (i 0 x3) 31) = 7)) → (¬ ((px_and (i 0 x3) 31) = 8)) → (¬ ((px_and (i 0 x3) 31) = 9)) → (¬ ((px_and (i 0 x3) 31) = 10)) → (¬ ((px_and (i 0 x3) 31) = 11)) → (¬ ((px_and (i 0 x3) 31) = 12)) → (¬ ((px_and (i 0 x3) 31) = 13)) → (¬ ((px_and (i 0 x3) 31) = 14)) → ((px_and (i 0 x3) 31) = 15) → 0 ≤ (px_w32 (x3 + 1)) ∧ (px_w32 (x3 + 1)) < (L : Int)) (h33 : (¬ ((px_w32 ((L : Int) - 8)) < x3)) → (¬ ((px_and (i 0 x3) 31) = 0)) → (¬ ((px_and (i 0 x3) 31) = 1)) → (¬ ((px_and (i 0 x3) 31) = 2)) → (¬ ((px_and (i 0 x3) 31) = 3)) → (¬ ((px_and (i 0 x3) 31) = 4)) → (¬ ((px_and (i 0 x3) 31) = 5)) → (¬ ((px_and (i 0 x3) 31) = 6)) → (¬ ((px_and (i 0 x3) 31) = 7)) → (¬ ((px_and (i 0 x3) 31) = 8)) → (¬ ((px_and (i 0 x3) 31) = 9)) → (¬ ((px_and (i 0 x3) 31) = 10)) → (¬ ((px_and (i 0 x3) 31) = 11)) → (¬ ((px_and (i 0 x3) 31) = 12)) → (¬ ((px_and (i 0 x3) 31) = 13)) → (¬ ((px_and (i 0 x3) 31) = 14)) → ((px_and (i 0 x3) 31) = 15) → 0 ≤ (px_w32 (x3 + 2)) ∧ (px_w32 (x3 + 2)) < (L : Int)) (h34 : (¬ ((px_w32 ((L : Int) - 8)) < x3)) → (¬ ((px_and (i 0 x3) 31) = 0)) → (¬ ((px_and (i 0 x3) 31) = 1)) → (¬ ((px_and (i 0 x3) 31) = 2)) → (¬ ((px_and (i 0 x3) 31) = 3)) → (¬ ((px_and (i 0 x3) 31) = 4)) → (¬ ((px_and (i 0 x3) 31) = 5)) → (¬ ((px_and (i 0 x3) 31) = 6)) → (¬ ((px_and (i 0 x3) 31) = 7)) → (¬ ((px_and (i 0 x3) 31) = 8)) → (¬ ((px_and (i 0 x3) 31) = 9)) → (¬ ((px_and (i 0 x3) 31) = 10)) → (¬ ((px_and (i 0 x3) 31) = 11)) → (¬ ((px_and (i 0 x3) 31) = 12)) → (¬ ((px_and (i 0 x3) 31) = 13)) → (¬ ((px_and (i 0 x3) 31) = 14)) → (¬ ((px_and (i 0 x3) 31) = 15)) → ((px_and (i 0 x3) 31) = 16) → 0 ≤ (px_w32 (x3 + 1)) ∧ (px_w32 (x3 + 1)) < (L : Int)) (h35 : (¬ ((px_w32 ((L : Int) - 8)) < x3)) → (¬ ((px_and (i 0 x3) 31) = 0)) → (¬ ((px_and (i 0 x3) 31) = 1)) → (¬ ((px_and (i 0 x3) 31) = 2)) → (¬ ((px_and (i 0 x3) 31) = 3)) → (¬ ((px_and (i 0 x3) 31) = 4)) → (¬ ((px_and (i 0 x3) 31) = 5)) → (¬ ((px_and (i 0 x3) 31) = 6)) → (¬ ((px_and (i 0 x3) 31) = 7)) → (¬ ((px_and (i 0 x3) 31) = 8)) → (¬ ((px_and (i 0 x3) 31) = 9)) → (¬ ((px_and (i 0 x3) 31) = 10)) → (¬ ((px_and (i 0 x3) 31) = 11)) → (¬ ((px_and (i 0 x3) 31) = 12)) → (¬ ((px_and (i 0 x3) 31) = 13)) → (¬ ((px_and (i 0 x3) 31) = 14)) → (¬ ((px_and (i 0 x3) 31) = 15)) → ((px_and (i 0 x3) 31) = 16) → 0 ≤ (px_w32 (x3 + 2)) ∧ (px_w32 (x3 + 2)) < (L : Int)) (h36 : (¬ ((px_w32 ((L : Int) - 8)) < x3)) → (¬ ((px_and (i 0 x3) 31) = 0)) → (¬ ((px_and (i 0 x3) 31) = 1)) → (¬ ((px_and (i 0 x3) 31) = 2)) → (¬ ((px_and (i 0 x3) 31) = 3)) → (¬ ((px_and (i 0 x3) 31) = 4)) → (¬ ((px_and (i 0 x3) 31) = 5)) → (¬ ((px_and (i 0 x3) 31) = 6)) → (¬ ((px_and (i 0 x3) 31) = 7)) → (¬ ((px_and (i 0 x3) 31) = 8)) → (¬ ((px_and (i 0 x3) 31) = 9)) → (¬ ((px_and (i 0 x3) 31) = 10)) → (¬ ((px_and (i 0 x3) 31) = 11)) → (¬ ((px_and (i 0 x3) 31) = 12)) → (¬ ((px_and (i 0 x3) 31) = 13)) → (¬ ((px_and (i 0 x3) 31) = 14)) → (¬ ((px_and (i 0 x3) 31) = 15)) → ((px_and (i 0 x3) 31) = 16) → 0 ≤ (px_w32 (x3 + 3)) ∧ (px_w32 (x3 + 3)) < (L : Int)) (h37 : (¬ ((px_w32 ((L : Int) - 8)) < x3)) → (¬ ((px_and (i 0 x3) 31) = 0)) → (¬ ((px_and (i 0 x3) 31) = 1)) → (¬ ((px_and (i 0 x3) 31) = 2)) → (¬ ((px_and (i 0 x3) 31) = 3)) → (¬ ((px_and (i 0 x3) 31) = 4)) → (¬ ((px_and (i 0 x3) 31) = 5)) → (¬ ((px_and (i 0 x3) 31) = 6)) → (¬ ((px_and (i 0 x3) 31) = 7)) → (¬ ((px_and (i 0 x3) 31) = 8)) → (¬ ((px_and (i 0 x3) 31) = 9)) → (¬ ((px_and (i 0 x3) 31) = 10)) → (¬ ((px_and (i 0 x3) 31) = 11)) → (¬ ((px_and (i 0 x3) 31) = 12)) → (¬ ((px_and (i 0 x3) 31) = 13)) → (¬ ((px_and (i 0 x3) 31) = 14)) → (¬ ((px_and (i 0 x3) 31) = 15)) → (¬ ((px_and (i 0 x3) 31) = 16)) → ((px_and (i 0 x3) 31) = 17) → 0 ≤ (px_w32 (x3 + 1)) ∧ (px_w32 (x3 + 1)) < (L : Int)) (h38 : (¬ ((px_w32 ((L : Int) - 8)) < x3)) → (¬ ((px_and (i 0 x3) 31) = 0)) → (¬ ((px_and (i 0 x3) 31) = 1)) → (¬ ((px_and (i 0 x3) 31) = 2)) → (¬ ((px_and (i 0 x3) 31) = 3)) → (¬ ((px_and (i 0 x3) 31) = 4)) → (¬ ((px_and (i 0 x3) 31) = 5)) → (¬ ((px_and (i 0 x3) 31) = 6)) → (¬ ((px_and (i 0 x3) 31) = 7)) → (¬ ((px_and (i 0 x3) 31) = 8)) → (¬ ((px_and (i 0 x3) 31) = 9)) → (¬ ((px_and (i 0 x3) 31) = 10)) → (¬ ((px_and (i 0 x3) 31) = 11)) → (¬ ((px_and (i 0 x3) 31) = 12)) → (¬ ((px_and (i 0 x3) 31) = 13)) → (¬ ((px_and (i 0 x3) 31) = 14)) → (¬ ((px_and (i 0 x3) 31) = 15)) → (¬ ((px_and (i 0 x3) 31) = 16)) → (¬ ((px_and (i 0 x3) 31) = 17)) → ((px_and (i 0 x3) 31) = 18) → 0 ≤ (px_w32 (x3 + 1)) ∧ (px_w32 (x3 + 1)) < (L : Int)) (h39 : (¬ ((px_w32 ((L : Int) - 8)) < x3)) → (¬ ((px_and (i 0 x3) 31) = 0)) → (¬ ((px_and (i 0 x3) 31) = 1)) → (¬ ((px_and (i 0 x3) 31) = 2)) → (¬ ((px_and (i 0 x3) 31) = 3)) → (¬ ((px_and (i 0 x3) 31) = 4)) → (¬ ((px_and (i 0 x3) 31) = 5)) → (¬ ((px_and (i 0 x3) 31) = 6)) → (¬ ((px_and (i 0 x3) 31) = 7)) → (¬ ((px_and (i 0 x3) 31) = 8)) → (¬ ((px_and (i 0 x3) 31) = 9)) → (¬ ((px_and (i 0 x3) 31) = 10)) → (¬ ((px_and (i 0 x3) 31) = 11)) → (¬ ((px_and (i 0 x3) 31) = 12)) → (¬ ((px_and (i 0 x3) 31) = 13)) → (¬ ((px_and (i 0 x3) 31) = 14)) → (¬ ((px_and (i 0 x3) 31) = 15)) → (¬ ((px_and (i 0 x3) 31) = 16)) → (¬ ((px_and (i 0 x3) 31) = 17)) → ((px_and (i 0 x3) 31) = 18) → 0 ≤ (px_w32 (x3 + 2)) ∧ (px_w32 (x3 + 2)) < (L : Int)) (h40 : (¬ ((px_w32 ((L : Int) - 8)) < x3)) → (¬ ((px_and (i 0 x3) 31) = 0)) → (¬ ((px_and (i 0 x3) 31) = 1)) → (¬ ((px_and (i 0 x3) 31) = 2)) → (¬ ((px_and (i 0 x3) 31) = 3)) → (¬ ((px_and (i 0 x3) 31) = 4)) → (¬ ((px_and (i 0 x3) 31) = 5)) → (¬ ((px_and (i 0 x3) 31) = 6)) → (¬ ((px_and (i 0 x3) 31) = 7)) → (¬ ((px_and (i 0 x3) 31) = 8)) → (¬ ((px_and (i 0 x3) 31) = 9)) → (¬ ((px_and (i 0 x3) 31) = 10)) → (¬ ((px_and (i 0 x3) 31) = 11)) → (¬ ((px_and (i 0 x3) 31) = 12)) → (¬ ((px_and (i 0 x3) 31) = 13)) → (¬ ((px_and (i 0 x3) 31) = 14)) → (¬ ((px_and (i 0 x3) 31) = 15)) → (¬ ((px_and (i 0 x3) 31) = 16)) → (¬ ((px_and (i 0 x3) 31) = 17)) → ((px_and (i 0 x3) 31) = 18) → 0 ≤ (px_w32 (x3 + 3)) ∧ (px_w32 (x3 + 3)) < (L : Int)) (h41 : (¬ ((px_w32 ((L : Int) - 8)) < x3)) → (¬ ((px_and (i 0 x3) 31) = 0)) → (¬ ((px_and (i 0 x3) 31) = 1)) → (¬ ((px_and (i 0 x3) 31) = 2)) → (¬ ((px_and (i 0 x3) 31) = 3)) → (¬ ((px_and (i 0 x3) 31) = 4)) → (¬ ((px_and (i 0 x3) 31) = 5)) → (¬ ((px_and (i 0 x3) 31) = 6)) → (¬ ((px_and (i 0 x3) 31) = 7)) → (¬ ((px_and (i 0 x3) 31) = 8)) → (¬ ((px_and (i 0 x3) 31) = 9)) → (¬ ((px_and (i 0 x3) 31) = 10)) → (¬ ((px_and (i 0 x3) 31) = 11)) → (¬ ((px_and (i 0 x3) 31) = 12)) → (¬ ((px_and (i 0 x3) 31) = 13)) → (¬ ((px_and (i 0 x3) 31) = 14)) → (¬ ((px_and (i 0 x3) 31) = 15)) → (¬ ((px_and (i 0 x3) 31) = 16)) → (¬ ((px_and (i 0 x3) 31) = 17)) → ((px_and (i 0 x3) 31) = 18) → 0 ≤ (px_w32 (x3 + 4)) ∧ (px_w32 (x3 + 4)) < (L : Int)) (h42 : (¬ ((px_w32 ((L : Int) - 8)) < x3)) → (¬ ((px_and (i 0 x3) 31) = 0)) → (¬ ((px_and (i 0 x3) 31) = 1)) → (¬ ((px_and (i 0 x3) 31) = 2)) → (¬ ((px_and (i 0 x3) 31) = 3)) → (¬ ((px_and (i 0 x3) 31) = 4)) → (¬ ((px_and (i 0 x3) 31) = 5)) → (¬ ((px_and (i 0 x3) 31) = 6)) → (¬ ((px_and (i 0 x3) 31) = 7)) → (¬ ((px_and (i 0 x3) 31) = 8)) → (¬ ((px_and (i 0 x3) 31) = 9)) → (¬ ((px_and (i 0 x3) 31) = 10)) → (¬ ((px_and (i 0 x3) 31) = 11)) → (¬ ((px_and (i 0 x3) 31) = 12)) → (¬ ((px_and (i 0 x3) 31) = 13)) → (¬ ((px_and (i 0 x3) 31) = 14)) → (¬ ((px_and (i 0 x3) 31) = 15)) → (¬ ((px_and (i 0 x3) 31) = 16)) → (¬ ((px_and (i 0 x3) 31) = 17)) → (¬ ((px_and (i 0 x3) 31) = 18)) → ((px_and (i 0 x3) 31) = 19) → 0 ≤ (px_w32 (x3 + 1)) ∧ (px_w32 (x3 + 1)) < (L : Int)) (h43 : (¬ ((px_w32 ((L : Int) - 8)) < x3)) → (¬ ((px_and (i 0 x3) 31) = 0)) → (¬ ((px_and (i 0 x3) 31) = 1)) → (¬ ((px_and (i 0 x3) 31) = 2)) → (¬ ((px_and (i 0 x3) 31) = 3)) → (¬ ((px_and (i 0 x3) 31) = 4)) → (¬ ((px_and (i 0 x3) 31) = 5)) → (¬ ((px_and (i 0 x3) 31) = 6)) → (¬ ((px_and (i 0 x3) 31) = 7)) → (¬ ((px_and (i 0 x3) 31) = 8)) → (¬ ((px_and (i 0 x3) 31) = 9)) → (¬ ((px_and (i 0 x3) 31) = 10)) → (¬ ((px_and (i 0 x3) 31) = 11)) → (¬ ((px_and (i 0 x3) 31) = 12)) → (¬ ((px_and (i 0 x3) 31) = 13)) → (¬ ((px_and (i 0 x3) 31) = 14)) → (¬ ((px_and (i 0 x3) 31) = 15)) → (¬ ((px_and (i 0 x3) 31) = 16)) → (¬ ((px_and (i 0 x3) 31) = 17)) → (¬ ((px_and (i 0 x3) 31) = 18)) → ((px_and (i 0 x3) 31) = 19) → 0 ≤ (px_w32 (x3 + 2)) ∧ (px_w32 (x3 + 2)) < (L : Int)) (h44 : (¬ ((px_w32 ((L : Int) - 8)) < x3)) → (¬ ((px_and (i 0 x3) 31) = 0)) → (¬ ((px_and (i 0 x3) 31) = 1)) → (¬ ((px_and (i 0 x3) 31) = 2)) → (¬ ((px_and (i 0 x3) 31) = 3)) → (¬ ((px_and (i 0 x3) 31) = 4)) → (¬ ((px_and (i 0 x3) 31) = 5)) → (¬ ((px_and (i 0 x3) 31) = 6)) → (¬ ((px_and (i 0 x3) 31) = 7)) → (¬ ((px_and (i 0 x3) 31) = 8)) → (¬ ((px_and (i 0 x3) 31) = 9)) → (¬ ((px_and (i 0 x3) 31) = 10)) → (¬ ((px_and (i 0 x3) 31) = 11)) → (¬ ((px_and (i 0 x3) 31) = 12)) → (¬ ((px_and (i 0 x3) 31) = 13)) → (¬ ((px_and (i 0 x3) 31) = 14)) → (¬ ((px_and (i 0 x3) 31) = 15)) → (¬ ((px_and (i 0 x3) 31) = 16)) → (¬ ((px_and (i 0 x3) 31) = 17)) → (¬ ((px_and (i 0 x3) 31) = 18)) → (¬ ((px_and (i 0 x3) 31) = 19)) → ((px_and (i 0 x3) 31) = 20) → 0 ≤ (px_w32 (x3 + 1)) ∧ (px_w32 (x3 + 1)) < (L : Int)) (h45 : (¬ ((px_w32 ((L : Int) - 8)) < x3)) → (¬ ((px_and (i 0 x3) 31) = 0)) → (¬ ((px_and (i 0 x3) 31) = 1)) → (¬ ((px_and (i 0 x3) 31) = 2)) → (¬ ((px_and (i 0 x3) 31) = 3)) → (¬ ((px_and (i 0 x3) 31) = 4)) → (¬ ((px_and (i 0 x3) 31) = 5)) → (¬ ((px_and (i 0 x3) 31) = 6)) → (¬ ((px_and (i 0 x3) 31) = 7)) → (¬ ((px_and (i 0 x3) 31) = 8)) → (¬ ((px_and (i 0 x3) 31) = 9)) → (¬ ((px_and (i 0 x3) 31) = 10)) → (¬ ((px_and (i 0 x3) 31) = 11)) → (¬ ((px_and (i 0 x3) 31) = 12)) → (¬ ((px_and (i 0 x3) 31) = 13)) → (¬ ((px_and (i 0 x3) 31) = 14)) → (¬ ((px_and (i 0 x3) 31) = 15)) → (¬ ((px_and (i 0 x3) 31) = 16)) → (¬ ((px_and (i 0 x3) 31) = 17)) → (¬ ((px_and (i 0 x3) 31) = 18)) → (¬ ((px_and (i 0 x3) 31) = 19)) → ((px_and (i 0 x3) 31) = 20) → 0 ≤ (px_w32 (x3 + 2)) ∧ (px_w32 (x3 + 2)) < (L : Int)) (h46 : (¬ ((px_w32 ((L : Int) - 8)) < x3)) → (¬ ((px_and (i 0 x3) 31) = 0)) → (¬ ((px_and (i 0 x3) 31) = 1)) → (¬ ((px_and (i 0 x3) 31) = 2)) → (¬ ((px_and (i 0 x3) 31) = 3)) → (¬ ((px_and (i 0 x3) 31) = 4)) → (¬ ((px_and (i 0 x3) 31) = 5)) → (¬ ((px_and (i 0 x3) 31) = 6)) → (¬ ((px_and (i 0 x3) 31) = 7)) → (¬ ((px_and (i 0 x3) 31) = 8)) → (¬ ((px_and (i 0 x3) 31) = 9)) → (¬ ((px_and (i 0 x3) 31) = 10)) → (¬ ((px_and (i 0 x3) 31) = 11)) → (¬ ((px_and (i 0 x3) 31) = 12)) → (¬ ((px_and (i 0 x3) 31) = 13)) → (¬ ((px_and (i 0 x3) 31) = 14)) → (¬ ((px_and (i 0 x3) 31) = 15)) → (¬ ((px_and (i 0 x3) 31) = 16)) → (¬ ((px_and (i 0 x3) 31) = 17)) → (¬ ((px_and (i 0 x3) 31) = 18)) → (¬ ((px_and (i 0 x3) 31) = 19)) → (¬ ((px_and (i 0 x3) 31) = 20)) → ((px_and (i 0 x3) 31) = 21) → 0 ≤ (px_w32 (x3 + 1)) ∧ (px_w32 (x3 + 1)) < (L : Int)) (h47 : (¬ ((px_w32 ((L : Int) - 8)) < x3)) → (¬ ((px_and (i 0 x3) 31) = 0)) → (¬ ((px_and (i 0 x3) 31) = 1)) → (¬ ((px_and (i 0 x3) 31) = 2)) → (¬ ((px_and (i 0 x3) 31) = 3)) → (¬ ((px_and (i 0 x3) 31) = 4)) → (¬ ((px_and (i 0 x3) 31) = 5)) → (¬ ((px_and (i 0 x3) 31) = 6)) → (¬ ((px_and (i 0 x3) 31) = 7)) → (¬ ((px_and (i 0 x3) 31) = 8)) → (¬ ((px_and (i 0 x3) 31) = 9)) → (¬ ((px_and (i 0 x3) 31) = 10)) → (¬ ((px_and (i 0 x3) 31) = 11)) → (¬ ((px_and (i 0 x3) 31) = 12)) → (¬ ((px_and (i 0 x3) 31) = 13)) → (¬ ((px_and (i 0 x3) 31) = 14)) → (¬ ((px_and (i 0 x3) 31) = 15)) → (¬ ((px_and (i 0 x3) 31) = 16)) → (¬ ((px_and (i 0 x3) 31) = 17)) → (¬ ((px_and (i 0 x3) 31) = 18)) → (¬ ((px_and (i 0 x3) 31) = 19)) → (¬ ((px_and (i 0 x3) 31) = 20)) → (¬ ((px_and (i 0 x3) 31) = 21)) → (¬ ((px_and (i 0 x3) 31) = 22)) → ((px_and (i 0 x3) 31) = 23) → 0 ≤ (px_w32 (x3 + 1)) ∧ (px_w32 (x3 + 1)) < (L : Int)) (h48 : (¬ ((px_w32 ((L : Int) - 8)) < x3)) → (¬ ((px_and (i 0 x3) 31) = 0)) → (¬ ((px_and (i 0 x3) 31) = 1)) → (¬ ((px_and (i 0 x3) 31) = 2)) → (¬ ((px_and (i 0 x3) 31) = 3)) → (¬ ((px_and (i 0 x3) 31) = 4)) → (¬ ((px_and (i 0 x3) 31) = 5)) → (¬ ((px_and (i 0 x3) 31) = 6)) → (¬ ((px_and (i 0 x3) 31) = 7)) → (¬ ((px_and (i 0 x3) 31) = 8)) → (¬ ((px_and (i 0 x3) 31) = 9)) → (¬ ((px_and (i 0 x3) 31) = 10)) → (¬ ((px_and (i 0 x3) 31) = 11)) → (¬ ((px_and (i 0 x3) 31) = 12)) → (¬ ((px_and (i 0 x3) 31) = 13)) → (¬ ((px_and (i 0 x3) 31) = 14)) → (¬ ((px_and (i 0 x3) 31) = 15)) → (¬ ((px_and (i 0 x3) 31) = 16)) → (¬ ((px_and (i 0 x3) 31) = 17)) → (¬ ((px_and (i 0 x3) 31) = 18)) → (¬ ((px_and (i 0 x3) 31) = 19)) → (¬ ((px_and (i 0 x3) 31) = 20)) → (¬ ((px_and (i 0 x3) 31) = 21)) → (¬ ((px_and (i 0 x3) 31) = 22)) → ((px_and (i 0 x3) 31) = 23) → 0 ≤ (px_w32 (x3 + 2)) ∧ (px_w32 (x3 + 2)) < (L : Int)) (h49 : (¬ ((px_w32 ((L : Int) - 8)) < x3)) → (¬ ((px_and (i 0 x3) 31) = 0)) → (¬ ((px_and (i 0 x3) 31) = 1)) → (¬ ((px_and (i 0 x3) 31) = 2)) → (¬ ((px_and (i 0 x3) 31) = 3)) → (¬ ((px_and (i 0 x3) 31) = 4)) → (¬ ((px_and (i 0 x3) 31) = 5)) → (¬ ((px_and (i 0 x3) 31) = 6)) → (¬ ((px_and (i 0 x3) 31) = 7)) → (¬ ((px_and (i 0 x3) 31) = 8)) → (¬ ((px_and (i 0 x3) 31) = 9)) → (¬ ((px_and (i 0 x3) 31) = 10)) → (¬ ((px_and (i 0 x3) 31) = 11)) → (¬ ((px_and (i 0 x3) 31) = 12)) → (¬ ((px_and (i 0 x3) 31) = 13)) → (¬ ((px_and (i 0 x3) 31) = 14)) → (¬ ((px_and (i 0 x3) 31) = 15)) → (¬ ((px_and (i 0 x3) 31) = 16)) → (¬ ((px_and (i 0 x3) 31) = 17)) → (¬ ((px_and (i 0 x3) 31) = 18)) → (¬ ((px_and (i 0 x3) 31) = 19)) → (¬ ((px_and (i 0 x3) 31) = 20)) → (¬ ((px_and (i 0 x3) 31) = 21)) → (¬ ((px_and (i 0 x3) 31) = 22)) → ((px_and (i 0 x3) 31) = 23) → 0 ≤ (px_w32 (x3 + 3)) ∧ (px_w32 (x3 + 3)) < (L : Int)) (h50 : (¬ ((px_w32 ((L : Int) - 8)) < x3)) → (¬ ((px_and (i 0 x3) 31) = 0)) → (¬ ((px_and (i 0 x3) 31) = 1)) → (¬ ((px_and (i 0 x3) 31) = 2)) → (¬ ((px_and (i 0 x3) 31) = 3)) → (¬ ((px_and (i 0 x3) 31) = 4)) → (¬ ((px_and (i 0 x3) 31) = 5)) → (¬ ((px_and (i 0 x3) 31) = 6)) → (¬ ((px_and (i 0 x3) 31) = 7)) → (¬ ((px_and (i 0 x3) 31) = 8)) → (¬ ((px_and (i 0 x3) 31) = 9)) → (¬ ((px_and (i 0 x3) 31) = 10)) → (¬ ((px_and (i 0 x3) 31) = 11)) → (¬ ((px_and (i 0 x3) 31) = 12)) → (¬ ((px_and (i 0 x3) 31) = 13)) → (¬ ((px_and (i 0 x3) 31) = 14)) → (¬ ((px_and (i 0 x3) 31) = 15)) → (¬ ((px_and (i 0 x3) 31) = 16)) → (¬ ((px_and (i 0 x3) 31) = 17)) → (¬ ((px_and (i 0 x3) 31) = 18)) → (¬ ((px_and (i 0 x3) 31) = 19)) → (¬ ((px_and (i 0 x3) 31) = 20)) → (¬ ((px_and (i 0 x3) 31) = 21)) → (¬ ((px_and (i 0 x3) 31) = 22)) → (¬ ((px_and (i 0 x3) 31) = 23)) → ((px_and (i 0 x3) 31) = 24) → 0 ≤ (px_w32 (x3 + 1)) ∧ (px_w32 (x3 + 1)) < (L : Int)) (h51 : (¬ ((px_w32 ((L : Int) - 8)) < x3)) → (¬ ((px_and (i 0 x3) 31) = 0)) → (¬ ((px_and (i 0 x3) 31) = 1)) → (¬ ((px_and (i 0 x3) 31) = 2)) → (¬ ((px_and (i 0 x3) 31) = 3)) → (¬ ((px_and (i 0 x3) 31) = 4)) → (¬ ((px_and (i 0 x3) 31) = 5)) → (¬ ((px_and (i 0 x3) 31) = 6)) → (¬ ((px_and (i 0 x3) 31) = 7)) → (¬ ((px_and (i 0 x3) 31) = 8)) → (¬ ((px_and (i 0 x3) 31) = 9)) → (¬ ((px_and (i 0 x3) 31) = 10)) → (¬ ((px_and (i 0 x3) 31) = 11)) → (¬ ((px_and (i 0 x3) 31) = 12)) → (¬ ((px_and (i 0 x3) 31) = 13)) → (¬ ((px_and (i 0 x3) 31) = 14)) → (¬ ((px_and (i 0 x3) 31) = 15)) → (¬ ((px_and (i 0 x3) 31) = 16)) → (¬ ((px_and (i 0 x3) 31) = 17)) → (¬ ((px_and (i 0 x3) 31) = 18)) → (¬ ((px_and (i 0 x3) 31) = 19)) → (¬ ((px_and (i 0 x3) 31) = 20)) → (¬ ((px_and (i 0 x3) 31) = 21)) → (¬ ((px_and (i 0 x3) 31) = 22)) → (¬ ((px_and (i 0 x3) 31) = 23)) → (¬ ((px_and (i 0 x3) 31) = 24)) → ((px_and (i 0 x3) 31) = 25) → 0 ≤ (px_w32 (x3 + 1)) ∧ (px_w32 (x3 + 1)) < (L : Int)) (h52 : (¬ ((px_w32 ((L : Int) - 8)) < x3)) → (¬ ((px_and (i 0 x3) 31) = 0)) → (¬ ((px_and (i 0 x3) 31) = 1)) → (¬ ((px_and (i 0 x3) 31) = 2)) → (¬ ((px_and (i 0 x3) 31) = 3)) → (¬ ((px_and (i 0 x3) 31) = 4)) → (¬ ((px_and (i 0 x3) 31) = 5)) → (¬ ((px_and (i 0 x3) 31) = 6)) → (¬ ((px_and (i 0 x3) 31) = 7)) → (¬ ((px_and (i 0 x3) 31) = 8)) → (¬ ((px_and (i 0 x3) 31) = 9)) → (¬ ((px_and (i 0 x3) 31) = 10)) → (¬ ((px_and (i 0 x3) 31) = 11)) → (¬ ((px_and (i 0 x3) 31) = 12)) → (¬ ((px_and (i 0 x3) 31) = 13)) → (¬ ((px_and (i 0 x3) 31) = 14)) → (¬ ((px_and (i 0 x3) 31) = 15)) → (¬ ((px_and (i 0 x3) 31) = 16)) → (¬ ((px_and (i 0 x3) 31) = 17)) → (¬ ((px_and (i 0 x3) 31) = 18)) → (¬ ((px_and (i 0 x3) 31) = 19)) → (¬ ((px_and (i 0 x3) 31) = 20)) → (¬ ((px_and (i 0 x3) 31) = 21)) → (¬ ((px_and (i 0 x3) 31) = 22)) → (¬ ((px_and (i 0 x3) 31) = 23)) → (¬ ((px_and (i 0 x3) 31) = 24)) → ((px_and (i 0 x3) 31) = 25) → 0 ≤ (px_w32 (x3 + 2)) ∧ (px_w32 (x3 + 2)) < (L : Int)) (h53 : (¬ ((px_w32 ((L : Int) - 8)) < x3)) → (¬ ((px_and (i 0 x3) 31) = 0)) → (¬ ((px_and (i 0 x3) 31) = 1)) → (¬ ((px_and (i 0 x3) 31) = 2)) → (¬ ((px_and (i 0 x3) 31) = 3)) → (¬ ((px_and (i 0 x3) 31) = 4)) → (¬ ((px_and (i 0 x3) 31) = 5)) → (¬ ((px_and (i 0 x3) 31) = 6)) → (¬ ((px_and (i 0 x3) 31) = 7)) → (¬ ((px_and (i 0 x3) 31) = 8)) → (¬ ((px_and (i 0 x3) 31) = 9)) → (¬ ((px_and (i 0 x3) 31) = 10)) → (¬ ((px_and (i 0 x3) 31) = 11)) → (¬ ((px_and (i 0 x3) 31) = 12)) → (¬ ((px_and (i 0 x3) 31) = 13)) → (¬ ((px_and (i 0 x3) 31) = 14)) → (¬ ((px_and (i 0 x3) 31) = 15)) → (¬ ((px_and (i 0 x3) 31) = 16)) → (¬ ((px_and (i 0 x3) 31) = 17)) → (¬ ((px_and (i 0 x3) 31) = 18)) → (¬ ((px_and (i 0 x3) 31) = 19)) → (¬ ((px_and (i 0 x3) 31) = 20)) → (¬ ((px_and (i 0 x3) 31) = 21)) → (¬ ((px_and (i 0 x3) 31) = 22)) → (¬ ((px_and (i 0 x3) 31) = 23)) → (¬ ((px_and (i 0 x3) 31) = 24)) → (¬ ((px_and (i 0 x3) 31) = 25)) → (¬ ((px_and (i 0 x3) 31) = 26)) → (¬ ((px_and (i 0 x3) 31) = 27)) → ((px_and (i 0 x3) 31) = 28) → 0 ≤ (px_w32 (x3 + 1)) ∧ (px_w32 (x3 + 1)) < (L : Int)) : px_X (d + 1) 243 (38, [vR 0, vR 3, vR 123, vI x3], []) (px_sh L, i, l, r, t) = if (px_w32 ((L : Int) - 8)) < x3 then some (some (vI 1), (px_sh L, i, l, r, t)) else if (px_and (i 0 x3) 31) = 0 then if (i 0 (px_w32 (x3 + 3))) = 0 then px_X (d + 1) 243 (208, [vR 0, vR 3, vR 123, vI x3], [vI 0, vI (i 0 (px_w32 (x3 + 2))), vI (i 0 (px_w32 (x3 + 1))), vR 3]) (px_sh L, i, l, r, t) else px_X (d + 1) 243 (208, [vR 0, vR 3, vR 123, vI x3], [vI 1, vI (i 0 (px_w32 (x3 + 2))), vI (i 0 (px_w32 (x3 + 1))), vR 3]) (px_sh L, i, l, r, t) else if (px_and (i 0 x3) 31) = 1 then (px_C d 2 [vR 3, vI (i 0 (px_w32 (x3 + 1)))] (px_sh L, i, l, r, t)).bind (fun q => px_X (d + 1) 243 (px_psh (252, [vR 0, vR 3, vR 123, vI x3], []) q.1) q.2) else if (px_and (i 0 x3) 31) = 2 then (px_C d 3 [vR 3, vI (i 0 (px_w32 (x3 + 1))), vI (i 0 (px_w32 (x3 + 2)))] (px_sh L, i, l, r, t)).bind (fun q => px_X (d + 1) 243 (px_psh (280, [vR 0, vR 3, vR 123, vI x3], []) q.1) q.2) else if (px_and (i 0 x3) 31) = 3 then (px_C d 4 [vR 3, vI (i 0 (px_w32 (x3 + 1))), vI (i 0 (px_w32 (x3 + 2)))] (px_sh L, i, l, r, t)).bind (fun q => px_X (d + 1) 243 (px_psh (313, [vR 0, vR 3, vR 123, vI x3], []) q.1) q.2) else if (px_and (i 0 x3) 31) = 4 then if (i 0 (px_w32 (x3 + 3))) = 0 then px_X (d + 1) 243 (356, [vR 0, vR 3, vR 123, vI x3], [vI 0, vI (i 0 (px_w32 (x3 + 2))), vI (i 0 (px_w32 (x3 + 1))), vR 3]) (px_sh L, i, l, r, t) else px_X (d + 1) 243 (356, [vR 0, vR 3, vR 123, vI x3], [vI 1, vI (i 0 (px_w32 (x3 + 2))), vI (i 0 (px_w32 (x3 + 1))), vR 3]) (px_sh L, i, l, r, t) else if (px_and (i 0 x3) 31) = 5 then if (i 0 (px_w32 (x3 + 3))) = 0 then px_X (d + 1) 243 (459, [vR 0, vR 3, vR 123, vI x3], [vI 0, vI (i 0 (px_w32 (x3 + 2))), vI (i 0 (px_w32 (x3 + 1))), vR 3]) (px_sh L, i, l, r, t) else px_X (d + 1) 243 (459, [vR 0, vR 3, vR 123, vI x3], [vI 1, vI (i 0 (px_w32 (x3 + 2))), vI (i 0 (px_w32 (x3 + 1))), vR 3]) (px_sh L, i, l, r, t) else if (px_and (i 0 x3) 31) = 6 then (px_C d 7 [vR 3, vI (i 0 (px_w32 (x3 + 1))), vI (i 0 (px_w32 (x3 + 2))), vI (i 0 (px_w32 (x3 + 3))), vI (i 0 (px_w32 (x3 + 4))), vI (i 0 (px_w32 (x3 + 5)))] (px_sh L, i, l, r, t)).bind (fun q => px_X (d + 1) 243 (px_psh (523, [vR 0, vR 3, vR 123, vI x3], []) q.1) q.2) else if (px_and (i 0 x3) 31) = 7 then (px_C d 8 [vR 3, vI (i 0 (px_w32 (x3 + 1)))] (px_sh L, i, l, r, t)).bind (fun q => px_X (d + 1) 243 (px_psh (566, [vR 0, vR 3, vR 123, vI x3], []) q.1) q.2) else if (px_and (i 0 x3) 31) = 8 then (px_C d 9 [vR 3] (px_sh L, i, l, r, t)).bind (fun q => px_X (d + 1) 243 (px_psh (584, [vR 0, vR 3, vR 123, vI x3], []) q.1) q.2) else if (px_and (i 0 x3) 31) = 9 then (px_C d 10 [vR 3, vI (i 0 (px_w32 (x3 + 1)))] (px_sh L, i, l, r, t)).bind (fun q => px_X (d + 1) 243 (px_psh (602, [vR 0, vR 3, vR 123, vI x3], []) q.1) q.2) else if (px_and (i 0 x3) 31) = 10 then (px_C d 11 [vR 3, vI (i 0 (px_w32 (x3 + 1)))] (px_sh L, i, l, r, t)).bind (fun q => px_X (d + 1) 243 (px_psh (625, [vR 0, vR 3, vR 123, vI x3], []) q.1) q.2) else if (px_and (i 0 x3) 31) = 11 then (px_C d 12 [vR 3, vI (i 0 (px_w32 (x3 + 1)))] (px_sh L, i, l, r, t)).bind (fun q => px_X (d + 1) 243 (px_psh (648, [vR 0, vR 3, vR 123, vI x3], []) q.1) q.2) else if (px_and (i 0 x3) 31) = 12 then (px_C d 13 [vR 3, vI (i 0 (px_w32 (x3 + 1))), vI (i 0 (px_w32 (x3 + 2)))] (px_sh L, i, l, r, t)).bind (fun q => px_X (d + 1) 243 (px_psh (676, [vR 0, vR 3, vR 123, vI x3], []) q.1) q.2) else if (px_and (i 0 x3) 31) = 13 then (px_C d 14 [vR 3, vI (i 0 (px_w32 (x3 + 1))), vI (i 0 (px_w32 (x3 + 2))), vI (i 0 (px_w32 (x3 + 3)))] (px_sh L, i, l, r, t)).bind (fun q => px_X (d + 1) 243 (px_psh (714, [vR 0, vR 3, vR 123, vI x3], []) q.1) q.2) else if (px_and (i 0 x3) 31) = 14 then (px_C d 15 [vR 3, vI (i 0 (px_w32 (x3 + 1))), vI (i 0 (px_w32 (x3 + 2)))] (px_sh L, i, l, r, t)).bind (fun q => px_X (d + 1) 243 (px_psh (752, [vR 0, vR 3, vR 123, vI x3], []) q.1) q.2) else if (px_and (i 0 x3) 31) = 15 then (px_C d 16 [vR 3, vI (i 0 (px_w32 (x3 + 1))), vI (i 0 (px_w32 (x3 + 2)))] (px_sh L, i, l, r, t)).bind (fun q => px_X (d + 1) 243 (px_psh (785, [vR 0, vR 3, vR 123, vI x3], []) q.1) q.2) else if (px_and (i 0 x3) 31) = 16 then (px_C d 17 [vR 3, vI (i 0 (px_w32 (x3 + 1))), vI (i 0 (px_w32 (x3 + 2))), vI (i 0 (px_w32 (x3 + 3)))] (px_sh L, i, l, r, t)).bind (fun q => px_X (d + 1) 243 (px_psh (823, [vR 0, vR 3, vR 123, vI x3], []) q.1) q.2) else if (px_and (i 0 x3) 31) = 17 then (px_C d 18 [vR 3, vI (i 0 (px_w32 (x3 + 1)))] (px_sh L, i, l, r, t)).bind (fun q => px_X (d + 1) 243 (px_psh (856, [vR 0, vR 3, vR 123, vI x3], []) q.1) q.2) else if (px_and (i 0 x3) 31) = 18 then (px_C d 19 [vR 3, vI (i 0 (px_w32 (x3 + 1))), vI (i 0 (px_w32 (x3 + 2))), vI (i 0 (px_w32 (x3 + 3))), vI (i 0 (px_w32 (x3 + 4)))] (px_sh L, i, l, r, t)).bind (fun q => px_X (d + 1) 243 (px_psh (894, [vR 0, vR 3, vR 123, vI x3], []) q.1) q.2) else if (px_and (i 0 x3) 31) = 19 then (px_C d 20 [vR 3, vI (i 0 (px_w32 (x3 + 1))), vI (i 0 (px_w32 (x3 + 2)))] (px_sh L, i, l, r, t)).bind (fun q => px_X (d + 1) 243 (px_psh (937, [vR 0, vR 3, vR 123, vI x3], []) q.1) q.2) else if (px_and (i 0 x3) 31) = 20 then (px_C d 21 [vR 3, vI (i 0 (px_w32 (x3 + 1))), vI (i 0 (px_w32 (x3 + 2)))] (px_sh L, i, l, r, t)).bind (fun q => px_X (d + 1) 243 (px_psh (970, [vR 0, vR 3, vR 123, vI x3], []) q.1) q.2) else if (px_and (i 0 x3) 31) = 21 then (px_C d 22 [vR 3, vI (i 0 (px_w32 (x3 + 1)))] (px_sh L, i, l, r, t)).bind (fun q => px_X (d + 1) 243 (px_psh (998, [vR 0, vR 3, vR 123, vI x3], []) q.1) q.2) else if (px_and (i 0 x3) 31) = 22 then (px_C d 23 [vR 3] (px_sh L, i, l, r, t)).bind (fun q => px_X (d + 1) 243 (px_psh (1016, [vR 0, vR 3, vR 123, vI x3], []) q.1) q.2) else if (px_and (i 0 x3) 31) = 23 then (px_C d 24 [vR 3, vI (i 0 (px_w32 (x3 + 1))), vI (i 0 (px_w32 (x3 + 2))), vI (i 0 (px_w32 (x3 + 3)))] (px_sh L, i, l, r, t)).bind (fun q => px_X (d + 1) 243 (px_psh (1044, [vR 0, vR 3, vR 123, vI x3], []) q.1) q.2) else if (px_and (i 0 x3) 31) = 24 then (px_C d 25 [vR 3, vI (i 0 (px_w32 (x3 + 1)))] (px_sh L, i, l, r, t)).bind (fun q => px_X (d + 1) 243 (px_psh (1077, [vR 0, vR 3, vR 123, vI x3], []) q.1) q.2) else if (px_and (i 0 x3) 31) = 25 then (px_C d 26 [vR 3, vI (i 0 (px_w32 (x3 + 1))), vI (i 0 (px_w32 (x3 + 2)))] (px_sh L, i, l, r, t)).bind (fun q => px_X (d + 1) 243 (px_psh (1105, [vR 0, vR 3, vR 123, vI x3], []) q.1) q.2) else if (px_and (i 0 x3) 31) = 26 then (px_C d 27 [vR 3] (px_sh L, i, l, r, t)).bind (fun q => px_X (d + 1) 243 (px_psh (1128, [vR 0, vR 3, vR 123, vI x3], []) q.1) q.2) else if (px_and (i 0 x3) 31) = 27 then (px_C d 28 [vR 3] (px_sh L, i, l, r, t)).bind (fun q => px_X (d + 1) 243 (px_psh (1141, [vR 0, vR 3, vR 123, vI x3], []) q.1) q.2) else if (px_and (i 0 x3) 31) = 28 then (px_C d 29 [vR 3, vI (i 0 (px_w32 (x3 + 1)))] (px_sh L, i, l, r, t)).bind (fun q => px_X (d + 1) 243 (px_psh (1159, [vR 0, vR 3, vR 123, vI x3], []) q.1) q.2) else px_X (d + 1) 243 (38, [vR 0, vR 3, vR 123, vI (px_w32 (x3 + 8))], []) (px_sh L, i, l, r, t) := ((xs_ildn k243_38 rfl).trans ((xs_aldn k243_39 rfl).trans ((xs_aln k243_40 (px_s0 L)).trans ((xs_bi k243_41 (by omega)).trans ((xs_isub k243_43).trans ((xs_jgt k243_44).trans (px_ite (fun c1 => ((xs_ic k243_1179 (by omega)).trans (xs_rz k243_1180 rfl (by omega)))) (fun c1 => ((xs_aldn k243_47 rfl).trans ((xs_ildn k243_48 rfl).trans ((xs_iald k243_49 (px_s0 L) (h1 c1)).trans ((xs_bi k243_50 (by omega)).trans ((xs_iand k243_52).trans (px_swi (fun c2 => ((xs_tsw k243_53 (tg := 184) (by rw [c2]; omega) (by rw [c2]; rfl)).trans ((xs_aldn k243_184 rfl).trans ((xs_aldn k243_185 rfl).trans ((xs_ildn k243_186 rfl).trans ((xs_ic k243_187 (by omega)).trans ((xs_iadd k243_188).trans ((xs_iald k243_189 (px_s0 L) (h2 c1 c2)).trans ((xs_aldn k243_190 rfl).trans ((xs_ildn k243_191 rfl).trans ((xs_ic k243_192 (by omega)).trans ((xs_iadd k243_193).trans ((xs_iald k243_194 (px_s0 L) (h3 c1 c2)).trans ((xs_aldn k243_195 rfl).trans ((xs_ildn k243_196 rfl).trans ((xs_ic k243_197 (by omega)).trans ((xs_iadd k243_198).trans ((xs_iald k243_199 (px_s0 L) (h4 c1 c2)).trans ((xs_ieq k243_200).trans (px_ite (fun c3 => (xs_ic k243_207 (by omega))) (fun c3 => ((xs_ic k243_203 (by omega)).trans (xs_goto k243_204))))))))))))))))))))))) (fun c2 => (px_swi (fun c3 => ((xs_tsw k243_53 (tg := 243) (by rw [c3]; omega) (by rw [c3]; rfl)).trans ((xs_aldn k243_243 rfl).trans ((xs_aldn k243_244 rfl).trans ((xs_ildn k243_245 rfl).trans ((xs_ic k243_246 (by omega)).trans ((xs_iadd k243_247).trans ((xs_iald k243_248 (px_s0 L) (h5 c1 c2 c3)).trans (xs_callvB k243_249 (as := [vI (i 0 (px_w32 (x3 + 1)))]) rfl rfl (Nat.le_of_ble_eq_true rfl) (Nat.le_of_ble_eq_true rfl) (Nat.le_of_ble_eq_true rfl) (px_s3 L) (Nat.le_of_ble_eq_true rfl)))))))))) (fun c3 => (px_swi (fun c4 => ((xs_tsw k243_53 (tg := 266) (by rw [c4]; omega) (by rw [c4]; rfl)).trans ((xs_aldn k243_266 rfl).trans ((xs_aldn k243_267 rfl).trans ((xs_ildn k243_268 rfl).trans ((xs_ic k243_269 (by omega)).trans ((xs_iadd k243_270).trans ((xs_iald k243_271 (px_s0 L) (h6 c1 c2 c3 c4)).trans ((xs_aldn k243_272 rfl).trans ((xs_ildn k243_273 rfl).trans ((xs_ic k243_274 (by omega)).trans ((xs_iadd k243_275).trans ((xs_iald k243_276 (px_s0 L) (h7 c1 c2 c3 c4)).trans (xs_callvB k243_277 (as := [vI (i 0 (px_w32 (x3 + 1))), vI (i 0 (px_w32 (x3 + 2)))]) rfl rfl (Nat.le_of_ble_eq_true rfl) (Nat.le_of_ble_eq_true rfl) (Nat.le_of_ble_eq_true rfl) (px_s3 L) (Nat.le_of_ble_eq_true rfl))))))))))))))) (fun c4 => (px_swi (fun c5 => ((xs_tsw k243_53 (tg := 299) (by rw [c5]; omega) (by rw [c5]; rfl)).trans ((xs_aldn k243_299 rfl).trans ((xs_aldn k243_300 rfl).trans ((xs_ildn k243_301 rfl).trans ((xs_ic k243_302 (by omega)).trans ((xs_iadd k243_303).trans ((xs_iald k243_304 (px_s0 L) (h8 c1 c2 c3 c4 c5)).trans ((xs_aldn k243_305 rfl).trans ((xs_ildn k243_306 rfl).trans ((xs_ic k243_307 (by omega)).trans ((xs_iadd k243_308).trans ((xs_iald k243_309 (px_s0 L) (h9 c1 c2 c3 c4 c5)).trans (xs_callvB k243_310 (as := [vI (i 0 (px_w32 (x3 + 1))), vI (i 0 (px_w32 (x3 + 2)))]) rfl rfl (Nat.le_of_ble_eq_true rfl) (Nat.le_of_ble_eq_true rfl) (Nat.le_of_ble_eq_true rfl) (px_s3 L) (Nat.le_of_ble_eq_true rfl))))))))))))))) (fun c5 => (px_swi (fun c6 => ((xs_tsw k243_53 (tg := 332) (by rw [c6]; omega) (by rw [c6]; rfl)).trans ((xs_aldn k243_332 rfl).trans ((xs_aldn k243_333 rfl).trans ((xs_ildn k243_334 rfl).trans ((xs_ic k243_335 (by omega)).trans ((xs_iadd k243_336).trans ((xs_iald k243_337 (px_s0 L) (h10 c1 c2 c3 c4 c5 c6)).trans ((xs_aldn k243_338 rfl).trans ((xs_ildn k243_339 rfl).trans ((xs_ic k243_340 (by omega)).trans ((xs_iadd k243_341).trans ((xs_iald k243_342 (px_s0 L) (h11 c1 c2 c3 c4 c5 c6)).trans ((xs_aldn k243_343 rfl).trans ((xs_ildn k243_344 rfl).trans ((xs_ic k243_345 (by omega)).trans ((xs_iadd k243_346).trans ((xs_iald k243_347 (px_s0 L) (h12 c1 c2 c3 c4 c5 c6)).trans ((xs_ieq k243_348).trans (px_ite (fun c7 => (xs_ic k243_355 (by omega))) (fun c7 => ((xs_ic k243_351 (by omega)).trans (xs_goto k243_352))))))))))))))))))))))) (fun c6 => (px_swi (fun c7 => ((xs_tsw k243_53 (tg := 435) (by rw [c7]; omega) (by rw [c7]; rfl)).trans ((xs_aldn k243_435 rfl).trans ((xs_aldn k243_436 rfl).trans ((xs_ildn k243_437 rfl).trans ((xs_ic k243_438 (by omega)).trans ((xs_iadd k243_439).trans ((xs_iald k243_440 (px_s0 L) (h13 c1 c2 c3 c4 c5 c6 c7)).trans ((xs_aldn k243_441 rfl).trans ((xs_ildn k243_442 rfl).trans ((xs_ic k243_443 (by omega)).trans ((xs_iadd k243_444).trans ((xs_iald k243_445 (px_s0 L) (h14 c1 c2 c3 c4 c5 c6 c7)).trans ((xs_aldn k243_446 rfl).trans ((xs_ildn k243_447 rfl).trans ((xs_ic k243_448 (by omega)).trans ((xs_iadd k243_449).trans ((xs_iald k243_450 (px_s0 L) (h15 c1 c2 c3 c4 c5 c6 c7)).trans ((xs_ieq k243_451).trans (px_ite (fun c8 => (xs_ic k243_458 (by omega))) (fun c8 => ((xs_ic k243_454 (by omega)).trans (xs_goto k243_455))))))))))))))))))))))) (fun c7 => (px_swi (fun c8 => ((xs_tsw k243_53 (tg := 494) (by rw [c8]; omega) (by rw [c8]; rfl)).trans ((xs_aldn k243_494 rfl).trans ((xs_aldn k243_495 rfl).trans ((xs_ildn k243_496 rfl).trans ((xs_ic k243_497 (by omega)).trans ((xs_iadd k243_498).trans ((xs_iald k243_499 (px_s0 L) (h16 c1 c2 c3 c4 c5 c6 c7 c8)).trans ((xs_aldn k243_500 rfl).trans ((xs_ildn k243_501 rfl).trans ((xs_ic k243_502 (by omega)).trans ((xs_iadd k243_503).trans ((xs_iald k243_504 (px_s0 L) (h17 c1 c2 c3 c4 c5 c6 c7 c8)).trans ((xs_aldn k243_505 rfl).trans ((xs_ildn k243_506 rfl).trans ((xs_ic k243_507 (by omega)).trans ((xs_iadd k243_508).trans ((xs_iald k243_509 (px_s0 L) (h18 c1 c2 c3 c4 c5 c6 c7 c8)).trans ((xs_aldn k243_510 rfl).trans ((xs_ildn k243_511 rfl).trans ((xs_ic k243_512 (by omega)).trans ((xs_iadd k243_513).trans ((xs_iald k243_514 (px_s0 L) (h19 c1 c2 c3 c4 c5 c6 c7 c8)).trans ((xs_aldn k243_515 rfl).trans ((xs_ildn k243_516 rfl).trans ((xs_ic k243_517 (by omega)).trans ((xs_iadd k243_518).trans ((xs_iald k243_519 (px_s0 L) (h20 c1 c2 c3 c4 c5 c6 c7 c8)).trans (xs_callvB k243_520 (as := [vI (i 0 (px_w32 (x3 + 1))), vI (i 0 (px_w32 (x3 + 2))), vI (i 0 (px_w32 (x3 + 3))), vI (i 0 (px_w32 (x3 + 4))), vI (i 0 (px_w32 (x3 + 5)))]) rfl rfl (Nat.le_of_ble_eq_true rfl) (Nat.le_of_ble_eq_true rfl) (Nat.le_of_ble_eq_true rfl) (px_s3 L) (Nat.le_of_ble_eq_true rfl)))))))))))))))))))))))))))))) (fun c8 => (px_swi (fun c9 => ((xs_tsw k243_53 (tg := 557) (by rw [c9]; omega) (by rw [c9]; rfl)).trans ((xs_aldn k243_557 rfl).trans ((xs_aldn k243_558 rfl).trans ((xs_ildn k243_559 rfl).trans ((xs_ic k243_560 (by omega)).trans ((xs_iadd k243_561).trans ((xs_iald k243_562 (px_s0 L) (h21 c1 c2 c3 c4 c5 c6 c7 c8 c9)).trans (xs_callvB k243_563 (as := [vI (i 0 (px_w32 (x3 + 1)))]) rfl rfl (Nat.le_of_ble_eq_true rfl) (Nat.le_of_ble_eq_true rfl) (Nat.le_of_ble_eq_true rfl) (px_s3 L) (Nat.le_of_ble_eq_true rfl)))))))))) (fun c9 => (px_swi (fun c10 => ((xs_tsw k243_53 (tg := 580) (by rw [c10]; omega) (by rw [c10]; rfl)).trans ((xs_aldn k243_580 rfl).trans (xs_callvB k243_581 (as := []) rfl rfl (Nat.le_of_ble_eq_true rfl) (Nat.le_of_ble_eq_true rfl) (Nat.le_of_ble_eq_true rfl) (px_s3 L) (Nat.le_of_ble_eq_true rfl))))) (fun c10 => (px_swi (fun c11 => ((xs_tsw k243_53 (tg := 593) (by rw [c11]; omega) (by rw [c11]; rfl)).trans ((xs_aldn k243_593 rfl).trans ((xs_aldn k243_594 rfl).trans ((xs_ildn k243_595 rfl).trans ((xs_ic k243_596 (by omega)).trans ((xs_iadd k243_597).trans ((xs_iald k243_598 (px_s0 L) (h22 c1 c2 c3 c4 c5 c6 c7 c8 c9 c10 c11)).trans (xs_callvB k243_599 (as := [vI (i 0 (px_w32 (x3 + 1)))]) rfl rfl (Nat.le_of_ble_eq_true rfl) (Nat.le_of_ble_eq_true rfl) (Nat.le_of_ble_eq_true rfl) (px_s3 L) (Nat.le_of_ble_eq_true rfl)))))))))) (fun c11 => (px_swi (fun c12 => ((xs_tsw k243_53 (tg := 616) (by rw [c12]; omega) (by rw [c12]; rfl)).trans ((xs_aldn k243_616 rfl).trans ((xs_aldn k243_617 rfl).trans ((xs_ildn k243_618 rfl).trans ((xs_ic k243_619 (by omega)).trans ((xs_iadd k243_620).trans ((xs_iald k243_621 (px_s0 L) (h23 c1 c2 c3 c4 c5 c6 c7 c8 c9 c10 c11 c12)).trans (xs_callvB k243_622 (as := [vI (i 0 (px_w32 (x3 + 1)))]) rfl rfl (Nat.le_of_ble_eq_true rfl) (Nat.le_of_ble_eq_true rfl) (Nat.le_of_ble_eq_true rfl) (px_s3 L) (Nat.le_of_ble_eq_true rfl)))))))))) (fun c12 => (px_swi (fun c13 => ((xs_tsw k243_53 (tg := 639) (by rw [c13]; omega) (by rw [c13]; rfl)).trans ((xs_aldn k243_639 rfl).trans ((xs_aldn k243_640 rfl).trans ((xs_ildn k243_641 rfl).trans ((xs_ic k243_642 (by omega)).trans ((xs_iadd k243_643).trans ((xs_iald k243_644 (px_s0 L) (h24 c1 c2 c3 c4 c5 c6 c7 c8 c9 c10 c11 c12 c13)).trans (xs_callvB k243_645 (as := [vI (i 0 (px_w32 (x3 + 1)))]) rfl rfl (Nat.le_of_ble_eq_true rfl) (Nat.le_of_ble_eq_true rfl) (Nat.le_of_ble_eq_true rfl) (px_s3 L) (Nat.le_of_ble_eq_true rfl)))))))))) (fun c13 => (px_swi (fun c14 => ((xs_tsw k243_53 (tg := 662) (by rw [c14]; omega) (by rw [c14]; rfl)).trans ((xs_aldn k243_662 rfl).trans ((xs_aldn k243_663 rfl).trans ((xs_ildn k243_664 rfl).trans ((xs_ic k243_665 (by omega)).trans ((xs_iadd k243_666).trans ((xs_iald k243_667 (px_s0 L) (h25 c1 c2 c3 c4 c5 c6 c7 c8 c9 c10 c11 c12 c13 c14)).trans ((xs_aldn k243_668 rfl).trans ((xs_ildn k243_669 rfl).trans ((xs_ic k243_670 (by omega)).trans ((xs_iadd k243_671).trans ((xs_iald k243_672 (px_s0 L) (h26 c1 c2 c3 c4 c5 c6 c7 c8 c9 c10 c11 c12 c13 c14)).trans (xs_callvB k243_673 (as := [vI (i 0 (px_w32 (x3 + 1))), vI (i 0 (px_w32 (x3 + 2)))]) rfl rfl (Nat.le_of_ble_eq_true rfl) (Nat.le_of_ble_eq_true rfl) (Nat.le_of_ble_eq_true rfl) (px_s3 L) (Nat.le_of_ble_eq_true rfl))))))))))))))) (fun c14 => (px_swi (fun c15 => ((xs_tsw k243_53 (tg := 695) (by rw [c15]; omega) (by rw [c15]; rfl)).trans ((xs_aldn k243_695 rfl).trans ((xs_aldn k243_696 rfl).trans ((xs_ildn k243_697 rfl).trans ((xs_ic k243_698 (by omega)).trans ((xs_iadd k243_699).trans ((xs_iald k243_700 (px_s0 L) (h27 c1 c2 c3 c4 c5 c6 c7 c8 c9 c10 c11 c12 c13 c14 c15)).trans ((xs_aldn k243_701 rfl).trans ((xs_ildn k243_702 rfl).trans ((xs_ic k243_703 (by omega)).trans ((xs_iadd k243_704).trans ((xs_iald k243_705 (px_s0 L) (h28 c1 c2 c3 c4 c5 c6 c7 c8 c9 c10 c11 c12 c13 c14 c15)).trans ((xs_aldn k243_706 rfl).trans ((xs_ildn k243_707 rfl).trans ((xs_ic k243_708 (by omega)).trans ((xs_iadd k243_709).trans ((xs_iald k243_710 (px_s0 L) (h29 c1 c2 c3 c4 c5 c6 c7 c8 c9 c10 c11 c12 c13 c14 c15)).trans (xs_callvB k243_711 (as := [vI (i 0 (px_w32 (x3 + 1))), vI (i 0 (px_w32 (x3 + 2))), vI (i 0 (px_w32 (x3 + 3)))]) rfl rfl (Nat.le_of_ble_eq_true rfl) (Nat.le_of_ble_eq_true rfl) (Nat.le_of_ble_eq_true rfl) (px_s3 L) (Nat.le_of_ble_eq_true rfl)))))))))))))))))))) (fun c15 => (px_swi (fun c16 => ((xs_tsw k243_53 (tg := 738) (by rw [c16]; omega) (by rw [c16]; rfl)).trans ((xs_aldn k243_738 rfl).trans ((xs_aldn k243_739 rfl).trans ((xs_ildn k243_740 rfl).trans ((xs_ic k243_741 (by omega)).trans ((xs_iadd k243_742).trans ((xs_iald k243_743 (px_s0 L) (h30 c1 c2 c3 c4 c5 c6 c7 c8 c9 c10 c11 c12 c13 c14 c15 c16)).trans ((xs_aldn k243_744 rfl).trans ((xs_ildn k243_745 rfl).trans ((xs_ic k243_746 (by omega)).trans ((xs_iadd k243_747).trans ((xs_iald k243_748 (px_s0 L) (h31 c1 c2 c3 c4 c5 c6 c7 c8 c9 c10 c11 c12 c13 c14 c15 c16)).trans (xs_callvB k243_749 (as := [vI (i 0 (px_w32 (x3 + 1))), vI (i 0 (px_w32 (x3 + 2)))]) rfl rfl (Nat.le_of_ble_eq_true rfl) (Nat.le_of_ble_eq_true rfl) (Nat.le_of_ble_eq_true rfl) (px_s3 L) (Nat.le_of_ble_eq_true rfl))))))))))))))) (fun c16 => (px_swi (fun c17 => ((xs_tsw k243_53 (tg := 771) (by rw [c17]; omega) (by rw [c17]; rfl)).trans ((xs_aldn k243_771 rfl).trans ((xs_aldn k243_772 rfl).trans ((xs_ildn k243_773 rfl).trans ((xs_ic k243_774 (by omega)).trans ((xs_iadd k243_775).trans ((xs_iald k243_776 (px_s0 L) (h32 c1 c2 c3 c4 c5 c6 c7 c8 c9 c10 c11 c12 c13 c14 c15 c16 c17)).trans ((xs_aldn k243_777 rfl).trans ((xs_ildn k243_778 rfl).trans ((xs_ic k243_779 (by omega)).trans ((xs_iadd k243_780).trans ((xs_iald k243_781 (px_s0 L) (h33 c1 c2 c3 c4 c5 c6 c7 c8 c9 c10 c11 c12 c13 c14 c15 c16 c17)).trans (xs_callvB k243_782 (as := [vI (i 0 (px_w32 (x3 + 1))), vI (i 0 (px_w32 (x3 + 2)))]) rfl rfl (Nat.le_of_ble_eq_true rfl) (Nat.le_of_ble_eq_true rfl) (Nat.le_of_ble_eq_true rfl) (px_s3 L) (Nat.le_of_ble_eq_true rfl))))))))))))))) (fun c17 => (px_swi (fun c18 => ((xs_tsw k243_53 (tg := 804) (by rw [c18]; omega) (by rw [c18]; rfl)).trans ((xs_aldn k243_804 rfl).trans ((xs_aldn k243_805 rfl).trans ((xs_ildn k243_806 rfl).trans ((xs_ic k243_807 (by omega)).trans ((xs_iadd k243_808).trans ((xs_iald k243_809 (px_s0 L) (h34 c1 c2 c3 c4 c5 c6 c7 c8 c9 c10 c11 c12 c13 c14 c15 c16 c17 c18)).trans ((xs_aldn k243_810 rfl).trans ((xs_ildn k243_811 rfl).trans ((xs_ic k243_812 (by omega)).trans ((xs_iadd k243_813).trans ((xs_iald k243_814 (px_s0 L) (h35 c1 c2 c3 c4 c5 c6 c7 c8 c9 c10 c11 c12 c13 c14 c15 c16 c17 c18)).trans ((xs_aldn k243_815 rfl).trans ((xs_ildn k243_816 rfl).trans ((xs_ic k243_817 (by omega)).trans ((xs_iadd k243_818).trans ((xs_iald k243_819 (px_s0 L) (h36 c1 c2 c3 c4 c5 c6 c7 c8 c9 c10 c11 c12 c13 c14 c15 c16 c17 c18)).trans (xs_callvB k243_820 (as := [vI (i 0 (px_w32 (x3 + 1))), vI (i 0 (px_w32 (x3 + 2))), vI (i 0 (px_w32 (x3 + 3)))]) rfl rfl (Nat.le_of_ble_eq_true rfl) (Nat.le_of_ble_eq_true rfl) (Nat.le_of_ble_eq_true rfl) (px_s3 L) (Nat.le_of_ble_eq_true rfl)))))))))))))))))))) (fun c18 => (px_swi (fun c19 => ((xs_tsw k243_53 (tg := 847) (by rw [c19]; omega) (by rw [c19]; rfl)).trans ((xs_aldn k243_847 rfl).trans ((xs_aldn k243_848 rfl).trans ((xs_ildn k243_849 rfl).trans ((xs_ic k243_850 (by omega)).trans ((xs_iadd k243_851).trans ((xs_iald k243_852 (px_s0 L) (h37 c1 c2 c3 c4 c5 c6 c7 c8 c9 c10 c11 c12 c13 c14 c15 c16 c17 c18 c19)).trans (xs_callvB k243_853 (as := [vI (i 0 (px_w32 (x3 + 1)))]) rfl rfl (Nat.le_of_ble_eq_true rfl) (Nat.le_of_ble_eq_true rfl) (Nat.le_of_ble_eq_true rfl) (px_s3 L) (Nat.le_of_ble_eq_true rfl)))))))))) (fun c19 => (px_swi (fun c20 => ((xs_tsw k243_53 (tg := 870) (by rw [c20]; omega) (by rw [c20]; rfl)).trans ((xs_aldn k243_870 rfl).trans ((xs_aldn k243_871 rfl).trans ((xs_ildn k243_872 rfl).trans ((xs_ic k243_873 (by omega)).trans ((xs_iadd k243_874).trans ((xs_iald k243_875 (px_s0 L) (h38 c1 c2 c3 c4 c5 c6 c7 c8 c9 c10 c11 c12 c13 c14 c15 c16 c17 c18 c19 c20)).trans ((xs_aldn k243_876 rfl).trans ((xs_ildn k243_877 rfl).trans ((xs_ic k243_878 (by omega)).trans ((xs_iadd k243_879).trans ((xs_iald k243_880 (px_s0 L) (h39 c1 c2 c3 c4 c5 c6 c7 c8 c9 c10 c11 c12 c13 c14 c15 c16 c17 c18 c19 c20)).trans ((xs_aldn k243_881 rfl).trans ((xs_ildn k243_882 rfl).trans ((xs_ic k243_883 (by omega)).trans ((xs_iadd k243_884).trans ((xs_iald k243_885 (px_s0 L) (h40 c1 c2 c3 c4 c5 c6 c7 c8 c9 c10 c11 c12 c13 c14 c15 c16 c17 c18 c19 c20)).trans ((xs_aldn k243_886 rfl).trans ((xs_ildn k243_887 rfl).trans ((xs_ic k243_888 (by omega)).trans ((xs_iadd k243_889).trans ((xs_iald k243_890 (px_s0 L) (h41 c1 c2 c3 c4 c5 c6 c7 c8 c9 c10 c11 c12 c13 c14 c15 c16 c17 c18 c19 c20)).trans (xs_callvB k243_891 (as := [vI (i 0 (px_w32 (x3 + 1))), vI (i 0 (px_w32 (x3 + 2))), vI (i 0 (px_w32 (x3 + 3))), vI (i 0 (px_w32 (x3 + 4)))]) rfl rfl (Nat.le_of_ble_eq_true rfl) (Nat.le_of_ble_eq_true rfl) (Nat.le_of_ble_eq_true rfl) (px_s3 L) (Nat.le_of_ble_eq_true rfl))))))))))))))))))))))))) (fun c20 => (px_swi (fun c21 => ((xs_tsw k243_53 (tg := 923) (by rw [c21]; omega) (by rw [c21]; rfl)).trans ((xs_aldn k243_923 rfl).trans ((xs_aldn k243_924 rfl).trans ((xs_ildn k243_925 rfl).trans ((xs_ic k243_926 (by omega)).trans ((xs_iadd k243_927).trans ((xs_iald k243_928 (px_s0 L) (h42 c1 c2 c3 c4 c5 c6 c7 c8 c9 c10 c11 c12 c13 c14 c15 c16 c17 c18 c19 c20 c21)).trans ((xs_aldn k243_929 rfl).trans ((xs_ildn k243_930 rfl).trans ((xs_ic k243_931 (by omega)).trans ((xs_iadd k243_932).trans ((xs_iald k243_933 (px_s0 L) (h43 c1 c2 c3 c4 c5 c6 c7 c8 c9 c10 c11 c12 c13 c14 c15 c16 c17 c18 c19 c20 c21)).trans (xs_callvB k243_934 (as := [vI (i 0 (px_w32 (x3 + 1))), vI (i 0 (px_w32 (x3 + 2)))]) rfl rfl (Nat.le_of_ble_eq_true rfl) (Nat.le_of_ble_eq_true rfl) (Nat.le_of_ble_eq_true rfl) (px_s3 L) (Nat.le_of_ble_eq_true rfl))))))))))))))) (fun c21 => (px_swi (fun c22 => ((xs_tsw k243_53 (tg := 956) (by rw [c22]; omega) (by rw [c22]; rfl)).trans ((xs_aldn k243_956 rfl).trans ((xs_aldn k243_957 rfl).trans ((xs_ildn k243_958 rfl).trans ((xs_ic k243_959 (by omega)).trans ((xs_iadd k243_960).trans ((xs_iald k243_961 (px_s0 L) (h44 c1 c2 c3 c4 c5 c6 c7 c8 c9 c10 c11 c12 c13 c14 c15 c16 c17 c18 c19 c20 c21 c22)).trans ((xs_aldn k243_962 rfl).trans ((xs_ildn k243_963 rfl).trans ((xs_ic k243_964 (by omega)).trans ((xs_iadd k243_965).trans ((xs_iald k243_966 (px_s0 L) (h45 c1 c2 c3 c4 c5 c6 c7 c8 c9 c10 c11 c12 c13 c14 c15 c16 c17 c18 c19 c20 c21 c22)).trans (xs_callvB k243_967 (as := [vI (i 0 (px_w32 (x3 + 1))), vI (i 0 (px_w32 (x3 + 2)))]) rfl rfl (Nat.le_of_ble_eq_true rfl) (Nat.le_of_ble_eq_true rfl) (Nat.le_of_ble_eq_true rfl) (px_s3 L) (Nat.le_of_ble_eq_true rfl))))))))))))))) (fun c22 => (px_swi (fun c23 => ((xs_tsw k243_53 (tg := 989) (by rw [c23]; omega) (by rw [c23]; rfl)).trans ((xs_aldn k243_989 rfl).trans ((xs_aldn k243_990 rfl).trans ((xs_ildn k243_991 rfl).trans ((xs_ic k243_992 (by omega)).trans ((xs_iadd k243_993).trans ((xs_iald k243_994 (px_s0 L) (h46 c1 c2 c3 c4 c5 c6 c7 c8 c9 c10 c11 c12 c13 c14 c15 c16 c17 c18 c19 c20 c21 c22 c23)).trans (xs_callvB k243_995 (as := [vI (i 0 (px_w32 (x3 + 1)))]) rfl rfl (Nat.le_of_ble_eq_true rfl) (Nat.le_of_ble_eq_true rfl) (Nat.le_of_ble_eq_true rfl) (px_s3 L) (Nat.le_of_ble_eq_true rfl)))))))))) (fun c23 => (px_swi (fun c24 => ((xs_tsw k243_53 (tg := 1012) (by rw [c24]; omega) (by rw [c24]; rfl)).trans ((xs_aldn k243_1012 rfl).trans (xs_callvB k243_1013 (as := []) rfl rfl (Nat.le_of_ble_eq_true rfl) (Nat.le_of_ble_eq_true rfl) (Nat.le_of_ble_eq_true rfl) (px_s3 L) (Nat.le_of_ble_eq_true rfl))))) (fun c24 => (px_swi (fun c25 => ((xs_tsw k243_53 (tg := 1025) (by rw [c25]; omega) (by rw [c25]; rfl)).trans ((xs_aldn k243_1025 rfl).trans ((xs_aldn k243_1026 rfl).trans ((xs_ildn k243_1027 rfl).trans ((xs_ic k243_1028 (by omega)).trans ((xs_iadd k243_1029).trans ((xs_iald k243_1030 (px_s0 L) (h47 c1 c2 c3 c4 c5 c6 c7 c8 c9 c10 c11 c12 c13 c14 c15 c16 c17 c18 c19 c20 c21 c22 c23 c24 c25)).trans ((xs_aldn k243_1031 rfl).trans ((xs_ildn k243_1032 rfl).trans ((xs_ic k243_1033 (by omega)).trans ((xs_iadd k243_1034).trans ((xs_iald k243_1035 (px_s0 L) (h48 c1 c2 c3 c4 c5 c6 c7 c8 c9 c10 c11 c12 c13 c14 c15 c16 c17 c18 c19 c20 c21 c22 c23 c24 c25)).trans ((xs_aldn k243_1036 rfl).trans ((xs_ildn k243_1037 rfl).trans ((xs_ic k243_1038 (by omega)).trans ((xs_iadd k243_1039).trans ((xs_iald k243_1040 (px_s0 L) (h49 c1 c2 c3 c4 c5 c6 c7 c8 c9 c10 c11 c12 c13 c14 c15 c16 c17 c18 c19 c20 c21 c22 c23 c24 c25)).trans (xs_callvB k243_1041 (as := [vI (i 0 (px_w32 (x3 + 1))), vI (i 0 (px_w32 (x3 + 2))), vI (i 0 (px_w32 (x3 + 3)))]) rfl rfl (Nat.le_of_ble_eq_true rfl) (Nat.le_of_ble_eq_true rfl) (Nat.le_of_ble_eq_true rfl) (px_s3 L) (Nat.le_of_ble_eq_true rfl)))))))))))))))))))) (fun c25 => (px_swi (fun c26 => ((xs_tsw k243_53 (tg := 1068) (by rw [c26]; omega) (by rw [c26]; rfl)).trans ((xs_aldn k243_1068 rfl).trans ((xs_aldn k243_1069 rfl).trans ((xs_ildn k243_1070 rfl).trans ((xs_ic k243_1071 (by omega)).trans ((xs_iadd k243_1072).trans ((xs_iald k243_1073 (px_s0 L) (h50 c1 c2 c3 c4 c5 c6 c7 c8 c9 c10 c11 c12 c13 c14 c15 c16 c17 c18 c19 c20 c21 c22 c23 c24 c25 c26)).trans (xs_callvB k243_1074 (as := [vI (i 0 (px_w32 (x3 + 1)))]) rfl rfl (Nat.le_of_ble_eq_true rfl) (Nat.le_of_ble_eq_true rfl) (Nat.le_of_ble_eq_true rfl) (px_s3 L) (Nat.le_of_ble_eq_true rfl)))))))))) (fun c26 => (px_swi (fun c27 => ((xs_tsw k243_53 (tg := 1091) (by rw [c27]; omega) (by rw [c27]; rfl)).trans ((xs_aldn k243_1091 rfl).trans ((xs_aldn k243_1092 rfl).trans ((xs_ildn k243_1093 rfl).trans ((xs_ic k243_1094 (by omega)).trans ((xs_iadd k243_1095).trans ((xs_iald k243_1096 (px_s0 L) (h51 c1 c2 c3 c4 c5 c6 c7 c8 c9 c10 c11 c12 c13 c14 c15 c16 c17 c18 c19 c20 c21 c22 c23 c24 c25 c26 c27)).trans ((xs_aldn k243_1097 rfl).trans ((xs_ildn k243_1098 rfl).trans ((xs_ic k243_1099 (by omega)).trans ((xs_iadd k243_1100).trans ((xs_iald k243_1101 (px_s0 L) (h52 c1 c2 c3 c4 c5 c6 c7 c8 c9 c10 c11 c12 c13 c14 c15 c16 c17 c18 c19 c20 c21 c22 c23 c24 c25 c26 c27)).trans (xs_callvB k243_1102 (as := [vI (i 0 (px_w32 (x3 + 1))), vI (i 0 (px_w32 (x3 + 2)))]) rfl rfl (Nat.le_of_ble_eq_true rfl) (Nat.le_of_ble_eq_true rfl) (Nat.le_of_ble_eq_true rfl) (px_s3 L) (Nat.le_of_ble_eq_true rfl))))))))))))))) (fun c27 => (px_swi (fun c28 => ((xs_tsw k243_53 (tg := 1124) (by rw [c28]; omega) (by rw [c28]; rfl)).trans ((xs_aldn k243_1124 rfl).trans (xs_callvB k243_1125 (as := []) rfl rfl (Nat.le_of_ble_eq_true rfl) (Nat.le_of_ble_eq_true rfl) (Nat.le_of_ble_eq_true rfl) (px_s3 L) (Nat.le_of_ble_eq_true rfl))))) (fun c28 => (px_swi (fun c29 => ((xs_tsw k243_53 (tg := 1137) (by rw [c29]; omega) (by rw [c29]; rfl)).trans ((xs_aldn k243_1137 rfl).trans (xs_callvB k243_1138 (as := []) rfl rfl (Nat.le_of_ble_eq_true rfl) (Nat.le_of_ble_eq_true rfl) (Nat.le_of_ble_eq_true rfl) (px_s3 L) (Nat.le_of_ble_eq_true rfl))))) (fun c29 => (px_swi (fun c30 => ((xs_tsw k243_53 (tg := 1150) (by rw [c30]; omega) (by rw [c30]; rfl)).trans ((xs_aldn k243_1150 rfl).trans ((xs_aldn k243_1151 rfl).trans ((xs_ildn k243_1152 rfl).trans ((xs_ic k243_1153 (by omega)).trans ((xs_iadd k243_1154).trans ((xs_iald k243_1155 (px_s0 L) (h53 c1 c2 c3 c4 c5 c6 c7 c8 c9 c10 c11 c12 c13 c14 c15 c16 c17 c18 c19 c20 c21 c22 c23 c24 c25 c26 c27 c28 c29 c30)).trans (xs_callvB k243_1156 (as := [vI (i 0 (px_w32 (x3 + 1)))]) rfl rfl (Nat.le_of_ble_eq_true rfl) (Nat.le_of_ble_eq_true rfl) (Nat.le_of_ble_eq_true rfl) (px_s3 L) (Nat.le_of_ble_eq_true rfl)))))))))) (fun c30 => ((xs_tswd k243_53 (by omega)).trans ((xs_iinc k243_1173 rfl (by omega) (ls' := [vR 0, vR 3, vR 123, vI (px_w32 (x3 + 8))]) rfl).trans (xs_goto k243_1176))))))))))))))))))))))))))))))))))))))))))))))))))))))))))))))))))))))))))
theorem b243_208 (hr : px_hr r) (d : Nat) (i l : MI) (x3 : Int) (xs0 : Int) (xs1 : Int) (xs2 : Int) : px_X (d + 1) 243 (208, [vR 0, vR 3, vR 123, vI x3], [vI xs0, vI xs1, vI xs2, vR 3]) (px_sh L, i, l, r, t) = (px_C d 1 [vR 3, vI xs2, vI xs1, vI xs0] (px_sh L, i, l, r, t)).bind (fun q => px_X (d + 1) 243 (px_psh (211, [vR 0, vR 3, vR 123, vI x3], []) q.1) q.2) := (xs_callvB k243_208 (as := [vI xs2, vI xs1, vI xs0]) rfl rfl (Nat.le_of_ble_eq_true rfl) (Nat.le_of_ble_eq_true rfl) (Nat.le_of_ble_eq_true rfl) (px_s3 L) (Nat.le_of_ble_eq_true rfl))
theorem b243_211 (hr : px_hr r) (d : Nat) (i l : MI) (x3 : Int) (xs0 : Int) (h1 : 0 ≤ (px_w32 (x3 + 1)) ∧ (px_w32 (x3 + 1)) < (L : Int)) (h2 : 0 ≤ (px_w32 (x3 + 2)) ∧ (px_w32 (x3 + 2)) < (L : Int)) (h3 : 0 ≤ (px_w32 (x3 + 3)) ∧ (px_w32 (x3 + 3)) < (L : Int)) : px_X d 243 (211, [vR 0, vR 3, vR 123, vI x3], [vI xs0]) (px_sh L, i, l, r, t) = if (i 0 (px_w32 (x3 + 3))) = 0 then px_X d 243 (235, [vR 0, vR 3, vR 123, vI x3], [vI 0, vI (i 0 (px_w32 (x3 + 2))), vI (i 0 (px_w32 (x3 + 1))), vR 123, vI xs0]) (px_sh L, i, l, r, t) else px_X d 243 (235, [vR 0, vR 3, vR 123, vI x3], [vI 1, vI (i 0 (px_w32 (x3 + 2))), vI (i 0 (px_w32 (x3 + 1))), vR 123, vI xs0]) (px_sh L, i, l, r, t) := ((xs_aldn k243_211 rfl).trans ((xs_aldn k243_212 rfl).trans ((xs_ildn k243_213 rfl).trans ((xs_ic k243_214 (by omega)).trans ((xs_iadd k243_215).trans ((xs_iald k243_216 (px_s0 L) (h1)).trans ((xs_aldn k243_217 rfl).trans ((xs_ildn k243_218 rfl).trans ((xs_ic k243_219 (by omega)).trans ((xs_iadd k243_220).trans ((xs_iald k243_221 (px_s0 L) (h2)).trans ((xs_aldn k243_222 rfl).trans ((xs_ildn k243_223 rfl).trans ((xs_ic k243_224 (by omega)).trans ((xs_iadd k243_225).trans ((xs_iald k243_226 (px_s0 L) (h3)).trans ((xs_ieq k243_227).trans (px_ite (fun c1 => (xs_ic k243_234 (by omega))) (fun c1 => ((xs_ic k243_230 (by omega)).trans (xs_goto k243_231)))))))))))))))))))))
theorem b243_235 (hr : px_hr r) (d : Nat) (i l : MI) (x3 : Int) (xs0 : Int) (xs1 : Int) (xs2 : Int) (xs4 : Int) : px_X (d + 1) 243 (235, [vR 0, vR 3, vR 123, vI x3], [vI xs0, vI xs1, vI xs2, vR 123, vI xs4]) (px_sh L, i, l, r, t) = (px_C d 147 [vR 123, vI xs2, vI xs1, vI xs0] (px_sh L, i, l, r, t)).bind (fun q => px_X (d + 1) 243 (px_psh (238, [vR 0, vR 3, vR 123, vI x3], [vI xs4]) q.1) q.2) := (xs_callvB k243_235 (as := [vI xs2, vI xs1, vI xs0]) rfl rfl (Nat.le_of_ble_eq_true rfl) (Nat.le_of_ble_eq_true rfl) (Nat.le_of_ble_eq_true rfl) (px_s123 L) (Nat.le_of_ble_eq_true rfl))
theorem b243_238 (hr : px_hr r) (d : Nat) (i l : MI) (x3 : Int) (xs0 : Int) (xs1 : Int) : px_X d 243 (238, [vR 0, vR 3, vR 123, vI x3], [vI xs0, vI xs1]) (px_sh L, i, l, r, t) = if xs1 = xs0 then px_X d 243 (38, [vR 0, vR 3, vR 123, vI (px_w32 (x3 + 8))], []) (px_sh L, i, l, r, t) else some (some (vI 0), (px_sh L, i, l, r, t)) := ((xs_jeq k243_238).trans (px_ite (fun c1 => ((xs_iinc k243_1173 rfl (by omega) (ls' := [vR 0, vR 3, vR 123, vI (px_w32 (x3 + 8))]) rfl).trans (xs_goto k243_1176))) (fun c1 => ((xs_ic k243_241 (by omega)).trans (xs_rz k243_242 rfl (by omega))))))
theorem b243_252 (hr : px_hr r) (d : Nat) (i l : MI) (x3 : Int) (xs0 : Int) (h1 : 0 ≤ (px_w32 (x3 + 1)) ∧ (px_w32 (x3 + 1)) < (L : Int)) : px_X (d + 1) 243 (252, [vR 0, vR 3, vR 123, vI x3], [vI xs0]) (px_sh L, i, l, r, t) = (px_C d 148 [vR 123, vI (i 0 (px_w32 (x3 + 1)))] (px_sh L, i, l, r, t)).bind (fun q => px_X (d + 1) 243 (px_psh (261, [vR 0, vR 3, vR 123, vI x3], [vI xs0]) q.1) q.2) := ((xs_aldn k243_252 rfl).trans ((xs_aldn k243_253 rfl).trans ((xs_ildn k243_254 rfl).trans ((xs_ic k243_255 (by omega)).trans ((xs_iadd k243_256).trans ((xs_iald k243_257 (px_s0 L) (h1)).trans (xs_callvB k243_258 (as := [vI (i 0 (px_w32 (x3 + 1)))]) rfl rfl (Nat.le_of_ble_eq_true rfl) (Nat.le_of_ble_eq_true rfl) (Nat.le_of_ble_eq_true rfl) (px_s123 L) (Nat.le_of_ble_eq_true rfl))))))))
theorem b243_261 (hr : px_hr r) (d : Nat) (i l : MI) (x3 : Int) (xs0 : Int) (xs1 : Int) : px_X d 243 (261, [vR 0, vR 3, vR 123, vI x3], [vI xs0, vI xs1]) (px_sh L, i, l, r, t) = if xs1 = xs0 then px_X d 243 (38, [vR 0, vR 3, vR 123, vI (px_w32 (x3 + 8))], []) (px_sh L, i, l, r, t) else some (some (vI 0), (px_sh L, i, l, r, t)) := ((xs_jeq k243_261).trans (px_ite (fun c1 => ((xs_iinc k243_1173 rfl (by omega) (ls' := [vR 0, vR 3, vR 123, vI (px_w32 (x3 + 8))]) rfl).trans (xs_goto k243_1176))) (fun c1 => ((xs_ic k243_264 (by omega)).trans (xs_rz k243_265 rfl (by omega))))))
theorem b243_280 (hr : px_hr r) (d : Nat) (i l : MI) (x3 : Int) (xs0 : Int) (h1 : 0 ≤ (px_w32 (x3 + 1)) ∧ (px_w32 (x3 + 1)) < (L : Int)) (h2 : 0 ≤ (px_w32 (x3 + 2)) ∧ (px_w32 (x3 + 2)) < (L : Int)) : px_X (d + 1) 243 (280, [vR 0, vR 3, vR 123, vI x3], [vI xs0]) (px_sh L, i, l, r, t) = (px_C d 149 [vR 123, vI (i 0 (px_w32 (x3 + 1))), vI (i 0 (px_w32 (x3 + 2)))] (px_sh L, i, l, r, t)).bind (fun q => px_X (d + 1) 243 (px_psh (294, [vR 0, vR 3, vR 123, vI x3], [vI xs0]) q.1) q.2) := ((xs_aldn k243_280 rfl).trans ((xs_aldn k243_281 rfl).trans ((xs_ildn k243_282 rfl).trans ((xs_ic k243_283 (by omega)).trans ((xs_iadd k243_284).trans ((xs_iald k243_285 (px_s0 L) (h1)).trans ((xs_aldn k243_286 rfl).trans ((xs_ildn k243_287 rfl).trans ((xs_ic k243_288 (by omega)).trans ((xs_iadd k243_289).trans ((xs_iald k243_290 (px_s0 L) (h2)).trans (xs_callvB k243_291 (as := [vI (i 0 (px_w32 (x3 + 1))), vI (i 0 (px_w32 (x3 + 2)))]) rfl rfl (Nat.le_of_ble_eq_true rfl) (Nat.le_of_ble_eq_true rfl) (Nat.le_of_ble_eq_true rfl) (px_s123 L) (Nat.le_of_ble_eq_true rfl)))))))))))))
theorem b243_294 (hr : px_hr r) (d : Nat) (i l : MI) (x3 : Int) (xs0 : Int) (xs1 : Int) : px_X d 243 (294, [vR 0, vR 3, vR 123, vI x3], [vI xs0, vI xs1]) (px_sh L, i, l, r, t) = if xs1 = xs0 then px_X d 243 (38, [vR 0, vR 3, vR 123, vI (px_w32 (x3 + 8))], []) (px_sh L, i, l, r, t) else some (some (vI 0), (px_sh L, i, l, r, t)) := ((xs_jeq k243_294).trans (px_ite (fun c1 => ((xs_iinc k243_1173 rfl (by omega) (ls' := [vR 0, vR 3, vR 123, vI (px_w32 (x3 + 8))]) rfl).trans (xs_goto k243_1176))) (fun c1 => ((xs_ic k243_297 (by omega)).trans (xs_rz k243_298 rfl (by omega))))))
theorem b243_313 (hr : px_hr r) (d : Nat) (i l : MI) (x3 : Int) (xs0 : Int) (h1 : 0 ≤ (px_w32 (x3 + 1)) ∧ (px_w32 (x3 + 1)) < (L : Int)) (h2 : 0 ≤ (px_w32 (x3 + 2)) ∧ (px_w32 (x3 + 2)) < (L : Int)) : px_X (d + 1) 243 (313, [vR 0, vR 3, vR 123, vI x3], [vI xs0]) (px_sh L, i, l, r, t) = (px_C d 150 [vR 123, vI (i 0 (px_w32 (x3 + 1))), vI (i 0 (px_w32 (x3 + 2)))] (px_sh L, i, l, r, t)).bind (fun q => px_X (d + 1) 243 (px_psh (327, [vR 0, vR 3, vR 123, vI x3], [vI xs0]) q.1) q.2) := ((xs_aldn k243_313 rfl).trans ((xs_aldn k243_314 rfl).trans ((xs_ildn k243_315 rfl).trans ((xs_ic k243_316 (by omega)).trans ((xs_iadd k243_317).trans ((xs_iald k243_318 (px_s0 L) (h1)).trans ((xs_aldn k243_319 rfl).trans ((xs_ildn k243_320 rfl).trans ((xs_ic k243_321 (by omega)).trans ((xs_iadd k243_322).trans ((xs_iald k243_323 (px_s0 L) (h2)).trans (xs_callvB k243_324 (as := [vI (i 0 (px_w32 (x3 + 1))), vI (i 0 (px_w32 (x3 + 2)))]) rfl rfl (Nat.le_of_ble_eq_true rfl) (Nat.le_of_ble_eq_true rfl) (Nat.le_of_ble_eq_true rfl) (px_s123 L) (Nat.le_of_ble_eq_true rfl)))))))))))))
theorem b243_327 (hr : px_hr r) (d : Nat) (i l : MI) (x3 : Int) (xs0 : Int) (xs1 : Int) : px_X d 243 (327, [vR 0, vR 3, vR 123, vI x3], [vI xs0, vI xs1]) (px_sh L, i, l, r, t) = if xs1 = xs0 then px_X d 243 (38, [vR 0, vR 3, vR 123, vI (px_w32 (x3 + 8))], []) (px_sh L, i, l, r, t) else some (some (vI 0), (px_sh L, i, l, r, t)) := ((xs_jeq k243_327).trans (px_ite (fun c1 => ((xs_iinc k243_1173 rfl (by omega) (ls' := [vR 0, vR 3, vR 123, vI (px_w32 (x3 + 8))]) rfl).trans (xs_goto k243_1176))) (fun c1 => ((xs_ic k243_330 (by omega)).trans (xs_rz k243_331 rfl (by omega))))))
theorem b243_356 (hr : px_hr r) (d : Nat) (i l : MI) (x3 : Int) (xs0 : Int) (xs1 : Int) (xs2 : Int) (h1 : 0 ≤ (px_w32 (x3 + 4)) ∧ (px_w32 (x3 + 4)) < (L : Int)) (h2 : 0 ≤ (px_w32 (x3 + 5)) ∧ (px_w32 (x3 + 5)) < (L : Int)) (h3 : 0 ≤ (px_w32 (x3 + 6)) ∧ (px_w32 (x3 + 6)) < (L : Int)) (h4 : 0 ≤ (px_w32 (x3 + 7)) ∧ (px_w32 (x3 + 7)) < (L : Int)) : px_X (d + 1) 243 (356, [vR 0, vR 3, vR 123, vI x3], [vI xs0, vI xs1, vI xs2, vR 3]) (px_sh L, i, l, r, t) = (px_C d 5 [vR 3, vI xs2, vI xs1, vI xs0, vI (i 0 (px_w32 (x3 + 4))), vI (i 0 (px_w32 (x3 + 5))), vI (i 0 (px_w32 (x3 + 6))), vI (i 0 (px_w32 (x3 + 7)))] (px_sh L, i, l, r, t)).bind (fun q => px_X (d + 1) 243 (px_psh (381, [vR 0, vR 3, vR 123, vI x3], []) q.1) q.2) := ((xs_aldn k243_356 rfl).trans ((xs_ildn k243_357 rfl).trans ((xs_ic k243_358 (by omega)).trans ((xs_iadd k243_359).trans ((xs_iald k243_360 (px_s0 L) (h1)).trans ((xs_aldn k243_361 rfl).trans ((xs_ildn k243_362 rfl).trans ((xs_ic k243_363 (by omega)).trans ((xs_iadd k243_364).trans ((xs_iald k243_365 (px_s0 L) (h2)).trans ((xs_aldn k243_366 rfl).trans ((xs_ildn k243_367 rfl).trans ((xs_bi k243_368 (by omega)).trans ((xs_iadd k243_370).trans ((xs_iald k243_371 (px_s0 L) (h3)).trans ((xs_aldn k243_372 rfl).trans ((xs_ildn k243_373 rfl).trans ((xs_bi k243_374 (by omega)).trans ((xs_iadd k243_376).trans ((xs_iald k243_377 (px_s0 L) (h4)).trans (xs_callvB k243_378 (as := [vI xs2, vI xs1, vI xs0, vI (i 0 (px_w32 (x3 + 4))), vI (i 0 (px_w32 (x3 + 5))), vI (i 0 (px_w32 (x3 + 6))), vI (i 0 (px_w32 (x3 + 7)))]) rfl rfl (Nat.le_of_ble_eq_true rfl) (Nat.le_of_ble_eq_true rfl) (Nat.le_of_ble_eq_true rfl) (px_s3 L) (Nat.le_of_ble_eq_true rfl))))))))))))))))))))))
theorem b243_381 (hr : px_hr r) (d : Nat) (i l : MI) (x3 : Int) (xs0 : Int) (h1 : 0 ≤ (px_w32 (x3 + 1)) ∧ (px_w32 (x3 + 1)) < (L : Int)) (h2 : 0 ≤ (px_w32 (x3 + 2)) ∧ (px_w32 (x3 + 2)) < (L : Int)) (h3 : 0 ≤ (px_w32 (x3 + 3)) ∧ (px_w32 (x3 + 3)) < (L : Int)) : px_X d 243 (381, [vR 0, vR 3, vR 123, vI x3], [vI xs0]) (px_sh L, i, l, r, t) = if (i 0 (px_w32 (x3 + 3))) = 0 then px_X d 243 (405, [vR 0, vR 3, vR 123, vI x3], [vI 0, vI (i 0 (px_w32 (x3 + 2))), vI (i 0 (px_w32 (x3 + 1))), vR 123, vI xs0]) (px_sh L, i, l, r, t) else px_X d 243 (405, [vR 0, vR 3, vR 123, vI x3], [vI 1, vI (i 0 (px_w32 (x3 + 2))), vI (i 0 (px_w32 (x3 + 1))), vR 123, vI xs0]) (px_sh L, i, l, r, t) := ((xs_aldn k243_381 rfl).trans ((xs_aldn k243_382 rfl).trans ((xs_ildn k243_383 rfl).trans ((xs_ic k243_384 (by omega)).trans ((xs_iadd k243_385).trans ((xs_iald k243_386 (px_s0 L) (h1)).trans ((xs_aldn k243_387 rfl).trans ((xs_ildn k243_388 rfl).trans ((xs_ic k243_389 (by omega)).trans ((xs_iadd k243_390).trans ((xs_iald k243_391 (px_s0 L) (h2)).trans ((xs_aldn k243_392 rfl).trans ((xs_ildn k243_393 rfl).trans ((xs_ic k243_394 (by omega)).trans ((xs_iadd k243_395).trans ((xs_iald k243_396 (px_s0 L) (h3)).trans ((xs_ieq k243_397).trans (px_ite (fun c1 => (xs_ic k243_404 (by omega))) (fun c1 => ((xs_ic k243_400 (by omega)).trans (xs_goto k243_401)))))))))))))))))))))
theorem b243_405 (hr : px_hr r) (d : Nat) (i l : MI) (x3 : Int) (xs0 : Int) (xs1 : Int) (xs2 : Int) (xs4 : Int) (h1 : 0 ≤ (px_w32 (x3 + 4)) ∧ (px_w32 (x3 + 4)) < (L : Int)) (h2 : 0 ≤ (px_w32 (x3 + 5)) ∧ (px_w32 (x3 + 5)) < (L : Int)) (h3 : 0 ≤ (px_w32 (x3 + 6)) ∧ (px_w32 (x3 + 6)) < (L : Int)) (h4 : 0 ≤ (px_w32 (x3 + 7)) ∧ (px_w32 (x3 + 7)) < (L : Int)) : px_X (d + 1) 243 (405, [vR 0, vR 3, vR 123, vI x3], [vI xs0, vI xs1, vI xs2, vR 123, vI xs4]) (px_sh L, i, l, r, t) = (px_C d 151 [vR 123, vI xs2, vI xs1, vI xs0, vI (i 0 (px_w32 (x3 + 4))), vI (i 0 (px_w32 (x3 + 5))), vI (i 0 (px_w32 (x3 + 6))), vI (i 0 (px_w32 (x3 + 7)))] (px_sh L, i, l, r, t)).bind (fun q => px_X (d + 1) 243 (px_psh (430, [vR 0, vR 3, vR 123, vI x3], [vI xs4]) q.1) q.2) := ((xs_aldn k243_405 rfl).trans ((xs_ildn k243_406 rfl).trans ((xs_ic k243_407 (by omega)).trans ((xs_iadd k243_408).trans ((xs_iald k243_409 (px_s0 L) (h1)).trans ((xs_aldn k243_410 rfl).trans ((xs_ildn k243_411 rfl).trans ((xs_ic k243_412 (by omega)).trans ((xs_iadd k243_413).trans ((xs_iald k243_414 (px_s0 L) (h2)).trans ((xs_aldn k243_415 rfl).trans ((xs_ildn k243_416 rfl).trans ((xs_bi k243_417 (by omega)).trans ((xs_iadd k243_419).trans ((xs_iald k243_420 (px_s0 L) (h3)).trans ((xs_aldn k243_421 rfl).trans ((xs_ildn k243_422 rfl).trans ((xs_bi k243_423 (by omega)).trans ((xs_iadd k243_425).trans ((xs_iald k243_426 (px_s0 L) (h4)).trans (xs_callvB k243_427 (as := [vI xs2, vI xs1, vI xs0, vI (i 0 (px_w32 (x3 + 4))), vI (i 0 (px_w32 (x3 + 5))), vI (i 0 (px_w32 (x3 + 6))), vI (i 0 (px_w32 (x3 + 7)))]) rfl rfl (Nat.le_of_ble_eq_true rfl) (Nat.le_of_ble_eq_true rfl) (Nat.le_of_ble_eq_true rfl) (px_s123 L) (Nat.le_of_ble_eq_true rfl))))))))))))))))))))))
theorem b243_430 (hr : px_hr r) (d : Nat) (i l : MI) (x3 : Int) (xs0 : Int) (xs1 : Int) : px_X d 243 (430, [vR 0, vR 3, vR 123, vI x3], [vI xs0, vI xs1]) (px_sh L, i, l, r, t) = if xs1 = xs0 then px_X d 243 (38, [vR 0, vR 3, vR 123, vI (px_w32 (x3 + 8))], []) (px_sh L, i, l, r, t) else some (some (vI 0), (px_sh L, i, l, r, t)) := ((xs_jeq k243_430).trans (px_ite (fun c1 => ((xs_iinc k243_1173 rfl (by omega) (ls' := [vR 0, vR 3, vR 123, vI (px_w32 (x3 + 8))]) rfl).trans (xs_goto k243_1176))) (fun c1 => ((xs_ic k243_433 (by omega)).trans (xs_rz k243_434 rfl (by omega))))))
theorem b243_459 (hr : px_hr r) (d : Nat) (i l : MI) (x3 : Int) (xs0 : Int) (xs1 : Int) (xs2 : Int) : px_X (d + 1) 243 (459, [vR 0, vR 3, vR 123, vI x3], [vI xs0, vI xs1, vI xs2, vR 3]) (px_sh L, i, l, r, t) = (px_C d 6 [vR 3, vI xs2, vI xs1, vI xs0] (px_sh L, i, l, r, t)).bind (fun q => px_X (d + 1) 243 (px_psh (462, [vR 0, vR 3, vR 123, vI x3], []) q.1) q.2) := (xs_callvB k243_459 (as := [vI xs2, vI xs1, vI xs0]) rfl rfl (Nat.le_of_ble_eq_true rfl) (Nat.le_of_ble_eq_true rfl) (Nat.le_of_ble_eq_true rfl) (px_s3 L) (Nat.le_of_ble_eq_true rfl))
theorem b243_462 (hr : px_hr r) (d : Nat) (i l : MI) (x3 : Int) (xs0 : Int) (h1 : 0 ≤ (px_w32 (x3 + 1)) ∧ (px_w32 (x3 + 1)) < (L : Int)) (h2 : 0 ≤ (px_w32 (x3 + 2)) ∧ (px_w32 (x3 + 2)) < (L : Int)) (h3 : 0 ≤ (px_w32 (x3 + 3)) ∧ (px_w32 (x3 + 3)) < (L : Int)) : px_X d 243 (462, [vR 0, vR 3, vR 123, vI x3], [vI xs0]) (px_sh L, i, l, r, t) = if (i 0 (px_w32 (x3 + 3))) = 0 then px_X d 243 (486, [vR 0, vR 3, vR 123, vI x3], [vI 0, vI (i 0 (px_w32 (x3 + 2))), vI (i 0 (px_w32 (x3 + 1))), vR 123, vI xs0]) (px_sh L, i, l, r, t) else px_X d 243 (486, [vR 0, vR 3, vR 123, vI x3], [vI 1, vI (i 0 (px_w32 (x3 + 2))), vI (i 0 (px_w32 (x3 + 1))), vR 123, vI xs0]) (px_sh L, i, l, r, t) := ((xs_aldn k243_462 rfl).trans ((xs_aldn k243_463 rfl).trans ((xs_ildn k243_464 rfl).trans ((xs_ic k243_465 (by omega)).trans ((xs_iadd k243_466).trans ((xs_iald k243_467 (px_s0 L) (h1)).trans ((xs_aldn k243_468 rfl).trans ((xs_ildn k243_469 rfl).trans ((xs_ic k243_470 (by omega)).trans ((xs_iadd k243_471).trans ((xs_iald k243_472 (px_s0 L) (h2)).trans ((xs_aldn k243_473 rfl).trans ((xs_ildn k243_474 rfl).trans ((xs_ic k243_475 (by omega)).trans ((xs_iadd k243_476).trans ((xs_iald k243_477 (px_s0 L) (h3)).trans ((xs_ieq k243_478).trans (px_ite (fun c1 => (xs_ic k243_485 (by omega))) (fun c1 => ((xs_ic k243_481 (by omega)).trans (xs_goto k243_482)))))))))))))))))))))
theorem b243_486 (hr : px_hr r) (d : Nat) (i l : MI) (x3 : Int) (xs0 : Int) (xs1 : Int) (xs2 : Int) (xs4 : Int) : px_X (d + 1) 243 (486, [vR 0, vR 3, vR 123, vI x3], [vI xs0, vI xs1, vI xs2, vR 123, vI xs4]) (px_sh L, i, l, r, t) = (px_C d 152 [vR 123, vI xs2, vI xs1, vI xs0] (px_sh L, i, l, r, t)).bind (fun q => px_X (d + 1) 243 (px_psh (489, [vR 0, vR 3, vR 123, vI x3], [vI xs4]) q.1) q.2) := (xs_callvB k243_486 (as := [vI xs2, vI xs1, vI xs0]) rfl rfl (Nat.le_of_ble_eq_true rfl) (Nat.le_of_ble_eq_true rfl) (Nat.le_of_ble_eq_true rfl) (px_s123 L) (Nat.le_of_ble_eq_true rfl))
theorem b243_489 (hr : px_hr r) (d : Nat) (i l : MI) (x3 : Int) (xs0 : Int) (xs1 : Int) : px_X d 243 (489, [vR 0, vR 3, vR 123, vI x3], [vI xs0, vI xs1]) (px_sh L, i, l, r, t) = if xs1 = xs0 then px_X d 243 (38, [vR 0, vR 3, vR 123, vI (px_w32 (x3 + 8))], []) (px_sh L, i, l, r, t) else some (some (vI 0), (px_sh L, i, l, r, t)) := ((xs_jeq k243_489).trans (px_ite (fun c1 => ((xs_iinc k243_1173 rfl (by omega) (ls' := [vR 0, vR 3, vR 123, vI (px_w32 (x3 + 8))]) rfl).trans (xs_goto k243_1176))) (fun c1 => ((xs_ic k243_492 (by omega)).trans (xs_rz k243_493 rfl (by omega))))))
theorem b243_523 (hr : px_hr r) (d : Nat) (i l : MI) (x3 : Int) (xs0 : Int) (h1 : 0 ≤ (px_w32 (x3 + 1)) ∧ (px_w32 (x3 + 1)) < (L : Int)) (h2 : 0 ≤ (px_w32 (x3 + 2)) ∧ (px_w32 (x3 + 2)) < (L : Int)) (h3 : 0 ≤ (px_w32 (x3 + 3)) ∧ (px_w32 (x3 + 3)) < (L : Int)) (h4 : 0 ≤ (px_w32 (x3 + 4)) ∧ (px_w32 (x3 + 4)) < (L : Int)) (h5 : 0 ≤ (px_w32 (x3 + 5)) ∧ (px_w32 (x3 + 5)) < (L : Int)) : px_X (d + 1) 243 (523, [vR 0, vR 3, vR 123, vI x3], [vI xs0]) (px_sh L, i, l, r, t) = (px_C d 154 [vR 123, vI (i 0 (px_w32 (x3 + 1))), vI (i 0 (px_w32 (x3 + 2))), vI (i 0 (px_w32 (x3 + 3))), vI (i 0 (px_w32 (x3 + 4))), vI (i 0 (px_w32 (x3 + 5)))] (px_sh L, i, l, r, t)).bind (fun q => px_X (d + 1) 243 (px_psh (552, [vR 0, vR 3, vR 123, vI x3], [vI xs0]) q.1) q.2) := ((xs_aldn k243_523 rfl).trans ((xs_aldn k243_524 rfl).trans ((xs_ildn k243_525 rfl).trans ((xs_ic k243_526 (by omega)).trans ((xs_iadd k243_527).trans ((xs_iald k243_528 (px_s0 L) (h1)).trans ((xs_aldn k243_529 rfl).trans ((xs_ildn k243_530 rfl).trans ((xs_ic k243_531 (by omega)).trans ((xs_iadd k243_532).trans ((xs_iald k243_533 (px_s0 L) (h2)).trans ((xs_aldn k243_534 rfl).trans ((xs_ildn k243_535 rfl).trans ((xs_ic k243_536 (by omega)).trans ((xs_iadd k243_537).trans ((xs_iald k243_538 (px_s0 L) (h3)).trans ((xs_aldn k243_539 rfl).trans ((xs_ildn k243_540 rfl).trans ((xs_ic k243_541 (by omega)).trans ((xs_iadd k243_542).trans ((xs_iald k243_543 (px_s0 L) (h4)).trans ((xs_aldn k243_544 rfl).trans ((xs_ildn k243_545 rfl).trans ((xs_ic k243_546 (by omega)).trans ((xs_iadd k243_547).trans ((xs_iald k243_548 (px_s0 L) (h5)).trans (xs_callvB k243_549 (as := [vI (i 0 (px_w32 (x3 + 1))), vI (i 0 (px_w32 (x3 + 2))), vI (i 0 (px_w32 (x3 + 3))), vI (i 0 (px_w32 (x3 + 4))), vI (i 0 (px_w32 (x3 + 5)))]) rfl rfl (Nat.le_of_ble_eq_true rfl) (Nat.le_of_ble_eq_true rfl) (Nat.le_of_ble_eq_true rfl) (px_s123 L) (Nat.le_of_ble_eq_true rfl))))))))))))))))))))))))))))
theorem b243_552 (hr : px_hr r) (d : Nat) (i l : MI) (x3 : Int) (xs0 : Int) (xs1 : Int) : px_X d 243 (552, [vR 0, vR 3, vR 123, vI x3], [vI xs0, vI xs1]) (px_sh L, i, l, r, t) = if xs1 = xs0 then px_X d 243 (38, [vR 0, vR 3, vR 123, vI (px_w32 (x3 + 8))], []) (px_sh L, i, l, r, t) else some (some (vI 0), (px_sh L, i, l, r, t)) := ((xs_jeq k243_552).trans (px_ite (fun c1 => ((xs_iinc k243_1173 rfl (by omega) (ls' := [vR 0, vR 3, vR 123, vI (px_w32 (x3 + 8))]) rfl).trans (xs_goto k243_1176))) (fun c1 => ((xs_ic k243_555 (by omega)).trans (xs_rz k243_556 rfl (by omega))))))
theorem b243_566 (hr : px_hr r) (d : Nat) (i l : MI) (x3 : Int) (xs0 : Int) (h1 : 0 ≤ (px_w32 (x3 + 1)) ∧ (px_w32 (x3 + 1)) < (L : Int)) : px_X (d + 1) 243 (566, [vR 0, vR 3, vR 123, vI x3], [vI xs0]) (px_sh L, i, l, r, t) = (px_C d 155 [vR 123, vI (i 0 (px_w32 (x3 + 1)))] (px_sh L, i, l, r, t)).bind (fun q => px_X (d + 1) 243 (px_psh (575, [vR 0, vR 3, vR 123, vI x3], [vI xs0]) q.1) q.2) := ((xs_aldn k243_566 rfl).trans ((xs_aldn k243_567 rfl).trans ((xs_ildn k243_568 rfl).trans ((xs_ic k243_569 (by omega)).trans ((xs_iadd k243_570).trans ((xs_iald k243_571 (px_s0 L) (h1)).trans (xs_callvB k243_572 (as := [vI (i 0 (px_w32 (x3 + 1)))]) rfl rfl (Nat.le_of_ble_eq_true rfl) (Nat.le_of_ble_eq_true rfl) (Nat.le_of_ble_eq_true rfl) (px_s123 L) (Nat.le_of_ble_eq_true rfl))))))))
theorem b243_575 (hr : px_hr r) (d : Nat) (i l : MI) (x3 : Int) (xs0 : Int) (xs1 : Int) : px_X d 243 (575, [vR 0, vR 3, vR 123, vI x3], [vI xs0, vI xs1]) (px_sh L, i, l, r, t) = if xs1 = xs0 then px_X d 243 (38, [vR 0, vR 3, vR 123, vI (px_w32 (x3 + 8))], []) (px_sh L, i, l, r, t) else some (some (vI 0), (px_sh L, i, l, r, t)) := ((xs_jeq k243_575).trans (px_ite (fun c1 => ((xs_iinc k243_1173 rfl (by omega) (ls' := [vR 0, vR 3, vR 123, vI (px_w32 (x3 + 8))]) rfl).trans (xs_goto k243_1176))) (fun c1 => ((xs_ic k243_578 (by omega)).trans (xs_rz k243_579 rfl (by omega))))))
theorem b243_584 (hr : px_hr r) (d : Nat) (i l : MI) (x3 : Int) (xs0 : Int) : px_X (d + 1) 243 (584, [vR 0, vR 3, vR 123, vI x3], [vI xs0]) (px_sh L, i, l, r, t) = (px_C d 180 [vR 123] (px_sh L, i, l, r, t)).bind (fun q => px_X (d + 1) 243 (px_psh (588, [vR 0, vR 3, vR 123, vI x3], [vI xs0]) q.1) q.2) := ((xs_aldn k243_584 rfl).trans (xs_callvB k243_585 (as := []) rfl rfl (Nat.le_of_ble_eq_true rfl) (Nat.le_of_ble_eq_true rfl) (Nat.le_of_ble_eq_true rfl) (px_s123 L) (Nat.le_of_ble_eq_true rfl)))
theorem b243_588 (hr : px_hr r) (d : Nat) (i l : MI) (x3 : Int) (xs0 : Int) (xs1 : Int) : px_X d 243 (588, [vR 0, vR 3, vR 123, vI x3], [vI xs0, vI xs1]) (px_sh L, i, l, r, t) = if xs1 = xs0 then px_X d 243 (38, [vR 0, vR 3, vR 123, vI (px_w32 (x3 + 8))], []) (px_sh L, i, l, r, t) else some (some (vI 0), (px_sh L, i, l, r, t)) := ((xs_jeq k243_588).trans (px_ite (fun c1 => ((xs_iinc k243_1173 rfl (by omega) (ls' := [vR 0, vR 3, vR 123, vI (px_w32 (x3 + 8))]) rfl).trans (xs_goto k243_1176))) (fun c1 => ((xs_ic k243_591 (by omega)).trans (xs_rz k243_592 rfl (by omega))))))
theorem b243_602 (hr : px_hr r) (d : Nat) (i l : MI) (x3 : Int) (xs0 : Int) (h1 : 0 ≤ (px_w32 (x3 + 1)) ∧ (px_w32 (x3 + 1)) < (L : Int)) : px_X (d + 1) 243 (602, [vR 0, vR 3, vR 123, vI x3], [vI xs0]) (px_sh L, i, l, r, t) = (px_C d 182 [vR 123, vI (i 0 (px_w32 (x3 + 1)))] (px_sh L, i, l, r, t)).bind (fun q => px_X (d + 1) 243 (px_psh (611, [vR 0, vR 3, vR 123, vI x3], [vI xs0]) q.1) q.2) := ((xs_aldn k243_602 rfl).trans ((xs_aldn k243_603 rfl).trans ((xs_ildn k243_604 rfl).trans ((xs_ic k243_605 (by omega)).trans ((xs_iadd k243_606).trans ((xs_iald k243_607 (px_s0 L) (h1)).trans (xs_callvB k243_608 (as := [vI (i 0 (px_w32 (x3 + 1)))]) rfl rfl (Nat.le_of_ble_eq_true rfl) (Nat.le_of_ble_eq_true rfl) (Nat.le_of_ble_eq_true rfl) (px_s123 L) (Nat.le_of_ble_eq_true rfl))))))))
theorem b243_611 (hr : px_hr r) (d : Nat) (i l : MI) (x3 : Int) (xs0 : Int) (xs1 : Int) : px_X d 243 (611, [vR 0, vR 3, vR 123, vI x3], [vI xs0, vI xs1]) (px_sh L, i, l, r, t) = if xs1 = xs0 then px_X d 243 (38, [vR 0, vR 3, vR 123, vI (px_w32 (x3 + 8))], []) (px_sh L, i, l, r, t) else some (some (vI 0), (px_sh L, i, l, r, t)) := ((xs_jeq k243_611).trans (px_ite (fun c1 => ((xs_iinc k243_1173 rfl (by omega) (ls' := [vR 0, vR 3, vR 123, vI (px_w32 (x3 + 8))]) rfl).trans (xs_goto k243_1176))) (fun c1 => ((xs_ic k243_614 (by omega)).trans (xs_rz k243_615 rfl (by omega))))))
theorem b243_625 (hr : px_hr r) (d : Nat) (i l : MI) (x3 : Int) (xs0 : Int) (h1 : 0 ≤ (px_w32 (x3 + 1)) ∧ (px_w32 (x3 + 1)) < (L : Int)) : px_X (d + 1) 243 (625, [vR 0, vR 3, vR 123, vI x3], [vI xs0]) (px_sh L, i, l, r, t) = (px_C d 186 [vR 123, vI (i 0 (px_w32 (x3 + 1)))] (px_sh L, i, l, r, t)).bind (fun q => px_X (d + 1) 243 (px_psh (634, [vR 0, vR 3, vR 123, vI x3], [vI xs0]) q.1) q.2) := ((xs_aldn k243_625 rfl).trans ((xs_aldn k243_626 rfl).trans ((xs_ildn k243_627 rfl).trans ((xs_ic k243_628 (by omega)).trans ((xs_iadd k243_629).trans ((xs_iald k243_630 (px_s0 L) (h1)).trans (xs_callvB k243_631 (as := [vI (i 0 (px_w32 (x3 + 1)))]) rfl rfl (Nat.le_of_ble_eq_true rfl) (Nat.le_of_ble_eq_true rfl) (Nat.le_of_ble_eq_true rfl) (px_s123 L) (Nat.le_of_ble_eq_true rfl))))))))
theorem b243_634 (hr : px_hr r) (d : Nat) (i l : MI) (x3 : Int) (xs0 : Int) (xs1 : Int) : px_X d 243 (634, [vR 0, vR 3, vR 123, vI x3], [vI xs0, vI xs1]) (px_sh L, i, l, r, t) = if xs1 = xs0 then px_X d 243 (38, [vR 0, vR 3, vR 123, vI (px_w32 (x3 + 8))], []) (px_sh L, i, l, r, t) else some (some (vI 0), (px_sh L, i, l, r, t)) := ((xs_jeq k243_634).trans (px_ite (fun c1 => ((xs_iinc k243_1173 rfl (by omega) (ls' := [vR 0, vR 3, vR 123, vI (px_w32 (x3 + 8))]) rfl).trans (xs_goto k243_1176))) (fun c1 => ((xs_ic k243_637 (by omega)).trans (xs_rz k243_638 rfl (by omega))))))
theorem b243_648 (hr : px_hr r) (d : Nat) (i l : MI) (x3 : Int) (xs0 : Int) (h1 : 0 ≤ (px_w32 (x3 + 1)) ∧ (px_w32 (x3 + 1)) < (L : Int)) : px_X (d + 1) 243 (648, [vR 0, vR 3, vR 123, vI x3], [vI xs0]) (px_sh L, i, l, r, t) = (px_C d 193 [vR 123, vI (i 0 (px_w32 (x3 + 1)))] (px_sh L, i, l, r, t)).bind (fun q => px_X (d + 1) 243 (px_psh (657, [vR 0, vR 3, vR 123, vI x3], [vI xs0]) q.1) q.2) := ((xs_aldn k243_648 rfl).trans ((xs_aldn k243_649 rfl).trans ((xs_ildn k243_650 rfl).trans ((xs_ic k243_651 (by omega)).trans ((xs_iadd k243_652).trans ((xs_iald k243_653 (px_s0 L) (h1)).trans (xs_callvB k243_654 (as := [vI (i 0 (px_w32 (x3 + 1)))]) rfl rfl (Nat.le_of_ble_eq_true rfl) (Nat.le_of_ble_eq_true rfl) (Nat.le_of_ble_eq_true rfl) (px_s123 L) (Nat.le_of_ble_eq_true rfl))))))))
theorem b243_657 (hr : px_hr r) (d : Nat) (i l : MI) (x3 : Int) (xs0 : Int) (xs1 : Int) : px_X d 243 (657, [vR 0, vR 3, vR 123, vI x3], [vI xs0, vI xs1]) (px_sh L, i, l, r, t) = if xs1 = xs0 then px_X d 243 (38, [vR 0, vR 3, vR 123, vI (px_w32 (x3 + 8))], []) (px_sh L, i, l, r, t) else some (some (vI 0), (px_sh L, i, l, r, t)) := ((xs_jeq k243_657).trans (px_ite (fun c1 => ((xs_iinc k243_1173 rfl (by omega) (ls' := [vR 0, vR 3, vR 123, vI (px_w32 (x3 + 8))]) rfl).trans (xs_goto k243_1176))) (fun c1 => ((xs_ic k243_660 (by omega)).trans (xs_rz k243_661 rfl (by omega))))))
theorem b243_676 (hr : px_hr r) (d : Nat) (i l : MI) (x3 : Int) (xs0 : Int) (h1 : 0 ≤ (px_w32 (x3 + 1)) ∧ (px_w32 (x3 + 1)) < (L : Int)) (h2 : 0 ≤ (px_w32 (x3 + 2)) ∧ (px_w32 (x3 + 2)) < (L : Int)) : px_X (d + 1) 243 (676, [vR 0, vR 3, vR 123, vI x3], [vI xs0]) (px_sh L, i, l, r, t) = (px_C d 199 [vR 123, vI (i 0 (px_w32 (x3 + 1))), vI (i 0 (px_w32 (x3 + 2)))] (px_sh L, i, l, r, t)).bind (fun q => px_X (d + 1) 243 (px_psh (690, [vR 0, vR 3, vR 123, vI x3], [vI xs0]) q.1) q.2) := ((xs_aldn k243_676 rfl).trans ((xs_aldn k243_677 rfl).trans ((xs_ildn k243_678 rfl).trans ((xs_ic k243_679 (by omega)).trans ((xs_iadd k243_680).trans ((xs_iald k243_681 (px_s0 L) (h1)).trans ((xs_aldn k243_682 rfl).trans ((xs_ildn k243_683 rfl).trans ((xs_ic k243_684 (by omega)).trans ((xs_iadd k243_685).trans ((xs_iald k243_686 (px_s0 L) (h2)).trans (xs_callvB k243_687 (as := [vI (i 0 (px_w32 (x3 + 1))), vI (i 0 (px_w32 (x3 + 2)))]) rfl rfl (Nat.le_of_ble_eq_true rfl) (Nat.le_of_ble_eq_true rfl) (Nat.le_of_ble_eq_true rfl) (px_s123 L) (Nat.le_of_ble_eq_true rfl)))))))))))))
theorem b243_690 (hr : px_hr r) (d : Nat) (i l : MI) (x3 : Int) (xs0 : Int) (xs1 : Int) : px_X d 243 (690, [vR 0, vR 3, vR 123, vI x3], [vI xs0, vI xs1]) (px_sh L, i, l, r, t) = if xs1 = xs0 then px_X d 243 (38, [vR 0, vR 3, vR 123, vI (px_w32 (x3 + 8))], []) (px_sh L, i, l, r, t) else some (some (vI 0), (px_sh L, i, l, r, t)) := ((xs_jeq k243_690).trans (px_ite (fun c1 => ((xs_iinc k243_1173 rfl (by omega) (ls' := [vR 0, vR 3, vR 123, vI (px_w32 (x3 + 8))]) rfl).trans (xs_goto k243_1176))) (fun c1 => ((xs_ic k243_693 (by omega)).trans (xs_rz k243_694 rfl (by omega))))))
theorem b243_714 (hr : px_hr r) (d : Nat) (i l : MI) (x3 : Int) (xs0 : Int) (h1 : 0 ≤ (px_w32 (x3 + 1)) ∧ (px_w32 (x3 + 1)) < (L : Int)) (h2 : 0 ≤ (px_w32 (x3 + 2)) ∧ (px_w32 (x3 + 2)) < (L : Int)) (h3 : 0 ≤ (px_w32 (x3 + 3)) ∧ (px_w32 (x3 + 3)) < (L : Int)) : px_X (d + 1) 243 (714, [vR 0, vR 3, vR 123, vI x3], [vI xs0]) (px_sh L, i, l, r, t) = (px_C d 203 [vR 123, vI (i 0 (px_w32 (x3 + 1))), vI (i 0 (px_w32 (x3 + 2))), vI (i 0 (px_w32 (x3 + 3)))] (px_sh L, i, l, r, t)).bind (fun q => px_X (d + 1) 243 (px_psh (733, [vR 0, vR 3, vR 123, vI x3], [vI xs0]) q.1) q.2) := ((xs_aldn k243_714 rfl).trans ((xs_aldn k243_715 rfl).trans ((xs_ildn k243_716 rfl).trans ((xs_ic k243_717 (by omega)).trans ((xs_iadd k243_718).trans ((xs_iald k243_719 (px_s0 L) (h1)).trans ((xs_aldn k243_720 rfl).trans ((xs_ildn k243_721 rfl).trans ((xs_ic k243_722 (by omega)).trans ((xs_iadd k243_723).trans ((xs_iald k243_724 (px_s0 L) (h2)).trans ((xs_aldn k243_725 rfl).trans ((xs_ildn k243_726 rfl).trans ((xs_ic k243_727 (by omega)).trans ((xs_iadd k243_728).trans ((xs_iald k243_729 (px_s0 L) (h3)).trans (xs_callvB k243_730 (as := [vI (i 0 (px_w32 (x3 + 1))), vI (i 0 (px_w32 (x3 + 2))), vI (i 0 (px_w32 (x3 + 3)))]) rfl rfl (Nat.le_of_ble_eq_true rfl) (Nat.le_of_ble_eq_true rfl) (Nat.le_of_ble_eq_true rfl) (px_s123 L) (Nat.le_of_ble_eq_true rfl))))))))))))))))))
theorem b243_733 (hr : px_hr r) (d : Nat) (i l : MI) (x3 : Int) (xs0 : Int) (xs1 : Int) : px_X d 243 (733, [vR 0, vR 3, vR 123, vI x3], [vI xs0, vI xs1]) (px_sh L, i, l, r, t) = if xs1 = xs0 then px_X d 243 (38, [vR 0, vR 3, vR 123, vI (px_w32 (x3 + 8))], []) (px_sh L, i, l, r, t) else some (some (vI 0), (px_sh L, i, l, r, t)) := ((xs_jeq k243_733).trans (px_ite (fun c1 => ((xs_iinc k243_1173 rfl (by omega) (ls' := [vR 0, vR 3, vR 123, vI (px_w32 (x3 + 8))]) rfl).trans (xs_goto k243_1176))) (fun c1 => ((xs_ic k243_736 (by omega)).trans (xs_rz k243_737 rfl (by omega))))))
theorem b243_752 (hr : px_hr r) (d : Nat) (i l : MI) (x3 : Int) (xs0 : Int) (h1 : 0 ≤ (px_w32 (x3 + 1)) ∧ (px_w32 (x3 + 1)) < (L : Int)) (h2 : 0 ≤ (px_w32 (x3 + 2)) ∧ (px_w32 (x3 + 2)) < (L : Int)) : px_X (d + 1) 243 (752, [vR 0, vR 3, vR 123, vI x3], [vI xs0]) (px_sh L, i, l, r, t) = (px_C d 205 [vR 123, vI (i 0 (px_w32 (x3 + 1))), vI (i 0 (px_w32 (x3 + 2)))] (px_sh L, i, l, r, t)).bind (fun q => px_X (d + 1) 243 (px_psh (766, [vR 0, vR 3, vR 123, vI x3], [vI xs0]) q.1) q.2) := ((xs_aldn k243_752 rfl).trans ((xs_aldn k243_753 rfl).trans ((xs_ildn k243_754 rfl).trans ((xs_ic k243_755 (by omega)).trans ((xs_iadd k243_756).trans ((xs_iald k243_757 (px_s0 L) (h1)).trans ((xs_aldn k243_758 rfl).trans ((xs_ildn k243_759 rfl).trans ((xs_ic k243_760 (by omega)).trans ((xs_iadd k243_761).trans ((xs_iald k243_762 (px_s0 L) (h2)).trans (xs_callvB k243_763 (as := [vI (i 0 (px_w32 (x3 + 1))), vI (i 0 (px_w32 (x3 + 2)))]) rfl rfl (Nat.le_of_ble_eq_true rfl) (Nat.le_of_ble_eq_true rfl) (Nat.le_of_ble_eq_true rfl) (px_s123 L) (Nat.le_of_ble_eq_true rfl)))))))))))))
theorem b243_766 (hr : px_hr r) (d : Nat) (i l : MI) (x3 : Int) (xs0 : Int) (xs1 : Int) : px_X d 243 (766, [vR 0, vR 3, vR 123, vI x3], [vI xs0, vI xs1]) (px_sh L, i, l, r, t) = if xs1 = xs0 then px_X d 243 (38, [vR 0, vR 3, vR 123, vI (px_w32 (x3 + 8))], []) (px_sh L, i, l, r, t) else some (some (vI 0), (px_sh L, i, l, r, t)) := ((xs_jeq k243_766).trans (px_ite (fun c1 => ((xs_iinc k243_1173 rfl (by omega) (ls' := [vR 0, vR 3, vR 123, vI (px_w32 (x3 + 8))]) rfl).trans (xs_goto k243_1176))) (fun c1 => ((xs_ic k243_769 (by omega)).trans (xs_rz k243_770 rfl (by omega))))))
theorem b243_785 (hr : px_hr r) (d : Nat) (i l : MI) (x3 : Int) (xs0 : Int) (h1 : 0 ≤ (px_w32 (x3 + 1)) ∧ (px_w32 (x3 + 1)) < (L : Int)) (h2 : 0 ≤ (px_w32 (x3 + 2)) ∧ (px_w32 (x3 + 2)) < (L : Int)) : px_X (d + 1) 243 (785, [vR 0, vR 3, vR 123, vI x3], [vI xs0]) (px_sh L, i, l, r, t) = (px_C d 206 [vR 123, vI (i 0 (px_w32 (x3 + 1))), vI (i 0 (px_w32 (x3 + 2)))] (px_sh L, i, l, r, t)).bind (fun q => px_X (d + 1) 243 (px_psh (799, [vR 0, vR 3, vR 123, vI x3], [vI xs0]) q.1) q.2) := ((xs_aldn k243_785 rfl).trans ((xs_aldn k243_786 rfl).trans ((xs_ildn k243_787 rfl).trans ((xs_ic k243_788 (by omega)).trans ((xs_iadd k243_789).trans ((xs_iald k243_790 (px_s0 L) (h1)).trans ((xs_aldn k243_791 rfl).trans ((xs_ildn k243_792 rfl).trans ((xs_ic k243_793 (by omega)).trans ((xs_iadd k243_794).trans ((xs_iald k243_795 (px_s0 L) (h2)).trans (xs_callvB k243_796 (as := [vI (i 0 (px_w32 (x3 + 1))), vI (i 0 (px_w32 (x3 + 2)))]) rfl rfl (Nat.le_of_ble_eq_true rfl) (Nat.le_of_ble_eq_true rfl) (Nat.le_of_ble_eq_true rfl) (px_s123 L) (Nat.le_of_ble_eq_true rfl)))))))))))))
theorem b243_799 (hr : px_hr r) (d : Nat) (i l : MI) (x3 : Int) (xs0 : Int) (xs1 : Int) : px_X d 243 (799, [vR 0, vR 3, vR 123, vI x3], [vI xs0, vI xs1]) (px_sh L, i, l, r, t) = if xs1 = xs0 then px_X d 243 (38, [vR 0, vR 3, vR 123, vI (px_w32 (x3 + 8))], []) (px_sh L, i, l, r, t) else some (some (vI 0), (px_sh L, i, l, r, t)) := ((xs_jeq k243_799).trans (px_ite (fun c1 => ((xs_iinc k243_1173 rfl (by omega) (ls' := [vR 0, vR 3, vR 123, vI (px_w32 (x3 + 8))]) rfl).trans (xs_goto k243_1176))) (fun c1 => ((xs_ic k243_802 (by omega)).trans (xs_rz k243_803 rfl (by omega))))))
theorem b243_823 (hr : px_hr r) (d : Nat) (i l : MI) (x3 : Int) (xs0 : Int) (h1 : 0 ≤ (px_w32 (x3 + 1)) ∧ (px_w32 (x3 + 1)) < (L : Int)) (h2 : 0 ≤ (px_w32 (x3 + 2)) ∧ (px_w32 (x3 + 2)) < (L : Int)) (h3 : 0 ≤ (px_w32 (x3 + 3)) ∧ (px_w32 (x3 + 3)) < (L : Int)) : px_X (d + 1) 243 (823, [vR 0, vR 3, vR 123, vI x3], [vI xs0]) (px_sh L, i, l, r, t) = (px_C d 213 [vR 123, vI (i 0 (px_w32 (x3 + 1))), vI (i 0 (px_w32 (x3 + 2))), vI (i 0 (px_w32 (x3 + 3)))] (px_sh L, i, l, r, t)).bind (fun q => px_X (d + 1) 243 (px_psh (842, [vR 0, vR 3, vR 123, vI x3], [vI xs0]) q.1) q.2) := ((xs_aldn k243_823 rfl).trans ((xs_aldn k243_824 rfl).trans ((xs_ildn k243_825 rfl).trans ((xs_ic k243_826 (by omega)).trans ((xs_iadd k243_827).trans ((xs_iald k243_828 (px_s0 L) (h1)).trans ((xs_aldn k243_829 rfl).trans ((xs_ildn k243_830 rfl).trans ((xs_ic k243_831 (by omega)).trans ((xs_iadd k243_832).trans ((xs_iald k243_833 (px_s0 L) (h2)).trans ((xs_aldn k243_834 rfl).trans ((xs_ildn k243_835 rfl).trans ((xs_ic k243_836 (by omega)).trans ((xs_iadd k243_837).trans ((xs_iald k243_838 (px_s0 L) (h3)).trans (xs_callvB k243_839 (as := [vI (i 0 (px_w32 (x3 + 1))), vI (i 0 (px_w32 (x3 + 2))), vI (i 0 (px_w32 (x3 + 3)))]) rfl rfl (Nat.le_of_ble_eq_true rfl) (Nat.le_of_ble_eq_true rfl) (Nat.le_of_ble_eq_true rfl) (px_s123 L) (Nat.le_of_ble_eq_true rfl))))))))))))))))))
theorem b243_842 (hr : px_hr r) (d : Nat) (i l : MI) (x3 : Int) (xs0 : Int) (xs1 : Int) : px_X d 243 (842, [vR 0, vR 3, vR 123, vI x3], [vI xs0, vI xs1]) (px_sh L, i, l, r, t) = if xs1 = xs0 then px_X d 243 (38, [vR 0, vR 3, vR 123, vI (px_w32 (x3 + 8))], []) (px_sh L, i, l, r, t) else some (some (vI 0), (px_sh L, i, l, r, t)) := ((xs_jeq k243_842).trans (px_ite (fun c1 => ((xs_iinc k243_1173 rfl (by omega) (ls' := [vR 0, vR 3, vR 123, vI (px_w32 (x3 + 8))]) rfl).trans (xs_goto k243_1176))) (fun c1 => ((xs_ic k243_845 (by omega)).trans (xs_rz k243_846 rfl (by omega))))))
theorem b243_856 (hr : px_hr r) (d : Nat) (i l : MI) (x3 : Int) (xs0 : Int) (h1 : 0 ≤ (px_w32 (x3 + 1)) ∧ (px_w32 (x3 + 1)) < (L : Int)) : px_X (d + 1) 243 (856, [vR 0, vR 3, vR 123, vI x3], [vI xs0]) (px_sh L, i, l, r, t) = (px_C d 214 [vR 123, vI (i 0 (px_w32 (x3 + 1)))] (px_sh L, i, l, r, t)).bind (fun q => px_X (d + 1) 243 (px_psh (865, [vR 0, vR 3, vR 123, vI x3], [vI xs0]) q.1) q.2) := ((xs_aldn k243_856 rfl).trans ((xs_aldn k243_857 rfl).trans ((xs_ildn k243_858 rfl).trans ((xs_ic k243_859 (by omega)).trans ((xs_iadd k243_860).trans ((xs_iald k243_861 (px_s0 L) (h1)).trans (xs_callvB k243_862 (as := [vI (i 0 (px_w32 (x3 + 1)))]) rfl rfl (Nat.le_of_ble_eq_true rfl) (Nat.le_of_ble_eq_true rfl) (Nat.le_of_ble_eq_true rfl) (px_s123 L) (Nat.le_of_ble_eq_true rfl))))))))
theorem b243_865 (hr : px_hr r) (d : Nat) (i l : MI) (x3 : Int) (xs0 : Int) (xs1 : Int) : px_X d 243 (865, [vR 0, vR 3, vR 123, vI x3], [vI xs0, vI xs1]) (px_sh L, i, l, r, t) = if xs1 = xs0 then px_X d 243 (38, [vR 0, vR 3, vR 123, vI (px_w32 (x3 + 8))], []) (px_sh L, i, l, r, t) else some (some (vI 0), (px_sh L, i, l, r, t)) := ((xs_jeq k243_865).trans (px_ite (fun c1 => ((xs_iinc k243_1173 rfl (by omega) (ls' := [vR 0, vR 3, vR 123, vI (px_w32 (x3 + 8))]) rfl).trans (xs_goto k243_1176))) (fun c1 => ((xs_ic k243_868 (by omega)).trans (xs_rz k243_869 rfl (by omega))))))
theorem b243_894 (hr : px_hr r) (d : Nat) (i l : MI) (x3 : Int) (xs0 : Int) (h1 : 0 ≤ (px_w32 (x3 + 1)) ∧ (px_w32 (x3 + 1)) < (L : Int)) (h2 : 0 ≤ (px_w32 (x3 + 2)) ∧ (px_w32 (x3 + 2)) < (L : Int)) (h3 : 0 ≤ (px_w32 (x3 + 3)) ∧ (px_w32 (x3 + 3)) < (L : Int)) (h4 : 0 ≤ (px_w32 (x3 + 4)) ∧ (px_w32 (x3 + 4)) < (L : Int)) : px_X (d + 1) 243 (894, [vR 0, vR 3, vR 123, vI x3], [vI xs0]) (px_sh L, i, l, r, t) = (px_C d 218 [vR 123, vI (i 0 (px_w32 (x3 + 1))), vI (i 0 (px_w32 (x3 + 2))), vI (i 0 (px_w32 (x3 + 3))), vI (i 0 (px_w32 (x3 + 4)))] (px_sh L, i, l, r, t)).bind (fun q => px_X (d + 1) 243 (px_psh (918, [vR 0, vR 3, vR 123, vI x3], [vI xs0]) q.1) q.2) := ((xs_aldn k243_894 rfl).trans ((xs_aldn k243_895 rfl).trans ((xs_ildn k243_896 rfl).trans ((xs_ic k243_897 (by omega)).trans ((xs_iadd k243_898).trans ((xs_iald k243_899 (px_s0 L) (h1)).trans ((xs_aldn k243_900 rfl).trans ((xs_ildn k243_901 rfl).trans ((xs_ic k243_902 (by omega)).trans ((xs_iadd k243_903).trans ((xs_iald k243_904 (px_s0 L) (h2)).trans ((xs_aldn k243_905 rfl).trans ((xs_ildn k243_906 rfl).trans ((xs_ic k243_907 (by omega)).trans ((xs_iadd k243_908).trans ((xs_iald k243_909 (px_s0 L) (h3)).trans ((xs_aldn k243_910 rfl).trans ((xs_ildn k243_911 rfl).trans ((xs_ic k243_912 (by omega)).trans ((xs_iadd k243_913).trans ((xs_iald k243_914 (px_s0 L) (h4)).trans (xs_callvB k243_915 (as := [vI (i 0 (px_w32 (x3 + 1))), vI (i 0 (px_w32 (x3 + 2))), vI (i 0 (px_w32 (x3 + 3))), vI (i 0 (px_w32 (x3 + 4)))]) rfl rfl (Nat.le_of_ble_eq_true rfl) (Nat.le_of_ble_eq_true rfl) (Nat.le_of_ble_eq_true rfl) (px_s123 L) (Nat.le_of_ble_eq_true rfl)))))))))))))))))))))))
theorem b243_918 (hr : px_hr r) (d : Nat) (i l : MI) (x3 : Int) (xs0 : Int) (xs1 : Int) : px_X d 243 (918, [vR 0, vR 3, vR 123, vI x3], [vI xs0, vI xs1]) (px_sh L, i, l, r, t) = if xs1 = xs0 then px_X d 243 (38, [vR 0, vR 3, vR 123, vI (px_w32 (x3 + 8))], []) (px_sh L, i, l, r, t) else some (some (vI 0), (px_sh L, i, l, r, t)) := ((xs_jeq k243_918).trans (px_ite (fun c1 => ((xs_iinc k243_1173 rfl (by omega) (ls' := [vR 0, vR 3, vR 123, vI (px_w32 (x3 + 8))]) rfl).trans (xs_goto k243_1176))) (fun c1 => ((xs_ic k243_921 (by omega)).trans (xs_rz k243_922 rfl (by omega))))))
theorem b243_937 (hr : px_hr r) (d : Nat) (i l : MI) (x3 : Int) (xs0 : Int) (h1 : 0 ≤ (px_w32 (x3 + 1)) ∧ (px_w32 (x3 + 1)) < (L : Int)) (h2 : 0 ≤ (px_w32 (x3 + 2)) ∧ (px_w32 (x3 + 2)) < (L : Int)) : px_X (d + 1) 243 (937, [vR 0, vR 3, vR 123, vI x3], [vI xs0]) (px_sh L, i, l, r, t) = (px_C d 221 [vR 123, vI (i 0 (px_w32 (x3 + 1))), vI (i 0 (px_w32 (x3 + 2)))] (px_sh L, i, l, r, t)).bind (fun q => px_X (d + 1) 243 (px_psh (951, [vR 0, vR 3, vR 123, vI x3], [vI xs0]) q.1) q.2) := ((xs_aldn k243_937 rfl).trans ((xs_aldn k243_938 rfl).trans ((xs_ildn k243_939 rfl).trans ((xs_ic k243_940 (by omega)).trans ((xs_iadd k243_941).trans ((xs_iald k243_942 (px_s0 L) (h1)).trans ((xs_aldn k243_943 rfl).trans ((xs_ildn k243_944 rfl).trans ((xs_ic k243_945 (by omega)).trans ((xs_iadd k243_946).trans ((xs_iald k243_947 (px_s0 L) (h2)).trans (xs_callvB k243_948 (as := [vI (i 0 (px_w32 (x3 + 1))), vI (i 0 (px_w32 (x3 + 2)))]) rfl rfl (Nat.le_of_ble_eq_true rfl) (Nat.le_of_ble_eq_true rfl) (Nat.le_of_ble_eq_true rfl) (px_s123 L) (Nat.le_of_ble_eq_true rfl)))))))))))))
theorem b243_951 (hr : px_hr r) (d : Nat) (i l : MI) (x3 : Int) (xs0 : Int) (xs1 : Int) : px_X d 243 (951, [vR 0, vR 3, vR 123, vI x3], [vI xs0, vI xs1]) (px_sh L, i, l, r, t) = if xs1 = xs0 then px_X d 243 (38, [vR 0, vR 3, vR 123, vI (px_w32 (x3 + 8))], []) (px_sh L, i, l, r, t) else some (some (vI 0), (px_sh L, i, l, r, t)) := ((xs_jeq k243_951).trans (px_ite (fun c1 => ((xs_iinc k243_1173 rfl (by omega) (ls' := [vR 0, vR 3, vR 123, vI (px_w32 (x3 + 8))]) rfl).trans (xs_goto k243_1176))) (fun c1 => ((xs_ic k243_954 (by omega)).trans (xs_rz k243_955 rfl (by omega))))))
theorem b243_970 (hr : px_hr r) (d : Nat) (i l : MI) (x3 : Int) (xs0 : Int) (h1 : 0 ≤ (px_w32 (x3 + 1)) ∧ (px_w32 (x3 + 1)) < (L : Int)) (h2 : 0 ≤ (px_w32 (x3 + 2)) ∧ (px_w32 (x3 + 2)) < (L : Int)) : px_X (d + 1) 243 (970, [vR 0, vR 3, vR 123, vI x3], [vI xs0]) (px_sh L, i, l, r, t) = (px_C d 224 [vR 123, vI (i 0 (px_w32 (x3 + 1))), vI (i 0 (px_w32 (x3 + 2)))] (px_sh L, i, l, r, t)).bind (fun q => px_X (d + 1) 243 (px_psh (984, [vR 0, vR 3, vR 123, vI x3], [vI xs0]) q.1) q.2) := ((xs_aldn k243_970 rfl).trans ((xs_aldn k243_971 rfl).trans ((xs_ildn k243_972 rfl).trans ((xs_ic k243_973 (by omega)).trans ((xs_iadd k243_974).trans ((xs_iald k243_975 (px_s0 L) (h1)).trans ((xs_aldn k243_976 rfl).trans ((xs_ildn k243_977 rfl).trans ((xs_ic k243_978 (by omega)).trans ((xs_iadd k243_979).trans ((xs_iald k243_980 (px_s0 L) (h2)).trans (xs_callvB k243_981 (as := [vI (i 0 (px_w32 (x3 + 1))), vI (i 0 (px_w32 (x3 + 2)))]) rfl rfl (Nat.le_of_ble_eq_true rfl) (Nat.le_of_ble_eq_true rfl) (Nat.le_of_ble_eq_true rfl) (px_s123 L) (Nat.le_of_ble_eq_true rfl)))))))))))))
theorem b243_984 (hr : px_hr r) (d : Nat) (i l : MI) (x3 : Int) (xs0 : Int) (xs1 : Int) : px_X d 243 (984, [vR 0, vR 3, vR 123, vI x3], [vI xs0, vI xs1]) (px_sh L, i, l, r, t) = if xs1 = xs0 then px_X d 243 (38, [vR 0, vR 3, vR 123, vI (px_w32 (x3 + 8))], []) (px_sh L, i, l, r, t) else some (some (vI 0), (px_sh L, i, l, r, t)) := ((xs_jeq k243_984).trans (px_ite (fun c1 => ((xs_iinc k243_1173 rfl (by omega) (ls' := [vR 0, vR 3, vR 123, vI (px_w32 (x3 + 8))]) rfl).trans (xs_goto k243_1176))) (fun c1 => ((xs_ic k243_987 (by omega)).trans (xs_rz k243_988 rfl (by omega))))))
theorem b243_998 (hr : px_hr r) (d : Nat) (i l : MI) (x3 : Int) (xs0 : Int) (h1 : 0 ≤ (px_w32 (x3 + 1)) ∧ (px_w32 (x3 + 1)) < (L : Int)) : px_X (d + 1) 243 (998, [vR 0, vR 3, vR 123, vI x3], [vI xs0]) (px_sh L, i, l, r, t) = (px_C d 225 [vR 123, vI (i 0 (px_w32 (x3 + 1)))] (px_sh L, i, l, r, t)).bind (fun q => px_X (d + 1) 243 (px_psh (1007, [vR 0, vR 3, vR 123, vI x3], [vI xs0]) q.1) q.2) := ((xs_aldn k243_998 rfl).trans ((xs_aldn k243_999 rfl).trans ((xs_ildn k243_1000 rfl).trans ((xs_ic k243_1001 (by omega)).trans ((xs_iadd k243_1002).trans ((xs_iald k243_1003 (px_s0 L) (h1)).trans (xs_callvB k243_1004 (as := [vI (i 0 (px_w32 (x3 + 1)))]) rfl rfl (Nat.le_of_ble_eq_true rfl) (Nat.le_of_ble_eq_true rfl) (Nat.le_of_ble_eq_true rfl) (px_s123 L) (Nat.le_of_ble_eq_true rfl))))))))
theorem b243_1007 (hr : px_hr r) (d : Nat) (i l : MI) (x3 : Int) (xs0 : Int) (xs1 : Int) : px_X d 243 (1007, [vR 0, vR 3, vR 123, vI x3], [vI xs0, vI xs1]) (px_sh L, i, l, r, t) = if xs1 = xs0 then px_X d 243 (38, [vR 0, vR 3, vR 123, vI (px_w32 (x3 + 8))], []) (px_sh L, i, l, r, t) else some (some (vI 0), (px_sh L, i, l, r, t)) := ((xs_jeq k243_1007).trans (px_ite (fun c1 => ((xs_iinc k243_1173 rfl (by omega) (ls' := [vR 0, vR 3, vR 123, vI (px_w32 (x3 + 8))]) rfl).trans (xs_goto k243_1176))) (fun c1 => ((xs_ic k243_1010 (by omega)).trans (xs_rz k243_1011 rfl (by omega))))))
theorem b243_1016 (hr : px_hr r) (d : Nat) (i l : MI) (x3 : Int) (xs0 : Int) : px_X (d + 1) 243 (1016, [vR 0, vR 3, vR 123, vI x3], [vI xs0]) (px_sh L, i, l, r, t) = (px_C d 227 [vR 123] (px_sh L, i, l, r, t)).bind (fun q => px_X (d + 1) 243 (px_psh (1020, [vR 0, vR 3, vR 123, vI x3], [vI xs0]) q.1) q.2) := ((xs_aldn k243_1016 rfl).trans (xs_callvB k243_1017 (as := []) rfl rfl (Nat.le_of_ble_eq_true rfl) (Nat.le_of_ble_eq_true rfl) (Nat.le_of_ble_eq_true rfl) (px_s123 L) (Nat.le_of_ble_eq_true rfl)))
theorem b243_1020 (hr : px_hr r) (d : Nat) (i l : MI) (x3 : Int) (xs0 : Int) (xs1 : Int) : px_X d 243 (1020, [vR 0, vR 3, vR 123, vI x3], [vI xs0, vI xs1]) (px_sh L, i, l, r, t) = if xs1 = xs0 then px_X d 243 (38, [vR 0, vR 3, vR 123, vI (px_w32 (x3 + 8))], []) (px_sh L, i, l, r, t) else some (some (vI 0), (px_sh L, i, l, r, t)) := ((xs_jeq k243_1020).trans (px_ite (fun c1 => ((xs_iinc k243_1173 rfl (by omega) (ls' := [vR 0, vR 3, vR 123, vI (px_w32 (x3 + 8))]) rfl).trans (xs_goto k243_1176))) (fun c1 => ((xs_ic k243_1023 (by omega)).trans (xs_rz k243_1024 rfl (by omega))))))
theorem b243_1044 (hr : px_hr r) (d : Nat) (i l : MI) (x3 : Int) (xs0 : Int) (h1 : 0 ≤ (px_w32 (x3 + 1)) ∧ (px_w32 (x3 + 1)) < (L : Int)) (h2 : 0 ≤ (px_w32 (x3 + 2)) ∧ (px_w32 (x3 + 2)) < (L : Int)) (h3 : 0 ≤ (px_w32 (x3 + 3)) ∧ (px_w32 (x3 + 3)) < (L : Int)) : px_X (d + 1) 243 (1044, [vR 0, vR 3, vR 123, vI x3], [vI xs0]) (px_sh L, i, l, r, t) = (px_C d 228 [vR 123, vI (i 0 (px_w32 (x3 + 1))), vI (i 0 (px_w32 (x3 + 2))), vI (i 0 (px_w32 (x3 + 3)))] (px_sh L, i, l, r, t)).bind (fun q => px_X (d + 1) 243 (px_psh (1063, [vR 0, vR 3, vR 123, vI x3], [vI xs0]) q.1) q.2) := ((xs_aldn k243_1044 rfl).trans ((xs_aldn k243_1045 rfl).trans ((xs_ildn k243_1046 rfl).trans ((xs_ic k243_1047 (by omega)).trans ((xs_iadd k243_1048).trans ((xs_iald k243_1049 (px_s0 L) (h1)).trans ((xs_aldn k243_1050 rfl).trans ((xs_ildn k243_1051 rfl).trans ((xs_ic k243_1052 (by omega)).trans ((xs_iadd k243_1053).trans ((xs_iald k243_1054 (px_s0 L) (h2)).trans ((xs_aldn k243_1055 rfl).trans ((xs_ildn k243_1056 rfl).trans ((xs_ic k243_1057 (by omega)).trans ((xs_iadd k243_1058).trans ((xs_iald k243_1059 (px_s0 L) (h3)).trans (xs_callvB k243_1060 (as := [vI (i 0 (px_w32 (x3 + 1))), vI (i 0 (px_w32 (x3 + 2))), vI (i 0 (px_w32 (x3 + 3)))]) rfl rfl (Nat.le_of_ble_eq_true rfl) (Nat.le_of_ble_eq_true rfl) (Nat.le_of_ble_eq_true rfl) (px_s123 L) (Nat.le_of_ble_eq_true rfl))))))))))))))))))
theorem b243_1063 (hr : px_hr r) (d : Nat) (i l : MI) (x3 : Int) (xs0 : Int) (xs1 : Int) : px_X d 243 (1063, [vR 0, vR 3, vR 123, vI x3], [vI xs0, vI xs1]) (px_sh L, i, l, r, t) = if xs1 = xs0 then px_X d 243 (38, [vR 0, vR 3, vR 123, vI (px_w32 (x3 + 8))], []) (px_sh L, i, l, r, t) else some (some (vI 0), (px_sh L, i, l, r, t)) := ((xs_jeq k243_1063).trans (px_ite (fun c1 => ((xs_iinc k243_1173 rfl (by omega) (ls' := [vR 0, vR 3, vR 123, vI (px_w32 (x3 + 8))]) rfl).trans (xs_goto k243_1176))) (fun c1 => ((xs_ic k243_1066 (by omega)).trans (xs_rz k243_1067 rfl (by omega))))))
theorem b243_1077 (hr : px_hr r) (d : Nat) (i l : MI) (x3 : Int) (xs0 : Int) (h1 : 0 ≤ (px_w32 (x3 + 1)) ∧ (px_w32 (x3 + 1)) < (L : Int)) : px_X (d + 1) 243 (1077, [vR 0, vR 3, vR 123, vI x3], [vI xs0]) (px_sh L, i, l, r, t) = (px_C d 230 [vR 123, vI (i 0 (px_w32 (x3 + 1)))] (px_sh L, i, l, r, t)).bind (fun q => px_X (d + 1) 243 (px_psh (1086, [vR 0, vR 3, vR 123, vI x3], [vI xs0]) q.1) q.2) := ((xs_aldn k243_1077 rfl).trans ((xs_aldn k243_1078 rfl).trans ((xs_ildn k243_1079 rfl).trans ((xs_ic k243_1080 (by omega)).trans ((xs_iadd k243_1081).trans ((xs_iald k243_1082 (px_s0 L) (h1)).trans (xs_callvB k243_1083 (as := [vI (i 0 (px_w32 (x3 + 1)))]) rfl rfl (Nat.le_of_ble_eq_true rfl) (Nat.le_of_ble_eq_true rfl) (Nat.le_of_ble_eq_true rfl) (px_s123 L) (Nat.le_of_ble_eq_true rfl))))))))
theorem b243_1086 (hr : px_hr r) (d : Nat) (i l : MI) (x3 : Int) (xs0 : Int) (xs1 : Int) : px_X d 243 (1086, [vR 0, vR 3, vR 123, vI x3], [vI xs0, vI xs1]) (px_sh L, i, l, r, t) = if xs1 = xs0 then px_X d 243 (38, [vR 0, vR 3, vR 123, vI (px_w32 (x3 + 8))], []) (px_sh L, i, l, r, t) else some (some (vI 0), (px_sh L, i, l, r, t)) := ((xs_jeq k243_1086).trans (px_ite (fun c1 => ((xs_iinc k243_1173 rfl (by omega) (ls' := [vR 0, vR 3, vR 123, vI (px_w32 (x3 + 8))]) rfl).trans (xs_goto k243_1176))) (fun c1 => ((xs_ic k243_1089 (by omega)).trans (xs_rz k243_1090 rfl (by omega))))))
theorem b243_1105 (hr : px_hr r) (d : Nat) (i l : MI) (x3 : Int) (xs0 : Int) (h1 : 0 ≤ (px_w32 (x3 + 1)) ∧ (px_w32 (x3 + 1)) < (L : Int)) (h2 : 0 ≤ (px_w32 (x3 + 2)) ∧ (px_w32 (x3 + 2)) < (L : Int)) : px_X (d + 1) 243 (1105, [vR 0, vR 3, vR 123, vI x3], [vI xs0]) (px_sh L, i, l, r, t) = (px_C d 232 [vR 123, vI (i 0 (px_w32 (x3 + 1))), vI (i 0 (px_w32 (x3 + 2)))] (px_sh L, i, l, r, t)).bind (fun q => px_X (d + 1) 243 (px_psh (1119, [vR 0, vR 3, vR 123, vI x3], [vI xs0]) q.1) q.2) := ((xs_aldn k243_1105 rfl).trans ((xs_aldn k243_1106 rfl).trans ((xs_ildn k243_1107 rfl).trans ((xs_ic k243_1108 (by omega)).trans ((xs_iadd k243_1109).trans ((xs_iald k243_1110 (px_s0 L) (h1)).trans ((xs_aldn k243_1111 rfl).trans ((xs_ildn k243_1112 rfl).trans ((xs_ic k243_1113 (by omega)).trans ((xs_iadd k243_1114).trans ((xs_iald k243_1115 (px_s0 L) (h2)).trans (xs_callvB k243_1116 (as := [vI (i 0 (px_w32 (x3 + 1))), vI (i 0 (px_w32 (x3 + 2)))]) rfl rfl (Nat.le_of_ble_eq_true rfl) (Nat.le_of_ble_eq_true rfl) (Nat.le_of_ble_eq_true rfl) (px_s123 L) (Nat.le_of_ble_eq_true rfl)))))))))))))
theorem b243_1119 (hr : px_hr r) (d : Nat) (i l : MI) (x3 : Int) (xs0 : Int) (xs1 : Int) : px_X d 243 (1119, [vR 0, vR 3, vR 123, vI x3], [vI xs0, vI xs1]) (px_sh L, i, l, r, t) = if xs1 = xs0 then px_X d 243 (38, [vR 0, vR 3, vR 123, vI (px_w32 (x3 + 8))], []) (px_sh L, i, l, r, t) else some (some (vI 0), (px_sh L, i, l, r, t)) := ((xs_jeq k243_1119).trans (px_ite (fun c1 => ((xs_iinc k243_1173 rfl (by omega) (ls' := [vR 0, vR 3, vR 123, vI (px_w32 (x3 + 8))]) rfl).trans (xs_goto k243_1176))) (fun c1 => ((xs_ic k243_1122 (by omega)).trans (xs_rz k243_1123 rfl (by omega))))))
theorem b243_1128 (hr : px_hr r) (d : Nat) (i l : MI) (x3 : Int) (xs0 : Int) : px_X (d + 1) 243 (1128, [vR 0, vR 3, vR 123, vI x3], [vI xs0]) (px_sh L, i, l, r, t) = (px_C d 233 [vR 123] (px_sh L, i, l, r, t)).bind (fun q => px_X (d + 1) 243 (px_psh (1132, [vR 0, vR 3, vR 123, vI x3], [vI xs0]) q.1) q.2) := ((xs_aldn k243_1128 rfl).trans (xs_callvB k243_1129 (as := []) rfl rfl (Nat.le_of_ble_eq_true rfl) (Nat.le_of_ble_eq_true rfl) (Nat.le_of_ble_eq_true rfl) (px_s123 L) (Nat.le_of_ble_eq_true rfl)))
theorem b243_1132 (hr : px_hr r) (d : Nat) (i l : MI) (x3 : Int) (xs0 : Int) (xs1 : Int) : px_X d 243 (1132, [vR 0, vR 3, vR 123, vI x3], [vI xs0, vI xs1]) (px_sh L, i, l, r, t) = if xs1 = xs0 then px_X d 243 (38, [vR 0, vR 3, vR 123, vI (px_w32 (x3 + 8))], []) (px_sh L, i, l, r, t) else some (some (vI 0), (px_sh L, i, l, r, t)) := ((xs_jeq k243_1132).trans (px_ite (fun c1 => ((xs_iinc k243_1173 rfl (by omega) (ls' := [vR 0, vR 3, vR 123, vI (px_w32 (x3 + 8))]) rfl).trans (xs_goto k243_1176))) (fun c1 => ((xs_ic k243_1135 (by omega)).trans (xs_rz k243_1136 rfl (by omega))))))
theorem b243_1141 (hr : px_hr r) (d : Nat) (i l : MI) (x3 : Int) (xs0 : Int) : px_X (d + 1) 243 (1141, [vR 0, vR 3, vR 123, vI x3], [vI xs0]) (px_sh L, i, l, r, t) = (px_C d 234 [vR 123] (px_sh L, i, l, r, t)).bind (fun q => px_X (d + 1) 243 (px_psh (1145, [vR 0, vR 3, vR 123, vI x3], [vI xs0]) q.1) q.2) := ((xs_aldn k243_1141 rfl).trans (xs_callvB k243_1142 (as := []) rfl rfl (Nat.le_of_ble_eq_true rfl) (Nat.le_of_ble_eq_true rfl) (Nat.le_of_ble_eq_true rfl) (px_s123 L) (Nat.le_of_ble_eq_true rfl)))
theorem b243_1145 (hr : px_hr r) (d : Nat) (i l : MI) (x3 : Int) (xs0 : Int) (xs1 : Int) : px_X d 243 (1145, [vR 0, vR 3, vR 123, vI x3], [vI xs0, vI xs1]) (px_sh L, i, l, r, t) = if xs1 = xs0 then px_X d 243 (38, [vR 0, vR 3, vR 123, vI (px_w32 (x3 + 8))], []) (px_sh L, i, l, r, t) else some (some (vI 0), (px_sh L, i, l, r, t)) := ((xs_jeq k243_1145).trans (px_ite (fun c1 => ((xs_iinc k243_1173 rfl (by omega) (ls' := [vR 0, vR 3, vR 123, vI (px_w32 (x3 + 8))]) rfl).trans (xs_goto k243_1176))) (fun c1 => ((xs_ic k243_1148 (by omega)).trans (xs_rz k243_1149 rfl (by omega))))))
theorem b243_1159 (hr : px_hr r) (d : Nat) (i l : MI) (x3 : Int) (xs0 : Int) (h1 : 0 ≤ (px_w32 (x3 + 1)) ∧ (px_w32 (x3 + 1)) < (L : Int)) : px_X (d + 1) 243 (1159, [vR 0, vR 3, vR 123, vI x3], [vI xs0]) (px_sh L, i, l, r, t) = (px_C d 235 [vR 123, vI (i 0 (px_w32 (x3 + 1)))] (px_sh L, i, l, r, t)).bind (fun q => px_X (d + 1) 243 (px_psh (1168, [vR 0, vR 3, vR 123, vI x3], [vI xs0]) q.1) q.2) := ((xs_aldn k243_1159 rfl).trans ((xs_aldn k243_1160 rfl).trans ((xs_ildn k243_1161 rfl).trans ((xs_ic k243_1162 (by omega)).trans ((xs_iadd k243_1163).trans ((xs_iald k243_1164 (px_s0 L) (h1)).trans (xs_callvB k243_1165 (as := [vI (i 0 (px_w32 (x3 + 1)))]) rfl rfl (Nat.le_of_ble_eq_true rfl) (Nat.le_of_ble_eq_true rfl) (Nat.le_of_ble_eq_true rfl) (px_s123 L) (Nat.le_of_ble_eq_true rfl))))))))
theorem b243_1168 (hr : px_hr r) (d : Nat) (i l : MI) (x3 : Int) (xs0 : Int) (xs1 : Int) : px_X d 243 (1168, [vR 0, vR 3, vR 123, vI x3], [vI xs0, vI xs1]) (px_sh L, i, l, r, t) = if xs1 = xs0 then px_X d 243 (38, [vR 0, vR 3, vR 123, vI (px_w32 (x3 + 8))], []) (px_sh L, i, l, r, t) else some (some (vI 0), (px_sh L, i, l, r, t)) := ((xs_jeq k243_1168).trans (px_ite (fun c1 => ((xs_iinc k243_1173 rfl (by omega) (ls' := [vR 0, vR 3, vR 123, vI (px_w32 (x3 + 8))]) rfl).trans (xs_goto k243_1176))) (fun c1 => ((xs_ic k243_1171 (by omega)).trans (xs_rz k243_1172 rfl (by omega))))))
end PXL
