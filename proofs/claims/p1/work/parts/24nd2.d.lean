theorem d_M_statement_196 : decode prog_13_method_18_code 196 = .ok (.iadd, 1) := by decide +kernel
theorem d_M_statement_197 : decode prog_13_method_18_code 197 = .ok (.putfield 174, 3) := by decide +kernel
theorem d_M_statement_200 : decode prog_13_method_18_code 200 = .ok (.iconst 3, 1) := by decide +kernel
theorem d_M_statement_201 : decode prog_13_method_18_code 201 = .ok (.iload_n 1, 1) := by decide +kernel
theorem d_M_statement_202 : decode prog_13_method_18_code 202 = .ok (.imul, 1) := by decide +kernel
theorem d_M_statement_203 : decode prog_13_method_18_code 203 = .ok (.iconst 2, 1) := by decide +kernel
theorem d_M_statement_204 : decode prog_13_method_18_code 204 = .ok (.iadd, 1) := by decide +kernel
theorem d_M_statement_205 : decode prog_13_method_18_code 205 = .ok (.iastore, 1) := by decide +kernel
theorem d_M_statement_206 : decode prog_13_method_18_code 206 = .ok (.iconst 1, 1) := by decide +kernel
theorem d_M_statement_207 : decode prog_13_method_18_code 207 = .ok (.ireturn, 1) := by decide +kernel
theorem d_M_statement_208 : decode prog_13_method_18_code 208 = .ok (.aload_n 0, 1) := by decide +kernel
theorem d_M_statement_209 : decode prog_13_method_18_code 209 = .ok (.ldc 137, 2) := by decide +kernel
theorem d_M_statement_211 : decode prog_13_method_18_code 211 = .ok (.invokevirtual 109, 3) := by decide +kernel
theorem d_M_statement_214 : decode prog_13_method_18_code 214 = .ok (.ifCond .eq 25, 3) := by decide +kernel
theorem d_M_statement_217 : decode prog_13_method_18_code 217 = .ok (.aload_n 0, 1) := by decide +kernel
theorem d_M_statement_218 : decode prog_13_method_18_code 218 = .ok (.getfield 149, 3) := by decide +kernel
theorem d_M_statement_221 : decode prog_13_method_18_code 221 = .ok (.getfield 232, 3) := by decide +kernel
theorem d_M_statement_224 : decode prog_13_method_18_code 224 = .ok (.iload_n 1, 1) := by decide +kernel
theorem d_M_statement_225 : decode prog_13_method_18_code 225 = .ok (.bipush 9, 2) := by decide +kernel
theorem d_M_statement_227 : decode prog_13_method_18_code 227 = .ok (.iastore, 1) := by decide +kernel
theorem d_M_statement_228 : decode prog_13_method_18_code 228 = .ok (.aload_n 0, 1) := by decide +kernel
theorem d_M_statement_229 : decode prog_13_method_18_code 229 = .ok (.invokevirtual 146, 3) := by decide +kernel
theorem d_M_statement_232 : decode prog_13_method_18_code 232 = .ok (.aload_n 0, 1) := by decide +kernel
theorem d_M_statement_233 : decode prog_13_method_18_code 233 = .ok (.ldc 203, 2) := by decide +kernel
theorem d_M_statement_235 : decode prog_13_method_18_code 235 = .ok (.invokevirtual 205, 3) := by decide +kernel
theorem d_M_statement_238 : decode prog_13_method_18_code 238 = .ok (.ireturn, 1) := by decide +kernel
theorem d_M_statement_239 : decode prog_13_method_18_code 239 = .ok (.aload_n 0, 1) := by decide +kernel
theorem d_M_statement_240 : decode prog_13_method_18_code 240 = .ok (.getfield 23, 3) := by decide +kernel
theorem d_M_statement_243 : decode prog_13_method_18_code 243 = .ok (.aload_n 0, 1) := by decide +kernel
theorem d_M_statement_244 : decode prog_13_method_18_code 244 = .ok (.dup, 1) := by decide +kernel
theorem d_M_statement_245 : decode prog_13_method_18_code 245 = .ok (.getfield 174, 3) := by decide +kernel
theorem d_M_statement_248 : decode prog_13_method_18_code 248 = .ok (.dup_x1, 1) := by decide +kernel
theorem d_M_statement_249 : decode prog_13_method_18_code 249 = .ok (.iconst 1, 1) := by decide +kernel
theorem d_M_statement_250 : decode prog_13_method_18_code 250 = .ok (.iadd, 1) := by decide +kernel
theorem d_M_statement_251 : decode prog_13_method_18_code 251 = .ok (.putfield 174, 3) := by decide +kernel
theorem d_M_statement_254 : decode prog_13_method_18_code 254 = .ok (.iconst 3, 1) := by decide +kernel
theorem d_M_statement_255 : decode prog_13_method_18_code 255 = .ok (.iload_n 1, 1) := by decide +kernel
theorem d_M_statement_256 : decode prog_13_method_18_code 256 = .ok (.imul, 1) := by decide +kernel
theorem d_M_statement_257 : decode prog_13_method_18_code 257 = .ok (.iastore, 1) := by decide +kernel
theorem d_M_statement_258 : decode prog_13_method_18_code 258 = .ok (.aload_n 0, 1) := by decide +kernel
theorem d_M_statement_259 : decode prog_13_method_18_code 259 = .ok (.ldc 129, 2) := by decide +kernel
theorem d_M_statement_261 : decode prog_13_method_18_code 261 = .ok (.invokevirtual 109, 3) := by decide +kernel
theorem d_M_statement_264 : decode prog_13_method_18_code 264 = .ok (.ifCond .eq 41, 3) := by decide +kernel
theorem d_M_statement_267 : decode prog_13_method_18_code 267 = .ok (.aload_n 0, 1) := by decide +kernel
theorem d_M_statement_268 : decode prog_13_method_18_code 268 = .ok (.getfield 149, 3) := by decide +kernel
theorem d_M_statement_271 : decode prog_13_method_18_code 271 = .ok (.getfield 232, 3) := by decide +kernel
theorem d_M_statement_274 : decode prog_13_method_18_code 274 = .ok (.iload_n 1, 1) := by decide +kernel
theorem d_M_statement_275 : decode prog_13_method_18_code 275 = .ok (.bipush 6, 2) := by decide +kernel
theorem d_M_statement_277 : decode prog_13_method_18_code 277 = .ok (.iastore, 1) := by decide +kernel
theorem d_M_statement_278 : decode prog_13_method_18_code 278 = .ok (.aload_n 0, 1) := by decide +kernel
theorem d_M_statement_279 : decode prog_13_method_18_code 279 = .ok (.invokevirtual 146, 3) := by decide +kernel
theorem d_M_statement_282 : decode prog_13_method_18_code 282 = .ok (.aload_n 0, 1) := by decide +kernel
theorem d_M_statement_283 : decode prog_13_method_18_code 283 = .ok (.iload_n 1, 1) := by decide +kernel
theorem d_M_statement_284 : decode prog_13_method_18_code 284 = .ok (.invokevirtual 236, 3) := by decide +kernel
theorem d_M_statement_287 : decode prog_13_method_18_code 287 = .ok (.ifCond .eq 16, 3) := by decide +kernel
theorem d_M_statement_290 : decode prog_13_method_18_code 290 = .ok (.aload_n 0, 1) := by decide +kernel
theorem d_M_statement_291 : decode prog_13_method_18_code 291 = .ok (.ldc 203, 2) := by decide +kernel
theorem d_M_statement_293 : decode prog_13_method_18_code 293 = .ok (.invokevirtual 205, 3) := by decide +kernel
theorem d_M_statement_296 : decode prog_13_method_18_code 296 = .ok (.ifCond .eq 7, 3) := by decide +kernel
theorem d_M_statement_299 : decode prog_13_method_18_code 299 = .ok (.iconst 1, 1) := by decide +kernel
theorem d_M_statement_300 : decode prog_13_method_18_code 300 = .ok (.goto 4, 3) := by decide +kernel
theorem d_M_statement_303 : decode prog_13_method_18_code 303 = .ok (.iconst 0, 1) := by decide +kernel
theorem d_M_statement_304 : decode prog_13_method_18_code 304 = .ok (.ireturn, 1) := by decide +kernel
theorem d_M_statement_305 : decode prog_13_method_18_code 305 = .ok (.aload_n 0, 1) := by decide +kernel
theorem d_M_statement_306 : decode prog_13_method_18_code 306 = .ok (.invokevirtual 183, 3) := by decide +kernel
theorem d_M_statement_309 : decode prog_13_method_18_code 309 = .ok (.ifCond .eq 139, 3) := by decide +kernel
theorem d_M_statement_312 : decode prog_13_method_18_code 312 = .ok (.aload_n 0, 1) := by decide +kernel
theorem d_M_statement_313 : decode prog_13_method_18_code 313 = .ok (.getfield 213, 3) := by decide +kernel
theorem d_M_statement_316 : decode prog_13_method_18_code 316 = .ok (.aload_n 0, 1) := by decide +kernel
theorem d_M_statement_317 : decode prog_13_method_18_code 317 = .ok (.getfield 9, 3) := by decide +kernel
theorem d_M_statement_320 : decode prog_13_method_18_code 320 = .ok (.aload_n 0, 1) := by decide +kernel
theorem d_M_statement_321 : decode prog_13_method_18_code 321 = .ok (.getfield 72, 3) := by decide +kernel
theorem d_M_statement_324 : decode prog_13_method_18_code 324 = .ok (.aload_n 0, 1) := by decide +kernel
theorem d_M_statement_325 : decode prog_13_method_18_code 325 = .ok (.getfield 94, 3) := by decide +kernel
theorem d_M_statement_328 : decode prog_13_method_18_code 328 = .ok (.aload_n 0, 1) := by decide +kernel
theorem d_M_statement_329 : decode prog_13_method_18_code 329 = .ok (.getfield 72, 3) := by decide +kernel
theorem d_M_statement_332 : decode prog_13_method_18_code 332 = .ok (.isub, 1) := by decide +kernel
theorem d_M_statement_333 : decode prog_13_method_18_code 333 = .ok (.invokevirtual 188, 3) := by decide +kernel
theorem d_M_statement_336 : decode prog_13_method_18_code 336 = .ok (.istore_n 3, 1) := by decide +kernel
theorem d_M_statement_337 : decode prog_13_method_18_code 337 = .ok (.aload_n 0, 1) := by decide +kernel
theorem d_M_statement_338 : decode prog_13_method_18_code 338 = .ok (.getfield 149, 3) := by decide +kernel
theorem d_M_statement_341 : decode prog_13_method_18_code 341 = .ok (.getfield 152, 3) := by decide +kernel
theorem d_M_statement_344 : decode prog_13_method_18_code 344 = .ok (.aload_n 0, 1) := by decide +kernel
theorem d_M_statement_345 : decode prog_13_method_18_code 345 = .ok (.getfield 9, 3) := by decide +kernel
theorem d_M_statement_348 : decode prog_13_method_18_code 348 = .ok (.aload_n 0, 1) := by decide +kernel
theorem d_M_statement_349 : decode prog_13_method_18_code 349 = .ok (.getfield 72, 3) := by decide +kernel
theorem d_M_statement_352 : decode prog_13_method_18_code 352 = .ok (.aload_n 0, 1) := by decide +kernel
theorem d_M_statement_353 : decode prog_13_method_18_code 353 = .ok (.getfield 94, 3) := by decide +kernel
theorem d_M_statement_356 : decode prog_13_method_18_code 356 = .ok (.aload_n 0, 1) := by decide +kernel
theorem d_M_statement_357 : decode prog_13_method_18_code 357 = .ok (.getfield 72, 3) := by decide +kernel
theorem d_M_statement_360 : decode prog_13_method_18_code 360 = .ok (.isub, 1) := by decide +kernel
theorem d_M_statement_361 : decode prog_13_method_18_code 361 = .ok (.invokevirtual 188, 3) := by decide +kernel
theorem d_M_statement_364 : decode prog_13_method_18_code 364 = .ok (.istore 4, 2) := by decide +kernel
theorem d_M_statement_366 : decode prog_13_method_18_code 366 = .ok (.iload_n 3, 1) := by decide +kernel
theorem d_M_statement_367 : decode prog_13_method_18_code 367 = .ok (.ifCond .ge 13, 3) := by decide +kernel
theorem d_M_statement_370 : decode prog_13_method_18_code 370 = .ok (.iload 4, 2) := by decide +kernel
theorem d_M_statement_372 : decode prog_13_method_18_code 372 = .ok (.ifCond .ge 8, 3) := by decide +kernel
theorem d_M_statement_375 : decode prog_13_method_18_code 375 = .ok (.aload_n 0, 1) := by decide +kernel
theorem d_M_statement_376 : decode prog_13_method_18_code 376 = .ok (.invokevirtual 142, 3) := by decide +kernel
theorem d_M_statement_379 : decode prog_13_method_18_code 379 = .ok (.ireturn, 1) := by decide +kernel
theorem d_M_statement_380 : decode prog_13_method_18_code 380 = .ok (.aload_n 0, 1) := by decide +kernel
theorem d_M_statement_381 : decode prog_13_method_18_code 381 = .ok (.getfield 149, 3) := by decide +kernel
theorem d_M_statement_384 : decode prog_13_method_18_code 384 = .ok (.getfield 232, 3) := by decide +kernel
theorem d_M_statement_387 : decode prog_13_method_18_code 387 = .ok (.iload_n 1, 1) := by decide +kernel
theorem d_M_statement_388 : decode prog_13_method_18_code 388 = .ok (.iconst 0, 1) := by decide +kernel
theorem d_M_statement_389 : decode prog_13_method_18_code 389 = .ok (.iastore, 1) := by decide +kernel
theorem d_M_statement_390 : decode prog_13_method_18_code 390 = .ok (.aload_n 0, 1) := by decide +kernel
theorem d_M_statement_391 : decode prog_13_method_18_code 391 = .ok (.getfield 149, 3) := by decide +kernel
theorem d_M_statement_394 : decode prog_13_method_18_code 394 = .ok (.getfield 244, 3) := by decide +kernel
theorem d_M_statement_397 : decode prog_13_method_18_code 397 = .ok (.iload_n 1, 1) := by decide +kernel
