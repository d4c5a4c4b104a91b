theorem d_M_check_229 : decode prog_13_method_38_code 229 = .ok (.bipush 34, 2) := by decide +kernel
theorem d_M_check_231 : decode prog_13_method_38_code 231 = .ok (.invokestatic 310, 3) := by decide +kernel
theorem d_M_check_234 : decode prog_13_method_38_code 234 = .ok (.aload_n 0, 1) := by decide +kernel
theorem d_M_check_235 : decode prog_13_method_38_code 235 = .ok (.iconst 0, 1) := by decide +kernel
theorem d_M_check_236 : decode prog_13_method_38_code 236 = .ok (.putfield 319, 3) := by decide +kernel
theorem d_M_check_239 : decode prog_13_method_38_code 239 = .ok (.aload_n 0, 1) := by decide +kernel
theorem d_M_check_240 : decode prog_13_method_38_code 240 = .ok (.getfield 319, 3) := by decide +kernel
theorem d_M_check_243 : decode prog_13_method_38_code 243 = .ok (.aload_n 0, 1) := by decide +kernel
theorem d_M_check_244 : decode prog_13_method_38_code 244 = .ok (.getfield 16, 3) := by decide +kernel
theorem d_M_check_247 : decode prog_13_method_38_code 247 = .ok (.getfield 164, 3) := by decide +kernel
theorem d_M_check_250 : decode prog_13_method_38_code 250 = .ok (.if_icmp .ge 55, 3) := by decide +kernel
theorem d_M_check_253 : decode prog_13_method_38_code 253 = .ok (.aload_n 0, 1) := by decide +kernel
theorem d_M_check_254 : decode prog_13_method_38_code 254 = .ok (.aload_n 0, 1) := by decide +kernel
theorem d_M_check_255 : decode prog_13_method_38_code 255 = .ok (.getfield 319, 3) := by decide +kernel
theorem d_M_check_258 : decode prog_13_method_38_code 258 = .ok (.invokevirtual 354, 3) := by decide +kernel
theorem d_M_check_261 : decode prog_13_method_38_code 261 = .ok (.ifCond .eq 31, 3) := by decide +kernel
theorem d_M_check_264 : decode prog_13_method_38_code 264 = .ok (.aload_n 0, 1) := by decide +kernel
theorem d_M_check_265 : decode prog_13_method_38_code 265 = .ok (.invokevirtual 357, 3) := by decide +kernel
theorem d_M_check_268 : decode prog_13_method_38_code 268 = .ok (.ifCond .eq 6, 3) := by decide +kernel
theorem d_M_check_271 : decode prog_13_method_38_code 271 = .ok (.goto 21, 3) := by decide +kernel
theorem d_M_check_274 : decode prog_13_method_38_code 274 = .ok (.aload_n 0, 1) := by decide +kernel
theorem d_M_check_275 : decode prog_13_method_38_code 275 = .ok (.iconst 0, 1) := by decide +kernel
theorem d_M_check_276 : decode prog_13_method_38_code 276 = .ok (.putfield 304, 3) := by decide +kernel
theorem d_M_check_279 : decode prog_13_method_38_code 279 = .ok (.aload_n 0, 1) := by decide +kernel
theorem d_M_check_280 : decode prog_13_method_38_code 280 = .ok (.iconst 0, 1) := by decide +kernel
theorem d_M_check_281 : decode prog_13_method_38_code 281 = .ok (.putfield 321, 3) := by decide +kernel
theorem d_M_check_284 : decode prog_13_method_38_code 284 = .ok (.aload_n 0, 1) := by decide +kernel
theorem d_M_check_285 : decode prog_13_method_38_code 285 = .ok (.iconst 0, 1) := by decide +kernel
theorem d_M_check_286 : decode prog_13_method_38_code 286 = .ok (.putfield 344, 3) := by decide +kernel
theorem d_M_check_289 : decode prog_13_method_38_code 289 = .ok (.bipush (-3), 2) := by decide +kernel
theorem d_M_check_291 : decode prog_13_method_38_code 291 = .ok (.ireturn, 1) := by decide +kernel
theorem d_M_check_292 : decode prog_13_method_38_code 292 = .ok (.aload_n 0, 1) := by decide +kernel
theorem d_M_check_293 : decode prog_13_method_38_code 293 = .ok (.dup, 1) := by decide +kernel
theorem d_M_check_294 : decode prog_13_method_38_code 294 = .ok (.getfield 319, 3) := by decide +kernel
theorem d_M_check_297 : decode prog_13_method_38_code 297 = .ok (.iconst 1, 1) := by decide +kernel
theorem d_M_check_298 : decode prog_13_method_38_code 298 = .ok (.iadd, 1) := by decide +kernel
theorem d_M_check_299 : decode prog_13_method_38_code 299 = .ok (.putfield 319, 3) := by decide +kernel
theorem d_M_check_302 : decode prog_13_method_38_code 302 = .ok (.goto (-63), 3) := by decide +kernel
theorem d_M_check_305 : decode prog_13_method_38_code 305 = .ok (.aload_n 0, 1) := by decide +kernel
theorem d_M_check_306 : decode prog_13_method_38_code 306 = .ok (.dup, 1) := by decide +kernel
theorem d_M_check_307 : decode prog_13_method_38_code 307 = .ok (.getfield 316, 3) := by decide +kernel
theorem d_M_check_310 : decode prog_13_method_38_code 310 = .ok (.iconst 1, 1) := by decide +kernel
theorem d_M_check_311 : decode prog_13_method_38_code 311 = .ok (.iadd, 1) := by decide +kernel
theorem d_M_check_312 : decode prog_13_method_38_code 312 = .ok (.putfield 316, 3) := by decide +kernel
theorem d_M_check_315 : decode prog_13_method_38_code 315 = .ok (.goto (-126), 3) := by decide +kernel
theorem d_M_check_318 : decode prog_13_method_38_code 318 = .ok (.aload_n 0, 1) := by decide +kernel
theorem d_M_check_319 : decode prog_13_method_38_code 319 = .ok (.getfield 39, 3) := by decide +kernel
theorem d_M_check_322 : decode prog_13_method_38_code 322 = .ok (.aload_n 0, 1) := by decide +kernel
theorem d_M_check_323 : decode prog_13_method_38_code 323 = .ok (.getfield 304, 3) := by decide +kernel
theorem d_M_check_326 : decode prog_13_method_38_code 326 = .ok (.aload_n 0, 1) := by decide +kernel
theorem d_M_check_327 : decode prog_13_method_38_code 327 = .ok (.getfield 321, 3) := by decide +kernel
theorem d_M_check_330 : decode prog_13_method_38_code 330 = .ok (.iastore, 1) := by decide +kernel
theorem d_M_check_331 : decode prog_13_method_38_code 331 = .ok (.bipush (-2), 2) := by decide +kernel
theorem d_M_check_333 : decode prog_13_method_38_code 333 = .ok (.ireturn, 1) := by decide +kernel
