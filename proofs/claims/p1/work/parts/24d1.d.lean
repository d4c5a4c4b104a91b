theorem d_M_atom_218 : decode prog_13_method_26_code 218 = .ok (.aload_n 0, 1) := by decide +kernel
theorem d_M_atom_219 : decode prog_13_method_26_code 219 = .ok (.getfield 94, 3) := by decide +kernel
theorem d_M_atom_222 : decode prog_13_method_26_code 222 = .ok (.aload_n 0, 1) := by decide +kernel
theorem d_M_atom_223 : decode prog_13_method_26_code 223 = .ok (.getfield 72, 3) := by decide +kernel
theorem d_M_atom_226 : decode prog_13_method_26_code 226 = .ok (.isub, 1) := by decide +kernel
theorem d_M_atom_227 : decode prog_13_method_26_code 227 = .ok (.invokevirtual 188, 3) := by decide +kernel
theorem d_M_atom_230 : decode prog_13_method_26_code 230 = .ok (.istore_n 3, 1) := by decide +kernel
theorem d_M_atom_231 : decode prog_13_method_26_code 231 = .ok (.iload_n 2, 1) := by decide +kernel
theorem d_M_atom_232 : decode prog_13_method_26_code 232 = .ok (.ifCond .ge 12, 3) := by decide +kernel
theorem d_M_atom_235 : decode prog_13_method_26_code 235 = .ok (.iload_n 3, 1) := by decide +kernel
theorem d_M_atom_236 : decode prog_13_method_26_code 236 = .ok (.ifCond .ge 8, 3) := by decide +kernel
theorem d_M_atom_239 : decode prog_13_method_26_code 239 = .ok (.aload_n 0, 1) := by decide +kernel
theorem d_M_atom_240 : decode prog_13_method_26_code 240 = .ok (.invokevirtual 142, 3) := by decide +kernel
theorem d_M_atom_243 : decode prog_13_method_26_code 243 = .ok (.ireturn, 1) := by decide +kernel
theorem d_M_atom_244 : decode prog_13_method_26_code 244 = .ok (.aload_n 0, 1) := by decide +kernel
theorem d_M_atom_245 : decode prog_13_method_26_code 245 = .ok (.iload_n 2, 1) := by decide +kernel
theorem d_M_atom_246 : decode prog_13_method_26_code 246 = .ok (.ifCond .lt 7, 3) := by decide +kernel
theorem d_M_atom_249 : decode prog_13_method_26_code 249 = .ok (.iconst 2, 1) := by decide +kernel
theorem d_M_atom_250 : decode prog_13_method_26_code 250 = .ok (.goto 4, 3) := by decide +kernel
theorem d_M_atom_253 : decode prog_13_method_26_code 253 = .ok (.iconst 1, 1) := by decide +kernel
theorem d_M_atom_254 : decode prog_13_method_26_code 254 = .ok (.invokevirtual 255, 3) := by decide +kernel
theorem d_M_atom_257 : decode prog_13_method_26_code 257 = .ok (.aload_n 0, 1) := by decide +kernel
theorem d_M_atom_258 : decode prog_13_method_26_code 258 = .ok (.iload_n 2, 1) := by decide +kernel
theorem d_M_atom_259 : decode prog_13_method_26_code 259 = .ok (.ifCond .lt 7, 3) := by decide +kernel
theorem d_M_atom_262 : decode prog_13_method_26_code 262 = .ok (.iload_n 2, 1) := by decide +kernel
theorem d_M_atom_263 : decode prog_13_method_26_code 263 = .ok (.goto 4, 3) := by decide +kernel
theorem d_M_atom_266 : decode prog_13_method_26_code 266 = .ok (.iload_n 3, 1) := by decide +kernel
theorem d_M_atom_267 : decode prog_13_method_26_code 267 = .ok (.invokevirtual 255, 3) := by decide +kernel
theorem d_M_atom_270 : decode prog_13_method_26_code 270 = .ok (.aload_n 0, 1) := by decide +kernel
theorem d_M_atom_271 : decode prog_13_method_26_code 271 = .ok (.dup, 1) := by decide +kernel
theorem d_M_atom_272 : decode prog_13_method_26_code 272 = .ok (.getfield 171, 3) := by decide +kernel
theorem d_M_atom_275 : decode prog_13_method_26_code 275 = .ok (.iconst 1, 1) := by decide +kernel
theorem d_M_atom_276 : decode prog_13_method_26_code 276 = .ok (.iadd, 1) := by decide +kernel
theorem d_M_atom_277 : decode prog_13_method_26_code 277 = .ok (.putfield 171, 3) := by decide +kernel
theorem d_M_atom_280 : decode prog_13_method_26_code 280 = .ok (.aload_n 0, 1) := by decide +kernel
theorem d_M_atom_281 : decode prog_13_method_26_code 281 = .ok (.invokevirtual 146, 3) := by decide +kernel
theorem d_M_atom_284 : decode prog_13_method_26_code 284 = .ok (.iconst 1, 1) := by decide +kernel
theorem d_M_atom_285 : decode prog_13_method_26_code 285 = .ok (.ireturn, 1) := by decide +kernel
theorem d_M_product_0 : decode prog_13_method_25_code 0 = .ok (.aload_n 0, 1) := by decide +kernel
theorem d_M_product_1 : decode prog_13_method_25_code 1 = .ok (.iload_n 1, 1) := by decide +kernel
theorem d_M_product_2 : decode prog_13_method_25_code 2 = .ok (.invokevirtual 289, 3) := by decide +kernel
theorem d_M_product_5 : decode prog_13_method_25_code 5 = .ok (.ifCond .ne 5, 3) := by decide +kernel
theorem d_M_product_8 : decode prog_13_method_25_code 8 = .ok (.iconst 0, 1) := by decide +kernel
theorem d_M_product_9 : decode prog_13_method_25_code 9 = .ok (.ireturn, 1) := by decide +kernel
theorem d_M_product_10 : decode prog_13_method_25_code 10 = .ok (.aload_n 0, 1) := by decide +kernel
theorem d_M_product_11 : decode prog_13_method_25_code 11 = .ok (.ldc_w 292, 3) := by decide +kernel
theorem d_M_product_14 : decode prog_13_method_25_code 14 = .ok (.invokevirtual 109, 3) := by decide +kernel
theorem d_M_product_17 : decode prog_13_method_25_code 17 = .ok (.ifCond .eq 25, 3) := by decide +kernel
theorem d_M_product_20 : decode prog_13_method_25_code 20 = .ok (.aload_n 0, 1) := by decide +kernel
theorem d_M_product_21 : decode prog_13_method_25_code 21 = .ok (.invokevirtual 146, 3) := by decide +kernel
theorem d_M_product_24 : decode prog_13_method_25_code 24 = .ok (.aload_n 0, 1) := by decide +kernel
theorem d_M_product_25 : decode prog_13_method_25_code 25 = .ok (.iload_n 1, 1) := by decide +kernel
theorem d_M_product_26 : decode prog_13_method_25_code 26 = .ok (.invokevirtual 289, 3) := by decide +kernel
theorem d_M_product_29 : decode prog_13_method_25_code 29 = .ok (.ifCond .ne 5, 3) := by decide +kernel
theorem d_M_product_32 : decode prog_13_method_25_code 32 = .ok (.iconst 0, 1) := by decide +kernel
theorem d_M_product_33 : decode prog_13_method_25_code 33 = .ok (.ireturn, 1) := by decide +kernel
theorem d_M_product_34 : decode prog_13_method_25_code 34 = .ok (.aload_n 0, 1) := by decide +kernel
theorem d_M_product_35 : decode prog_13_method_25_code 35 = .ok (.iconst 5, 1) := by decide +kernel
theorem d_M_product_36 : decode prog_13_method_25_code 36 = .ok (.invokevirtual 255, 3) := by decide +kernel
theorem d_M_product_39 : decode prog_13_method_25_code 39 = .ok (.goto (-29), 3) := by decide +kernel
theorem d_M_product_42 : decode prog_13_method_25_code 42 = .ok (.iconst 1, 1) := by decide +kernel
theorem d_M_product_43 : decode prog_13_method_25_code 43 = .ok (.ireturn, 1) := by decide +kernel
theorem d_M_sum_0 : decode prog_13_method_24_code 0 = .ok (.aload_n 0, 1) := by decide +kernel
theorem d_M_sum_1 : decode prog_13_method_24_code 1 = .ok (.iload_n 1, 1) := by decide +kernel
theorem d_M_sum_2 : decode prog_13_method_24_code 2 = .ok (.invokevirtual 284, 3) := by decide +kernel
theorem d_M_sum_5 : decode prog_13_method_24_code 5 = .ok (.ifCond .ne 5, 3) := by decide +kernel
theorem d_M_sum_8 : decode prog_13_method_24_code 8 = .ok (.iconst 0, 1) := by decide +kernel
theorem d_M_sum_9 : decode prog_13_method_24_code 9 = .ok (.ireturn, 1) := by decide +kernel
theorem d_M_sum_10 : decode prog_13_method_24_code 10 = .ok (.aload_n 0, 1) := by decide +kernel
theorem d_M_sum_11 : decode prog_13_method_24_code 11 = .ok (.ldc_w 287, 3) := by decide +kernel
theorem d_M_sum_14 : decode prog_13_method_24_code 14 = .ok (.invokevirtual 109, 3) := by decide +kernel
theorem d_M_sum_17 : decode prog_13_method_24_code 17 = .ok (.ifCond .ne 12, 3) := by decide +kernel
theorem d_M_sum_20 : decode prog_13_method_24_code 20 = .ok (.aload_n 0, 1) := by decide +kernel
theorem d_M_sum_21 : decode prog_13_method_24_code 21 = .ok (.ldc 201, 2) := by decide +kernel
theorem d_M_sum_23 : decode prog_13_method_24_code 23 = .ok (.invokevirtual 109, 3) := by decide +kernel
theorem d_M_sum_26 : decode prog_13_method_24_code 26 = .ok (.ifCond .eq 41, 3) := by decide +kernel
theorem d_M_sum_29 : decode prog_13_method_24_code 29 = .ok (.aload_n 0, 1) := by decide +kernel
theorem d_M_sum_30 : decode prog_13_method_24_code 30 = .ok (.ldc_w 287, 3) := by decide +kernel
theorem d_M_sum_33 : decode prog_13_method_24_code 33 = .ok (.invokevirtual 109, 3) := by decide +kernel
theorem d_M_sum_36 : decode prog_13_method_24_code 36 = .ok (.ifCond .eq 7, 3) := by decide +kernel
theorem d_M_sum_39 : decode prog_13_method_24_code 39 = .ok (.iconst 3, 1) := by decide +kernel
theorem d_M_sum_40 : decode prog_13_method_24_code 40 = .ok (.goto 4, 3) := by decide +kernel
theorem d_M_sum_43 : decode prog_13_method_24_code 43 = .ok (.iconst 4, 1) := by decide +kernel
theorem d_M_sum_44 : decode prog_13_method_24_code 44 = .ok (.istore_n 2, 1) := by decide +kernel
theorem d_M_sum_45 : decode prog_13_method_24_code 45 = .ok (.aload_n 0, 1) := by decide +kernel
theorem d_M_sum_46 : decode prog_13_method_24_code 46 = .ok (.invokevirtual 146, 3) := by decide +kernel
theorem d_M_sum_49 : decode prog_13_method_24_code 49 = .ok (.aload_n 0, 1) := by decide +kernel
theorem d_M_sum_50 : decode prog_13_method_24_code 50 = .ok (.iload_n 1, 1) := by decide +kernel
theorem d_M_sum_51 : decode prog_13_method_24_code 51 = .ok (.invokevirtual 284, 3) := by decide +kernel
theorem d_M_sum_54 : decode prog_13_method_24_code 54 = .ok (.ifCond .ne 5, 3) := by decide +kernel
theorem d_M_sum_57 : decode prog_13_method_24_code 57 = .ok (.iconst 0, 1) := by decide +kernel
theorem d_M_sum_58 : decode prog_13_method_24_code 58 = .ok (.ireturn, 1) := by decide +kernel
theorem d_M_sum_59 : decode prog_13_method_24_code 59 = .ok (.aload_n 0, 1) := by decide +kernel
theorem d_M_sum_60 : decode prog_13_method_24_code 60 = .ok (.iload_n 2, 1) := by decide +kernel
theorem d_M_sum_61 : decode prog_13_method_24_code 61 = .ok (.invokevirtual 255, 3) := by decide +kernel
theorem d_M_sum_64 : decode prog_13_method_24_code 64 = .ok (.goto (-54), 3) := by decide +kernel
theorem d_M_sum_67 : decode prog_13_method_24_code 67 = .ok (.iconst 1, 1) := by decide +kernel
theorem d_M_sum_68 : decode prog_13_method_24_code 68 = .ok (.ireturn, 1) := by decide +kernel
theorem d_M_comparison_0 : decode prog_13_method_23_code 0 = .ok (.aload_n 0, 1) := by decide +kernel
theorem d_M_comparison_1 : decode prog_13_method_23_code 1 = .ok (.iload_n 1, 1) := by decide +kernel
theorem d_M_comparison_2 : decode prog_13_method_23_code 2 = .ok (.invokevirtual 269, 3) := by decide +kernel
theorem d_M_comparison_5 : decode prog_13_method_23_code 5 = .ok (.ifCond .ne 5, 3) := by decide +kernel
theorem d_M_comparison_8 : decode prog_13_method_23_code 8 = .ok (.iconst 0, 1) := by decide +kernel
theorem d_M_comparison_9 : decode prog_13_method_23_code 9 = .ok (.ireturn, 1) := by decide +kernel
theorem d_M_comparison_10 : decode prog_13_method_23_code 10 = .ok (.aload_n 0, 1) := by decide +kernel
theorem d_M_comparison_11 : decode prog_13_method_23_code 11 = .ok (.ldc_w 272, 3) := by decide +kernel
theorem d_M_comparison_14 : decode prog_13_method_23_code 14 = .ok (.invokevirtual 109, 3) := by decide +kernel
theorem d_M_comparison_17 : decode prog_13_method_23_code 17 = .ok (.ifCond .eq 8, 3) := by decide +kernel
theorem d_M_comparison_20 : decode prog_13_method_23_code 20 = .ok (.bipush 8, 2) := by decide +kernel
theorem d_M_comparison_22 : decode prog_13_method_23_code 22 = .ok (.goto 79, 3) := by decide +kernel
