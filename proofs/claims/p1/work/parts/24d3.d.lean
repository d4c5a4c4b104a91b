theorem d_M_whole_25 : decode prog_13_method_20_code 25 = .ok (.ireturn, 1) := by decide +kernel
theorem d_M_whole_26 : decode prog_13_method_20_code 26 = .ok (.aload_n 0, 1) := by decide +kernel
theorem d_M_whole_27 : decode prog_13_method_20_code 27 = .ok (.bipush 16, 2) := by decide +kernel
theorem d_M_whole_29 : decode prog_13_method_20_code 29 = .ok (.invokevirtual 255, 3) := by decide +kernel
theorem d_M_whole_32 : decode prog_13_method_20_code 32 = .ok (.iconst 1, 1) := by decide +kernel
theorem d_M_whole_33 : decode prog_13_method_20_code 33 = .ok (.ireturn, 1) := by decide +kernel
