theorem d_M_comparison_25 : decode prog_13_method_23_code 25 = .ok (.aload_n 0, 1) := by decide +kernel
theorem d_M_comparison_26 : decode prog_13_method_23_code 26 = .ok (.ldc_w 274, 3) := by decide +kernel
theorem d_M_comparison_29 : decode prog_13_method_23_code 29 = .ok (.invokevirtual 109, 3) := by decide +kernel
theorem d_M_comparison_32 : decode prog_13_method_23_code 32 = .ok (.ifCond .eq 8, 3) := by decide +kernel
theorem d_M_comparison_35 : decode prog_13_method_23_code 35 = .ok (.bipush 9, 2) := by decide +kernel
theorem d_M_comparison_37 : decode prog_13_method_23_code 37 = .ok (.goto 64, 3) := by decide +kernel
theorem d_M_comparison_40 : decode prog_13_method_23_code 40 = .ok (.aload_n 0, 1) := by decide +kernel
theorem d_M_comparison_41 : decode prog_13_method_23_code 41 = .ok (.ldc_w 276, 3) := by decide +kernel
theorem d_M_comparison_44 : decode prog_13_method_23_code 44 = .ok (.invokevirtual 109, 3) := by decide +kernel
theorem d_M_comparison_47 : decode prog_13_method_23_code 47 = .ok (.ifCond .eq 8, 3) := by decide +kernel
theorem d_M_comparison_50 : decode prog_13_method_23_code 50 = .ok (.bipush 10, 2) := by decide +kernel
theorem d_M_comparison_52 : decode prog_13_method_23_code 52 = .ok (.goto 49, 3) := by decide +kernel
theorem d_M_comparison_55 : decode prog_13_method_23_code 55 = .ok (.aload_n 0, 1) := by decide +kernel
theorem d_M_comparison_56 : decode prog_13_method_23_code 56 = .ok (.ldc_w 278, 3) := by decide +kernel
theorem d_M_comparison_59 : decode prog_13_method_23_code 59 = .ok (.invokevirtual 109, 3) := by decide +kernel
theorem d_M_comparison_62 : decode prog_13_method_23_code 62 = .ok (.ifCond .eq 8, 3) := by decide +kernel
theorem d_M_comparison_65 : decode prog_13_method_23_code 65 = .ok (.bipush 11, 2) := by decide +kernel
theorem d_M_comparison_67 : decode prog_13_method_23_code 67 = .ok (.goto 34, 3) := by decide +kernel
theorem d_M_comparison_70 : decode prog_13_method_23_code 70 = .ok (.aload_n 0, 1) := by decide +kernel
theorem d_M_comparison_71 : decode prog_13_method_23_code 71 = .ok (.ldc_w 280, 3) := by decide +kernel
theorem d_M_comparison_74 : decode prog_13_method_23_code 74 = .ok (.invokevirtual 109, 3) := by decide +kernel
theorem d_M_comparison_77 : decode prog_13_method_23_code 77 = .ok (.ifCond .eq 8, 3) := by decide +kernel
theorem d_M_comparison_80 : decode prog_13_method_23_code 80 = .ok (.bipush 12, 2) := by decide +kernel
theorem d_M_comparison_82 : decode prog_13_method_23_code 82 = .ok (.goto 19, 3) := by decide +kernel
theorem d_M_comparison_85 : decode prog_13_method_23_code 85 = .ok (.aload_n 0, 1) := by decide +kernel
theorem d_M_comparison_86 : decode prog_13_method_23_code 86 = .ok (.ldc_w 282, 3) := by decide +kernel
theorem d_M_comparison_89 : decode prog_13_method_23_code 89 = .ok (.invokevirtual 109, 3) := by decide +kernel
theorem d_M_comparison_92 : decode prog_13_method_23_code 92 = .ok (.ifCond .eq 8, 3) := by decide +kernel
theorem d_M_comparison_95 : decode prog_13_method_23_code 95 = .ok (.bipush 13, 2) := by decide +kernel
theorem d_M_comparison_97 : decode prog_13_method_23_code 97 = .ok (.goto 4, 3) := by decide +kernel
theorem d_M_comparison_100 : decode prog_13_method_23_code 100 = .ok (.iconst (-1), 1) := by decide +kernel
theorem d_M_comparison_101 : decode prog_13_method_23_code 101 = .ok (.istore_n 2, 1) := by decide +kernel
theorem d_M_comparison_102 : decode prog_13_method_23_code 102 = .ok (.iload_n 2, 1) := by decide +kernel
theorem d_M_comparison_103 : decode prog_13_method_23_code 103 = .ok (.ifCond .ge 5, 3) := by decide +kernel
theorem d_M_comparison_106 : decode prog_13_method_23_code 106 = .ok (.iconst 1, 1) := by decide +kernel
theorem d_M_comparison_107 : decode prog_13_method_23_code 107 = .ok (.ireturn, 1) := by decide +kernel
theorem d_M_comparison_108 : decode prog_13_method_23_code 108 = .ok (.aload_n 0, 1) := by decide +kernel
theorem d_M_comparison_109 : decode prog_13_method_23_code 109 = .ok (.invokevirtual 146, 3) := by decide +kernel
theorem d_M_comparison_112 : decode prog_13_method_23_code 112 = .ok (.aload_n 0, 1) := by decide +kernel
theorem d_M_comparison_113 : decode prog_13_method_23_code 113 = .ok (.iload_n 1, 1) := by decide +kernel
theorem d_M_comparison_114 : decode prog_13_method_23_code 114 = .ok (.invokevirtual 269, 3) := by decide +kernel
theorem d_M_comparison_117 : decode prog_13_method_23_code 117 = .ok (.ifCond .ne 5, 3) := by decide +kernel
theorem d_M_comparison_120 : decode prog_13_method_23_code 120 = .ok (.iconst 0, 1) := by decide +kernel
theorem d_M_comparison_121 : decode prog_13_method_23_code 121 = .ok (.ireturn, 1) := by decide +kernel
theorem d_M_comparison_122 : decode prog_13_method_23_code 122 = .ok (.aload_n 0, 1) := by decide +kernel
theorem d_M_comparison_123 : decode prog_13_method_23_code 123 = .ok (.iload_n 2, 1) := by decide +kernel
theorem d_M_comparison_124 : decode prog_13_method_23_code 124 = .ok (.invokevirtual 255, 3) := by decide +kernel
theorem d_M_comparison_127 : decode prog_13_method_23_code 127 = .ok (.iconst 1, 1) := by decide +kernel
theorem d_M_comparison_128 : decode prog_13_method_23_code 128 = .ok (.ireturn, 1) := by decide +kernel
theorem d_M_both_0 : decode prog_13_method_22_code 0 = .ok (.aload_n 0, 1) := by decide +kernel
theorem d_M_both_1 : decode prog_13_method_22_code 1 = .ok (.iload_n 1, 1) := by decide +kernel
theorem d_M_both_2 : decode prog_13_method_22_code 2 = .ok (.invokevirtual 264, 3) := by decide +kernel
theorem d_M_both_5 : decode prog_13_method_22_code 5 = .ok (.ifCond .ne 5, 3) := by decide +kernel
theorem d_M_both_8 : decode prog_13_method_22_code 8 = .ok (.iconst 0, 1) := by decide +kernel
theorem d_M_both_9 : decode prog_13_method_22_code 9 = .ok (.ireturn, 1) := by decide +kernel
theorem d_M_both_10 : decode prog_13_method_22_code 10 = .ok (.aload_n 0, 1) := by decide +kernel
theorem d_M_both_11 : decode prog_13_method_22_code 11 = .ok (.ldc_w 267, 3) := by decide +kernel
theorem d_M_both_14 : decode prog_13_method_22_code 14 = .ok (.invokevirtual 109, 3) := by decide +kernel
theorem d_M_both_17 : decode prog_13_method_22_code 17 = .ok (.ifCond .eq 26, 3) := by decide +kernel
theorem d_M_both_20 : decode prog_13_method_22_code 20 = .ok (.aload_n 0, 1) := by decide +kernel
theorem d_M_both_21 : decode prog_13_method_22_code 21 = .ok (.invokevirtual 146, 3) := by decide +kernel
theorem d_M_both_24 : decode prog_13_method_22_code 24 = .ok (.aload_n 0, 1) := by decide +kernel
theorem d_M_both_25 : decode prog_13_method_22_code 25 = .ok (.iload_n 1, 1) := by decide +kernel
theorem d_M_both_26 : decode prog_13_method_22_code 26 = .ok (.invokevirtual 264, 3) := by decide +kernel
theorem d_M_both_29 : decode prog_13_method_22_code 29 = .ok (.ifCond .ne 5, 3) := by decide +kernel
theorem d_M_both_32 : decode prog_13_method_22_code 32 = .ok (.iconst 0, 1) := by decide +kernel
theorem d_M_both_33 : decode prog_13_method_22_code 33 = .ok (.ireturn, 1) := by decide +kernel
theorem d_M_both_34 : decode prog_13_method_22_code 34 = .ok (.aload_n 0, 1) := by decide +kernel
theorem d_M_both_35 : decode prog_13_method_22_code 35 = .ok (.bipush 14, 2) := by decide +kernel
theorem d_M_both_37 : decode prog_13_method_22_code 37 = .ok (.invokevirtual 255, 3) := by decide +kernel
theorem d_M_both_40 : decode prog_13_method_22_code 40 = .ok (.goto (-30), 3) := by decide +kernel
theorem d_M_both_43 : decode prog_13_method_22_code 43 = .ok (.iconst 1, 1) := by decide +kernel
theorem d_M_both_44 : decode prog_13_method_22_code 44 = .ok (.ireturn, 1) := by decide +kernel
theorem d_M_either_0 : decode prog_13_method_21_code 0 = .ok (.aload_n 0, 1) := by decide +kernel
theorem d_M_either_1 : decode prog_13_method_21_code 1 = .ok (.iload_n 1, 1) := by decide +kernel
theorem d_M_either_2 : decode prog_13_method_21_code 2 = .ok (.invokevirtual 259, 3) := by decide +kernel
theorem d_M_either_5 : decode prog_13_method_21_code 5 = .ok (.ifCond .ne 5, 3) := by decide +kernel
theorem d_M_either_8 : decode prog_13_method_21_code 8 = .ok (.iconst 0, 1) := by decide +kernel
theorem d_M_either_9 : decode prog_13_method_21_code 9 = .ok (.ireturn, 1) := by decide +kernel
theorem d_M_either_10 : decode prog_13_method_21_code 10 = .ok (.aload_n 0, 1) := by decide +kernel
theorem d_M_either_11 : decode prog_13_method_21_code 11 = .ok (.ldc_w 262, 3) := by decide +kernel
theorem d_M_either_14 : decode prog_13_method_21_code 14 = .ok (.invokevirtual 109, 3) := by decide +kernel
theorem d_M_either_17 : decode prog_13_method_21_code 17 = .ok (.ifCond .eq 26, 3) := by decide +kernel
theorem d_M_either_20 : decode prog_13_method_21_code 20 = .ok (.aload_n 0, 1) := by decide +kernel
theorem d_M_either_21 : decode prog_13_method_21_code 21 = .ok (.invokevirtual 146, 3) := by decide +kernel
theorem d_M_either_24 : decode prog_13_method_21_code 24 = .ok (.aload_n 0, 1) := by decide +kernel
theorem d_M_either_25 : decode prog_13_method_21_code 25 = .ok (.iload_n 1, 1) := by decide +kernel
theorem d_M_either_26 : decode prog_13_method_21_code 26 = .ok (.invokevirtual 259, 3) := by decide +kernel
theorem d_M_either_29 : decode prog_13_method_21_code 29 = .ok (.ifCond .ne 5, 3) := by decide +kernel
theorem d_M_either_32 : decode prog_13_method_21_code 32 = .ok (.iconst 0, 1) := by decide +kernel
theorem d_M_either_33 : decode prog_13_method_21_code 33 = .ok (.ireturn, 1) := by decide +kernel
theorem d_M_either_34 : decode prog_13_method_21_code 34 = .ok (.aload_n 0, 1) := by decide +kernel
theorem d_M_either_35 : decode prog_13_method_21_code 35 = .ok (.bipush 15, 2) := by decide +kernel
theorem d_M_either_37 : decode prog_13_method_21_code 37 = .ok (.invokevirtual 255, 3) := by decide +kernel
theorem d_M_either_40 : decode prog_13_method_21_code 40 = .ok (.goto (-30), 3) := by decide +kernel
theorem d_M_either_43 : decode prog_13_method_21_code 43 = .ok (.iconst 1, 1) := by decide +kernel
theorem d_M_either_44 : decode prog_13_method_21_code 44 = .ok (.ireturn, 1) := by decide +kernel
theorem d_M_whole_0 : decode prog_13_method_20_code 0 = .ok (.aload_n 0, 1) := by decide +kernel
theorem d_M_whole_1 : decode prog_13_method_20_code 1 = .ok (.getfield 149, 3) := by decide +kernel
theorem d_M_whole_4 : decode prog_13_method_20_code 4 = .ok (.getfield 249, 3) := by decide +kernel
theorem d_M_whole_7 : decode prog_13_method_20_code 7 = .ok (.iload_n 1, 1) := by decide +kernel
theorem d_M_whole_8 : decode prog_13_method_20_code 8 = .ok (.aload_n 0, 1) := by decide +kernel
theorem d_M_whole_9 : decode prog_13_method_20_code 9 = .ok (.getfield 149, 3) := by decide +kernel
theorem d_M_whole_12 : decode prog_13_method_20_code 12 = .ok (.getfield 170, 3) := by decide +kernel
theorem d_M_whole_15 : decode prog_13_method_20_code 15 = .ok (.iastore, 1) := by decide +kernel
theorem d_M_whole_16 : decode prog_13_method_20_code 16 = .ok (.aload_n 0, 1) := by decide +kernel
theorem d_M_whole_17 : decode prog_13_method_20_code 17 = .ok (.iconst 0, 1) := by decide +kernel
theorem d_M_whole_18 : decode prog_13_method_20_code 18 = .ok (.invokevirtual 252, 3) := by decide +kernel
theorem d_M_whole_21 : decode prog_13_method_20_code 21 = .ok (.ifCond .ne 5, 3) := by decide +kernel
theorem d_M_whole_24 : decode prog_13_method_20_code 24 = .ok (.iconst 0, 1) := by decide +kernel
