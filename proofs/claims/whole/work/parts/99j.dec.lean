/-! decode rows, as printed -/
theorem dX9_rests_0 : decode cX9_rests 0 = .ok (.iload_n 1, 1) := by decide +kernel
theorem dX9_rests_1 : decode cX9_rests 1 = .ok (.invokestatic 335, 3) := by decide +kernel
theorem dX9_rests_4 : decode cX9_rests 4 = .ok (.ifCond .eq 23, 3) := by decide +kernel
theorem dX9_rests_7 : decode cX9_rests 7 = .ok (.iload_n 2, 1) := by decide +kernel
theorem dX9_rests_8 : decode cX9_rests 8 = .ok (.invokestatic 335, 3) := by decide +kernel
theorem dX9_rests_11 : decode cX9_rests 11 = .ok (.ifCond .eq 16, 3) := by decide +kernel
theorem dX9_rests_14 : decode cX9_rests 14 = .ok (.iload_n 3, 1) := by decide +kernel
theorem dX9_rests_15 : decode cX9_rests 15 = .ok (.invokestatic 335, 3) := by decide +kernel
theorem dX9_rests_18 : decode cX9_rests 18 = .ok (.ifCond .eq 9, 3) := by decide +kernel
theorem dX9_rests_21 : decode cX9_rests 21 = .ok (.iload 4, 2) := by decide +kernel
theorem dX9_rests_23 : decode cX9_rests 23 = .ok (.iconst (-1), 1) := by decide +kernel
theorem dX9_rests_24 : decode cX9_rests 24 = .ok (.if_icmp .ge 11, 3) := by decide +kernel
theorem dX9_rests_27 : decode cX9_rests 27 = .ok (.new 338, 3) := by decide +kernel
theorem dX9_rests_30 : decode cX9_rests 30 = .ok (.dup, 1) := by decide +kernel
theorem dX9_rests_31 : decode cX9_rests 31 = .ok (.invokespecial 340, 3) := by decide +kernel
theorem dX9_rests_34 : decode cX9_rests 34 = .ok (.athrow, 1) := by decide +kernel
theorem dX9_rests_35 : decode cX9_rests 35 = .ok (.iconst 0, 1) := by decide +kernel
theorem dX9_rests_36 : decode cX9_rests 36 = .ok (.istore 5, 2) := by decide +kernel
theorem dX9_rests_38 : decode cX9_rests 38 = .ok (.iconst 0, 1) := by decide +kernel
theorem dX9_rests_39 : decode cX9_rests 39 = .ok (.istore 6, 2) := by decide +kernel
theorem dX9_rests_41 : decode cX9_rests 41 = .ok (.iload 6, 2) := by decide +kernel
theorem dX9_rests_43 : decode cX9_rests 43 = .ok (.iconst 4, 1) := by decide +kernel
theorem dX9_rests_44 : decode cX9_rests 44 = .ok (.if_icmp .ge 33, 3) := by decide +kernel
theorem dX9_rests_47 : decode cX9_rests 47 = .ok (.iload 6, 2) := by decide +kernel
theorem dX9_rests_49 : decode cX9_rests 49 = .ok (.iload_n 1, 1) := by decide +kernel
theorem dX9_rests_50 : decode cX9_rests 50 = .ok (.iload_n 2, 1) := by decide +kernel
theorem dX9_rests_51 : decode cX9_rests 51 = .ok (.iload_n 3, 1) := by decide +kernel
theorem dX9_rests_52 : decode cX9_rests 52 = .ok (.invokestatic 341, 3) := by decide +kernel
theorem dX9_rests_55 : decode cX9_rests 55 = .ok (.ifCond .eq 16, 3) := by decide +kernel
theorem dX9_rests_58 : decode cX9_rests 58 = .ok (.iload 5, 2) := by decide +kernel
theorem dX9_rests_60 : decode cX9_rests 60 = .ok (.iload 4, 2) := by decide +kernel
theorem dX9_rests_62 : decode cX9_rests 62 = .ok (.if_icmp .ne 6, 3) := by decide +kernel
theorem dX9_rests_65 : decode cX9_rests 65 = .ok (.iload 6, 2) := by decide +kernel
theorem dX9_rests_67 : decode cX9_rests 67 = .ok (.ireturn, 1) := by decide +kernel
theorem dX9_rests_68 : decode cX9_rests 68 = .ok (.iinc 5 1, 3) := by decide +kernel
theorem dX9_rests_71 : decode cX9_rests 71 = .ok (.iinc 6 1, 3) := by decide +kernel
theorem dX9_rests_74 : decode cX9_rests 74 = .ok (.goto (-33), 3) := by decide +kernel
theorem dX9_rests_77 : decode cX9_rests 77 = .ok (.iload 4, 2) := by decide +kernel
theorem dX9_rests_79 : decode cX9_rests 79 = .ok (.iconst (-1), 1) := by decide +kernel
theorem dX9_rests_80 : decode cX9_rests 80 = .ok (.if_icmp .eq 11, 3) := by decide +kernel
theorem dX9_rests_83 : decode cX9_rests 83 = .ok (.new 338, 3) := by decide +kernel
theorem dX9_rests_86 : decode cX9_rests 86 = .ok (.dup, 1) := by decide +kernel
theorem dX9_rests_87 : decode cX9_rests 87 = .ok (.invokespecial 340, 3) := by decide +kernel
theorem dX9_rests_90 : decode cX9_rests 90 = .ok (.athrow, 1) := by decide +kernel
theorem dX9_rests_91 : decode cX9_rests 91 = .ok (.iload 5, 2) := by decide +kernel
theorem dX9_rests_93 : decode cX9_rests 93 = .ok (.ireturn, 1) := by decide +kernel
theorem dL_rests_0 : decode method_3_code 0 = .ok (.aload 5, 2) := by decide +kernel
theorem dL_rests_2 : decode method_3_code 2 = .ok (.iconst 0, 1) := by decide +kernel
theorem dL_rests_3 : decode method_3_code 3 = .ok (.aload_n 0, 1) := by decide +kernel
theorem dL_rests_4 : decode method_3_code 4 = .ok (.iload_n 1, 1) := by decide +kernel
theorem dL_rests_5 : decode method_3_code 5 = .ok (.iload_n 2, 1) := by decide +kernel
theorem dL_rests_6 : decode method_3_code 6 = .ok (.iload_n 3, 1) := by decide +kernel
theorem dL_rests_7 : decode method_3_code 7 = .ok (.iload 4, 2) := by decide +kernel
theorem dL_rests_9 : decode method_3_code 9 = .ok (.invokevirtual 7, 3) := by decide +kernel
theorem dL_rests_12 : decode method_3_code 12 = .ok (.i2l, 1) := by decide +kernel
theorem dL_rests_13 : decode method_3_code 13 = .ok (.lastore, 1) := by decide +kernel
theorem dL_rests_14 : decode method_3_code 14 = .ok (.goto 7, 3) := by decide +kernel
theorem dL_rests_17 : decode method_3_code 17 = .ok (.astore 6, 2) := by decide +kernel
theorem dL_rests_19 : decode method_3_code 19 = .ok (.iconst 1, 1) := by decide +kernel
theorem dL_rests_20 : decode method_3_code 20 = .ok (.ireturn, 1) := by decide +kernel
theorem dL_rests_21 : decode method_3_code 21 = .ok (.iconst 0, 1) := by decide +kernel
theorem dL_rests_22 : decode method_3_code 22 = .ok (.ireturn, 1) := by decide +kernel
