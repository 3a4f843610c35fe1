/-! DECODE ROWS (written by wip/gen/names.py) -/
theorem kd_L_klass_0 : decode kc_L_klass 0 = .ok (.aload_n 2, 1) := by decide +kernel
theorem kd_L_klass_1 : decode kc_L_klass 1 = .ok (.iconst 0, 1) := by decide +kernel
theorem kd_L_klass_2 : decode kc_L_klass 2 = .ok (.aload_n 0, 1) := by decide +kernel
theorem kd_L_klass_3 : decode kc_L_klass 3 = .ok (.iload_n 1, 1) := by decide +kernel
theorem kd_L_klass_4 : decode kc_L_klass 4 = .ok (.invokevirtual 7, 3) := by decide +kernel
theorem kd_L_klass_7 : decode kc_L_klass 7 = .ok (.i2l, 1) := by decide +kernel
theorem kd_L_klass_8 : decode kc_L_klass 8 = .ok (.lastore, 1) := by decide +kernel
theorem kd_L_klass_9 : decode kc_L_klass 9 = .ok (.goto 9, 3) := by decide +kernel
theorem kd_L_klass_12 : decode kc_L_klass 12 = .ok (.astore_n 3, 1) := by decide +kernel
theorem kd_L_klass_13 : decode kc_L_klass 13 = .ok (.iconst 1, 1) := by decide +kernel
theorem kd_L_klass_14 : decode kc_L_klass 14 = .ok (.ireturn, 1) := by decide +kernel
theorem kd_L_klass_15 : decode kc_L_klass 15 = .ok (.astore_n 3, 1) := by decide +kernel
theorem kd_L_klass_16 : decode kc_L_klass 16 = .ok (.iconst 2, 1) := by decide +kernel
theorem kd_L_klass_17 : decode kc_L_klass 17 = .ok (.ireturn, 1) := by decide +kernel
theorem kd_L_klass_18 : decode kc_L_klass 18 = .ok (.iconst 0, 1) := by decide +kernel
theorem kd_L_klass_19 : decode kc_L_klass 19 = .ok (.ireturn, 1) := by decide +kernel
theorem kd_L_method_0 : decode kc_L_method 0 = .ok (.aload 6, 2) := by decide +kernel
theorem kd_L_method_2 : decode kc_L_method 2 = .ok (.iconst 0, 1) := by decide +kernel
theorem kd_L_method_3 : decode kc_L_method 3 = .ok (.aload_n 0, 1) := by decide +kernel
theorem kd_L_method_4 : decode kc_L_method 4 = .ok (.iload_n 1, 1) := by decide +kernel
theorem kd_L_method_5 : decode kc_L_method 5 = .ok (.iload_n 2, 1) := by decide +kernel
theorem kd_L_method_6 : decode kc_L_method 6 = .ok (.iload_n 3, 1) := by decide +kernel
theorem kd_L_method_7 : decode kc_L_method 7 = .ok (.iload 4, 2) := by decide +kernel
theorem kd_L_method_9 : decode kc_L_method 9 = .ok (.iload 5, 2) := by decide +kernel
theorem kd_L_method_11 : decode kc_L_method 11 = .ok (.invokevirtual 17, 3) := by decide +kernel
theorem kd_L_method_14 : decode kc_L_method 14 = .ok (.i2l, 1) := by decide +kernel
theorem kd_L_method_15 : decode kc_L_method 15 = .ok (.lastore, 1) := by decide +kernel
theorem kd_L_method_16 : decode kc_L_method 16 = .ok (.goto 11, 3) := by decide +kernel
theorem kd_L_method_19 : decode kc_L_method 19 = .ok (.astore 7, 2) := by decide +kernel
theorem kd_L_method_21 : decode kc_L_method 21 = .ok (.iconst 1, 1) := by decide +kernel
theorem kd_L_method_22 : decode kc_L_method 22 = .ok (.ireturn, 1) := by decide +kernel
theorem kd_L_method_23 : decode kc_L_method 23 = .ok (.astore 7, 2) := by decide +kernel
theorem kd_L_method_25 : decode kc_L_method 25 = .ok (.iconst 2, 1) := by decide +kernel
theorem kd_L_method_26 : decode kc_L_method 26 = .ok (.ireturn, 1) := by decide +kernel
theorem kd_L_method_27 : decode kc_L_method 27 = .ok (.iconst 0, 1) := by decide +kernel
theorem kd_L_method_28 : decode kc_L_method 28 = .ok (.ireturn, 1) := by decide +kernel
theorem kd_L_object_0 : decode kc_L_object 0 = .ok (.aload_n 2, 1) := by decide +kernel
theorem kd_L_object_1 : decode kc_L_object 1 = .ok (.iconst 0, 1) := by decide +kernel
theorem kd_L_object_2 : decode kc_L_object 2 = .ok (.aload_n 0, 1) := by decide +kernel
theorem kd_L_object_3 : decode kc_L_object 3 = .ok (.iload_n 1, 1) := by decide +kernel
theorem kd_L_object_4 : decode kc_L_object 4 = .ok (.invokevirtual 21, 3) := by decide +kernel
theorem kd_L_object_7 : decode kc_L_object 7 = .ok (.i2l, 1) := by decide +kernel
theorem kd_L_object_8 : decode kc_L_object 8 = .ok (.lastore, 1) := by decide +kernel
theorem kd_L_object_9 : decode kc_L_object 9 = .ok (.goto 9, 3) := by decide +kernel
theorem kd_L_object_12 : decode kc_L_object 12 = .ok (.astore_n 3, 1) := by decide +kernel
theorem kd_L_object_13 : decode kc_L_object 13 = .ok (.iconst 1, 1) := by decide +kernel
theorem kd_L_object_14 : decode kc_L_object 14 = .ok (.ireturn, 1) := by decide +kernel
theorem kd_L_object_15 : decode kc_L_object 15 = .ok (.astore_n 3, 1) := by decide +kernel
theorem kd_L_object_16 : decode kc_L_object 16 = .ok (.iconst 2, 1) := by decide +kernel
theorem kd_L_object_17 : decode kc_L_object 17 = .ok (.ireturn, 1) := by decide +kernel
theorem kd_L_object_18 : decode kc_L_object 18 = .ok (.iconst 0, 1) := by decide +kernel
theorem kd_L_object_19 : decode kc_L_object 19 = .ok (.ireturn, 1) := by decide +kernel
theorem kd_L_argument_0 : decode kc_L_argument 0 = .ok (.aload 4, 2) := by decide +kernel
theorem kd_L_argument_2 : decode kc_L_argument 2 = .ok (.iconst 0, 1) := by decide +kernel
theorem kd_L_argument_3 : decode kc_L_argument 3 = .ok (.aload_n 0, 1) := by decide +kernel
theorem kd_L_argument_4 : decode kc_L_argument 4 = .ok (.iload_n 1, 1) := by decide +kernel
theorem kd_L_argument_5 : decode kc_L_argument 5 = .ok (.lload_n 2, 1) := by decide +kernel
theorem kd_L_argument_6 : decode kc_L_argument 6 = .ok (.invokevirtual 24, 3) := by decide +kernel
theorem kd_L_argument_9 : decode kc_L_argument 9 = .ok (.i2l, 1) := by decide +kernel
theorem kd_L_argument_10 : decode kc_L_argument 10 = .ok (.lastore, 1) := by decide +kernel
theorem kd_L_argument_11 : decode kc_L_argument 11 = .ok (.goto 11, 3) := by decide +kernel
theorem kd_L_argument_14 : decode kc_L_argument 14 = .ok (.astore 5, 2) := by decide +kernel
theorem kd_L_argument_16 : decode kc_L_argument 16 = .ok (.iconst 1, 1) := by decide +kernel
theorem kd_L_argument_17 : decode kc_L_argument 17 = .ok (.ireturn, 1) := by decide +kernel
theorem kd_L_argument_18 : decode kc_L_argument 18 = .ok (.astore 5, 2) := by decide +kernel
theorem kd_L_argument_20 : decode kc_L_argument 20 = .ok (.iconst 2, 1) := by decide +kernel
theorem kd_L_argument_21 : decode kc_L_argument 21 = .ok (.ireturn, 1) := by decide +kernel
theorem kd_L_argument_22 : decode kc_L_argument 22 = .ok (.iconst 0, 1) := by decide +kernel
theorem kd_L_argument_23 : decode kc_L_argument 23 = .ok (.ireturn, 1) := by decide +kernel
theorem kd_L_weight_0 : decode kc_L_weight 0 = .ok (.aload_n 3, 1) := by decide +kernel
theorem kd_L_weight_1 : decode kc_L_weight 1 = .ok (.iconst 0, 1) := by decide +kernel
theorem kd_L_weight_2 : decode kc_L_weight 2 = .ok (.aload_n 0, 1) := by decide +kernel
theorem kd_L_weight_3 : decode kc_L_weight 3 = .ok (.iload_n 1, 1) := by decide +kernel
theorem kd_L_weight_4 : decode kc_L_weight 4 = .ok (.iload_n 2, 1) := by decide +kernel
theorem kd_L_weight_5 : decode kc_L_weight 5 = .ok (.invokevirtual 28, 3) := by decide +kernel
theorem kd_L_weight_8 : decode kc_L_weight 8 = .ok (.i2l, 1) := by decide +kernel
theorem kd_L_weight_9 : decode kc_L_weight 9 = .ok (.lastore, 1) := by decide +kernel
theorem kd_L_weight_10 : decode kc_L_weight 10 = .ok (.goto 7, 3) := by decide +kernel
theorem kd_L_weight_13 : decode kc_L_weight 13 = .ok (.astore 4, 2) := by decide +kernel
theorem kd_L_weight_15 : decode kc_L_weight 15 = .ok (.iconst 1, 1) := by decide +kernel
theorem kd_L_weight_16 : decode kc_L_weight 16 = .ok (.ireturn, 1) := by decide +kernel
theorem kd_L_weight_17 : decode kc_L_weight 17 = .ok (.iconst 0, 1) := by decide +kernel
theorem kd_L_weight_18 : decode kc_L_weight 18 = .ok (.ireturn, 1) := by decide +kernel
theorem kd_L_call_0 : decode kc_L_call 0 = .ok (.aload_n 3, 1) := by decide +kernel
theorem kd_L_call_1 : decode kc_L_call 1 = .ok (.iconst 0, 1) := by decide +kernel
theorem kd_L_call_2 : decode kc_L_call 2 = .ok (.aload_n 0, 1) := by decide +kernel
theorem kd_L_call_3 : decode kc_L_call 3 = .ok (.iload_n 1, 1) := by decide +kernel
theorem kd_L_call_4 : decode kc_L_call 4 = .ok (.iload_n 2, 1) := by decide +kernel
theorem kd_L_call_5 : decode kc_L_call 5 = .ok (.invokevirtual 32, 3) := by decide +kernel
theorem kd_L_call_8 : decode kc_L_call 8 = .ok (.i2l, 1) := by decide +kernel
theorem kd_L_call_9 : decode kc_L_call 9 = .ok (.lastore, 1) := by decide +kernel
theorem kd_L_call_10 : decode kc_L_call 10 = .ok (.goto 15, 3) := by decide +kernel
theorem kd_L_call_13 : decode kc_L_call 13 = .ok (.astore 4, 2) := by decide +kernel
theorem kd_L_call_15 : decode kc_L_call 15 = .ok (.iconst 1, 1) := by decide +kernel
theorem kd_L_call_16 : decode kc_L_call 16 = .ok (.ireturn, 1) := by decide +kernel
theorem kd_L_call_17 : decode kc_L_call 17 = .ok (.astore 4, 2) := by decide +kernel
theorem kd_L_call_19 : decode kc_L_call 19 = .ok (.iconst 2, 1) := by decide +kernel
theorem kd_L_call_20 : decode kc_L_call 20 = .ok (.ireturn, 1) := by decide +kernel
theorem kd_L_call_21 : decode kc_L_call 21 = .ok (.astore 4, 2) := by decide +kernel
theorem kd_L_call_23 : decode kc_L_call 23 = .ok (.iconst 3, 1) := by decide +kernel
theorem kd_L_call_24 : decode kc_L_call 24 = .ok (.ireturn, 1) := by decide +kernel
theorem kd_L_call_25 : decode kc_L_call 25 = .ok (.iconst 0, 1) := by decide +kernel
theorem kd_L_call_26 : decode kc_L_call 26 = .ok (.ireturn, 1) := by decide +kernel
theorem kd_L_exact_0 : decode kc_L_exact 0 = .ok (.aload 4, 2) := by decide +kernel
theorem kd_L_exact_2 : decode kc_L_exact 2 = .ok (.iconst 0, 1) := by decide +kernel
theorem kd_L_exact_3 : decode kc_L_exact 3 = .ok (.aload_n 0, 1) := by decide +kernel
theorem kd_L_exact_4 : decode kc_L_exact 4 = .ok (.iload_n 1, 1) := by decide +kernel
theorem kd_L_exact_5 : decode kc_L_exact 5 = .ok (.iload_n 2, 1) := by decide +kernel
theorem kd_L_exact_6 : decode kc_L_exact 6 = .ok (.iload_n 3, 1) := by decide +kernel
theorem kd_L_exact_7 : decode kc_L_exact 7 = .ok (.invokevirtual 37, 3) := by decide +kernel
theorem kd_L_exact_10 : decode kc_L_exact 10 = .ok (.i2l, 1) := by decide +kernel
theorem kd_L_exact_11 : decode kc_L_exact 11 = .ok (.lastore, 1) := by decide +kernel
theorem kd_L_exact_12 : decode kc_L_exact 12 = .ok (.goto 11, 3) := by decide +kernel
theorem kd_L_exact_15 : decode kc_L_exact 15 = .ok (.astore 5, 2) := by decide +kernel
theorem kd_L_exact_17 : decode kc_L_exact 17 = .ok (.iconst 1, 1) := by decide +kernel
theorem kd_L_exact_18 : decode kc_L_exact 18 = .ok (.ireturn, 1) := by decide +kernel
theorem kd_L_exact_19 : decode kc_L_exact 19 = .ok (.astore 5, 2) := by decide +kernel
theorem kd_L_exact_21 : decode kc_L_exact 21 = .ok (.iconst 2, 1) := by decide +kernel
theorem kd_L_exact_22 : decode kc_L_exact 22 = .ok (.ireturn, 1) := by decide +kernel
theorem kd_L_exact_23 : decode kc_L_exact 23 = .ok (.iconst 0, 1) := by decide +kernel
theorem kd_L_exact_24 : decode kc_L_exact 24 = .ok (.ireturn, 1) := by decide +kernel
theorem kd_L_answer_0 : decode kc_L_answer 0 = .ok (.aload_n 0, 1) := by decide +kernel
theorem kd_L_answer_1 : decode kc_L_answer 1 = .ok (.lload_n 1, 1) := by decide +kernel
theorem kd_L_answer_2 : decode kc_L_answer 2 = .ok (.invokevirtual 41, 3) := by decide +kernel
theorem kd_L_answer_5 : decode kc_L_answer 5 = .ok (.goto 6, 3) := by decide +kernel
theorem kd_L_answer_8 : decode kc_L_answer 8 = .ok (.astore_n 3, 1) := by decide +kernel
theorem kd_L_answer_9 : decode kc_L_answer 9 = .ok (.iconst 1, 1) := by decide +kernel
theorem kd_L_answer_10 : decode kc_L_answer 10 = .ok (.ireturn, 1) := by decide +kernel
theorem kd_L_answer_11 : decode kc_L_answer 11 = .ok (.iconst 0, 1) := by decide +kernel
theorem kd_L_answer_12 : decode kc_L_answer 12 = .ok (.ireturn, 1) := by decide +kernel
theorem kd_L_given_0 : decode kc_L_given 0 = .ok (.aload_n 1, 1) := by decide +kernel
theorem kd_L_given_1 : decode kc_L_given 1 = .ok (.iconst 0, 1) := by decide +kernel
theorem kd_L_given_2 : decode kc_L_given 2 = .ok (.aload_n 0, 1) := by decide +kernel
theorem kd_L_given_3 : decode kc_L_given 3 = .ok (.invokevirtual 45, 3) := by decide +kernel
theorem kd_L_given_6 : decode kc_L_given 6 = .ok (.lastore, 1) := by decide +kernel
theorem kd_L_given_7 : decode kc_L_given 7 = .ok (.goto 6, 3) := by decide +kernel
theorem kd_L_given_10 : decode kc_L_given 10 = .ok (.astore_n 2, 1) := by decide +kernel
theorem kd_L_given_11 : decode kc_L_given 11 = .ok (.iconst 1, 1) := by decide +kernel
theorem kd_L_given_12 : decode kc_L_given 12 = .ok (.ireturn, 1) := by decide +kernel
theorem kd_L_given_13 : decode kc_L_given 13 = .ok (.iconst 0, 1) := by decide +kernel
theorem kd_L_given_14 : decode kc_L_given 14 = .ok (.ireturn, 1) := by decide +kernel
theorem kd_L_look_0 : decode kc_L_look 0 = .ok (.aload_n 3, 1) := by decide +kernel
theorem kd_L_look_1 : decode kc_L_look 1 = .ok (.iconst 0, 1) := by decide +kernel
theorem kd_L_look_2 : decode kc_L_look 2 = .ok (.aload_n 0, 1) := by decide +kernel
theorem kd_L_look_3 : decode kc_L_look 3 = .ok (.iload_n 1, 1) := by decide +kernel
theorem kd_L_look_4 : decode kc_L_look 4 = .ok (.iload_n 2, 1) := by decide +kernel
theorem kd_L_look_5 : decode kc_L_look 5 = .ok (.invokevirtual 49, 3) := by decide +kernel
theorem kd_L_look_8 : decode kc_L_look 8 = .ok (.i2l, 1) := by decide +kernel
theorem kd_L_look_9 : decode kc_L_look 9 = .ok (.lastore, 1) := by decide +kernel
theorem kd_L_look_10 : decode kc_L_look 10 = .ok (.goto 11, 3) := by decide +kernel
theorem kd_L_look_13 : decode kc_L_look 13 = .ok (.astore 4, 2) := by decide +kernel
theorem kd_L_look_15 : decode kc_L_look 15 = .ok (.iconst 1, 1) := by decide +kernel
theorem kd_L_look_16 : decode kc_L_look 16 = .ok (.ireturn, 1) := by decide +kernel
theorem kd_L_look_17 : decode kc_L_look 17 = .ok (.astore 4, 2) := by decide +kernel
theorem kd_L_look_19 : decode kc_L_look 19 = .ok (.iconst 2, 1) := by decide +kernel
theorem kd_L_look_20 : decode kc_L_look 20 = .ok (.ireturn, 1) := by decide +kernel
theorem kd_L_look_21 : decode kc_L_look 21 = .ok (.iconst 0, 1) := by decide +kernel
theorem kd_L_look_22 : decode kc_L_look 22 = .ok (.ireturn, 1) := by decide +kernel
theorem kd_L_converted_0 : decode kc_L_converted 0 = .ok (.aload_n 3, 1) := by decide +kernel
theorem kd_L_converted_1 : decode kc_L_converted 1 = .ok (.iconst 0, 1) := by decide +kernel
theorem kd_L_converted_2 : decode kc_L_converted 2 = .ok (.aload_n 0, 1) := by decide +kernel
theorem kd_L_converted_3 : decode kc_L_converted 3 = .ok (.iload_n 1, 1) := by decide +kernel
theorem kd_L_converted_4 : decode kc_L_converted 4 = .ok (.iload_n 2, 1) := by decide +kernel
theorem kd_L_converted_5 : decode kc_L_converted 5 = .ok (.invokevirtual 54, 3) := by decide +kernel
theorem kd_L_converted_8 : decode kc_L_converted 8 = .ok (.lastore, 1) := by decide +kernel
theorem kd_L_converted_9 : decode kc_L_converted 9 = .ok (.goto 7, 3) := by decide +kernel
theorem kd_L_converted_12 : decode kc_L_converted 12 = .ok (.astore 4, 2) := by decide +kernel
theorem kd_L_converted_14 : decode kc_L_converted 14 = .ok (.iconst 1, 1) := by decide +kernel
theorem kd_L_converted_15 : decode kc_L_converted 15 = .ok (.ireturn, 1) := by decide +kernel
theorem kd_L_converted_16 : decode kc_L_converted 16 = .ok (.iconst 0, 1) := by decide +kernel
theorem kd_L_converted_17 : decode kc_L_converted 17 = .ok (.ireturn, 1) := by decide +kernel
theorem kd_L_law_0 : decode kc_L_law 0 = .ok (.new 8, 3) := by decide +kernel
theorem kd_L_law_3 : decode kc_L_law 3 = .ok (.dup, 1) := by decide +kernel
theorem kd_L_law_4 : decode kc_L_law 4 = .ok (.invokespecial 58, 3) := by decide +kernel
theorem kd_L_law_7 : decode kc_L_law 7 = .ok (.astore_n 1, 1) := by decide +kernel
theorem kd_L_law_8 : decode kc_L_law 8 = .ok (.new 59, 3) := by decide +kernel
theorem kd_L_law_11 : decode kc_L_law 11 = .ok (.dup, 1) := by decide +kernel
theorem kd_L_law_12 : decode kc_L_law 12 = .ok (.invokespecial 61, 3) := by decide +kernel
theorem kd_L_law_15 : decode kc_L_law 15 = .ok (.astore_n 2, 1) := by decide +kernel
theorem kd_L_law_16 : decode kc_L_law 16 = .ok (.iconst 1, 1) := by decide +kernel
theorem kd_L_law_17 : decode kc_L_law 17 = .ok (.newarray .long, 2) := by decide +kernel
theorem kd_L_law_19 : decode kc_L_law 19 = .ok (.astore_n 3, 1) := by decide +kernel
theorem kd_L_law_20 : decode kc_L_law 20 = .ok (.iconst 0, 1) := by decide +kernel
theorem kd_L_law_21 : decode kc_L_law 21 = .ok (.istore 4, 2) := by decide +kernel
theorem kd_L_law_23 : decode kc_L_law 23 = .ok (.iload 4, 2) := by decide +kernel
theorem kd_L_law_25 : decode kc_L_law 25 = .ok (.aload_n 0, 1) := by decide +kernel
theorem kd_L_law_26 : decode kc_L_law 26 = .ok (.arraylength, 1) := by decide +kernel
theorem kd_L_law_27 : decode kc_L_law 27 = .ok (.bipush 6, 2) := by decide +kernel
theorem kd_L_law_29 : decode kc_L_law 29 = .ok (.isub, 1) := by decide +kernel
theorem kd_L_law_30 : decode kc_L_law 30 = .ok (.if_icmp .gt 871, 3) := by decide +kernel
theorem kd_L_law_33 : decode kc_L_law 33 = .ok (.aload_n 0, 1) := by decide +kernel
theorem kd_L_law_34 : decode kc_L_law 34 = .ok (.iload 4, 2) := by decide +kernel
theorem kd_L_law_36 : decode kc_L_law 36 = .ok (.iaload, 1) := by decide +kernel
theorem kd_L_law_37 : decode kc_L_law 37 = .ok (.bipush 15, 2) := by decide +kernel
theorem kd_L_law_39 : decode kc_L_law 39 = .ok (.iand, 1) := by decide +kernel
theorem kd_L_law_40 : decode kc_L_law 40 = .ok (.tableswitch 855 0 11 #[64, 120, 224, 280, 380, 448, 516, 596, 664, 707, 720, 788], 64) := by decide +kernel
theorem kd_L_law_104 : decode kc_L_law 104 = .ok (.aload_n 1, 1) := by decide +kernel
theorem kd_L_law_105 : decode kc_L_law 105 = .ok (.aload_n 0, 1) := by decide +kernel
theorem kd_L_law_106 : decode kc_L_law 106 = .ok (.iload 4, 2) := by decide +kernel
theorem kd_L_law_108 : decode kc_L_law 108 = .ok (.iconst 1, 1) := by decide +kernel
theorem kd_L_law_109 : decode kc_L_law 109 = .ok (.iadd, 1) := by decide +kernel
theorem kd_L_law_110 : decode kc_L_law 110 = .ok (.iaload, 1) := by decide +kernel
theorem kd_L_law_111 : decode kc_L_law 111 = .ok (.aload_n 3, 1) := by decide +kernel
theorem kd_L_law_112 : decode kc_L_law 112 = .ok (.invokestatic 62, 3) := by decide +kernel
theorem kd_L_law_115 : decode kc_L_law 115 = .ok (.istore 5, 2) := by decide +kernel
theorem kd_L_law_117 : decode kc_L_law 117 = .ok (.aload_n 2, 1) := by decide +kernel
theorem kd_L_law_118 : decode kc_L_law 118 = .ok (.aload_n 0, 1) := by decide +kernel
theorem kd_L_law_119 : decode kc_L_law 119 = .ok (.iload 4, 2) := by decide +kernel
theorem kd_L_law_121 : decode kc_L_law 121 = .ok (.iconst 1, 1) := by decide +kernel
theorem kd_L_law_122 : decode kc_L_law 122 = .ok (.iadd, 1) := by decide +kernel
theorem kd_L_law_123 : decode kc_L_law 123 = .ok (.iaload, 1) := by decide +kernel
theorem kd_L_law_124 : decode kc_L_law 124 = .ok (.invokevirtual 67, 3) := by decide +kernel
theorem kd_L_law_127 : decode kc_L_law 127 = .ok (.istore 6, 2) := by decide +kernel
theorem kd_L_law_129 : decode kc_L_law 129 = .ok (.aload_n 2, 1) := by decide +kernel
theorem kd_L_law_130 : decode kc_L_law 130 = .ok (.invokevirtual 68, 3) := by decide +kernel
theorem kd_L_law_133 : decode kc_L_law 133 = .ok (.iload 5, 2) := by decide +kernel
theorem kd_L_law_135 : decode kc_L_law 135 = .ok (.if_icmp .eq 5, 3) := by decide +kernel
theorem kd_L_law_138 : decode kc_L_law 138 = .ok (.iconst 0, 1) := by decide +kernel
theorem kd_L_law_139 : decode kc_L_law 139 = .ok (.ireturn, 1) := by decide +kernel
theorem kd_L_law_140 : decode kc_L_law 140 = .ok (.iload 5, 2) := by decide +kernel
theorem kd_L_law_142 : decode kc_L_law 142 = .ok (.ifCond .ne 15, 3) := by decide +kernel
theorem kd_L_law_145 : decode kc_L_law 145 = .ok (.aload_n 3, 1) := by decide +kernel
theorem kd_L_law_146 : decode kc_L_law 146 = .ok (.iconst 0, 1) := by decide +kernel
theorem kd_L_law_147 : decode kc_L_law 147 = .ok (.laload, 1) := by decide +kernel
theorem kd_L_law_148 : decode kc_L_law 148 = .ok (.iload 6, 2) := by decide +kernel
theorem kd_L_law_150 : decode kc_L_law 150 = .ok (.i2l, 1) := by decide +kernel
theorem kd_L_law_151 : decode kc_L_law 151 = .ok (.lcmp, 1) := by decide +kernel
theorem kd_L_law_152 : decode kc_L_law 152 = .ok (.ifCond .eq 5, 3) := by decide +kernel
theorem kd_L_law_155 : decode kc_L_law 155 = .ok (.iconst 0, 1) := by decide +kernel
theorem kd_L_law_156 : decode kc_L_law 156 = .ok (.ireturn, 1) := by decide +kernel
theorem kd_L_law_157 : decode kc_L_law 157 = .ok (.goto 738, 3) := by decide +kernel
theorem kd_L_law_160 : decode kc_L_law 160 = .ok (.aload_n 1, 1) := by decide +kernel
theorem kd_L_law_161 : decode kc_L_law 161 = .ok (.aload_n 0, 1) := by decide +kernel
theorem kd_L_law_162 : decode kc_L_law 162 = .ok (.iload 4, 2) := by decide +kernel
theorem kd_L_law_164 : decode kc_L_law 164 = .ok (.iconst 1, 1) := by decide +kernel
theorem kd_L_law_165 : decode kc_L_law 165 = .ok (.iadd, 1) := by decide +kernel
theorem kd_L_law_166 : decode kc_L_law 166 = .ok (.iaload, 1) := by decide +kernel
theorem kd_L_law_167 : decode kc_L_law 167 = .ok (.aload_n 0, 1) := by decide +kernel
theorem kd_L_law_168 : decode kc_L_law 168 = .ok (.iload 4, 2) := by decide +kernel
theorem kd_L_law_170 : decode kc_L_law 170 = .ok (.iconst 2, 1) := by decide +kernel
theorem kd_L_law_171 : decode kc_L_law 171 = .ok (.iadd, 1) := by decide +kernel
theorem kd_L_law_172 : decode kc_L_law 172 = .ok (.iaload, 1) := by decide +kernel
theorem kd_L_law_173 : decode kc_L_law 173 = .ok (.aload_n 0, 1) := by decide +kernel
theorem kd_L_law_174 : decode kc_L_law 174 = .ok (.iload 4, 2) := by decide +kernel
theorem kd_L_law_176 : decode kc_L_law 176 = .ok (.iconst 3, 1) := by decide +kernel
theorem kd_L_law_177 : decode kc_L_law 177 = .ok (.iadd, 1) := by decide +kernel
theorem kd_L_law_178 : decode kc_L_law 178 = .ok (.iaload, 1) := by decide +kernel
theorem kd_L_law_179 : decode kc_L_law 179 = .ok (.aload_n 0, 1) := by decide +kernel
theorem kd_L_law_180 : decode kc_L_law 180 = .ok (.iload 4, 2) := by decide +kernel
theorem kd_L_law_182 : decode kc_L_law 182 = .ok (.iconst 4, 1) := by decide +kernel
theorem kd_L_law_183 : decode kc_L_law 183 = .ok (.iadd, 1) := by decide +kernel
theorem kd_L_law_184 : decode kc_L_law 184 = .ok (.iaload, 1) := by decide +kernel
theorem kd_L_law_185 : decode kc_L_law 185 = .ok (.aload_n 0, 1) := by decide +kernel
theorem kd_L_law_186 : decode kc_L_law 186 = .ok (.iload 4, 2) := by decide +kernel
theorem kd_L_law_188 : decode kc_L_law 188 = .ok (.iconst 5, 1) := by decide +kernel
theorem kd_L_law_189 : decode kc_L_law 189 = .ok (.iadd, 1) := by decide +kernel
theorem kd_L_law_190 : decode kc_L_law 190 = .ok (.iaload, 1) := by decide +kernel
theorem kd_L_law_191 : decode kc_L_law 191 = .ok (.aload_n 3, 1) := by decide +kernel
theorem kd_L_law_192 : decode kc_L_law 192 = .ok (.invokestatic 72, 3) := by decide +kernel
theorem kd_L_law_195 : decode kc_L_law 195 = .ok (.istore 5, 2) := by decide +kernel
theorem kd_L_law_197 : decode kc_L_law 197 = .ok (.aload_n 2, 1) := by decide +kernel
theorem kd_L_law_198 : decode kc_L_law 198 = .ok (.aload_n 0, 1) := by decide +kernel
theorem kd_L_law_199 : decode kc_L_law 199 = .ok (.iload 4, 2) := by decide +kernel
theorem kd_L_law_201 : decode kc_L_law 201 = .ok (.iconst 1, 1) := by decide +kernel
theorem kd_L_law_202 : decode kc_L_law 202 = .ok (.iadd, 1) := by decide +kernel
theorem kd_L_law_203 : decode kc_L_law 203 = .ok (.iaload, 1) := by decide +kernel
theorem kd_L_law_204 : decode kc_L_law 204 = .ok (.aload_n 0, 1) := by decide +kernel
theorem kd_L_law_205 : decode kc_L_law 205 = .ok (.iload 4, 2) := by decide +kernel
theorem kd_L_law_207 : decode kc_L_law 207 = .ok (.iconst 2, 1) := by decide +kernel
theorem kd_L_law_208 : decode kc_L_law 208 = .ok (.iadd, 1) := by decide +kernel
theorem kd_L_law_209 : decode kc_L_law 209 = .ok (.iaload, 1) := by decide +kernel
theorem kd_L_law_210 : decode kc_L_law 210 = .ok (.aload_n 0, 1) := by decide +kernel
theorem kd_L_law_211 : decode kc_L_law 211 = .ok (.iload 4, 2) := by decide +kernel
theorem kd_L_law_213 : decode kc_L_law 213 = .ok (.iconst 3, 1) := by decide +kernel
theorem kd_L_law_214 : decode kc_L_law 214 = .ok (.iadd, 1) := by decide +kernel
theorem kd_L_law_215 : decode kc_L_law 215 = .ok (.iaload, 1) := by decide +kernel
theorem kd_L_law_216 : decode kc_L_law 216 = .ok (.aload_n 0, 1) := by decide +kernel
theorem kd_L_law_217 : decode kc_L_law 217 = .ok (.iload 4, 2) := by decide +kernel
theorem kd_L_law_219 : decode kc_L_law 219 = .ok (.iconst 4, 1) := by decide +kernel
theorem kd_L_law_220 : decode kc_L_law 220 = .ok (.iadd, 1) := by decide +kernel
theorem kd_L_law_221 : decode kc_L_law 221 = .ok (.iaload, 1) := by decide +kernel
theorem kd_L_law_222 : decode kc_L_law 222 = .ok (.aload_n 0, 1) := by decide +kernel
theorem kd_L_law_223 : decode kc_L_law 223 = .ok (.iload 4, 2) := by decide +kernel
theorem kd_L_law_225 : decode kc_L_law 225 = .ok (.iconst 5, 1) := by decide +kernel
theorem kd_L_law_226 : decode kc_L_law 226 = .ok (.iadd, 1) := by decide +kernel
theorem kd_L_law_227 : decode kc_L_law 227 = .ok (.iaload, 1) := by decide +kernel
theorem kd_L_law_228 : decode kc_L_law 228 = .ok (.invokevirtual 75, 3) := by decide +kernel
theorem kd_L_law_231 : decode kc_L_law 231 = .ok (.istore 6, 2) := by decide +kernel
theorem kd_L_law_233 : decode kc_L_law 233 = .ok (.aload_n 2, 1) := by decide +kernel
theorem kd_L_law_234 : decode kc_L_law 234 = .ok (.invokevirtual 68, 3) := by decide +kernel
theorem kd_L_law_237 : decode kc_L_law 237 = .ok (.iload 5, 2) := by decide +kernel
theorem kd_L_law_239 : decode kc_L_law 239 = .ok (.if_icmp .eq 5, 3) := by decide +kernel
theorem kd_L_law_242 : decode kc_L_law 242 = .ok (.iconst 0, 1) := by decide +kernel
theorem kd_L_law_243 : decode kc_L_law 243 = .ok (.ireturn, 1) := by decide +kernel
theorem kd_L_law_244 : decode kc_L_law 244 = .ok (.iload 5, 2) := by decide +kernel
theorem kd_L_law_246 : decode kc_L_law 246 = .ok (.ifCond .ne 15, 3) := by decide +kernel
theorem kd_L_law_249 : decode kc_L_law 249 = .ok (.aload_n 3, 1) := by decide +kernel
theorem kd_L_law_250 : decode kc_L_law 250 = .ok (.iconst 0, 1) := by decide +kernel
theorem kd_L_law_251 : decode kc_L_law 251 = .ok (.laload, 1) := by decide +kernel
theorem kd_L_law_252 : decode kc_L_law 252 = .ok (.iload 6, 2) := by decide +kernel
theorem kd_L_law_254 : decode kc_L_law 254 = .ok (.i2l, 1) := by decide +kernel
theorem kd_L_law_255 : decode kc_L_law 255 = .ok (.lcmp, 1) := by decide +kernel
theorem kd_L_law_256 : decode kc_L_law 256 = .ok (.ifCond .eq 5, 3) := by decide +kernel
theorem kd_L_law_259 : decode kc_L_law 259 = .ok (.iconst 0, 1) := by decide +kernel
theorem kd_L_law_260 : decode kc_L_law 260 = .ok (.ireturn, 1) := by decide +kernel
theorem kd_L_law_261 : decode kc_L_law 261 = .ok (.goto 634, 3) := by decide +kernel
theorem kd_L_law_264 : decode kc_L_law 264 = .ok (.aload_n 1, 1) := by decide +kernel
theorem kd_L_law_265 : decode kc_L_law 265 = .ok (.aload_n 0, 1) := by decide +kernel
theorem kd_L_law_266 : decode kc_L_law 266 = .ok (.iload 4, 2) := by decide +kernel
theorem kd_L_law_268 : decode kc_L_law 268 = .ok (.iconst 1, 1) := by decide +kernel
theorem kd_L_law_269 : decode kc_L_law 269 = .ok (.iadd, 1) := by decide +kernel
theorem kd_L_law_270 : decode kc_L_law 270 = .ok (.iaload, 1) := by decide +kernel
theorem kd_L_law_271 : decode kc_L_law 271 = .ok (.aload_n 3, 1) := by decide +kernel
theorem kd_L_law_272 : decode kc_L_law 272 = .ok (.invokestatic 76, 3) := by decide +kernel
theorem kd_L_law_275 : decode kc_L_law 275 = .ok (.istore 5, 2) := by decide +kernel
theorem kd_L_law_277 : decode kc_L_law 277 = .ok (.aload_n 2, 1) := by decide +kernel
theorem kd_L_law_278 : decode kc_L_law 278 = .ok (.aload_n 0, 1) := by decide +kernel
theorem kd_L_law_279 : decode kc_L_law 279 = .ok (.iload 4, 2) := by decide +kernel
theorem kd_L_law_281 : decode kc_L_law 281 = .ok (.iconst 1, 1) := by decide +kernel
theorem kd_L_law_282 : decode kc_L_law 282 = .ok (.iadd, 1) := by decide +kernel
theorem kd_L_law_283 : decode kc_L_law 283 = .ok (.iaload, 1) := by decide +kernel
theorem kd_L_law_284 : decode kc_L_law 284 = .ok (.invokevirtual 78, 3) := by decide +kernel
theorem kd_L_law_287 : decode kc_L_law 287 = .ok (.istore 6, 2) := by decide +kernel
theorem kd_L_law_289 : decode kc_L_law 289 = .ok (.aload_n 2, 1) := by decide +kernel
theorem kd_L_law_290 : decode kc_L_law 290 = .ok (.invokevirtual 68, 3) := by decide +kernel
theorem kd_L_law_293 : decode kc_L_law 293 = .ok (.iload 5, 2) := by decide +kernel
theorem kd_L_law_295 : decode kc_L_law 295 = .ok (.if_icmp .eq 5, 3) := by decide +kernel
theorem kd_L_law_298 : decode kc_L_law 298 = .ok (.iconst 0, 1) := by decide +kernel
theorem kd_L_law_299 : decode kc_L_law 299 = .ok (.ireturn, 1) := by decide +kernel
theorem kd_L_law_300 : decode kc_L_law 300 = .ok (.iload 5, 2) := by decide +kernel
theorem kd_L_law_302 : decode kc_L_law 302 = .ok (.ifCond .ne 15, 3) := by decide +kernel
theorem kd_L_law_305 : decode kc_L_law 305 = .ok (.aload_n 3, 1) := by decide +kernel
theorem kd_L_law_306 : decode kc_L_law 306 = .ok (.iconst 0, 1) := by decide +kernel
theorem kd_L_law_307 : decode kc_L_law 307 = .ok (.laload, 1) := by decide +kernel
theorem kd_L_law_308 : decode kc_L_law 308 = .ok (.iload 6, 2) := by decide +kernel
theorem kd_L_law_310 : decode kc_L_law 310 = .ok (.i2l, 1) := by decide +kernel
theorem kd_L_law_311 : decode kc_L_law 311 = .ok (.lcmp, 1) := by decide +kernel
theorem kd_L_law_312 : decode kc_L_law 312 = .ok (.ifCond .eq 5, 3) := by decide +kernel
theorem kd_L_law_315 : decode kc_L_law 315 = .ok (.iconst 0, 1) := by decide +kernel
theorem kd_L_law_316 : decode kc_L_law 316 = .ok (.ireturn, 1) := by decide +kernel
theorem kd_L_law_317 : decode kc_L_law 317 = .ok (.goto 578, 3) := by decide +kernel
theorem kd_L_law_320 : decode kc_L_law 320 = .ok (.aload_n 1, 1) := by decide +kernel
theorem kd_L_law_321 : decode kc_L_law 321 = .ok (.aload_n 0, 1) := by decide +kernel
theorem kd_L_law_322 : decode kc_L_law 322 = .ok (.iload 4, 2) := by decide +kernel
theorem kd_L_law_324 : decode kc_L_law 324 = .ok (.iconst 1, 1) := by decide +kernel
theorem kd_L_law_325 : decode kc_L_law 325 = .ok (.iadd, 1) := by decide +kernel
theorem kd_L_law_326 : decode kc_L_law 326 = .ok (.iaload, 1) := by decide +kernel
theorem kd_L_law_327 : decode kc_L_law 327 = .ok (.aload_n 0, 1) := by decide +kernel
theorem kd_L_law_328 : decode kc_L_law 328 = .ok (.iload 4, 2) := by decide +kernel
theorem kd_L_law_330 : decode kc_L_law 330 = .ok (.iconst 2, 1) := by decide +kernel
theorem kd_L_law_331 : decode kc_L_law 331 = .ok (.iadd, 1) := by decide +kernel
theorem kd_L_law_332 : decode kc_L_law 332 = .ok (.iaload, 1) := by decide +kernel
theorem kd_L_law_333 : decode kc_L_law 333 = .ok (.i2l, 1) := by decide +kernel
theorem kd_L_law_334 : decode kc_L_law 334 = .ok (.bipush 32, 2) := by decide +kernel
theorem kd_L_law_336 : decode kc_L_law 336 = .ok (.lshl, 1) := by decide +kernel
theorem kd_L_law_337 : decode kc_L_law 337 = .ok (.aload_n 0, 1) := by decide +kernel
theorem kd_L_law_338 : decode kc_L_law 338 = .ok (.iload 4, 2) := by decide +kernel
theorem kd_L_law_340 : decode kc_L_law 340 = .ok (.iconst 3, 1) := by decide +kernel
theorem kd_L_law_341 : decode kc_L_law 341 = .ok (.iadd, 1) := by decide +kernel
theorem kd_L_law_342 : decode kc_L_law 342 = .ok (.iaload, 1) := by decide +kernel
theorem kd_L_law_343 : decode kc_L_law 343 = .ok (.i2l, 1) := by decide +kernel
theorem kd_L_law_344 : decode kc_L_law 344 = .ok (.ldc2_w 79, 3) := by decide +kernel
theorem kd_L_law_347 : decode kc_L_law 347 = .ok (.land, 1) := by decide +kernel
theorem kd_L_law_348 : decode kc_L_law 348 = .ok (.lor, 1) := by decide +kernel
theorem kd_L_law_349 : decode kc_L_law 349 = .ok (.aload_n 3, 1) := by decide +kernel
theorem kd_L_law_350 : decode kc_L_law 350 = .ok (.invokestatic 81, 3) := by decide +kernel
theorem kd_L_law_353 : decode kc_L_law 353 = .ok (.istore 5, 2) := by decide +kernel
theorem kd_L_law_355 : decode kc_L_law 355 = .ok (.aload_n 2, 1) := by decide +kernel
theorem kd_L_law_356 : decode kc_L_law 356 = .ok (.aload_n 0, 1) := by decide +kernel
theorem kd_L_law_357 : decode kc_L_law 357 = .ok (.iload 4, 2) := by decide +kernel
theorem kd_L_law_359 : decode kc_L_law 359 = .ok (.iconst 1, 1) := by decide +kernel
theorem kd_L_law_360 : decode kc_L_law 360 = .ok (.iadd, 1) := by decide +kernel
theorem kd_L_law_361 : decode kc_L_law 361 = .ok (.iaload, 1) := by decide +kernel
theorem kd_L_law_362 : decode kc_L_law 362 = .ok (.aload_n 0, 1) := by decide +kernel
theorem kd_L_law_363 : decode kc_L_law 363 = .ok (.iload 4, 2) := by decide +kernel
theorem kd_L_law_365 : decode kc_L_law 365 = .ok (.iconst 2, 1) := by decide +kernel
theorem kd_L_law_366 : decode kc_L_law 366 = .ok (.iadd, 1) := by decide +kernel
theorem kd_L_law_367 : decode kc_L_law 367 = .ok (.iaload, 1) := by decide +kernel
theorem kd_L_law_368 : decode kc_L_law 368 = .ok (.i2l, 1) := by decide +kernel
theorem kd_L_law_369 : decode kc_L_law 369 = .ok (.bipush 32, 2) := by decide +kernel
theorem kd_L_law_371 : decode kc_L_law 371 = .ok (.lshl, 1) := by decide +kernel
theorem kd_L_law_372 : decode kc_L_law 372 = .ok (.aload_n 0, 1) := by decide +kernel
theorem kd_L_law_373 : decode kc_L_law 373 = .ok (.iload 4, 2) := by decide +kernel
theorem kd_L_law_375 : decode kc_L_law 375 = .ok (.iconst 3, 1) := by decide +kernel
theorem kd_L_law_376 : decode kc_L_law 376 = .ok (.iadd, 1) := by decide +kernel
theorem kd_L_law_377 : decode kc_L_law 377 = .ok (.iaload, 1) := by decide +kernel
theorem kd_L_law_378 : decode kc_L_law 378 = .ok (.i2l, 1) := by decide +kernel
theorem kd_L_law_379 : decode kc_L_law 379 = .ok (.ldc2_w 79, 3) := by decide +kernel
theorem kd_L_law_382 : decode kc_L_law 382 = .ok (.land, 1) := by decide +kernel
theorem kd_L_law_383 : decode kc_L_law 383 = .ok (.lor, 1) := by decide +kernel
theorem kd_L_law_384 : decode kc_L_law 384 = .ok (.invokevirtual 84, 3) := by decide +kernel
theorem kd_L_law_387 : decode kc_L_law 387 = .ok (.istore 6, 2) := by decide +kernel
theorem kd_L_law_389 : decode kc_L_law 389 = .ok (.aload_n 2, 1) := by decide +kernel
theorem kd_L_law_390 : decode kc_L_law 390 = .ok (.invokevirtual 68, 3) := by decide +kernel
theorem kd_L_law_393 : decode kc_L_law 393 = .ok (.iload 5, 2) := by decide +kernel
theorem kd_L_law_395 : decode kc_L_law 395 = .ok (.if_icmp .eq 5, 3) := by decide +kernel
theorem kd_L_law_398 : decode kc_L_law 398 = .ok (.iconst 0, 1) := by decide +kernel
theorem kd_L_law_399 : decode kc_L_law 399 = .ok (.ireturn, 1) := by decide +kernel
theorem kd_L_law_400 : decode kc_L_law 400 = .ok (.iload 5, 2) := by decide +kernel
theorem kd_L_law_402 : decode kc_L_law 402 = .ok (.ifCond .ne 15, 3) := by decide +kernel
theorem kd_L_law_405 : decode kc_L_law 405 = .ok (.aload_n 3, 1) := by decide +kernel
theorem kd_L_law_406 : decode kc_L_law 406 = .ok (.iconst 0, 1) := by decide +kernel
theorem kd_L_law_407 : decode kc_L_law 407 = .ok (.laload, 1) := by decide +kernel
theorem kd_L_law_408 : decode kc_L_law 408 = .ok (.iload 6, 2) := by decide +kernel
theorem kd_L_law_410 : decode kc_L_law 410 = .ok (.i2l, 1) := by decide +kernel
theorem kd_L_law_411 : decode kc_L_law 411 = .ok (.lcmp, 1) := by decide +kernel
theorem kd_L_law_412 : decode kc_L_law 412 = .ok (.ifCond .eq 5, 3) := by decide +kernel
theorem kd_L_law_415 : decode kc_L_law 415 = .ok (.iconst 0, 1) := by decide +kernel
theorem kd_L_law_416 : decode kc_L_law 416 = .ok (.ireturn, 1) := by decide +kernel
theorem kd_L_law_417 : decode kc_L_law 417 = .ok (.goto 478, 3) := by decide +kernel
theorem kd_L_law_420 : decode kc_L_law 420 = .ok (.aload_n 1, 1) := by decide +kernel
theorem kd_L_law_421 : decode kc_L_law 421 = .ok (.aload_n 0, 1) := by decide +kernel
theorem kd_L_law_422 : decode kc_L_law 422 = .ok (.iload 4, 2) := by decide +kernel
theorem kd_L_law_424 : decode kc_L_law 424 = .ok (.iconst 1, 1) := by decide +kernel
theorem kd_L_law_425 : decode kc_L_law 425 = .ok (.iadd, 1) := by decide +kernel
theorem kd_L_law_426 : decode kc_L_law 426 = .ok (.iaload, 1) := by decide +kernel
theorem kd_L_law_427 : decode kc_L_law 427 = .ok (.aload_n 0, 1) := by decide +kernel
theorem kd_L_law_428 : decode kc_L_law 428 = .ok (.iload 4, 2) := by decide +kernel
theorem kd_L_law_430 : decode kc_L_law 430 = .ok (.iconst 2, 1) := by decide +kernel
theorem kd_L_law_431 : decode kc_L_law 431 = .ok (.iadd, 1) := by decide +kernel
theorem kd_L_law_432 : decode kc_L_law 432 = .ok (.iaload, 1) := by decide +kernel
theorem kd_L_law_433 : decode kc_L_law 433 = .ok (.aload_n 3, 1) := by decide +kernel
theorem kd_L_law_434 : decode kc_L_law 434 = .ok (.invokestatic 85, 3) := by decide +kernel
theorem kd_L_law_437 : decode kc_L_law 437 = .ok (.istore 5, 2) := by decide +kernel
theorem kd_L_law_439 : decode kc_L_law 439 = .ok (.aload_n 2, 1) := by decide +kernel
theorem kd_L_law_440 : decode kc_L_law 440 = .ok (.aload_n 0, 1) := by decide +kernel
theorem kd_L_law_441 : decode kc_L_law 441 = .ok (.iload 4, 2) := by decide +kernel
theorem kd_L_law_443 : decode kc_L_law 443 = .ok (.iconst 1, 1) := by decide +kernel
theorem kd_L_law_444 : decode kc_L_law 444 = .ok (.iadd, 1) := by decide +kernel
theorem kd_L_law_445 : decode kc_L_law 445 = .ok (.iaload, 1) := by decide +kernel
theorem kd_L_law_446 : decode kc_L_law 446 = .ok (.aload_n 0, 1) := by decide +kernel
theorem kd_L_law_447 : decode kc_L_law 447 = .ok (.iload 4, 2) := by decide +kernel
theorem kd_L_law_449 : decode kc_L_law 449 = .ok (.iconst 2, 1) := by decide +kernel
theorem kd_L_law_450 : decode kc_L_law 450 = .ok (.iadd, 1) := by decide +kernel
theorem kd_L_law_451 : decode kc_L_law 451 = .ok (.iaload, 1) := by decide +kernel
theorem kd_L_law_452 : decode kc_L_law 452 = .ok (.invokevirtual 88, 3) := by decide +kernel
theorem kd_L_law_455 : decode kc_L_law 455 = .ok (.istore 6, 2) := by decide +kernel
theorem kd_L_law_457 : decode kc_L_law 457 = .ok (.aload_n 2, 1) := by decide +kernel
theorem kd_L_law_458 : decode kc_L_law 458 = .ok (.invokevirtual 68, 3) := by decide +kernel
theorem kd_L_law_461 : decode kc_L_law 461 = .ok (.iload 5, 2) := by decide +kernel
theorem kd_L_law_463 : decode kc_L_law 463 = .ok (.if_icmp .eq 5, 3) := by decide +kernel
theorem kd_L_law_466 : decode kc_L_law 466 = .ok (.iconst 0, 1) := by decide +kernel
theorem kd_L_law_467 : decode kc_L_law 467 = .ok (.ireturn, 1) := by decide +kernel
theorem kd_L_law_468 : decode kc_L_law 468 = .ok (.iload 5, 2) := by decide +kernel
theorem kd_L_law_470 : decode kc_L_law 470 = .ok (.ifCond .ne 15, 3) := by decide +kernel
theorem kd_L_law_473 : decode kc_L_law 473 = .ok (.aload_n 3, 1) := by decide +kernel
theorem kd_L_law_474 : decode kc_L_law 474 = .ok (.iconst 0, 1) := by decide +kernel
theorem kd_L_law_475 : decode kc_L_law 475 = .ok (.laload, 1) := by decide +kernel
theorem kd_L_law_476 : decode kc_L_law 476 = .ok (.iload 6, 2) := by decide +kernel
theorem kd_L_law_478 : decode kc_L_law 478 = .ok (.i2l, 1) := by decide +kernel
theorem kd_L_law_479 : decode kc_L_law 479 = .ok (.lcmp, 1) := by decide +kernel
theorem kd_L_law_480 : decode kc_L_law 480 = .ok (.ifCond .eq 5, 3) := by decide +kernel
theorem kd_L_law_483 : decode kc_L_law 483 = .ok (.iconst 0, 1) := by decide +kernel
theorem kd_L_law_484 : decode kc_L_law 484 = .ok (.ireturn, 1) := by decide +kernel
theorem kd_L_law_485 : decode kc_L_law 485 = .ok (.goto 410, 3) := by decide +kernel
theorem kd_L_law_488 : decode kc_L_law 488 = .ok (.aload_n 1, 1) := by decide +kernel
theorem kd_L_law_489 : decode kc_L_law 489 = .ok (.aload_n 0, 1) := by decide +kernel
theorem kd_L_law_490 : decode kc_L_law 490 = .ok (.iload 4, 2) := by decide +kernel
theorem kd_L_law_492 : decode kc_L_law 492 = .ok (.iconst 1, 1) := by decide +kernel
theorem kd_L_law_493 : decode kc_L_law 493 = .ok (.iadd, 1) := by decide +kernel
theorem kd_L_law_494 : decode kc_L_law 494 = .ok (.iaload, 1) := by decide +kernel
theorem kd_L_law_495 : decode kc_L_law 495 = .ok (.aload_n 0, 1) := by decide +kernel
theorem kd_L_law_496 : decode kc_L_law 496 = .ok (.iload 4, 2) := by decide +kernel
theorem kd_L_law_498 : decode kc_L_law 498 = .ok (.iconst 2, 1) := by decide +kernel
theorem kd_L_law_499 : decode kc_L_law 499 = .ok (.iadd, 1) := by decide +kernel
theorem kd_L_law_500 : decode kc_L_law 500 = .ok (.iaload, 1) := by decide +kernel
theorem kd_L_law_501 : decode kc_L_law 501 = .ok (.aload_n 3, 1) := by decide +kernel
theorem kd_L_law_502 : decode kc_L_law 502 = .ok (.invokestatic 89, 3) := by decide +kernel
theorem kd_L_law_505 : decode kc_L_law 505 = .ok (.istore 5, 2) := by decide +kernel
theorem kd_L_law_507 : decode kc_L_law 507 = .ok (.aload_n 2, 1) := by decide +kernel
theorem kd_L_law_508 : decode kc_L_law 508 = .ok (.aload_n 0, 1) := by decide +kernel
theorem kd_L_law_509 : decode kc_L_law 509 = .ok (.iload 4, 2) := by decide +kernel
theorem kd_L_law_511 : decode kc_L_law 511 = .ok (.iconst 1, 1) := by decide +kernel
theorem kd_L_law_512 : decode kc_L_law 512 = .ok (.iadd, 1) := by decide +kernel
theorem kd_L_law_513 : decode kc_L_law 513 = .ok (.iaload, 1) := by decide +kernel
theorem kd_L_law_514 : decode kc_L_law 514 = .ok (.aload_n 0, 1) := by decide +kernel
theorem kd_L_law_515 : decode kc_L_law 515 = .ok (.iload 4, 2) := by decide +kernel
theorem kd_L_law_517 : decode kc_L_law 517 = .ok (.iconst 2, 1) := by decide +kernel
theorem kd_L_law_518 : decode kc_L_law 518 = .ok (.iadd, 1) := by decide +kernel
theorem kd_L_law_519 : decode kc_L_law 519 = .ok (.iaload, 1) := by decide +kernel
theorem kd_L_law_520 : decode kc_L_law 520 = .ok (.invokevirtual 91, 3) := by decide +kernel
theorem kd_L_law_523 : decode kc_L_law 523 = .ok (.istore 6, 2) := by decide +kernel
theorem kd_L_law_525 : decode kc_L_law 525 = .ok (.aload_n 2, 1) := by decide +kernel
theorem kd_L_law_526 : decode kc_L_law 526 = .ok (.invokevirtual 68, 3) := by decide +kernel
theorem kd_L_law_529 : decode kc_L_law 529 = .ok (.iload 5, 2) := by decide +kernel
theorem kd_L_law_531 : decode kc_L_law 531 = .ok (.if_icmp .eq 5, 3) := by decide +kernel
theorem kd_L_law_534 : decode kc_L_law 534 = .ok (.iconst 0, 1) := by decide +kernel
theorem kd_L_law_535 : decode kc_L_law 535 = .ok (.ireturn, 1) := by decide +kernel
theorem kd_L_law_536 : decode kc_L_law 536 = .ok (.iload 5, 2) := by decide +kernel
theorem kd_L_law_538 : decode kc_L_law 538 = .ok (.ifCond .ne 15, 3) := by decide +kernel
theorem kd_L_law_541 : decode kc_L_law 541 = .ok (.aload_n 3, 1) := by decide +kernel
theorem kd_L_law_542 : decode kc_L_law 542 = .ok (.iconst 0, 1) := by decide +kernel
theorem kd_L_law_543 : decode kc_L_law 543 = .ok (.laload, 1) := by decide +kernel
theorem kd_L_law_544 : decode kc_L_law 544 = .ok (.iload 6, 2) := by decide +kernel
theorem kd_L_law_546 : decode kc_L_law 546 = .ok (.i2l, 1) := by decide +kernel
theorem kd_L_law_547 : decode kc_L_law 547 = .ok (.lcmp, 1) := by decide +kernel
theorem kd_L_law_548 : decode kc_L_law 548 = .ok (.ifCond .eq 5, 3) := by decide +kernel
theorem kd_L_law_551 : decode kc_L_law 551 = .ok (.iconst 0, 1) := by decide +kernel
theorem kd_L_law_552 : decode kc_L_law 552 = .ok (.ireturn, 1) := by decide +kernel
theorem kd_L_law_553 : decode kc_L_law 553 = .ok (.goto 342, 3) := by decide +kernel
theorem kd_L_law_556 : decode kc_L_law 556 = .ok (.aload_n 1, 1) := by decide +kernel
theorem kd_L_law_557 : decode kc_L_law 557 = .ok (.aload_n 0, 1) := by decide +kernel
theorem kd_L_law_558 : decode kc_L_law 558 = .ok (.iload 4, 2) := by decide +kernel
theorem kd_L_law_560 : decode kc_L_law 560 = .ok (.iconst 1, 1) := by decide +kernel
theorem kd_L_law_561 : decode kc_L_law 561 = .ok (.iadd, 1) := by decide +kernel
theorem kd_L_law_562 : decode kc_L_law 562 = .ok (.iaload, 1) := by decide +kernel
theorem kd_L_law_563 : decode kc_L_law 563 = .ok (.aload_n 0, 1) := by decide +kernel
theorem kd_L_law_564 : decode kc_L_law 564 = .ok (.iload 4, 2) := by decide +kernel
theorem kd_L_law_566 : decode kc_L_law 566 = .ok (.iconst 2, 1) := by decide +kernel
theorem kd_L_law_567 : decode kc_L_law 567 = .ok (.iadd, 1) := by decide +kernel
theorem kd_L_law_568 : decode kc_L_law 568 = .ok (.iaload, 1) := by decide +kernel
theorem kd_L_law_569 : decode kc_L_law 569 = .ok (.aload_n 0, 1) := by decide +kernel
theorem kd_L_law_570 : decode kc_L_law 570 = .ok (.iload 4, 2) := by decide +kernel
theorem kd_L_law_572 : decode kc_L_law 572 = .ok (.iconst 3, 1) := by decide +kernel
theorem kd_L_law_573 : decode kc_L_law 573 = .ok (.iadd, 1) := by decide +kernel
theorem kd_L_law_574 : decode kc_L_law 574 = .ok (.iaload, 1) := by decide +kernel
theorem kd_L_law_575 : decode kc_L_law 575 = .ok (.aload_n 3, 1) := by decide +kernel
theorem kd_L_law_576 : decode kc_L_law 576 = .ok (.invokestatic 92, 3) := by decide +kernel
theorem kd_L_law_579 : decode kc_L_law 579 = .ok (.istore 5, 2) := by decide +kernel
theorem kd_L_law_581 : decode kc_L_law 581 = .ok (.aload_n 2, 1) := by decide +kernel
theorem kd_L_law_582 : decode kc_L_law 582 = .ok (.aload_n 0, 1) := by decide +kernel
theorem kd_L_law_583 : decode kc_L_law 583 = .ok (.iload 4, 2) := by decide +kernel
theorem kd_L_law_585 : decode kc_L_law 585 = .ok (.iconst 1, 1) := by decide +kernel
theorem kd_L_law_586 : decode kc_L_law 586 = .ok (.iadd, 1) := by decide +kernel
theorem kd_L_law_587 : decode kc_L_law 587 = .ok (.iaload, 1) := by decide +kernel
theorem kd_L_law_588 : decode kc_L_law 588 = .ok (.aload_n 0, 1) := by decide +kernel
theorem kd_L_law_589 : decode kc_L_law 589 = .ok (.iload 4, 2) := by decide +kernel
theorem kd_L_law_591 : decode kc_L_law 591 = .ok (.iconst 2, 1) := by decide +kernel
theorem kd_L_law_592 : decode kc_L_law 592 = .ok (.iadd, 1) := by decide +kernel
theorem kd_L_law_593 : decode kc_L_law 593 = .ok (.iaload, 1) := by decide +kernel
theorem kd_L_law_594 : decode kc_L_law 594 = .ok (.aload_n 0, 1) := by decide +kernel
theorem kd_L_law_595 : decode kc_L_law 595 = .ok (.iload 4, 2) := by decide +kernel
theorem kd_L_law_597 : decode kc_L_law 597 = .ok (.iconst 3, 1) := by decide +kernel
theorem kd_L_law_598 : decode kc_L_law 598 = .ok (.iadd, 1) := by decide +kernel
theorem kd_L_law_599 : decode kc_L_law 599 = .ok (.iaload, 1) := by decide +kernel
theorem kd_L_law_600 : decode kc_L_law 600 = .ok (.invokevirtual 95, 3) := by decide +kernel
theorem kd_L_law_603 : decode kc_L_law 603 = .ok (.istore 6, 2) := by decide +kernel
theorem kd_L_law_605 : decode kc_L_law 605 = .ok (.aload_n 2, 1) := by decide +kernel
theorem kd_L_law_606 : decode kc_L_law 606 = .ok (.invokevirtual 68, 3) := by decide +kernel
theorem kd_L_law_609 : decode kc_L_law 609 = .ok (.iload 5, 2) := by decide +kernel
theorem kd_L_law_611 : decode kc_L_law 611 = .ok (.if_icmp .eq 5, 3) := by decide +kernel
theorem kd_L_law_614 : decode kc_L_law 614 = .ok (.iconst 0, 1) := by decide +kernel
theorem kd_L_law_615 : decode kc_L_law 615 = .ok (.ireturn, 1) := by decide +kernel
theorem kd_L_law_616 : decode kc_L_law 616 = .ok (.iload 5, 2) := by decide +kernel
theorem kd_L_law_618 : decode kc_L_law 618 = .ok (.ifCond .ne 15, 3) := by decide +kernel
theorem kd_L_law_621 : decode kc_L_law 621 = .ok (.aload_n 3, 1) := by decide +kernel
theorem kd_L_law_622 : decode kc_L_law 622 = .ok (.iconst 0, 1) := by decide +kernel
theorem kd_L_law_623 : decode kc_L_law 623 = .ok (.laload, 1) := by decide +kernel
theorem kd_L_law_624 : decode kc_L_law 624 = .ok (.iload 6, 2) := by decide +kernel
theorem kd_L_law_626 : decode kc_L_law 626 = .ok (.i2l, 1) := by decide +kernel
theorem kd_L_law_627 : decode kc_L_law 627 = .ok (.lcmp, 1) := by decide +kernel
theorem kd_L_law_628 : decode kc_L_law 628 = .ok (.ifCond .eq 5, 3) := by decide +kernel
theorem kd_L_law_631 : decode kc_L_law 631 = .ok (.iconst 0, 1) := by decide +kernel
theorem kd_L_law_632 : decode kc_L_law 632 = .ok (.ireturn, 1) := by decide +kernel
theorem kd_L_law_633 : decode kc_L_law 633 = .ok (.goto 262, 3) := by decide +kernel
theorem kd_L_law_636 : decode kc_L_law 636 = .ok (.aload_n 1, 1) := by decide +kernel
theorem kd_L_law_637 : decode kc_L_law 637 = .ok (.aload_n 0, 1) := by decide +kernel
theorem kd_L_law_638 : decode kc_L_law 638 = .ok (.iload 4, 2) := by decide +kernel
theorem kd_L_law_640 : decode kc_L_law 640 = .ok (.iconst 1, 1) := by decide +kernel
theorem kd_L_law_641 : decode kc_L_law 641 = .ok (.iadd, 1) := by decide +kernel
theorem kd_L_law_642 : decode kc_L_law 642 = .ok (.iaload, 1) := by decide +kernel
theorem kd_L_law_643 : decode kc_L_law 643 = .ok (.i2l, 1) := by decide +kernel
theorem kd_L_law_644 : decode kc_L_law 644 = .ok (.bipush 32, 2) := by decide +kernel
theorem kd_L_law_646 : decode kc_L_law 646 = .ok (.lshl, 1) := by decide +kernel
theorem kd_L_law_647 : decode kc_L_law 647 = .ok (.aload_n 0, 1) := by decide +kernel
theorem kd_L_law_648 : decode kc_L_law 648 = .ok (.iload 4, 2) := by decide +kernel
theorem kd_L_law_650 : decode kc_L_law 650 = .ok (.iconst 2, 1) := by decide +kernel
theorem kd_L_law_651 : decode kc_L_law 651 = .ok (.iadd, 1) := by decide +kernel
theorem kd_L_law_652 : decode kc_L_law 652 = .ok (.iaload, 1) := by decide +kernel
theorem kd_L_law_653 : decode kc_L_law 653 = .ok (.i2l, 1) := by decide +kernel
theorem kd_L_law_654 : decode kc_L_law 654 = .ok (.ldc2_w 79, 3) := by decide +kernel
theorem kd_L_law_657 : decode kc_L_law 657 = .ok (.land, 1) := by decide +kernel
theorem kd_L_law_658 : decode kc_L_law 658 = .ok (.lor, 1) := by decide +kernel
theorem kd_L_law_659 : decode kc_L_law 659 = .ok (.invokestatic 96, 3) := by decide +kernel
theorem kd_L_law_662 : decode kc_L_law 662 = .ok (.istore 5, 2) := by decide +kernel
theorem kd_L_law_664 : decode kc_L_law 664 = .ok (.aload_n 2, 1) := by decide +kernel
theorem kd_L_law_665 : decode kc_L_law 665 = .ok (.aload_n 0, 1) := by decide +kernel
theorem kd_L_law_666 : decode kc_L_law 666 = .ok (.iload 4, 2) := by decide +kernel
theorem kd_L_law_668 : decode kc_L_law 668 = .ok (.iconst 1, 1) := by decide +kernel
theorem kd_L_law_669 : decode kc_L_law 669 = .ok (.iadd, 1) := by decide +kernel
theorem kd_L_law_670 : decode kc_L_law 670 = .ok (.iaload, 1) := by decide +kernel
theorem kd_L_law_671 : decode kc_L_law 671 = .ok (.i2l, 1) := by decide +kernel
theorem kd_L_law_672 : decode kc_L_law 672 = .ok (.bipush 32, 2) := by decide +kernel
theorem kd_L_law_674 : decode kc_L_law 674 = .ok (.lshl, 1) := by decide +kernel
theorem kd_L_law_675 : decode kc_L_law 675 = .ok (.aload_n 0, 1) := by decide +kernel
theorem kd_L_law_676 : decode kc_L_law 676 = .ok (.iload 4, 2) := by decide +kernel
theorem kd_L_law_678 : decode kc_L_law 678 = .ok (.iconst 2, 1) := by decide +kernel
theorem kd_L_law_679 : decode kc_L_law 679 = .ok (.iadd, 1) := by decide +kernel
theorem kd_L_law_680 : decode kc_L_law 680 = .ok (.iaload, 1) := by decide +kernel
theorem kd_L_law_681 : decode kc_L_law 681 = .ok (.i2l, 1) := by decide +kernel
theorem kd_L_law_682 : decode kc_L_law 682 = .ok (.ldc2_w 79, 3) := by decide +kernel
theorem kd_L_law_685 : decode kc_L_law 685 = .ok (.land, 1) := by decide +kernel
theorem kd_L_law_686 : decode kc_L_law 686 = .ok (.lor, 1) := by decide +kernel
theorem kd_L_law_687 : decode kc_L_law 687 = .ok (.invokevirtual 99, 3) := by decide +kernel
theorem kd_L_law_690 : decode kc_L_law 690 = .ok (.aload_n 2, 1) := by decide +kernel
theorem kd_L_law_691 : decode kc_L_law 691 = .ok (.invokevirtual 68, 3) := by decide +kernel
theorem kd_L_law_694 : decode kc_L_law 694 = .ok (.iload 5, 2) := by decide +kernel
theorem kd_L_law_696 : decode kc_L_law 696 = .ok (.if_icmp .eq 5, 3) := by decide +kernel
theorem kd_L_law_699 : decode kc_L_law 699 = .ok (.iconst 0, 1) := by decide +kernel
theorem kd_L_law_700 : decode kc_L_law 700 = .ok (.ireturn, 1) := by decide +kernel
theorem kd_L_law_701 : decode kc_L_law 701 = .ok (.goto 194, 3) := by decide +kernel
theorem kd_L_law_704 : decode kc_L_law 704 = .ok (.aload_n 1, 1) := by decide +kernel
theorem kd_L_law_705 : decode kc_L_law 705 = .ok (.aload_n 3, 1) := by decide +kernel
theorem kd_L_law_706 : decode kc_L_law 706 = .ok (.invokestatic 100, 3) := by decide +kernel
theorem kd_L_law_709 : decode kc_L_law 709 = .ok (.istore 5, 2) := by decide +kernel
theorem kd_L_law_711 : decode kc_L_law 711 = .ok (.aload_n 2, 1) := by decide +kernel
theorem kd_L_law_712 : decode kc_L_law 712 = .ok (.invokevirtual 103, 3) := by decide +kernel
theorem kd_L_law_715 : decode kc_L_law 715 = .ok (.lstore 6, 2) := by decide +kernel
theorem kd_L_law_717 : decode kc_L_law 717 = .ok (.aload_n 2, 1) := by decide +kernel
theorem kd_L_law_718 : decode kc_L_law 718 = .ok (.invokevirtual 68, 3) := by decide +kernel
theorem kd_L_law_721 : decode kc_L_law 721 = .ok (.iload 5, 2) := by decide +kernel
theorem kd_L_law_723 : decode kc_L_law 723 = .ok (.if_icmp .eq 5, 3) := by decide +kernel
theorem kd_L_law_726 : decode kc_L_law 726 = .ok (.iconst 0, 1) := by decide +kernel
theorem kd_L_law_727 : decode kc_L_law 727 = .ok (.ireturn, 1) := by decide +kernel
theorem kd_L_law_728 : decode kc_L_law 728 = .ok (.iload 5, 2) := by decide +kernel
theorem kd_L_law_730 : decode kc_L_law 730 = .ok (.ifCond .ne 14, 3) := by decide +kernel
theorem kd_L_law_733 : decode kc_L_law 733 = .ok (.aload_n 3, 1) := by decide +kernel
theorem kd_L_law_734 : decode kc_L_law 734 = .ok (.iconst 0, 1) := by decide +kernel
theorem kd_L_law_735 : decode kc_L_law 735 = .ok (.laload, 1) := by decide +kernel
theorem kd_L_law_736 : decode kc_L_law 736 = .ok (.lload 6, 2) := by decide +kernel
theorem kd_L_law_738 : decode kc_L_law 738 = .ok (.lcmp, 1) := by decide +kernel
theorem kd_L_law_739 : decode kc_L_law 739 = .ok (.ifCond .eq 5, 3) := by decide +kernel
theorem kd_L_law_742 : decode kc_L_law 742 = .ok (.iconst 0, 1) := by decide +kernel
theorem kd_L_law_743 : decode kc_L_law 743 = .ok (.ireturn, 1) := by decide +kernel
theorem kd_L_law_744 : decode kc_L_law 744 = .ok (.goto 151, 3) := by decide +kernel
theorem kd_L_law_747 : decode kc_L_law 747 = .ok (.aload_n 1, 1) := by decide +kernel
theorem kd_L_law_748 : decode kc_L_law 748 = .ok (.invokevirtual 104, 3) := by decide +kernel
theorem kd_L_law_751 : decode kc_L_law 751 = .ok (.aload_n 2, 1) := by decide +kernel
theorem kd_L_law_752 : decode kc_L_law 752 = .ok (.invokevirtual 107, 3) := by decide +kernel
theorem kd_L_law_755 : decode kc_L_law 755 = .ok (.if_icmp .eq 140, 3) := by decide +kernel
theorem kd_L_law_758 : decode kc_L_law 758 = .ok (.iconst 0, 1) := by decide +kernel
theorem kd_L_law_759 : decode kc_L_law 759 = .ok (.ireturn, 1) := by decide +kernel
theorem kd_L_law_760 : decode kc_L_law 760 = .ok (.aload_n 1, 1) := by decide +kernel
theorem kd_L_law_761 : decode kc_L_law 761 = .ok (.aload_n 0, 1) := by decide +kernel
theorem kd_L_law_762 : decode kc_L_law 762 = .ok (.iload 4, 2) := by decide +kernel
theorem kd_L_law_764 : decode kc_L_law 764 = .ok (.iconst 1, 1) := by decide +kernel
theorem kd_L_law_765 : decode kc_L_law 765 = .ok (.iadd, 1) := by decide +kernel
theorem kd_L_law_766 : decode kc_L_law 766 = .ok (.iaload, 1) := by decide +kernel
theorem kd_L_law_767 : decode kc_L_law 767 = .ok (.aload_n 0, 1) := by decide +kernel
theorem kd_L_law_768 : decode kc_L_law 768 = .ok (.iload 4, 2) := by decide +kernel
theorem kd_L_law_770 : decode kc_L_law 770 = .ok (.iconst 2, 1) := by decide +kernel
theorem kd_L_law_771 : decode kc_L_law 771 = .ok (.iadd, 1) := by decide +kernel
theorem kd_L_law_772 : decode kc_L_law 772 = .ok (.iaload, 1) := by decide +kernel
theorem kd_L_law_773 : decode kc_L_law 773 = .ok (.aload_n 3, 1) := by decide +kernel
theorem kd_L_law_774 : decode kc_L_law 774 = .ok (.invokestatic 108, 3) := by decide +kernel
theorem kd_L_law_777 : decode kc_L_law 777 = .ok (.istore 5, 2) := by decide +kernel
theorem kd_L_law_779 : decode kc_L_law 779 = .ok (.aload_n 2, 1) := by decide +kernel
theorem kd_L_law_780 : decode kc_L_law 780 = .ok (.aload_n 0, 1) := by decide +kernel
theorem kd_L_law_781 : decode kc_L_law 781 = .ok (.iload 4, 2) := by decide +kernel
theorem kd_L_law_783 : decode kc_L_law 783 = .ok (.iconst 1, 1) := by decide +kernel
theorem kd_L_law_784 : decode kc_L_law 784 = .ok (.iadd, 1) := by decide +kernel
theorem kd_L_law_785 : decode kc_L_law 785 = .ok (.iaload, 1) := by decide +kernel
theorem kd_L_law_786 : decode kc_L_law 786 = .ok (.aload_n 0, 1) := by decide +kernel
theorem kd_L_law_787 : decode kc_L_law 787 = .ok (.iload 4, 2) := by decide +kernel
theorem kd_L_law_789 : decode kc_L_law 789 = .ok (.iconst 2, 1) := by decide +kernel
theorem kd_L_law_790 : decode kc_L_law 790 = .ok (.iadd, 1) := by decide +kernel
theorem kd_L_law_791 : decode kc_L_law 791 = .ok (.iaload, 1) := by decide +kernel
theorem kd_L_law_792 : decode kc_L_law 792 = .ok (.invokevirtual 110, 3) := by decide +kernel
theorem kd_L_law_795 : decode kc_L_law 795 = .ok (.istore 6, 2) := by decide +kernel
theorem kd_L_law_797 : decode kc_L_law 797 = .ok (.aload_n 2, 1) := by decide +kernel
theorem kd_L_law_798 : decode kc_L_law 798 = .ok (.invokevirtual 68, 3) := by decide +kernel
theorem kd_L_law_801 : decode kc_L_law 801 = .ok (.iload 5, 2) := by decide +kernel
theorem kd_L_law_803 : decode kc_L_law 803 = .ok (.if_icmp .eq 5, 3) := by decide +kernel
theorem kd_L_law_806 : decode kc_L_law 806 = .ok (.iconst 0, 1) := by decide +kernel
theorem kd_L_law_807 : decode kc_L_law 807 = .ok (.ireturn, 1) := by decide +kernel
theorem kd_L_law_808 : decode kc_L_law 808 = .ok (.iload 5, 2) := by decide +kernel
theorem kd_L_law_810 : decode kc_L_law 810 = .ok (.ifCond .ne 15, 3) := by decide +kernel
theorem kd_L_law_813 : decode kc_L_law 813 = .ok (.aload_n 3, 1) := by decide +kernel
theorem kd_L_law_814 : decode kc_L_law 814 = .ok (.iconst 0, 1) := by decide +kernel
theorem kd_L_law_815 : decode kc_L_law 815 = .ok (.laload, 1) := by decide +kernel
theorem kd_L_law_816 : decode kc_L_law 816 = .ok (.iload 6, 2) := by decide +kernel
theorem kd_L_law_818 : decode kc_L_law 818 = .ok (.i2l, 1) := by decide +kernel
theorem kd_L_law_819 : decode kc_L_law 819 = .ok (.lcmp, 1) := by decide +kernel
theorem kd_L_law_820 : decode kc_L_law 820 = .ok (.ifCond .eq 5, 3) := by decide +kernel
theorem kd_L_law_823 : decode kc_L_law 823 = .ok (.iconst 0, 1) := by decide +kernel
theorem kd_L_law_824 : decode kc_L_law 824 = .ok (.ireturn, 1) := by decide +kernel
theorem kd_L_law_825 : decode kc_L_law 825 = .ok (.goto 70, 3) := by decide +kernel
theorem kd_L_law_828 : decode kc_L_law 828 = .ok (.aload_n 1, 1) := by decide +kernel
theorem kd_L_law_829 : decode kc_L_law 829 = .ok (.aload_n 0, 1) := by decide +kernel
theorem kd_L_law_830 : decode kc_L_law 830 = .ok (.iload 4, 2) := by decide +kernel
theorem kd_L_law_832 : decode kc_L_law 832 = .ok (.iconst 1, 1) := by decide +kernel
theorem kd_L_law_833 : decode kc_L_law 833 = .ok (.iadd, 1) := by decide +kernel
theorem kd_L_law_834 : decode kc_L_law 834 = .ok (.iaload, 1) := by decide +kernel
theorem kd_L_law_835 : decode kc_L_law 835 = .ok (.aload_n 0, 1) := by decide +kernel
theorem kd_L_law_836 : decode kc_L_law 836 = .ok (.iload 4, 2) := by decide +kernel
theorem kd_L_law_838 : decode kc_L_law 838 = .ok (.iconst 2, 1) := by decide +kernel
theorem kd_L_law_839 : decode kc_L_law 839 = .ok (.iadd, 1) := by decide +kernel
theorem kd_L_law_840 : decode kc_L_law 840 = .ok (.iaload, 1) := by decide +kernel
theorem kd_L_law_841 : decode kc_L_law 841 = .ok (.aload_n 3, 1) := by decide +kernel
theorem kd_L_law_842 : decode kc_L_law 842 = .ok (.invokestatic 111, 3) := by decide +kernel
theorem kd_L_law_845 : decode kc_L_law 845 = .ok (.istore 5, 2) := by decide +kernel
theorem kd_L_law_847 : decode kc_L_law 847 = .ok (.aload_n 2, 1) := by decide +kernel
theorem kd_L_law_848 : decode kc_L_law 848 = .ok (.aload_n 0, 1) := by decide +kernel
theorem kd_L_law_849 : decode kc_L_law 849 = .ok (.iload 4, 2) := by decide +kernel
theorem kd_L_law_851 : decode kc_L_law 851 = .ok (.iconst 1, 1) := by decide +kernel
theorem kd_L_law_852 : decode kc_L_law 852 = .ok (.iadd, 1) := by decide +kernel
theorem kd_L_law_853 : decode kc_L_law 853 = .ok (.iaload, 1) := by decide +kernel
theorem kd_L_law_854 : decode kc_L_law 854 = .ok (.aload_n 0, 1) := by decide +kernel
theorem kd_L_law_855 : decode kc_L_law 855 = .ok (.iload 4, 2) := by decide +kernel
theorem kd_L_law_857 : decode kc_L_law 857 = .ok (.iconst 2, 1) := by decide +kernel
theorem kd_L_law_858 : decode kc_L_law 858 = .ok (.iadd, 1) := by decide +kernel
theorem kd_L_law_859 : decode kc_L_law 859 = .ok (.iaload, 1) := by decide +kernel
theorem kd_L_law_860 : decode kc_L_law 860 = .ok (.invokevirtual 113, 3) := by decide +kernel
theorem kd_L_law_863 : decode kc_L_law 863 = .ok (.lstore 6, 2) := by decide +kernel
theorem kd_L_law_865 : decode kc_L_law 865 = .ok (.aload_n 2, 1) := by decide +kernel
theorem kd_L_law_866 : decode kc_L_law 866 = .ok (.invokevirtual 68, 3) := by decide +kernel
theorem kd_L_law_869 : decode kc_L_law 869 = .ok (.iload 5, 2) := by decide +kernel
theorem kd_L_law_871 : decode kc_L_law 871 = .ok (.if_icmp .eq 5, 3) := by decide +kernel
theorem kd_L_law_874 : decode kc_L_law 874 = .ok (.iconst 0, 1) := by decide +kernel
theorem kd_L_law_875 : decode kc_L_law 875 = .ok (.ireturn, 1) := by decide +kernel
theorem kd_L_law_876 : decode kc_L_law 876 = .ok (.iload 5, 2) := by decide +kernel
theorem kd_L_law_878 : decode kc_L_law 878 = .ok (.ifCond .ne 14, 3) := by decide +kernel
theorem kd_L_law_881 : decode kc_L_law 881 = .ok (.aload_n 3, 1) := by decide +kernel
theorem kd_L_law_882 : decode kc_L_law 882 = .ok (.iconst 0, 1) := by decide +kernel
theorem kd_L_law_883 : decode kc_L_law 883 = .ok (.laload, 1) := by decide +kernel
theorem kd_L_law_884 : decode kc_L_law 884 = .ok (.lload 6, 2) := by decide +kernel
theorem kd_L_law_886 : decode kc_L_law 886 = .ok (.lcmp, 1) := by decide +kernel
theorem kd_L_law_887 : decode kc_L_law 887 = .ok (.ifCond .eq 5, 3) := by decide +kernel
theorem kd_L_law_890 : decode kc_L_law 890 = .ok (.iconst 0, 1) := by decide +kernel
theorem kd_L_law_891 : decode kc_L_law 891 = .ok (.ireturn, 1) := by decide +kernel
theorem kd_L_law_892 : decode kc_L_law 892 = .ok (.goto 3, 3) := by decide +kernel
theorem kd_L_law_895 : decode kc_L_law 895 = .ok (.iinc 4 6, 3) := by decide +kernel
theorem kd_L_law_898 : decode kc_L_law 898 = .ok (.goto (-875), 3) := by decide +kernel
theorem kd_L_law_901 : decode kc_L_law 901 = .ok (.iconst 1, 1) := by decide +kernel
theorem kd_L_law_902 : decode kc_L_law 902 = .ok (.ireturn, 1) := by decide +kernel
