/-! DECODE ROWS (written by wip/gen/names.py) -/
theorem kd_B_init_0 : decode kc_B_init 0 = .ok (.aload_n 0, 1) := by decide +kernel
theorem kd_B_init_1 : decode kc_B_init 1 = .ok (.invokespecial 1, 3) := by decide +kernel
theorem kd_B_init_4 : decode kc_B_init 4 = .ok (.aload_n 0, 1) := by decide +kernel
theorem kd_B_init_5 : decode kc_B_init 5 = .ok (.new 7, 3) := by decide +kernel
theorem kd_B_init_8 : decode kc_B_init 8 = .ok (.dup, 1) := by decide +kernel
theorem kd_B_init_9 : decode kc_B_init 9 = .ok (.invokespecial 9, 3) := by decide +kernel
theorem kd_B_init_12 : decode kc_B_init 12 = .ok (.putfield 10, 3) := by decide +kernel
theorem kd_B_init_15 : decode kc_B_init 15 = .ok (.aload_n 0, 1) := by decide +kernel
theorem kd_B_init_16 : decode kc_B_init 16 = .ok (.new 16, 3) := by decide +kernel
theorem kd_B_init_19 : decode kc_B_init 19 = .ok (.dup, 1) := by decide +kernel
theorem kd_B_init_20 : decode kc_B_init 20 = .ok (.invokespecial 18, 3) := by decide +kernel
theorem kd_B_init_23 : decode kc_B_init 23 = .ok (.putfield 19, 3) := by decide +kernel
theorem kd_B_init_26 : decode kc_B_init 26 = .ok (.aload_n 0, 1) := by decide +kernel
theorem kd_B_init_27 : decode kc_B_init 27 = .ok (.new 23, 3) := by decide +kernel
theorem kd_B_init_30 : decode kc_B_init 30 = .ok (.dup, 1) := by decide +kernel
theorem kd_B_init_31 : decode kc_B_init 31 = .ok (.aload_n 0, 1) := by decide +kernel
theorem kd_B_init_32 : decode kc_B_init 32 = .ok (.getfield 10, 3) := by decide +kernel
theorem kd_B_init_35 : decode kc_B_init 35 = .ok (.invokespecial 25, 3) := by decide +kernel
theorem kd_B_init_38 : decode kc_B_init 38 = .ok (.putfield 28, 3) := by decide +kernel
theorem kd_B_init_41 : decode kc_B_init 41 = .ok (.aload_n 0, 1) := by decide +kernel
theorem kd_B_init_42 : decode kc_B_init 42 = .ok (.new 32, 3) := by decide +kernel
theorem kd_B_init_45 : decode kc_B_init 45 = .ok (.dup, 1) := by decide +kernel
theorem kd_B_init_46 : decode kc_B_init 46 = .ok (.aload_n 0, 1) := by decide +kernel
theorem kd_B_init_47 : decode kc_B_init 47 = .ok (.getfield 10, 3) := by decide +kernel
theorem kd_B_init_50 : decode kc_B_init 50 = .ok (.aload_n 0, 1) := by decide +kernel
theorem kd_B_init_51 : decode kc_B_init 51 = .ok (.getfield 19, 3) := by decide +kernel
theorem kd_B_init_54 : decode kc_B_init 54 = .ok (.aload_n 0, 1) := by decide +kernel
theorem kd_B_init_55 : decode kc_B_init 55 = .ok (.getfield 28, 3) := by decide +kernel
theorem kd_B_init_58 : decode kc_B_init 58 = .ok (.invokespecial 34, 3) := by decide +kernel
theorem kd_B_init_61 : decode kc_B_init 61 = .ok (.putfield 37, 3) := by decide +kernel
theorem kd_B_init_64 : decode kc_B_init 64 = .ok (.aload_n 0, 1) := by decide +kernel
theorem kd_B_init_65 : decode kc_B_init 65 = .ok (.new 41, 3) := by decide +kernel
theorem kd_B_init_68 : decode kc_B_init 68 = .ok (.dup, 1) := by decide +kernel
theorem kd_B_init_69 : decode kc_B_init 69 = .ok (.invokespecial 43, 3) := by decide +kernel
theorem kd_B_init_72 : decode kc_B_init 72 = .ok (.putfield 44, 3) := by decide +kernel
theorem kd_B_init_75 : decode kc_B_init 75 = .ok (.aload_n 0, 1) := by decide +kernel
theorem kd_B_init_76 : decode kc_B_init 76 = .ok (.new 48, 3) := by decide +kernel
theorem kd_B_init_79 : decode kc_B_init 79 = .ok (.dup, 1) := by decide +kernel
theorem kd_B_init_80 : decode kc_B_init 80 = .ok (.invokespecial 50, 3) := by decide +kernel
theorem kd_B_init_83 : decode kc_B_init 83 = .ok (.putfield 51, 3) := by decide +kernel
theorem kd_B_init_86 : decode kc_B_init 86 = .ok (.return_, 1) := by decide +kernel
theorem kd_W_init_0 : decode kc_W_init 0 = .ok (.aload_n 0, 1) := by decide +kernel
theorem kd_W_init_1 : decode kc_W_init 1 = .ok (.invokespecial 3, 3) := by decide +kernel
theorem kd_W_init_4 : decode kc_W_init 4 = .ok (.aload_n 0, 1) := by decide +kernel
theorem kd_W_init_5 : decode kc_W_init 5 = .ok (.bipush 16, 2) := by decide +kernel
theorem kd_W_init_7 : decode kc_W_init 7 = .ok (.newarray .int, 2) := by decide +kernel
theorem kd_W_init_9 : decode kc_W_init 9 = .ok (.putfield 9, 3) := by decide +kernel
theorem kd_W_init_12 : decode kc_W_init 12 = .ok (.aload_n 0, 1) := by decide +kernel
theorem kd_W_init_13 : decode kc_W_init 13 = .ok (.bipush 64, 2) := by decide +kernel
theorem kd_W_init_15 : decode kc_W_init 15 = .ok (.newarray .int, 2) := by decide +kernel
theorem kd_W_init_17 : decode kc_W_init 17 = .ok (.putfield 15, 3) := by decide +kernel
theorem kd_W_init_20 : decode kc_W_init 20 = .ok (.return_, 1) := by decide +kernel
theorem kd_M_init_0 : decode kc_M_init 0 = .ok (.aload_n 0, 1) := by decide +kernel
theorem kd_M_init_1 : decode kc_M_init 1 = .ok (.invokespecial 3, 3) := by decide +kernel
theorem kd_M_init_4 : decode kc_M_init 4 = .ok (.aload_n 0, 1) := by decide +kernel
theorem kd_M_init_5 : decode kc_M_init 5 = .ok (.bipush 64, 2) := by decide +kernel
theorem kd_M_init_7 : decode kc_M_init 7 = .ok (.newarray .int, 2) := by decide +kernel
theorem kd_M_init_9 : decode kc_M_init 9 = .ok (.putfield 9, 3) := by decide +kernel
theorem kd_M_init_12 : decode kc_M_init 12 = .ok (.aload_n 0, 1) := by decide +kernel
theorem kd_M_init_13 : decode kc_M_init 13 = .ok (.bipush 64, 2) := by decide +kernel
theorem kd_M_init_15 : decode kc_M_init 15 = .ok (.newarray .int, 2) := by decide +kernel
theorem kd_M_init_17 : decode kc_M_init 17 = .ok (.putfield 15, 3) := by decide +kernel
theorem kd_M_init_20 : decode kc_M_init 20 = .ok (.aload_n 0, 1) := by decide +kernel
theorem kd_M_init_21 : decode kc_M_init 21 = .ok (.bipush 64, 2) := by decide +kernel
theorem kd_M_init_23 : decode kc_M_init 23 = .ok (.newarray .int, 2) := by decide +kernel
theorem kd_M_init_25 : decode kc_M_init 25 = .ok (.putfield 18, 3) := by decide +kernel
theorem kd_M_init_28 : decode kc_M_init 28 = .ok (.aload_n 0, 1) := by decide +kernel
theorem kd_M_init_29 : decode kc_M_init 29 = .ok (.bipush 64, 2) := by decide +kernel
theorem kd_M_init_31 : decode kc_M_init 31 = .ok (.newarray .int, 2) := by decide +kernel
theorem kd_M_init_33 : decode kc_M_init 33 = .ok (.putfield 21, 3) := by decide +kernel
theorem kd_M_init_36 : decode kc_M_init 36 = .ok (.return_, 1) := by decide +kernel
theorem kd_B_calls_0 : decode kc_B_calls 0 = .ok (.aload_n 0, 1) := by decide +kernel
theorem kd_B_calls_1 : decode kc_B_calls 1 = .ok (.getfield 44, 3) := by decide +kernel
theorem kd_B_calls_4 : decode kc_B_calls 4 = .ok (.getfield 185, 3) := by decide +kernel
theorem kd_B_calls_7 : decode kc_B_calls 7 = .ok (.ireturn, 1) := by decide +kernel
theorem kd_B_klass_0 : decode kc_B_klass 0 = .ok (.iload_n 1, 1) := by decide +kernel
theorem kd_B_klass_1 : decode kc_B_klass 1 = .ok (.iconst (-1), 1) := by decide +kernel
theorem kd_B_klass_2 : decode kc_B_klass 2 = .ok (.if_icmp .eq 24, 3) := by decide +kernel
theorem kd_B_klass_5 : decode kc_B_klass 5 = .ok (.aload_n 0, 1) := by decide +kernel
theorem kd_B_klass_6 : decode kc_B_klass 6 = .ok (.getfield 10, 3) := by decide +kernel
theorem kd_B_klass_9 : decode kc_B_klass 9 = .ok (.iload_n 1, 1) := by decide +kernel
theorem kd_B_klass_10 : decode kc_B_klass 10 = .ok (.invokevirtual 55, 3) := by decide +kernel
theorem kd_B_klass_13 : decode kc_B_klass 13 = .ok (.ifCond .ne 13, 3) := by decide +kernel
theorem kd_B_klass_16 : decode kc_B_klass 16 = .ok (.new 59, 3) := by decide +kernel
theorem kd_B_klass_19 : decode kc_B_klass 19 = .ok (.dup, 1) := by decide +kernel
theorem kd_B_klass_20 : decode kc_B_klass 20 = .ok (.ldc 61, 2) := by decide +kernel
theorem kd_B_klass_22 : decode kc_B_klass 22 = .ok (.invokespecial 63, 3) := by decide +kernel
theorem kd_B_klass_25 : decode kc_B_klass 25 = .ok (.athrow, 1) := by decide +kernel
theorem kd_B_klass_26 : decode kc_B_klass 26 = .ok (.aload_n 0, 1) := by decide +kernel
theorem kd_B_klass_27 : decode kc_B_klass 27 = .ok (.getfield 10, 3) := by decide +kernel
theorem kd_B_klass_30 : decode kc_B_klass 30 = .ok (.getfield 66, 3) := by decide +kernel
theorem kd_B_klass_33 : decode kc_B_klass 33 = .ok (.bipush 16, 2) := by decide +kernel
theorem kd_B_klass_35 : decode kc_B_klass 35 = .ok (.if_icmp .lt 13, 3) := by decide +kernel
theorem kd_B_klass_38 : decode kc_B_klass 38 = .ok (.new 70, 3) := by decide +kernel
theorem kd_B_klass_41 : decode kc_B_klass 41 = .ok (.dup, 1) := by decide +kernel
theorem kd_B_klass_42 : decode kc_B_klass 42 = .ok (.ldc 72, 2) := by decide +kernel
theorem kd_B_klass_44 : decode kc_B_klass 44 = .ok (.invokespecial 74, 3) := by decide +kernel
theorem kd_B_klass_47 : decode kc_B_klass 47 = .ok (.athrow, 1) := by decide +kernel
theorem kd_B_klass_48 : decode kc_B_klass 48 = .ok (.aload_n 0, 1) := by decide +kernel
theorem kd_B_klass_49 : decode kc_B_klass 49 = .ok (.getfield 10, 3) := by decide +kernel
theorem kd_B_klass_52 : decode kc_B_klass 52 = .ok (.iload_n 1, 1) := by decide +kernel
theorem kd_B_klass_53 : decode kc_B_klass 53 = .ok (.invokevirtual 75, 3) := by decide +kernel
theorem kd_B_klass_56 : decode kc_B_klass 56 = .ok (.ireturn, 1) := by decide +kernel
theorem kd_W_hasClass_0 : decode kc_W_hasClass 0 = .ok (.iload_n 1, 1) := by decide +kernel
theorem kd_W_hasClass_1 : decode kc_W_hasClass 1 = .ok (.ifCond .lt 15, 3) := by decide +kernel
theorem kd_W_hasClass_4 : decode kc_W_hasClass 4 = .ok (.iload_n 1, 1) := by decide +kernel
theorem kd_W_hasClass_5 : decode kc_W_hasClass 5 = .ok (.aload_n 0, 1) := by decide +kernel
theorem kd_W_hasClass_6 : decode kc_W_hasClass 6 = .ok (.getfield 18, 3) := by decide +kernel
theorem kd_W_hasClass_9 : decode kc_W_hasClass 9 = .ok (.if_icmp .ge 7, 3) := by decide +kernel
theorem kd_W_hasClass_12 : decode kc_W_hasClass 12 = .ok (.iconst 1, 1) := by decide +kernel
theorem kd_W_hasClass_13 : decode kc_W_hasClass 13 = .ok (.goto 4, 3) := by decide +kernel
theorem kd_W_hasClass_16 : decode kc_W_hasClass 16 = .ok (.iconst 0, 1) := by decide +kernel
theorem kd_W_hasClass_17 : decode kc_W_hasClass 17 = .ok (.ireturn, 1) := by decide +kernel
theorem kd_W_addClass_0 : decode kc_W_addClass 0 = .ok (.aload_n 0, 1) := by decide +kernel
theorem kd_W_addClass_1 : decode kc_W_addClass 1 = .ok (.getfield 9, 3) := by decide +kernel
theorem kd_W_addClass_4 : decode kc_W_addClass 4 = .ok (.aload_n 0, 1) := by decide +kernel
theorem kd_W_addClass_5 : decode kc_W_addClass 5 = .ok (.getfield 18, 3) := by decide +kernel
theorem kd_W_addClass_8 : decode kc_W_addClass 8 = .ok (.iload_n 1, 1) := by decide +kernel
theorem kd_W_addClass_9 : decode kc_W_addClass 9 = .ok (.iastore, 1) := by decide +kernel
theorem kd_W_addClass_10 : decode kc_W_addClass 10 = .ok (.aload_n 0, 1) := by decide +kernel
theorem kd_W_addClass_11 : decode kc_W_addClass 11 = .ok (.dup, 1) := by decide +kernel
theorem kd_W_addClass_12 : decode kc_W_addClass 12 = .ok (.getfield 18, 3) := by decide +kernel
theorem kd_W_addClass_15 : decode kc_W_addClass 15 = .ok (.iconst 1, 1) := by decide +kernel
theorem kd_W_addClass_16 : decode kc_W_addClass 16 = .ok (.iadd, 1) := by decide +kernel
theorem kd_W_addClass_17 : decode kc_W_addClass 17 = .ok (.putfield 18, 3) := by decide +kernel
theorem kd_W_addClass_20 : decode kc_W_addClass 20 = .ok (.aload_n 0, 1) := by decide +kernel
theorem kd_W_addClass_21 : decode kc_W_addClass 21 = .ok (.getfield 18, 3) := by decide +kernel
theorem kd_W_addClass_24 : decode kc_W_addClass 24 = .ok (.iconst 1, 1) := by decide +kernel
theorem kd_W_addClass_25 : decode kc_W_addClass 25 = .ok (.isub, 1) := by decide +kernel
theorem kd_W_addClass_26 : decode kc_W_addClass 26 = .ok (.ireturn, 1) := by decide +kernel
theorem kd_B_method_0 : decode kc_B_method 0 = .ok (.aload_n 0, 1) := by decide +kernel
theorem kd_B_method_1 : decode kc_B_method 1 = .ok (.getfield 10, 3) := by decide +kernel
theorem kd_B_method_4 : decode kc_B_method 4 = .ok (.iload_n 1, 1) := by decide +kernel
theorem kd_B_method_5 : decode kc_B_method 5 = .ok (.invokevirtual 55, 3) := by decide +kernel
theorem kd_B_method_8 : decode kc_B_method 8 = .ok (.ifCond .ne 13, 3) := by decide +kernel
theorem kd_B_method_11 : decode kc_B_method 11 = .ok (.new 59, 3) := by decide +kernel
theorem kd_B_method_14 : decode kc_B_method 14 = .ok (.dup, 1) := by decide +kernel
theorem kd_B_method_15 : decode kc_B_method 15 = .ok (.ldc 79, 2) := by decide +kernel
theorem kd_B_method_17 : decode kc_B_method 17 = .ok (.invokespecial 63, 3) := by decide +kernel
theorem kd_B_method_20 : decode kc_B_method 20 = .ok (.athrow, 1) := by decide +kernel
theorem kd_B_method_21 : decode kc_B_method 21 = .ok (.iload_n 2, 1) := by decide +kernel
theorem kd_B_method_22 : decode kc_B_method 22 = .ok (.invokestatic 81, 3) := by decide +kernel
theorem kd_B_method_25 : decode kc_B_method 25 = .ok (.ifCond .ne 13, 3) := by decide +kernel
theorem kd_B_method_28 : decode kc_B_method 28 = .ok (.new 59, 3) := by decide +kernel
theorem kd_B_method_31 : decode kc_B_method 31 = .ok (.dup, 1) := by decide +kernel
theorem kd_B_method_32 : decode kc_B_method 32 = .ok (.ldc 84, 2) := by decide +kernel
theorem kd_B_method_34 : decode kc_B_method 34 = .ok (.invokespecial 63, 3) := by decide +kernel
theorem kd_B_method_37 : decode kc_B_method 37 = .ok (.athrow, 1) := by decide +kernel
theorem kd_B_method_38 : decode kc_B_method 38 = .ok (.iload_n 3, 1) := by decide +kernel
theorem kd_B_method_39 : decode kc_B_method 39 = .ok (.ifCond .lt 8, 3) := by decide +kernel
theorem kd_B_method_42 : decode kc_B_method 42 = .ok (.iload_n 3, 1) := by decide +kernel
theorem kd_B_method_43 : decode kc_B_method 43 = .ok (.iconst 4, 1) := by decide +kernel
theorem kd_B_method_44 : decode kc_B_method 44 = .ok (.if_icmp .le 13, 3) := by decide +kernel
theorem kd_B_method_47 : decode kc_B_method 47 = .ok (.new 59, 3) := by decide +kernel
theorem kd_B_method_50 : decode kc_B_method 50 = .ok (.dup, 1) := by decide +kernel
theorem kd_B_method_51 : decode kc_B_method 51 = .ok (.ldc 86, 2) := by decide +kernel
theorem kd_B_method_53 : decode kc_B_method 53 = .ok (.invokespecial 63, 3) := by decide +kernel
theorem kd_B_method_56 : decode kc_B_method 56 = .ok (.athrow, 1) := by decide +kernel
theorem kd_B_method_57 : decode kc_B_method 57 = .ok (.aload_n 0, 1) := by decide +kernel
theorem kd_B_method_58 : decode kc_B_method 58 = .ok (.getfield 10, 3) := by decide +kernel
theorem kd_B_method_61 : decode kc_B_method 61 = .ok (.iload_n 3, 1) := by decide +kernel
theorem kd_B_method_62 : decode kc_B_method 62 = .ok (.iload 4, 2) := by decide +kernel
theorem kd_B_method_64 : decode kc_B_method 64 = .ok (.invokevirtual 88, 3) := by decide +kernel
theorem kd_B_method_67 : decode kc_B_method 67 = .ok (.ifCond .eq 15, 3) := by decide +kernel
theorem kd_B_method_70 : decode kc_B_method 70 = .ok (.aload_n 0, 1) := by decide +kernel
theorem kd_B_method_71 : decode kc_B_method 71 = .ok (.getfield 10, 3) := by decide +kernel
theorem kd_B_method_74 : decode kc_B_method 74 = .ok (.iload 5, 2) := by decide +kernel
theorem kd_B_method_76 : decode kc_B_method 76 = .ok (.invokevirtual 92, 3) := by decide +kernel
theorem kd_B_method_79 : decode kc_B_method 79 = .ok (.ifCond .ne 13, 3) := by decide +kernel
theorem kd_B_method_82 : decode kc_B_method 82 = .ok (.new 59, 3) := by decide +kernel
theorem kd_B_method_85 : decode kc_B_method 85 = .ok (.dup, 1) := by decide +kernel
theorem kd_B_method_86 : decode kc_B_method 86 = .ok (.ldc 95, 2) := by decide +kernel
theorem kd_B_method_88 : decode kc_B_method 88 = .ok (.invokespecial 63, 3) := by decide +kernel
theorem kd_B_method_91 : decode kc_B_method 91 = .ok (.athrow, 1) := by decide +kernel
theorem kd_B_method_92 : decode kc_B_method 92 = .ok (.aload_n 0, 1) := by decide +kernel
theorem kd_B_method_93 : decode kc_B_method 93 = .ok (.getfield 19, 3) := by decide +kernel
theorem kd_B_method_96 : decode kc_B_method 96 = .ok (.iload_n 1, 1) := by decide +kernel
theorem kd_B_method_97 : decode kc_B_method 97 = .ok (.iload_n 2, 1) := by decide +kernel
theorem kd_B_method_98 : decode kc_B_method 98 = .ok (.iload_n 3, 1) := by decide +kernel
theorem kd_B_method_99 : decode kc_B_method 99 = .ok (.iload 4, 2) := by decide +kernel
theorem kd_B_method_101 : decode kc_B_method 101 = .ok (.invokevirtual 97, 3) := by decide +kernel
theorem kd_B_method_104 : decode kc_B_method 104 = .ok (.iconst (-1), 1) := by decide +kernel
theorem kd_B_method_105 : decode kc_B_method 105 = .ok (.if_icmp .eq 13, 3) := by decide +kernel
theorem kd_B_method_108 : decode kc_B_method 108 = .ok (.new 70, 3) := by decide +kernel
theorem kd_B_method_111 : decode kc_B_method 111 = .ok (.dup, 1) := by decide +kernel
theorem kd_B_method_112 : decode kc_B_method 112 = .ok (.ldc 101, 2) := by decide +kernel
theorem kd_B_method_114 : decode kc_B_method 114 = .ok (.invokespecial 74, 3) := by decide +kernel
theorem kd_B_method_117 : decode kc_B_method 117 = .ok (.athrow, 1) := by decide +kernel
theorem kd_B_method_118 : decode kc_B_method 118 = .ok (.aload_n 0, 1) := by decide +kernel
theorem kd_B_method_119 : decode kc_B_method 119 = .ok (.getfield 19, 3) := by decide +kernel
theorem kd_B_method_122 : decode kc_B_method 122 = .ok (.getfield 103, 3) := by decide +kernel
theorem kd_B_method_125 : decode kc_B_method 125 = .ok (.bipush 64, 2) := by decide +kernel
theorem kd_B_method_127 : decode kc_B_method 127 = .ok (.if_icmp .lt 13, 3) := by decide +kernel
theorem kd_B_method_130 : decode kc_B_method 130 = .ok (.new 70, 3) := by decide +kernel
theorem kd_B_method_133 : decode kc_B_method 133 = .ok (.dup, 1) := by decide +kernel
theorem kd_B_method_134 : decode kc_B_method 134 = .ok (.ldc 106, 2) := by decide +kernel
theorem kd_B_method_136 : decode kc_B_method 136 = .ok (.invokespecial 74, 3) := by decide +kernel
theorem kd_B_method_139 : decode kc_B_method 139 = .ok (.athrow, 1) := by decide +kernel
theorem kd_B_method_140 : decode kc_B_method 140 = .ok (.aload_n 0, 1) := by decide +kernel
theorem kd_B_method_141 : decode kc_B_method 141 = .ok (.getfield 19, 3) := by decide +kernel
theorem kd_B_method_144 : decode kc_B_method 144 = .ok (.iload_n 1, 1) := by decide +kernel
theorem kd_B_method_145 : decode kc_B_method 145 = .ok (.iload_n 2, 1) := by decide +kernel
theorem kd_B_method_146 : decode kc_B_method 146 = .ok (.iload_n 3, 1) := by decide +kernel
theorem kd_B_method_147 : decode kc_B_method 147 = .ok (.iload 4, 2) := by decide +kernel
theorem kd_B_method_149 : decode kc_B_method 149 = .ok (.invokevirtual 108, 3) := by decide +kernel
theorem kd_B_method_152 : decode kc_B_method 152 = .ok (.ireturn, 1) := by decide +kernel
theorem kd_B_isName_0 : decode kc_B_isName 0 = .ok (.iload_n 0, 1) := by decide +kernel
theorem kd_B_isName_1 : decode kc_B_isName 1 = .ok (.ifCond .lt 14, 3) := by decide +kernel
theorem kd_B_isName_4 : decode kc_B_isName 4 = .ok (.iload_n 0, 1) := by decide +kernel
theorem kd_B_isName_5 : decode kc_B_isName 5 = .ok (.sipush 1000, 3) := by decide +kernel
theorem kd_B_isName_8 : decode kc_B_isName 8 = .ok (.if_icmp .ge 7, 3) := by decide +kernel
theorem kd_B_isName_11 : decode kc_B_isName 11 = .ok (.iconst 1, 1) := by decide +kernel
theorem kd_B_isName_12 : decode kc_B_isName 12 = .ok (.goto 4, 3) := by decide +kernel
theorem kd_B_isName_15 : decode kc_B_isName 15 = .ok (.iconst 0, 1) := by decide +kernel
theorem kd_B_isName_16 : decode kc_B_isName 16 = .ok (.ireturn, 1) := by decide +kernel
theorem kd_W_hasTypes_0 : decode kc_W_hasTypes 0 = .ok (.iload_n 1, 1) := by decide +kernel
theorem kd_W_hasTypes_1 : decode kc_W_hasTypes 1 = .ok (.iconst 4, 1) := by decide +kernel
theorem kd_W_hasTypes_2 : decode kc_W_hasTypes 2 = .ok (.if_icmp .ge 14, 3) := by decide +kernel
theorem kd_W_hasTypes_5 : decode kc_W_hasTypes 5 = .ok (.iload_n 2, 1) := by decide +kernel
theorem kd_W_hasTypes_6 : decode kc_W_hasTypes 6 = .ok (.bipush 8, 2) := by decide +kernel
theorem kd_W_hasTypes_8 : decode kc_W_hasTypes 8 = .ok (.iload_n 1, 1) := by decide +kernel
theorem kd_W_hasTypes_9 : decode kc_W_hasTypes 9 = .ok (.imul, 1) := by decide +kernel
theorem kd_W_hasTypes_10 : decode kc_W_hasTypes 10 = .ok (.iushr, 1) := by decide +kernel
theorem kd_W_hasTypes_11 : decode kc_W_hasTypes 11 = .ok (.ifCond .eq 5, 3) := by decide +kernel
theorem kd_W_hasTypes_14 : decode kc_W_hasTypes 14 = .ok (.iconst 0, 1) := by decide +kernel
theorem kd_W_hasTypes_15 : decode kc_W_hasTypes 15 = .ok (.ireturn, 1) := by decide +kernel
theorem kd_W_hasTypes_16 : decode kc_W_hasTypes 16 = .ok (.iconst 0, 1) := by decide +kernel
theorem kd_W_hasTypes_17 : decode kc_W_hasTypes 17 = .ok (.istore_n 3, 1) := by decide +kernel
theorem kd_W_hasTypes_18 : decode kc_W_hasTypes 18 = .ok (.iload_n 3, 1) := by decide +kernel
theorem kd_W_hasTypes_19 : decode kc_W_hasTypes 19 = .ok (.iload_n 1, 1) := by decide +kernel
theorem kd_W_hasTypes_20 : decode kc_W_hasTypes 20 = .ok (.if_icmp .ge 24, 3) := by decide +kernel
theorem kd_W_hasTypes_23 : decode kc_W_hasTypes 23 = .ok (.aload_n 0, 1) := by decide +kernel
theorem kd_W_hasTypes_24 : decode kc_W_hasTypes 24 = .ok (.iload_n 2, 1) := by decide +kernel
theorem kd_W_hasTypes_25 : decode kc_W_hasTypes 25 = .ok (.iload_n 1, 1) := by decide +kernel
theorem kd_W_hasTypes_26 : decode kc_W_hasTypes 26 = .ok (.iload_n 3, 1) := by decide +kernel
theorem kd_W_hasTypes_27 : decode kc_W_hasTypes 27 = .ok (.invokestatic 25, 3) := by decide +kernel
theorem kd_W_hasTypes_30 : decode kc_W_hasTypes 30 = .ok (.invokevirtual 29, 3) := by decide +kernel
theorem kd_W_hasTypes_33 : decode kc_W_hasTypes 33 = .ok (.ifCond .ne 5, 3) := by decide +kernel
theorem kd_W_hasTypes_36 : decode kc_W_hasTypes 36 = .ok (.iconst 0, 1) := by decide +kernel
theorem kd_W_hasTypes_37 : decode kc_W_hasTypes 37 = .ok (.ireturn, 1) := by decide +kernel
theorem kd_W_hasTypes_38 : decode kc_W_hasTypes 38 = .ok (.iinc 3 1, 3) := by decide +kernel
theorem kd_W_hasTypes_41 : decode kc_W_hasTypes 41 = .ok (.goto (-23), 3) := by decide +kernel
theorem kd_W_hasTypes_44 : decode kc_W_hasTypes 44 = .ok (.iconst 1, 1) := by decide +kernel
theorem kd_W_hasTypes_45 : decode kc_W_hasTypes 45 = .ok (.ireturn, 1) := by decide +kernel
theorem kd_B_typeAt_0 : decode kc_B_typeAt 0 = .ok (.iload_n 0, 1) := by decide +kernel
theorem kd_B_typeAt_1 : decode kc_B_typeAt 1 = .ok (.bipush 8, 2) := by decide +kernel
theorem kd_B_typeAt_3 : decode kc_B_typeAt 3 = .ok (.iload_n 1, 1) := by decide +kernel
theorem kd_B_typeAt_4 : decode kc_B_typeAt 4 = .ok (.iconst 1, 1) := by decide +kernel
theorem kd_B_typeAt_5 : decode kc_B_typeAt 5 = .ok (.isub, 1) := by decide +kernel
theorem kd_B_typeAt_6 : decode kc_B_typeAt 6 = .ok (.iload_n 2, 1) := by decide +kernel
theorem kd_B_typeAt_7 : decode kc_B_typeAt 7 = .ok (.isub, 1) := by decide +kernel
theorem kd_B_typeAt_8 : decode kc_B_typeAt 8 = .ok (.imul, 1) := by decide +kernel
theorem kd_B_typeAt_9 : decode kc_B_typeAt 9 = .ok (.iushr, 1) := by decide +kernel
theorem kd_B_typeAt_10 : decode kc_B_typeAt 10 = .ok (.sipush 255, 3) := by decide +kernel
theorem kd_B_typeAt_13 : decode kc_B_typeAt 13 = .ok (.iand, 1) := by decide +kernel
theorem kd_B_typeAt_14 : decode kc_B_typeAt 14 = .ok (.ireturn, 1) := by decide +kernel
theorem kd_W_hasType_0 : decode kc_W_hasType 0 = .ok (.iload_n 1, 1) := by decide +kernel
theorem kd_W_hasType_1 : decode kc_W_hasType 1 = .ok (.ifCond .lt 18, 3) := by decide +kernel
theorem kd_W_hasType_4 : decode kc_W_hasType 4 = .ok (.iload_n 1, 1) := by decide +kernel
theorem kd_W_hasType_5 : decode kc_W_hasType 5 = .ok (.bipush 6, 2) := by decide +kernel
theorem kd_W_hasType_7 : decode kc_W_hasType 7 = .ok (.aload_n 0, 1) := by decide +kernel
theorem kd_W_hasType_8 : decode kc_W_hasType 8 = .ok (.getfield 18, 3) := by decide +kernel
theorem kd_W_hasType_11 : decode kc_W_hasType 11 = .ok (.iadd, 1) := by decide +kernel
theorem kd_W_hasType_12 : decode kc_W_hasType 12 = .ok (.if_icmp .ge 7, 3) := by decide +kernel
theorem kd_W_hasType_15 : decode kc_W_hasType 15 = .ok (.iconst 1, 1) := by decide +kernel
theorem kd_W_hasType_16 : decode kc_W_hasType 16 = .ok (.goto 4, 3) := by decide +kernel
theorem kd_W_hasType_19 : decode kc_W_hasType 19 = .ok (.iconst 0, 1) := by decide +kernel
theorem kd_W_hasType_20 : decode kc_W_hasType 20 = .ok (.ireturn, 1) := by decide +kernel
theorem kd_M_find_0 : decode kc_M_find 0 = .ok (.iconst 0, 1) := by decide +kernel
theorem kd_M_find_1 : decode kc_M_find 1 = .ok (.istore 5, 2) := by decide +kernel
theorem kd_M_find_3 : decode kc_M_find 3 = .ok (.iload 5, 2) := by decide +kernel
theorem kd_M_find_5 : decode kc_M_find 5 = .ok (.aload_n 0, 1) := by decide +kernel
theorem kd_M_find_6 : decode kc_M_find 6 = .ok (.getfield 24, 3) := by decide +kernel
theorem kd_M_find_9 : decode kc_M_find 9 = .ok (.if_icmp .ge 36, 3) := by decide +kernel
theorem kd_M_find_12 : decode kc_M_find 12 = .ok (.aload_n 0, 1) := by decide +kernel
theorem kd_M_find_13 : decode kc_M_find 13 = .ok (.iload 5, 2) := by decide +kernel
theorem kd_M_find_15 : decode kc_M_find 15 = .ok (.iload_n 1, 1) := by decide +kernel
theorem kd_M_find_16 : decode kc_M_find 16 = .ok (.iload_n 2, 1) := by decide +kernel
theorem kd_M_find_17 : decode kc_M_find 17 = .ok (.iload_n 3, 1) := by decide +kernel
theorem kd_M_find_18 : decode kc_M_find 18 = .ok (.invokevirtual 28, 3) := by decide +kernel
theorem kd_M_find_21 : decode kc_M_find 21 = .ok (.ifCond .eq 18, 3) := by decide +kernel
theorem kd_M_find_24 : decode kc_M_find 24 = .ok (.aload_n 0, 1) := by decide +kernel
theorem kd_M_find_25 : decode kc_M_find 25 = .ok (.getfield 21, 3) := by decide +kernel
theorem kd_M_find_28 : decode kc_M_find 28 = .ok (.iload 5, 2) := by decide +kernel
theorem kd_M_find_30 : decode kc_M_find 30 = .ok (.iaload, 1) := by decide +kernel
theorem kd_M_find_31 : decode kc_M_find 31 = .ok (.iload 4, 2) := by decide +kernel
theorem kd_M_find_33 : decode kc_M_find 33 = .ok (.if_icmp .ne 6, 3) := by decide +kernel
theorem kd_M_find_36 : decode kc_M_find 36 = .ok (.iload 5, 2) := by decide +kernel
theorem kd_M_find_38 : decode kc_M_find 38 = .ok (.ireturn, 1) := by decide +kernel
theorem kd_M_find_39 : decode kc_M_find 39 = .ok (.iinc 5 1, 3) := by decide +kernel
theorem kd_M_find_42 : decode kc_M_find 42 = .ok (.goto (-39), 3) := by decide +kernel
theorem kd_M_find_45 : decode kc_M_find 45 = .ok (.iconst (-1), 1) := by decide +kernel
theorem kd_M_find_46 : decode kc_M_find 46 = .ok (.ireturn, 1) := by decide +kernel
theorem kd_M_isCalled_0 : decode kc_M_isCalled 0 = .ok (.aload_n 0, 1) := by decide +kernel
theorem kd_M_isCalled_1 : decode kc_M_isCalled 1 = .ok (.getfield 9, 3) := by decide +kernel
theorem kd_M_isCalled_4 : decode kc_M_isCalled 4 = .ok (.iload_n 1, 1) := by decide +kernel
theorem kd_M_isCalled_5 : decode kc_M_isCalled 5 = .ok (.iaload, 1) := by decide +kernel
theorem kd_M_isCalled_6 : decode kc_M_isCalled 6 = .ok (.iload_n 2, 1) := by decide +kernel
theorem kd_M_isCalled_7 : decode kc_M_isCalled 7 = .ok (.if_icmp .ne 28, 3) := by decide +kernel
theorem kd_M_isCalled_10 : decode kc_M_isCalled 10 = .ok (.aload_n 0, 1) := by decide +kernel
theorem kd_M_isCalled_11 : decode kc_M_isCalled 11 = .ok (.getfield 15, 3) := by decide +kernel
theorem kd_M_isCalled_14 : decode kc_M_isCalled 14 = .ok (.iload_n 1, 1) := by decide +kernel
theorem kd_M_isCalled_15 : decode kc_M_isCalled 15 = .ok (.iaload, 1) := by decide +kernel
theorem kd_M_isCalled_16 : decode kc_M_isCalled 16 = .ok (.iload_n 3, 1) := by decide +kernel
theorem kd_M_isCalled_17 : decode kc_M_isCalled 17 = .ok (.if_icmp .ne 18, 3) := by decide +kernel
theorem kd_M_isCalled_20 : decode kc_M_isCalled 20 = .ok (.aload_n 0, 1) := by decide +kernel
theorem kd_M_isCalled_21 : decode kc_M_isCalled 21 = .ok (.getfield 18, 3) := by decide +kernel
theorem kd_M_isCalled_24 : decode kc_M_isCalled 24 = .ok (.iload_n 1, 1) := by decide +kernel
theorem kd_M_isCalled_25 : decode kc_M_isCalled 25 = .ok (.iaload, 1) := by decide +kernel
theorem kd_M_isCalled_26 : decode kc_M_isCalled 26 = .ok (.iload 4, 2) := by decide +kernel
theorem kd_M_isCalled_28 : decode kc_M_isCalled 28 = .ok (.if_icmp .ne 7, 3) := by decide +kernel
theorem kd_M_isCalled_31 : decode kc_M_isCalled 31 = .ok (.iconst 1, 1) := by decide +kernel
theorem kd_M_isCalled_32 : decode kc_M_isCalled 32 = .ok (.goto 4, 3) := by decide +kernel
theorem kd_M_isCalled_35 : decode kc_M_isCalled 35 = .ok (.iconst 0, 1) := by decide +kernel
theorem kd_M_isCalled_36 : decode kc_M_isCalled 36 = .ok (.ireturn, 1) := by decide +kernel
theorem kd_M_add_0 : decode kc_M_add 0 = .ok (.aload_n 0, 1) := by decide +kernel
theorem kd_M_add_1 : decode kc_M_add 1 = .ok (.getfield 9, 3) := by decide +kernel
theorem kd_M_add_4 : decode kc_M_add 4 = .ok (.aload_n 0, 1) := by decide +kernel
theorem kd_M_add_5 : decode kc_M_add 5 = .ok (.getfield 24, 3) := by decide +kernel
theorem kd_M_add_8 : decode kc_M_add 8 = .ok (.iload_n 1, 1) := by decide +kernel
theorem kd_M_add_9 : decode kc_M_add 9 = .ok (.iastore, 1) := by decide +kernel
theorem kd_M_add_10 : decode kc_M_add 10 = .ok (.aload_n 0, 1) := by decide +kernel
theorem kd_M_add_11 : decode kc_M_add 11 = .ok (.getfield 15, 3) := by decide +kernel
theorem kd_M_add_14 : decode kc_M_add 14 = .ok (.aload_n 0, 1) := by decide +kernel
theorem kd_M_add_15 : decode kc_M_add 15 = .ok (.getfield 24, 3) := by decide +kernel
theorem kd_M_add_18 : decode kc_M_add 18 = .ok (.iload_n 2, 1) := by decide +kernel
theorem kd_M_add_19 : decode kc_M_add 19 = .ok (.iastore, 1) := by decide +kernel
theorem kd_M_add_20 : decode kc_M_add 20 = .ok (.aload_n 0, 1) := by decide +kernel
theorem kd_M_add_21 : decode kc_M_add 21 = .ok (.getfield 18, 3) := by decide +kernel
theorem kd_M_add_24 : decode kc_M_add 24 = .ok (.aload_n 0, 1) := by decide +kernel
theorem kd_M_add_25 : decode kc_M_add 25 = .ok (.getfield 24, 3) := by decide +kernel
theorem kd_M_add_28 : decode kc_M_add 28 = .ok (.iload_n 3, 1) := by decide +kernel
theorem kd_M_add_29 : decode kc_M_add 29 = .ok (.iastore, 1) := by decide +kernel
theorem kd_M_add_30 : decode kc_M_add 30 = .ok (.aload_n 0, 1) := by decide +kernel
theorem kd_M_add_31 : decode kc_M_add 31 = .ok (.getfield 21, 3) := by decide +kernel
theorem kd_M_add_34 : decode kc_M_add 34 = .ok (.aload_n 0, 1) := by decide +kernel
theorem kd_M_add_35 : decode kc_M_add 35 = .ok (.getfield 24, 3) := by decide +kernel
theorem kd_M_add_38 : decode kc_M_add 38 = .ok (.iload 4, 2) := by decide +kernel
theorem kd_M_add_40 : decode kc_M_add 40 = .ok (.iastore, 1) := by decide +kernel
theorem kd_M_add_41 : decode kc_M_add 41 = .ok (.aload_n 0, 1) := by decide +kernel
theorem kd_M_add_42 : decode kc_M_add 42 = .ok (.dup, 1) := by decide +kernel
theorem kd_M_add_43 : decode kc_M_add 43 = .ok (.getfield 24, 3) := by decide +kernel
theorem kd_M_add_46 : decode kc_M_add 46 = .ok (.iconst 1, 1) := by decide +kernel
theorem kd_M_add_47 : decode kc_M_add 47 = .ok (.iadd, 1) := by decide +kernel
theorem kd_M_add_48 : decode kc_M_add 48 = .ok (.putfield 24, 3) := by decide +kernel
theorem kd_M_add_51 : decode kc_M_add 51 = .ok (.aload_n 0, 1) := by decide +kernel
theorem kd_M_add_52 : decode kc_M_add 52 = .ok (.getfield 24, 3) := by decide +kernel
theorem kd_M_add_55 : decode kc_M_add 55 = .ok (.iconst 1, 1) := by decide +kernel
theorem kd_M_add_56 : decode kc_M_add 56 = .ok (.isub, 1) := by decide +kernel
theorem kd_M_add_57 : decode kc_M_add 57 = .ok (.ireturn, 1) := by decide +kernel
theorem kd_B_object_0 : decode kc_B_object 0 = .ok (.aload_n 0, 1) := by decide +kernel
theorem kd_B_object_1 : decode kc_B_object 1 = .ok (.getfield 10, 3) := by decide +kernel
theorem kd_B_object_4 : decode kc_B_object 4 = .ok (.iload_n 1, 1) := by decide +kernel
theorem kd_B_object_5 : decode kc_B_object 5 = .ok (.invokevirtual 55, 3) := by decide +kernel
theorem kd_B_object_8 : decode kc_B_object 8 = .ok (.ifCond .ne 13, 3) := by decide +kernel
theorem kd_B_object_11 : decode kc_B_object 11 = .ok (.new 59, 3) := by decide +kernel
theorem kd_B_object_14 : decode kc_B_object 14 = .ok (.dup, 1) := by decide +kernel
theorem kd_B_object_15 : decode kc_B_object 15 = .ok (.ldc 79, 2) := by decide +kernel
theorem kd_B_object_17 : decode kc_B_object 17 = .ok (.invokespecial 63, 3) := by decide +kernel
theorem kd_B_object_20 : decode kc_B_object 20 = .ok (.athrow, 1) := by decide +kernel
theorem kd_B_object_21 : decode kc_B_object 21 = .ok (.aload_n 0, 1) := by decide +kernel
theorem kd_B_object_22 : decode kc_B_object 22 = .ok (.getfield 10, 3) := by decide +kernel
theorem kd_B_object_25 : decode kc_B_object 25 = .ok (.getfield 111, 3) := by decide +kernel
theorem kd_B_object_28 : decode kc_B_object 28 = .ok (.bipush 64, 2) := by decide +kernel
theorem kd_B_object_30 : decode kc_B_object 30 = .ok (.if_icmp .lt 13, 3) := by decide +kernel
theorem kd_B_object_33 : decode kc_B_object 33 = .ok (.new 70, 3) := by decide +kernel
theorem kd_B_object_36 : decode kc_B_object 36 = .ok (.dup, 1) := by decide +kernel
theorem kd_B_object_37 : decode kc_B_object 37 = .ok (.ldc 114, 2) := by decide +kernel
theorem kd_B_object_39 : decode kc_B_object 39 = .ok (.invokespecial 74, 3) := by decide +kernel
theorem kd_B_object_42 : decode kc_B_object 42 = .ok (.athrow, 1) := by decide +kernel
theorem kd_B_object_43 : decode kc_B_object 43 = .ok (.aload_n 0, 1) := by decide +kernel
theorem kd_B_object_44 : decode kc_B_object 44 = .ok (.getfield 10, 3) := by decide +kernel
theorem kd_B_object_47 : decode kc_B_object 47 = .ok (.iload_n 1, 1) := by decide +kernel
theorem kd_B_object_48 : decode kc_B_object 48 = .ok (.invokevirtual 116, 3) := by decide +kernel
theorem kd_B_object_51 : decode kc_B_object 51 = .ok (.ireturn, 1) := by decide +kernel
theorem kd_W_addObject_0 : decode kc_W_addObject 0 = .ok (.aload_n 0, 1) := by decide +kernel
theorem kd_W_addObject_1 : decode kc_W_addObject 1 = .ok (.getfield 15, 3) := by decide +kernel
theorem kd_W_addObject_4 : decode kc_W_addObject 4 = .ok (.aload_n 0, 1) := by decide +kernel
theorem kd_W_addObject_5 : decode kc_W_addObject 5 = .ok (.getfield 22, 3) := by decide +kernel
theorem kd_W_addObject_8 : decode kc_W_addObject 8 = .ok (.iload_n 1, 1) := by decide +kernel
theorem kd_W_addObject_9 : decode kc_W_addObject 9 = .ok (.iastore, 1) := by decide +kernel
theorem kd_W_addObject_10 : decode kc_W_addObject 10 = .ok (.aload_n 0, 1) := by decide +kernel
theorem kd_W_addObject_11 : decode kc_W_addObject 11 = .ok (.dup, 1) := by decide +kernel
theorem kd_W_addObject_12 : decode kc_W_addObject 12 = .ok (.getfield 22, 3) := by decide +kernel
theorem kd_W_addObject_15 : decode kc_W_addObject 15 = .ok (.iconst 1, 1) := by decide +kernel
theorem kd_W_addObject_16 : decode kc_W_addObject 16 = .ok (.iadd, 1) := by decide +kernel
theorem kd_W_addObject_17 : decode kc_W_addObject 17 = .ok (.putfield 22, 3) := by decide +kernel
theorem kd_W_addObject_20 : decode kc_W_addObject 20 = .ok (.aload_n 0, 1) := by decide +kernel
theorem kd_W_addObject_21 : decode kc_W_addObject 21 = .ok (.getfield 22, 3) := by decide +kernel
theorem kd_W_addObject_24 : decode kc_W_addObject 24 = .ok (.iconst 1, 1) := by decide +kernel
theorem kd_W_addObject_25 : decode kc_W_addObject 25 = .ok (.isub, 1) := by decide +kernel
theorem kd_W_addObject_26 : decode kc_W_addObject 26 = .ok (.ireturn, 1) := by decide +kernel
theorem kd_B_argument_0 : decode kc_B_argument 0 = .ok (.aload_n 0, 1) := by decide +kernel
theorem kd_B_argument_1 : decode kc_B_argument 1 = .ok (.iload_n 1, 1) := by decide +kernel
theorem kd_B_argument_2 : decode kc_B_argument 2 = .ok (.lload_n 2, 1) := by decide +kernel
theorem kd_B_argument_3 : decode kc_B_argument 3 = .ok (.invokevirtual 119, 3) := by decide +kernel
theorem kd_B_argument_6 : decode kc_B_argument 6 = .ok (.ifCond .ne 13, 3) := by decide +kernel
theorem kd_B_argument_9 : decode kc_B_argument 9 = .ok (.new 59, 3) := by decide +kernel
theorem kd_B_argument_12 : decode kc_B_argument 12 = .ok (.dup, 1) := by decide +kernel
theorem kd_B_argument_13 : decode kc_B_argument 13 = .ok (.ldc 123, 2) := by decide +kernel
theorem kd_B_argument_15 : decode kc_B_argument 15 = .ok (.invokespecial 63, 3) := by decide +kernel
theorem kd_B_argument_18 : decode kc_B_argument 18 = .ok (.athrow, 1) := by decide +kernel
theorem kd_B_argument_19 : decode kc_B_argument 19 = .ok (.aload_n 0, 1) := by decide +kernel
theorem kd_B_argument_20 : decode kc_B_argument 20 = .ok (.getfield 28, 3) := by decide +kernel
theorem kd_B_argument_23 : decode kc_B_argument 23 = .ok (.getfield 125, 3) := by decide +kernel
theorem kd_B_argument_26 : decode kc_B_argument 26 = .ok (.iconst 4, 1) := by decide +kernel
theorem kd_B_argument_27 : decode kc_B_argument 27 = .ok (.if_icmp .lt 13, 3) := by decide +kernel
theorem kd_B_argument_30 : decode kc_B_argument 30 = .ok (.new 70, 3) := by decide +kernel
theorem kd_B_argument_33 : decode kc_B_argument 33 = .ok (.dup, 1) := by decide +kernel
theorem kd_B_argument_34 : decode kc_B_argument 34 = .ok (.ldc 126, 2) := by decide +kernel
theorem kd_B_argument_36 : decode kc_B_argument 36 = .ok (.invokespecial 74, 3) := by decide +kernel
theorem kd_B_argument_39 : decode kc_B_argument 39 = .ok (.athrow, 1) := by decide +kernel
theorem kd_B_argument_40 : decode kc_B_argument 40 = .ok (.aload_n 0, 1) := by decide +kernel
theorem kd_B_argument_41 : decode kc_B_argument 41 = .ok (.getfield 28, 3) := by decide +kernel
theorem kd_B_argument_44 : decode kc_B_argument 44 = .ok (.iload_n 1, 1) := by decide +kernel
theorem kd_B_argument_45 : decode kc_B_argument 45 = .ok (.lload_n 2, 1) := by decide +kernel
theorem kd_B_argument_46 : decode kc_B_argument 46 = .ok (.invokevirtual 128, 3) := by decide +kernel
theorem kd_B_argument_49 : decode kc_B_argument 49 = .ok (.ireturn, 1) := by decide +kernel
theorem kd_B_isValue_0 : decode kc_B_isValue 0 = .ok (.iload_n 1, 1) := by decide +kernel
theorem kd_B_isValue_1 : decode kc_B_isValue 1 = .ok (.tableswitch 100 0 6 #[43, 43, 45, 43, 63, 75, 63], 43) := by decide +kernel
theorem kd_B_isValue_44 : decode kc_B_isValue 44 = .ok (.iconst 1, 1) := by decide +kernel
theorem kd_B_isValue_45 : decode kc_B_isValue 45 = .ok (.ireturn, 1) := by decide +kernel
theorem kd_B_isValue_46 : decode kc_B_isValue 46 = .ok (.lload_n 2, 1) := by decide +kernel
theorem kd_B_isValue_47 : decode kc_B_isValue 47 = .ok (.lconst 0, 1) := by decide +kernel
theorem kd_B_isValue_48 : decode kc_B_isValue 48 = .ok (.lcmp, 1) := by decide +kernel
theorem kd_B_isValue_49 : decode kc_B_isValue 49 = .ok (.ifCond .eq 9, 3) := by decide +kernel
theorem kd_B_isValue_52 : decode kc_B_isValue 52 = .ok (.lload_n 2, 1) := by decide +kernel
theorem kd_B_isValue_53 : decode kc_B_isValue 53 = .ok (.lconst 1, 1) := by decide +kernel
theorem kd_B_isValue_54 : decode kc_B_isValue 54 = .ok (.lcmp, 1) := by decide +kernel
theorem kd_B_isValue_55 : decode kc_B_isValue 55 = .ok (.ifCond .ne 7, 3) := by decide +kernel
theorem kd_B_isValue_58 : decode kc_B_isValue 58 = .ok (.iconst 1, 1) := by decide +kernel
theorem kd_B_isValue_59 : decode kc_B_isValue 59 = .ok (.goto 4, 3) := by decide +kernel
theorem kd_B_isValue_62 : decode kc_B_isValue 62 = .ok (.iconst 0, 1) := by decide +kernel
theorem kd_B_isValue_63 : decode kc_B_isValue 63 = .ok (.ireturn, 1) := by decide +kernel
theorem kd_B_isValue_64 : decode kc_B_isValue 64 = .ok (.lload_n 2, 1) := by decide +kernel
theorem kd_B_isValue_65 : decode kc_B_isValue 65 = .ok (.lconst 0, 1) := by decide +kernel
theorem kd_B_isValue_66 : decode kc_B_isValue 66 = .ok (.lcmp, 1) := by decide +kernel
theorem kd_B_isValue_67 : decode kc_B_isValue 67 = .ok (.ifCond .lt 7, 3) := by decide +kernel
theorem kd_B_isValue_70 : decode kc_B_isValue 70 = .ok (.iconst 1, 1) := by decide +kernel
theorem kd_B_isValue_71 : decode kc_B_isValue 71 = .ok (.goto 4, 3) := by decide +kernel
theorem kd_B_isValue_74 : decode kc_B_isValue 74 = .ok (.iconst 0, 1) := by decide +kernel
theorem kd_B_isValue_75 : decode kc_B_isValue 75 = .ok (.ireturn, 1) := by decide +kernel
theorem kd_B_isValue_76 : decode kc_B_isValue 76 = .ok (.lload_n 2, 1) := by decide +kernel
theorem kd_B_isValue_77 : decode kc_B_isValue 77 = .ok (.lconst 0, 1) := by decide +kernel
theorem kd_B_isValue_78 : decode kc_B_isValue 78 = .ok (.lcmp, 1) := by decide +kernel
theorem kd_B_isValue_79 : decode kc_B_isValue 79 = .ok (.ifCond .lt 20, 3) := by decide +kernel
theorem kd_B_isValue_82 : decode kc_B_isValue 82 = .ok (.lload_n 2, 1) := by decide +kernel
theorem kd_B_isValue_83 : decode kc_B_isValue 83 = .ok (.aload_n 0, 1) := by decide +kernel
theorem kd_B_isValue_84 : decode kc_B_isValue 84 = .ok (.getfield 10, 3) := by decide +kernel
theorem kd_B_isValue_87 : decode kc_B_isValue 87 = .ok (.getfield 111, 3) := by decide +kernel
theorem kd_B_isValue_90 : decode kc_B_isValue 90 = .ok (.i2l, 1) := by decide +kernel
theorem kd_B_isValue_91 : decode kc_B_isValue 91 = .ok (.lcmp, 1) := by decide +kernel
theorem kd_B_isValue_92 : decode kc_B_isValue 92 = .ok (.ifCond .ge 7, 3) := by decide +kernel
theorem kd_B_isValue_95 : decode kc_B_isValue 95 = .ok (.iconst 1, 1) := by decide +kernel
theorem kd_B_isValue_96 : decode kc_B_isValue 96 = .ok (.goto 4, 3) := by decide +kernel
theorem kd_B_isValue_99 : decode kc_B_isValue 99 = .ok (.iconst 0, 1) := by decide +kernel
theorem kd_B_isValue_100 : decode kc_B_isValue 100 = .ok (.ireturn, 1) := by decide +kernel
theorem kd_B_isValue_101 : decode kc_B_isValue 101 = .ok (.iconst 0, 1) := by decide +kernel
theorem kd_B_isValue_102 : decode kc_B_isValue 102 = .ok (.ireturn, 1) := by decide +kernel
theorem kd_B_weight_0 : decode kc_B_weight 0 = .ok (.iload_n 1, 1) := by decide +kernel
theorem kd_B_weight_1 : decode kc_B_weight 1 = .ok (.ifCond .lt 14, 3) := by decide +kernel
theorem kd_B_weight_4 : decode kc_B_weight 4 = .ok (.iload_n 1, 1) := by decide +kernel
theorem kd_B_weight_5 : decode kc_B_weight 5 = .ok (.aload_n 0, 1) := by decide +kernel
theorem kd_B_weight_6 : decode kc_B_weight 6 = .ok (.getfield 28, 3) := by decide +kernel
theorem kd_B_weight_9 : decode kc_B_weight 9 = .ok (.getfield 125, 3) := by decide +kernel
theorem kd_B_weight_12 : decode kc_B_weight 12 = .ok (.if_icmp .lt 13, 3) := by decide +kernel
theorem kd_B_weight_15 : decode kc_B_weight 15 = .ok (.new 59, 3) := by decide +kernel
theorem kd_B_weight_18 : decode kc_B_weight 18 = .ok (.dup, 1) := by decide +kernel
theorem kd_B_weight_19 : decode kc_B_weight 19 = .ok (.ldc 131, 2) := by decide +kernel
theorem kd_B_weight_21 : decode kc_B_weight 21 = .ok (.invokespecial 63, 3) := by decide +kernel
theorem kd_B_weight_24 : decode kc_B_weight 24 = .ok (.athrow, 1) := by decide +kernel
theorem kd_B_weight_25 : decode kc_B_weight 25 = .ok (.aload_n 0, 1) := by decide +kernel
theorem kd_B_weight_26 : decode kc_B_weight 26 = .ok (.getfield 10, 3) := by decide +kernel
theorem kd_B_weight_29 : decode kc_B_weight 29 = .ok (.iload_n 2, 1) := by decide +kernel
theorem kd_B_weight_30 : decode kc_B_weight 30 = .ok (.invokevirtual 92, 3) := by decide +kernel
theorem kd_B_weight_33 : decode kc_B_weight 33 = .ok (.ifCond .ne 13, 3) := by decide +kernel
theorem kd_B_weight_36 : decode kc_B_weight 36 = .ok (.new 59, 3) := by decide +kernel
theorem kd_B_weight_39 : decode kc_B_weight 39 = .ok (.dup, 1) := by decide +kernel
theorem kd_B_weight_40 : decode kc_B_weight 40 = .ok (.ldc 95, 2) := by decide +kernel
theorem kd_B_weight_42 : decode kc_B_weight 42 = .ok (.invokespecial 63, 3) := by decide +kernel
theorem kd_B_weight_45 : decode kc_B_weight 45 = .ok (.athrow, 1) := by decide +kernel
theorem kd_B_weight_46 : decode kc_B_weight 46 = .ok (.aload_n 0, 1) := by decide +kernel
theorem kd_B_weight_47 : decode kc_B_weight 47 = .ok (.getfield 28, 3) := by decide +kernel
theorem kd_B_weight_50 : decode kc_B_weight 50 = .ok (.iload_n 1, 1) := by decide +kernel
theorem kd_B_weight_51 : decode kc_B_weight 51 = .ok (.iload_n 2, 1) := by decide +kernel
theorem kd_B_weight_52 : decode kc_B_weight 52 = .ok (.invokevirtual 133, 3) := by decide +kernel
theorem kd_B_weight_55 : decode kc_B_weight 55 = .ok (.ireturn, 1) := by decide +kernel
theorem kd_W_distance_0 : decode kc_W_distance 0 = .ok (.iload_n 1, 1) := by decide +kernel
theorem kd_W_distance_1 : decode kc_W_distance 1 = .ok (.istore_n 3, 1) := by decide +kernel
theorem kd_W_distance_2 : decode kc_W_distance 2 = .ok (.iconst 0, 1) := by decide +kernel
theorem kd_W_distance_3 : decode kc_W_distance 3 = .ok (.istore 4, 2) := by decide +kernel
theorem kd_W_distance_5 : decode kc_W_distance 5 = .ok (.iload 4, 2) := by decide +kernel
theorem kd_W_distance_7 : decode kc_W_distance 7 = .ok (.bipush 16, 2) := by decide +kernel
theorem kd_W_distance_9 : decode kc_W_distance 9 = .ok (.if_icmp .ge 29, 3) := by decide +kernel
theorem kd_W_distance_12 : decode kc_W_distance 12 = .ok (.iload_n 3, 1) := by decide +kernel
theorem kd_W_distance_13 : decode kc_W_distance 13 = .ok (.iconst (-1), 1) := by decide +kernel
theorem kd_W_distance_14 : decode kc_W_distance 14 = .ok (.if_icmp .eq 24, 3) := by decide +kernel
theorem kd_W_distance_17 : decode kc_W_distance 17 = .ok (.iload_n 3, 1) := by decide +kernel
theorem kd_W_distance_18 : decode kc_W_distance 18 = .ok (.iload_n 2, 1) := by decide +kernel
theorem kd_W_distance_19 : decode kc_W_distance 19 = .ok (.if_icmp .ne 6, 3) := by decide +kernel
theorem kd_W_distance_22 : decode kc_W_distance 22 = .ok (.iload 4, 2) := by decide +kernel
theorem kd_W_distance_24 : decode kc_W_distance 24 = .ok (.ireturn, 1) := by decide +kernel
theorem kd_W_distance_25 : decode kc_W_distance 25 = .ok (.aload_n 0, 1) := by decide +kernel
theorem kd_W_distance_26 : decode kc_W_distance 26 = .ok (.getfield 9, 3) := by decide +kernel
theorem kd_W_distance_29 : decode kc_W_distance 29 = .ok (.iload_n 3, 1) := by decide +kernel
theorem kd_W_distance_30 : decode kc_W_distance 30 = .ok (.iaload, 1) := by decide +kernel
theorem kd_W_distance_31 : decode kc_W_distance 31 = .ok (.istore_n 3, 1) := by decide +kernel
theorem kd_W_distance_32 : decode kc_W_distance 32 = .ok (.iinc 4 1, 3) := by decide +kernel
theorem kd_W_distance_35 : decode kc_W_distance 35 = .ok (.goto (-30), 3) := by decide +kernel
theorem kd_W_distance_38 : decode kc_W_distance 38 = .ok (.iconst (-1), 1) := by decide +kernel
theorem kd_W_distance_39 : decode kc_W_distance 39 = .ok (.ireturn, 1) := by decide +kernel
theorem kd_B_call_0 : decode kc_B_call 0 = .ok (.aload_n 0, 1) := by decide +kernel
theorem kd_B_call_1 : decode kc_B_call 1 = .ok (.getfield 28, 3) := by decide +kernel
theorem kd_B_call_4 : decode kc_B_call 4 = .ok (.invokevirtual 137, 3) := by decide +kernel
theorem kd_B_call_7 : decode kc_B_call 7 = .ok (.istore_n 3, 1) := by decide +kernel
theorem kd_B_call_8 : decode kc_B_call 8 = .ok (.aload_n 0, 1) := by decide +kernel
theorem kd_B_call_9 : decode kc_B_call 9 = .ok (.getfield 10, 3) := by decide +kernel
theorem kd_B_call_12 : decode kc_B_call 12 = .ok (.iload_n 1, 1) := by decide +kernel
theorem kd_B_call_13 : decode kc_B_call 13 = .ok (.invokevirtual 141, 3) := by decide +kernel
theorem kd_B_call_16 : decode kc_B_call 16 = .ok (.ifCond .ne 13, 3) := by decide +kernel
theorem kd_B_call_19 : decode kc_B_call 19 = .ok (.new 59, 3) := by decide +kernel
theorem kd_B_call_22 : decode kc_B_call 22 = .ok (.dup, 1) := by decide +kernel
theorem kd_B_call_23 : decode kc_B_call 23 = .ok (.ldc 144, 2) := by decide +kernel
theorem kd_B_call_25 : decode kc_B_call 25 = .ok (.invokespecial 63, 3) := by decide +kernel
theorem kd_B_call_28 : decode kc_B_call 28 = .ok (.athrow, 1) := by decide +kernel
theorem kd_B_call_29 : decode kc_B_call 29 = .ok (.iload_n 2, 1) := by decide +kernel
theorem kd_B_call_30 : decode kc_B_call 30 = .ok (.invokestatic 81, 3) := by decide +kernel
theorem kd_B_call_33 : decode kc_B_call 33 = .ok (.ifCond .ne 13, 3) := by decide +kernel
theorem kd_B_call_36 : decode kc_B_call 36 = .ok (.new 59, 3) := by decide +kernel
theorem kd_B_call_39 : decode kc_B_call 39 = .ok (.dup, 1) := by decide +kernel
theorem kd_B_call_40 : decode kc_B_call 40 = .ok (.ldc 84, 2) := by decide +kernel
theorem kd_B_call_42 : decode kc_B_call 42 = .ok (.invokespecial 63, 3) := by decide +kernel
theorem kd_B_call_45 : decode kc_B_call 45 = .ok (.athrow, 1) := by decide +kernel
theorem kd_B_call_46 : decode kc_B_call 46 = .ok (.aload_n 0, 1) := by decide +kernel
theorem kd_B_call_47 : decode kc_B_call 47 = .ok (.getfield 37, 3) := by decide +kernel
theorem kd_B_call_50 : decode kc_B_call 50 = .ok (.aload_n 0, 1) := by decide +kernel
theorem kd_B_call_51 : decode kc_B_call 51 = .ok (.getfield 10, 3) := by decide +kernel
theorem kd_B_call_54 : decode kc_B_call 54 = .ok (.getfield 146, 3) := by decide +kernel
theorem kd_B_call_57 : decode kc_B_call 57 = .ok (.iload_n 1, 1) := by decide +kernel
theorem kd_B_call_58 : decode kc_B_call 58 = .ok (.iaload, 1) := by decide +kernel
theorem kd_B_call_59 : decode kc_B_call 59 = .ok (.iload_n 2, 1) := by decide +kernel
theorem kd_B_call_60 : decode kc_B_call 60 = .ok (.iload_n 3, 1) := by decide +kernel
theorem kd_B_call_61 : decode kc_B_call 61 = .ok (.invokevirtual 150, 3) := by decide +kernel
theorem kd_B_call_64 : decode kc_B_call 64 = .ok (.aload_n 0, 1) := by decide +kernel
theorem kd_B_call_65 : decode kc_B_call 65 = .ok (.getfield 37, 3) := by decide +kernel
theorem kd_B_call_68 : decode kc_B_call 68 = .ok (.getfield 154, 3) := by decide +kernel
theorem kd_B_call_71 : decode kc_B_call 71 = .ok (.ifCond .ne 13, 3) := by decide +kernel
theorem kd_B_call_74 : decode kc_B_call 74 = .ok (.new 155, 3) := by decide +kernel
theorem kd_B_call_77 : decode kc_B_call 77 = .ok (.dup, 1) := by decide +kernel
theorem kd_B_call_78 : decode kc_B_call 78 = .ok (.ldc 157, 2) := by decide +kernel
theorem kd_B_call_80 : decode kc_B_call 80 = .ok (.invokespecial 159, 3) := by decide +kernel
theorem kd_B_call_83 : decode kc_B_call 83 = .ok (.athrow, 1) := by decide +kernel
theorem kd_B_call_84 : decode kc_B_call 84 = .ok (.aload_n 0, 1) := by decide +kernel
theorem kd_B_call_85 : decode kc_B_call 85 = .ok (.getfield 37, 3) := by decide +kernel
theorem kd_B_call_88 : decode kc_B_call 88 = .ok (.iload_n 3, 1) := by decide +kernel
theorem kd_B_call_89 : decode kc_B_call 89 = .ok (.invokevirtual 160, 3) := by decide +kernel
theorem kd_B_call_92 : decode kc_B_call 92 = .ok (.istore 4, 2) := by decide +kernel
theorem kd_B_call_94 : decode kc_B_call 94 = .ok (.iload 4, 2) := by decide +kernel
theorem kd_B_call_96 : decode kc_B_call 96 = .ok (.iconst (-1), 1) := by decide +kernel
theorem kd_B_call_97 : decode kc_B_call 97 = .ok (.if_icmp .ne 13, 3) := by decide +kernel
theorem kd_B_call_100 : decode kc_B_call 100 = .ok (.new 70, 3) := by decide +kernel
theorem kd_B_call_103 : decode kc_B_call 103 = .ok (.dup, 1) := by decide +kernel
theorem kd_B_call_104 : decode kc_B_call 104 = .ok (.ldc 163, 2) := by decide +kernel
theorem kd_B_call_106 : decode kc_B_call 106 = .ok (.invokespecial 74, 3) := by decide +kernel
theorem kd_B_call_109 : decode kc_B_call 109 = .ok (.athrow, 1) := by decide +kernel
theorem kd_B_call_110 : decode kc_B_call 110 = .ok (.aload_n 0, 1) := by decide +kernel
theorem kd_B_call_111 : decode kc_B_call 111 = .ok (.iload_n 1, 1) := by decide +kernel
theorem kd_B_call_112 : decode kc_B_call 112 = .ok (.iload 4, 2) := by decide +kernel
theorem kd_B_call_114 : decode kc_B_call 114 = .ok (.invokevirtual 165, 3) := by decide +kernel
theorem kd_B_call_117 : decode kc_B_call 117 = .ok (.iload 4, 2) := by decide +kernel
theorem kd_B_call_119 : decode kc_B_call 119 = .ok (.ireturn, 1) := by decide +kernel
theorem kd_W_hasObject_0 : decode kc_W_hasObject 0 = .ok (.iload_n 1, 1) := by decide +kernel
theorem kd_W_hasObject_1 : decode kc_W_hasObject 1 = .ok (.ifCond .lt 15, 3) := by decide +kernel
theorem kd_W_hasObject_4 : decode kc_W_hasObject 4 = .ok (.iload_n 1, 1) := by decide +kernel
theorem kd_W_hasObject_5 : decode kc_W_hasObject 5 = .ok (.aload_n 0, 1) := by decide +kernel
theorem kd_W_hasObject_6 : decode kc_W_hasObject 6 = .ok (.getfield 22, 3) := by decide +kernel
theorem kd_W_hasObject_9 : decode kc_W_hasObject 9 = .ok (.if_icmp .ge 7, 3) := by decide +kernel
theorem kd_W_hasObject_12 : decode kc_W_hasObject 12 = .ok (.iconst 1, 1) := by decide +kernel
theorem kd_W_hasObject_13 : decode kc_W_hasObject 13 = .ok (.goto 4, 3) := by decide +kernel
theorem kd_W_hasObject_16 : decode kc_W_hasObject 16 = .ok (.iconst 0, 1) := by decide +kernel
theorem kd_W_hasObject_17 : decode kc_W_hasObject 17 = .ok (.ireturn, 1) := by decide +kernel
theorem kd_B_writeDown_0 : decode kc_B_writeDown 0 = .ok (.aload_n 0, 1) := by decide +kernel
theorem kd_B_writeDown_1 : decode kc_B_writeDown 1 = .ok (.getfield 19, 3) := by decide +kernel
theorem kd_B_writeDown_4 : decode kc_B_writeDown 4 = .ok (.getfield 215, 3) := by decide +kernel
theorem kd_B_writeDown_7 : decode kc_B_writeDown 7 = .ok (.iload_n 2, 1) := by decide +kernel
theorem kd_B_writeDown_8 : decode kc_B_writeDown 8 = .ok (.iaload, 1) := by decide +kernel
theorem kd_B_writeDown_9 : decode kc_B_writeDown 9 = .ok (.istore_n 3, 1) := by decide +kernel
theorem kd_B_writeDown_10 : decode kc_B_writeDown 10 = .ok (.aload_n 0, 1) := by decide +kernel
theorem kd_B_writeDown_11 : decode kc_B_writeDown 11 = .ok (.getfield 19, 3) := by decide +kernel
theorem kd_B_writeDown_14 : decode kc_B_writeDown 14 = .ok (.getfield 218, 3) := by decide +kernel
theorem kd_B_writeDown_17 : decode kc_B_writeDown 17 = .ok (.iload_n 2, 1) := by decide +kernel
theorem kd_B_writeDown_18 : decode kc_B_writeDown 18 = .ok (.iaload, 1) := by decide +kernel
theorem kd_B_writeDown_19 : decode kc_B_writeDown 19 = .ok (.istore 4, 2) := by decide +kernel
theorem kd_B_writeDown_21 : decode kc_B_writeDown 21 = .ok (.aload_n 0, 1) := by decide +kernel
theorem kd_B_writeDown_22 : decode kc_B_writeDown 22 = .ok (.getfield 44, 3) := by decide +kernel
theorem kd_B_writeDown_25 : decode kc_B_writeDown 25 = .ok (.iload_n 1, 1) := by decide +kernel
theorem kd_B_writeDown_26 : decode kc_B_writeDown 26 = .ok (.iload_n 2, 1) := by decide +kernel
theorem kd_B_writeDown_27 : decode kc_B_writeDown 27 = .ok (.iload_n 3, 1) := by decide +kernel
theorem kd_B_writeDown_28 : decode kc_B_writeDown 28 = .ok (.invokevirtual 221, 3) := by decide +kernel
theorem kd_B_writeDown_31 : decode kc_B_writeDown 31 = .ok (.iconst 0, 1) := by decide +kernel
theorem kd_B_writeDown_32 : decode kc_B_writeDown 32 = .ok (.istore 5, 2) := by decide +kernel
theorem kd_B_writeDown_34 : decode kc_B_writeDown 34 = .ok (.iload 5, 2) := by decide +kernel
theorem kd_B_writeDown_36 : decode kc_B_writeDown 36 = .ok (.iload_n 3, 1) := by decide +kernel
theorem kd_B_writeDown_37 : decode kc_B_writeDown 37 = .ok (.if_icmp .ge 35, 3) := by decide +kernel
theorem kd_B_writeDown_40 : decode kc_B_writeDown 40 = .ok (.aload_n 0, 1) := by decide +kernel
theorem kd_B_writeDown_41 : decode kc_B_writeDown 41 = .ok (.getfield 44, 3) := by decide +kernel
theorem kd_B_writeDown_44 : decode kc_B_writeDown 44 = .ok (.iload 5, 2) := by decide +kernel
theorem kd_B_writeDown_46 : decode kc_B_writeDown 46 = .ok (.aload_n 0, 1) := by decide +kernel
theorem kd_B_writeDown_47 : decode kc_B_writeDown 47 = .ok (.getfield 28, 3) := by decide +kernel
theorem kd_B_writeDown_50 : decode kc_B_writeDown 50 = .ok (.iload 5, 2) := by decide +kernel
theorem kd_B_writeDown_52 : decode kc_B_writeDown 52 = .ok (.iload 4, 2) := by decide +kernel
theorem kd_B_writeDown_54 : decode kc_B_writeDown 54 = .ok (.iload_n 3, 1) := by decide +kernel
theorem kd_B_writeDown_55 : decode kc_B_writeDown 55 = .ok (.iload 5, 2) := by decide +kernel
theorem kd_B_writeDown_57 : decode kc_B_writeDown 57 = .ok (.invokestatic 224, 3) := by decide +kernel
theorem kd_B_writeDown_60 : decode kc_B_writeDown 60 = .ok (.invokevirtual 228, 3) := by decide +kernel
theorem kd_B_writeDown_63 : decode kc_B_writeDown 63 = .ok (.invokevirtual 231, 3) := by decide +kernel
theorem kd_B_writeDown_66 : decode kc_B_writeDown 66 = .ok (.iinc 5 1, 3) := by decide +kernel
theorem kd_B_writeDown_69 : decode kc_B_writeDown 69 = .ok (.goto (-35), 3) := by decide +kernel
theorem kd_B_writeDown_72 : decode kc_B_writeDown 72 = .ok (.aload_n 0, 1) := by decide +kernel
theorem kd_B_writeDown_73 : decode kc_B_writeDown 73 = .ok (.getfield 44, 3) := by decide +kernel
theorem kd_B_writeDown_76 : decode kc_B_writeDown 76 = .ok (.aload_n 0, 1) := by decide +kernel
theorem kd_B_writeDown_77 : decode kc_B_writeDown 77 = .ok (.getfield 51, 3) := by decide +kernel
theorem kd_B_writeDown_80 : decode kc_B_writeDown 80 = .ok (.invokevirtual 235, 3) := by decide +kernel
theorem kd_B_writeDown_83 : decode kc_B_writeDown 83 = .ok (.invokevirtual 239, 3) := by decide +kernel
theorem kd_B_writeDown_86 : decode kc_B_writeDown 86 = .ok (.return_, 1) := by decide +kernel
theorem kd_B_exact_0 : decode kc_B_exact 0 = .ok (.aload_n 0, 1) := by decide +kernel
theorem kd_B_exact_1 : decode kc_B_exact 1 = .ok (.getfield 28, 3) := by decide +kernel
theorem kd_B_exact_4 : decode kc_B_exact 4 = .ok (.invokevirtual 137, 3) := by decide +kernel
theorem kd_B_exact_7 : decode kc_B_exact 7 = .ok (.istore 4, 2) := by decide +kernel
theorem kd_B_exact_9 : decode kc_B_exact 9 = .ok (.aload_n 0, 1) := by decide +kernel
theorem kd_B_exact_10 : decode kc_B_exact 10 = .ok (.getfield 10, 3) := by decide +kernel
theorem kd_B_exact_13 : decode kc_B_exact 13 = .ok (.iload_n 1, 1) := by decide +kernel
theorem kd_B_exact_14 : decode kc_B_exact 14 = .ok (.invokevirtual 141, 3) := by decide +kernel
theorem kd_B_exact_17 : decode kc_B_exact 17 = .ok (.ifCond .ne 13, 3) := by decide +kernel
theorem kd_B_exact_20 : decode kc_B_exact 20 = .ok (.new 59, 3) := by decide +kernel
theorem kd_B_exact_23 : decode kc_B_exact 23 = .ok (.dup, 1) := by decide +kernel
theorem kd_B_exact_24 : decode kc_B_exact 24 = .ok (.ldc 144, 2) := by decide +kernel
theorem kd_B_exact_26 : decode kc_B_exact 26 = .ok (.invokespecial 63, 3) := by decide +kernel
theorem kd_B_exact_29 : decode kc_B_exact 29 = .ok (.athrow, 1) := by decide +kernel
theorem kd_B_exact_30 : decode kc_B_exact 30 = .ok (.iload_n 2, 1) := by decide +kernel
theorem kd_B_exact_31 : decode kc_B_exact 31 = .ok (.invokestatic 81, 3) := by decide +kernel
theorem kd_B_exact_34 : decode kc_B_exact 34 = .ok (.ifCond .ne 13, 3) := by decide +kernel
theorem kd_B_exact_37 : decode kc_B_exact 37 = .ok (.new 59, 3) := by decide +kernel
theorem kd_B_exact_40 : decode kc_B_exact 40 = .ok (.dup, 1) := by decide +kernel
theorem kd_B_exact_41 : decode kc_B_exact 41 = .ok (.ldc 84, 2) := by decide +kernel
theorem kd_B_exact_43 : decode kc_B_exact 43 = .ok (.invokespecial 63, 3) := by decide +kernel
theorem kd_B_exact_46 : decode kc_B_exact 46 = .ok (.athrow, 1) := by decide +kernel
theorem kd_B_exact_47 : decode kc_B_exact 47 = .ok (.aload_n 0, 1) := by decide +kernel
theorem kd_B_exact_48 : decode kc_B_exact 48 = .ok (.getfield 10, 3) := by decide +kernel
theorem kd_B_exact_51 : decode kc_B_exact 51 = .ok (.iload 4, 2) := by decide +kernel
theorem kd_B_exact_53 : decode kc_B_exact 53 = .ok (.iload_n 3, 1) := by decide +kernel
theorem kd_B_exact_54 : decode kc_B_exact 54 = .ok (.invokevirtual 88, 3) := by decide +kernel
theorem kd_B_exact_57 : decode kc_B_exact 57 = .ok (.ifCond .ne 13, 3) := by decide +kernel
theorem kd_B_exact_60 : decode kc_B_exact 60 = .ok (.new 59, 3) := by decide +kernel
theorem kd_B_exact_63 : decode kc_B_exact 63 = .ok (.dup, 1) := by decide +kernel
theorem kd_B_exact_64 : decode kc_B_exact 64 = .ok (.ldc 95, 2) := by decide +kernel
theorem kd_B_exact_66 : decode kc_B_exact 66 = .ok (.invokespecial 63, 3) := by decide +kernel
theorem kd_B_exact_69 : decode kc_B_exact 69 = .ok (.athrow, 1) := by decide +kernel
theorem kd_B_exact_70 : decode kc_B_exact 70 = .ok (.aload_n 0, 1) := by decide +kernel
theorem kd_B_exact_71 : decode kc_B_exact 71 = .ok (.getfield 37, 3) := by decide +kernel
theorem kd_B_exact_74 : decode kc_B_exact 74 = .ok (.aload_n 0, 1) := by decide +kernel
theorem kd_B_exact_75 : decode kc_B_exact 75 = .ok (.getfield 10, 3) := by decide +kernel
theorem kd_B_exact_78 : decode kc_B_exact 78 = .ok (.getfield 146, 3) := by decide +kernel
theorem kd_B_exact_81 : decode kc_B_exact 81 = .ok (.iload_n 1, 1) := by decide +kernel
theorem kd_B_exact_82 : decode kc_B_exact 82 = .ok (.iaload, 1) := by decide +kernel
theorem kd_B_exact_83 : decode kc_B_exact 83 = .ok (.iload_n 2, 1) := by decide +kernel
theorem kd_B_exact_84 : decode kc_B_exact 84 = .ok (.iload 4, 2) := by decide +kernel
theorem kd_B_exact_86 : decode kc_B_exact 86 = .ok (.iload_n 3, 1) := by decide +kernel
theorem kd_B_exact_87 : decode kc_B_exact 87 = .ok (.invokevirtual 169, 3) := by decide +kernel
theorem kd_B_exact_90 : decode kc_B_exact 90 = .ok (.istore 5, 2) := by decide +kernel
theorem kd_B_exact_92 : decode kc_B_exact 92 = .ok (.iload 5, 2) := by decide +kernel
theorem kd_B_exact_94 : decode kc_B_exact 94 = .ok (.iconst (-1), 1) := by decide +kernel
theorem kd_B_exact_95 : decode kc_B_exact 95 = .ok (.if_icmp .ne 13, 3) := by decide +kernel
theorem kd_B_exact_98 : decode kc_B_exact 98 = .ok (.new 155, 3) := by decide +kernel
theorem kd_B_exact_101 : decode kc_B_exact 101 = .ok (.dup, 1) := by decide +kernel
theorem kd_B_exact_102 : decode kc_B_exact 102 = .ok (.ldc 172, 2) := by decide +kernel
theorem kd_B_exact_104 : decode kc_B_exact 104 = .ok (.invokespecial 159, 3) := by decide +kernel
theorem kd_B_exact_107 : decode kc_B_exact 107 = .ok (.athrow, 1) := by decide +kernel
theorem kd_B_exact_108 : decode kc_B_exact 108 = .ok (.aload_n 0, 1) := by decide +kernel
theorem kd_B_exact_109 : decode kc_B_exact 109 = .ok (.getfield 28, 3) := by decide +kernel
theorem kd_B_exact_112 : decode kc_B_exact 112 = .ok (.iload 4, 2) := by decide +kernel
theorem kd_B_exact_114 : decode kc_B_exact 114 = .ok (.iload_n 3, 1) := by decide +kernel
theorem kd_B_exact_115 : decode kc_B_exact 115 = .ok (.invokevirtual 174, 3) := by decide +kernel
theorem kd_B_exact_118 : decode kc_B_exact 118 = .ok (.ifCond .ne 13, 3) := by decide +kernel
theorem kd_B_exact_121 : decode kc_B_exact 121 = .ok (.new 155, 3) := by decide +kernel
theorem kd_B_exact_124 : decode kc_B_exact 124 = .ok (.dup, 1) := by decide +kernel
theorem kd_B_exact_125 : decode kc_B_exact 125 = .ok (.ldc 177, 2) := by decide +kernel
theorem kd_B_exact_127 : decode kc_B_exact 127 = .ok (.invokespecial 159, 3) := by decide +kernel
theorem kd_B_exact_130 : decode kc_B_exact 130 = .ok (.athrow, 1) := by decide +kernel
theorem kd_B_exact_131 : decode kc_B_exact 131 = .ok (.aload_n 0, 1) := by decide +kernel
theorem kd_B_exact_132 : decode kc_B_exact 132 = .ok (.iload_n 1, 1) := by decide +kernel
theorem kd_B_exact_133 : decode kc_B_exact 133 = .ok (.iload 5, 2) := by decide +kernel
theorem kd_B_exact_135 : decode kc_B_exact 135 = .ok (.invokevirtual 165, 3) := by decide +kernel
theorem kd_B_exact_138 : decode kc_B_exact 138 = .ok (.iload 5, 2) := by decide +kernel
theorem kd_B_exact_140 : decode kc_B_exact 140 = .ok (.ireturn, 1) := by decide +kernel
theorem kd_B_answer_0 : decode kc_B_answer 0 = .ok (.aload_n 0, 1) := by decide +kernel
theorem kd_B_answer_1 : decode kc_B_answer 1 = .ok (.getfield 51, 3) := by decide +kernel
theorem kd_B_answer_4 : decode kc_B_answer 4 = .ok (.getfield 179, 3) := by decide +kernel
theorem kd_B_answer_7 : decode kc_B_answer 7 = .ok (.bipush 64, 2) := by decide +kernel
theorem kd_B_answer_9 : decode kc_B_answer 9 = .ok (.if_icmp .lt 13, 3) := by decide +kernel
theorem kd_B_answer_12 : decode kc_B_answer 12 = .ok (.new 70, 3) := by decide +kernel
theorem kd_B_answer_15 : decode kc_B_answer 15 = .ok (.dup, 1) := by decide +kernel
theorem kd_B_answer_16 : decode kc_B_answer 16 = .ok (.ldc 180, 2) := by decide +kernel
theorem kd_B_answer_18 : decode kc_B_answer 18 = .ok (.invokespecial 74, 3) := by decide +kernel
theorem kd_B_answer_21 : decode kc_B_answer 21 = .ok (.athrow, 1) := by decide +kernel
theorem kd_B_answer_22 : decode kc_B_answer 22 = .ok (.aload_n 0, 1) := by decide +kernel
theorem kd_B_answer_23 : decode kc_B_answer 23 = .ok (.getfield 51, 3) := by decide +kernel
theorem kd_B_answer_26 : decode kc_B_answer 26 = .ok (.lload_n 1, 1) := by decide +kernel
theorem kd_B_answer_27 : decode kc_B_answer 27 = .ok (.invokevirtual 182, 3) := by decide +kernel
theorem kd_B_answer_30 : decode kc_B_answer 30 = .ok (.return_, 1) := by decide +kernel
theorem kd_B_given_0 : decode kc_B_given 0 = .ok (.aload_n 0, 1) := by decide +kernel
theorem kd_B_given_1 : decode kc_B_given 1 = .ok (.getfield 44, 3) := by decide +kernel
theorem kd_B_given_4 : decode kc_B_given 4 = .ok (.getfield 185, 3) := by decide +kernel
theorem kd_B_given_7 : decode kc_B_given 7 = .ok (.ifCond .ne 13, 3) := by decide +kernel
theorem kd_B_given_10 : decode kc_B_given 10 = .ok (.new 70, 3) := by decide +kernel
theorem kd_B_given_13 : decode kc_B_given 13 = .ok (.dup, 1) := by decide +kernel
theorem kd_B_given_14 : decode kc_B_given 14 = .ok (.ldc 186, 2) := by decide +kernel
theorem kd_B_given_16 : decode kc_B_given 16 = .ok (.invokespecial 74, 3) := by decide +kernel
theorem kd_B_given_19 : decode kc_B_given 19 = .ok (.athrow, 1) := by decide +kernel
theorem kd_B_given_20 : decode kc_B_given 20 = .ok (.aload_n 0, 1) := by decide +kernel
theorem kd_B_given_21 : decode kc_B_given 21 = .ok (.getfield 44, 3) := by decide +kernel
theorem kd_B_given_24 : decode kc_B_given 24 = .ok (.getfield 188, 3) := by decide +kernel
theorem kd_B_given_27 : decode kc_B_given 27 = .ok (.lreturn, 1) := by decide +kernel
theorem kd_B_look_0 : decode kc_B_look 0 = .ok (.iload_n 2, 1) := by decide +kernel
theorem kd_B_look_1 : decode kc_B_look 1 = .ok (.ifCond .lt 8, 3) := by decide +kernel
theorem kd_B_look_4 : decode kc_B_look 4 = .ok (.iload_n 2, 1) := by decide +kernel
theorem kd_B_look_5 : decode kc_B_look 5 = .ok (.iconst 2, 1) := by decide +kernel
theorem kd_B_look_6 : decode kc_B_look 6 = .ok (.if_icmp .le 13, 3) := by decide +kernel
theorem kd_B_look_9 : decode kc_B_look 9 = .ok (.new 59, 3) := by decide +kernel
theorem kd_B_look_12 : decode kc_B_look 12 = .ok (.dup, 1) := by decide +kernel
theorem kd_B_look_13 : decode kc_B_look 13 = .ok (.ldc 192, 2) := by decide +kernel
theorem kd_B_look_15 : decode kc_B_look 15 = .ok (.invokespecial 63, 3) := by decide +kernel
theorem kd_B_look_18 : decode kc_B_look 18 = .ok (.athrow, 1) := by decide +kernel
theorem kd_B_look_19 : decode kc_B_look 19 = .ok (.aload_n 0, 1) := by decide +kernel
theorem kd_B_look_20 : decode kc_B_look 20 = .ok (.getfield 44, 3) := by decide +kernel
theorem kd_B_look_23 : decode kc_B_look 23 = .ok (.iload_n 1, 1) := by decide +kernel
theorem kd_B_look_24 : decode kc_B_look 24 = .ok (.invokevirtual 194, 3) := by decide +kernel
theorem kd_B_look_27 : decode kc_B_look 27 = .ok (.ifCond .ne 13, 3) := by decide +kernel
theorem kd_B_look_30 : decode kc_B_look 30 = .ok (.new 197, 3) := by decide +kernel
theorem kd_B_look_33 : decode kc_B_look 33 = .ok (.dup, 1) := by decide +kernel
theorem kd_B_look_34 : decode kc_B_look 34 = .ok (.ldc 199, 2) := by decide +kernel
theorem kd_B_look_36 : decode kc_B_look 36 = .ok (.invokespecial 201, 3) := by decide +kernel
theorem kd_B_look_39 : decode kc_B_look 39 = .ok (.athrow, 1) := by decide +kernel
theorem kd_B_look_40 : decode kc_B_look 40 = .ok (.iload_n 2, 1) := by decide +kernel
theorem kd_B_look_41 : decode kc_B_look 41 = .ok (.ifCond .ne 12, 3) := by decide +kernel
theorem kd_B_look_44 : decode kc_B_look 44 = .ok (.aload_n 0, 1) := by decide +kernel
theorem kd_B_look_45 : decode kc_B_look 45 = .ok (.getfield 44, 3) := by decide +kernel
theorem kd_B_look_48 : decode kc_B_look 48 = .ok (.iload_n 1, 1) := by decide +kernel
theorem kd_B_look_49 : decode kc_B_look 49 = .ok (.invokevirtual 202, 3) := by decide +kernel
theorem kd_B_look_52 : decode kc_B_look 52 = .ok (.ireturn, 1) := by decide +kernel
theorem kd_B_look_53 : decode kc_B_look 53 = .ok (.iload_n 2, 1) := by decide +kernel
theorem kd_B_look_54 : decode kc_B_look 54 = .ok (.iconst 1, 1) := by decide +kernel
theorem kd_B_look_55 : decode kc_B_look 55 = .ok (.if_icmp .ne 14, 3) := by decide +kernel
theorem kd_B_look_58 : decode kc_B_look 58 = .ok (.aload_n 0, 1) := by decide +kernel
theorem kd_B_look_59 : decode kc_B_look 59 = .ok (.getfield 44, 3) := by decide +kernel
theorem kd_B_look_62 : decode kc_B_look 62 = .ok (.iload_n 1, 1) := by decide +kernel
theorem kd_B_look_63 : decode kc_B_look 63 = .ok (.invokevirtual 205, 3) := by decide +kernel
theorem kd_B_look_66 : decode kc_B_look 66 = .ok (.goto 11, 3) := by decide +kernel
theorem kd_B_look_69 : decode kc_B_look 69 = .ok (.aload_n 0, 1) := by decide +kernel
theorem kd_B_look_70 : decode kc_B_look 70 = .ok (.getfield 44, 3) := by decide +kernel
theorem kd_B_look_73 : decode kc_B_look 73 = .ok (.iload_n 1, 1) := by decide +kernel
theorem kd_B_look_74 : decode kc_B_look 74 = .ok (.invokevirtual 208, 3) := by decide +kernel
theorem kd_B_look_77 : decode kc_B_look 77 = .ok (.ireturn, 1) := by decide +kernel
theorem kd_B_converted_0 : decode kc_B_converted 0 = .ok (.aload_n 0, 1) := by decide +kernel
theorem kd_B_converted_1 : decode kc_B_converted 1 = .ok (.getfield 44, 3) := by decide +kernel
theorem kd_B_converted_4 : decode kc_B_converted 4 = .ok (.iload_n 1, 1) := by decide +kernel
theorem kd_B_converted_5 : decode kc_B_converted 5 = .ok (.invokevirtual 194, 3) := by decide +kernel
theorem kd_B_converted_8 : decode kc_B_converted 8 = .ok (.ifCond .ne 13, 3) := by decide +kernel
theorem kd_B_converted_11 : decode kc_B_converted 11 = .ok (.new 197, 3) := by decide +kernel
theorem kd_B_converted_14 : decode kc_B_converted 14 = .ok (.dup, 1) := by decide +kernel
theorem kd_B_converted_15 : decode kc_B_converted 15 = .ok (.ldc 199, 2) := by decide +kernel
theorem kd_B_converted_17 : decode kc_B_converted 17 = .ok (.invokespecial 201, 3) := by decide +kernel
theorem kd_B_converted_20 : decode kc_B_converted 20 = .ok (.athrow, 1) := by decide +kernel
theorem kd_B_converted_21 : decode kc_B_converted 21 = .ok (.iload_n 2, 1) := by decide +kernel
theorem kd_B_converted_22 : decode kc_B_converted 22 = .ok (.ifCond .lt 15, 3) := by decide +kernel
theorem kd_B_converted_25 : decode kc_B_converted 25 = .ok (.iload_n 2, 1) := by decide +kernel
theorem kd_B_converted_26 : decode kc_B_converted 26 = .ok (.aload_n 0, 1) := by decide +kernel
theorem kd_B_converted_27 : decode kc_B_converted 27 = .ok (.getfield 44, 3) := by decide +kernel
theorem kd_B_converted_30 : decode kc_B_converted 30 = .ok (.iload_n 1, 1) := by decide +kernel
theorem kd_B_converted_31 : decode kc_B_converted 31 = .ok (.invokevirtual 208, 3) := by decide +kernel
theorem kd_B_converted_34 : decode kc_B_converted 34 = .ok (.if_icmp .lt 13, 3) := by decide +kernel
theorem kd_B_converted_37 : decode kc_B_converted 37 = .ok (.new 197, 3) := by decide +kernel
theorem kd_B_converted_40 : decode kc_B_converted 40 = .ok (.dup, 1) := by decide +kernel
theorem kd_B_converted_41 : decode kc_B_converted 41 = .ok (.ldc 131, 2) := by decide +kernel
theorem kd_B_converted_43 : decode kc_B_converted 43 = .ok (.invokespecial 201, 3) := by decide +kernel
theorem kd_B_converted_46 : decode kc_B_converted 46 = .ok (.athrow, 1) := by decide +kernel
theorem kd_B_converted_47 : decode kc_B_converted 47 = .ok (.aload_n 0, 1) := by decide +kernel
theorem kd_B_converted_48 : decode kc_B_converted 48 = .ok (.getfield 44, 3) := by decide +kernel
theorem kd_B_converted_51 : decode kc_B_converted 51 = .ok (.iload_n 1, 1) := by decide +kernel
theorem kd_B_converted_52 : decode kc_B_converted 52 = .ok (.iload_n 2, 1) := by decide +kernel
theorem kd_B_converted_53 : decode kc_B_converted 53 = .ok (.invokevirtual 211, 3) := by decide +kernel
theorem kd_B_converted_56 : decode kc_B_converted 56 = .ok (.lreturn, 1) := by decide +kernel
