/-! DECODE ROWS (written by wip/gen/names.py) -/
theorem kd_R_init_0 : decode kc_R_init 0 = .ok (.aload_n 0, 1) := by decide +kernel
theorem kd_R_init_1 : decode kc_R_init 1 = .ok (.invokespecial 1, 3) := by decide +kernel
theorem kd_R_init_4 : decode kc_R_init 4 = .ok (.aload_n 0, 1) := by decide +kernel
theorem kd_R_init_5 : decode kc_R_init 5 = .ok (.bipush 16, 2) := by decide +kernel
theorem kd_R_init_7 : decode kc_R_init 7 = .ok (.newarray .int, 2) := by decide +kernel
theorem kd_R_init_9 : decode kc_R_init 9 = .ok (.putfield 7, 3) := by decide +kernel
theorem kd_R_init_12 : decode kc_R_init 12 = .ok (.aload_n 0, 1) := by decide +kernel
theorem kd_R_init_13 : decode kc_R_init 13 = .ok (.bipush 64, 2) := by decide +kernel
theorem kd_R_init_15 : decode kc_R_init 15 = .ok (.newarray .int, 2) := by decide +kernel
theorem kd_R_init_17 : decode kc_R_init 17 = .ok (.putfield 13, 3) := by decide +kernel
theorem kd_R_init_20 : decode kc_R_init 20 = .ok (.aload_n 0, 1) := by decide +kernel
theorem kd_R_init_21 : decode kc_R_init 21 = .ok (.bipush 64, 2) := by decide +kernel
theorem kd_R_init_23 : decode kc_R_init 23 = .ok (.newarray .int, 2) := by decide +kernel
theorem kd_R_init_25 : decode kc_R_init 25 = .ok (.putfield 16, 3) := by decide +kernel
theorem kd_R_init_28 : decode kc_R_init 28 = .ok (.aload_n 0, 1) := by decide +kernel
theorem kd_R_init_29 : decode kc_R_init 29 = .ok (.bipush 64, 2) := by decide +kernel
theorem kd_R_init_31 : decode kc_R_init 31 = .ok (.newarray .int, 2) := by decide +kernel
theorem kd_R_init_33 : decode kc_R_init 33 = .ok (.putfield 19, 3) := by decide +kernel
theorem kd_R_init_36 : decode kc_R_init 36 = .ok (.aload_n 0, 1) := by decide +kernel
theorem kd_R_init_37 : decode kc_R_init 37 = .ok (.bipush 64, 2) := by decide +kernel
theorem kd_R_init_39 : decode kc_R_init 39 = .ok (.newarray .int, 2) := by decide +kernel
theorem kd_R_init_41 : decode kc_R_init 41 = .ok (.putfield 22, 3) := by decide +kernel
theorem kd_R_init_44 : decode kc_R_init 44 = .ok (.aload_n 0, 1) := by decide +kernel
theorem kd_R_init_45 : decode kc_R_init 45 = .ok (.sipush 256, 3) := by decide +kernel
theorem kd_R_init_48 : decode kc_R_init 48 = .ok (.newarray .int, 2) := by decide +kernel
theorem kd_R_init_50 : decode kc_R_init 50 = .ok (.putfield 25, 3) := by decide +kernel
theorem kd_R_init_53 : decode kc_R_init 53 = .ok (.aload_n 0, 1) := by decide +kernel
theorem kd_R_init_54 : decode kc_R_init 54 = .ok (.iconst 4, 1) := by decide +kernel
theorem kd_R_init_55 : decode kc_R_init 55 = .ok (.newarray .int, 2) := by decide +kernel
theorem kd_R_init_57 : decode kc_R_init 57 = .ok (.putfield 28, 3) := by decide +kernel
theorem kd_R_init_60 : decode kc_R_init 60 = .ok (.aload_n 0, 1) := by decide +kernel
theorem kd_R_init_61 : decode kc_R_init 61 = .ok (.iconst 4, 1) := by decide +kernel
theorem kd_R_init_62 : decode kc_R_init 62 = .ok (.newarray .long, 2) := by decide +kernel
theorem kd_R_init_64 : decode kc_R_init 64 = .ok (.putfield 31, 3) := by decide +kernel
theorem kd_R_init_67 : decode kc_R_init 67 = .ok (.aload_n 0, 1) := by decide +kernel
theorem kd_R_init_68 : decode kc_R_init 68 = .ok (.iconst 4, 1) := by decide +kernel
theorem kd_R_init_69 : decode kc_R_init 69 = .ok (.newarray .int, 2) := by decide +kernel
theorem kd_R_init_71 : decode kc_R_init 71 = .ok (.putfield 35, 3) := by decide +kernel
theorem kd_R_init_74 : decode kc_R_init 74 = .ok (.aload_n 0, 1) := by decide +kernel
theorem kd_R_init_75 : decode kc_R_init 75 = .ok (.bipush 64, 2) := by decide +kernel
theorem kd_R_init_77 : decode kc_R_init 77 = .ok (.newarray .boolean, 2) := by decide +kernel
theorem kd_R_init_79 : decode kc_R_init 79 = .ok (.putfield 38, 3) := by decide +kernel
theorem kd_R_init_82 : decode kc_R_init 82 = .ok (.aload_n 0, 1) := by decide +kernel
theorem kd_R_init_83 : decode kc_R_init 83 = .ok (.bipush 64, 2) := by decide +kernel
theorem kd_R_init_85 : decode kc_R_init 85 = .ok (.newarray .int, 2) := by decide +kernel
theorem kd_R_init_87 : decode kc_R_init 87 = .ok (.putfield 42, 3) := by decide +kernel
theorem kd_R_init_90 : decode kc_R_init 90 = .ok (.aload_n 0, 1) := by decide +kernel
theorem kd_R_init_91 : decode kc_R_init 91 = .ok (.bipush 64, 2) := by decide +kernel
theorem kd_R_init_93 : decode kc_R_init 93 = .ok (.newarray .int, 2) := by decide +kernel
theorem kd_R_init_95 : decode kc_R_init 95 = .ok (.putfield 45, 3) := by decide +kernel
theorem kd_R_init_98 : decode kc_R_init 98 = .ok (.aload_n 0, 1) := by decide +kernel
theorem kd_R_init_99 : decode kc_R_init 99 = .ok (.bipush 64, 2) := by decide +kernel
theorem kd_R_init_101 : decode kc_R_init 101 = .ok (.newarray .int, 2) := by decide +kernel
theorem kd_R_init_103 : decode kc_R_init 103 = .ok (.putfield 48, 3) := by decide +kernel
theorem kd_R_init_106 : decode kc_R_init 106 = .ok (.aload_n 0, 1) := by decide +kernel
theorem kd_R_init_107 : decode kc_R_init 107 = .ok (.sipush 256, 3) := by decide +kernel
theorem kd_R_init_110 : decode kc_R_init 110 = .ok (.newarray .long, 2) := by decide +kernel
theorem kd_R_init_112 : decode kc_R_init 112 = .ok (.putfield 51, 3) := by decide +kernel
theorem kd_R_init_115 : decode kc_R_init 115 = .ok (.aload_n 0, 1) := by decide +kernel
theorem kd_R_init_116 : decode kc_R_init 116 = .ok (.bipush 64, 2) := by decide +kernel
theorem kd_R_init_118 : decode kc_R_init 118 = .ok (.newarray .long, 2) := by decide +kernel
theorem kd_R_init_120 : decode kc_R_init 120 = .ok (.putfield 54, 3) := by decide +kernel
theorem kd_R_init_123 : decode kc_R_init 123 = .ok (.return_, 1) := by decide +kernel
theorem kd_R_thrown_0 : decode kc_R_thrown 0 = .ok (.aload_n 0, 1) := by decide +kernel
theorem kd_R_thrown_1 : decode kc_R_thrown 1 = .ok (.getfield 57, 3) := by decide +kernel
theorem kd_R_thrown_4 : decode kc_R_thrown 4 = .ok (.ireturn, 1) := by decide +kernel
theorem kd_R_klass_0 : decode kc_R_klass 0 = .ok (.iload_n 1, 1) := by decide +kernel
theorem kd_R_klass_1 : decode kc_R_klass 1 = .ok (.iconst (-1), 1) := by decide +kernel
theorem kd_R_klass_2 : decode kc_R_klass 2 = .ok (.if_icmp .eq 18, 3) := by decide +kernel
theorem kd_R_klass_5 : decode kc_R_klass 5 = .ok (.iload_n 1, 1) := by decide +kernel
theorem kd_R_klass_6 : decode kc_R_klass 6 = .ok (.aload_n 0, 1) := by decide +kernel
theorem kd_R_klass_7 : decode kc_R_klass 7 = .ok (.getfield 61, 3) := by decide +kernel
theorem kd_R_klass_10 : decode kc_R_klass 10 = .ok (.invokestatic 64, 3) := by decide +kernel
theorem kd_R_klass_13 : decode kc_R_klass 13 = .ok (.ifCond .eq 7, 3) := by decide +kernel
theorem kd_R_klass_16 : decode kc_R_klass 16 = .ok (.iconst 1, 1) := by decide +kernel
theorem kd_R_klass_17 : decode kc_R_klass 17 = .ok (.goto 4, 3) := by decide +kernel
theorem kd_R_klass_20 : decode kc_R_klass 20 = .ok (.iconst 0, 1) := by decide +kernel
theorem kd_R_klass_21 : decode kc_R_klass 21 = .ok (.istore_n 2, 1) := by decide +kernel
theorem kd_R_klass_22 : decode kc_R_klass 22 = .ok (.aload_n 0, 1) := by decide +kernel
theorem kd_R_klass_23 : decode kc_R_klass 23 = .ok (.iload_n 2, 1) := by decide +kernel
theorem kd_R_klass_24 : decode kc_R_klass 24 = .ok (.iload_n 2, 1) := by decide +kernel
theorem kd_R_klass_25 : decode kc_R_klass 25 = .ok (.ifCond .ne 16, 3) := by decide +kernel
theorem kd_R_klass_28 : decode kc_R_klass 28 = .ok (.aload_n 0, 1) := by decide +kernel
theorem kd_R_klass_29 : decode kc_R_klass 29 = .ok (.getfield 61, 3) := by decide +kernel
theorem kd_R_klass_32 : decode kc_R_klass 32 = .ok (.bipush 16, 2) := by decide +kernel
theorem kd_R_klass_34 : decode kc_R_klass 34 = .ok (.if_icmp .ne 7, 3) := by decide +kernel
theorem kd_R_klass_37 : decode kc_R_klass 37 = .ok (.iconst 1, 1) := by decide +kernel
theorem kd_R_klass_38 : decode kc_R_klass 38 = .ok (.goto 4, 3) := by decide +kernel
theorem kd_R_klass_41 : decode kc_R_klass 41 = .ok (.iconst 0, 1) := by decide +kernel
theorem kd_R_klass_42 : decode kc_R_klass 42 = .ok (.iconst 0, 1) := by decide +kernel
theorem kd_R_klass_43 : decode kc_R_klass 43 = .ok (.invokevirtual 68, 3) := by decide +kernel
theorem kd_R_klass_46 : decode kc_R_klass 46 = .ok (.ifCond .eq 5, 3) := by decide +kernel
theorem kd_R_klass_49 : decode kc_R_klass 49 = .ok (.iconst 0, 1) := by decide +kernel
theorem kd_R_klass_50 : decode kc_R_klass 50 = .ok (.ireturn, 1) := by decide +kernel
theorem kd_R_klass_51 : decode kc_R_klass 51 = .ok (.aload_n 0, 1) := by decide +kernel
theorem kd_R_klass_52 : decode kc_R_klass 52 = .ok (.getfield 7, 3) := by decide +kernel
theorem kd_R_klass_55 : decode kc_R_klass 55 = .ok (.aload_n 0, 1) := by decide +kernel
theorem kd_R_klass_56 : decode kc_R_klass 56 = .ok (.getfield 61, 3) := by decide +kernel
theorem kd_R_klass_59 : decode kc_R_klass 59 = .ok (.iload_n 1, 1) := by decide +kernel
theorem kd_R_klass_60 : decode kc_R_klass 60 = .ok (.iastore, 1) := by decide +kernel
theorem kd_R_klass_61 : decode kc_R_klass 61 = .ok (.aload_n 0, 1) := by decide +kernel
theorem kd_R_klass_62 : decode kc_R_klass 62 = .ok (.dup, 1) := by decide +kernel
theorem kd_R_klass_63 : decode kc_R_klass 63 = .ok (.getfield 61, 3) := by decide +kernel
theorem kd_R_klass_66 : decode kc_R_klass 66 = .ok (.iconst 1, 1) := by decide +kernel
theorem kd_R_klass_67 : decode kc_R_klass 67 = .ok (.iadd, 1) := by decide +kernel
theorem kd_R_klass_68 : decode kc_R_klass 68 = .ok (.putfield 61, 3) := by decide +kernel
theorem kd_R_klass_71 : decode kc_R_klass 71 = .ok (.aload_n 0, 1) := by decide +kernel
theorem kd_R_klass_72 : decode kc_R_klass 72 = .ok (.getfield 61, 3) := by decide +kernel
theorem kd_R_klass_75 : decode kc_R_klass 75 = .ok (.iconst 1, 1) := by decide +kernel
theorem kd_R_klass_76 : decode kc_R_klass 76 = .ok (.isub, 1) := by decide +kernel
theorem kd_R_klass_77 : decode kc_R_klass 77 = .ok (.ireturn, 1) := by decide +kernel
theorem kd_R_isNo_0 : decode kc_R_isNo 0 = .ok (.iload_n 0, 1) := by decide +kernel
theorem kd_R_isNo_1 : decode kc_R_isNo 1 = .ok (.ifCond .lt 8, 3) := by decide +kernel
theorem kd_R_isNo_4 : decode kc_R_isNo 4 = .ok (.iload_n 0, 1) := by decide +kernel
theorem kd_R_isNo_5 : decode kc_R_isNo 5 = .ok (.iload_n 1, 1) := by decide +kernel
theorem kd_R_isNo_6 : decode kc_R_isNo 6 = .ok (.if_icmp .lt 7, 3) := by decide +kernel
theorem kd_R_isNo_9 : decode kc_R_isNo 9 = .ok (.iconst 1, 1) := by decide +kernel
theorem kd_R_isNo_10 : decode kc_R_isNo 10 = .ok (.goto 4, 3) := by decide +kernel
theorem kd_R_isNo_13 : decode kc_R_isNo 13 = .ok (.iconst 0, 1) := by decide +kernel
theorem kd_R_isNo_14 : decode kc_R_isNo 14 = .ok (.ireturn, 1) := by decide +kernel
theorem kd_R_throwing_0 : decode kc_R_throwing 0 = .ok (.aload_n 0, 1) := by decide +kernel
theorem kd_R_throwing_1 : decode kc_R_throwing 1 = .ok (.iload_n 1, 1) := by decide +kernel
theorem kd_R_throwing_2 : decode kc_R_throwing 2 = .ok (.ifCond .eq 7, 3) := by decide +kernel
theorem kd_R_throwing_5 : decode kc_R_throwing 5 = .ok (.iconst 1, 1) := by decide +kernel
theorem kd_R_throwing_6 : decode kc_R_throwing 6 = .ok (.goto 20, 3) := by decide +kernel
theorem kd_R_throwing_9 : decode kc_R_throwing 9 = .ok (.iload_n 2, 1) := by decide +kernel
theorem kd_R_throwing_10 : decode kc_R_throwing 10 = .ok (.ifCond .eq 7, 3) := by decide +kernel
theorem kd_R_throwing_13 : decode kc_R_throwing 13 = .ok (.iconst 2, 1) := by decide +kernel
theorem kd_R_throwing_14 : decode kc_R_throwing 14 = .ok (.goto 12, 3) := by decide +kernel
theorem kd_R_throwing_17 : decode kc_R_throwing 17 = .ok (.iload_n 3, 1) := by decide +kernel
theorem kd_R_throwing_18 : decode kc_R_throwing 18 = .ok (.ifCond .eq 7, 3) := by decide +kernel
theorem kd_R_throwing_21 : decode kc_R_throwing 21 = .ok (.iconst 3, 1) := by decide +kernel
theorem kd_R_throwing_22 : decode kc_R_throwing 22 = .ok (.goto 4, 3) := by decide +kernel
theorem kd_R_throwing_25 : decode kc_R_throwing 25 = .ok (.iconst 0, 1) := by decide +kernel
theorem kd_R_throwing_26 : decode kc_R_throwing 26 = .ok (.putfield 57, 3) := by decide +kernel
theorem kd_R_throwing_29 : decode kc_R_throwing 29 = .ok (.aload_n 0, 1) := by decide +kernel
theorem kd_R_throwing_30 : decode kc_R_throwing 30 = .ok (.getfield 57, 3) := by decide +kernel
theorem kd_R_throwing_33 : decode kc_R_throwing 33 = .ok (.ifCond .le 7, 3) := by decide +kernel
theorem kd_R_throwing_36 : decode kc_R_throwing 36 = .ok (.iconst 1, 1) := by decide +kernel
theorem kd_R_throwing_37 : decode kc_R_throwing 37 = .ok (.goto 4, 3) := by decide +kernel
theorem kd_R_throwing_40 : decode kc_R_throwing 40 = .ok (.iconst 0, 1) := by decide +kernel
theorem kd_R_throwing_41 : decode kc_R_throwing 41 = .ok (.ireturn, 1) := by decide +kernel
theorem kd_R_method_0 : decode kc_R_method 0 = .ok (.iload_n 1, 1) := by decide +kernel
theorem kd_R_method_1 : decode kc_R_method 1 = .ok (.aload_n 0, 1) := by decide +kernel
theorem kd_R_method_2 : decode kc_R_method 2 = .ok (.getfield 61, 3) := by decide +kernel
theorem kd_R_method_5 : decode kc_R_method 5 = .ok (.invokestatic 64, 3) := by decide +kernel
theorem kd_R_method_8 : decode kc_R_method 8 = .ok (.ifCond .ne 36, 3) := by decide +kernel
theorem kd_R_method_11 : decode kc_R_method 11 = .ok (.iload_n 2, 1) := by decide +kernel
theorem kd_R_method_12 : decode kc_R_method 12 = .ok (.sipush 1000, 3) := by decide +kernel
theorem kd_R_method_15 : decode kc_R_method 15 = .ok (.invokestatic 64, 3) := by decide +kernel
theorem kd_R_method_18 : decode kc_R_method 18 = .ok (.ifCond .ne 26, 3) := by decide +kernel
theorem kd_R_method_21 : decode kc_R_method 21 = .ok (.iload_n 3, 1) := by decide +kernel
theorem kd_R_method_22 : decode kc_R_method 22 = .ok (.iconst 5, 1) := by decide +kernel
theorem kd_R_method_23 : decode kc_R_method 23 = .ok (.invokestatic 64, 3) := by decide +kernel
theorem kd_R_method_26 : decode kc_R_method 26 = .ok (.ifCond .ne 18, 3) := by decide +kernel
theorem kd_R_method_29 : decode kc_R_method 29 = .ok (.iload 5, 2) := by decide +kernel
theorem kd_R_method_31 : decode kc_R_method 31 = .ok (.bipush 6, 2) := by decide +kernel
theorem kd_R_method_33 : decode kc_R_method 33 = .ok (.aload_n 0, 1) := by decide +kernel
theorem kd_R_method_34 : decode kc_R_method 34 = .ok (.getfield 61, 3) := by decide +kernel
theorem kd_R_method_37 : decode kc_R_method 37 = .ok (.iadd, 1) := by decide +kernel
theorem kd_R_method_38 : decode kc_R_method 38 = .ok (.invokestatic 64, 3) := by decide +kernel
theorem kd_R_method_41 : decode kc_R_method 41 = .ok (.ifCond .eq 7, 3) := by decide +kernel
theorem kd_R_method_44 : decode kc_R_method 44 = .ok (.iconst 1, 1) := by decide +kernel
theorem kd_R_method_45 : decode kc_R_method 45 = .ok (.goto 4, 3) := by decide +kernel
theorem kd_R_method_48 : decode kc_R_method 48 = .ok (.iconst 0, 1) := by decide +kernel
theorem kd_R_method_49 : decode kc_R_method 49 = .ok (.istore 6, 2) := by decide +kernel
theorem kd_R_method_51 : decode kc_R_method 51 = .ok (.iload 6, 2) := by decide +kernel
theorem kd_R_method_53 : decode kc_R_method 53 = .ok (.ifCond .ne 13, 3) := by decide +kernel
theorem kd_R_method_56 : decode kc_R_method 56 = .ok (.aload_n 0, 1) := by decide +kernel
theorem kd_R_method_57 : decode kc_R_method 57 = .ok (.iload_n 3, 1) := by decide +kernel
theorem kd_R_method_58 : decode kc_R_method 58 = .ok (.iload 4, 2) := by decide +kernel
theorem kd_R_method_60 : decode kc_R_method 60 = .ok (.invokevirtual 75, 3) := by decide +kernel
theorem kd_R_method_63 : decode kc_R_method 63 = .ok (.ifCond .ne 7, 3) := by decide +kernel
theorem kd_R_method_66 : decode kc_R_method 66 = .ok (.iconst 1, 1) := by decide +kernel
theorem kd_R_method_67 : decode kc_R_method 67 = .ok (.goto 4, 3) := by decide +kernel
theorem kd_R_method_70 : decode kc_R_method 70 = .ok (.iconst 0, 1) := by decide +kernel
theorem kd_R_method_71 : decode kc_R_method 71 = .ok (.istore 6, 2) := by decide +kernel
theorem kd_R_method_73 : decode kc_R_method 73 = .ok (.iload 6, 2) := by decide +kernel
theorem kd_R_method_75 : decode kc_R_method 75 = .ok (.ifCond .ne 26, 3) := by decide +kernel
theorem kd_R_method_78 : decode kc_R_method 78 = .ok (.aload_n 0, 1) := by decide +kernel
theorem kd_R_method_79 : decode kc_R_method 79 = .ok (.getfield 72, 3) := by decide +kernel
theorem kd_R_method_82 : decode kc_R_method 82 = .ok (.bipush 64, 2) := by decide +kernel
theorem kd_R_method_84 : decode kc_R_method 84 = .ok (.if_icmp .eq 13, 3) := by decide +kernel
theorem kd_R_method_87 : decode kc_R_method 87 = .ok (.aload_n 0, 1) := by decide +kernel
theorem kd_R_method_88 : decode kc_R_method 88 = .ok (.iload_n 1, 1) := by decide +kernel
theorem kd_R_method_89 : decode kc_R_method 89 = .ok (.iload_n 2, 1) := by decide +kernel
theorem kd_R_method_90 : decode kc_R_method 90 = .ok (.iload_n 3, 1) := by decide +kernel
theorem kd_R_method_91 : decode kc_R_method 91 = .ok (.invokevirtual 78, 3) := by decide +kernel
theorem kd_R_method_94 : decode kc_R_method 94 = .ok (.ifCond .lt 7, 3) := by decide +kernel
theorem kd_R_method_97 : decode kc_R_method 97 = .ok (.iconst 1, 1) := by decide +kernel
theorem kd_R_method_98 : decode kc_R_method 98 = .ok (.goto 4, 3) := by decide +kernel
theorem kd_R_method_101 : decode kc_R_method 101 = .ok (.iconst 0, 1) := by decide +kernel
theorem kd_R_method_102 : decode kc_R_method 102 = .ok (.istore 7, 2) := by decide +kernel
theorem kd_R_method_104 : decode kc_R_method 104 = .ok (.aload_n 0, 1) := by decide +kernel
theorem kd_R_method_105 : decode kc_R_method 105 = .ok (.iload 6, 2) := by decide +kernel
theorem kd_R_method_107 : decode kc_R_method 107 = .ok (.iload 7, 2) := by decide +kernel
theorem kd_R_method_109 : decode kc_R_method 109 = .ok (.iconst 0, 1) := by decide +kernel
theorem kd_R_method_110 : decode kc_R_method 110 = .ok (.invokevirtual 68, 3) := by decide +kernel
theorem kd_R_method_113 : decode kc_R_method 113 = .ok (.ifCond .eq 5, 3) := by decide +kernel
theorem kd_R_method_116 : decode kc_R_method 116 = .ok (.iconst 0, 1) := by decide +kernel
theorem kd_R_method_117 : decode kc_R_method 117 = .ok (.ireturn, 1) := by decide +kernel
theorem kd_R_method_118 : decode kc_R_method 118 = .ok (.aload_n 0, 1) := by decide +kernel
theorem kd_R_method_119 : decode kc_R_method 119 = .ok (.getfield 16, 3) := by decide +kernel
theorem kd_R_method_122 : decode kc_R_method 122 = .ok (.aload_n 0, 1) := by decide +kernel
theorem kd_R_method_123 : decode kc_R_method 123 = .ok (.getfield 72, 3) := by decide +kernel
theorem kd_R_method_126 : decode kc_R_method 126 = .ok (.iload_n 1, 1) := by decide +kernel
theorem kd_R_method_127 : decode kc_R_method 127 = .ok (.iastore, 1) := by decide +kernel
theorem kd_R_method_128 : decode kc_R_method 128 = .ok (.aload_n 0, 1) := by decide +kernel
theorem kd_R_method_129 : decode kc_R_method 129 = .ok (.getfield 19, 3) := by decide +kernel
theorem kd_R_method_132 : decode kc_R_method 132 = .ok (.aload_n 0, 1) := by decide +kernel
theorem kd_R_method_133 : decode kc_R_method 133 = .ok (.getfield 72, 3) := by decide +kernel
theorem kd_R_method_136 : decode kc_R_method 136 = .ok (.iload_n 2, 1) := by decide +kernel
theorem kd_R_method_137 : decode kc_R_method 137 = .ok (.iastore, 1) := by decide +kernel
theorem kd_R_method_138 : decode kc_R_method 138 = .ok (.aload_n 0, 1) := by decide +kernel
theorem kd_R_method_139 : decode kc_R_method 139 = .ok (.getfield 22, 3) := by decide +kernel
theorem kd_R_method_142 : decode kc_R_method 142 = .ok (.aload_n 0, 1) := by decide +kernel
theorem kd_R_method_143 : decode kc_R_method 143 = .ok (.getfield 72, 3) := by decide +kernel
theorem kd_R_method_146 : decode kc_R_method 146 = .ok (.iload_n 3, 1) := by decide +kernel
theorem kd_R_method_147 : decode kc_R_method 147 = .ok (.iastore, 1) := by decide +kernel
theorem kd_R_method_148 : decode kc_R_method 148 = .ok (.iconst 0, 1) := by decide +kernel
theorem kd_R_method_149 : decode kc_R_method 149 = .ok (.istore 8, 2) := by decide +kernel
theorem kd_R_method_151 : decode kc_R_method 151 = .ok (.iload 8, 2) := by decide +kernel
theorem kd_R_method_153 : decode kc_R_method 153 = .ok (.iload_n 3, 1) := by decide +kernel
theorem kd_R_method_154 : decode kc_R_method 154 = .ok (.if_icmp .ge 30, 3) := by decide +kernel
theorem kd_R_method_157 : decode kc_R_method 157 = .ok (.aload_n 0, 1) := by decide +kernel
theorem kd_R_method_158 : decode kc_R_method 158 = .ok (.getfield 25, 3) := by decide +kernel
theorem kd_R_method_161 : decode kc_R_method 161 = .ok (.iconst 4, 1) := by decide +kernel
theorem kd_R_method_162 : decode kc_R_method 162 = .ok (.aload_n 0, 1) := by decide +kernel
theorem kd_R_method_163 : decode kc_R_method 163 = .ok (.getfield 72, 3) := by decide +kernel
theorem kd_R_method_166 : decode kc_R_method 166 = .ok (.imul, 1) := by decide +kernel
theorem kd_R_method_167 : decode kc_R_method 167 = .ok (.iload 8, 2) := by decide +kernel
theorem kd_R_method_169 : decode kc_R_method 169 = .ok (.iadd, 1) := by decide +kernel
theorem kd_R_method_170 : decode kc_R_method 170 = .ok (.aload_n 0, 1) := by decide +kernel
theorem kd_R_method_171 : decode kc_R_method 171 = .ok (.getfield 35, 3) := by decide +kernel
theorem kd_R_method_174 : decode kc_R_method 174 = .ok (.iload 8, 2) := by decide +kernel
theorem kd_R_method_176 : decode kc_R_method 176 = .ok (.iaload, 1) := by decide +kernel
theorem kd_R_method_177 : decode kc_R_method 177 = .ok (.iastore, 1) := by decide +kernel
theorem kd_R_method_178 : decode kc_R_method 178 = .ok (.iinc 8 1, 3) := by decide +kernel
theorem kd_R_method_181 : decode kc_R_method 181 = .ok (.goto (-30), 3) := by decide +kernel
theorem kd_R_method_184 : decode kc_R_method 184 = .ok (.aload_n 0, 1) := by decide +kernel
theorem kd_R_method_185 : decode kc_R_method 185 = .ok (.dup, 1) := by decide +kernel
theorem kd_R_method_186 : decode kc_R_method 186 = .ok (.getfield 72, 3) := by decide +kernel
theorem kd_R_method_189 : decode kc_R_method 189 = .ok (.iconst 1, 1) := by decide +kernel
theorem kd_R_method_190 : decode kc_R_method 190 = .ok (.iadd, 1) := by decide +kernel
theorem kd_R_method_191 : decode kc_R_method 191 = .ok (.putfield 72, 3) := by decide +kernel
theorem kd_R_method_194 : decode kc_R_method 194 = .ok (.aload_n 0, 1) := by decide +kernel
theorem kd_R_method_195 : decode kc_R_method 195 = .ok (.getfield 72, 3) := by decide +kernel
theorem kd_R_method_198 : decode kc_R_method 198 = .ok (.iconst 1, 1) := by decide +kernel
theorem kd_R_method_199 : decode kc_R_method 199 = .ok (.isub, 1) := by decide +kernel
theorem kd_R_method_200 : decode kc_R_method 200 = .ok (.ireturn, 1) := by decide +kernel
theorem kd_R_asks_0 : decode kc_R_asks 0 = .ok (.iconst 1, 1) := by decide +kernel
theorem kd_R_asks_1 : decode kc_R_asks 1 = .ok (.istore_n 3, 1) := by decide +kernel
theorem kd_R_asks_2 : decode kc_R_asks 2 = .ok (.iconst 0, 1) := by decide +kernel
theorem kd_R_asks_3 : decode kc_R_asks 3 = .ok (.istore 4, 2) := by decide +kernel
theorem kd_R_asks_5 : decode kc_R_asks 5 = .ok (.iload 4, 2) := by decide +kernel
theorem kd_R_asks_7 : decode kc_R_asks 7 = .ok (.iconst 4, 1) := by decide +kernel
theorem kd_R_asks_8 : decode kc_R_asks 8 = .ok (.if_icmp .ge 91, 3) := by decide +kernel
theorem kd_R_asks_11 : decode kc_R_asks 11 = .ok (.iload_n 2, 1) := by decide +kernel
theorem kd_R_asks_12 : decode kc_R_asks 12 = .ok (.bipush 8, 2) := by decide +kernel
theorem kd_R_asks_14 : decode kc_R_asks 14 = .ok (.iconst 3, 1) := by decide +kernel
theorem kd_R_asks_15 : decode kc_R_asks 15 = .ok (.iload 4, 2) := by decide +kernel
theorem kd_R_asks_17 : decode kc_R_asks 17 = .ok (.isub, 1) := by decide +kernel
theorem kd_R_asks_18 : decode kc_R_asks 18 = .ok (.imul, 1) := by decide +kernel
theorem kd_R_asks_19 : decode kc_R_asks 19 = .ok (.iushr, 1) := by decide +kernel
theorem kd_R_asks_20 : decode kc_R_asks 20 = .ok (.sipush 255, 3) := by decide +kernel
theorem kd_R_asks_23 : decode kc_R_asks 23 = .ok (.iand, 1) := by decide +kernel
theorem kd_R_asks_24 : decode kc_R_asks 24 = .ok (.istore 5, 2) := by decide +kernel
theorem kd_R_asks_26 : decode kc_R_asks 26 = .ok (.iload 4, 2) := by decide +kernel
theorem kd_R_asks_28 : decode kc_R_asks 28 = .ok (.iconst 4, 1) := by decide +kernel
theorem kd_R_asks_29 : decode kc_R_asks 29 = .ok (.iload_n 1, 1) := by decide +kernel
theorem kd_R_asks_30 : decode kc_R_asks 30 = .ok (.isub, 1) := by decide +kernel
theorem kd_R_asks_31 : decode kc_R_asks 31 = .ok (.isub, 1) := by decide +kernel
theorem kd_R_asks_32 : decode kc_R_asks 32 = .ok (.istore 6, 2) := by decide +kernel
theorem kd_R_asks_34 : decode kc_R_asks 34 = .ok (.iload 6, 2) := by decide +kernel
theorem kd_R_asks_36 : decode kc_R_asks 36 = .ok (.ifCond .ge 21, 3) := by decide +kernel
theorem kd_R_asks_39 : decode kc_R_asks 39 = .ok (.iload_n 3, 1) := by decide +kernel
theorem kd_R_asks_40 : decode kc_R_asks 40 = .ok (.ifCond .eq 12, 3) := by decide +kernel
theorem kd_R_asks_43 : decode kc_R_asks 43 = .ok (.iload 5, 2) := by decide +kernel
theorem kd_R_asks_45 : decode kc_R_asks 45 = .ok (.ifCond .ne 7, 3) := by decide +kernel
theorem kd_R_asks_48 : decode kc_R_asks 48 = .ok (.iconst 1, 1) := by decide +kernel
theorem kd_R_asks_49 : decode kc_R_asks 49 = .ok (.goto 4, 3) := by decide +kernel
theorem kd_R_asks_52 : decode kc_R_asks 52 = .ok (.iconst 0, 1) := by decide +kernel
theorem kd_R_asks_53 : decode kc_R_asks 53 = .ok (.istore_n 3, 1) := by decide +kernel
theorem kd_R_asks_54 : decode kc_R_asks 54 = .ok (.goto 12, 3) := by decide +kernel
theorem kd_R_asks_57 : decode kc_R_asks 57 = .ok (.aload_n 0, 1) := by decide +kernel
theorem kd_R_asks_58 : decode kc_R_asks 58 = .ok (.getfield 35, 3) := by decide +kernel
theorem kd_R_asks_61 : decode kc_R_asks 61 = .ok (.iload 6, 2) := by decide +kernel
theorem kd_R_asks_63 : decode kc_R_asks 63 = .ok (.iload 5, 2) := by decide +kernel
theorem kd_R_asks_65 : decode kc_R_asks 65 = .ok (.iastore, 1) := by decide +kernel
theorem kd_R_asks_66 : decode kc_R_asks 66 = .ok (.iload_n 3, 1) := by decide +kernel
theorem kd_R_asks_67 : decode kc_R_asks 67 = .ok (.ifCond .eq 24, 3) := by decide +kernel
theorem kd_R_asks_70 : decode kc_R_asks 70 = .ok (.iload 6, 2) := by decide +kernel
theorem kd_R_asks_72 : decode kc_R_asks 72 = .ok (.ifCond .lt 15, 3) := by decide +kernel
theorem kd_R_asks_75 : decode kc_R_asks 75 = .ok (.iload 5, 2) := by decide +kernel
theorem kd_R_asks_77 : decode kc_R_asks 77 = .ok (.bipush 6, 2) := by decide +kernel
theorem kd_R_asks_79 : decode kc_R_asks 79 = .ok (.aload_n 0, 1) := by decide +kernel
theorem kd_R_asks_80 : decode kc_R_asks 80 = .ok (.getfield 61, 3) := by decide +kernel
theorem kd_R_asks_83 : decode kc_R_asks 83 = .ok (.iadd, 1) := by decide +kernel
theorem kd_R_asks_84 : decode kc_R_asks 84 = .ok (.if_icmp .ge 7, 3) := by decide +kernel
theorem kd_R_asks_87 : decode kc_R_asks 87 = .ok (.iconst 1, 1) := by decide +kernel
theorem kd_R_asks_88 : decode kc_R_asks 88 = .ok (.goto 4, 3) := by decide +kernel
theorem kd_R_asks_91 : decode kc_R_asks 91 = .ok (.iconst 0, 1) := by decide +kernel
theorem kd_R_asks_92 : decode kc_R_asks 92 = .ok (.istore_n 3, 1) := by decide +kernel
theorem kd_R_asks_93 : decode kc_R_asks 93 = .ok (.iinc 4 1, 3) := by decide +kernel
theorem kd_R_asks_96 : decode kc_R_asks 96 = .ok (.goto (-91), 3) := by decide +kernel
theorem kd_R_asks_99 : decode kc_R_asks 99 = .ok (.iload_n 3, 1) := by decide +kernel
theorem kd_R_asks_100 : decode kc_R_asks 100 = .ok (.ireturn, 1) := by decide +kernel
theorem kd_R_methodOf_0 : decode kc_R_methodOf 0 = .ok (.iconst (-1), 1) := by decide +kernel
theorem kd_R_methodOf_1 : decode kc_R_methodOf 1 = .ok (.istore 4, 2) := by decide +kernel
theorem kd_R_methodOf_3 : decode kc_R_methodOf 3 = .ok (.iconst 0, 1) := by decide +kernel
theorem kd_R_methodOf_4 : decode kc_R_methodOf 4 = .ok (.istore 5, 2) := by decide +kernel
theorem kd_R_methodOf_6 : decode kc_R_methodOf 6 = .ok (.iload 5, 2) := by decide +kernel
theorem kd_R_methodOf_8 : decode kc_R_methodOf 8 = .ok (.aload_n 0, 1) := by decide +kernel
theorem kd_R_methodOf_9 : decode kc_R_methodOf 9 = .ok (.getfield 72, 3) := by decide +kernel
theorem kd_R_methodOf_12 : decode kc_R_methodOf 12 = .ok (.if_icmp .ge 112, 3) := by decide +kernel
theorem kd_R_methodOf_15 : decode kc_R_methodOf 15 = .ok (.aload_n 0, 1) := by decide +kernel
theorem kd_R_methodOf_16 : decode kc_R_methodOf 16 = .ok (.getfield 16, 3) := by decide +kernel
theorem kd_R_methodOf_19 : decode kc_R_methodOf 19 = .ok (.iload 5, 2) := by decide +kernel
theorem kd_R_methodOf_21 : decode kc_R_methodOf 21 = .ok (.iaload, 1) := by decide +kernel
theorem kd_R_methodOf_22 : decode kc_R_methodOf 22 = .ok (.iload_n 1, 1) := by decide +kernel
theorem kd_R_methodOf_23 : decode kc_R_methodOf 23 = .ok (.if_icmp .ne 29, 3) := by decide +kernel
theorem kd_R_methodOf_26 : decode kc_R_methodOf 26 = .ok (.aload_n 0, 1) := by decide +kernel
theorem kd_R_methodOf_27 : decode kc_R_methodOf 27 = .ok (.getfield 19, 3) := by decide +kernel
theorem kd_R_methodOf_30 : decode kc_R_methodOf 30 = .ok (.iload 5, 2) := by decide +kernel
theorem kd_R_methodOf_32 : decode kc_R_methodOf 32 = .ok (.iaload, 1) := by decide +kernel
theorem kd_R_methodOf_33 : decode kc_R_methodOf 33 = .ok (.iload_n 2, 1) := by decide +kernel
theorem kd_R_methodOf_34 : decode kc_R_methodOf 34 = .ok (.if_icmp .ne 18, 3) := by decide +kernel
theorem kd_R_methodOf_37 : decode kc_R_methodOf 37 = .ok (.aload_n 0, 1) := by decide +kernel
theorem kd_R_methodOf_38 : decode kc_R_methodOf 38 = .ok (.getfield 22, 3) := by decide +kernel
theorem kd_R_methodOf_41 : decode kc_R_methodOf 41 = .ok (.iload 5, 2) := by decide +kernel
theorem kd_R_methodOf_43 : decode kc_R_methodOf 43 = .ok (.iaload, 1) := by decide +kernel
theorem kd_R_methodOf_44 : decode kc_R_methodOf 44 = .ok (.iload_n 3, 1) := by decide +kernel
theorem kd_R_methodOf_45 : decode kc_R_methodOf 45 = .ok (.if_icmp .ne 7, 3) := by decide +kernel
theorem kd_R_methodOf_48 : decode kc_R_methodOf 48 = .ok (.iconst 1, 1) := by decide +kernel
theorem kd_R_methodOf_49 : decode kc_R_methodOf 49 = .ok (.goto 4, 3) := by decide +kernel
theorem kd_R_methodOf_52 : decode kc_R_methodOf 52 = .ok (.iconst 0, 1) := by decide +kernel
theorem kd_R_methodOf_53 : decode kc_R_methodOf 53 = .ok (.istore 6, 2) := by decide +kernel
theorem kd_R_methodOf_55 : decode kc_R_methodOf 55 = .ok (.iconst 0, 1) := by decide +kernel
theorem kd_R_methodOf_56 : decode kc_R_methodOf 56 = .ok (.istore 7, 2) := by decide +kernel
theorem kd_R_methodOf_58 : decode kc_R_methodOf 58 = .ok (.iload 7, 2) := by decide +kernel
theorem kd_R_methodOf_60 : decode kc_R_methodOf 60 = .ok (.iload_n 3, 1) := by decide +kernel
theorem kd_R_methodOf_61 : decode kc_R_methodOf 61 = .ok (.if_icmp .ge 43, 3) := by decide +kernel
theorem kd_R_methodOf_64 : decode kc_R_methodOf 64 = .ok (.iload 6, 2) := by decide +kernel
theorem kd_R_methodOf_66 : decode kc_R_methodOf 66 = .ok (.ifCond .eq 29, 3) := by decide +kernel
theorem kd_R_methodOf_69 : decode kc_R_methodOf 69 = .ok (.aload_n 0, 1) := by decide +kernel
theorem kd_R_methodOf_70 : decode kc_R_methodOf 70 = .ok (.getfield 25, 3) := by decide +kernel
theorem kd_R_methodOf_73 : decode kc_R_methodOf 73 = .ok (.iconst 4, 1) := by decide +kernel
theorem kd_R_methodOf_74 : decode kc_R_methodOf 74 = .ok (.iload 5, 2) := by decide +kernel
theorem kd_R_methodOf_76 : decode kc_R_methodOf 76 = .ok (.imul, 1) := by decide +kernel
theorem kd_R_methodOf_77 : decode kc_R_methodOf 77 = .ok (.iload 7, 2) := by decide +kernel
theorem kd_R_methodOf_79 : decode kc_R_methodOf 79 = .ok (.iadd, 1) := by decide +kernel
theorem kd_R_methodOf_80 : decode kc_R_methodOf 80 = .ok (.iaload, 1) := by decide +kernel
theorem kd_R_methodOf_81 : decode kc_R_methodOf 81 = .ok (.aload_n 0, 1) := by decide +kernel
theorem kd_R_methodOf_82 : decode kc_R_methodOf 82 = .ok (.getfield 35, 3) := by decide +kernel
theorem kd_R_methodOf_85 : decode kc_R_methodOf 85 = .ok (.iload 7, 2) := by decide +kernel
theorem kd_R_methodOf_87 : decode kc_R_methodOf 87 = .ok (.iaload, 1) := by decide +kernel
theorem kd_R_methodOf_88 : decode kc_R_methodOf 88 = .ok (.if_icmp .ne 7, 3) := by decide +kernel
theorem kd_R_methodOf_91 : decode kc_R_methodOf 91 = .ok (.iconst 1, 1) := by decide +kernel
theorem kd_R_methodOf_92 : decode kc_R_methodOf 92 = .ok (.goto 4, 3) := by decide +kernel
theorem kd_R_methodOf_95 : decode kc_R_methodOf 95 = .ok (.iconst 0, 1) := by decide +kernel
theorem kd_R_methodOf_96 : decode kc_R_methodOf 96 = .ok (.istore 6, 2) := by decide +kernel
theorem kd_R_methodOf_98 : decode kc_R_methodOf 98 = .ok (.iinc 7 1, 3) := by decide +kernel
theorem kd_R_methodOf_101 : decode kc_R_methodOf 101 = .ok (.goto (-43), 3) := by decide +kernel
theorem kd_R_methodOf_104 : decode kc_R_methodOf 104 = .ok (.iload 6, 2) := by decide +kernel
theorem kd_R_methodOf_106 : decode kc_R_methodOf 106 = .ok (.ifCond .eq 8, 3) := by decide +kernel
theorem kd_R_methodOf_109 : decode kc_R_methodOf 109 = .ok (.iload 5, 2) := by decide +kernel
theorem kd_R_methodOf_111 : decode kc_R_methodOf 111 = .ok (.goto 5, 3) := by decide +kernel
theorem kd_R_methodOf_114 : decode kc_R_methodOf 114 = .ok (.iload 4, 2) := by decide +kernel
theorem kd_R_methodOf_116 : decode kc_R_methodOf 116 = .ok (.istore 4, 2) := by decide +kernel
theorem kd_R_methodOf_118 : decode kc_R_methodOf 118 = .ok (.iinc 5 1, 3) := by decide +kernel
theorem kd_R_methodOf_121 : decode kc_R_methodOf 121 = .ok (.goto (-115), 3) := by decide +kernel
theorem kd_R_methodOf_124 : decode kc_R_methodOf 124 = .ok (.iload 4, 2) := by decide +kernel
theorem kd_R_methodOf_126 : decode kc_R_methodOf 126 = .ok (.ireturn, 1) := by decide +kernel
theorem kd_R_object_0 : decode kc_R_object 0 = .ok (.iload_n 1, 1) := by decide +kernel
theorem kd_R_object_1 : decode kc_R_object 1 = .ok (.aload_n 0, 1) := by decide +kernel
theorem kd_R_object_2 : decode kc_R_object 2 = .ok (.getfield 61, 3) := by decide +kernel
theorem kd_R_object_5 : decode kc_R_object 5 = .ok (.invokestatic 64, 3) := by decide +kernel
theorem kd_R_object_8 : decode kc_R_object 8 = .ok (.istore_n 2, 1) := by decide +kernel
theorem kd_R_object_9 : decode kc_R_object 9 = .ok (.aload_n 0, 1) := by decide +kernel
theorem kd_R_object_10 : decode kc_R_object 10 = .ok (.iload_n 2, 1) := by decide +kernel
theorem kd_R_object_11 : decode kc_R_object 11 = .ok (.iload_n 2, 1) := by decide +kernel
theorem kd_R_object_12 : decode kc_R_object 12 = .ok (.ifCond .ne 16, 3) := by decide +kernel
theorem kd_R_object_15 : decode kc_R_object 15 = .ok (.aload_n 0, 1) := by decide +kernel
theorem kd_R_object_16 : decode kc_R_object 16 = .ok (.getfield 82, 3) := by decide +kernel
theorem kd_R_object_19 : decode kc_R_object 19 = .ok (.bipush 64, 2) := by decide +kernel
theorem kd_R_object_21 : decode kc_R_object 21 = .ok (.if_icmp .ne 7, 3) := by decide +kernel
theorem kd_R_object_24 : decode kc_R_object 24 = .ok (.iconst 1, 1) := by decide +kernel
theorem kd_R_object_25 : decode kc_R_object 25 = .ok (.goto 4, 3) := by decide +kernel
theorem kd_R_object_28 : decode kc_R_object 28 = .ok (.iconst 0, 1) := by decide +kernel
theorem kd_R_object_29 : decode kc_R_object 29 = .ok (.iconst 0, 1) := by decide +kernel
theorem kd_R_object_30 : decode kc_R_object 30 = .ok (.invokevirtual 68, 3) := by decide +kernel
theorem kd_R_object_33 : decode kc_R_object 33 = .ok (.ifCond .eq 5, 3) := by decide +kernel
theorem kd_R_object_36 : decode kc_R_object 36 = .ok (.iconst 0, 1) := by decide +kernel
theorem kd_R_object_37 : decode kc_R_object 37 = .ok (.ireturn, 1) := by decide +kernel
theorem kd_R_object_38 : decode kc_R_object 38 = .ok (.aload_n 0, 1) := by decide +kernel
theorem kd_R_object_39 : decode kc_R_object 39 = .ok (.getfield 13, 3) := by decide +kernel
theorem kd_R_object_42 : decode kc_R_object 42 = .ok (.aload_n 0, 1) := by decide +kernel
theorem kd_R_object_43 : decode kc_R_object 43 = .ok (.getfield 82, 3) := by decide +kernel
theorem kd_R_object_46 : decode kc_R_object 46 = .ok (.iload_n 1, 1) := by decide +kernel
theorem kd_R_object_47 : decode kc_R_object 47 = .ok (.iastore, 1) := by decide +kernel
theorem kd_R_object_48 : decode kc_R_object 48 = .ok (.aload_n 0, 1) := by decide +kernel
theorem kd_R_object_49 : decode kc_R_object 49 = .ok (.dup, 1) := by decide +kernel
theorem kd_R_object_50 : decode kc_R_object 50 = .ok (.getfield 82, 3) := by decide +kernel
theorem kd_R_object_53 : decode kc_R_object 53 = .ok (.iconst 1, 1) := by decide +kernel
theorem kd_R_object_54 : decode kc_R_object 54 = .ok (.iadd, 1) := by decide +kernel
theorem kd_R_object_55 : decode kc_R_object 55 = .ok (.putfield 82, 3) := by decide +kernel
theorem kd_R_object_58 : decode kc_R_object 58 = .ok (.aload_n 0, 1) := by decide +kernel
theorem kd_R_object_59 : decode kc_R_object 59 = .ok (.getfield 82, 3) := by decide +kernel
theorem kd_R_object_62 : decode kc_R_object 62 = .ok (.iconst 1, 1) := by decide +kernel
theorem kd_R_object_63 : decode kc_R_object 63 = .ok (.isub, 1) := by decide +kernel
theorem kd_R_object_64 : decode kc_R_object 64 = .ok (.ireturn, 1) := by decide +kernel
theorem kd_R_argument_0 : decode kc_R_argument 0 = .ok (.iload_n 1, 1) := by decide +kernel
theorem kd_R_argument_1 : decode kc_R_argument 1 = .ok (.bipush 7, 2) := by decide +kernel
theorem kd_R_argument_3 : decode kc_R_argument 3 = .ok (.invokestatic 64, 3) := by decide +kernel
theorem kd_R_argument_6 : decode kc_R_argument 6 = .ok (.ifCond .ne 58, 3) := by decide +kernel
theorem kd_R_argument_9 : decode kc_R_argument 9 = .ok (.iload_n 1, 1) := by decide +kernel
theorem kd_R_argument_10 : decode kc_R_argument 10 = .ok (.iconst 2, 1) := by decide +kernel
theorem kd_R_argument_11 : decode kc_R_argument 11 = .ok (.if_icmp .ne 15, 3) := by decide +kernel
theorem kd_R_argument_14 : decode kc_R_argument 14 = .ok (.lload_n 2, 1) := by decide +kernel
theorem kd_R_argument_15 : decode kc_R_argument 15 = .ok (.lconst 0, 1) := by decide +kernel
theorem kd_R_argument_16 : decode kc_R_argument 16 = .ok (.lcmp, 1) := by decide +kernel
theorem kd_R_argument_17 : decode kc_R_argument 17 = .ok (.ifCond .eq 9, 3) := by decide +kernel
theorem kd_R_argument_20 : decode kc_R_argument 20 = .ok (.lload_n 2, 1) := by decide +kernel
theorem kd_R_argument_21 : decode kc_R_argument 21 = .ok (.lconst 1, 1) := by decide +kernel
theorem kd_R_argument_22 : decode kc_R_argument 22 = .ok (.lcmp, 1) := by decide +kernel
theorem kd_R_argument_23 : decode kc_R_argument 23 = .ok (.ifCond .ne 41, 3) := by decide +kernel
theorem kd_R_argument_26 : decode kc_R_argument 26 = .ok (.iload_n 1, 1) := by decide +kernel
theorem kd_R_argument_27 : decode kc_R_argument 27 = .ok (.iconst 4, 1) := by decide +kernel
theorem kd_R_argument_28 : decode kc_R_argument 28 = .ok (.if_icmp .eq 9, 3) := by decide +kernel
theorem kd_R_argument_31 : decode kc_R_argument 31 = .ok (.iload_n 1, 1) := by decide +kernel
theorem kd_R_argument_32 : decode kc_R_argument 32 = .ok (.bipush 6, 2) := by decide +kernel
theorem kd_R_argument_34 : decode kc_R_argument 34 = .ok (.if_icmp .ne 9, 3) := by decide +kernel
theorem kd_R_argument_37 : decode kc_R_argument 37 = .ok (.lload_n 2, 1) := by decide +kernel
theorem kd_R_argument_38 : decode kc_R_argument 38 = .ok (.lconst 0, 1) := by decide +kernel
theorem kd_R_argument_39 : decode kc_R_argument 39 = .ok (.lcmp, 1) := by decide +kernel
theorem kd_R_argument_40 : decode kc_R_argument 40 = .ok (.ifCond .lt 24, 3) := by decide +kernel
theorem kd_R_argument_43 : decode kc_R_argument 43 = .ok (.iload_n 1, 1) := by decide +kernel
theorem kd_R_argument_44 : decode kc_R_argument 44 = .ok (.iconst 5, 1) := by decide +kernel
theorem kd_R_argument_45 : decode kc_R_argument 45 = .ok (.if_icmp .ne 23, 3) := by decide +kernel
theorem kd_R_argument_48 : decode kc_R_argument 48 = .ok (.lload_n 2, 1) := by decide +kernel
theorem kd_R_argument_49 : decode kc_R_argument 49 = .ok (.lconst 0, 1) := by decide +kernel
theorem kd_R_argument_50 : decode kc_R_argument 50 = .ok (.lcmp, 1) := by decide +kernel
theorem kd_R_argument_51 : decode kc_R_argument 51 = .ok (.ifCond .lt 13, 3) := by decide +kernel
theorem kd_R_argument_54 : decode kc_R_argument 54 = .ok (.lload_n 2, 1) := by decide +kernel
theorem kd_R_argument_55 : decode kc_R_argument 55 = .ok (.aload_n 0, 1) := by decide +kernel
theorem kd_R_argument_56 : decode kc_R_argument 56 = .ok (.getfield 82, 3) := by decide +kernel
theorem kd_R_argument_59 : decode kc_R_argument 59 = .ok (.i2l, 1) := by decide +kernel
theorem kd_R_argument_60 : decode kc_R_argument 60 = .ok (.lcmp, 1) := by decide +kernel
theorem kd_R_argument_61 : decode kc_R_argument 61 = .ok (.ifCond .lt 7, 3) := by decide +kernel
theorem kd_R_argument_64 : decode kc_R_argument 64 = .ok (.iconst 1, 1) := by decide +kernel
theorem kd_R_argument_65 : decode kc_R_argument 65 = .ok (.goto 4, 3) := by decide +kernel
theorem kd_R_argument_68 : decode kc_R_argument 68 = .ok (.iconst 0, 1) := by decide +kernel
theorem kd_R_argument_69 : decode kc_R_argument 69 = .ok (.istore 4, 2) := by decide +kernel
theorem kd_R_argument_71 : decode kc_R_argument 71 = .ok (.aload_n 0, 1) := by decide +kernel
theorem kd_R_argument_72 : decode kc_R_argument 72 = .ok (.iload 4, 2) := by decide +kernel
theorem kd_R_argument_74 : decode kc_R_argument 74 = .ok (.iload 4, 2) := by decide +kernel
theorem kd_R_argument_76 : decode kc_R_argument 76 = .ok (.ifCond .ne 15, 3) := by decide +kernel
theorem kd_R_argument_79 : decode kc_R_argument 79 = .ok (.aload_n 0, 1) := by decide +kernel
theorem kd_R_argument_80 : decode kc_R_argument 80 = .ok (.getfield 85, 3) := by decide +kernel
theorem kd_R_argument_83 : decode kc_R_argument 83 = .ok (.iconst 4, 1) := by decide +kernel
theorem kd_R_argument_84 : decode kc_R_argument 84 = .ok (.if_icmp .ne 7, 3) := by decide +kernel
theorem kd_R_argument_87 : decode kc_R_argument 87 = .ok (.iconst 1, 1) := by decide +kernel
theorem kd_R_argument_88 : decode kc_R_argument 88 = .ok (.goto 4, 3) := by decide +kernel
theorem kd_R_argument_91 : decode kc_R_argument 91 = .ok (.iconst 0, 1) := by decide +kernel
theorem kd_R_argument_92 : decode kc_R_argument 92 = .ok (.iconst 0, 1) := by decide +kernel
theorem kd_R_argument_93 : decode kc_R_argument 93 = .ok (.invokevirtual 68, 3) := by decide +kernel
theorem kd_R_argument_96 : decode kc_R_argument 96 = .ok (.ifCond .eq 5, 3) := by decide +kernel
theorem kd_R_argument_99 : decode kc_R_argument 99 = .ok (.iconst 0, 1) := by decide +kernel
theorem kd_R_argument_100 : decode kc_R_argument 100 = .ok (.ireturn, 1) := by decide +kernel
theorem kd_R_argument_101 : decode kc_R_argument 101 = .ok (.aload_n 0, 1) := by decide +kernel
theorem kd_R_argument_102 : decode kc_R_argument 102 = .ok (.getfield 28, 3) := by decide +kernel
theorem kd_R_argument_105 : decode kc_R_argument 105 = .ok (.aload_n 0, 1) := by decide +kernel
theorem kd_R_argument_106 : decode kc_R_argument 106 = .ok (.getfield 85, 3) := by decide +kernel
theorem kd_R_argument_109 : decode kc_R_argument 109 = .ok (.iload_n 1, 1) := by decide +kernel
theorem kd_R_argument_110 : decode kc_R_argument 110 = .ok (.iastore, 1) := by decide +kernel
theorem kd_R_argument_111 : decode kc_R_argument 111 = .ok (.aload_n 0, 1) := by decide +kernel
theorem kd_R_argument_112 : decode kc_R_argument 112 = .ok (.getfield 31, 3) := by decide +kernel
theorem kd_R_argument_115 : decode kc_R_argument 115 = .ok (.aload_n 0, 1) := by decide +kernel
theorem kd_R_argument_116 : decode kc_R_argument 116 = .ok (.getfield 85, 3) := by decide +kernel
theorem kd_R_argument_119 : decode kc_R_argument 119 = .ok (.lload_n 2, 1) := by decide +kernel
theorem kd_R_argument_120 : decode kc_R_argument 120 = .ok (.lastore, 1) := by decide +kernel
theorem kd_R_argument_121 : decode kc_R_argument 121 = .ok (.aload_n 0, 1) := by decide +kernel
theorem kd_R_argument_122 : decode kc_R_argument 122 = .ok (.dup, 1) := by decide +kernel
theorem kd_R_argument_123 : decode kc_R_argument 123 = .ok (.getfield 85, 3) := by decide +kernel
theorem kd_R_argument_126 : decode kc_R_argument 126 = .ok (.iconst 1, 1) := by decide +kernel
theorem kd_R_argument_127 : decode kc_R_argument 127 = .ok (.iadd, 1) := by decide +kernel
theorem kd_R_argument_128 : decode kc_R_argument 128 = .ok (.putfield 85, 3) := by decide +kernel
theorem kd_R_argument_131 : decode kc_R_argument 131 = .ok (.aload_n 0, 1) := by decide +kernel
theorem kd_R_argument_132 : decode kc_R_argument 132 = .ok (.getfield 85, 3) := by decide +kernel
theorem kd_R_argument_135 : decode kc_R_argument 135 = .ok (.ireturn, 1) := by decide +kernel
theorem kd_R_weight_0 : decode kc_R_weight 0 = .ok (.aload_n 0, 1) := by decide +kernel
theorem kd_R_weight_1 : decode kc_R_weight 1 = .ok (.iload_n 1, 1) := by decide +kernel
theorem kd_R_weight_2 : decode kc_R_weight 2 = .ok (.aload_n 0, 1) := by decide +kernel
theorem kd_R_weight_3 : decode kc_R_weight 3 = .ok (.getfield 85, 3) := by decide +kernel
theorem kd_R_weight_6 : decode kc_R_weight 6 = .ok (.invokestatic 64, 3) := by decide +kernel
theorem kd_R_weight_9 : decode kc_R_weight 9 = .ok (.ifCond .ne 17, 3) := by decide +kernel
theorem kd_R_weight_12 : decode kc_R_weight 12 = .ok (.iload_n 2, 1) := by decide +kernel
theorem kd_R_weight_13 : decode kc_R_weight 13 = .ok (.bipush 6, 2) := by decide +kernel
theorem kd_R_weight_15 : decode kc_R_weight 15 = .ok (.aload_n 0, 1) := by decide +kernel
theorem kd_R_weight_16 : decode kc_R_weight 16 = .ok (.getfield 61, 3) := by decide +kernel
theorem kd_R_weight_19 : decode kc_R_weight 19 = .ok (.iadd, 1) := by decide +kernel
theorem kd_R_weight_20 : decode kc_R_weight 20 = .ok (.invokestatic 64, 3) := by decide +kernel
theorem kd_R_weight_23 : decode kc_R_weight 23 = .ok (.ifCond .eq 7, 3) := by decide +kernel
theorem kd_R_weight_26 : decode kc_R_weight 26 = .ok (.iconst 1, 1) := by decide +kernel
theorem kd_R_weight_27 : decode kc_R_weight 27 = .ok (.goto 4, 3) := by decide +kernel
theorem kd_R_weight_30 : decode kc_R_weight 30 = .ok (.iconst 0, 1) := by decide +kernel
theorem kd_R_weight_31 : decode kc_R_weight 31 = .ok (.iconst 0, 1) := by decide +kernel
theorem kd_R_weight_32 : decode kc_R_weight 32 = .ok (.iconst 0, 1) := by decide +kernel
theorem kd_R_weight_33 : decode kc_R_weight 33 = .ok (.invokevirtual 68, 3) := by decide +kernel
theorem kd_R_weight_36 : decode kc_R_weight 36 = .ok (.ifCond .eq 7, 3) := by decide +kernel
theorem kd_R_weight_39 : decode kc_R_weight 39 = .ok (.iconst 0, 1) := by decide +kernel
theorem kd_R_weight_40 : decode kc_R_weight 40 = .ok (.goto 9, 3) := by decide +kernel
theorem kd_R_weight_43 : decode kc_R_weight 43 = .ok (.aload_n 0, 1) := by decide +kernel
theorem kd_R_weight_44 : decode kc_R_weight 44 = .ok (.iload_n 1, 1) := by decide +kernel
theorem kd_R_weight_45 : decode kc_R_weight 45 = .ok (.iload_n 2, 1) := by decide +kernel
theorem kd_R_weight_46 : decode kc_R_weight 46 = .ok (.invokevirtual 118, 3) := by decide +kernel
theorem kd_R_weight_49 : decode kc_R_weight 49 = .ok (.ireturn, 1) := by decide +kernel
theorem kd_R_weightOf_0 : decode kc_R_weightOf 0 = .ok (.aload_n 0, 1) := by decide +kernel
theorem kd_R_weightOf_1 : decode kc_R_weightOf 1 = .ok (.getfield 28, 3) := by decide +kernel
theorem kd_R_weightOf_4 : decode kc_R_weightOf 4 = .ok (.iload_n 1, 1) := by decide +kernel
theorem kd_R_weightOf_5 : decode kc_R_weightOf 5 = .ok (.iaload, 1) := by decide +kernel
theorem kd_R_weightOf_6 : decode kc_R_weightOf 6 = .ok (.istore_n 3, 1) := by decide +kernel
theorem kd_R_weightOf_7 : decode kc_R_weightOf 7 = .ok (.iload_n 3, 1) := by decide +kernel
theorem kd_R_weightOf_8 : decode kc_R_weightOf 8 = .ok (.iconst 3, 1) := by decide +kernel
theorem kd_R_weightOf_9 : decode kc_R_weightOf 9 = .ok (.if_icmp .ne 14, 3) := by decide +kernel
theorem kd_R_weightOf_12 : decode kc_R_weightOf 12 = .ok (.aload_n 0, 1) := by decide +kernel
theorem kd_R_weightOf_13 : decode kc_R_weightOf 13 = .ok (.getfield 31, 3) := by decide +kernel
theorem kd_R_weightOf_16 : decode kc_R_weightOf 16 = .ok (.iload_n 1, 1) := by decide +kernel
theorem kd_R_weightOf_17 : decode kc_R_weightOf 17 = .ok (.laload, 1) := by decide +kernel
theorem kd_R_weightOf_18 : decode kc_R_weightOf 18 = .ok (.iload_n 2, 1) := by decide +kernel
theorem kd_R_weightOf_19 : decode kc_R_weightOf 19 = .ok (.invokestatic 114, 3) := by decide +kernel
theorem kd_R_weightOf_22 : decode kc_R_weightOf 22 = .ok (.ireturn, 1) := by decide +kernel
theorem kd_R_weightOf_23 : decode kc_R_weightOf 23 = .ok (.iload_n 2, 1) := by decide +kernel
theorem kd_R_weightOf_24 : decode kc_R_weightOf 24 = .ok (.iconst 4, 1) := by decide +kernel
theorem kd_R_weightOf_25 : decode kc_R_weightOf 25 = .ok (.if_icmp .ne 42, 3) := by decide +kernel
theorem kd_R_weightOf_28 : decode kc_R_weightOf 28 = .ok (.iload_n 3, 1) := by decide +kernel
theorem kd_R_weightOf_29 : decode kc_R_weightOf 29 = .ok (.ifCond .ne 8, 3) := by decide +kernel
theorem kd_R_weightOf_32 : decode kc_R_weightOf 32 = .ok (.bipush 41, 2) := by decide +kernel
theorem kd_R_weightOf_34 : decode kc_R_weightOf 34 = .ok (.goto 32, 3) := by decide +kernel
theorem kd_R_weightOf_37 : decode kc_R_weightOf 37 = .ok (.iload_n 3, 1) := by decide +kernel
theorem kd_R_weightOf_38 : decode kc_R_weightOf 38 = .ok (.iconst 1, 1) := by decide +kernel
theorem kd_R_weightOf_39 : decode kc_R_weightOf 39 = .ok (.if_icmp .ne 7, 3) := by decide +kernel
theorem kd_R_weightOf_42 : decode kc_R_weightOf 42 = .ok (.iconst 2, 1) := by decide +kernel
theorem kd_R_weightOf_43 : decode kc_R_weightOf 43 = .ok (.goto 23, 3) := by decide +kernel
theorem kd_R_weightOf_46 : decode kc_R_weightOf 46 = .ok (.iload_n 3, 1) := by decide +kernel
theorem kd_R_weightOf_47 : decode kc_R_weightOf 47 = .ok (.iconst 2, 1) := by decide +kernel
theorem kd_R_weightOf_48 : decode kc_R_weightOf 48 = .ok (.if_icmp .ne 7, 3) := by decide +kernel
theorem kd_R_weightOf_51 : decode kc_R_weightOf 51 = .ok (.iconst 3, 1) := by decide +kernel
theorem kd_R_weightOf_52 : decode kc_R_weightOf 52 = .ok (.goto 14, 3) := by decide +kernel
theorem kd_R_weightOf_55 : decode kc_R_weightOf 55 = .ok (.iload_n 3, 1) := by decide +kernel
theorem kd_R_weightOf_56 : decode kc_R_weightOf 56 = .ok (.iconst 4, 1) := by decide +kernel
theorem kd_R_weightOf_57 : decode kc_R_weightOf 57 = .ok (.if_icmp .ne 7, 3) := by decide +kernel
theorem kd_R_weightOf_60 : decode kc_R_weightOf 60 = .ok (.iconst 0, 1) := by decide +kernel
theorem kd_R_weightOf_61 : decode kc_R_weightOf 61 = .ok (.goto 5, 3) := by decide +kernel
theorem kd_R_weightOf_64 : decode kc_R_weightOf 64 = .ok (.bipush 40, 2) := by decide +kernel
theorem kd_R_weightOf_66 : decode kc_R_weightOf 66 = .ok (.ireturn, 1) := by decide +kernel
theorem kd_R_weightOf_67 : decode kc_R_weightOf 67 = .ok (.iload_n 2, 1) := by decide +kernel
theorem kd_R_weightOf_68 : decode kc_R_weightOf 68 = .ok (.iconst 5, 1) := by decide +kernel
theorem kd_R_weightOf_69 : decode kc_R_weightOf 69 = .ok (.if_icmp .ne 29, 3) := by decide +kernel
theorem kd_R_weightOf_72 : decode kc_R_weightOf 72 = .ok (.iload_n 3, 1) := by decide +kernel
theorem kd_R_weightOf_73 : decode kc_R_weightOf 73 = .ok (.iconst 2, 1) := by decide +kernel
theorem kd_R_weightOf_74 : decode kc_R_weightOf 74 = .ok (.if_icmp .eq 8, 3) := by decide +kernel
theorem kd_R_weightOf_77 : decode kc_R_weightOf 77 = .ok (.iload_n 3, 1) := by decide +kernel
theorem kd_R_weightOf_78 : decode kc_R_weightOf 78 = .ok (.iconst 4, 1) := by decide +kernel
theorem kd_R_weightOf_79 : decode kc_R_weightOf 79 = .ok (.if_icmp .ne 7, 3) := by decide +kernel
theorem kd_R_weightOf_82 : decode kc_R_weightOf 82 = .ok (.iconst 2, 1) := by decide +kernel
theorem kd_R_weightOf_83 : decode kc_R_weightOf 83 = .ok (.goto 14, 3) := by decide +kernel
theorem kd_R_weightOf_86 : decode kc_R_weightOf 86 = .ok (.iload_n 3, 1) := by decide +kernel
theorem kd_R_weightOf_87 : decode kc_R_weightOf 87 = .ok (.iconst 5, 1) := by decide +kernel
theorem kd_R_weightOf_88 : decode kc_R_weightOf 88 = .ok (.if_icmp .ne 8, 3) := by decide +kernel
theorem kd_R_weightOf_91 : decode kc_R_weightOf 91 = .ok (.bipush 20, 2) := by decide +kernel
theorem kd_R_weightOf_93 : decode kc_R_weightOf 93 = .ok (.goto 4, 3) := by decide +kernel
theorem kd_R_weightOf_96 : decode kc_R_weightOf 96 = .ok (.iconst 0, 1) := by decide +kernel
theorem kd_R_weightOf_97 : decode kc_R_weightOf 97 = .ok (.ireturn, 1) := by decide +kernel
theorem kd_R_weightOf_98 : decode kc_R_weightOf 98 = .ok (.iload_n 2, 1) := by decide +kernel
theorem kd_R_weightOf_99 : decode kc_R_weightOf 99 = .ok (.ifCond .ne 14, 3) := by decide +kernel
theorem kd_R_weightOf_102 : decode kc_R_weightOf 102 = .ok (.iload_n 3, 1) := by decide +kernel
theorem kd_R_weightOf_103 : decode kc_R_weightOf 103 = .ok (.iconst 2, 1) := by decide +kernel
theorem kd_R_weightOf_104 : decode kc_R_weightOf 104 = .ok (.if_icmp .ne 7, 3) := by decide +kernel
theorem kd_R_weightOf_107 : decode kc_R_weightOf 107 = .ok (.iconst 0, 1) := by decide +kernel
theorem kd_R_weightOf_108 : decode kc_R_weightOf 108 = .ok (.goto 4, 3) := by decide +kernel
theorem kd_R_weightOf_111 : decode kc_R_weightOf 111 = .ok (.iconst (-1), 1) := by decide +kernel
theorem kd_R_weightOf_112 : decode kc_R_weightOf 112 = .ok (.ireturn, 1) := by decide +kernel
theorem kd_R_weightOf_113 : decode kc_R_weightOf 113 = .ok (.iload_n 2, 1) := by decide +kernel
theorem kd_R_weightOf_114 : decode kc_R_weightOf 114 = .ok (.bipush 6, 2) := by decide +kernel
theorem kd_R_weightOf_116 : decode kc_R_weightOf 116 = .ok (.if_icmp .lt 13, 3) := by decide +kernel
theorem kd_R_weightOf_119 : decode kc_R_weightOf 119 = .ok (.iload_n 3, 1) := by decide +kernel
theorem kd_R_weightOf_120 : decode kc_R_weightOf 120 = .ok (.iconst 1, 1) := by decide +kernel
theorem kd_R_weightOf_121 : decode kc_R_weightOf 121 = .ok (.if_icmp .eq 10, 3) := by decide +kernel
theorem kd_R_weightOf_124 : decode kc_R_weightOf 124 = .ok (.iload_n 3, 1) := by decide +kernel
theorem kd_R_weightOf_125 : decode kc_R_weightOf 125 = .ok (.iconst 5, 1) := by decide +kernel
theorem kd_R_weightOf_126 : decode kc_R_weightOf 126 = .ok (.if_icmp .eq 5, 3) := by decide +kernel
theorem kd_R_weightOf_129 : decode kc_R_weightOf 129 = .ok (.iconst (-1), 1) := by decide +kernel
theorem kd_R_weightOf_130 : decode kc_R_weightOf 130 = .ok (.ireturn, 1) := by decide +kernel
theorem kd_R_weightOf_131 : decode kc_R_weightOf 131 = .ok (.iload_n 3, 1) := by decide +kernel
theorem kd_R_weightOf_132 : decode kc_R_weightOf 132 = .ok (.iconst 1, 1) := by decide +kernel
theorem kd_R_weightOf_133 : decode kc_R_weightOf 133 = .ok (.if_icmp .ne 5, 3) := by decide +kernel
theorem kd_R_weightOf_136 : decode kc_R_weightOf 136 = .ok (.iconst 1, 1) := by decide +kernel
theorem kd_R_weightOf_137 : decode kc_R_weightOf 137 = .ok (.ireturn, 1) := by decide +kernel
theorem kd_R_weightOf_138 : decode kc_R_weightOf 138 = .ok (.iconst 0, 1) := by decide +kernel
theorem kd_R_weightOf_139 : decode kc_R_weightOf 139 = .ok (.istore 4, 2) := by decide +kernel
theorem kd_R_weightOf_141 : decode kc_R_weightOf 141 = .ok (.aload_n 0, 1) := by decide +kernel
theorem kd_R_weightOf_142 : decode kc_R_weightOf 142 = .ok (.getfield 13, 3) := by decide +kernel
theorem kd_R_weightOf_145 : decode kc_R_weightOf 145 = .ok (.aload_n 0, 1) := by decide +kernel
theorem kd_R_weightOf_146 : decode kc_R_weightOf 146 = .ok (.getfield 31, 3) := by decide +kernel
theorem kd_R_weightOf_149 : decode kc_R_weightOf 149 = .ok (.iload_n 1, 1) := by decide +kernel
theorem kd_R_weightOf_150 : decode kc_R_weightOf 150 = .ok (.laload, 1) := by decide +kernel
theorem kd_R_weightOf_151 : decode kc_R_weightOf 151 = .ok (.l2i, 1) := by decide +kernel
theorem kd_R_weightOf_152 : decode kc_R_weightOf 152 = .ok (.iaload, 1) := by decide +kernel
theorem kd_R_weightOf_153 : decode kc_R_weightOf 153 = .ok (.istore 5, 2) := by decide +kernel
theorem kd_R_weightOf_155 : decode kc_R_weightOf 155 = .ok (.iload 5, 2) := by decide +kernel
theorem kd_R_weightOf_157 : decode kc_R_weightOf 157 = .ok (.ifCond .lt 27, 3) := by decide +kernel
theorem kd_R_weightOf_160 : decode kc_R_weightOf 160 = .ok (.iload 5, 2) := by decide +kernel
theorem kd_R_weightOf_162 : decode kc_R_weightOf 162 = .ok (.iload_n 2, 1) := by decide +kernel
theorem kd_R_weightOf_163 : decode kc_R_weightOf 163 = .ok (.bipush 6, 2) := by decide +kernel
theorem kd_R_weightOf_165 : decode kc_R_weightOf 165 = .ok (.isub, 1) := by decide +kernel
theorem kd_R_weightOf_166 : decode kc_R_weightOf 166 = .ok (.if_icmp .eq 18, 3) := by decide +kernel
theorem kd_R_weightOf_169 : decode kc_R_weightOf 169 = .ok (.aload_n 0, 1) := by decide +kernel
theorem kd_R_weightOf_170 : decode kc_R_weightOf 170 = .ok (.getfield 7, 3) := by decide +kernel
theorem kd_R_weightOf_173 : decode kc_R_weightOf 173 = .ok (.iload 5, 2) := by decide +kernel
theorem kd_R_weightOf_175 : decode kc_R_weightOf 175 = .ok (.iaload, 1) := by decide +kernel
theorem kd_R_weightOf_176 : decode kc_R_weightOf 176 = .ok (.istore 5, 2) := by decide +kernel
theorem kd_R_weightOf_178 : decode kc_R_weightOf 178 = .ok (.iinc 4 1, 3) := by decide +kernel
theorem kd_R_weightOf_181 : decode kc_R_weightOf 181 = .ok (.goto (-26), 3) := by decide +kernel
theorem kd_R_weightOf_184 : decode kc_R_weightOf 184 = .ok (.iload 5, 2) := by decide +kernel
theorem kd_R_weightOf_186 : decode kc_R_weightOf 186 = .ok (.ifCond .ge 7, 3) := by decide +kernel
theorem kd_R_weightOf_189 : decode kc_R_weightOf 189 = .ok (.iconst (-1), 1) := by decide +kernel
theorem kd_R_weightOf_190 : decode kc_R_weightOf 190 = .ok (.goto 5, 3) := by decide +kernel
theorem kd_R_weightOf_193 : decode kc_R_weightOf 193 = .ok (.iload 4, 2) := by decide +kernel
theorem kd_R_weightOf_195 : decode kc_R_weightOf 195 = .ok (.ireturn, 1) := by decide +kernel
theorem kd_R_weightOfNumber_0 : decode kc_R_weightOfNumber 0 = .ok (.iload_n 2, 1) := by decide +kernel
theorem kd_R_weightOfNumber_1 : decode kc_R_weightOfNumber 1 = .ok (.ifCond .ne 6, 3) := by decide +kernel
theorem kd_R_weightOfNumber_4 : decode kc_R_weightOfNumber 4 = .ok (.bipush 6, 2) := by decide +kernel
theorem kd_R_weightOfNumber_6 : decode kc_R_weightOfNumber 6 = .ok (.ireturn, 1) := by decide +kernel
theorem kd_R_weightOfNumber_7 : decode kc_R_weightOfNumber 7 = .ok (.iload_n 2, 1) := by decide +kernel
theorem kd_R_weightOfNumber_8 : decode kc_R_weightOfNumber 8 = .ok (.iconst 3, 1) := by decide +kernel
theorem kd_R_weightOfNumber_9 : decode kc_R_weightOfNumber 9 = .ok (.if_icmp .le 23, 3) := by decide +kernel
theorem kd_R_weightOfNumber_12 : decode kc_R_weightOfNumber 12 = .ok (.iload_n 2, 1) := by decide +kernel
theorem kd_R_weightOfNumber_13 : decode kc_R_weightOfNumber 13 = .ok (.iconst 4, 1) := by decide +kernel
theorem kd_R_weightOfNumber_14 : decode kc_R_weightOfNumber 14 = .ok (.if_icmp .ne 7, 3) := by decide +kernel
theorem kd_R_weightOfNumber_17 : decode kc_R_weightOfNumber 17 = .ok (.iconst 5, 1) := by decide +kernel
theorem kd_R_weightOfNumber_18 : decode kc_R_weightOfNumber 18 = .ok (.goto 13, 3) := by decide +kernel
theorem kd_R_weightOfNumber_21 : decode kc_R_weightOfNumber 21 = .ok (.iload_n 2, 1) := by decide +kernel
theorem kd_R_weightOfNumber_22 : decode kc_R_weightOfNumber 22 = .ok (.iconst 5, 1) := by decide +kernel
theorem kd_R_weightOfNumber_23 : decode kc_R_weightOfNumber 23 = .ok (.if_icmp .ne 7, 3) := by decide +kernel
theorem kd_R_weightOfNumber_26 : decode kc_R_weightOfNumber 26 = .ok (.iconst 4, 1) := by decide +kernel
theorem kd_R_weightOfNumber_27 : decode kc_R_weightOfNumber 27 = .ok (.goto 4, 3) := by decide +kernel
theorem kd_R_weightOfNumber_30 : decode kc_R_weightOfNumber 30 = .ok (.iconst (-1), 1) := by decide +kernel
theorem kd_R_weightOfNumber_31 : decode kc_R_weightOfNumber 31 = .ok (.ireturn, 1) := by decide +kernel
theorem kd_R_weightOfNumber_32 : decode kc_R_weightOfNumber 32 = .ok (.lload_n 0, 1) := by decide +kernel
theorem kd_R_weightOfNumber_33 : decode kc_R_weightOfNumber 33 = .ok (.invokestatic 102, 3) := by decide +kernel
theorem kd_R_weightOfNumber_36 : decode kc_R_weightOfNumber 36 = .ok (.lstore_n 3, 1) := by decide +kernel
theorem kd_R_weightOfNumber_37 : decode kc_R_weightOfNumber 37 = .ok (.lload_n 3, 1) := by decide +kernel
theorem kd_R_weightOfNumber_38 : decode kc_R_weightOfNumber 38 = .ok (.ldc2_w 94, 3) := by decide +kernel
theorem kd_R_weightOfNumber_41 : decode kc_R_weightOfNumber 41 = .ok (.lcmp, 1) := by decide +kernel
theorem kd_R_weightOfNumber_42 : decode kc_R_weightOfNumber 42 = .ok (.ifCond .eq 30, 3) := by decide +kernel
theorem kd_R_weightOfNumber_45 : decode kc_R_weightOfNumber 45 = .ok (.lload_n 3, 1) := by decide +kernel
theorem kd_R_weightOfNumber_46 : decode kc_R_weightOfNumber 46 = .ok (.ldc2_w 106, 3) := by decide +kernel
theorem kd_R_weightOfNumber_49 : decode kc_R_weightOfNumber 49 = .ok (.lcmp, 1) := by decide +kernel
theorem kd_R_weightOfNumber_50 : decode kc_R_weightOfNumber 50 = .ok (.ifCond .lt 22, 3) := by decide +kernel
theorem kd_R_weightOfNumber_53 : decode kc_R_weightOfNumber 53 = .ok (.lload_n 3, 1) := by decide +kernel
theorem kd_R_weightOfNumber_54 : decode kc_R_weightOfNumber 54 = .ok (.ldc2_w 108, 3) := by decide +kernel
theorem kd_R_weightOfNumber_57 : decode kc_R_weightOfNumber 57 = .ok (.lcmp, 1) := by decide +kernel
theorem kd_R_weightOfNumber_58 : decode kc_R_weightOfNumber 58 = .ok (.ifCond .gt 14, 3) := by decide +kernel
theorem kd_R_weightOfNumber_61 : decode kc_R_weightOfNumber 61 = .ok (.lload_n 0, 1) := by decide +kernel
theorem kd_R_weightOfNumber_62 : decode kc_R_weightOfNumber 62 = .ok (.invokestatic 110, 3) := by decide +kernel
theorem kd_R_weightOfNumber_65 : decode kc_R_weightOfNumber 65 = .ok (.ifCond .ne 7, 3) := by decide +kernel
theorem kd_R_weightOfNumber_68 : decode kc_R_weightOfNumber 68 = .ok (.iconst 1, 1) := by decide +kernel
theorem kd_R_weightOfNumber_69 : decode kc_R_weightOfNumber 69 = .ok (.goto 4, 3) := by decide +kernel
theorem kd_R_weightOfNumber_72 : decode kc_R_weightOfNumber 72 = .ok (.iconst 0, 1) := by decide +kernel
theorem kd_R_weightOfNumber_73 : decode kc_R_weightOfNumber 73 = .ok (.istore 5, 2) := by decide +kernel
theorem kd_R_weightOfNumber_75 : decode kc_R_weightOfNumber 75 = .ok (.iload 5, 2) := by decide +kernel
theorem kd_R_weightOfNumber_77 : decode kc_R_weightOfNumber 77 = .ok (.ifCond .eq 7, 3) := by decide +kernel
theorem kd_R_weightOfNumber_80 : decode kc_R_weightOfNumber 80 = .ok (.iload_n 2, 1) := by decide +kernel
theorem kd_R_weightOfNumber_81 : decode kc_R_weightOfNumber 81 = .ok (.iconst 1, 1) := by decide +kernel
theorem kd_R_weightOfNumber_82 : decode kc_R_weightOfNumber 82 = .ok (.isub, 1) := by decide +kernel
theorem kd_R_weightOfNumber_83 : decode kc_R_weightOfNumber 83 = .ok (.ireturn, 1) := by decide +kernel
theorem kd_R_weightOfNumber_84 : decode kc_R_weightOfNumber 84 = .ok (.lload_n 3, 1) := by decide +kernel
theorem kd_R_weightOfNumber_85 : decode kc_R_weightOfNumber 85 = .ok (.ldc2_w 94, 3) := by decide +kernel
theorem kd_R_weightOfNumber_88 : decode kc_R_weightOfNumber 88 = .ok (.lcmp, 1) := by decide +kernel
theorem kd_R_weightOfNumber_89 : decode kc_R_weightOfNumber 89 = .ok (.ifCond .eq 16, 3) := by decide +kernel
theorem kd_R_weightOfNumber_92 : decode kc_R_weightOfNumber 92 = .ok (.iload_n 2, 1) := by decide +kernel
theorem kd_R_weightOfNumber_93 : decode kc_R_weightOfNumber 93 = .ok (.iconst 1, 1) := by decide +kernel
theorem kd_R_weightOfNumber_94 : decode kc_R_weightOfNumber 94 = .ok (.if_icmp .ne 7, 3) := by decide +kernel
theorem kd_R_weightOfNumber_97 : decode kc_R_weightOfNumber 97 = .ok (.iconst (-1), 1) := by decide +kernel
theorem kd_R_weightOfNumber_98 : decode kc_R_weightOfNumber 98 = .ok (.goto 6, 3) := by decide +kernel
theorem kd_R_weightOfNumber_101 : decode kc_R_weightOfNumber 101 = .ok (.iload_n 2, 1) := by decide +kernel
theorem kd_R_weightOfNumber_102 : decode kc_R_weightOfNumber 102 = .ok (.iconst 2, 1) := by decide +kernel
theorem kd_R_weightOfNumber_103 : decode kc_R_weightOfNumber 103 = .ok (.isub, 1) := by decide +kernel
theorem kd_R_weightOfNumber_104 : decode kc_R_weightOfNumber 104 = .ok (.ireturn, 1) := by decide +kernel
theorem kd_R_weightOfNumber_105 : decode kc_R_weightOfNumber 105 = .ok (.iload_n 2, 1) := by decide +kernel
theorem kd_R_weightOfNumber_106 : decode kc_R_weightOfNumber 106 = .ok (.iconst 3, 1) := by decide +kernel
theorem kd_R_weightOfNumber_107 : decode kc_R_weightOfNumber 107 = .ok (.if_icmp .ne 7, 3) := by decide +kernel
theorem kd_R_weightOfNumber_110 : decode kc_R_weightOfNumber 110 = .ok (.iconst 0, 1) := by decide +kernel
theorem kd_R_weightOfNumber_111 : decode kc_R_weightOfNumber 111 = .ok (.goto 4, 3) := by decide +kernel
theorem kd_R_weightOfNumber_114 : decode kc_R_weightOfNumber 114 = .ok (.iconst (-1), 1) := by decide +kernel
theorem kd_R_weightOfNumber_115 : decode kc_R_weightOfNumber 115 = .ok (.ireturn, 1) := by decide +kernel
theorem kd_R_wholeOf_0 : decode kc_R_wholeOf 0 = .ok (.ldc2_w 88, 3) := by decide +kernel
theorem kd_R_wholeOf_3 : decode kc_R_wholeOf 3 = .ok (.lstore_n 2, 1) := by decide +kernel
theorem kd_R_wholeOf_4 : decode kc_R_wholeOf 4 = .ok (.lload_n 0, 1) := by decide +kernel
theorem kd_R_wholeOf_5 : decode kc_R_wholeOf 5 = .ok (.bipush 52, 2) := by decide +kernel
theorem kd_R_wholeOf_7 : decode kc_R_wholeOf 7 = .ok (.lushr, 1) := by decide +kernel
theorem kd_R_wholeOf_8 : decode kc_R_wholeOf 8 = .ok (.ldc2_w 90, 3) := by decide +kernel
theorem kd_R_wholeOf_11 : decode kc_R_wholeOf 11 = .ok (.land, 1) := by decide +kernel
theorem kd_R_wholeOf_12 : decode kc_R_wholeOf 12 = .ok (.l2i, 1) := by decide +kernel
theorem kd_R_wholeOf_13 : decode kc_R_wholeOf 13 = .ok (.istore 4, 2) := by decide +kernel
theorem kd_R_wholeOf_15 : decode kc_R_wholeOf 15 = .ok (.lload_n 0, 1) := by decide +kernel
theorem kd_R_wholeOf_16 : decode kc_R_wholeOf 16 = .ok (.ldc2_w 92, 3) := by decide +kernel
theorem kd_R_wholeOf_19 : decode kc_R_wholeOf 19 = .ok (.land, 1) := by decide +kernel
theorem kd_R_wholeOf_20 : decode kc_R_wholeOf 20 = .ok (.lstore 5, 2) := by decide +kernel
theorem kd_R_wholeOf_22 : decode kc_R_wholeOf 22 = .ok (.iload 4, 2) := by decide +kernel
theorem kd_R_wholeOf_24 : decode kc_R_wholeOf 24 = .ok (.ifCond .ne 18, 3) := by decide +kernel
theorem kd_R_wholeOf_27 : decode kc_R_wholeOf 27 = .ok (.lload 5, 2) := by decide +kernel
theorem kd_R_wholeOf_29 : decode kc_R_wholeOf 29 = .ok (.lconst 0, 1) := by decide +kernel
theorem kd_R_wholeOf_30 : decode kc_R_wholeOf 30 = .ok (.lcmp, 1) := by decide +kernel
theorem kd_R_wholeOf_31 : decode kc_R_wholeOf 31 = .ok (.ifCond .ne 7, 3) := by decide +kernel
theorem kd_R_wholeOf_34 : decode kc_R_wholeOf 34 = .ok (.lconst 0, 1) := by decide +kernel
theorem kd_R_wholeOf_35 : decode kc_R_wholeOf 35 = .ok (.goto 6, 3) := by decide +kernel
theorem kd_R_wholeOf_38 : decode kc_R_wholeOf 38 = .ok (.ldc2_w 94, 3) := by decide +kernel
theorem kd_R_wholeOf_41 : decode kc_R_wholeOf 41 = .ok (.lreturn, 1) := by decide +kernel
theorem kd_R_wholeOf_42 : decode kc_R_wholeOf 42 = .ok (.lload 5, 2) := by decide +kernel
theorem kd_R_wholeOf_44 : decode kc_R_wholeOf 44 = .ok (.ldc2_w 96, 3) := by decide +kernel
theorem kd_R_wholeOf_47 : decode kc_R_wholeOf 47 = .ok (.ladd, 1) := by decide +kernel
theorem kd_R_wholeOf_48 : decode kc_R_wholeOf 48 = .ok (.lstore 5, 2) := by decide +kernel
theorem kd_R_wholeOf_50 : decode kc_R_wholeOf 50 = .ok (.iload 4, 2) := by decide +kernel
theorem kd_R_wholeOf_52 : decode kc_R_wholeOf 52 = .ok (.sipush 1075, 3) := by decide +kernel
theorem kd_R_wholeOf_55 : decode kc_R_wholeOf 55 = .ok (.if_icmp .ge 32, 3) := by decide +kernel
theorem kd_R_wholeOf_58 : decode kc_R_wholeOf 58 = .ok (.lload 5, 2) := by decide +kernel
theorem kd_R_wholeOf_60 : decode kc_R_wholeOf 60 = .ok (.ldc2_w 98, 3) := by decide +kernel
theorem kd_R_wholeOf_63 : decode kc_R_wholeOf 63 = .ok (.lrem, 1) := by decide +kernel
theorem kd_R_wholeOf_64 : decode kc_R_wholeOf 64 = .ok (.lconst 0, 1) := by decide +kernel
theorem kd_R_wholeOf_65 : decode kc_R_wholeOf 65 = .ok (.lcmp, 1) := by decide +kernel
theorem kd_R_wholeOf_66 : decode kc_R_wholeOf 66 = .ok (.ifCond .eq 7, 3) := by decide +kernel
theorem kd_R_wholeOf_69 : decode kc_R_wholeOf 69 = .ok (.ldc2_w 94, 3) := by decide +kernel
theorem kd_R_wholeOf_72 : decode kc_R_wholeOf 72 = .ok (.lreturn, 1) := by decide +kernel
theorem kd_R_wholeOf_73 : decode kc_R_wholeOf 73 = .ok (.lload 5, 2) := by decide +kernel
theorem kd_R_wholeOf_75 : decode kc_R_wholeOf 75 = .ok (.ldc2_w 98, 3) := by decide +kernel
theorem kd_R_wholeOf_78 : decode kc_R_wholeOf 78 = .ok (.ldiv, 1) := by decide +kernel
theorem kd_R_wholeOf_79 : decode kc_R_wholeOf 79 = .ok (.lstore 5, 2) := by decide +kernel
theorem kd_R_wholeOf_81 : decode kc_R_wholeOf 81 = .ok (.iinc 4 1, 3) := by decide +kernel
theorem kd_R_wholeOf_84 : decode kc_R_wholeOf 84 = .ok (.goto (-34), 3) := by decide +kernel
theorem kd_R_wholeOf_87 : decode kc_R_wholeOf 87 = .ok (.iload 4, 2) := by decide +kernel
theorem kd_R_wholeOf_89 : decode kc_R_wholeOf 89 = .ok (.sipush 1075, 3) := by decide +kernel
theorem kd_R_wholeOf_92 : decode kc_R_wholeOf 92 = .ok (.if_icmp .le 28, 3) := by decide +kernel
theorem kd_R_wholeOf_95 : decode kc_R_wholeOf 95 = .ok (.ldc2_w 98, 3) := by decide +kernel
theorem kd_R_wholeOf_98 : decode kc_R_wholeOf 98 = .ok (.lload 5, 2) := by decide +kernel
theorem kd_R_wholeOf_100 : decode kc_R_wholeOf 100 = .ok (.lmul, 1) := by decide +kernel
theorem kd_R_wholeOf_101 : decode kc_R_wholeOf 101 = .ok (.lstore 5, 2) := by decide +kernel
theorem kd_R_wholeOf_103 : decode kc_R_wholeOf 103 = .ok (.lload 5, 2) := by decide +kernel
theorem kd_R_wholeOf_105 : decode kc_R_wholeOf 105 = .ok (.lload_n 2, 1) := by decide +kernel
theorem kd_R_wholeOf_106 : decode kc_R_wholeOf 106 = .ok (.lcmp, 1) := by decide +kernel
theorem kd_R_wholeOf_107 : decode kc_R_wholeOf 107 = .ok (.ifCond .le 7, 3) := by decide +kernel
theorem kd_R_wholeOf_110 : decode kc_R_wholeOf 110 = .ok (.ldc2_w 94, 3) := by decide +kernel
theorem kd_R_wholeOf_113 : decode kc_R_wholeOf 113 = .ok (.lreturn, 1) := by decide +kernel
theorem kd_R_wholeOf_114 : decode kc_R_wholeOf 114 = .ok (.iinc 4 (-1), 3) := by decide +kernel
theorem kd_R_wholeOf_117 : decode kc_R_wholeOf 117 = .ok (.goto (-30), 3) := by decide +kernel
theorem kd_R_wholeOf_120 : decode kc_R_wholeOf 120 = .ok (.lload_n 0, 1) := by decide +kernel
theorem kd_R_wholeOf_121 : decode kc_R_wholeOf 121 = .ok (.lconst 0, 1) := by decide +kernel
theorem kd_R_wholeOf_122 : decode kc_R_wholeOf 122 = .ok (.lcmp, 1) := by decide +kernel
theorem kd_R_wholeOf_123 : decode kc_R_wholeOf 123 = .ok (.ifCond .ge 9, 3) := by decide +kernel
theorem kd_R_wholeOf_126 : decode kc_R_wholeOf 126 = .ok (.lload 5, 2) := by decide +kernel
theorem kd_R_wholeOf_128 : decode kc_R_wholeOf 128 = .ok (.lneg, 1) := by decide +kernel
theorem kd_R_wholeOf_129 : decode kc_R_wholeOf 129 = .ok (.goto 5, 3) := by decide +kernel
theorem kd_R_wholeOf_132 : decode kc_R_wholeOf 132 = .ok (.lload 5, 2) := by decide +kernel
theorem kd_R_wholeOf_134 : decode kc_R_wholeOf 134 = .ok (.lreturn, 1) := by decide +kernel
theorem kd_R_isMinusZero_0 : decode kc_R_isMinusZero 0 = .ok (.lload_n 0, 1) := by decide +kernel
theorem kd_R_isMinusZero_1 : decode kc_R_isMinusZero 1 = .ok (.ldc2_w 100, 3) := by decide +kernel
theorem kd_R_isMinusZero_4 : decode kc_R_isMinusZero 4 = .ok (.lcmp, 1) := by decide +kernel
theorem kd_R_isMinusZero_5 : decode kc_R_isMinusZero 5 = .ok (.ifCond .ne 7, 3) := by decide +kernel
theorem kd_R_isMinusZero_8 : decode kc_R_isMinusZero 8 = .ok (.iconst 1, 1) := by decide +kernel
theorem kd_R_isMinusZero_9 : decode kc_R_isMinusZero 9 = .ok (.goto 4, 3) := by decide +kernel
theorem kd_R_isMinusZero_12 : decode kc_R_isMinusZero 12 = .ok (.iconst 0, 1) := by decide +kernel
theorem kd_R_isMinusZero_13 : decode kc_R_isMinusZero 13 = .ok (.ireturn, 1) := by decide +kernel
theorem kd_R_call_0 : decode kc_R_call 0 = .ok (.iload_n 1, 1) := by decide +kernel
theorem kd_R_call_1 : decode kc_R_call 1 = .ok (.aload_n 0, 1) := by decide +kernel
theorem kd_R_call_2 : decode kc_R_call 2 = .ok (.getfield 82, 3) := by decide +kernel
theorem kd_R_call_5 : decode kc_R_call 5 = .ok (.invokestatic 64, 3) := by decide +kernel
theorem kd_R_call_8 : decode kc_R_call 8 = .ok (.ifCond .ne 13, 3) := by decide +kernel
theorem kd_R_call_11 : decode kc_R_call 11 = .ok (.iload_n 2, 1) := by decide +kernel
theorem kd_R_call_12 : decode kc_R_call 12 = .ok (.sipush 1000, 3) := by decide +kernel
theorem kd_R_call_15 : decode kc_R_call 15 = .ok (.invokestatic 64, 3) := by decide +kernel
theorem kd_R_call_18 : decode kc_R_call 18 = .ok (.ifCond .eq 7, 3) := by decide +kernel
theorem kd_R_call_21 : decode kc_R_call 21 = .ok (.iconst 1, 1) := by decide +kernel
theorem kd_R_call_22 : decode kc_R_call 22 = .ok (.goto 4, 3) := by decide +kernel
theorem kd_R_call_25 : decode kc_R_call 25 = .ok (.iconst 0, 1) := by decide +kernel
theorem kd_R_call_26 : decode kc_R_call 26 = .ok (.istore_n 3, 1) := by decide +kernel
theorem kd_R_call_27 : decode kc_R_call 27 = .ok (.iconst 0, 1) := by decide +kernel
theorem kd_R_call_28 : decode kc_R_call 28 = .ok (.istore 4, 2) := by decide +kernel
theorem kd_R_call_30 : decode kc_R_call 30 = .ok (.iconst (-1), 1) := by decide +kernel
theorem kd_R_call_31 : decode kc_R_call 31 = .ok (.istore 5, 2) := by decide +kernel
theorem kd_R_call_33 : decode kc_R_call 33 = .ok (.iconst 0, 1) := by decide +kernel
theorem kd_R_call_34 : decode kc_R_call 34 = .ok (.istore 6, 2) := by decide +kernel
theorem kd_R_call_36 : decode kc_R_call 36 = .ok (.iconst 0, 1) := by decide +kernel
theorem kd_R_call_37 : decode kc_R_call 37 = .ok (.istore 7, 2) := by decide +kernel
theorem kd_R_call_39 : decode kc_R_call 39 = .ok (.iload 7, 2) := by decide +kernel
theorem kd_R_call_41 : decode kc_R_call 41 = .ok (.aload_n 0, 1) := by decide +kernel
theorem kd_R_call_42 : decode kc_R_call 42 = .ok (.getfield 72, 3) := by decide +kernel
theorem kd_R_call_45 : decode kc_R_call 45 = .ok (.if_icmp .ge 93, 3) := by decide +kernel
theorem kd_R_call_48 : decode kc_R_call 48 = .ok (.iload_n 3, 1) := by decide +kernel
theorem kd_R_call_49 : decode kc_R_call 49 = .ok (.ifCond .ne 89, 3) := by decide +kernel
theorem kd_R_call_52 : decode kc_R_call 52 = .ok (.aload_n 0, 1) := by decide +kernel
theorem kd_R_call_53 : decode kc_R_call 53 = .ok (.getfield 38, 3) := by decide +kernel
theorem kd_R_call_56 : decode kc_R_call 56 = .ok (.iload 7, 2) := by decide +kernel
theorem kd_R_call_58 : decode kc_R_call 58 = .ok (.aload_n 0, 1) := by decide +kernel
theorem kd_R_call_59 : decode kc_R_call 59 = .ok (.getfield 19, 3) := by decide +kernel
theorem kd_R_call_62 : decode kc_R_call 62 = .ok (.iload 7, 2) := by decide +kernel
theorem kd_R_call_64 : decode kc_R_call 64 = .ok (.iaload, 1) := by decide +kernel
theorem kd_R_call_65 : decode kc_R_call 65 = .ok (.iload_n 2, 1) := by decide +kernel
theorem kd_R_call_66 : decode kc_R_call 66 = .ok (.if_icmp .ne 43, 3) := by decide +kernel
theorem kd_R_call_69 : decode kc_R_call 69 = .ok (.aload_n 0, 1) := by decide +kernel
theorem kd_R_call_70 : decode kc_R_call 70 = .ok (.iload_n 1, 1) := by decide +kernel
theorem kd_R_call_71 : decode kc_R_call 71 = .ok (.aload_n 0, 1) := by decide +kernel
theorem kd_R_call_72 : decode kc_R_call 72 = .ok (.getfield 16, 3) := by decide +kernel
theorem kd_R_call_75 : decode kc_R_call 75 = .ok (.iload 7, 2) := by decide +kernel
theorem kd_R_call_77 : decode kc_R_call 77 = .ok (.iaload, 1) := by decide +kernel
theorem kd_R_call_78 : decode kc_R_call 78 = .ok (.invokevirtual 131, 3) := by decide +kernel
theorem kd_R_call_81 : decode kc_R_call 81 = .ok (.bipush 99, 2) := by decide +kernel
theorem kd_R_call_83 : decode kc_R_call 83 = .ok (.if_icmp .ge 26, 3) := by decide +kernel
theorem kd_R_call_86 : decode kc_R_call 86 = .ok (.aload_n 0, 1) := by decide +kernel
theorem kd_R_call_87 : decode kc_R_call 87 = .ok (.iload 7, 2) := by decide +kernel
theorem kd_R_call_89 : decode kc_R_call 89 = .ok (.invokevirtual 148, 3) := by decide +kernel
theorem kd_R_call_92 : decode kc_R_call 92 = .ok (.ifCond .eq 17, 3) := by decide +kernel
theorem kd_R_call_95 : decode kc_R_call 95 = .ok (.aload_n 0, 1) := by decide +kernel
theorem kd_R_call_96 : decode kc_R_call 96 = .ok (.iload_n 1, 1) := by decide +kernel
theorem kd_R_call_97 : decode kc_R_call 97 = .ok (.iload 7, 2) := by decide +kernel
theorem kd_R_call_99 : decode kc_R_call 99 = .ok (.invokevirtual 152, 3) := by decide +kernel
theorem kd_R_call_102 : decode kc_R_call 102 = .ok (.ifCond .ne 7, 3) := by decide +kernel
theorem kd_R_call_105 : decode kc_R_call 105 = .ok (.iconst 1, 1) := by decide +kernel
theorem kd_R_call_106 : decode kc_R_call 106 = .ok (.goto 4, 3) := by decide +kernel
theorem kd_R_call_109 : decode kc_R_call 109 = .ok (.iconst 0, 1) := by decide +kernel
theorem kd_R_call_110 : decode kc_R_call 110 = .ok (.bastore, 1) := by decide +kernel
theorem kd_R_call_111 : decode kc_R_call 111 = .ok (.aload_n 0, 1) := by decide +kernel
theorem kd_R_call_112 : decode kc_R_call 112 = .ok (.getfield 38, 3) := by decide +kernel
theorem kd_R_call_115 : decode kc_R_call 115 = .ok (.iload 7, 2) := by decide +kernel
theorem kd_R_call_117 : decode kc_R_call 117 = .ok (.baload, 1) := by decide +kernel
theorem kd_R_call_118 : decode kc_R_call 118 = .ok (.ifCond .eq 10, 3) := by decide +kernel
theorem kd_R_call_121 : decode kc_R_call 121 = .ok (.iload 4, 2) := by decide +kernel
theorem kd_R_call_123 : decode kc_R_call 123 = .ok (.iconst 1, 1) := by decide +kernel
theorem kd_R_call_124 : decode kc_R_call 124 = .ok (.iadd, 1) := by decide +kernel
theorem kd_R_call_125 : decode kc_R_call 125 = .ok (.goto 5, 3) := by decide +kernel
theorem kd_R_call_128 : decode kc_R_call 128 = .ok (.iload 4, 2) := by decide +kernel
theorem kd_R_call_130 : decode kc_R_call 130 = .ok (.istore 4, 2) := by decide +kernel
theorem kd_R_call_132 : decode kc_R_call 132 = .ok (.iinc 7 1, 3) := by decide +kernel
theorem kd_R_call_135 : decode kc_R_call 135 = .ok (.goto (-96), 3) := by decide +kernel
theorem kd_R_call_138 : decode kc_R_call 138 = .ok (.iconst 0, 1) := by decide +kernel
theorem kd_R_call_139 : decode kc_R_call 139 = .ok (.istore 7, 2) := by decide +kernel
theorem kd_R_call_141 : decode kc_R_call 141 = .ok (.iload 7, 2) := by decide +kernel
theorem kd_R_call_143 : decode kc_R_call 143 = .ok (.aload_n 0, 1) := by decide +kernel
theorem kd_R_call_144 : decode kc_R_call 144 = .ok (.getfield 72, 3) := by decide +kernel
theorem kd_R_call_147 : decode kc_R_call 147 = .ok (.if_icmp .ge 32, 3) := by decide +kernel
theorem kd_R_call_150 : decode kc_R_call 150 = .ok (.iload_n 3, 1) := by decide +kernel
theorem kd_R_call_151 : decode kc_R_call 151 = .ok (.ifCond .ne 28, 3) := by decide +kernel
theorem kd_R_call_154 : decode kc_R_call 154 = .ok (.aload_n 0, 1) := by decide +kernel
theorem kd_R_call_155 : decode kc_R_call 155 = .ok (.iload 7, 2) := by decide +kernel
theorem kd_R_call_157 : decode kc_R_call 157 = .ok (.invokevirtual 155, 3) := by decide +kernel
theorem kd_R_call_160 : decode kc_R_call 160 = .ok (.ifCond .ne 6, 3) := by decide +kernel
theorem kd_R_call_163 : decode kc_R_call 163 = .ok (.goto 10, 3) := by decide +kernel
theorem kd_R_call_166 : decode kc_R_call 166 = .ok (.iload 7, 2) := by decide +kernel
theorem kd_R_call_168 : decode kc_R_call 168 = .ok (.istore 5, 2) := by decide +kernel
theorem kd_R_call_170 : decode kc_R_call 170 = .ok (.iinc 6 1, 3) := by decide +kernel
theorem kd_R_call_173 : decode kc_R_call 173 = .ok (.iinc 7 1, 3) := by decide +kernel
theorem kd_R_call_176 : decode kc_R_call 176 = .ok (.goto (-35), 3) := by decide +kernel
theorem kd_R_call_179 : decode kc_R_call 179 = .ok (.aload_n 0, 1) := by decide +kernel
theorem kd_R_call_180 : decode kc_R_call 180 = .ok (.iload_n 3, 1) := by decide +kernel
theorem kd_R_call_181 : decode kc_R_call 181 = .ok (.iload_n 3, 1) := by decide +kernel
theorem kd_R_call_182 : decode kc_R_call 182 = .ok (.ifCond .ne 12, 3) := by decide +kernel
theorem kd_R_call_185 : decode kc_R_call 185 = .ok (.iload 4, 2) := by decide +kernel
theorem kd_R_call_187 : decode kc_R_call 187 = .ok (.ifCond .ne 7, 3) := by decide +kernel
theorem kd_R_call_190 : decode kc_R_call 190 = .ok (.iconst 1, 1) := by decide +kernel
theorem kd_R_call_191 : decode kc_R_call 191 = .ok (.goto 4, 3) := by decide +kernel
theorem kd_R_call_194 : decode kc_R_call 194 = .ok (.iconst 0, 1) := by decide +kernel
theorem kd_R_call_195 : decode kc_R_call 195 = .ok (.iload 4, 2) := by decide +kernel
theorem kd_R_call_197 : decode kc_R_call 197 = .ok (.ifCond .le 13, 3) := by decide +kernel
theorem kd_R_call_200 : decode kc_R_call 200 = .ok (.iload 6, 2) := by decide +kernel
theorem kd_R_call_202 : decode kc_R_call 202 = .ok (.iconst 1, 1) := by decide +kernel
theorem kd_R_call_203 : decode kc_R_call 203 = .ok (.if_icmp .eq 7, 3) := by decide +kernel
theorem kd_R_call_206 : decode kc_R_call 206 = .ok (.iconst 1, 1) := by decide +kernel
theorem kd_R_call_207 : decode kc_R_call 207 = .ok (.goto 4, 3) := by decide +kernel
theorem kd_R_call_210 : decode kc_R_call 210 = .ok (.iconst 0, 1) := by decide +kernel
theorem kd_R_call_211 : decode kc_R_call 211 = .ok (.invokevirtual 68, 3) := by decide +kernel
theorem kd_R_call_214 : decode kc_R_call 214 = .ok (.ifCond .eq 10, 3) := by decide +kernel
theorem kd_R_call_217 : decode kc_R_call 217 = .ok (.aload_n 0, 1) := by decide +kernel
theorem kd_R_call_218 : decode kc_R_call 218 = .ok (.iconst 0, 1) := by decide +kernel
theorem kd_R_call_219 : decode kc_R_call 219 = .ok (.putfield 85, 3) := by decide +kernel
theorem kd_R_call_222 : decode kc_R_call 222 = .ok (.iconst 0, 1) := by decide +kernel
theorem kd_R_call_223 : decode kc_R_call 223 = .ok (.ireturn, 1) := by decide +kernel
theorem kd_R_call_224 : decode kc_R_call 224 = .ok (.aload_n 0, 1) := by decide +kernel
theorem kd_R_call_225 : decode kc_R_call 225 = .ok (.iload_n 1, 1) := by decide +kernel
theorem kd_R_call_226 : decode kc_R_call 226 = .ok (.iload 5, 2) := by decide +kernel
theorem kd_R_call_228 : decode kc_R_call 228 = .ok (.invokevirtual 158, 3) := by decide +kernel
theorem kd_R_call_231 : decode kc_R_call 231 = .ok (.ireturn, 1) := by decide +kernel
theorem kd_R_far_0 : decode kc_R_far 0 = .ok (.iconst 0, 1) := by decide +kernel
theorem kd_R_far_1 : decode kc_R_far 1 = .ok (.istore_n 3, 1) := by decide +kernel
theorem kd_R_far_2 : decode kc_R_far 2 = .ok (.aload_n 0, 1) := by decide +kernel
theorem kd_R_far_3 : decode kc_R_far 3 = .ok (.getfield 13, 3) := by decide +kernel
theorem kd_R_far_6 : decode kc_R_far 6 = .ok (.iload_n 1, 1) := by decide +kernel
theorem kd_R_far_7 : decode kc_R_far 7 = .ok (.iaload, 1) := by decide +kernel
theorem kd_R_far_8 : decode kc_R_far 8 = .ok (.istore 4, 2) := by decide +kernel
theorem kd_R_far_10 : decode kc_R_far 10 = .ok (.iload 4, 2) := by decide +kernel
theorem kd_R_far_12 : decode kc_R_far 12 = .ok (.ifCond .lt 24, 3) := by decide +kernel
theorem kd_R_far_15 : decode kc_R_far 15 = .ok (.iload 4, 2) := by decide +kernel
theorem kd_R_far_17 : decode kc_R_far 17 = .ok (.iload_n 2, 1) := by decide +kernel
theorem kd_R_far_18 : decode kc_R_far 18 = .ok (.if_icmp .eq 18, 3) := by decide +kernel
theorem kd_R_far_21 : decode kc_R_far 21 = .ok (.aload_n 0, 1) := by decide +kernel
theorem kd_R_far_22 : decode kc_R_far 22 = .ok (.getfield 7, 3) := by decide +kernel
theorem kd_R_far_25 : decode kc_R_far 25 = .ok (.iload 4, 2) := by decide +kernel
theorem kd_R_far_27 : decode kc_R_far 27 = .ok (.iaload, 1) := by decide +kernel
theorem kd_R_far_28 : decode kc_R_far 28 = .ok (.istore 4, 2) := by decide +kernel
theorem kd_R_far_30 : decode kc_R_far 30 = .ok (.iinc 3 1, 3) := by decide +kernel
theorem kd_R_far_33 : decode kc_R_far 33 = .ok (.goto (-23), 3) := by decide +kernel
theorem kd_R_far_36 : decode kc_R_far 36 = .ok (.iload 4, 2) := by decide +kernel
theorem kd_R_far_38 : decode kc_R_far 38 = .ok (.ifCond .ge 8, 3) := by decide +kernel
theorem kd_R_far_41 : decode kc_R_far 41 = .ok (.bipush 99, 2) := by decide +kernel
theorem kd_R_far_43 : decode kc_R_far 43 = .ok (.goto 4, 3) := by decide +kernel
theorem kd_R_far_46 : decode kc_R_far 46 = .ok (.iload_n 3, 1) := by decide +kernel
theorem kd_R_far_47 : decode kc_R_far 47 = .ok (.ireturn, 1) := by decide +kernel
theorem kd_R_fits_0 : decode kc_R_fits 0 = .ok (.aload_n 0, 1) := by decide +kernel
theorem kd_R_fits_1 : decode kc_R_fits 1 = .ok (.getfield 22, 3) := by decide +kernel
theorem kd_R_fits_4 : decode kc_R_fits 4 = .ok (.iload_n 1, 1) := by decide +kernel
theorem kd_R_fits_5 : decode kc_R_fits 5 = .ok (.iaload, 1) := by decide +kernel
theorem kd_R_fits_6 : decode kc_R_fits 6 = .ok (.aload_n 0, 1) := by decide +kernel
theorem kd_R_fits_7 : decode kc_R_fits 7 = .ok (.getfield 85, 3) := by decide +kernel
theorem kd_R_fits_10 : decode kc_R_fits 10 = .ok (.if_icmp .ne 7, 3) := by decide +kernel
theorem kd_R_fits_13 : decode kc_R_fits 13 = .ok (.iconst 1, 1) := by decide +kernel
theorem kd_R_fits_14 : decode kc_R_fits 14 = .ok (.goto 4, 3) := by decide +kernel
theorem kd_R_fits_17 : decode kc_R_fits 17 = .ok (.iconst 0, 1) := by decide +kernel
theorem kd_R_fits_18 : decode kc_R_fits 18 = .ok (.istore_n 2, 1) := by decide +kernel
theorem kd_R_fits_19 : decode kc_R_fits 19 = .ok (.iconst 0, 1) := by decide +kernel
theorem kd_R_fits_20 : decode kc_R_fits 20 = .ok (.istore_n 3, 1) := by decide +kernel
theorem kd_R_fits_21 : decode kc_R_fits 21 = .ok (.iload_n 3, 1) := by decide +kernel
theorem kd_R_fits_22 : decode kc_R_fits 22 = .ok (.aload_n 0, 1) := by decide +kernel
theorem kd_R_fits_23 : decode kc_R_fits 23 = .ok (.getfield 85, 3) := by decide +kernel
theorem kd_R_fits_26 : decode kc_R_fits 26 = .ok (.if_icmp .ge 37, 3) := by decide +kernel
theorem kd_R_fits_29 : decode kc_R_fits 29 = .ok (.iload_n 2, 1) := by decide +kernel
theorem kd_R_fits_30 : decode kc_R_fits 30 = .ok (.ifCond .eq 33, 3) := by decide +kernel
theorem kd_R_fits_33 : decode kc_R_fits 33 = .ok (.aload_n 0, 1) := by decide +kernel
theorem kd_R_fits_34 : decode kc_R_fits 34 = .ok (.iload_n 3, 1) := by decide +kernel
theorem kd_R_fits_35 : decode kc_R_fits 35 = .ok (.aload_n 0, 1) := by decide +kernel
theorem kd_R_fits_36 : decode kc_R_fits 36 = .ok (.getfield 25, 3) := by decide +kernel
theorem kd_R_fits_39 : decode kc_R_fits 39 = .ok (.iconst 4, 1) := by decide +kernel
theorem kd_R_fits_40 : decode kc_R_fits 40 = .ok (.iload_n 1, 1) := by decide +kernel
theorem kd_R_fits_41 : decode kc_R_fits 41 = .ok (.imul, 1) := by decide +kernel
theorem kd_R_fits_42 : decode kc_R_fits 42 = .ok (.iload_n 3, 1) := by decide +kernel
theorem kd_R_fits_43 : decode kc_R_fits 43 = .ok (.iadd, 1) := by decide +kernel
theorem kd_R_fits_44 : decode kc_R_fits 44 = .ok (.iaload, 1) := by decide +kernel
theorem kd_R_fits_45 : decode kc_R_fits 45 = .ok (.invokevirtual 118, 3) := by decide +kernel
theorem kd_R_fits_48 : decode kc_R_fits 48 = .ok (.ifCond .lt 7, 3) := by decide +kernel
theorem kd_R_fits_51 : decode kc_R_fits 51 = .ok (.iconst 1, 1) := by decide +kernel
theorem kd_R_fits_52 : decode kc_R_fits 52 = .ok (.goto 4, 3) := by decide +kernel
theorem kd_R_fits_55 : decode kc_R_fits 55 = .ok (.iconst 0, 1) := by decide +kernel
theorem kd_R_fits_56 : decode kc_R_fits 56 = .ok (.istore_n 2, 1) := by decide +kernel
theorem kd_R_fits_57 : decode kc_R_fits 57 = .ok (.iinc 3 1, 3) := by decide +kernel
theorem kd_R_fits_60 : decode kc_R_fits 60 = .ok (.goto (-39), 3) := by decide +kernel
theorem kd_R_fits_63 : decode kc_R_fits 63 = .ok (.iload_n 2, 1) := by decide +kernel
theorem kd_R_fits_64 : decode kc_R_fits 64 = .ok (.ireturn, 1) := by decide +kernel
theorem kd_R_isHidden_0 : decode kc_R_isHidden 0 = .ok (.iconst 0, 1) := by decide +kernel
theorem kd_R_isHidden_1 : decode kc_R_isHidden 1 = .ok (.istore_n 3, 1) := by decide +kernel
theorem kd_R_isHidden_2 : decode kc_R_isHidden 2 = .ok (.iconst 0, 1) := by decide +kernel
theorem kd_R_isHidden_3 : decode kc_R_isHidden 3 = .ok (.istore 4, 2) := by decide +kernel
theorem kd_R_isHidden_5 : decode kc_R_isHidden 5 = .ok (.iload 4, 2) := by decide +kernel
theorem kd_R_isHidden_7 : decode kc_R_isHidden 7 = .ok (.aload_n 0, 1) := by decide +kernel
theorem kd_R_isHidden_8 : decode kc_R_isHidden 8 = .ok (.getfield 72, 3) := by decide +kernel
theorem kd_R_isHidden_11 : decode kc_R_isHidden 11 = .ok (.if_icmp .ge 147, 3) := by decide +kernel
theorem kd_R_isHidden_14 : decode kc_R_isHidden 14 = .ok (.aload_n 0, 1) := by decide +kernel
theorem kd_R_isHidden_15 : decode kc_R_isHidden 15 = .ok (.getfield 19, 3) := by decide +kernel
theorem kd_R_isHidden_18 : decode kc_R_isHidden 18 = .ok (.iload 4, 2) := by decide +kernel
theorem kd_R_isHidden_20 : decode kc_R_isHidden 20 = .ok (.iaload, 1) := by decide +kernel
theorem kd_R_isHidden_21 : decode kc_R_isHidden 21 = .ok (.aload_n 0, 1) := by decide +kernel
theorem kd_R_isHidden_22 : decode kc_R_isHidden 22 = .ok (.getfield 19, 3) := by decide +kernel
theorem kd_R_isHidden_25 : decode kc_R_isHidden 25 = .ok (.iload_n 2, 1) := by decide +kernel
theorem kd_R_isHidden_26 : decode kc_R_isHidden 26 = .ok (.iaload, 1) := by decide +kernel
theorem kd_R_isHidden_27 : decode kc_R_isHidden 27 = .ok (.if_icmp .ne 49, 3) := by decide +kernel
theorem kd_R_isHidden_30 : decode kc_R_isHidden 30 = .ok (.aload_n 0, 1) := by decide +kernel
theorem kd_R_isHidden_31 : decode kc_R_isHidden 31 = .ok (.getfield 22, 3) := by decide +kernel
theorem kd_R_isHidden_34 : decode kc_R_isHidden 34 = .ok (.iload 4, 2) := by decide +kernel
theorem kd_R_isHidden_36 : decode kc_R_isHidden 36 = .ok (.iaload, 1) := by decide +kernel
theorem kd_R_isHidden_37 : decode kc_R_isHidden 37 = .ok (.aload_n 0, 1) := by decide +kernel
theorem kd_R_isHidden_38 : decode kc_R_isHidden 38 = .ok (.getfield 22, 3) := by decide +kernel
theorem kd_R_isHidden_41 : decode kc_R_isHidden 41 = .ok (.iload_n 2, 1) := by decide +kernel
theorem kd_R_isHidden_42 : decode kc_R_isHidden 42 = .ok (.iaload, 1) := by decide +kernel
theorem kd_R_isHidden_43 : decode kc_R_isHidden 43 = .ok (.if_icmp .ne 33, 3) := by decide +kernel
theorem kd_R_isHidden_46 : decode kc_R_isHidden 46 = .ok (.aload_n 0, 1) := by decide +kernel
theorem kd_R_isHidden_47 : decode kc_R_isHidden 47 = .ok (.iload_n 1, 1) := by decide +kernel
theorem kd_R_isHidden_48 : decode kc_R_isHidden 48 = .ok (.aload_n 0, 1) := by decide +kernel
theorem kd_R_isHidden_49 : decode kc_R_isHidden 49 = .ok (.getfield 16, 3) := by decide +kernel
theorem kd_R_isHidden_52 : decode kc_R_isHidden 52 = .ok (.iload 4, 2) := by decide +kernel
theorem kd_R_isHidden_54 : decode kc_R_isHidden 54 = .ok (.iaload, 1) := by decide +kernel
theorem kd_R_isHidden_55 : decode kc_R_isHidden 55 = .ok (.invokevirtual 131, 3) := by decide +kernel
theorem kd_R_isHidden_58 : decode kc_R_isHidden 58 = .ok (.aload_n 0, 1) := by decide +kernel
theorem kd_R_isHidden_59 : decode kc_R_isHidden 59 = .ok (.iload_n 1, 1) := by decide +kernel
theorem kd_R_isHidden_60 : decode kc_R_isHidden 60 = .ok (.aload_n 0, 1) := by decide +kernel
theorem kd_R_isHidden_61 : decode kc_R_isHidden 61 = .ok (.getfield 16, 3) := by decide +kernel
theorem kd_R_isHidden_64 : decode kc_R_isHidden 64 = .ok (.iload_n 2, 1) := by decide +kernel
theorem kd_R_isHidden_65 : decode kc_R_isHidden 65 = .ok (.iaload, 1) := by decide +kernel
theorem kd_R_isHidden_66 : decode kc_R_isHidden 66 = .ok (.invokevirtual 131, 3) := by decide +kernel
theorem kd_R_isHidden_69 : decode kc_R_isHidden 69 = .ok (.if_icmp .ge 7, 3) := by decide +kernel
theorem kd_R_isHidden_72 : decode kc_R_isHidden 72 = .ok (.iconst 1, 1) := by decide +kernel
theorem kd_R_isHidden_73 : decode kc_R_isHidden 73 = .ok (.goto 4, 3) := by decide +kernel
theorem kd_R_isHidden_76 : decode kc_R_isHidden 76 = .ok (.iconst 0, 1) := by decide +kernel
theorem kd_R_isHidden_77 : decode kc_R_isHidden 77 = .ok (.istore 5, 2) := by decide +kernel
theorem kd_R_isHidden_79 : decode kc_R_isHidden 79 = .ok (.iconst 0, 1) := by decide +kernel
theorem kd_R_isHidden_80 : decode kc_R_isHidden 80 = .ok (.istore 6, 2) := by decide +kernel
theorem kd_R_isHidden_82 : decode kc_R_isHidden 82 = .ok (.iload 6, 2) := by decide +kernel
theorem kd_R_isHidden_84 : decode kc_R_isHidden 84 = .ok (.aload_n 0, 1) := by decide +kernel
theorem kd_R_isHidden_85 : decode kc_R_isHidden 85 = .ok (.getfield 22, 3) := by decide +kernel
theorem kd_R_isHidden_88 : decode kc_R_isHidden 88 = .ok (.iload_n 2, 1) := by decide +kernel
theorem kd_R_isHidden_89 : decode kc_R_isHidden 89 = .ok (.iaload, 1) := by decide +kernel
theorem kd_R_isHidden_90 : decode kc_R_isHidden 90 = .ok (.if_icmp .ge 47, 3) := by decide +kernel
theorem kd_R_isHidden_93 : decode kc_R_isHidden 93 = .ok (.iload 5, 2) := by decide +kernel
theorem kd_R_isHidden_95 : decode kc_R_isHidden 95 = .ok (.ifCond .eq 33, 3) := by decide +kernel
theorem kd_R_isHidden_98 : decode kc_R_isHidden 98 = .ok (.aload_n 0, 1) := by decide +kernel
theorem kd_R_isHidden_99 : decode kc_R_isHidden 99 = .ok (.getfield 25, 3) := by decide +kernel
theorem kd_R_isHidden_102 : decode kc_R_isHidden 102 = .ok (.iconst 4, 1) := by decide +kernel
theorem kd_R_isHidden_103 : decode kc_R_isHidden 103 = .ok (.iload 4, 2) := by decide +kernel
theorem kd_R_isHidden_105 : decode kc_R_isHidden 105 = .ok (.imul, 1) := by decide +kernel
theorem kd_R_isHidden_106 : decode kc_R_isHidden 106 = .ok (.iload 6, 2) := by decide +kernel
theorem kd_R_isHidden_108 : decode kc_R_isHidden 108 = .ok (.iadd, 1) := by decide +kernel
theorem kd_R_isHidden_109 : decode kc_R_isHidden 109 = .ok (.iaload, 1) := by decide +kernel
theorem kd_R_isHidden_110 : decode kc_R_isHidden 110 = .ok (.aload_n 0, 1) := by decide +kernel
theorem kd_R_isHidden_111 : decode kc_R_isHidden 111 = .ok (.getfield 25, 3) := by decide +kernel
theorem kd_R_isHidden_114 : decode kc_R_isHidden 114 = .ok (.iconst 4, 1) := by decide +kernel
theorem kd_R_isHidden_115 : decode kc_R_isHidden 115 = .ok (.iload_n 2, 1) := by decide +kernel
theorem kd_R_isHidden_116 : decode kc_R_isHidden 116 = .ok (.imul, 1) := by decide +kernel
theorem kd_R_isHidden_117 : decode kc_R_isHidden 117 = .ok (.iload 6, 2) := by decide +kernel
theorem kd_R_isHidden_119 : decode kc_R_isHidden 119 = .ok (.iadd, 1) := by decide +kernel
theorem kd_R_isHidden_120 : decode kc_R_isHidden 120 = .ok (.iaload, 1) := by decide +kernel
theorem kd_R_isHidden_121 : decode kc_R_isHidden 121 = .ok (.if_icmp .ne 7, 3) := by decide +kernel
theorem kd_R_isHidden_124 : decode kc_R_isHidden 124 = .ok (.iconst 1, 1) := by decide +kernel
theorem kd_R_isHidden_125 : decode kc_R_isHidden 125 = .ok (.goto 4, 3) := by decide +kernel
theorem kd_R_isHidden_128 : decode kc_R_isHidden 128 = .ok (.iconst 0, 1) := by decide +kernel
theorem kd_R_isHidden_129 : decode kc_R_isHidden 129 = .ok (.istore 5, 2) := by decide +kernel
theorem kd_R_isHidden_131 : decode kc_R_isHidden 131 = .ok (.iinc 6 1, 3) := by decide +kernel
theorem kd_R_isHidden_134 : decode kc_R_isHidden 134 = .ok (.goto (-52), 3) := by decide +kernel
theorem kd_R_isHidden_137 : decode kc_R_isHidden 137 = .ok (.iload_n 3, 1) := by decide +kernel
theorem kd_R_isHidden_138 : decode kc_R_isHidden 138 = .ok (.ifCond .ne 8, 3) := by decide +kernel
theorem kd_R_isHidden_141 : decode kc_R_isHidden 141 = .ok (.iload 5, 2) := by decide +kernel
theorem kd_R_isHidden_143 : decode kc_R_isHidden 143 = .ok (.ifCond .eq 7, 3) := by decide +kernel
theorem kd_R_isHidden_146 : decode kc_R_isHidden 146 = .ok (.iconst 1, 1) := by decide +kernel
theorem kd_R_isHidden_147 : decode kc_R_isHidden 147 = .ok (.goto 4, 3) := by decide +kernel
theorem kd_R_isHidden_150 : decode kc_R_isHidden 150 = .ok (.iconst 0, 1) := by decide +kernel
theorem kd_R_isHidden_151 : decode kc_R_isHidden 151 = .ok (.istore_n 3, 1) := by decide +kernel
theorem kd_R_isHidden_152 : decode kc_R_isHidden 152 = .ok (.iinc 4 1, 3) := by decide +kernel
theorem kd_R_isHidden_155 : decode kc_R_isHidden 155 = .ok (.goto (-150), 3) := by decide +kernel
theorem kd_R_isHidden_158 : decode kc_R_isHidden 158 = .ok (.iload_n 3, 1) := by decide +kernel
theorem kd_R_isHidden_159 : decode kc_R_isHidden 159 = .ok (.ireturn, 1) := by decide +kernel
theorem kd_R_isBest_0 : decode kc_R_isBest 0 = .ok (.aload_n 0, 1) := by decide +kernel
theorem kd_R_isBest_1 : decode kc_R_isBest 1 = .ok (.getfield 38, 3) := by decide +kernel
theorem kd_R_isBest_4 : decode kc_R_isBest 4 = .ok (.iload_n 1, 1) := by decide +kernel
theorem kd_R_isBest_5 : decode kc_R_isBest 5 = .ok (.baload, 1) := by decide +kernel
theorem kd_R_isBest_6 : decode kc_R_isBest 6 = .ok (.istore_n 2, 1) := by decide +kernel
theorem kd_R_isBest_7 : decode kc_R_isBest 7 = .ok (.iconst 0, 1) := by decide +kernel
theorem kd_R_isBest_8 : decode kc_R_isBest 8 = .ok (.istore_n 3, 1) := by decide +kernel
theorem kd_R_isBest_9 : decode kc_R_isBest 9 = .ok (.iload_n 3, 1) := by decide +kernel
theorem kd_R_isBest_10 : decode kc_R_isBest 10 = .ok (.aload_n 0, 1) := by decide +kernel
theorem kd_R_isBest_11 : decode kc_R_isBest 11 = .ok (.getfield 72, 3) := by decide +kernel
theorem kd_R_isBest_14 : decode kc_R_isBest 14 = .ok (.if_icmp .ge 83, 3) := by decide +kernel
theorem kd_R_isBest_17 : decode kc_R_isBest 17 = .ok (.iconst 0, 1) := by decide +kernel
theorem kd_R_isBest_18 : decode kc_R_isBest 18 = .ok (.istore 4, 2) := by decide +kernel
theorem kd_R_isBest_20 : decode kc_R_isBest 20 = .ok (.iload 4, 2) := by decide +kernel
theorem kd_R_isBest_22 : decode kc_R_isBest 22 = .ok (.aload_n 0, 1) := by decide +kernel
theorem kd_R_isBest_23 : decode kc_R_isBest 23 = .ok (.getfield 85, 3) := by decide +kernel
theorem kd_R_isBest_26 : decode kc_R_isBest 26 = .ok (.if_icmp .ge 65, 3) := by decide +kernel
theorem kd_R_isBest_29 : decode kc_R_isBest 29 = .ok (.aload_n 0, 1) := by decide +kernel
theorem kd_R_isBest_30 : decode kc_R_isBest 30 = .ok (.getfield 38, 3) := by decide +kernel
theorem kd_R_isBest_33 : decode kc_R_isBest 33 = .ok (.iload_n 3, 1) := by decide +kernel
theorem kd_R_isBest_34 : decode kc_R_isBest 34 = .ok (.baload, 1) := by decide +kernel
theorem kd_R_isBest_35 : decode kc_R_isBest 35 = .ok (.ifCond .eq 56, 3) := by decide +kernel
theorem kd_R_isBest_38 : decode kc_R_isBest 38 = .ok (.iload_n 2, 1) := by decide +kernel
theorem kd_R_isBest_39 : decode kc_R_isBest 39 = .ok (.ifCond .eq 44, 3) := by decide +kernel
theorem kd_R_isBest_42 : decode kc_R_isBest 42 = .ok (.aload_n 0, 1) := by decide +kernel
theorem kd_R_isBest_43 : decode kc_R_isBest 43 = .ok (.iload 4, 2) := by decide +kernel
theorem kd_R_isBest_45 : decode kc_R_isBest 45 = .ok (.aload_n 0, 1) := by decide +kernel
theorem kd_R_isBest_46 : decode kc_R_isBest 46 = .ok (.getfield 25, 3) := by decide +kernel
theorem kd_R_isBest_49 : decode kc_R_isBest 49 = .ok (.iconst 4, 1) := by decide +kernel
theorem kd_R_isBest_50 : decode kc_R_isBest 50 = .ok (.iload_n 1, 1) := by decide +kernel
theorem kd_R_isBest_51 : decode kc_R_isBest 51 = .ok (.imul, 1) := by decide +kernel
theorem kd_R_isBest_52 : decode kc_R_isBest 52 = .ok (.iload 4, 2) := by decide +kernel
theorem kd_R_isBest_54 : decode kc_R_isBest 54 = .ok (.iadd, 1) := by decide +kernel
theorem kd_R_isBest_55 : decode kc_R_isBest 55 = .ok (.iaload, 1) := by decide +kernel
theorem kd_R_isBest_56 : decode kc_R_isBest 56 = .ok (.invokevirtual 118, 3) := by decide +kernel
theorem kd_R_isBest_59 : decode kc_R_isBest 59 = .ok (.aload_n 0, 1) := by decide +kernel
theorem kd_R_isBest_60 : decode kc_R_isBest 60 = .ok (.iload 4, 2) := by decide +kernel
theorem kd_R_isBest_62 : decode kc_R_isBest 62 = .ok (.aload_n 0, 1) := by decide +kernel
theorem kd_R_isBest_63 : decode kc_R_isBest 63 = .ok (.getfield 25, 3) := by decide +kernel
theorem kd_R_isBest_66 : decode kc_R_isBest 66 = .ok (.iconst 4, 1) := by decide +kernel
theorem kd_R_isBest_67 : decode kc_R_isBest 67 = .ok (.iload_n 3, 1) := by decide +kernel
theorem kd_R_isBest_68 : decode kc_R_isBest 68 = .ok (.imul, 1) := by decide +kernel
theorem kd_R_isBest_69 : decode kc_R_isBest 69 = .ok (.iload 4, 2) := by decide +kernel
theorem kd_R_isBest_71 : decode kc_R_isBest 71 = .ok (.iadd, 1) := by decide +kernel
theorem kd_R_isBest_72 : decode kc_R_isBest 72 = .ok (.iaload, 1) := by decide +kernel
theorem kd_R_isBest_73 : decode kc_R_isBest 73 = .ok (.invokevirtual 118, 3) := by decide +kernel
theorem kd_R_isBest_76 : decode kc_R_isBest 76 = .ok (.if_icmp .gt 7, 3) := by decide +kernel
theorem kd_R_isBest_79 : decode kc_R_isBest 79 = .ok (.iconst 1, 1) := by decide +kernel
theorem kd_R_isBest_80 : decode kc_R_isBest 80 = .ok (.goto 4, 3) := by decide +kernel
theorem kd_R_isBest_83 : decode kc_R_isBest 83 = .ok (.iconst 0, 1) := by decide +kernel
theorem kd_R_isBest_84 : decode kc_R_isBest 84 = .ok (.istore_n 2, 1) := by decide +kernel
theorem kd_R_isBest_85 : decode kc_R_isBest 85 = .ok (.iinc 4 1, 3) := by decide +kernel
theorem kd_R_isBest_88 : decode kc_R_isBest 88 = .ok (.goto (-68), 3) := by decide +kernel
theorem kd_R_isBest_91 : decode kc_R_isBest 91 = .ok (.iinc 3 1, 3) := by decide +kernel
theorem kd_R_isBest_94 : decode kc_R_isBest 94 = .ok (.goto (-85), 3) := by decide +kernel
theorem kd_R_isBest_97 : decode kc_R_isBest 97 = .ok (.iload_n 2, 1) := by decide +kernel
theorem kd_R_isBest_98 : decode kc_R_isBest 98 = .ok (.ireturn, 1) := by decide +kernel
theorem kd_R_make_0 : decode kc_R_make 0 = .ok (.aload_n 0, 1) := by decide +kernel
theorem kd_R_make_1 : decode kc_R_make 1 = .ok (.getfield 134, 3) := by decide +kernel
theorem kd_R_make_4 : decode kc_R_make 4 = .ok (.bipush 64, 2) := by decide +kernel
theorem kd_R_make_6 : decode kc_R_make 6 = .ok (.irem, 1) := by decide +kernel
theorem kd_R_make_7 : decode kc_R_make 7 = .ok (.istore_n 3, 1) := by decide +kernel
theorem kd_R_make_8 : decode kc_R_make 8 = .ok (.aload_n 0, 1) := by decide +kernel
theorem kd_R_make_9 : decode kc_R_make 9 = .ok (.getfield 42, 3) := by decide +kernel
theorem kd_R_make_12 : decode kc_R_make 12 = .ok (.iload_n 3, 1) := by decide +kernel
theorem kd_R_make_13 : decode kc_R_make 13 = .ok (.iload_n 1, 1) := by decide +kernel
theorem kd_R_make_14 : decode kc_R_make 14 = .ok (.iastore, 1) := by decide +kernel
theorem kd_R_make_15 : decode kc_R_make 15 = .ok (.aload_n 0, 1) := by decide +kernel
theorem kd_R_make_16 : decode kc_R_make 16 = .ok (.getfield 45, 3) := by decide +kernel
theorem kd_R_make_19 : decode kc_R_make 19 = .ok (.iload_n 3, 1) := by decide +kernel
theorem kd_R_make_20 : decode kc_R_make 20 = .ok (.iload_n 2, 1) := by decide +kernel
theorem kd_R_make_21 : decode kc_R_make 21 = .ok (.iastore, 1) := by decide +kernel
theorem kd_R_make_22 : decode kc_R_make 22 = .ok (.aload_n 0, 1) := by decide +kernel
theorem kd_R_make_23 : decode kc_R_make 23 = .ok (.getfield 48, 3) := by decide +kernel
theorem kd_R_make_26 : decode kc_R_make 26 = .ok (.iload_n 3, 1) := by decide +kernel
theorem kd_R_make_27 : decode kc_R_make 27 = .ok (.aload_n 0, 1) := by decide +kernel
theorem kd_R_make_28 : decode kc_R_make 28 = .ok (.getfield 85, 3) := by decide +kernel
theorem kd_R_make_31 : decode kc_R_make 31 = .ok (.iastore, 1) := by decide +kernel
theorem kd_R_make_32 : decode kc_R_make 32 = .ok (.iconst 0, 1) := by decide +kernel
theorem kd_R_make_33 : decode kc_R_make 33 = .ok (.istore 4, 2) := by decide +kernel
theorem kd_R_make_35 : decode kc_R_make 35 = .ok (.iload 4, 2) := by decide +kernel
theorem kd_R_make_37 : decode kc_R_make 37 = .ok (.aload_n 0, 1) := by decide +kernel
theorem kd_R_make_38 : decode kc_R_make 38 = .ok (.getfield 85, 3) := by decide +kernel
theorem kd_R_make_41 : decode kc_R_make 41 = .ok (.if_icmp .ge 37, 3) := by decide +kernel
theorem kd_R_make_44 : decode kc_R_make 44 = .ok (.aload_n 0, 1) := by decide +kernel
theorem kd_R_make_45 : decode kc_R_make 45 = .ok (.getfield 51, 3) := by decide +kernel
theorem kd_R_make_48 : decode kc_R_make 48 = .ok (.iconst 4, 1) := by decide +kernel
theorem kd_R_make_49 : decode kc_R_make 49 = .ok (.iload_n 3, 1) := by decide +kernel
theorem kd_R_make_50 : decode kc_R_make 50 = .ok (.imul, 1) := by decide +kernel
theorem kd_R_make_51 : decode kc_R_make 51 = .ok (.iload 4, 2) := by decide +kernel
theorem kd_R_make_53 : decode kc_R_make 53 = .ok (.iadd, 1) := by decide +kernel
theorem kd_R_make_54 : decode kc_R_make 54 = .ok (.aload_n 0, 1) := by decide +kernel
theorem kd_R_make_55 : decode kc_R_make 55 = .ok (.iload 4, 2) := by decide +kernel
theorem kd_R_make_57 : decode kc_R_make 57 = .ok (.aload_n 0, 1) := by decide +kernel
theorem kd_R_make_58 : decode kc_R_make 58 = .ok (.getfield 25, 3) := by decide +kernel
theorem kd_R_make_61 : decode kc_R_make 61 = .ok (.iconst 4, 1) := by decide +kernel
theorem kd_R_make_62 : decode kc_R_make 62 = .ok (.iload_n 2, 1) := by decide +kernel
theorem kd_R_make_63 : decode kc_R_make 63 = .ok (.imul, 1) := by decide +kernel
theorem kd_R_make_64 : decode kc_R_make 64 = .ok (.iload 4, 2) := by decide +kernel
theorem kd_R_make_66 : decode kc_R_make 66 = .ok (.iadd, 1) := by decide +kernel
theorem kd_R_make_67 : decode kc_R_make 67 = .ok (.iaload, 1) := by decide +kernel
theorem kd_R_make_68 : decode kc_R_make 68 = .ok (.invokevirtual 137, 3) := by decide +kernel
theorem kd_R_make_71 : decode kc_R_make 71 = .ok (.lastore, 1) := by decide +kernel
theorem kd_R_make_72 : decode kc_R_make 72 = .ok (.iinc 4 1, 3) := by decide +kernel
theorem kd_R_make_75 : decode kc_R_make 75 = .ok (.goto (-40), 3) := by decide +kernel
theorem kd_R_make_78 : decode kc_R_make 78 = .ok (.aload_n 0, 1) := by decide +kernel
theorem kd_R_make_79 : decode kc_R_make 79 = .ok (.dup, 1) := by decide +kernel
theorem kd_R_make_80 : decode kc_R_make 80 = .ok (.getfield 134, 3) := by decide +kernel
theorem kd_R_make_83 : decode kc_R_make 83 = .ok (.iconst 1, 1) := by decide +kernel
theorem kd_R_make_84 : decode kc_R_make 84 = .ok (.iadd, 1) := by decide +kernel
theorem kd_R_make_85 : decode kc_R_make 85 = .ok (.putfield 134, 3) := by decide +kernel
theorem kd_R_make_88 : decode kc_R_make 88 = .ok (.aload_n 0, 1) := by decide +kernel
theorem kd_R_make_89 : decode kc_R_make 89 = .ok (.iconst 0, 1) := by decide +kernel
theorem kd_R_make_90 : decode kc_R_make 90 = .ok (.putfield 85, 3) := by decide +kernel
theorem kd_R_make_93 : decode kc_R_make 93 = .ok (.aload_n 0, 1) := by decide +kernel
theorem kd_R_make_94 : decode kc_R_make 94 = .ok (.aload_n 0, 1) := by decide +kernel
theorem kd_R_make_95 : decode kc_R_make 95 = .ok (.getfield 141, 3) := by decide +kernel
theorem kd_R_make_98 : decode kc_R_make 98 = .ok (.ifCond .le 12, 3) := by decide +kernel
theorem kd_R_make_101 : decode kc_R_make 101 = .ok (.aload_n 0, 1) := by decide +kernel
theorem kd_R_make_102 : decode kc_R_make 102 = .ok (.getfield 54, 3) := by decide +kernel
theorem kd_R_make_105 : decode kc_R_make 105 = .ok (.iconst 0, 1) := by decide +kernel
theorem kd_R_make_106 : decode kc_R_make 106 = .ok (.laload, 1) := by decide +kernel
theorem kd_R_make_107 : decode kc_R_make 107 = .ok (.goto 4, 3) := by decide +kernel
theorem kd_R_make_110 : decode kc_R_make 110 = .ok (.lconst 0, 1) := by decide +kernel
theorem kd_R_make_111 : decode kc_R_make 111 = .ok (.putfield 144, 3) := by decide +kernel
theorem kd_R_make_114 : decode kc_R_make 114 = .ok (.iconst 1, 1) := by decide +kernel
theorem kd_R_make_115 : decode kc_R_make 115 = .ok (.istore 4, 2) := by decide +kernel
theorem kd_R_make_117 : decode kc_R_make 117 = .ok (.iload 4, 2) := by decide +kernel
theorem kd_R_make_119 : decode kc_R_make 119 = .ok (.aload_n 0, 1) := by decide +kernel
theorem kd_R_make_120 : decode kc_R_make 120 = .ok (.getfield 141, 3) := by decide +kernel
theorem kd_R_make_123 : decode kc_R_make 123 = .ok (.if_icmp .ge 25, 3) := by decide +kernel
theorem kd_R_make_126 : decode kc_R_make 126 = .ok (.aload_n 0, 1) := by decide +kernel
theorem kd_R_make_127 : decode kc_R_make 127 = .ok (.getfield 54, 3) := by decide +kernel
theorem kd_R_make_130 : decode kc_R_make 130 = .ok (.iload 4, 2) := by decide +kernel
theorem kd_R_make_132 : decode kc_R_make 132 = .ok (.iconst 1, 1) := by decide +kernel
theorem kd_R_make_133 : decode kc_R_make 133 = .ok (.isub, 1) := by decide +kernel
theorem kd_R_make_134 : decode kc_R_make 134 = .ok (.aload_n 0, 1) := by decide +kernel
theorem kd_R_make_135 : decode kc_R_make 135 = .ok (.getfield 54, 3) := by decide +kernel
theorem kd_R_make_138 : decode kc_R_make 138 = .ok (.iload 4, 2) := by decide +kernel
theorem kd_R_make_140 : decode kc_R_make 140 = .ok (.laload, 1) := by decide +kernel
theorem kd_R_make_141 : decode kc_R_make 141 = .ok (.lastore, 1) := by decide +kernel
theorem kd_R_make_142 : decode kc_R_make 142 = .ok (.iinc 4 1, 3) := by decide +kernel
theorem kd_R_make_145 : decode kc_R_make 145 = .ok (.goto (-28), 3) := by decide +kernel
theorem kd_R_make_148 : decode kc_R_make 148 = .ok (.aload_n 0, 1) := by decide +kernel
theorem kd_R_make_149 : decode kc_R_make 149 = .ok (.aload_n 0, 1) := by decide +kernel
theorem kd_R_make_150 : decode kc_R_make 150 = .ok (.getfield 141, 3) := by decide +kernel
theorem kd_R_make_153 : decode kc_R_make 153 = .ok (.ifCond .le 12, 3) := by decide +kernel
theorem kd_R_make_156 : decode kc_R_make 156 = .ok (.aload_n 0, 1) := by decide +kernel
theorem kd_R_make_157 : decode kc_R_make 157 = .ok (.getfield 141, 3) := by decide +kernel
theorem kd_R_make_160 : decode kc_R_make 160 = .ok (.iconst 1, 1) := by decide +kernel
theorem kd_R_make_161 : decode kc_R_make 161 = .ok (.isub, 1) := by decide +kernel
theorem kd_R_make_162 : decode kc_R_make 162 = .ok (.goto 4, 3) := by decide +kernel
theorem kd_R_make_165 : decode kc_R_make 165 = .ok (.iconst 0, 1) := by decide +kernel
theorem kd_R_make_166 : decode kc_R_make 166 = .ok (.putfield 141, 3) := by decide +kernel
theorem kd_R_make_169 : decode kc_R_make 169 = .ok (.iload_n 2, 1) := by decide +kernel
theorem kd_R_make_170 : decode kc_R_make 170 = .ok (.ireturn, 1) := by decide +kernel
theorem kd_R_turned_0 : decode kc_R_turned 0 = .ok (.iload_n 2, 1) := by decide +kernel
theorem kd_R_turned_1 : decode kc_R_turned 1 = .ok (.iconst 4, 1) := by decide +kernel
theorem kd_R_turned_2 : decode kc_R_turned 2 = .ok (.if_icmp .eq 8, 3) := by decide +kernel
theorem kd_R_turned_5 : decode kc_R_turned 5 = .ok (.iload_n 2, 1) := by decide +kernel
theorem kd_R_turned_6 : decode kc_R_turned 6 = .ok (.iconst 5, 1) := by decide +kernel
theorem kd_R_turned_7 : decode kc_R_turned 7 = .ok (.if_icmp .ne 11, 3) := by decide +kernel
theorem kd_R_turned_10 : decode kc_R_turned 10 = .ok (.aload_n 0, 1) := by decide +kernel
theorem kd_R_turned_11 : decode kc_R_turned 11 = .ok (.getfield 28, 3) := by decide +kernel
theorem kd_R_turned_14 : decode kc_R_turned 14 = .ok (.iload_n 1, 1) := by decide +kernel
theorem kd_R_turned_15 : decode kc_R_turned 15 = .ok (.iaload, 1) := by decide +kernel
theorem kd_R_turned_16 : decode kc_R_turned 16 = .ok (.i2l, 1) := by decide +kernel
theorem kd_R_turned_17 : decode kc_R_turned 17 = .ok (.lreturn, 1) := by decide +kernel
theorem kd_R_turned_18 : decode kc_R_turned 18 = .ok (.aload_n 0, 1) := by decide +kernel
theorem kd_R_turned_19 : decode kc_R_turned 19 = .ok (.getfield 28, 3) := by decide +kernel
theorem kd_R_turned_22 : decode kc_R_turned 22 = .ok (.iload_n 1, 1) := by decide +kernel
theorem kd_R_turned_23 : decode kc_R_turned 23 = .ok (.iaload, 1) := by decide +kernel
theorem kd_R_turned_24 : decode kc_R_turned 24 = .ok (.iconst 1, 1) := by decide +kernel
theorem kd_R_turned_25 : decode kc_R_turned 25 = .ok (.if_icmp .ne 7, 3) := by decide +kernel
theorem kd_R_turned_28 : decode kc_R_turned 28 = .ok (.ldc2_w 126, 3) := by decide +kernel
theorem kd_R_turned_31 : decode kc_R_turned 31 = .ok (.lreturn, 1) := by decide +kernel
theorem kd_R_turned_32 : decode kc_R_turned 32 = .ok (.aload_n 0, 1) := by decide +kernel
theorem kd_R_turned_33 : decode kc_R_turned 33 = .ok (.getfield 28, 3) := by decide +kernel
theorem kd_R_turned_36 : decode kc_R_turned 36 = .ok (.iload_n 1, 1) := by decide +kernel
theorem kd_R_turned_37 : decode kc_R_turned 37 = .ok (.iaload, 1) := by decide +kernel
theorem kd_R_turned_38 : decode kc_R_turned 38 = .ok (.iconst 3, 1) := by decide +kernel
theorem kd_R_turned_39 : decode kc_R_turned 39 = .ok (.if_icmp .ne 8, 3) := by decide +kernel
theorem kd_R_turned_42 : decode kc_R_turned 42 = .ok (.iload_n 2, 1) := by decide +kernel
theorem kd_R_turned_43 : decode kc_R_turned 43 = .ok (.iconst 3, 1) := by decide +kernel
theorem kd_R_turned_44 : decode kc_R_turned 44 = .ok (.if_icmp .ne 10, 3) := by decide +kernel
theorem kd_R_turned_47 : decode kc_R_turned 47 = .ok (.aload_n 0, 1) := by decide +kernel
theorem kd_R_turned_48 : decode kc_R_turned 48 = .ok (.getfield 31, 3) := by decide +kernel
theorem kd_R_turned_51 : decode kc_R_turned 51 = .ok (.iload_n 1, 1) := by decide +kernel
theorem kd_R_turned_52 : decode kc_R_turned 52 = .ok (.laload, 1) := by decide +kernel
theorem kd_R_turned_53 : decode kc_R_turned 53 = .ok (.lreturn, 1) := by decide +kernel
theorem kd_R_turned_54 : decode kc_R_turned 54 = .ok (.iload_n 2, 1) := by decide +kernel
theorem kd_R_turned_55 : decode kc_R_turned 55 = .ok (.ifCond .ne 23, 3) := by decide +kernel
theorem kd_R_turned_58 : decode kc_R_turned 58 = .ok (.aload_n 0, 1) := by decide +kernel
theorem kd_R_turned_59 : decode kc_R_turned 59 = .ok (.getfield 31, 3) := by decide +kernel
theorem kd_R_turned_62 : decode kc_R_turned 62 = .ok (.iload_n 1, 1) := by decide +kernel
theorem kd_R_turned_63 : decode kc_R_turned 63 = .ok (.laload, 1) := by decide +kernel
theorem kd_R_turned_64 : decode kc_R_turned 64 = .ok (.invokestatic 128, 3) := by decide +kernel
theorem kd_R_turned_67 : decode kc_R_turned 67 = .ok (.ifCond .eq 7, 3) := by decide +kernel
theorem kd_R_turned_70 : decode kc_R_turned 70 = .ok (.lconst 1, 1) := by decide +kernel
theorem kd_R_turned_71 : decode kc_R_turned 71 = .ok (.goto 16, 3) := by decide +kernel
theorem kd_R_turned_74 : decode kc_R_turned 74 = .ok (.lconst 0, 1) := by decide +kernel
theorem kd_R_turned_75 : decode kc_R_turned 75 = .ok (.goto 12, 3) := by decide +kernel
theorem kd_R_turned_78 : decode kc_R_turned 78 = .ok (.aload_n 0, 1) := by decide +kernel
theorem kd_R_turned_79 : decode kc_R_turned 79 = .ok (.getfield 31, 3) := by decide +kernel
theorem kd_R_turned_82 : decode kc_R_turned 82 = .ok (.iload_n 1, 1) := by decide +kernel
theorem kd_R_turned_83 : decode kc_R_turned 83 = .ok (.laload, 1) := by decide +kernel
theorem kd_R_turned_84 : decode kc_R_turned 84 = .ok (.invokestatic 102, 3) := by decide +kernel
theorem kd_R_turned_87 : decode kc_R_turned 87 = .ok (.lreturn, 1) := by decide +kernel
theorem kd_R_isTrue_0 : decode kc_R_isTrue 0 = .ok (.lload_n 0, 1) := by decide +kernel
theorem kd_R_isTrue_1 : decode kc_R_isTrue 1 = .ok (.ldc2_w 122, 3) := by decide +kernel
theorem kd_R_isTrue_4 : decode kc_R_isTrue 4 = .ok (.land, 1) := by decide +kernel
theorem kd_R_isTrue_5 : decode kc_R_isTrue 5 = .ok (.lstore_n 2, 1) := by decide +kernel
theorem kd_R_isTrue_6 : decode kc_R_isTrue 6 = .ok (.lload_n 2, 1) := by decide +kernel
theorem kd_R_isTrue_7 : decode kc_R_isTrue 7 = .ok (.lconst 0, 1) := by decide +kernel
theorem kd_R_isTrue_8 : decode kc_R_isTrue 8 = .ok (.lcmp, 1) := by decide +kernel
theorem kd_R_isTrue_9 : decode kc_R_isTrue 9 = .ok (.ifCond .le 15, 3) := by decide +kernel
theorem kd_R_isTrue_12 : decode kc_R_isTrue 12 = .ok (.lload_n 2, 1) := by decide +kernel
theorem kd_R_isTrue_13 : decode kc_R_isTrue 13 = .ok (.ldc2_w 124, 3) := by decide +kernel
theorem kd_R_isTrue_16 : decode kc_R_isTrue 16 = .ok (.lcmp, 1) := by decide +kernel
theorem kd_R_isTrue_17 : decode kc_R_isTrue 17 = .ok (.ifCond .gt 7, 3) := by decide +kernel
theorem kd_R_isTrue_20 : decode kc_R_isTrue 20 = .ok (.iconst 1, 1) := by decide +kernel
theorem kd_R_isTrue_21 : decode kc_R_isTrue 21 = .ok (.goto 4, 3) := by decide +kernel
theorem kd_R_isTrue_24 : decode kc_R_isTrue 24 = .ok (.iconst 0, 1) := by decide +kernel
theorem kd_R_isTrue_25 : decode kc_R_isTrue 25 = .ok (.ireturn, 1) := by decide +kernel
theorem kd_R_exact_0 : decode kc_R_exact 0 = .ok (.iload_n 1, 1) := by decide +kernel
theorem kd_R_exact_1 : decode kc_R_exact 1 = .ok (.aload_n 0, 1) := by decide +kernel
theorem kd_R_exact_2 : decode kc_R_exact 2 = .ok (.getfield 82, 3) := by decide +kernel
theorem kd_R_exact_5 : decode kc_R_exact 5 = .ok (.invokestatic 64, 3) := by decide +kernel
theorem kd_R_exact_8 : decode kc_R_exact 8 = .ok (.ifCond .ne 25, 3) := by decide +kernel
theorem kd_R_exact_11 : decode kc_R_exact 11 = .ok (.iload_n 2, 1) := by decide +kernel
theorem kd_R_exact_12 : decode kc_R_exact 12 = .ok (.sipush 1000, 3) := by decide +kernel
theorem kd_R_exact_15 : decode kc_R_exact 15 = .ok (.invokestatic 64, 3) := by decide +kernel
theorem kd_R_exact_18 : decode kc_R_exact 18 = .ok (.ifCond .ne 15, 3) := by decide +kernel
theorem kd_R_exact_21 : decode kc_R_exact 21 = .ok (.aload_n 0, 1) := by decide +kernel
theorem kd_R_exact_22 : decode kc_R_exact 22 = .ok (.aload_n 0, 1) := by decide +kernel
theorem kd_R_exact_23 : decode kc_R_exact 23 = .ok (.getfield 85, 3) := by decide +kernel
theorem kd_R_exact_26 : decode kc_R_exact 26 = .ok (.iload_n 3, 1) := by decide +kernel
theorem kd_R_exact_27 : decode kc_R_exact 27 = .ok (.invokevirtual 75, 3) := by decide +kernel
theorem kd_R_exact_30 : decode kc_R_exact 30 = .ok (.ifCond .ne 7, 3) := by decide +kernel
theorem kd_R_exact_33 : decode kc_R_exact 33 = .ok (.iconst 1, 1) := by decide +kernel
theorem kd_R_exact_34 : decode kc_R_exact 34 = .ok (.goto 4, 3) := by decide +kernel
theorem kd_R_exact_37 : decode kc_R_exact 37 = .ok (.iconst 0, 1) := by decide +kernel
theorem kd_R_exact_38 : decode kc_R_exact 38 = .ok (.istore 4, 2) := by decide +kernel
theorem kd_R_exact_40 : decode kc_R_exact 40 = .ok (.iconst (-1), 1) := by decide +kernel
theorem kd_R_exact_41 : decode kc_R_exact 41 = .ok (.istore 5, 2) := by decide +kernel
theorem kd_R_exact_43 : decode kc_R_exact 43 = .ok (.iload 4, 2) := by decide +kernel
theorem kd_R_exact_45 : decode kc_R_exact 45 = .ok (.ifCond .eq 7, 3) := by decide +kernel
theorem kd_R_exact_48 : decode kc_R_exact 48 = .ok (.iconst (-1), 1) := by decide +kernel
theorem kd_R_exact_49 : decode kc_R_exact 49 = .ok (.goto 9, 3) := by decide +kernel
theorem kd_R_exact_52 : decode kc_R_exact 52 = .ok (.aload_n 0, 1) := by decide +kernel
theorem kd_R_exact_53 : decode kc_R_exact 53 = .ok (.getfield 13, 3) := by decide +kernel
theorem kd_R_exact_56 : decode kc_R_exact 56 = .ok (.iload_n 1, 1) := by decide +kernel
theorem kd_R_exact_57 : decode kc_R_exact 57 = .ok (.iaload, 1) := by decide +kernel
theorem kd_R_exact_58 : decode kc_R_exact 58 = .ok (.istore 6, 2) := by decide +kernel
theorem kd_R_exact_60 : decode kc_R_exact 60 = .ok (.iload 6, 2) := by decide +kernel
theorem kd_R_exact_62 : decode kc_R_exact 62 = .ok (.ifCond .lt 33, 3) := by decide +kernel
theorem kd_R_exact_65 : decode kc_R_exact 65 = .ok (.iload 5, 2) := by decide +kernel
theorem kd_R_exact_67 : decode kc_R_exact 67 = .ok (.ifCond .ge 28, 3) := by decide +kernel
theorem kd_R_exact_70 : decode kc_R_exact 70 = .ok (.aload_n 0, 1) := by decide +kernel
theorem kd_R_exact_71 : decode kc_R_exact 71 = .ok (.iload 6, 2) := by decide +kernel
theorem kd_R_exact_73 : decode kc_R_exact 73 = .ok (.iload_n 2, 1) := by decide +kernel
theorem kd_R_exact_74 : decode kc_R_exact 74 = .ok (.aload_n 0, 1) := by decide +kernel
theorem kd_R_exact_75 : decode kc_R_exact 75 = .ok (.getfield 85, 3) := by decide +kernel
theorem kd_R_exact_78 : decode kc_R_exact 78 = .ok (.invokevirtual 78, 3) := by decide +kernel
theorem kd_R_exact_81 : decode kc_R_exact 81 = .ok (.istore 5, 2) := by decide +kernel
theorem kd_R_exact_83 : decode kc_R_exact 83 = .ok (.aload_n 0, 1) := by decide +kernel
theorem kd_R_exact_84 : decode kc_R_exact 84 = .ok (.getfield 7, 3) := by decide +kernel
theorem kd_R_exact_87 : decode kc_R_exact 87 = .ok (.iload 6, 2) := by decide +kernel
theorem kd_R_exact_89 : decode kc_R_exact 89 = .ok (.iaload, 1) := by decide +kernel
theorem kd_R_exact_90 : decode kc_R_exact 90 = .ok (.istore 6, 2) := by decide +kernel
theorem kd_R_exact_92 : decode kc_R_exact 92 = .ok (.goto (-32), 3) := by decide +kernel
theorem kd_R_exact_95 : decode kc_R_exact 95 = .ok (.aload_n 0, 1) := by decide +kernel
theorem kd_R_exact_96 : decode kc_R_exact 96 = .ok (.iload 4, 2) := by decide +kernel
theorem kd_R_exact_98 : decode kc_R_exact 98 = .ok (.iload 4, 2) := by decide +kernel
theorem kd_R_exact_100 : decode kc_R_exact 100 = .ok (.ifCond .ne 21, 3) := by decide +kernel
theorem kd_R_exact_103 : decode kc_R_exact 103 = .ok (.iload 5, 2) := by decide +kernel
theorem kd_R_exact_105 : decode kc_R_exact 105 = .ok (.ifCond .lt 12, 3) := by decide +kernel
theorem kd_R_exact_108 : decode kc_R_exact 108 = .ok (.aload_n 0, 1) := by decide +kernel
theorem kd_R_exact_109 : decode kc_R_exact 109 = .ok (.iload 5, 2) := by decide +kernel
theorem kd_R_exact_111 : decode kc_R_exact 111 = .ok (.invokevirtual 148, 3) := by decide +kernel
theorem kd_R_exact_114 : decode kc_R_exact 114 = .ok (.ifCond .ne 7, 3) := by decide +kernel
theorem kd_R_exact_117 : decode kc_R_exact 117 = .ok (.iconst 1, 1) := by decide +kernel
theorem kd_R_exact_118 : decode kc_R_exact 118 = .ok (.goto 4, 3) := by decide +kernel
theorem kd_R_exact_121 : decode kc_R_exact 121 = .ok (.iconst 0, 1) := by decide +kernel
theorem kd_R_exact_122 : decode kc_R_exact 122 = .ok (.iconst 0, 1) := by decide +kernel
theorem kd_R_exact_123 : decode kc_R_exact 123 = .ok (.invokevirtual 68, 3) := by decide +kernel
theorem kd_R_exact_126 : decode kc_R_exact 126 = .ok (.ifCond .eq 10, 3) := by decide +kernel
theorem kd_R_exact_129 : decode kc_R_exact 129 = .ok (.aload_n 0, 1) := by decide +kernel
theorem kd_R_exact_130 : decode kc_R_exact 130 = .ok (.iconst 0, 1) := by decide +kernel
theorem kd_R_exact_131 : decode kc_R_exact 131 = .ok (.putfield 85, 3) := by decide +kernel
theorem kd_R_exact_134 : decode kc_R_exact 134 = .ok (.iconst 0, 1) := by decide +kernel
theorem kd_R_exact_135 : decode kc_R_exact 135 = .ok (.ireturn, 1) := by decide +kernel
theorem kd_R_exact_136 : decode kc_R_exact 136 = .ok (.aload_n 0, 1) := by decide +kernel
theorem kd_R_exact_137 : decode kc_R_exact 137 = .ok (.iload_n 1, 1) := by decide +kernel
theorem kd_R_exact_138 : decode kc_R_exact 138 = .ok (.iload 5, 2) := by decide +kernel
theorem kd_R_exact_140 : decode kc_R_exact 140 = .ok (.invokevirtual 158, 3) := by decide +kernel
theorem kd_R_exact_143 : decode kc_R_exact 143 = .ok (.ireturn, 1) := by decide +kernel
theorem kd_R_answer_0 : decode kc_R_answer 0 = .ok (.aload_n 0, 1) := by decide +kernel
theorem kd_R_answer_1 : decode kc_R_answer 1 = .ok (.aload_n 0, 1) := by decide +kernel
theorem kd_R_answer_2 : decode kc_R_answer 2 = .ok (.getfield 141, 3) := by decide +kernel
theorem kd_R_answer_5 : decode kc_R_answer 5 = .ok (.bipush 64, 2) := by decide +kernel
theorem kd_R_answer_7 : decode kc_R_answer 7 = .ok (.if_icmp .ne 7, 3) := by decide +kernel
theorem kd_R_answer_10 : decode kc_R_answer 10 = .ok (.iconst 1, 1) := by decide +kernel
theorem kd_R_answer_11 : decode kc_R_answer 11 = .ok (.goto 4, 3) := by decide +kernel
theorem kd_R_answer_14 : decode kc_R_answer 14 = .ok (.iconst 0, 1) := by decide +kernel
theorem kd_R_answer_15 : decode kc_R_answer 15 = .ok (.iconst 0, 1) := by decide +kernel
theorem kd_R_answer_16 : decode kc_R_answer 16 = .ok (.iconst 0, 1) := by decide +kernel
theorem kd_R_answer_17 : decode kc_R_answer 17 = .ok (.invokevirtual 68, 3) := by decide +kernel
theorem kd_R_answer_20 : decode kc_R_answer 20 = .ok (.ifCond .eq 4, 3) := by decide +kernel
theorem kd_R_answer_23 : decode kc_R_answer 23 = .ok (.return_, 1) := by decide +kernel
theorem kd_R_answer_24 : decode kc_R_answer 24 = .ok (.aload_n 0, 1) := by decide +kernel
theorem kd_R_answer_25 : decode kc_R_answer 25 = .ok (.getfield 54, 3) := by decide +kernel
theorem kd_R_answer_28 : decode kc_R_answer 28 = .ok (.aload_n 0, 1) := by decide +kernel
theorem kd_R_answer_29 : decode kc_R_answer 29 = .ok (.getfield 141, 3) := by decide +kernel
theorem kd_R_answer_32 : decode kc_R_answer 32 = .ok (.lload_n 1, 1) := by decide +kernel
theorem kd_R_answer_33 : decode kc_R_answer 33 = .ok (.lastore, 1) := by decide +kernel
theorem kd_R_answer_34 : decode kc_R_answer 34 = .ok (.aload_n 0, 1) := by decide +kernel
theorem kd_R_answer_35 : decode kc_R_answer 35 = .ok (.dup, 1) := by decide +kernel
theorem kd_R_answer_36 : decode kc_R_answer 36 = .ok (.getfield 141, 3) := by decide +kernel
theorem kd_R_answer_39 : decode kc_R_answer 39 = .ok (.iconst 1, 1) := by decide +kernel
theorem kd_R_answer_40 : decode kc_R_answer 40 = .ok (.iadd, 1) := by decide +kernel
theorem kd_R_answer_41 : decode kc_R_answer 41 = .ok (.putfield 141, 3) := by decide +kernel
theorem kd_R_answer_44 : decode kc_R_answer 44 = .ok (.return_, 1) := by decide +kernel
theorem kd_R_given_0 : decode kc_R_given 0 = .ok (.aload_n 0, 1) := by decide +kernel
theorem kd_R_given_1 : decode kc_R_given 1 = .ok (.aload_n 0, 1) := by decide +kernel
theorem kd_R_given_2 : decode kc_R_given 2 = .ok (.getfield 134, 3) := by decide +kernel
theorem kd_R_given_5 : decode kc_R_given 5 = .ok (.ifCond .ne 7, 3) := by decide +kernel
theorem kd_R_given_8 : decode kc_R_given 8 = .ok (.iconst 1, 1) := by decide +kernel
theorem kd_R_given_9 : decode kc_R_given 9 = .ok (.goto 4, 3) := by decide +kernel
theorem kd_R_given_12 : decode kc_R_given 12 = .ok (.iconst 0, 1) := by decide +kernel
theorem kd_R_given_13 : decode kc_R_given 13 = .ok (.iconst 0, 1) := by decide +kernel
theorem kd_R_given_14 : decode kc_R_given 14 = .ok (.iconst 0, 1) := by decide +kernel
theorem kd_R_given_15 : decode kc_R_given 15 = .ok (.invokevirtual 68, 3) := by decide +kernel
theorem kd_R_given_18 : decode kc_R_given 18 = .ok (.ifCond .eq 7, 3) := by decide +kernel
theorem kd_R_given_21 : decode kc_R_given 21 = .ok (.lconst 0, 1) := by decide +kernel
theorem kd_R_given_22 : decode kc_R_given 22 = .ok (.goto 7, 3) := by decide +kernel
theorem kd_R_given_25 : decode kc_R_given 25 = .ok (.aload_n 0, 1) := by decide +kernel
theorem kd_R_given_26 : decode kc_R_given 26 = .ok (.getfield 144, 3) := by decide +kernel
theorem kd_R_given_29 : decode kc_R_given 29 = .ok (.lreturn, 1) := by decide +kernel
theorem kd_R_calls_0 : decode kc_R_calls 0 = .ok (.aload_n 0, 1) := by decide +kernel
theorem kd_R_calls_1 : decode kc_R_calls 1 = .ok (.iconst 0, 1) := by decide +kernel
theorem kd_R_calls_2 : decode kc_R_calls 2 = .ok (.putfield 57, 3) := by decide +kernel
theorem kd_R_calls_5 : decode kc_R_calls 5 = .ok (.aload_n 0, 1) := by decide +kernel
theorem kd_R_calls_6 : decode kc_R_calls 6 = .ok (.getfield 134, 3) := by decide +kernel
theorem kd_R_calls_9 : decode kc_R_calls 9 = .ok (.ireturn, 1) := by decide +kernel
theorem kd_R_look_0 : decode kc_R_look 0 = .ok (.iload_n 2, 1) := by decide +kernel
theorem kd_R_look_1 : decode kc_R_look 1 = .ok (.iconst 3, 1) := by decide +kernel
theorem kd_R_look_2 : decode kc_R_look 2 = .ok (.invokestatic 64, 3) := by decide +kernel
theorem kd_R_look_5 : decode kc_R_look 5 = .ok (.istore_n 3, 1) := by decide +kernel
theorem kd_R_look_6 : decode kc_R_look 6 = .ok (.aload_n 0, 1) := by decide +kernel
theorem kd_R_look_7 : decode kc_R_look 7 = .ok (.iload_n 3, 1) := by decide +kernel
theorem kd_R_look_8 : decode kc_R_look 8 = .ok (.iload_n 3, 1) := by decide +kernel
theorem kd_R_look_9 : decode kc_R_look 9 = .ok (.ifCond .ne 15, 3) := by decide +kernel
theorem kd_R_look_12 : decode kc_R_look 12 = .ok (.aload_n 0, 1) := by decide +kernel
theorem kd_R_look_13 : decode kc_R_look 13 = .ok (.iload_n 1, 1) := by decide +kernel
theorem kd_R_look_14 : decode kc_R_look 14 = .ok (.invokevirtual 161, 3) := by decide +kernel
theorem kd_R_look_17 : decode kc_R_look 17 = .ok (.ifCond .eq 7, 3) := by decide +kernel
theorem kd_R_look_20 : decode kc_R_look 20 = .ok (.iconst 1, 1) := by decide +kernel
theorem kd_R_look_21 : decode kc_R_look 21 = .ok (.goto 4, 3) := by decide +kernel
theorem kd_R_look_24 : decode kc_R_look 24 = .ok (.iconst 0, 1) := by decide +kernel
theorem kd_R_look_25 : decode kc_R_look 25 = .ok (.iconst 0, 1) := by decide +kernel
theorem kd_R_look_26 : decode kc_R_look 26 = .ok (.invokevirtual 68, 3) := by decide +kernel
theorem kd_R_look_29 : decode kc_R_look 29 = .ok (.ifCond .eq 5, 3) := by decide +kernel
theorem kd_R_look_32 : decode kc_R_look 32 = .ok (.iconst 0, 1) := by decide +kernel
theorem kd_R_look_33 : decode kc_R_look 33 = .ok (.ireturn, 1) := by decide +kernel
theorem kd_R_look_34 : decode kc_R_look 34 = .ok (.iload_n 2, 1) := by decide +kernel
theorem kd_R_look_35 : decode kc_R_look 35 = .ok (.ifCond .ne 15, 3) := by decide +kernel
theorem kd_R_look_38 : decode kc_R_look 38 = .ok (.aload_n 0, 1) := by decide +kernel
theorem kd_R_look_39 : decode kc_R_look 39 = .ok (.getfield 42, 3) := by decide +kernel
theorem kd_R_look_42 : decode kc_R_look 42 = .ok (.iload_n 1, 1) := by decide +kernel
theorem kd_R_look_43 : decode kc_R_look 43 = .ok (.bipush 64, 2) := by decide +kernel
theorem kd_R_look_45 : decode kc_R_look 45 = .ok (.irem, 1) := by decide +kernel
theorem kd_R_look_46 : decode kc_R_look 46 = .ok (.iaload, 1) := by decide +kernel
theorem kd_R_look_47 : decode kc_R_look 47 = .ok (.goto 29, 3) := by decide +kernel
theorem kd_R_look_50 : decode kc_R_look 50 = .ok (.iload_n 2, 1) := by decide +kernel
theorem kd_R_look_51 : decode kc_R_look 51 = .ok (.iconst 1, 1) := by decide +kernel
theorem kd_R_look_52 : decode kc_R_look 52 = .ok (.if_icmp .ne 15, 3) := by decide +kernel
theorem kd_R_look_55 : decode kc_R_look 55 = .ok (.aload_n 0, 1) := by decide +kernel
theorem kd_R_look_56 : decode kc_R_look 56 = .ok (.getfield 45, 3) := by decide +kernel
theorem kd_R_look_59 : decode kc_R_look 59 = .ok (.iload_n 1, 1) := by decide +kernel
theorem kd_R_look_60 : decode kc_R_look 60 = .ok (.bipush 64, 2) := by decide +kernel
theorem kd_R_look_62 : decode kc_R_look 62 = .ok (.irem, 1) := by decide +kernel
theorem kd_R_look_63 : decode kc_R_look 63 = .ok (.iaload, 1) := by decide +kernel
theorem kd_R_look_64 : decode kc_R_look 64 = .ok (.goto 12, 3) := by decide +kernel
theorem kd_R_look_67 : decode kc_R_look 67 = .ok (.aload_n 0, 1) := by decide +kernel
theorem kd_R_look_68 : decode kc_R_look 68 = .ok (.getfield 48, 3) := by decide +kernel
theorem kd_R_look_71 : decode kc_R_look 71 = .ok (.iload_n 1, 1) := by decide +kernel
theorem kd_R_look_72 : decode kc_R_look 72 = .ok (.bipush 64, 2) := by decide +kernel
theorem kd_R_look_74 : decode kc_R_look 74 = .ok (.irem, 1) := by decide +kernel
theorem kd_R_look_75 : decode kc_R_look 75 = .ok (.iaload, 1) := by decide +kernel
theorem kd_R_look_76 : decode kc_R_look 76 = .ok (.ireturn, 1) := by decide +kernel
theorem kd_R_isGone_0 : decode kc_R_isGone 0 = .ok (.iload_n 1, 1) := by decide +kernel
theorem kd_R_isGone_1 : decode kc_R_isGone 1 = .ok (.ifCond .lt 22, 3) := by decide +kernel
theorem kd_R_isGone_4 : decode kc_R_isGone 4 = .ok (.iload_n 1, 1) := by decide +kernel
theorem kd_R_isGone_5 : decode kc_R_isGone 5 = .ok (.aload_n 0, 1) := by decide +kernel
theorem kd_R_isGone_6 : decode kc_R_isGone 6 = .ok (.getfield 134, 3) := by decide +kernel
theorem kd_R_isGone_9 : decode kc_R_isGone 9 = .ok (.if_icmp .ge 14, 3) := by decide +kernel
theorem kd_R_isGone_12 : decode kc_R_isGone 12 = .ok (.iload_n 1, 1) := by decide +kernel
theorem kd_R_isGone_13 : decode kc_R_isGone 13 = .ok (.bipush 64, 2) := by decide +kernel
theorem kd_R_isGone_15 : decode kc_R_isGone 15 = .ok (.iadd, 1) := by decide +kernel
theorem kd_R_isGone_16 : decode kc_R_isGone 16 = .ok (.aload_n 0, 1) := by decide +kernel
theorem kd_R_isGone_17 : decode kc_R_isGone 17 = .ok (.getfield 134, 3) := by decide +kernel
theorem kd_R_isGone_20 : decode kc_R_isGone 20 = .ok (.if_icmp .ge 7, 3) := by decide +kernel
theorem kd_R_isGone_23 : decode kc_R_isGone 23 = .ok (.iconst 1, 1) := by decide +kernel
theorem kd_R_isGone_24 : decode kc_R_isGone 24 = .ok (.goto 4, 3) := by decide +kernel
theorem kd_R_isGone_27 : decode kc_R_isGone 27 = .ok (.iconst 0, 1) := by decide +kernel
theorem kd_R_isGone_28 : decode kc_R_isGone 28 = .ok (.ireturn, 1) := by decide +kernel
theorem kd_R_converted_0 : decode kc_R_converted 0 = .ok (.aload_n 0, 1) := by decide +kernel
theorem kd_R_converted_1 : decode kc_R_converted 1 = .ok (.aload_n 0, 1) := by decide +kernel
theorem kd_R_converted_2 : decode kc_R_converted 2 = .ok (.iload_n 1, 1) := by decide +kernel
theorem kd_R_converted_3 : decode kc_R_converted 3 = .ok (.invokevirtual 161, 3) := by decide +kernel
theorem kd_R_converted_6 : decode kc_R_converted 6 = .ok (.ifCond .ne 19, 3) := by decide +kernel
theorem kd_R_converted_9 : decode kc_R_converted 9 = .ok (.iload_n 2, 1) := by decide +kernel
theorem kd_R_converted_10 : decode kc_R_converted 10 = .ok (.aload_n 0, 1) := by decide +kernel
theorem kd_R_converted_11 : decode kc_R_converted 11 = .ok (.getfield 48, 3) := by decide +kernel
theorem kd_R_converted_14 : decode kc_R_converted 14 = .ok (.iload_n 1, 1) := by decide +kernel
theorem kd_R_converted_15 : decode kc_R_converted 15 = .ok (.bipush 64, 2) := by decide +kernel
theorem kd_R_converted_17 : decode kc_R_converted 17 = .ok (.irem, 1) := by decide +kernel
theorem kd_R_converted_18 : decode kc_R_converted 18 = .ok (.iaload, 1) := by decide +kernel
theorem kd_R_converted_19 : decode kc_R_converted 19 = .ok (.invokestatic 64, 3) := by decide +kernel
theorem kd_R_converted_22 : decode kc_R_converted 22 = .ok (.ifCond .eq 7, 3) := by decide +kernel
theorem kd_R_converted_25 : decode kc_R_converted 25 = .ok (.iconst 1, 1) := by decide +kernel
theorem kd_R_converted_26 : decode kc_R_converted 26 = .ok (.goto 4, 3) := by decide +kernel
theorem kd_R_converted_29 : decode kc_R_converted 29 = .ok (.iconst 0, 1) := by decide +kernel
theorem kd_R_converted_30 : decode kc_R_converted 30 = .ok (.iconst 0, 1) := by decide +kernel
theorem kd_R_converted_31 : decode kc_R_converted 31 = .ok (.iconst 0, 1) := by decide +kernel
theorem kd_R_converted_32 : decode kc_R_converted 32 = .ok (.invokevirtual 68, 3) := by decide +kernel
theorem kd_R_converted_35 : decode kc_R_converted 35 = .ok (.ifCond .eq 7, 3) := by decide +kernel
theorem kd_R_converted_38 : decode kc_R_converted 38 = .ok (.lconst 0, 1) := by decide +kernel
theorem kd_R_converted_39 : decode kc_R_converted 39 = .ok (.goto 16, 3) := by decide +kernel
theorem kd_R_converted_42 : decode kc_R_converted 42 = .ok (.aload_n 0, 1) := by decide +kernel
theorem kd_R_converted_43 : decode kc_R_converted 43 = .ok (.getfield 51, 3) := by decide +kernel
theorem kd_R_converted_46 : decode kc_R_converted 46 = .ok (.iconst 4, 1) := by decide +kernel
theorem kd_R_converted_47 : decode kc_R_converted 47 = .ok (.iload_n 1, 1) := by decide +kernel
theorem kd_R_converted_48 : decode kc_R_converted 48 = .ok (.bipush 64, 2) := by decide +kernel
theorem kd_R_converted_50 : decode kc_R_converted 50 = .ok (.irem, 1) := by decide +kernel
theorem kd_R_converted_51 : decode kc_R_converted 51 = .ok (.imul, 1) := by decide +kernel
theorem kd_R_converted_52 : decode kc_R_converted 52 = .ok (.iload_n 2, 1) := by decide +kernel
theorem kd_R_converted_53 : decode kc_R_converted 53 = .ok (.iadd, 1) := by decide +kernel
theorem kd_R_converted_54 : decode kc_R_converted 54 = .ok (.laload, 1) := by decide +kernel
theorem kd_R_converted_55 : decode kc_R_converted 55 = .ok (.lreturn, 1) := by decide +kernel
