/-! DECODE ROWS (written by wip/gen/names.py) -/
theorem kd_A_init_0 : decode kc_A_init 0 = .ok (.aload_n 0, 1) := by decide +kernel
theorem kd_A_init_1 : decode kc_A_init 1 = .ok (.invokespecial 3, 3) := by decide +kernel
theorem kd_A_init_4 : decode kc_A_init 4 = .ok (.aload_n 0, 1) := by decide +kernel
theorem kd_A_init_5 : decode kc_A_init 5 = .ok (.iconst 4, 1) := by decide +kernel
theorem kd_A_init_6 : decode kc_A_init 6 = .ok (.newarray .int, 2) := by decide +kernel
theorem kd_A_init_8 : decode kc_A_init 8 = .ok (.putfield 9, 3) := by decide +kernel
theorem kd_A_init_11 : decode kc_A_init 11 = .ok (.aload_n 0, 1) := by decide +kernel
theorem kd_A_init_12 : decode kc_A_init 12 = .ok (.iconst 4, 1) := by decide +kernel
theorem kd_A_init_13 : decode kc_A_init 13 = .ok (.newarray .int, 2) := by decide +kernel
theorem kd_A_init_15 : decode kc_A_init 15 = .ok (.putfield 15, 3) := by decide +kernel
theorem kd_A_init_18 : decode kc_A_init 18 = .ok (.aload_n 0, 1) := by decide +kernel
theorem kd_A_init_19 : decode kc_A_init 19 = .ok (.iconst 4, 1) := by decide +kernel
theorem kd_A_init_20 : decode kc_A_init 20 = .ok (.newarray .long, 2) := by decide +kernel
theorem kd_A_init_22 : decode kc_A_init 22 = .ok (.putfield 18, 3) := by decide +kernel
theorem kd_A_init_25 : decode kc_A_init 25 = .ok (.aload_n 0, 1) := by decide +kernel
theorem kd_A_init_26 : decode kc_A_init 26 = .ok (.aload_n 1, 1) := by decide +kernel
theorem kd_A_init_27 : decode kc_A_init 27 = .ok (.putfield 22, 3) := by decide +kernel
theorem kd_A_init_30 : decode kc_A_init 30 = .ok (.return_, 1) := by decide +kernel
theorem kd_C_init_0 : decode kc_C_init 0 = .ok (.aload_n 0, 1) := by decide +kernel
theorem kd_C_init_1 : decode kc_C_init 1 = .ok (.invokespecial 3, 3) := by decide +kernel
theorem kd_C_init_4 : decode kc_C_init 4 = .ok (.aload_n 0, 1) := by decide +kernel
theorem kd_C_init_5 : decode kc_C_init 5 = .ok (.bipush 64, 2) := by decide +kernel
theorem kd_C_init_7 : decode kc_C_init 7 = .ok (.newarray .int, 2) := by decide +kernel
theorem kd_C_init_9 : decode kc_C_init 9 = .ok (.putfield 9, 3) := by decide +kernel
theorem kd_C_init_12 : decode kc_C_init 12 = .ok (.aload_n 0, 1) := by decide +kernel
theorem kd_C_init_13 : decode kc_C_init 13 = .ok (.iconst 4, 1) := by decide +kernel
theorem kd_C_init_14 : decode kc_C_init 14 = .ok (.newarray .int, 2) := by decide +kernel
theorem kd_C_init_16 : decode kc_C_init 16 = .ok (.putfield 15, 3) := by decide +kernel
theorem kd_C_init_19 : decode kc_C_init 19 = .ok (.aload_n 0, 1) := by decide +kernel
theorem kd_C_init_20 : decode kc_C_init 20 = .ok (.aload_n 1, 1) := by decide +kernel
theorem kd_C_init_21 : decode kc_C_init 21 = .ok (.putfield 18, 3) := by decide +kernel
theorem kd_C_init_24 : decode kc_C_init 24 = .ok (.aload_n 0, 1) := by decide +kernel
theorem kd_C_init_25 : decode kc_C_init 25 = .ok (.aload_n 2, 1) := by decide +kernel
theorem kd_C_init_26 : decode kc_C_init 26 = .ok (.putfield 22, 3) := by decide +kernel
theorem kd_C_init_29 : decode kc_C_init 29 = .ok (.aload_n 0, 1) := by decide +kernel
theorem kd_C_init_30 : decode kc_C_init 30 = .ok (.aload_n 3, 1) := by decide +kernel
theorem kd_C_init_31 : decode kc_C_init 31 = .ok (.putfield 26, 3) := by decide +kernel
theorem kd_C_init_34 : decode kc_C_init 34 = .ok (.return_, 1) := by decide +kernel
theorem kd_D_init_0 : decode kc_D_init 0 = .ok (.aload_n 0, 1) := by decide +kernel
theorem kd_D_init_1 : decode kc_D_init 1 = .ok (.invokespecial 3, 3) := by decide +kernel
theorem kd_D_init_4 : decode kc_D_init 4 = .ok (.aload_n 0, 1) := by decide +kernel
theorem kd_D_init_5 : decode kc_D_init 5 = .ok (.bipush 64, 2) := by decide +kernel
theorem kd_D_init_7 : decode kc_D_init 7 = .ok (.newarray .int, 2) := by decide +kernel
theorem kd_D_init_9 : decode kc_D_init 9 = .ok (.putfield 9, 3) := by decide +kernel
theorem kd_D_init_12 : decode kc_D_init 12 = .ok (.aload_n 0, 1) := by decide +kernel
theorem kd_D_init_13 : decode kc_D_init 13 = .ok (.bipush 64, 2) := by decide +kernel
theorem kd_D_init_15 : decode kc_D_init 15 = .ok (.newarray .int, 2) := by decide +kernel
theorem kd_D_init_17 : decode kc_D_init 17 = .ok (.putfield 15, 3) := by decide +kernel
theorem kd_D_init_20 : decode kc_D_init 20 = .ok (.aload_n 0, 1) := by decide +kernel
theorem kd_D_init_21 : decode kc_D_init 21 = .ok (.bipush 64, 2) := by decide +kernel
theorem kd_D_init_23 : decode kc_D_init 23 = .ok (.newarray .int, 2) := by decide +kernel
theorem kd_D_init_25 : decode kc_D_init 25 = .ok (.putfield 18, 3) := by decide +kernel
theorem kd_D_init_28 : decode kc_D_init 28 = .ok (.aload_n 0, 1) := by decide +kernel
theorem kd_D_init_29 : decode kc_D_init 29 = .ok (.sipush 256, 3) := by decide +kernel
theorem kd_D_init_32 : decode kc_D_init 32 = .ok (.newarray .long, 2) := by decide +kernel
theorem kd_D_init_34 : decode kc_D_init 34 = .ok (.putfield 21, 3) := by decide +kernel
theorem kd_D_init_37 : decode kc_D_init 37 = .ok (.return_, 1) := by decide +kernel
theorem kd_S_init_0 : decode kc_S_init 0 = .ok (.aload_n 0, 1) := by decide +kernel
theorem kd_S_init_1 : decode kc_S_init 1 = .ok (.invokespecial 3, 3) := by decide +kernel
theorem kd_S_init_4 : decode kc_S_init 4 = .ok (.aload_n 0, 1) := by decide +kernel
theorem kd_S_init_5 : decode kc_S_init 5 = .ok (.bipush 64, 2) := by decide +kernel
theorem kd_S_init_7 : decode kc_S_init 7 = .ok (.newarray .long, 2) := by decide +kernel
theorem kd_S_init_9 : decode kc_S_init 9 = .ok (.putfield 9, 3) := by decide +kernel
theorem kd_S_init_12 : decode kc_S_init 12 = .ok (.return_, 1) := by decide +kernel
theorem kd_A_add_0 : decode kc_A_add 0 = .ok (.aload_n 0, 1) := by decide +kernel
theorem kd_A_add_1 : decode kc_A_add 1 = .ok (.getfield 9, 3) := by decide +kernel
theorem kd_A_add_4 : decode kc_A_add 4 = .ok (.aload_n 0, 1) := by decide +kernel
theorem kd_A_add_5 : decode kc_A_add 5 = .ok (.getfield 26, 3) := by decide +kernel
theorem kd_A_add_8 : decode kc_A_add 8 = .ok (.iload_n 1, 1) := by decide +kernel
theorem kd_A_add_9 : decode kc_A_add 9 = .ok (.iastore, 1) := by decide +kernel
theorem kd_A_add_10 : decode kc_A_add 10 = .ok (.aload_n 0, 1) := by decide +kernel
theorem kd_A_add_11 : decode kc_A_add 11 = .ok (.getfield 15, 3) := by decide +kernel
theorem kd_A_add_14 : decode kc_A_add 14 = .ok (.aload_n 0, 1) := by decide +kernel
theorem kd_A_add_15 : decode kc_A_add 15 = .ok (.getfield 26, 3) := by decide +kernel
theorem kd_A_add_18 : decode kc_A_add 18 = .ok (.iload_n 1, 1) := by decide +kernel
theorem kd_A_add_19 : decode kc_A_add 19 = .ok (.lload_n 2, 1) := by decide +kernel
theorem kd_A_add_20 : decode kc_A_add 20 = .ok (.invokestatic 30, 3) := by decide +kernel
theorem kd_A_add_23 : decode kc_A_add 23 = .ok (.iastore, 1) := by decide +kernel
theorem kd_A_add_24 : decode kc_A_add 24 = .ok (.aload_n 0, 1) := by decide +kernel
theorem kd_A_add_25 : decode kc_A_add 25 = .ok (.getfield 18, 3) := by decide +kernel
theorem kd_A_add_28 : decode kc_A_add 28 = .ok (.aload_n 0, 1) := by decide +kernel
theorem kd_A_add_29 : decode kc_A_add 29 = .ok (.getfield 26, 3) := by decide +kernel
theorem kd_A_add_32 : decode kc_A_add 32 = .ok (.lload_n 2, 1) := by decide +kernel
theorem kd_A_add_33 : decode kc_A_add 33 = .ok (.lastore, 1) := by decide +kernel
theorem kd_A_add_34 : decode kc_A_add 34 = .ok (.aload_n 0, 1) := by decide +kernel
theorem kd_A_add_35 : decode kc_A_add 35 = .ok (.dup, 1) := by decide +kernel
theorem kd_A_add_36 : decode kc_A_add 36 = .ok (.getfield 26, 3) := by decide +kernel
theorem kd_A_add_39 : decode kc_A_add 39 = .ok (.iconst 1, 1) := by decide +kernel
theorem kd_A_add_40 : decode kc_A_add 40 = .ok (.iadd, 1) := by decide +kernel
theorem kd_A_add_41 : decode kc_A_add 41 = .ok (.putfield 26, 3) := by decide +kernel
theorem kd_A_add_44 : decode kc_A_add 44 = .ok (.aload_n 0, 1) := by decide +kernel
theorem kd_A_add_45 : decode kc_A_add 45 = .ok (.getfield 26, 3) := by decide +kernel
theorem kd_A_add_48 : decode kc_A_add 48 = .ok (.ireturn, 1) := by decide +kernel
theorem kd_A_sortOf_0 : decode kc_A_sortOf 0 = .ok (.iload_n 0, 1) := by decide +kernel
theorem kd_A_sortOf_1 : decode kc_A_sortOf 1 = .ok (.iconst 3, 1) := by decide +kernel
theorem kd_A_sortOf_2 : decode kc_A_sortOf 2 = .ok (.if_icmp .eq 5, 3) := by decide +kernel
theorem kd_A_sortOf_5 : decode kc_A_sortOf 5 = .ok (.iload_n 0, 1) := by decide +kernel
theorem kd_A_sortOf_6 : decode kc_A_sortOf 6 = .ok (.ireturn, 1) := by decide +kernel
theorem kd_A_sortOf_7 : decode kc_A_sortOf 7 = .ok (.lload_n 1, 1) := by decide +kernel
theorem kd_A_sortOf_8 : decode kc_A_sortOf 8 = .ok (.invokestatic 34, 3) := by decide +kernel
theorem kd_A_sortOf_11 : decode kc_A_sortOf 11 = .ok (.ifCond .eq 6, 3) := by decide +kernel
theorem kd_A_sortOf_14 : decode kc_A_sortOf 14 = .ok (.bipush 7, 2) := by decide +kernel
theorem kd_A_sortOf_16 : decode kc_A_sortOf 16 = .ok (.ireturn, 1) := by decide +kernel
theorem kd_A_sortOf_17 : decode kc_A_sortOf 17 = .ok (.lload_n 1, 1) := by decide +kernel
theorem kd_A_sortOf_18 : decode kc_A_sortOf 18 = .ok (.invokestatic 40, 3) := by decide +kernel
theorem kd_A_sortOf_21 : decode kc_A_sortOf 21 = .ok (.ifCond .eq 8, 3) := by decide +kernel
theorem kd_A_sortOf_24 : decode kc_A_sortOf 24 = .ok (.bipush 8, 2) := by decide +kernel
theorem kd_A_sortOf_26 : decode kc_A_sortOf 26 = .ok (.goto 4, 3) := by decide +kernel
theorem kd_A_sortOf_29 : decode kc_A_sortOf 29 = .ok (.iconst 3, 1) := by decide +kernel
theorem kd_A_sortOf_30 : decode kc_A_sortOf 30 = .ok (.ireturn, 1) := by decide +kernel
theorem kd_N_isInt_0 : decode kc_N_isInt 0 = .ok (.lload_n 0, 1) := by decide +kernel
theorem kd_N_isInt_1 : decode kc_N_isInt 1 = .ok (.ldc2_w 9, 3) := by decide +kernel
theorem kd_N_isInt_4 : decode kc_N_isInt 4 = .ok (.lcmp, 1) := by decide +kernel
theorem kd_N_isInt_5 : decode kc_N_isInt 5 = .ok (.ifCond .eq 10, 3) := by decide +kernel
theorem kd_N_isInt_8 : decode kc_N_isInt 8 = .ok (.lload_n 0, 1) := by decide +kernel
theorem kd_N_isInt_9 : decode kc_N_isInt 9 = .ok (.invokestatic 11, 3) := by decide +kernel
theorem kd_N_isInt_12 : decode kc_N_isInt 12 = .ok (.ifCond .ne 5, 3) := by decide +kernel
theorem kd_N_isInt_15 : decode kc_N_isInt 15 = .ok (.iconst 0, 1) := by decide +kernel
theorem kd_N_isInt_16 : decode kc_N_isInt 16 = .ok (.ireturn, 1) := by decide +kernel
theorem kd_N_isInt_17 : decode kc_N_isInt 17 = .ok (.lload_n 0, 1) := by decide +kernel
theorem kd_N_isInt_18 : decode kc_N_isInt 18 = .ok (.invokestatic 15, 3) := by decide +kernel
theorem kd_N_isInt_21 : decode kc_N_isInt 21 = .ok (.lstore_n 2, 1) := by decide +kernel
theorem kd_N_isInt_22 : decode kc_N_isInt 22 = .ok (.lload_n 2, 1) := by decide +kernel
theorem kd_N_isInt_23 : decode kc_N_isInt 23 = .ok (.lload_n 2, 1) := by decide +kernel
theorem kd_N_isInt_24 : decode kc_N_isInt 24 = .ok (.l2i, 1) := by decide +kernel
theorem kd_N_isInt_25 : decode kc_N_isInt 25 = .ok (.i2l, 1) := by decide +kernel
theorem kd_N_isInt_26 : decode kc_N_isInt 26 = .ok (.lcmp, 1) := by decide +kernel
theorem kd_N_isInt_27 : decode kc_N_isInt 27 = .ok (.ifCond .ne 7, 3) := by decide +kernel
theorem kd_N_isInt_30 : decode kc_N_isInt 30 = .ok (.iconst 1, 1) := by decide +kernel
theorem kd_N_isInt_31 : decode kc_N_isInt 31 = .ok (.goto 4, 3) := by decide +kernel
theorem kd_N_isInt_34 : decode kc_N_isInt 34 = .ok (.iconst 0, 1) := by decide +kernel
theorem kd_N_isInt_35 : decode kc_N_isInt 35 = .ok (.ireturn, 1) := by decide +kernel
theorem kd_N_isLong_0 : decode kc_N_isLong 0 = .ok (.lload_n 0, 1) := by decide +kernel
theorem kd_N_isLong_1 : decode kc_N_isLong 1 = .ok (.invokestatic 19, 3) := by decide +kernel
theorem kd_N_isLong_4 : decode kc_N_isLong 4 = .ok (.ifCond .eq 5, 3) := by decide +kernel
theorem kd_N_isLong_7 : decode kc_N_isLong 7 = .ok (.iconst 1, 1) := by decide +kernel
theorem kd_N_isLong_8 : decode kc_N_isLong 8 = .ok (.ireturn, 1) := by decide +kernel
theorem kd_N_isLong_9 : decode kc_N_isLong 9 = .ok (.lload_n 0, 1) := by decide +kernel
theorem kd_N_isLong_10 : decode kc_N_isLong 10 = .ok (.invokestatic 22, 3) := by decide +kernel
theorem kd_N_isLong_13 : decode kc_N_isLong 13 = .ok (.istore_n 2, 1) := by decide +kernel
theorem kd_N_isLong_14 : decode kc_N_isLong 14 = .ok (.iload_n 2, 1) := by decide +kernel
theorem kd_N_isLong_15 : decode kc_N_isLong 15 = .ok (.ifCond .lt 9, 3) := by decide +kernel
theorem kd_N_isLong_18 : decode kc_N_isLong 18 = .ok (.iload_n 2, 1) := by decide +kernel
theorem kd_N_isLong_19 : decode kc_N_isLong 19 = .ok (.bipush 53, 2) := by decide +kernel
theorem kd_N_isLong_21 : decode kc_N_isLong 21 = .ok (.if_icmp .le 5, 3) := by decide +kernel
theorem kd_N_isLong_24 : decode kc_N_isLong 24 = .ok (.iconst 0, 1) := by decide +kernel
theorem kd_N_isLong_25 : decode kc_N_isLong 25 = .ok (.ireturn, 1) := by decide +kernel
theorem kd_N_isLong_26 : decode kc_N_isLong 26 = .ok (.iload_n 2, 1) := by decide +kernel
theorem kd_N_isLong_27 : decode kc_N_isLong 27 = .ok (.bipush 53, 2) := by decide +kernel
theorem kd_N_isLong_29 : decode kc_N_isLong 29 = .ok (.if_icmp .ne 18, 3) := by decide +kernel
theorem kd_N_isLong_32 : decode kc_N_isLong 32 = .ok (.lload_n 0, 1) := by decide +kernel
theorem kd_N_isLong_33 : decode kc_N_isLong 33 = .ok (.invokestatic 26, 3) := by decide +kernel
theorem kd_N_isLong_36 : decode kc_N_isLong 36 = .ok (.lconst 0, 1) := by decide +kernel
theorem kd_N_isLong_37 : decode kc_N_isLong 37 = .ok (.lcmp, 1) := by decide +kernel
theorem kd_N_isLong_38 : decode kc_N_isLong 38 = .ok (.ifCond .ne 7, 3) := by decide +kernel
theorem kd_N_isLong_41 : decode kc_N_isLong 41 = .ok (.iconst 1, 1) := by decide +kernel
theorem kd_N_isLong_42 : decode kc_N_isLong 42 = .ok (.goto 4, 3) := by decide +kernel
theorem kd_N_isLong_45 : decode kc_N_isLong 45 = .ok (.iconst 0, 1) := by decide +kernel
theorem kd_N_isLong_46 : decode kc_N_isLong 46 = .ok (.ireturn, 1) := by decide +kernel
theorem kd_N_isLong_47 : decode kc_N_isLong 47 = .ok (.lconst 1, 1) := by decide +kernel
theorem kd_N_isLong_48 : decode kc_N_isLong 48 = .ok (.bipush 52, 2) := by decide +kernel
theorem kd_N_isLong_50 : decode kc_N_isLong 50 = .ok (.iload_n 2, 1) := by decide +kernel
theorem kd_N_isLong_51 : decode kc_N_isLong 51 = .ok (.isub, 1) := by decide +kernel
theorem kd_N_isLong_52 : decode kc_N_isLong 52 = .ok (.lshl, 1) := by decide +kernel
theorem kd_N_isLong_53 : decode kc_N_isLong 53 = .ok (.lconst 1, 1) := by decide +kernel
theorem kd_N_isLong_54 : decode kc_N_isLong 54 = .ok (.lsub, 1) := by decide +kernel
theorem kd_N_isLong_55 : decode kc_N_isLong 55 = .ok (.lstore_n 3, 1) := by decide +kernel
theorem kd_N_isLong_56 : decode kc_N_isLong 56 = .ok (.lload_n 0, 1) := by decide +kernel
theorem kd_N_isLong_57 : decode kc_N_isLong 57 = .ok (.invokestatic 26, 3) := by decide +kernel
theorem kd_N_isLong_60 : decode kc_N_isLong 60 = .ok (.lload_n 3, 1) := by decide +kernel
theorem kd_N_isLong_61 : decode kc_N_isLong 61 = .ok (.land, 1) := by decide +kernel
theorem kd_N_isLong_62 : decode kc_N_isLong 62 = .ok (.lconst 0, 1) := by decide +kernel
theorem kd_N_isLong_63 : decode kc_N_isLong 63 = .ok (.lcmp, 1) := by decide +kernel
theorem kd_N_isLong_64 : decode kc_N_isLong 64 = .ok (.ifCond .ne 7, 3) := by decide +kernel
theorem kd_N_isLong_67 : decode kc_N_isLong 67 = .ok (.iconst 1, 1) := by decide +kernel
theorem kd_N_isLong_68 : decode kc_N_isLong 68 = .ok (.goto 4, 3) := by decide +kernel
theorem kd_N_isLong_71 : decode kc_N_isLong 71 = .ok (.iconst 0, 1) := by decide +kernel
theorem kd_N_isLong_72 : decode kc_N_isLong 72 = .ok (.ireturn, 1) := by decide +kernel
theorem kd_N_isZero_0 : decode kc_N_isZero 0 = .ok (.lload_n 0, 1) := by decide +kernel
theorem kd_N_isZero_1 : decode kc_N_isZero 1 = .ok (.invokestatic 34, 3) := by decide +kernel
theorem kd_N_isZero_4 : decode kc_N_isZero 4 = .ok (.lconst 0, 1) := by decide +kernel
theorem kd_N_isZero_5 : decode kc_N_isZero 5 = .ok (.lcmp, 1) := by decide +kernel
theorem kd_N_isZero_6 : decode kc_N_isZero 6 = .ok (.ifCond .ne 7, 3) := by decide +kernel
theorem kd_N_isZero_9 : decode kc_N_isZero 9 = .ok (.iconst 1, 1) := by decide +kernel
theorem kd_N_isZero_10 : decode kc_N_isZero 10 = .ok (.goto 4, 3) := by decide +kernel
theorem kd_N_isZero_13 : decode kc_N_isZero 13 = .ok (.iconst 0, 1) := by decide +kernel
theorem kd_N_isZero_14 : decode kc_N_isZero 14 = .ok (.ireturn, 1) := by decide +kernel
theorem kd_N_withoutSign_0 : decode kc_N_withoutSign 0 = .ok (.lload_n 0, 1) := by decide +kernel
theorem kd_N_withoutSign_1 : decode kc_N_withoutSign 1 = .ok (.ldc2_w 39, 3) := by decide +kernel
theorem kd_N_withoutSign_4 : decode kc_N_withoutSign 4 = .ok (.land, 1) := by decide +kernel
theorem kd_N_withoutSign_5 : decode kc_N_withoutSign 5 = .ok (.lreturn, 1) := by decide +kernel
theorem kd_N_powerOf_0 : decode kc_N_powerOf 0 = .ok (.lload_n 0, 1) := by decide +kernel
theorem kd_N_powerOf_1 : decode kc_N_powerOf 1 = .ok (.bipush 52, 2) := by decide +kernel
theorem kd_N_powerOf_3 : decode kc_N_powerOf 3 = .ok (.lushr, 1) := by decide +kernel
theorem kd_N_powerOf_4 : decode kc_N_powerOf 4 = .ok (.ldc2_w 41, 3) := by decide +kernel
theorem kd_N_powerOf_7 : decode kc_N_powerOf 7 = .ok (.land, 1) := by decide +kernel
theorem kd_N_powerOf_8 : decode kc_N_powerOf 8 = .ok (.l2i, 1) := by decide +kernel
theorem kd_N_powerOf_9 : decode kc_N_powerOf 9 = .ok (.sipush 1023, 3) := by decide +kernel
theorem kd_N_powerOf_12 : decode kc_N_powerOf 12 = .ok (.isub, 1) := by decide +kernel
theorem kd_N_powerOf_13 : decode kc_N_powerOf 13 = .ok (.ireturn, 1) := by decide +kernel
theorem kd_N_fractionOf_0 : decode kc_N_fractionOf 0 = .ok (.lload_n 0, 1) := by decide +kernel
theorem kd_N_fractionOf_1 : decode kc_N_fractionOf 1 = .ok (.ldc2_w 43, 3) := by decide +kernel
theorem kd_N_fractionOf_4 : decode kc_N_fractionOf 4 = .ok (.land, 1) := by decide +kernel
theorem kd_N_fractionOf_5 : decode kc_N_fractionOf 5 = .ok (.lreturn, 1) := by decide +kernel
theorem kd_N_wholeOf_0 : decode kc_N_wholeOf 0 = .ok (.lload_n 0, 1) := by decide +kernel
theorem kd_N_wholeOf_1 : decode kc_N_wholeOf 1 = .ok (.invokestatic 19, 3) := by decide +kernel
theorem kd_N_wholeOf_4 : decode kc_N_wholeOf 4 = .ok (.ifCond .eq 5, 3) := by decide +kernel
theorem kd_N_wholeOf_7 : decode kc_N_wholeOf 7 = .ok (.lconst 0, 1) := by decide +kernel
theorem kd_N_wholeOf_8 : decode kc_N_wholeOf 8 = .ok (.lreturn, 1) := by decide +kernel
theorem kd_N_wholeOf_9 : decode kc_N_wholeOf 9 = .ok (.lload_n 0, 1) := by decide +kernel
theorem kd_N_wholeOf_10 : decode kc_N_wholeOf 10 = .ok (.invokestatic 26, 3) := by decide +kernel
theorem kd_N_wholeOf_13 : decode kc_N_wholeOf 13 = .ok (.ldc2_w 29, 3) := by decide +kernel
theorem kd_N_wholeOf_16 : decode kc_N_wholeOf 16 = .ok (.lor, 1) := by decide +kernel
theorem kd_N_wholeOf_17 : decode kc_N_wholeOf 17 = .ok (.lstore_n 2, 1) := by decide +kernel
theorem kd_N_wholeOf_18 : decode kc_N_wholeOf 18 = .ok (.lload_n 0, 1) := by decide +kernel
theorem kd_N_wholeOf_19 : decode kc_N_wholeOf 19 = .ok (.invokestatic 22, 3) := by decide +kernel
theorem kd_N_wholeOf_22 : decode kc_N_wholeOf 22 = .ok (.istore 4, 2) := by decide +kernel
theorem kd_N_wholeOf_24 : decode kc_N_wholeOf 24 = .ok (.iload 4, 2) := by decide +kernel
theorem kd_N_wholeOf_26 : decode kc_N_wholeOf 26 = .ok (.bipush 52, 2) := by decide +kernel
theorem kd_N_wholeOf_28 : decode kc_N_wholeOf 28 = .ok (.if_icmp .le 13, 3) := by decide +kernel
theorem kd_N_wholeOf_31 : decode kc_N_wholeOf 31 = .ok (.lload_n 2, 1) := by decide +kernel
theorem kd_N_wholeOf_32 : decode kc_N_wholeOf 32 = .ok (.iload 4, 2) := by decide +kernel
theorem kd_N_wholeOf_34 : decode kc_N_wholeOf 34 = .ok (.bipush 52, 2) := by decide +kernel
theorem kd_N_wholeOf_36 : decode kc_N_wholeOf 36 = .ok (.isub, 1) := by decide +kernel
theorem kd_N_wholeOf_37 : decode kc_N_wholeOf 37 = .ok (.lshl, 1) := by decide +kernel
theorem kd_N_wholeOf_38 : decode kc_N_wholeOf 38 = .ok (.goto 10, 3) := by decide +kernel
theorem kd_N_wholeOf_41 : decode kc_N_wholeOf 41 = .ok (.lload_n 2, 1) := by decide +kernel
theorem kd_N_wholeOf_42 : decode kc_N_wholeOf 42 = .ok (.bipush 52, 2) := by decide +kernel
theorem kd_N_wholeOf_44 : decode kc_N_wholeOf 44 = .ok (.iload 4, 2) := by decide +kernel
theorem kd_N_wholeOf_46 : decode kc_N_wholeOf 46 = .ok (.isub, 1) := by decide +kernel
theorem kd_N_wholeOf_47 : decode kc_N_wholeOf 47 = .ok (.lushr, 1) := by decide +kernel
theorem kd_N_wholeOf_48 : decode kc_N_wholeOf 48 = .ok (.lstore 5, 2) := by decide +kernel
theorem kd_N_wholeOf_50 : decode kc_N_wholeOf 50 = .ok (.lload_n 0, 1) := by decide +kernel
theorem kd_N_wholeOf_51 : decode kc_N_wholeOf 51 = .ok (.lconst 0, 1) := by decide +kernel
theorem kd_N_wholeOf_52 : decode kc_N_wholeOf 52 = .ok (.lcmp, 1) := by decide +kernel
theorem kd_N_wholeOf_53 : decode kc_N_wholeOf 53 = .ok (.ifCond .ge 9, 3) := by decide +kernel
theorem kd_N_wholeOf_56 : decode kc_N_wholeOf 56 = .ok (.lload 5, 2) := by decide +kernel
theorem kd_N_wholeOf_58 : decode kc_N_wholeOf 58 = .ok (.lneg, 1) := by decide +kernel
theorem kd_N_wholeOf_59 : decode kc_N_wholeOf 59 = .ok (.goto 5, 3) := by decide +kernel
theorem kd_N_wholeOf_62 : decode kc_N_wholeOf 62 = .ok (.lload 5, 2) := by decide +kernel
theorem kd_N_wholeOf_64 : decode kc_N_wholeOf 64 = .ok (.lreturn, 1) := by decide +kernel
theorem kd_A_weightFor_0 : decode kc_A_weightFor 0 = .ok (.iload_n 2, 1) := by decide +kernel
theorem kd_A_weightFor_1 : decode kc_A_weightFor 1 = .ok (.bipush 6, 2) := by decide +kernel
theorem kd_A_weightFor_3 : decode kc_A_weightFor 3 = .ok (.if_icmp .ge 19, 3) := by decide +kernel
theorem kd_A_weightFor_6 : decode kc_A_weightFor 6 = .ok (.getstatic 51, 3) := by decide +kernel
theorem kd_A_weightFor_9 : decode kc_A_weightFor 9 = .ok (.aload_n 0, 1) := by decide +kernel
theorem kd_A_weightFor_10 : decode kc_A_weightFor 10 = .ok (.getfield 15, 3) := by decide +kernel
theorem kd_A_weightFor_13 : decode kc_A_weightFor 13 = .ok (.iload_n 1, 1) := by decide +kernel
theorem kd_A_weightFor_14 : decode kc_A_weightFor 14 = .ok (.iaload, 1) := by decide +kernel
theorem kd_A_weightFor_15 : decode kc_A_weightFor 15 = .ok (.bipush 7, 2) := by decide +kernel
theorem kd_A_weightFor_17 : decode kc_A_weightFor 17 = .ok (.imul, 1) := by decide +kernel
theorem kd_A_weightFor_18 : decode kc_A_weightFor 18 = .ok (.iload_n 2, 1) := by decide +kernel
theorem kd_A_weightFor_19 : decode kc_A_weightFor 19 = .ok (.iadd, 1) := by decide +kernel
theorem kd_A_weightFor_20 : decode kc_A_weightFor 20 = .ok (.iaload, 1) := by decide +kernel
theorem kd_A_weightFor_21 : decode kc_A_weightFor 21 = .ok (.ireturn, 1) := by decide +kernel
theorem kd_A_weightFor_22 : decode kc_A_weightFor 22 = .ok (.aload_n 0, 1) := by decide +kernel
theorem kd_A_weightFor_23 : decode kc_A_weightFor 23 = .ok (.getfield 9, 3) := by decide +kernel
theorem kd_A_weightFor_26 : decode kc_A_weightFor 26 = .ok (.iload_n 1, 1) := by decide +kernel
theorem kd_A_weightFor_27 : decode kc_A_weightFor 27 = .ok (.iaload, 1) := by decide +kernel
theorem kd_A_weightFor_28 : decode kc_A_weightFor 28 = .ok (.iconst 5, 1) := by decide +kernel
theorem kd_A_weightFor_29 : decode kc_A_weightFor 29 = .ok (.if_icmp .ne 30, 3) := by decide +kernel
theorem kd_A_weightFor_32 : decode kc_A_weightFor 32 = .ok (.aload_n 0, 1) := by decide +kernel
theorem kd_A_weightFor_33 : decode kc_A_weightFor 33 = .ok (.getfield 22, 3) := by decide +kernel
theorem kd_A_weightFor_36 : decode kc_A_weightFor 36 = .ok (.aload_n 0, 1) := by decide +kernel
theorem kd_A_weightFor_37 : decode kc_A_weightFor 37 = .ok (.getfield 22, 3) := by decide +kernel
theorem kd_A_weightFor_40 : decode kc_A_weightFor 40 = .ok (.getfield 54, 3) := by decide +kernel
theorem kd_A_weightFor_43 : decode kc_A_weightFor 43 = .ok (.aload_n 0, 1) := by decide +kernel
theorem kd_A_weightFor_44 : decode kc_A_weightFor 44 = .ok (.getfield 18, 3) := by decide +kernel
theorem kd_A_weightFor_47 : decode kc_A_weightFor 47 = .ok (.iload_n 1, 1) := by decide +kernel
theorem kd_A_weightFor_48 : decode kc_A_weightFor 48 = .ok (.laload, 1) := by decide +kernel
theorem kd_A_weightFor_49 : decode kc_A_weightFor 49 = .ok (.l2i, 1) := by decide +kernel
theorem kd_A_weightFor_50 : decode kc_A_weightFor 50 = .ok (.iaload, 1) := by decide +kernel
theorem kd_A_weightFor_51 : decode kc_A_weightFor 51 = .ok (.iload_n 2, 1) := by decide +kernel
theorem kd_A_weightFor_52 : decode kc_A_weightFor 52 = .ok (.bipush 6, 2) := by decide +kernel
theorem kd_A_weightFor_54 : decode kc_A_weightFor 54 = .ok (.isub, 1) := by decide +kernel
theorem kd_A_weightFor_55 : decode kc_A_weightFor 55 = .ok (.invokevirtual 59, 3) := by decide +kernel
theorem kd_A_weightFor_58 : decode kc_A_weightFor 58 = .ok (.ireturn, 1) := by decide +kernel
theorem kd_A_weightFor_59 : decode kc_A_weightFor 59 = .ok (.getstatic 51, 3) := by decide +kernel
theorem kd_A_weightFor_62 : decode kc_A_weightFor 62 = .ok (.aload_n 0, 1) := by decide +kernel
theorem kd_A_weightFor_63 : decode kc_A_weightFor 63 = .ok (.getfield 15, 3) := by decide +kernel
theorem kd_A_weightFor_66 : decode kc_A_weightFor 66 = .ok (.iload_n 1, 1) := by decide +kernel
theorem kd_A_weightFor_67 : decode kc_A_weightFor 67 = .ok (.iaload, 1) := by decide +kernel
theorem kd_A_weightFor_68 : decode kc_A_weightFor 68 = .ok (.bipush 7, 2) := by decide +kernel
theorem kd_A_weightFor_70 : decode kc_A_weightFor 70 = .ok (.imul, 1) := by decide +kernel
theorem kd_A_weightFor_71 : decode kc_A_weightFor 71 = .ok (.bipush 6, 2) := by decide +kernel
theorem kd_A_weightFor_73 : decode kc_A_weightFor 73 = .ok (.iadd, 1) := by decide +kernel
theorem kd_A_weightFor_74 : decode kc_A_weightFor 74 = .ok (.iaload, 1) := by decide +kernel
theorem kd_A_weightFor_75 : decode kc_A_weightFor 75 = .ok (.ireturn, 1) := by decide +kernel
theorem kd_A_takeAll_0 : decode kc_A_takeAll 0 = .ok (.aload_n 0, 1) := by decide +kernel
theorem kd_A_takeAll_1 : decode kc_A_takeAll 1 = .ok (.getfield 26, 3) := by decide +kernel
theorem kd_A_takeAll_4 : decode kc_A_takeAll 4 = .ok (.istore_n 1, 1) := by decide +kernel
theorem kd_A_takeAll_5 : decode kc_A_takeAll 5 = .ok (.aload_n 0, 1) := by decide +kernel
theorem kd_A_takeAll_6 : decode kc_A_takeAll 6 = .ok (.iconst 0, 1) := by decide +kernel
theorem kd_A_takeAll_7 : decode kc_A_takeAll 7 = .ok (.putfield 26, 3) := by decide +kernel
theorem kd_A_takeAll_10 : decode kc_A_takeAll 10 = .ok (.iload_n 1, 1) := by decide +kernel
theorem kd_A_takeAll_11 : decode kc_A_takeAll 11 = .ok (.ireturn, 1) := by decide +kernel
theorem kd_C_gather_0 : decode kc_C_gather 0 = .ok (.aload_n 0, 1) := by decide +kernel
theorem kd_C_gather_1 : decode kc_C_gather 1 = .ok (.iconst 0, 1) := by decide +kernel
theorem kd_C_gather_2 : decode kc_C_gather 2 = .ok (.putfield 41, 3) := by decide +kernel
theorem kd_C_gather_5 : decode kc_C_gather 5 = .ok (.iload_n 1, 1) := by decide +kernel
theorem kd_C_gather_6 : decode kc_C_gather 6 = .ok (.istore 4, 2) := by decide +kernel
theorem kd_C_gather_8 : decode kc_C_gather 8 = .ok (.iconst 0, 1) := by decide +kernel
theorem kd_C_gather_9 : decode kc_C_gather 9 = .ok (.istore 5, 2) := by decide +kernel
theorem kd_C_gather_11 : decode kc_C_gather 11 = .ok (.iload 5, 2) := by decide +kernel
theorem kd_C_gather_13 : decode kc_C_gather 13 = .ok (.bipush 16, 2) := by decide +kernel
theorem kd_C_gather_15 : decode kc_C_gather 15 = .ok (.if_icmp .ge 35, 3) := by decide +kernel
theorem kd_C_gather_18 : decode kc_C_gather 18 = .ok (.iload 4, 2) := by decide +kernel
theorem kd_C_gather_20 : decode kc_C_gather 20 = .ok (.iconst (-1), 1) := by decide +kernel
theorem kd_C_gather_21 : decode kc_C_gather 21 = .ok (.if_icmp .eq 29, 3) := by decide +kernel
theorem kd_C_gather_24 : decode kc_C_gather 24 = .ok (.aload_n 0, 1) := by decide +kernel
theorem kd_C_gather_25 : decode kc_C_gather 25 = .ok (.iload 4, 2) := by decide +kernel
theorem kd_C_gather_27 : decode kc_C_gather 27 = .ok (.iload_n 2, 1) := by decide +kernel
theorem kd_C_gather_28 : decode kc_C_gather 28 = .ok (.iload_n 3, 1) := by decide +kernel
theorem kd_C_gather_29 : decode kc_C_gather 29 = .ok (.invokevirtual 45, 3) := by decide +kernel
theorem kd_C_gather_32 : decode kc_C_gather 32 = .ok (.aload_n 0, 1) := by decide +kernel
theorem kd_C_gather_33 : decode kc_C_gather 33 = .ok (.getfield 18, 3) := by decide +kernel
theorem kd_C_gather_36 : decode kc_C_gather 36 = .ok (.getfield 36, 3) := by decide +kernel
theorem kd_C_gather_39 : decode kc_C_gather 39 = .ok (.iload 4, 2) := by decide +kernel
theorem kd_C_gather_41 : decode kc_C_gather 41 = .ok (.iaload, 1) := by decide +kernel
theorem kd_C_gather_42 : decode kc_C_gather 42 = .ok (.istore 4, 2) := by decide +kernel
theorem kd_C_gather_44 : decode kc_C_gather 44 = .ok (.iinc 5 1, 3) := by decide +kernel
theorem kd_C_gather_47 : decode kc_C_gather 47 = .ok (.goto (-36), 3) := by decide +kernel
theorem kd_C_gather_50 : decode kc_C_gather 50 = .ok (.return_, 1) := by decide +kernel
theorem kd_C_gatherFrom_0 : decode kc_C_gatherFrom 0 = .ok (.iconst 0, 1) := by decide +kernel
theorem kd_C_gatherFrom_1 : decode kc_C_gatherFrom 1 = .ok (.istore 4, 2) := by decide +kernel
theorem kd_C_gatherFrom_3 : decode kc_C_gatherFrom 3 = .ok (.iload 4, 2) := by decide +kernel
theorem kd_C_gatherFrom_5 : decode kc_C_gatherFrom 5 = .ok (.aload_n 0, 1) := by decide +kernel
theorem kd_C_gatherFrom_6 : decode kc_C_gatherFrom 6 = .ok (.getfield 22, 3) := by decide +kernel
theorem kd_C_gatherFrom_9 : decode kc_C_gatherFrom 9 = .ok (.getfield 49, 3) := by decide +kernel
theorem kd_C_gatherFrom_12 : decode kc_C_gatherFrom 12 = .ok (.if_icmp .ge 84, 3) := by decide +kernel
theorem kd_C_gatherFrom_15 : decode kc_C_gatherFrom 15 = .ok (.aload_n 0, 1) := by decide +kernel
theorem kd_C_gatherFrom_16 : decode kc_C_gatherFrom 16 = .ok (.getfield 41, 3) := by decide +kernel
theorem kd_C_gatherFrom_19 : decode kc_C_gatherFrom 19 = .ok (.bipush 64, 2) := by decide +kernel
theorem kd_C_gatherFrom_21 : decode kc_C_gatherFrom 21 = .ok (.if_icmp .ge 75, 3) := by decide +kernel
theorem kd_C_gatherFrom_24 : decode kc_C_gatherFrom 24 = .ok (.aload_n 0, 1) := by decide +kernel
theorem kd_C_gatherFrom_25 : decode kc_C_gatherFrom 25 = .ok (.getfield 22, 3) := by decide +kernel
theorem kd_C_gatherFrom_28 : decode kc_C_gatherFrom 28 = .ok (.iload 4, 2) := by decide +kernel
theorem kd_C_gatherFrom_30 : decode kc_C_gatherFrom 30 = .ok (.iload_n 1, 1) := by decide +kernel
theorem kd_C_gatherFrom_31 : decode kc_C_gatherFrom 31 = .ok (.iload_n 2, 1) := by decide +kernel
theorem kd_C_gatherFrom_32 : decode kc_C_gatherFrom 32 = .ok (.iload_n 3, 1) := by decide +kernel
theorem kd_C_gatherFrom_33 : decode kc_C_gatherFrom 33 = .ok (.invokevirtual 50, 3) := by decide +kernel
theorem kd_C_gatherFrom_36 : decode kc_C_gatherFrom 36 = .ok (.ifCond .eq 54, 3) := by decide +kernel
theorem kd_C_gatherFrom_39 : decode kc_C_gatherFrom 39 = .ok (.aload_n 0, 1) := by decide +kernel
theorem kd_C_gatherFrom_40 : decode kc_C_gatherFrom 40 = .ok (.getfield 26, 3) := by decide +kernel
theorem kd_C_gatherFrom_43 : decode kc_C_gatherFrom 43 = .ok (.iload_n 3, 1) := by decide +kernel
theorem kd_C_gatherFrom_44 : decode kc_C_gatherFrom 44 = .ok (.aload_n 0, 1) := by decide +kernel
theorem kd_C_gatherFrom_45 : decode kc_C_gatherFrom 45 = .ok (.getfield 22, 3) := by decide +kernel
theorem kd_C_gatherFrom_48 : decode kc_C_gatherFrom 48 = .ok (.getfield 54, 3) := by decide +kernel
theorem kd_C_gatherFrom_51 : decode kc_C_gatherFrom 51 = .ok (.iload 4, 2) := by decide +kernel
theorem kd_C_gatherFrom_53 : decode kc_C_gatherFrom 53 = .ok (.iaload, 1) := by decide +kernel
theorem kd_C_gatherFrom_54 : decode kc_C_gatherFrom 54 = .ok (.invokevirtual 57, 3) := by decide +kernel
theorem kd_C_gatherFrom_57 : decode kc_C_gatherFrom 57 = .ok (.ifCond .eq 33, 3) := by decide +kernel
theorem kd_C_gatherFrom_60 : decode kc_C_gatherFrom 60 = .ok (.aload_n 0, 1) := by decide +kernel
theorem kd_C_gatherFrom_61 : decode kc_C_gatherFrom 61 = .ok (.iload 4, 2) := by decide +kernel
theorem kd_C_gatherFrom_63 : decode kc_C_gatherFrom 63 = .ok (.invokevirtual 63, 3) := by decide +kernel
theorem kd_C_gatherFrom_66 : decode kc_C_gatherFrom 66 = .ok (.ifCond .ne 24, 3) := by decide +kernel
theorem kd_C_gatherFrom_69 : decode kc_C_gatherFrom 69 = .ok (.aload_n 0, 1) := by decide +kernel
theorem kd_C_gatherFrom_70 : decode kc_C_gatherFrom 70 = .ok (.getfield 9, 3) := by decide +kernel
theorem kd_C_gatherFrom_73 : decode kc_C_gatherFrom 73 = .ok (.aload_n 0, 1) := by decide +kernel
theorem kd_C_gatherFrom_74 : decode kc_C_gatherFrom 74 = .ok (.getfield 41, 3) := by decide +kernel
theorem kd_C_gatherFrom_77 : decode kc_C_gatherFrom 77 = .ok (.iload 4, 2) := by decide +kernel
theorem kd_C_gatherFrom_79 : decode kc_C_gatherFrom 79 = .ok (.iastore, 1) := by decide +kernel
theorem kd_C_gatherFrom_80 : decode kc_C_gatherFrom 80 = .ok (.aload_n 0, 1) := by decide +kernel
theorem kd_C_gatherFrom_81 : decode kc_C_gatherFrom 81 = .ok (.dup, 1) := by decide +kernel
theorem kd_C_gatherFrom_82 : decode kc_C_gatherFrom 82 = .ok (.getfield 41, 3) := by decide +kernel
theorem kd_C_gatherFrom_85 : decode kc_C_gatherFrom 85 = .ok (.iconst 1, 1) := by decide +kernel
theorem kd_C_gatherFrom_86 : decode kc_C_gatherFrom 86 = .ok (.iadd, 1) := by decide +kernel
theorem kd_C_gatherFrom_87 : decode kc_C_gatherFrom 87 = .ok (.putfield 41, 3) := by decide +kernel
theorem kd_C_gatherFrom_90 : decode kc_C_gatherFrom 90 = .ok (.iinc 4 1, 3) := by decide +kernel
theorem kd_C_gatherFrom_93 : decode kc_C_gatherFrom 93 = .ok (.goto (-90), 3) := by decide +kernel
theorem kd_C_gatherFrom_96 : decode kc_C_gatherFrom 96 = .ok (.return_, 1) := by decide +kernel
theorem kd_A_fit_0 : decode kc_A_fit 0 = .ok (.iconst 0, 1) := by decide +kernel
theorem kd_A_fit_1 : decode kc_A_fit 1 = .ok (.istore_n 3, 1) := by decide +kernel
theorem kd_A_fit_2 : decode kc_A_fit 2 = .ok (.iload_n 3, 1) := by decide +kernel
theorem kd_A_fit_3 : decode kc_A_fit 3 = .ok (.iload_n 1, 1) := by decide +kernel
theorem kd_A_fit_4 : decode kc_A_fit 4 = .ok (.if_icmp .ge 26, 3) := by decide +kernel
theorem kd_A_fit_7 : decode kc_A_fit 7 = .ok (.aload_n 0, 1) := by decide +kernel
theorem kd_A_fit_8 : decode kc_A_fit 8 = .ok (.iload_n 3, 1) := by decide +kernel
theorem kd_A_fit_9 : decode kc_A_fit 9 = .ok (.iload_n 2, 1) := by decide +kernel
theorem kd_A_fit_10 : decode kc_A_fit 10 = .ok (.iload_n 1, 1) := by decide +kernel
theorem kd_A_fit_11 : decode kc_A_fit 11 = .ok (.iload_n 3, 1) := by decide +kernel
theorem kd_A_fit_12 : decode kc_A_fit 12 = .ok (.invokestatic 43, 3) := by decide +kernel
theorem kd_A_fit_15 : decode kc_A_fit 15 = .ok (.invokevirtual 47, 3) := by decide +kernel
theorem kd_A_fit_18 : decode kc_A_fit 18 = .ok (.iconst (-1), 1) := by decide +kernel
theorem kd_A_fit_19 : decode kc_A_fit 19 = .ok (.if_icmp .ne 5, 3) := by decide +kernel
theorem kd_A_fit_22 : decode kc_A_fit 22 = .ok (.iconst 0, 1) := by decide +kernel
theorem kd_A_fit_23 : decode kc_A_fit 23 = .ok (.ireturn, 1) := by decide +kernel
theorem kd_A_fit_24 : decode kc_A_fit 24 = .ok (.iinc 3 1, 3) := by decide +kernel
theorem kd_A_fit_27 : decode kc_A_fit 27 = .ok (.goto (-25), 3) := by decide +kernel
theorem kd_A_fit_30 : decode kc_A_fit 30 = .ok (.iconst 1, 1) := by decide +kernel
theorem kd_A_fit_31 : decode kc_A_fit 31 = .ok (.ireturn, 1) := by decide +kernel
theorem kd_C_isHidden_0 : decode kc_C_isHidden 0 = .ok (.iconst 0, 1) := by decide +kernel
theorem kd_C_isHidden_1 : decode kc_C_isHidden 1 = .ok (.istore_n 2, 1) := by decide +kernel
theorem kd_C_isHidden_2 : decode kc_C_isHidden 2 = .ok (.iload_n 2, 1) := by decide +kernel
theorem kd_C_isHidden_3 : decode kc_C_isHidden 3 = .ok (.aload_n 0, 1) := by decide +kernel
theorem kd_C_isHidden_4 : decode kc_C_isHidden 4 = .ok (.getfield 41, 3) := by decide +kernel
theorem kd_C_isHidden_7 : decode kc_C_isHidden 7 = .ok (.if_icmp .ge 37, 3) := by decide +kernel
theorem kd_C_isHidden_10 : decode kc_C_isHidden 10 = .ok (.aload_n 0, 1) := by decide +kernel
theorem kd_C_isHidden_11 : decode kc_C_isHidden 11 = .ok (.getfield 22, 3) := by decide +kernel
theorem kd_C_isHidden_14 : decode kc_C_isHidden 14 = .ok (.getfield 54, 3) := by decide +kernel
theorem kd_C_isHidden_17 : decode kc_C_isHidden 17 = .ok (.aload_n 0, 1) := by decide +kernel
theorem kd_C_isHidden_18 : decode kc_C_isHidden 18 = .ok (.getfield 9, 3) := by decide +kernel
theorem kd_C_isHidden_21 : decode kc_C_isHidden 21 = .ok (.iload_n 2, 1) := by decide +kernel
theorem kd_C_isHidden_22 : decode kc_C_isHidden 22 = .ok (.iaload, 1) := by decide +kernel
theorem kd_C_isHidden_23 : decode kc_C_isHidden 23 = .ok (.iaload, 1) := by decide +kernel
theorem kd_C_isHidden_24 : decode kc_C_isHidden 24 = .ok (.aload_n 0, 1) := by decide +kernel
theorem kd_C_isHidden_25 : decode kc_C_isHidden 25 = .ok (.getfield 22, 3) := by decide +kernel
theorem kd_C_isHidden_28 : decode kc_C_isHidden 28 = .ok (.getfield 54, 3) := by decide +kernel
theorem kd_C_isHidden_31 : decode kc_C_isHidden 31 = .ok (.iload_n 1, 1) := by decide +kernel
theorem kd_C_isHidden_32 : decode kc_C_isHidden 32 = .ok (.iaload, 1) := by decide +kernel
theorem kd_C_isHidden_33 : decode kc_C_isHidden 33 = .ok (.if_icmp .ne 5, 3) := by decide +kernel
theorem kd_C_isHidden_36 : decode kc_C_isHidden 36 = .ok (.iconst 1, 1) := by decide +kernel
theorem kd_C_isHidden_37 : decode kc_C_isHidden 37 = .ok (.ireturn, 1) := by decide +kernel
theorem kd_C_isHidden_38 : decode kc_C_isHidden 38 = .ok (.iinc 2 1, 3) := by decide +kernel
theorem kd_C_isHidden_41 : decode kc_C_isHidden 41 = .ok (.goto (-39), 3) := by decide +kernel
theorem kd_C_isHidden_44 : decode kc_C_isHidden 44 = .ok (.iconst 0, 1) := by decide +kernel
theorem kd_C_isHidden_45 : decode kc_C_isHidden 45 = .ok (.ireturn, 1) := by decide +kernel
theorem kd_C_best_0 : decode kc_C_best 0 = .ok (.iconst 0, 1) := by decide +kernel
theorem kd_C_best_1 : decode kc_C_best 1 = .ok (.istore_n 2, 1) := by decide +kernel
theorem kd_C_best_2 : decode kc_C_best 2 = .ok (.iload_n 2, 1) := by decide +kernel
theorem kd_C_best_3 : decode kc_C_best 3 = .ok (.iload_n 1, 1) := by decide +kernel
theorem kd_C_best_4 : decode kc_C_best 4 = .ok (.if_icmp .ge 21, 3) := by decide +kernel
theorem kd_C_best_7 : decode kc_C_best 7 = .ok (.aload_n 0, 1) := by decide +kernel
theorem kd_C_best_8 : decode kc_C_best 8 = .ok (.getfield 15, 3) := by decide +kernel
theorem kd_C_best_11 : decode kc_C_best 11 = .ok (.iload_n 2, 1) := by decide +kernel
theorem kd_C_best_12 : decode kc_C_best 12 = .ok (.aload_n 0, 1) := by decide +kernel
theorem kd_C_best_13 : decode kc_C_best 13 = .ok (.iload_n 2, 1) := by decide +kernel
theorem kd_C_best_14 : decode kc_C_best 14 = .ok (.iload_n 1, 1) := by decide +kernel
theorem kd_C_best_15 : decode kc_C_best 15 = .ok (.invokevirtual 67, 3) := by decide +kernel
theorem kd_C_best_18 : decode kc_C_best 18 = .ok (.iastore, 1) := by decide +kernel
theorem kd_C_best_19 : decode kc_C_best 19 = .ok (.iinc 2 1, 3) := by decide +kernel
theorem kd_C_best_22 : decode kc_C_best 22 = .ok (.goto (-20), 3) := by decide +kernel
theorem kd_C_best_25 : decode kc_C_best 25 = .ok (.iconst (-1), 1) := by decide +kernel
theorem kd_C_best_26 : decode kc_C_best 26 = .ok (.istore_n 2, 1) := by decide +kernel
theorem kd_C_best_27 : decode kc_C_best 27 = .ok (.iconst 0, 1) := by decide +kernel
theorem kd_C_best_28 : decode kc_C_best 28 = .ok (.istore_n 3, 1) := by decide +kernel
theorem kd_C_best_29 : decode kc_C_best 29 = .ok (.iload_n 3, 1) := by decide +kernel
theorem kd_C_best_30 : decode kc_C_best 30 = .ok (.aload_n 0, 1) := by decide +kernel
theorem kd_C_best_31 : decode kc_C_best 31 = .ok (.getfield 41, 3) := by decide +kernel
theorem kd_C_best_34 : decode kc_C_best 34 = .ok (.if_icmp .ge 37, 3) := by decide +kernel
theorem kd_C_best_37 : decode kc_C_best 37 = .ok (.aload_n 0, 1) := by decide +kernel
theorem kd_C_best_38 : decode kc_C_best 38 = .ok (.aload_n 0, 1) := by decide +kernel
theorem kd_C_best_39 : decode kc_C_best 39 = .ok (.getfield 9, 3) := by decide +kernel
theorem kd_C_best_42 : decode kc_C_best 42 = .ok (.iload_n 3, 1) := by decide +kernel
theorem kd_C_best_43 : decode kc_C_best 43 = .ok (.iaload, 1) := by decide +kernel
theorem kd_C_best_44 : decode kc_C_best 44 = .ok (.iload_n 1, 1) := by decide +kernel
theorem kd_C_best_45 : decode kc_C_best 45 = .ok (.invokevirtual 71, 3) := by decide +kernel
theorem kd_C_best_48 : decode kc_C_best 48 = .ok (.ifCond .eq 17, 3) := by decide +kernel
theorem kd_C_best_51 : decode kc_C_best 51 = .ok (.iload_n 2, 1) := by decide +kernel
theorem kd_C_best_52 : decode kc_C_best 52 = .ok (.iconst (-1), 1) := by decide +kernel
theorem kd_C_best_53 : decode kc_C_best 53 = .ok (.if_icmp .eq 5, 3) := by decide +kernel
theorem kd_C_best_56 : decode kc_C_best 56 = .ok (.iconst (-1), 1) := by decide +kernel
theorem kd_C_best_57 : decode kc_C_best 57 = .ok (.ireturn, 1) := by decide +kernel
theorem kd_C_best_58 : decode kc_C_best 58 = .ok (.aload_n 0, 1) := by decide +kernel
theorem kd_C_best_59 : decode kc_C_best 59 = .ok (.getfield 9, 3) := by decide +kernel
theorem kd_C_best_62 : decode kc_C_best 62 = .ok (.iload_n 3, 1) := by decide +kernel
theorem kd_C_best_63 : decode kc_C_best 63 = .ok (.iaload, 1) := by decide +kernel
theorem kd_C_best_64 : decode kc_C_best 64 = .ok (.istore_n 2, 1) := by decide +kernel
theorem kd_C_best_65 : decode kc_C_best 65 = .ok (.iinc 3 1, 3) := by decide +kernel
theorem kd_C_best_68 : decode kc_C_best 68 = .ok (.goto (-39), 3) := by decide +kernel
theorem kd_C_best_71 : decode kc_C_best 71 = .ok (.iload_n 2, 1) := by decide +kernel
theorem kd_C_best_72 : decode kc_C_best 72 = .ok (.ireturn, 1) := by decide +kernel
theorem kd_C_lowestWeight_0 : decode kc_C_lowestWeight 0 = .ok (.aload_n 0, 1) := by decide +kernel
theorem kd_C_lowestWeight_1 : decode kc_C_lowestWeight 1 = .ok (.aload_n 0, 1) := by decide +kernel
theorem kd_C_lowestWeight_2 : decode kc_C_lowestWeight 2 = .ok (.getfield 9, 3) := by decide +kernel
theorem kd_C_lowestWeight_5 : decode kc_C_lowestWeight 5 = .ok (.iconst 0, 1) := by decide +kernel
theorem kd_C_lowestWeight_6 : decode kc_C_lowestWeight 6 = .ok (.iaload, 1) := by decide +kernel
theorem kd_C_lowestWeight_7 : decode kc_C_lowestWeight 7 = .ok (.iload_n 1, 1) := by decide +kernel
theorem kd_C_lowestWeight_8 : decode kc_C_lowestWeight 8 = .ok (.iload_n 2, 1) := by decide +kernel
theorem kd_C_lowestWeight_9 : decode kc_C_lowestWeight 9 = .ok (.invokevirtual 74, 3) := by decide +kernel
theorem kd_C_lowestWeight_12 : decode kc_C_lowestWeight 12 = .ok (.istore_n 3, 1) := by decide +kernel
theorem kd_C_lowestWeight_13 : decode kc_C_lowestWeight 13 = .ok (.iconst 1, 1) := by decide +kernel
theorem kd_C_lowestWeight_14 : decode kc_C_lowestWeight 14 = .ok (.istore 4, 2) := by decide +kernel
theorem kd_C_lowestWeight_16 : decode kc_C_lowestWeight 16 = .ok (.iload 4, 2) := by decide +kernel
theorem kd_C_lowestWeight_18 : decode kc_C_lowestWeight 18 = .ok (.aload_n 0, 1) := by decide +kernel
theorem kd_C_lowestWeight_19 : decode kc_C_lowestWeight 19 = .ok (.getfield 41, 3) := by decide +kernel
theorem kd_C_lowestWeight_22 : decode kc_C_lowestWeight 22 = .ok (.if_icmp .ge 27, 3) := by decide +kernel
theorem kd_C_lowestWeight_25 : decode kc_C_lowestWeight 25 = .ok (.iload_n 3, 1) := by decide +kernel
theorem kd_C_lowestWeight_26 : decode kc_C_lowestWeight 26 = .ok (.aload_n 0, 1) := by decide +kernel
theorem kd_C_lowestWeight_27 : decode kc_C_lowestWeight 27 = .ok (.aload_n 0, 1) := by decide +kernel
theorem kd_C_lowestWeight_28 : decode kc_C_lowestWeight 28 = .ok (.getfield 9, 3) := by decide +kernel
theorem kd_C_lowestWeight_31 : decode kc_C_lowestWeight 31 = .ok (.iload 4, 2) := by decide +kernel
theorem kd_C_lowestWeight_33 : decode kc_C_lowestWeight 33 = .ok (.iaload, 1) := by decide +kernel
theorem kd_C_lowestWeight_34 : decode kc_C_lowestWeight 34 = .ok (.iload_n 1, 1) := by decide +kernel
theorem kd_C_lowestWeight_35 : decode kc_C_lowestWeight 35 = .ok (.iload_n 2, 1) := by decide +kernel
theorem kd_C_lowestWeight_36 : decode kc_C_lowestWeight 36 = .ok (.invokevirtual 74, 3) := by decide +kernel
theorem kd_C_lowestWeight_39 : decode kc_C_lowestWeight 39 = .ok (.invokestatic 78, 3) := by decide +kernel
theorem kd_C_lowestWeight_42 : decode kc_C_lowestWeight 42 = .ok (.istore_n 3, 1) := by decide +kernel
theorem kd_C_lowestWeight_43 : decode kc_C_lowestWeight 43 = .ok (.iinc 4 1, 3) := by decide +kernel
theorem kd_C_lowestWeight_46 : decode kc_C_lowestWeight 46 = .ok (.goto (-30), 3) := by decide +kernel
theorem kd_C_lowestWeight_49 : decode kc_C_lowestWeight 49 = .ok (.iload_n 3, 1) := by decide +kernel
theorem kd_C_lowestWeight_50 : decode kc_C_lowestWeight 50 = .ok (.ireturn, 1) := by decide +kernel
theorem kd_C_weightIn_0 : decode kc_C_weightIn 0 = .ok (.aload_n 0, 1) := by decide +kernel
theorem kd_C_weightIn_1 : decode kc_C_weightIn 1 = .ok (.getfield 26, 3) := by decide +kernel
theorem kd_C_weightIn_4 : decode kc_C_weightIn 4 = .ok (.iload_n 2, 1) := by decide +kernel
theorem kd_C_weightIn_5 : decode kc_C_weightIn 5 = .ok (.aload_n 0, 1) := by decide +kernel
theorem kd_C_weightIn_6 : decode kc_C_weightIn 6 = .ok (.getfield 22, 3) := by decide +kernel
theorem kd_C_weightIn_9 : decode kc_C_weightIn 9 = .ok (.getfield 54, 3) := by decide +kernel
theorem kd_C_weightIn_12 : decode kc_C_weightIn 12 = .ok (.iload_n 1, 1) := by decide +kernel
theorem kd_C_weightIn_13 : decode kc_C_weightIn 13 = .ok (.iaload, 1) := by decide +kernel
theorem kd_C_weightIn_14 : decode kc_C_weightIn 14 = .ok (.iload_n 3, 1) := by decide +kernel
theorem kd_C_weightIn_15 : decode kc_C_weightIn 15 = .ok (.iload_n 2, 1) := by decide +kernel
theorem kd_C_weightIn_16 : decode kc_C_weightIn 16 = .ok (.invokestatic 83, 3) := by decide +kernel
theorem kd_C_weightIn_19 : decode kc_C_weightIn 19 = .ok (.invokevirtual 86, 3) := by decide +kernel
theorem kd_C_weightIn_22 : decode kc_C_weightIn 22 = .ok (.ireturn, 1) := by decide +kernel
theorem kd_J_min_0 : decode kc_J_min 0 = .ok (.iload_n 0, 1) := by decide +kernel
theorem kd_J_min_1 : decode kc_J_min 1 = .ok (.iload_n 1, 1) := by decide +kernel
theorem kd_J_min_2 : decode kc_J_min 2 = .ok (.if_icmp .gt 7, 3) := by decide +kernel
theorem kd_J_min_5 : decode kc_J_min 5 = .ok (.iload_n 0, 1) := by decide +kernel
theorem kd_J_min_6 : decode kc_J_min 6 = .ok (.goto 4, 3) := by decide +kernel
theorem kd_J_min_9 : decode kc_J_min 9 = .ok (.iload_n 1, 1) := by decide +kernel
theorem kd_J_min_10 : decode kc_J_min 10 = .ok (.ireturn, 1) := by decide +kernel
theorem kd_C_isLowest_0 : decode kc_C_isLowest 0 = .ok (.iconst 0, 1) := by decide +kernel
theorem kd_C_isLowest_1 : decode kc_C_isLowest 1 = .ok (.istore_n 3, 1) := by decide +kernel
theorem kd_C_isLowest_2 : decode kc_C_isLowest 2 = .ok (.iload_n 3, 1) := by decide +kernel
theorem kd_C_isLowest_3 : decode kc_C_isLowest 3 = .ok (.iload_n 2, 1) := by decide +kernel
theorem kd_C_isLowest_4 : decode kc_C_isLowest 4 = .ok (.if_icmp .ge 27, 3) := by decide +kernel
theorem kd_C_isLowest_7 : decode kc_C_isLowest 7 = .ok (.aload_n 0, 1) := by decide +kernel
theorem kd_C_isLowest_8 : decode kc_C_isLowest 8 = .ok (.iload_n 1, 1) := by decide +kernel
theorem kd_C_isLowest_9 : decode kc_C_isLowest 9 = .ok (.iload_n 3, 1) := by decide +kernel
theorem kd_C_isLowest_10 : decode kc_C_isLowest 10 = .ok (.iload_n 2, 1) := by decide +kernel
theorem kd_C_isLowest_11 : decode kc_C_isLowest 11 = .ok (.invokevirtual 74, 3) := by decide +kernel
theorem kd_C_isLowest_14 : decode kc_C_isLowest 14 = .ok (.aload_n 0, 1) := by decide +kernel
theorem kd_C_isLowest_15 : decode kc_C_isLowest 15 = .ok (.getfield 15, 3) := by decide +kernel
theorem kd_C_isLowest_18 : decode kc_C_isLowest 18 = .ok (.iload_n 3, 1) := by decide +kernel
theorem kd_C_isLowest_19 : decode kc_C_isLowest 19 = .ok (.iaload, 1) := by decide +kernel
theorem kd_C_isLowest_20 : decode kc_C_isLowest 20 = .ok (.if_icmp .le 5, 3) := by decide +kernel
theorem kd_C_isLowest_23 : decode kc_C_isLowest 23 = .ok (.iconst 0, 1) := by decide +kernel
theorem kd_C_isLowest_24 : decode kc_C_isLowest 24 = .ok (.ireturn, 1) := by decide +kernel
theorem kd_C_isLowest_25 : decode kc_C_isLowest 25 = .ok (.iinc 3 1, 3) := by decide +kernel
theorem kd_C_isLowest_28 : decode kc_C_isLowest 28 = .ok (.goto (-26), 3) := by decide +kernel
theorem kd_C_isLowest_31 : decode kc_C_isLowest 31 = .ok (.iconst 1, 1) := by decide +kernel
theorem kd_C_isLowest_32 : decode kc_C_isLowest 32 = .ok (.ireturn, 1) := by decide +kernel
theorem kd_D_open_0 : decode kc_D_open 0 = .ok (.aload_n 0, 1) := by decide +kernel
theorem kd_D_open_1 : decode kc_D_open 1 = .ok (.getfield 25, 3) := by decide +kernel
theorem kd_D_open_4 : decode kc_D_open 4 = .ok (.invokestatic 29, 3) := by decide +kernel
theorem kd_D_open_7 : decode kc_D_open 7 = .ok (.istore 4, 2) := by decide +kernel
theorem kd_D_open_9 : decode kc_D_open 9 = .ok (.aload_n 0, 1) := by decide +kernel
theorem kd_D_open_10 : decode kc_D_open 10 = .ok (.getfield 9, 3) := by decide +kernel
theorem kd_D_open_13 : decode kc_D_open 13 = .ok (.iload 4, 2) := by decide +kernel
theorem kd_D_open_15 : decode kc_D_open 15 = .ok (.iload_n 1, 1) := by decide +kernel
theorem kd_D_open_16 : decode kc_D_open 16 = .ok (.iastore, 1) := by decide +kernel
theorem kd_D_open_17 : decode kc_D_open 17 = .ok (.aload_n 0, 1) := by decide +kernel
theorem kd_D_open_18 : decode kc_D_open 18 = .ok (.getfield 15, 3) := by decide +kernel
theorem kd_D_open_21 : decode kc_D_open 21 = .ok (.iload 4, 2) := by decide +kernel
theorem kd_D_open_23 : decode kc_D_open 23 = .ok (.iload_n 2, 1) := by decide +kernel
theorem kd_D_open_24 : decode kc_D_open 24 = .ok (.iastore, 1) := by decide +kernel
theorem kd_D_open_25 : decode kc_D_open 25 = .ok (.aload_n 0, 1) := by decide +kernel
theorem kd_D_open_26 : decode kc_D_open 26 = .ok (.getfield 18, 3) := by decide +kernel
theorem kd_D_open_29 : decode kc_D_open 29 = .ok (.iload 4, 2) := by decide +kernel
theorem kd_D_open_31 : decode kc_D_open 31 = .ok (.iload_n 3, 1) := by decide +kernel
theorem kd_D_open_32 : decode kc_D_open 32 = .ok (.iastore, 1) := by decide +kernel
theorem kd_D_open_33 : decode kc_D_open 33 = .ok (.return_, 1) := by decide +kernel
theorem kd_D_rowOf_0 : decode kc_D_rowOf 0 = .ok (.iload_n 0, 1) := by decide +kernel
theorem kd_D_rowOf_1 : decode kc_D_rowOf 1 = .ok (.bipush 64, 2) := by decide +kernel
theorem kd_D_rowOf_3 : decode kc_D_rowOf 3 = .ok (.invokestatic 37, 3) := by decide +kernel
theorem kd_D_rowOf_6 : decode kc_D_rowOf 6 = .ok (.ireturn, 1) := by decide +kernel
theorem kd_J_floorMod_0 : decode kc_J_floorMod 0 = .ok (.iload_n 0, 1) := by decide +kernel
theorem kd_J_floorMod_1 : decode kc_J_floorMod 1 = .ok (.iload_n 1, 1) := by decide +kernel
theorem kd_J_floorMod_2 : decode kc_J_floorMod 2 = .ok (.irem, 1) := by decide +kernel
theorem kd_J_floorMod_3 : decode kc_J_floorMod 3 = .ok (.istore_n 2, 1) := by decide +kernel
theorem kd_J_floorMod_4 : decode kc_J_floorMod 4 = .ok (.iload_n 0, 1) := by decide +kernel
theorem kd_J_floorMod_5 : decode kc_J_floorMod 5 = .ok (.iload_n 1, 1) := by decide +kernel
theorem kd_J_floorMod_6 : decode kc_J_floorMod 6 = .ok (.ixor, 1) := by decide +kernel
theorem kd_J_floorMod_7 : decode kc_J_floorMod 7 = .ok (.ifCond .ge 11, 3) := by decide +kernel
theorem kd_J_floorMod_10 : decode kc_J_floorMod 10 = .ok (.iload_n 2, 1) := by decide +kernel
theorem kd_J_floorMod_11 : decode kc_J_floorMod 11 = .ok (.ifCond .eq 7, 3) := by decide +kernel
theorem kd_J_floorMod_14 : decode kc_J_floorMod 14 = .ok (.iload_n 2, 1) := by decide +kernel
theorem kd_J_floorMod_15 : decode kc_J_floorMod 15 = .ok (.iload_n 1, 1) := by decide +kernel
theorem kd_J_floorMod_16 : decode kc_J_floorMod 16 = .ok (.iadd, 1) := by decide +kernel
theorem kd_J_floorMod_17 : decode kc_J_floorMod 17 = .ok (.ireturn, 1) := by decide +kernel
theorem kd_J_floorMod_18 : decode kc_J_floorMod 18 = .ok (.iload_n 2, 1) := by decide +kernel
theorem kd_J_floorMod_19 : decode kc_J_floorMod 19 = .ok (.ireturn, 1) := by decide +kernel
theorem kd_A_convert_0 : decode kc_A_convert 0 = .ok (.iload_n 2, 1) := by decide +kernel
theorem kd_A_convert_1 : decode kc_A_convert 1 = .ok (.ifCond .ne 32, 3) := by decide +kernel
theorem kd_A_convert_4 : decode kc_A_convert 4 = .ok (.aload_n 0, 1) := by decide +kernel
theorem kd_A_convert_5 : decode kc_A_convert 5 = .ok (.getfield 9, 3) := by decide +kernel
theorem kd_A_convert_8 : decode kc_A_convert 8 = .ok (.iload_n 1, 1) := by decide +kernel
theorem kd_A_convert_9 : decode kc_A_convert 9 = .ok (.iaload, 1) := by decide +kernel
theorem kd_A_convert_10 : decode kc_A_convert 10 = .ok (.iconst 3, 1) := by decide +kernel
theorem kd_A_convert_11 : decode kc_A_convert 11 = .ok (.if_icmp .ne 15, 3) := by decide +kernel
theorem kd_A_convert_14 : decode kc_A_convert 14 = .ok (.aload_n 0, 1) := by decide +kernel
theorem kd_A_convert_15 : decode kc_A_convert 15 = .ok (.getfield 18, 3) := by decide +kernel
theorem kd_A_convert_18 : decode kc_A_convert 18 = .ok (.iload_n 1, 1) := by decide +kernel
theorem kd_A_convert_19 : decode kc_A_convert 19 = .ok (.laload, 1) := by decide +kernel
theorem kd_A_convert_20 : decode kc_A_convert 20 = .ok (.invokestatic 62, 3) := by decide +kernel
theorem kd_A_convert_23 : decode kc_A_convert 23 = .ok (.goto 9, 3) := by decide +kernel
theorem kd_A_convert_26 : decode kc_A_convert 26 = .ok (.aload_n 0, 1) := by decide +kernel
theorem kd_A_convert_27 : decode kc_A_convert 27 = .ok (.getfield 18, 3) := by decide +kernel
theorem kd_A_convert_30 : decode kc_A_convert 30 = .ok (.iload_n 1, 1) := by decide +kernel
theorem kd_A_convert_31 : decode kc_A_convert 31 = .ok (.laload, 1) := by decide +kernel
theorem kd_A_convert_32 : decode kc_A_convert 32 = .ok (.lreturn, 1) := by decide +kernel
theorem kd_A_convert_33 : decode kc_A_convert 33 = .ok (.iload_n 2, 1) := by decide +kernel
theorem kd_A_convert_34 : decode kc_A_convert 34 = .ok (.iconst 1, 1) := by decide +kernel
theorem kd_A_convert_35 : decode kc_A_convert 35 = .ok (.if_icmp .eq 8, 3) := by decide +kernel
theorem kd_A_convert_38 : decode kc_A_convert 38 = .ok (.iload_n 2, 1) := by decide +kernel
theorem kd_A_convert_39 : decode kc_A_convert 39 = .ok (.iconst 2, 1) := by decide +kernel
theorem kd_A_convert_40 : decode kc_A_convert 40 = .ok (.if_icmp .ne 13, 3) := by decide +kernel
theorem kd_A_convert_43 : decode kc_A_convert 43 = .ok (.aload_n 0, 1) := by decide +kernel
theorem kd_A_convert_44 : decode kc_A_convert 44 = .ok (.getfield 18, 3) := by decide +kernel
theorem kd_A_convert_47 : decode kc_A_convert 47 = .ok (.iload_n 1, 1) := by decide +kernel
theorem kd_A_convert_48 : decode kc_A_convert 48 = .ok (.laload, 1) := by decide +kernel
theorem kd_A_convert_49 : decode kc_A_convert 49 = .ok (.invokestatic 66, 3) := by decide +kernel
theorem kd_A_convert_52 : decode kc_A_convert 52 = .ok (.lreturn, 1) := by decide +kernel
theorem kd_A_convert_53 : decode kc_A_convert 53 = .ok (.iload_n 2, 1) := by decide +kernel
theorem kd_A_convert_54 : decode kc_A_convert 54 = .ok (.iconst 3, 1) := by decide +kernel
theorem kd_A_convert_55 : decode kc_A_convert 55 = .ok (.if_icmp .ne 10, 3) := by decide +kernel
theorem kd_A_convert_58 : decode kc_A_convert 58 = .ok (.aload_n 0, 1) := by decide +kernel
theorem kd_A_convert_59 : decode kc_A_convert 59 = .ok (.getfield 18, 3) := by decide +kernel
theorem kd_A_convert_62 : decode kc_A_convert 62 = .ok (.iload_n 1, 1) := by decide +kernel
theorem kd_A_convert_63 : decode kc_A_convert 63 = .ok (.laload, 1) := by decide +kernel
theorem kd_A_convert_64 : decode kc_A_convert 64 = .ok (.lreturn, 1) := by decide +kernel
theorem kd_A_convert_65 : decode kc_A_convert 65 = .ok (.iload_n 2, 1) := by decide +kernel
theorem kd_A_convert_66 : decode kc_A_convert 66 = .ok (.bipush 6, 2) := by decide +kernel
theorem kd_A_convert_68 : decode kc_A_convert 68 = .ok (.if_icmp .ge 11, 3) := by decide +kernel
theorem kd_A_convert_71 : decode kc_A_convert 71 = .ok (.aload_n 0, 1) := by decide +kernel
theorem kd_A_convert_72 : decode kc_A_convert 72 = .ok (.getfield 9, 3) := by decide +kernel
theorem kd_A_convert_75 : decode kc_A_convert 75 = .ok (.iload_n 1, 1) := by decide +kernel
theorem kd_A_convert_76 : decode kc_A_convert 76 = .ok (.iaload, 1) := by decide +kernel
theorem kd_A_convert_77 : decode kc_A_convert 77 = .ok (.i2l, 1) := by decide +kernel
theorem kd_A_convert_78 : decode kc_A_convert 78 = .ok (.lreturn, 1) := by decide +kernel
theorem kd_A_convert_79 : decode kc_A_convert 79 = .ok (.aload_n 0, 1) := by decide +kernel
theorem kd_A_convert_80 : decode kc_A_convert 80 = .ok (.getfield 9, 3) := by decide +kernel
theorem kd_A_convert_83 : decode kc_A_convert 83 = .ok (.iload_n 1, 1) := by decide +kernel
theorem kd_A_convert_84 : decode kc_A_convert 84 = .ok (.iaload, 1) := by decide +kernel
theorem kd_A_convert_85 : decode kc_A_convert 85 = .ok (.iconst 1, 1) := by decide +kernel
theorem kd_A_convert_86 : decode kc_A_convert 86 = .ok (.if_icmp .ne 9, 3) := by decide +kernel
theorem kd_A_convert_89 : decode kc_A_convert 89 = .ok (.ldc2_w 69, 3) := by decide +kernel
theorem kd_A_convert_92 : decode kc_A_convert 92 = .ok (.goto 9, 3) := by decide +kernel
theorem kd_A_convert_95 : decode kc_A_convert 95 = .ok (.aload_n 0, 1) := by decide +kernel
theorem kd_A_convert_96 : decode kc_A_convert 96 = .ok (.getfield 18, 3) := by decide +kernel
theorem kd_A_convert_99 : decode kc_A_convert 99 = .ok (.iload_n 1, 1) := by decide +kernel
theorem kd_A_convert_100 : decode kc_A_convert 100 = .ok (.laload, 1) := by decide +kernel
theorem kd_A_convert_101 : decode kc_A_convert 101 = .ok (.lreturn, 1) := by decide +kernel
theorem kd_N_truthOf_0 : decode kc_N_truthOf 0 = .ok (.lload_n 0, 1) := by decide +kernel
theorem kd_N_truthOf_1 : decode kc_N_truthOf 1 = .ok (.invokestatic 19, 3) := by decide +kernel
theorem kd_N_truthOf_4 : decode kc_N_truthOf 4 = .ok (.ifCond .ne 10, 3) := by decide +kernel
theorem kd_N_truthOf_7 : decode kc_N_truthOf 7 = .ok (.lload_n 0, 1) := by decide +kernel
theorem kd_N_truthOf_8 : decode kc_N_truthOf 8 = .ok (.invokestatic 31, 3) := by decide +kernel
theorem kd_N_truthOf_11 : decode kc_N_truthOf 11 = .ok (.ifCond .eq 7, 3) := by decide +kernel
theorem kd_N_truthOf_14 : decode kc_N_truthOf 14 = .ok (.lconst 0, 1) := by decide +kernel
theorem kd_N_truthOf_15 : decode kc_N_truthOf 15 = .ok (.goto 4, 3) := by decide +kernel
theorem kd_N_truthOf_18 : decode kc_N_truthOf 18 = .ok (.lconst 1, 1) := by decide +kernel
theorem kd_N_truthOf_19 : decode kc_N_truthOf 19 = .ok (.lreturn, 1) := by decide +kernel
theorem kd_N_isNan_0 : decode kc_N_isNan 0 = .ok (.lload_n 0, 1) := by decide +kernel
theorem kd_N_isNan_1 : decode kc_N_isNan 1 = .ok (.invokestatic 34, 3) := by decide +kernel
theorem kd_N_isNan_4 : decode kc_N_isNan 4 = .ok (.ldc2_w 37, 3) := by decide +kernel
theorem kd_N_isNan_7 : decode kc_N_isNan 7 = .ok (.lcmp, 1) := by decide +kernel
theorem kd_N_isNan_8 : decode kc_N_isNan 8 = .ok (.ifCond .le 7, 3) := by decide +kernel
theorem kd_N_isNan_11 : decode kc_N_isNan 11 = .ok (.iconst 1, 1) := by decide +kernel
theorem kd_N_isNan_12 : decode kc_N_isNan 12 = .ok (.goto 4, 3) := by decide +kernel
theorem kd_N_isNan_15 : decode kc_N_isNan 15 = .ok (.iconst 0, 1) := by decide +kernel
theorem kd_N_isNan_16 : decode kc_N_isNan 16 = .ok (.ireturn, 1) := by decide +kernel
theorem kd_D_setValue_0 : decode kc_D_setValue 0 = .ok (.aload_n 0, 1) := by decide +kernel
theorem kd_D_setValue_1 : decode kc_D_setValue 1 = .ok (.getfield 21, 3) := by decide +kernel
theorem kd_D_setValue_4 : decode kc_D_setValue 4 = .ok (.aload_n 0, 1) := by decide +kernel
theorem kd_D_setValue_5 : decode kc_D_setValue 5 = .ok (.getfield 25, 3) := by decide +kernel
theorem kd_D_setValue_8 : decode kc_D_setValue 8 = .ok (.invokestatic 29, 3) := by decide +kernel
theorem kd_D_setValue_11 : decode kc_D_setValue 11 = .ok (.iconst 4, 1) := by decide +kernel
theorem kd_D_setValue_12 : decode kc_D_setValue 12 = .ok (.imul, 1) := by decide +kernel
theorem kd_D_setValue_13 : decode kc_D_setValue 13 = .ok (.iload_n 1, 1) := by decide +kernel
theorem kd_D_setValue_14 : decode kc_D_setValue 14 = .ok (.iadd, 1) := by decide +kernel
theorem kd_D_setValue_15 : decode kc_D_setValue 15 = .ok (.lload_n 2, 1) := by decide +kernel
theorem kd_D_setValue_16 : decode kc_D_setValue 16 = .ok (.lastore, 1) := by decide +kernel
theorem kd_D_setValue_17 : decode kc_D_setValue 17 = .ok (.return_, 1) := by decide +kernel
theorem kd_S_next_0 : decode kc_S_next 0 = .ok (.aload_n 0, 1) := by decide +kernel
theorem kd_S_next_1 : decode kc_S_next 1 = .ok (.getfield 19, 3) := by decide +kernel
theorem kd_S_next_4 : decode kc_S_next 4 = .ok (.ifCond .ne 5, 3) := by decide +kernel
theorem kd_S_next_7 : decode kc_S_next 7 = .ok (.lconst 0, 1) := by decide +kernel
theorem kd_S_next_8 : decode kc_S_next 8 = .ok (.lreturn, 1) := by decide +kernel
theorem kd_S_next_9 : decode kc_S_next 9 = .ok (.aload_n 0, 1) := by decide +kernel
theorem kd_S_next_10 : decode kc_S_next 10 = .ok (.getfield 9, 3) := by decide +kernel
theorem kd_S_next_13 : decode kc_S_next 13 = .ok (.aload_n 0, 1) := by decide +kernel
theorem kd_S_next_14 : decode kc_S_next 14 = .ok (.getfield 15, 3) := by decide +kernel
theorem kd_S_next_17 : decode kc_S_next 17 = .ok (.laload, 1) := by decide +kernel
theorem kd_S_next_18 : decode kc_S_next 18 = .ok (.lstore_n 1, 1) := by decide +kernel
theorem kd_S_next_19 : decode kc_S_next 19 = .ok (.aload_n 0, 1) := by decide +kernel
theorem kd_S_next_20 : decode kc_S_next 20 = .ok (.aload_n 0, 1) := by decide +kernel
theorem kd_S_next_21 : decode kc_S_next 21 = .ok (.getfield 15, 3) := by decide +kernel
theorem kd_S_next_24 : decode kc_S_next 24 = .ok (.iconst 1, 1) := by decide +kernel
theorem kd_S_next_25 : decode kc_S_next 25 = .ok (.iadd, 1) := by decide +kernel
theorem kd_S_next_26 : decode kc_S_next 26 = .ok (.bipush 64, 2) := by decide +kernel
theorem kd_S_next_28 : decode kc_S_next 28 = .ok (.irem, 1) := by decide +kernel
theorem kd_S_next_29 : decode kc_S_next 29 = .ok (.putfield 15, 3) := by decide +kernel
theorem kd_S_next_32 : decode kc_S_next 32 = .ok (.aload_n 0, 1) := by decide +kernel
theorem kd_S_next_33 : decode kc_S_next 33 = .ok (.dup, 1) := by decide +kernel
theorem kd_S_next_34 : decode kc_S_next 34 = .ok (.getfield 19, 3) := by decide +kernel
theorem kd_S_next_37 : decode kc_S_next 37 = .ok (.iconst 1, 1) := by decide +kernel
theorem kd_S_next_38 : decode kc_S_next 38 = .ok (.isub, 1) := by decide +kernel
theorem kd_S_next_39 : decode kc_S_next 39 = .ok (.putfield 19, 3) := by decide +kernel
theorem kd_S_next_42 : decode kc_S_next 42 = .ok (.lload_n 1, 1) := by decide +kernel
theorem kd_S_next_43 : decode kc_S_next 43 = .ok (.lreturn, 1) := by decide +kernel
theorem kd_D_close_0 : decode kc_D_close 0 = .ok (.aload_n 0, 1) := by decide +kernel
theorem kd_D_close_1 : decode kc_D_close 1 = .ok (.lload_n 1, 1) := by decide +kernel
theorem kd_D_close_2 : decode kc_D_close 2 = .ok (.putfield 33, 3) := by decide +kernel
theorem kd_D_close_5 : decode kc_D_close 5 = .ok (.aload_n 0, 1) := by decide +kernel
theorem kd_D_close_6 : decode kc_D_close 6 = .ok (.dup, 1) := by decide +kernel
theorem kd_D_close_7 : decode kc_D_close 7 = .ok (.getfield 25, 3) := by decide +kernel
theorem kd_D_close_10 : decode kc_D_close 10 = .ok (.iconst 1, 1) := by decide +kernel
theorem kd_D_close_11 : decode kc_D_close 11 = .ok (.iadd, 1) := by decide +kernel
theorem kd_D_close_12 : decode kc_D_close 12 = .ok (.putfield 25, 3) := by decide +kernel
theorem kd_D_close_15 : decode kc_D_close 15 = .ok (.return_, 1) := by decide +kernel
theorem kd_C_first_0 : decode kc_C_first 0 = .ok (.iload_n 1, 1) := by decide +kernel
theorem kd_C_first_1 : decode kc_C_first 1 = .ok (.istore 5, 2) := by decide +kernel
theorem kd_C_first_3 : decode kc_C_first 3 = .ok (.iconst 0, 1) := by decide +kernel
theorem kd_C_first_4 : decode kc_C_first 4 = .ok (.istore 6, 2) := by decide +kernel
theorem kd_C_first_6 : decode kc_C_first 6 = .ok (.iload 6, 2) := by decide +kernel
theorem kd_C_first_8 : decode kc_C_first 8 = .ok (.bipush 16, 2) := by decide +kernel
theorem kd_C_first_10 : decode kc_C_first 10 = .ok (.if_icmp .ge 51, 3) := by decide +kernel
theorem kd_C_first_13 : decode kc_C_first 13 = .ok (.iload 5, 2) := by decide +kernel
theorem kd_C_first_15 : decode kc_C_first 15 = .ok (.iconst (-1), 1) := by decide +kernel
theorem kd_C_first_16 : decode kc_C_first 16 = .ok (.if_icmp .eq 45, 3) := by decide +kernel
theorem kd_C_first_19 : decode kc_C_first 19 = .ok (.aload_n 0, 1) := by decide +kernel
theorem kd_C_first_20 : decode kc_C_first 20 = .ok (.getfield 22, 3) := by decide +kernel
theorem kd_C_first_23 : decode kc_C_first 23 = .ok (.iload 5, 2) := by decide +kernel
theorem kd_C_first_25 : decode kc_C_first 25 = .ok (.iload_n 2, 1) := by decide +kernel
theorem kd_C_first_26 : decode kc_C_first 26 = .ok (.iload_n 3, 1) := by decide +kernel
theorem kd_C_first_27 : decode kc_C_first 27 = .ok (.iload 4, 2) := by decide +kernel
theorem kd_C_first_29 : decode kc_C_first 29 = .ok (.invokevirtual 30, 3) := by decide +kernel
theorem kd_C_first_32 : decode kc_C_first 32 = .ok (.istore 7, 2) := by decide +kernel
theorem kd_C_first_34 : decode kc_C_first 34 = .ok (.iload 7, 2) := by decide +kernel
theorem kd_C_first_36 : decode kc_C_first 36 = .ok (.iconst (-1), 1) := by decide +kernel
theorem kd_C_first_37 : decode kc_C_first 37 = .ok (.if_icmp .eq 6, 3) := by decide +kernel
theorem kd_C_first_40 : decode kc_C_first 40 = .ok (.iload 7, 2) := by decide +kernel
theorem kd_C_first_42 : decode kc_C_first 42 = .ok (.ireturn, 1) := by decide +kernel
theorem kd_C_first_43 : decode kc_C_first 43 = .ok (.aload_n 0, 1) := by decide +kernel
theorem kd_C_first_44 : decode kc_C_first 44 = .ok (.getfield 18, 3) := by decide +kernel
theorem kd_C_first_47 : decode kc_C_first 47 = .ok (.getfield 36, 3) := by decide +kernel
theorem kd_C_first_50 : decode kc_C_first 50 = .ok (.iload 5, 2) := by decide +kernel
theorem kd_C_first_52 : decode kc_C_first 52 = .ok (.iaload, 1) := by decide +kernel
theorem kd_C_first_53 : decode kc_C_first 53 = .ok (.istore 5, 2) := by decide +kernel
theorem kd_C_first_55 : decode kc_C_first 55 = .ok (.iinc 6 1, 3) := by decide +kernel
theorem kd_C_first_58 : decode kc_C_first 58 = .ok (.goto (-52), 3) := by decide +kernel
theorem kd_C_first_61 : decode kc_C_first 61 = .ok (.iconst (-1), 1) := by decide +kernel
theorem kd_C_first_62 : decode kc_C_first 62 = .ok (.ireturn, 1) := by decide +kernel
theorem kd_S_add_0 : decode kc_S_add 0 = .ok (.aload_n 0, 1) := by decide +kernel
theorem kd_S_add_1 : decode kc_S_add 1 = .ok (.getfield 9, 3) := by decide +kernel
theorem kd_S_add_4 : decode kc_S_add 4 = .ok (.aload_n 0, 1) := by decide +kernel
theorem kd_S_add_5 : decode kc_S_add 5 = .ok (.getfield 15, 3) := by decide +kernel
theorem kd_S_add_8 : decode kc_S_add 8 = .ok (.aload_n 0, 1) := by decide +kernel
theorem kd_S_add_9 : decode kc_S_add 9 = .ok (.getfield 19, 3) := by decide +kernel
theorem kd_S_add_12 : decode kc_S_add 12 = .ok (.iadd, 1) := by decide +kernel
theorem kd_S_add_13 : decode kc_S_add 13 = .ok (.bipush 64, 2) := by decide +kernel
theorem kd_S_add_15 : decode kc_S_add 15 = .ok (.irem, 1) := by decide +kernel
theorem kd_S_add_16 : decode kc_S_add 16 = .ok (.lload_n 1, 1) := by decide +kernel
theorem kd_S_add_17 : decode kc_S_add 17 = .ok (.lastore, 1) := by decide +kernel
theorem kd_S_add_18 : decode kc_S_add 18 = .ok (.aload_n 0, 1) := by decide +kernel
theorem kd_S_add_19 : decode kc_S_add 19 = .ok (.dup, 1) := by decide +kernel
theorem kd_S_add_20 : decode kc_S_add 20 = .ok (.getfield 19, 3) := by decide +kernel
theorem kd_S_add_23 : decode kc_S_add 23 = .ok (.iconst 1, 1) := by decide +kernel
theorem kd_S_add_24 : decode kc_S_add 24 = .ok (.iadd, 1) := by decide +kernel
theorem kd_S_add_25 : decode kc_S_add 25 = .ok (.putfield 19, 3) := by decide +kernel
theorem kd_S_add_28 : decode kc_S_add 28 = .ok (.return_, 1) := by decide +kernel
theorem kd_D_keeps_0 : decode kc_D_keeps 0 = .ok (.iload_n 1, 1) := by decide +kernel
theorem kd_D_keeps_1 : decode kc_D_keeps 1 = .ok (.ifCond .lt 26, 3) := by decide +kernel
theorem kd_D_keeps_4 : decode kc_D_keeps 4 = .ok (.iload_n 1, 1) := by decide +kernel
theorem kd_D_keeps_5 : decode kc_D_keeps 5 = .ok (.aload_n 0, 1) := by decide +kernel
theorem kd_D_keeps_6 : decode kc_D_keeps 6 = .ok (.getfield 25, 3) := by decide +kernel
theorem kd_D_keeps_9 : decode kc_D_keeps 9 = .ok (.if_icmp .ge 18, 3) := by decide +kernel
theorem kd_D_keeps_12 : decode kc_D_keeps 12 = .ok (.aload_n 0, 1) := by decide +kernel
theorem kd_D_keeps_13 : decode kc_D_keeps 13 = .ok (.getfield 25, 3) := by decide +kernel
theorem kd_D_keeps_16 : decode kc_D_keeps 16 = .ok (.iload_n 1, 1) := by decide +kernel
theorem kd_D_keeps_17 : decode kc_D_keeps 17 = .ok (.isub, 1) := by decide +kernel
theorem kd_D_keeps_18 : decode kc_D_keeps 18 = .ok (.bipush 64, 2) := by decide +kernel
theorem kd_D_keeps_20 : decode kc_D_keeps 20 = .ok (.if_icmp .gt 7, 3) := by decide +kernel
theorem kd_D_keeps_23 : decode kc_D_keeps 23 = .ok (.iconst 1, 1) := by decide +kernel
theorem kd_D_keeps_24 : decode kc_D_keeps 24 = .ok (.goto 4, 3) := by decide +kernel
theorem kd_D_keeps_27 : decode kc_D_keeps 27 = .ok (.iconst 0, 1) := by decide +kernel
theorem kd_D_keeps_28 : decode kc_D_keeps 28 = .ok (.ireturn, 1) := by decide +kernel
theorem kd_D_objectOf_0 : decode kc_D_objectOf 0 = .ok (.aload_n 0, 1) := by decide +kernel
theorem kd_D_objectOf_1 : decode kc_D_objectOf 1 = .ok (.getfield 9, 3) := by decide +kernel
theorem kd_D_objectOf_4 : decode kc_D_objectOf 4 = .ok (.iload_n 1, 1) := by decide +kernel
theorem kd_D_objectOf_5 : decode kc_D_objectOf 5 = .ok (.invokestatic 29, 3) := by decide +kernel
theorem kd_D_objectOf_8 : decode kc_D_objectOf 8 = .ok (.iaload, 1) := by decide +kernel
theorem kd_D_objectOf_9 : decode kc_D_objectOf 9 = .ok (.ireturn, 1) := by decide +kernel
theorem kd_D_methodOf_0 : decode kc_D_methodOf 0 = .ok (.aload_n 0, 1) := by decide +kernel
theorem kd_D_methodOf_1 : decode kc_D_methodOf 1 = .ok (.getfield 15, 3) := by decide +kernel
theorem kd_D_methodOf_4 : decode kc_D_methodOf 4 = .ok (.iload_n 1, 1) := by decide +kernel
theorem kd_D_methodOf_5 : decode kc_D_methodOf 5 = .ok (.invokestatic 29, 3) := by decide +kernel
theorem kd_D_methodOf_8 : decode kc_D_methodOf 8 = .ok (.iaload, 1) := by decide +kernel
theorem kd_D_methodOf_9 : decode kc_D_methodOf 9 = .ok (.ireturn, 1) := by decide +kernel
theorem kd_D_argumentsOf_0 : decode kc_D_argumentsOf 0 = .ok (.aload_n 0, 1) := by decide +kernel
theorem kd_D_argumentsOf_1 : decode kc_D_argumentsOf 1 = .ok (.getfield 18, 3) := by decide +kernel
theorem kd_D_argumentsOf_4 : decode kc_D_argumentsOf 4 = .ok (.iload_n 1, 1) := by decide +kernel
theorem kd_D_argumentsOf_5 : decode kc_D_argumentsOf 5 = .ok (.invokestatic 29, 3) := by decide +kernel
theorem kd_D_argumentsOf_8 : decode kc_D_argumentsOf 8 = .ok (.iaload, 1) := by decide +kernel
theorem kd_D_argumentsOf_9 : decode kc_D_argumentsOf 9 = .ok (.ireturn, 1) := by decide +kernel
theorem kd_D_valueOf_0 : decode kc_D_valueOf 0 = .ok (.aload_n 0, 1) := by decide +kernel
theorem kd_D_valueOf_1 : decode kc_D_valueOf 1 = .ok (.getfield 21, 3) := by decide +kernel
theorem kd_D_valueOf_4 : decode kc_D_valueOf 4 = .ok (.iload_n 1, 1) := by decide +kernel
theorem kd_D_valueOf_5 : decode kc_D_valueOf 5 = .ok (.invokestatic 29, 3) := by decide +kernel
theorem kd_D_valueOf_8 : decode kc_D_valueOf 8 = .ok (.iconst 4, 1) := by decide +kernel
theorem kd_D_valueOf_9 : decode kc_D_valueOf 9 = .ok (.imul, 1) := by decide +kernel
theorem kd_D_valueOf_10 : decode kc_D_valueOf 10 = .ok (.iload_n 2, 1) := by decide +kernel
theorem kd_D_valueOf_11 : decode kc_D_valueOf 11 = .ok (.iadd, 1) := by decide +kernel
theorem kd_D_valueOf_12 : decode kc_D_valueOf 12 = .ok (.laload, 1) := by decide +kernel
theorem kd_D_valueOf_13 : decode kc_D_valueOf 13 = .ok (.lreturn, 1) := by decide +kernel
