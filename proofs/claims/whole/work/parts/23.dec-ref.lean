theorem dX5_init_0 : decode cX5_init 0 = .ok (.aload_n 0, 1) := by decide +kernel
theorem dX5_init_1 : decode cX5_init 1 = .ok (.invokespecial 1, 3) := by decide +kernel
theorem dX5_init_4 : decode cX5_init 4 = .ok (.aload_n 0, 1) := by decide +kernel
theorem dX5_init_5 : decode cX5_init 5 = .ok (.bipush 8, 2) := by decide +kernel
theorem dX5_init_7 : decode cX5_init 7 = .ok (.newarray .int, 2) := by decide +kernel
theorem dX5_init_9 : decode cX5_init 9 = .ok (.putfield 7, 3) := by decide +kernel
theorem dX5_init_12 : decode cX5_init 12 = .ok (.aload_n 0, 1) := by decide +kernel
theorem dX5_init_13 : decode cX5_init 13 = .ok (.bipush 8, 2) := by decide +kernel
theorem dX5_init_15 : decode cX5_init 15 = .ok (.newarray .int, 2) := by decide +kernel
theorem dX5_init_17 : decode cX5_init 17 = .ok (.putfield 13, 3) := by decide +kernel
theorem dX5_init_20 : decode cX5_init 20 = .ok (.aload_n 0, 1) := by decide +kernel
theorem dX5_init_21 : decode cX5_init 21 = .ok (.sipush 136, 3) := by decide +kernel
theorem dX5_init_24 : decode cX5_init 24 = .ok (.newarray .long, 2) := by decide +kernel
theorem dX5_init_26 : decode cX5_init 26 = .ok (.putfield 16, 3) := by decide +kernel
theorem dX5_init_29 : decode cX5_init 29 = .ok (.aload_n 0, 1) := by decide +kernel
theorem dX5_init_30 : decode cX5_init 30 = .ok (.sipush 136, 3) := by decide +kernel
theorem dX5_init_33 : decode cX5_init 33 = .ok (.newarray .boolean, 2) := by decide +kernel
theorem dX5_init_35 : decode cX5_init 35 = .ok (.putfield 20, 3) := by decide +kernel
theorem dX5_init_38 : decode cX5_init 38 = .ok (.aload_n 0, 1) := by decide +kernel
theorem dX5_init_39 : decode cX5_init 39 = .ok (.bipush 17, 2) := by decide +kernel
theorem dX5_init_41 : decode cX5_init 41 = .ok (.newarray .long, 2) := by decide +kernel
theorem dX5_init_43 : decode cX5_init 43 = .ok (.putfield 24, 3) := by decide +kernel
theorem dX5_init_46 : decode cX5_init 46 = .ok (.aload_n 0, 1) := by decide +kernel
theorem dX5_init_47 : decode cX5_init 47 = .ok (.bipush 9, 2) := by decide +kernel
theorem dX5_init_49 : decode cX5_init 49 = .ok (.newarray .long, 2) := by decide +kernel
theorem dX5_init_51 : decode cX5_init 51 = .ok (.putfield 27, 3) := by decide +kernel
theorem dX5_init_54 : decode cX5_init 54 = .ok (.aload_n 0, 1) := by decide +kernel
theorem dX5_init_55 : decode cX5_init 55 = .ok (.bipush 17, 2) := by decide +kernel
theorem dX5_init_57 : decode cX5_init 57 = .ok (.newarray .boolean, 2) := by decide +kernel
theorem dX5_init_59 : decode cX5_init 59 = .ok (.putfield 30, 3) := by decide +kernel
theorem dX5_init_62 : decode cX5_init 62 = .ok (.aload_n 0, 1) := by decide +kernel
theorem dX5_init_63 : decode cX5_init 63 = .ok (.bipush 16, 2) := by decide +kernel
theorem dX5_init_65 : decode cX5_init 65 = .ok (.newarray .int, 2) := by decide +kernel
theorem dX5_init_67 : decode cX5_init 67 = .ok (.putfield 33, 3) := by decide +kernel
theorem dX5_init_70 : decode cX5_init 70 = .ok (.aload_n 0, 1) := by decide +kernel
theorem dX5_init_71 : decode cX5_init 71 = .ok (.bipush 16, 2) := by decide +kernel
theorem dX5_init_73 : decode cX5_init 73 = .ok (.newarray .int, 2) := by decide +kernel
theorem dX5_init_75 : decode cX5_init 75 = .ok (.putfield 36, 3) := by decide +kernel
theorem dX5_init_78 : decode cX5_init 78 = .ok (.aload_n 0, 1) := by decide +kernel
theorem dX5_init_79 : decode cX5_init 79 = .ok (.bipush 9, 2) := by decide +kernel
theorem dX5_init_81 : decode cX5_init 81 = .ok (.newarray .long, 2) := by decide +kernel
theorem dX5_init_83 : decode cX5_init 83 = .ok (.putfield 39, 3) := by decide +kernel
theorem dX5_init_86 : decode cX5_init 86 = .ok (.aload_n 0, 1) := by decide +kernel
theorem dX5_init_87 : decode cX5_init 87 = .ok (.bipush 9, 2) := by decide +kernel
theorem dX5_init_89 : decode cX5_init 89 = .ok (.newarray .long, 2) := by decide +kernel
theorem dX5_init_91 : decode cX5_init 91 = .ok (.putfield 42, 3) := by decide +kernel
theorem dX5_init_94 : decode cX5_init 94 = .ok (.iconst 1, 1) := by decide +kernel
theorem dX5_init_95 : decode cX5_init 95 = .ok (.istore_n 1, 1) := by decide +kernel
theorem dX5_init_96 : decode cX5_init 96 = .ok (.iload_n 1, 1) := by decide +kernel
theorem dX5_init_97 : decode cX5_init 97 = .ok (.bipush 16, 2) := by decide +kernel
theorem dX5_init_99 : decode cX5_init 99 = .ok (.if_icmp .gt 23, 3) := by decide +kernel
theorem dX5_init_102 : decode cX5_init 102 = .ok (.aload_n 0, 1) := by decide +kernel
theorem dX5_init_103 : decode cX5_init 103 = .ok (.getfield 24, 3) := by decide +kernel
theorem dX5_init_106 : decode cX5_init 106 = .ok (.iload_n 1, 1) := by decide +kernel
theorem dX5_init_107 : decode cX5_init 107 = .ok (.iload_n 1, 1) := by decide +kernel
theorem dX5_init_108 : decode cX5_init 108 = .ok (.i2l, 1) := by decide +kernel
theorem dX5_init_109 : decode cX5_init 109 = .ok (.ldc2_w 45, 3) := by decide +kernel
theorem dX5_init_112 : decode cX5_init 112 = .ok (.invokestatic 47, 3) := by decide +kernel
theorem dX5_init_115 : decode cX5_init 115 = .ok (.lastore, 1) := by decide +kernel
theorem dX5_init_116 : decode cX5_init 116 = .ok (.iinc 1 1, 3) := by decide +kernel
theorem dX5_init_119 : decode cX5_init 119 = .ok (.goto (-23), 3) := by decide +kernel
theorem dX5_init_122 : decode cX5_init 122 = .ok (.return_, 1) := by decide +kernel
theorem dX5_thrown_0 : decode cX5_thrown 0 = .ok (.aload_n 0, 1) := by decide +kernel
theorem dX5_thrown_1 : decode cX5_thrown 1 = .ok (.getfield 51, 3) := by decide +kernel
theorem dX5_thrown_4 : decode cX5_thrown 4 = .ok (.ireturn, 1) := by decide +kernel
theorem dX5_raise_0 : decode cX5_raise 0 = .ok (.aload_n 0, 1) := by decide +kernel
theorem dX5_raise_1 : decode cX5_raise 1 = .ok (.iload_n 1, 1) := by decide +kernel
theorem dX5_raise_2 : decode cX5_raise 2 = .ok (.putfield 51, 3) := by decide +kernel
theorem dX5_raise_5 : decode cX5_raise 5 = .ok (.iconst 0, 1) := by decide +kernel
theorem dX5_raise_6 : decode cX5_raise 6 = .ok (.ireturn, 1) := by decide +kernel
theorem dX5_reduced_0 : decode cX5_reduced 0 = .ok (.lload_n 0, 1) := by decide +kernel
theorem dX5_reduced_1 : decode cX5_reduced 1 = .ok (.ldc2_w 55, 3) := by decide +kernel
theorem dX5_reduced_4 : decode cX5_reduced 4 = .ok (.land, 1) := by decide +kernel
theorem dX5_reduced_5 : decode cX5_reduced 5 = .ok (.lload_n 0, 1) := by decide +kernel
theorem dX5_reduced_6 : decode cX5_reduced 6 = .ok (.bipush 61, 2) := by decide +kernel
theorem dX5_reduced_8 : decode cX5_reduced 8 = .ok (.lushr, 1) := by decide +kernel
theorem dX5_reduced_9 : decode cX5_reduced 9 = .ok (.ladd, 1) := by decide +kernel
theorem dX5_reduced_10 : decode cX5_reduced 10 = .ok (.lstore_n 2, 1) := by decide +kernel
theorem dX5_reduced_11 : decode cX5_reduced 11 = .ok (.lload_n 2, 1) := by decide +kernel
theorem dX5_reduced_12 : decode cX5_reduced 12 = .ok (.ldc2_w 55, 3) := by decide +kernel
theorem dX5_reduced_15 : decode cX5_reduced 15 = .ok (.lcmp, 1) := by decide +kernel
theorem dX5_reduced_16 : decode cX5_reduced 16 = .ok (.ifCond .lt 11, 3) := by decide +kernel
theorem dX5_reduced_19 : decode cX5_reduced 19 = .ok (.lload_n 2, 1) := by decide +kernel
theorem dX5_reduced_20 : decode cX5_reduced 20 = .ok (.ldc2_w 55, 3) := by decide +kernel
theorem dX5_reduced_23 : decode cX5_reduced 23 = .ok (.lsub, 1) := by decide +kernel
theorem dX5_reduced_24 : decode cX5_reduced 24 = .ok (.goto 4, 3) := by decide +kernel
theorem dX5_reduced_27 : decode cX5_reduced 27 = .ok (.lload_n 2, 1) := by decide +kernel
theorem dX5_reduced_28 : decode cX5_reduced 28 = .ok (.lreturn, 1) := by decide +kernel
theorem dX5_modulo_0 : decode cX5_modulo 0 = .ok (.lload_n 0, 1) := by decide +kernel
theorem dX5_modulo_1 : decode cX5_modulo 1 = .ok (.ldc2_w 55, 3) := by decide +kernel
theorem dX5_modulo_4 : decode cX5_modulo 4 = .ok (.lrem, 1) := by decide +kernel
theorem dX5_modulo_5 : decode cX5_modulo 5 = .ok (.lstore_n 2, 1) := by decide +kernel
theorem dX5_modulo_6 : decode cX5_modulo 6 = .ok (.lload_n 2, 1) := by decide +kernel
theorem dX5_modulo_7 : decode cX5_modulo 7 = .ok (.lconst 0, 1) := by decide +kernel
theorem dX5_modulo_8 : decode cX5_modulo 8 = .ok (.lcmp, 1) := by decide +kernel
theorem dX5_modulo_9 : decode cX5_modulo 9 = .ok (.ifCond .ge 11, 3) := by decide +kernel
theorem dX5_modulo_12 : decode cX5_modulo 12 = .ok (.lload_n 2, 1) := by decide +kernel
theorem dX5_modulo_13 : decode cX5_modulo 13 = .ok (.ldc2_w 55, 3) := by decide +kernel
theorem dX5_modulo_16 : decode cX5_modulo 16 = .ok (.ladd, 1) := by decide +kernel
theorem dX5_modulo_17 : decode cX5_modulo 17 = .ok (.goto 4, 3) := by decide +kernel
theorem dX5_modulo_20 : decode cX5_modulo 20 = .ok (.lload_n 2, 1) := by decide +kernel
theorem dX5_modulo_21 : decode cX5_modulo 21 = .ok (.lreturn, 1) := by decide +kernel
theorem dX5_plus_0 : decode cX5_plus 0 = .ok (.lload_n 0, 1) := by decide +kernel
theorem dX5_plus_1 : decode cX5_plus 1 = .ok (.lload_n 2, 1) := by decide +kernel
theorem dX5_plus_2 : decode cX5_plus 2 = .ok (.ladd, 1) := by decide +kernel
theorem dX5_plus_3 : decode cX5_plus 3 = .ok (.invokestatic 57, 3) := by decide +kernel
theorem dX5_plus_6 : decode cX5_plus 6 = .ok (.lreturn, 1) := by decide +kernel
theorem dX5_minus_0 : decode cX5_minus 0 = .ok (.lload_n 0, 1) := by decide +kernel
theorem dX5_minus_1 : decode cX5_minus 1 = .ok (.ldc2_w 55, 3) := by decide +kernel
theorem dX5_minus_4 : decode cX5_minus 4 = .ok (.ladd, 1) := by decide +kernel
theorem dX5_minus_5 : decode cX5_minus 5 = .ok (.lload_n 2, 1) := by decide +kernel
theorem dX5_minus_6 : decode cX5_minus 6 = .ok (.lsub, 1) := by decide +kernel
theorem dX5_minus_7 : decode cX5_minus 7 = .ok (.invokestatic 57, 3) := by decide +kernel
theorem dX5_minus_10 : decode cX5_minus 10 = .ok (.lreturn, 1) := by decide +kernel
theorem dX5_times_0 : decode cX5_times 0 = .ok (.lload_n 0, 1) := by decide +kernel
theorem dX5_times_1 : decode cX5_times 1 = .ok (.ldc2_w 61, 3) := by decide +kernel
theorem dX5_times_4 : decode cX5_times 4 = .ok (.land, 1) := by decide +kernel
theorem dX5_times_5 : decode cX5_times 5 = .ok (.lstore 4, 2) := by decide +kernel
theorem dX5_times_7 : decode cX5_times 7 = .ok (.lload_n 0, 1) := by decide +kernel
theorem dX5_times_8 : decode cX5_times 8 = .ok (.bipush 31, 2) := by decide +kernel
theorem dX5_times_10 : decode cX5_times 10 = .ok (.lushr, 1) := by decide +kernel
theorem dX5_times_11 : decode cX5_times 11 = .ok (.lstore 6, 2) := by decide +kernel
theorem dX5_times_13 : decode cX5_times 13 = .ok (.lload_n 2, 1) := by decide +kernel
theorem dX5_times_14 : decode cX5_times 14 = .ok (.ldc2_w 61, 3) := by decide +kernel
theorem dX5_times_17 : decode cX5_times 17 = .ok (.land, 1) := by decide +kernel
theorem dX5_times_18 : decode cX5_times 18 = .ok (.lstore 8, 2) := by decide +kernel
theorem dX5_times_20 : decode cX5_times 20 = .ok (.lload_n 2, 1) := by decide +kernel
theorem dX5_times_21 : decode cX5_times 21 = .ok (.bipush 31, 2) := by decide +kernel
theorem dX5_times_23 : decode cX5_times 23 = .ok (.lushr, 1) := by decide +kernel
theorem dX5_times_24 : decode cX5_times 24 = .ok (.lstore 10, 2) := by decide +kernel
theorem dX5_times_26 : decode cX5_times 26 = .ok (.lload 6, 2) := by decide +kernel
theorem dX5_times_28 : decode cX5_times 28 = .ok (.lload 8, 2) := by decide +kernel
theorem dX5_times_30 : decode cX5_times 30 = .ok (.lmul, 1) := by decide +kernel
theorem dX5_times_31 : decode cX5_times 31 = .ok (.lload 4, 2) := by decide +kernel
theorem dX5_times_33 : decode cX5_times 33 = .ok (.lload 10, 2) := by decide +kernel
theorem dX5_times_35 : decode cX5_times 35 = .ok (.lmul, 1) := by decide +kernel
theorem dX5_times_36 : decode cX5_times 36 = .ok (.ladd, 1) := by decide +kernel
theorem dX5_times_37 : decode cX5_times 37 = .ok (.lstore 12, 2) := by decide +kernel
theorem dX5_times_39 : decode cX5_times 39 = .ok (.ldc2_w 63, 3) := by decide +kernel
theorem dX5_times_42 : decode cX5_times 42 = .ok (.lload 6, 2) := by decide +kernel
theorem dX5_times_44 : decode cX5_times 44 = .ok (.lmul, 1) := by decide +kernel
theorem dX5_times_45 : decode cX5_times 45 = .ok (.lload 10, 2) := by decide +kernel
theorem dX5_times_47 : decode cX5_times 47 = .ok (.lmul, 1) := by decide +kernel
theorem dX5_times_48 : decode cX5_times 48 = .ok (.invokestatic 57, 3) := by decide +kernel
theorem dX5_times_51 : decode cX5_times 51 = .ok (.lload 12, 2) := by decide +kernel
theorem dX5_times_53 : decode cX5_times 53 = .ok (.bipush 30, 2) := by decide +kernel
theorem dX5_times_55 : decode cX5_times 55 = .ok (.lushr, 1) := by decide +kernel
theorem dX5_times_56 : decode cX5_times 56 = .ok (.invokestatic 65, 3) := by decide +kernel
theorem dX5_times_59 : decode cX5_times 59 = .ok (.lstore 14, 2) := by decide +kernel
theorem dX5_times_61 : decode cX5_times 61 = .ok (.lload 14, 2) := by decide +kernel
theorem dX5_times_63 : decode cX5_times 63 = .ok (.lload 12, 2) := by decide +kernel
theorem dX5_times_65 : decode cX5_times 65 = .ok (.ldc2_w 68, 3) := by decide +kernel
theorem dX5_times_68 : decode cX5_times 68 = .ok (.land, 1) := by decide +kernel
theorem dX5_times_69 : decode cX5_times 69 = .ok (.bipush 31, 2) := by decide +kernel
theorem dX5_times_71 : decode cX5_times 71 = .ok (.lshl, 1) := by decide +kernel
theorem dX5_times_72 : decode cX5_times 72 = .ok (.invokestatic 57, 3) := by decide +kernel
theorem dX5_times_75 : decode cX5_times 75 = .ok (.invokestatic 65, 3) := by decide +kernel
theorem dX5_times_78 : decode cX5_times 78 = .ok (.lstore 14, 2) := by decide +kernel
theorem dX5_times_80 : decode cX5_times 80 = .ok (.lload 14, 2) := by decide +kernel
theorem dX5_times_82 : decode cX5_times 82 = .ok (.lload 4, 2) := by decide +kernel
theorem dX5_times_84 : decode cX5_times 84 = .ok (.lload 8, 2) := by decide +kernel
theorem dX5_times_86 : decode cX5_times 86 = .ok (.lmul, 1) := by decide +kernel
theorem dX5_times_87 : decode cX5_times 87 = .ok (.invokestatic 57, 3) := by decide +kernel
theorem dX5_times_90 : decode cX5_times 90 = .ok (.invokestatic 65, 3) := by decide +kernel
theorem dX5_times_93 : decode cX5_times 93 = .ok (.lreturn, 1) := by decide +kernel
theorem dX5_power_0 : decode cX5_power 0 = .ok (.lconst 1, 1) := by decide +kernel
theorem dX5_power_1 : decode cX5_power 1 = .ok (.lstore 4, 2) := by decide +kernel
theorem dX5_power_3 : decode cX5_power 3 = .ok (.lload_n 0, 1) := by decide +kernel
theorem dX5_power_4 : decode cX5_power 4 = .ok (.lstore 6, 2) := by decide +kernel
theorem dX5_power_6 : decode cX5_power 6 = .ok (.lload_n 2, 1) := by decide +kernel
theorem dX5_power_7 : decode cX5_power 7 = .ok (.lstore 8, 2) := by decide +kernel
theorem dX5_power_9 : decode cX5_power 9 = .ok (.lload 8, 2) := by decide +kernel
theorem dX5_power_11 : decode cX5_power 11 = .ok (.lconst 0, 1) := by decide +kernel
theorem dX5_power_12 : decode cX5_power 12 = .ok (.lcmp, 1) := by decide +kernel
theorem dX5_power_13 : decode cX5_power 13 = .ok (.ifCond .le 39, 3) := by decide +kernel
theorem dX5_power_16 : decode cX5_power 16 = .ok (.lload 8, 2) := by decide +kernel
theorem dX5_power_18 : decode cX5_power 18 = .ok (.lconst 1, 1) := by decide +kernel
theorem dX5_power_19 : decode cX5_power 19 = .ok (.land, 1) := by decide +kernel
theorem dX5_power_20 : decode cX5_power 20 = .ok (.lconst 1, 1) := by decide +kernel
theorem dX5_power_21 : decode cX5_power 21 = .ok (.lcmp, 1) := by decide +kernel
theorem dX5_power_22 : decode cX5_power 22 = .ok (.ifCond .ne 12, 3) := by decide +kernel
theorem dX5_power_25 : decode cX5_power 25 = .ok (.lload 4, 2) := by decide +kernel
theorem dX5_power_27 : decode cX5_power 27 = .ok (.lload 6, 2) := by decide +kernel
theorem dX5_power_29 : decode cX5_power 29 = .ok (.invokestatic 70, 3) := by decide +kernel
theorem dX5_power_32 : decode cX5_power 32 = .ok (.lstore 4, 2) := by decide +kernel
theorem dX5_power_34 : decode cX5_power 34 = .ok (.lload 6, 2) := by decide +kernel
theorem dX5_power_36 : decode cX5_power 36 = .ok (.lload 6, 2) := by decide +kernel
theorem dX5_power_38 : decode cX5_power 38 = .ok (.invokestatic 70, 3) := by decide +kernel
theorem dX5_power_41 : decode cX5_power 41 = .ok (.lstore 6, 2) := by decide +kernel
theorem dX5_power_43 : decode cX5_power 43 = .ok (.lload 8, 2) := by decide +kernel
theorem dX5_power_45 : decode cX5_power 45 = .ok (.iconst 1, 1) := by decide +kernel
theorem dX5_power_46 : decode cX5_power 46 = .ok (.lshr, 1) := by decide +kernel
theorem dX5_power_47 : decode cX5_power 47 = .ok (.lstore 8, 2) := by decide +kernel
theorem dX5_power_49 : decode cX5_power 49 = .ok (.goto (-40), 3) := by decide +kernel
theorem dX5_power_52 : decode cX5_power 52 = .ok (.lload 4, 2) := by decide +kernel
theorem dX5_power_54 : decode cX5_power 54 = .ok (.lreturn, 1) := by decide +kernel
theorem dX5_stepped_0 : decode cX5_stepped 0 = .ok (.lload_n 0, 1) := by decide +kernel
theorem dX5_stepped_1 : decode cX5_stepped 1 = .ok (.ldc2_w 73, 3) := by decide +kernel
theorem dX5_stepped_4 : decode cX5_stepped 4 = .ok (.lmul, 1) := by decide +kernel
theorem dX5_stepped_5 : decode cX5_stepped 5 = .ok (.ldc2_w 75, 3) := by decide +kernel
theorem dX5_stepped_8 : decode cX5_stepped 8 = .ok (.ladd, 1) := by decide +kernel
theorem dX5_stepped_9 : decode cX5_stepped 9 = .ok (.lreturn, 1) := by decide +kernel
theorem dX5_isSplit_0 : decode cX5_isSplit 0 = .ok (.iload_n 0, 1) := by decide +kernel
theorem dX5_isSplit_1 : decode cX5_isSplit 1 = .ok (.ifCond .lt 13, 3) := by decide +kernel
theorem dX5_isSplit_4 : decode cX5_isSplit 4 = .ok (.iload_n 0, 1) := by decide +kernel
theorem dX5_isSplit_5 : decode cX5_isSplit 5 = .ok (.bipush 8, 2) := by decide +kernel
theorem dX5_isSplit_7 : decode cX5_isSplit 7 = .ok (.if_icmp .ge 7, 3) := by decide +kernel
theorem dX5_isSplit_10 : decode cX5_isSplit 10 = .ok (.iconst 1, 1) := by decide +kernel
theorem dX5_isSplit_11 : decode cX5_isSplit 11 = .ok (.goto 4, 3) := by decide +kernel
theorem dX5_isSplit_14 : decode cX5_isSplit 14 = .ok (.iconst 0, 1) := by decide +kernel
theorem dX5_isSplit_15 : decode cX5_isSplit 15 = .ok (.ireturn, 1) := by decide +kernel
theorem dX5_isPlace_0 : decode cX5_isPlace 0 = .ok (.iload_n 1, 1) := by decide +kernel
theorem dX5_isPlace_1 : decode cX5_isPlace 1 = .ok (.invokestatic 77, 3) := by decide +kernel
theorem dX5_isPlace_4 : decode cX5_isPlace 4 = .ok (.ifCond .eq 22, 3) := by decide +kernel
theorem dX5_isPlace_7 : decode cX5_isPlace 7 = .ok (.iload_n 2, 1) := by decide +kernel
theorem dX5_isPlace_8 : decode cX5_isPlace 8 = .ok (.iconst 1, 1) := by decide +kernel
theorem dX5_isPlace_9 : decode cX5_isPlace 9 = .ok (.if_icmp .lt 17, 3) := by decide +kernel
theorem dX5_isPlace_12 : decode cX5_isPlace 12 = .ok (.iload_n 2, 1) := by decide +kernel
theorem dX5_isPlace_13 : decode cX5_isPlace 13 = .ok (.aload_n 0, 1) := by decide +kernel
theorem dX5_isPlace_14 : decode cX5_isPlace 14 = .ok (.getfield 13, 3) := by decide +kernel
theorem dX5_isPlace_17 : decode cX5_isPlace 17 = .ok (.iload_n 1, 1) := by decide +kernel
theorem dX5_isPlace_18 : decode cX5_isPlace 18 = .ok (.iaload, 1) := by decide +kernel
theorem dX5_isPlace_19 : decode cX5_isPlace 19 = .ok (.if_icmp .gt 7, 3) := by decide +kernel
theorem dX5_isPlace_22 : decode cX5_isPlace 22 = .ok (.iconst 1, 1) := by decide +kernel
theorem dX5_isPlace_23 : decode cX5_isPlace 23 = .ok (.goto 4, 3) := by decide +kernel
theorem dX5_isPlace_26 : decode cX5_isPlace 26 = .ok (.iconst 0, 1) := by decide +kernel
theorem dX5_isPlace_27 : decode cX5_isPlace 27 = .ok (.ireturn, 1) := by decide +kernel
theorem dX5_home_0 : decode cX5_home 0 = .ok (.bipush 17, 2) := by decide +kernel
theorem dX5_home_2 : decode cX5_home 2 = .ok (.iload_n 0, 1) := by decide +kernel
theorem dX5_home_3 : decode cX5_home 3 = .ok (.imul, 1) := by decide +kernel
theorem dX5_home_4 : decode cX5_home 4 = .ok (.iload_n 1, 1) := by decide +kernel
theorem dX5_home_5 : decode cX5_home 5 = .ok (.iadd, 1) := by decide +kernel
theorem dX5_home_6 : decode cX5_home 6 = .ok (.ireturn, 1) := by decide +kernel
theorem dX5_onCurve_0 : decode cX5_onCurve 0 = .ok (.lconst 0, 1) := by decide +kernel
theorem dX5_onCurve_1 : decode cX5_onCurve 1 = .ok (.lstore 5, 2) := by decide +kernel
theorem dX5_onCurve_3 : decode cX5_onCurve 3 = .ok (.iload_n 2, 1) := by decide +kernel
theorem dX5_onCurve_4 : decode cX5_onCurve 4 = .ok (.istore 7, 2) := by decide +kernel
theorem dX5_onCurve_6 : decode cX5_onCurve 6 = .ok (.iload 7, 2) := by decide +kernel
theorem dX5_onCurve_8 : decode cX5_onCurve 8 = .ok (.ifCond .lt 24, 3) := by decide +kernel
theorem dX5_onCurve_11 : decode cX5_onCurve 11 = .ok (.lload 5, 2) := by decide +kernel
theorem dX5_onCurve_13 : decode cX5_onCurve 13 = .ok (.lload_n 3, 1) := by decide +kernel
theorem dX5_onCurve_14 : decode cX5_onCurve 14 = .ok (.invokestatic 70, 3) := by decide +kernel
theorem dX5_onCurve_17 : decode cX5_onCurve 17 = .ok (.aload_n 1, 1) := by decide +kernel
theorem dX5_onCurve_18 : decode cX5_onCurve 18 = .ok (.iload 7, 2) := by decide +kernel
theorem dX5_onCurve_20 : decode cX5_onCurve 20 = .ok (.laload, 1) := by decide +kernel
theorem dX5_onCurve_21 : decode cX5_onCurve 21 = .ok (.invokestatic 65, 3) := by decide +kernel
theorem dX5_onCurve_24 : decode cX5_onCurve 24 = .ok (.lstore 5, 2) := by decide +kernel
theorem dX5_onCurve_26 : decode cX5_onCurve 26 = .ok (.iinc 7 (-1), 3) := by decide +kernel
theorem dX5_onCurve_29 : decode cX5_onCurve 29 = .ok (.goto (-23), 3) := by decide +kernel
theorem dX5_onCurve_32 : decode cX5_onCurve 32 = .ok (.lload 5, 2) := by decide +kernel
theorem dX5_onCurve_34 : decode cX5_onCurve 34 = .ok (.lreturn, 1) := by decide +kernel
theorem dX5_draw_0 : decode cX5_draw 0 = .ok (.lload 4, 2) := by decide +kernel
theorem dX5_draw_2 : decode cX5_draw 2 = .ok (.lstore 6, 2) := by decide +kernel
theorem dX5_draw_4 : decode cX5_draw 4 = .ok (.aload_n 0, 1) := by decide +kernel
theorem dX5_draw_5 : decode cX5_draw 5 = .ok (.getfield 39, 3) := by decide +kernel
theorem dX5_draw_8 : decode cX5_draw 8 = .ok (.iconst 0, 1) := by decide +kernel
theorem dX5_draw_9 : decode cX5_draw 9 = .ok (.lload_n 1, 1) := by decide +kernel
theorem dX5_draw_10 : decode cX5_draw 10 = .ok (.lastore, 1) := by decide +kernel
theorem dX5_draw_11 : decode cX5_draw 11 = .ok (.iconst 1, 1) := by decide +kernel
theorem dX5_draw_12 : decode cX5_draw 12 = .ok (.istore 8, 2) := by decide +kernel
theorem dX5_draw_14 : decode cX5_draw 14 = .ok (.iload 8, 2) := by decide +kernel
theorem dX5_draw_16 : decode cX5_draw 16 = .ok (.iload_n 3, 1) := by decide +kernel
theorem dX5_draw_17 : decode cX5_draw 17 = .ok (.if_icmp .gt 30, 3) := by decide +kernel
theorem dX5_draw_20 : decode cX5_draw 20 = .ok (.lload 6, 2) := by decide +kernel
theorem dX5_draw_22 : decode cX5_draw 22 = .ok (.invokestatic 81, 3) := by decide +kernel
theorem dX5_draw_25 : decode cX5_draw 25 = .ok (.lstore 6, 2) := by decide +kernel
theorem dX5_draw_27 : decode cX5_draw 27 = .ok (.aload_n 0, 1) := by decide +kernel
theorem dX5_draw_28 : decode cX5_draw 28 = .ok (.getfield 39, 3) := by decide +kernel
theorem dX5_draw_31 : decode cX5_draw 31 = .ok (.iload 8, 2) := by decide +kernel
theorem dX5_draw_33 : decode cX5_draw 33 = .ok (.lload 6, 2) := by decide +kernel
theorem dX5_draw_35 : decode cX5_draw 35 = .ok (.iconst 3, 1) := by decide +kernel
theorem dX5_draw_36 : decode cX5_draw 36 = .ok (.lushr, 1) := by decide +kernel
theorem dX5_draw_37 : decode cX5_draw 37 = .ok (.invokestatic 57, 3) := by decide +kernel
theorem dX5_draw_40 : decode cX5_draw 40 = .ok (.lastore, 1) := by decide +kernel
theorem dX5_draw_41 : decode cX5_draw 41 = .ok (.iinc 8 1, 3) := by decide +kernel
theorem dX5_draw_44 : decode cX5_draw 44 = .ok (.goto (-30), 3) := by decide +kernel
theorem dX5_draw_47 : decode cX5_draw 47 = .ok (.return_, 1) := by decide +kernel
theorem dX5_deal_0 : decode cX5_deal 0 = .ok (.aload_n 0, 1) := by decide +kernel
theorem dX5_deal_1 : decode cX5_deal 1 = .ok (.iconst 0, 1) := by decide +kernel
theorem dX5_deal_2 : decode cX5_deal 2 = .ok (.putfield 51, 3) := by decide +kernel
theorem dX5_deal_5 : decode cX5_deal 5 = .ok (.iload_n 1, 1) := by decide +kernel
theorem dX5_deal_6 : decode cX5_deal 6 = .ok (.invokestatic 77, 3) := by decide +kernel
theorem dX5_deal_9 : decode cX5_deal 9 = .ok (.ifCond .eq 26, 3) := by decide +kernel
theorem dX5_deal_12 : decode cX5_deal 12 = .ok (.iload_n 2, 1) := by decide +kernel
theorem dX5_deal_13 : decode cX5_deal 13 = .ok (.ifCond .lt 22, 3) := by decide +kernel
theorem dX5_deal_16 : decode cX5_deal 16 = .ok (.iload_n 2, 1) := by decide +kernel
theorem dX5_deal_17 : decode cX5_deal 17 = .ok (.bipush 8, 2) := by decide +kernel
theorem dX5_deal_19 : decode cX5_deal 19 = .ok (.if_icmp .gt 16, 3) := by decide +kernel
theorem dX5_deal_22 : decode cX5_deal 22 = .ok (.iload_n 3, 1) := by decide +kernel
theorem dX5_deal_23 : decode cX5_deal 23 = .ok (.iload_n 2, 1) := by decide +kernel
theorem dX5_deal_24 : decode cX5_deal 24 = .ok (.iconst 1, 1) := by decide +kernel
theorem dX5_deal_25 : decode cX5_deal 25 = .ok (.iadd, 1) := by decide +kernel
theorem dX5_deal_26 : decode cX5_deal 26 = .ok (.if_icmp .lt 9, 3) := by decide +kernel
theorem dX5_deal_29 : decode cX5_deal 29 = .ok (.iload_n 3, 1) := by decide +kernel
theorem dX5_deal_30 : decode cX5_deal 30 = .ok (.bipush 16, 2) := by decide +kernel
theorem dX5_deal_32 : decode cX5_deal 32 = .ok (.if_icmp .le 5, 3) := by decide +kernel
theorem dX5_deal_35 : decode cX5_deal 35 = .ok (.iconst 0, 1) := by decide +kernel
theorem dX5_deal_36 : decode cX5_deal 36 = .ok (.ireturn, 1) := by decide +kernel
theorem dX5_deal_37 : decode cX5_deal 37 = .ok (.aload_n 0, 1) := by decide +kernel
theorem dX5_deal_38 : decode cX5_deal 38 = .ok (.getfield 7, 3) := by decide +kernel
theorem dX5_deal_41 : decode cX5_deal 41 = .ok (.iload_n 1, 1) := by decide +kernel
theorem dX5_deal_42 : decode cX5_deal 42 = .ok (.iload_n 2, 1) := by decide +kernel
theorem dX5_deal_43 : decode cX5_deal 43 = .ok (.iastore, 1) := by decide +kernel
theorem dX5_deal_44 : decode cX5_deal 44 = .ok (.aload_n 0, 1) := by decide +kernel
theorem dX5_deal_45 : decode cX5_deal 45 = .ok (.getfield 13, 3) := by decide +kernel
theorem dX5_deal_48 : decode cX5_deal 48 = .ok (.iload_n 1, 1) := by decide +kernel
theorem dX5_deal_49 : decode cX5_deal 49 = .ok (.iload_n 3, 1) := by decide +kernel
theorem dX5_deal_50 : decode cX5_deal 50 = .ok (.iastore, 1) := by decide +kernel
theorem dX5_deal_51 : decode cX5_deal 51 = .ok (.aload_n 0, 1) := by decide +kernel
theorem dX5_deal_52 : decode cX5_deal 52 = .ok (.lload 4, 2) := by decide +kernel
theorem dX5_deal_54 : decode cX5_deal 54 = .ok (.invokestatic 84, 3) := by decide +kernel
theorem dX5_deal_57 : decode cX5_deal 57 = .ok (.iload_n 2, 1) := by decide +kernel
theorem dX5_deal_58 : decode cX5_deal 58 = .ok (.lload 6, 2) := by decide +kernel
theorem dX5_deal_60 : decode cX5_deal 60 = .ok (.invokevirtual 87, 3) := by decide +kernel
theorem dX5_deal_63 : decode cX5_deal 63 = .ok (.iconst 1, 1) := by decide +kernel
theorem dX5_deal_64 : decode cX5_deal 64 = .ok (.istore 8, 2) := by decide +kernel
theorem dX5_deal_66 : decode cX5_deal 66 = .ok (.iload 8, 2) := by decide +kernel
theorem dX5_deal_68 : decode cX5_deal 68 = .ok (.iload_n 3, 1) := by decide +kernel
theorem dX5_deal_69 : decode cX5_deal 69 = .ok (.if_icmp .gt 44, 3) := by decide +kernel
theorem dX5_deal_72 : decode cX5_deal 72 = .ok (.aload_n 0, 1) := by decide +kernel
theorem dX5_deal_73 : decode cX5_deal 73 = .ok (.getfield 16, 3) := by decide +kernel
theorem dX5_deal_76 : decode cX5_deal 76 = .ok (.iload_n 1, 1) := by decide +kernel
theorem dX5_deal_77 : decode cX5_deal 77 = .ok (.iload 8, 2) := by decide +kernel
theorem dX5_deal_79 : decode cX5_deal 79 = .ok (.invokestatic 91, 3) := by decide +kernel
theorem dX5_deal_82 : decode cX5_deal 82 = .ok (.aload_n 0, 1) := by decide +kernel
theorem dX5_deal_83 : decode cX5_deal 83 = .ok (.aload_n 0, 1) := by decide +kernel
theorem dX5_deal_84 : decode cX5_deal 84 = .ok (.getfield 39, 3) := by decide +kernel
theorem dX5_deal_87 : decode cX5_deal 87 = .ok (.iload_n 2, 1) := by decide +kernel
theorem dX5_deal_88 : decode cX5_deal 88 = .ok (.iload 8, 2) := by decide +kernel
theorem dX5_deal_90 : decode cX5_deal 90 = .ok (.i2l, 1) := by decide +kernel
theorem dX5_deal_91 : decode cX5_deal 91 = .ok (.invokevirtual 95, 3) := by decide +kernel
theorem dX5_deal_94 : decode cX5_deal 94 = .ok (.lastore, 1) := by decide +kernel
theorem dX5_deal_95 : decode cX5_deal 95 = .ok (.aload_n 0, 1) := by decide +kernel
theorem dX5_deal_96 : decode cX5_deal 96 = .ok (.getfield 20, 3) := by decide +kernel
theorem dX5_deal_99 : decode cX5_deal 99 = .ok (.iload_n 1, 1) := by decide +kernel
theorem dX5_deal_100 : decode cX5_deal 100 = .ok (.iload 8, 2) := by decide +kernel
theorem dX5_deal_102 : decode cX5_deal 102 = .ok (.invokestatic 91, 3) := by decide +kernel
theorem dX5_deal_105 : decode cX5_deal 105 = .ok (.iconst 1, 1) := by decide +kernel
theorem dX5_deal_106 : decode cX5_deal 106 = .ok (.bastore, 1) := by decide +kernel
theorem dX5_deal_107 : decode cX5_deal 107 = .ok (.iinc 8 1, 3) := by decide +kernel
theorem dX5_deal_110 : decode cX5_deal 110 = .ok (.goto (-44), 3) := by decide +kernel
theorem dX5_deal_113 : decode cX5_deal 113 = .ok (.iconst 1, 1) := by decide +kernel
theorem dX5_deal_114 : decode cX5_deal 114 = .ok (.ireturn, 1) := by decide +kernel
theorem dX5_put_0 : decode cX5_put 0 = .ok (.aload_n 0, 1) := by decide +kernel
theorem dX5_put_1 : decode cX5_put 1 = .ok (.iconst 0, 1) := by decide +kernel
theorem dX5_put_2 : decode cX5_put 2 = .ok (.putfield 51, 3) := by decide +kernel
theorem dX5_put_5 : decode cX5_put 5 = .ok (.aload_n 0, 1) := by decide +kernel
theorem dX5_put_6 : decode cX5_put 6 = .ok (.iload_n 1, 1) := by decide +kernel
theorem dX5_put_7 : decode cX5_put 7 = .ok (.iload_n 2, 1) := by decide +kernel
theorem dX5_put_8 : decode cX5_put 8 = .ok (.invokevirtual 99, 3) := by decide +kernel
theorem dX5_put_11 : decode cX5_put 11 = .ok (.ifCond .ne 5, 3) := by decide +kernel
theorem dX5_put_14 : decode cX5_put 14 = .ok (.iconst 0, 1) := by decide +kernel
theorem dX5_put_15 : decode cX5_put 15 = .ok (.ireturn, 1) := by decide +kernel
theorem dX5_put_16 : decode cX5_put 16 = .ok (.aload_n 0, 1) := by decide +kernel
theorem dX5_put_17 : decode cX5_put 17 = .ok (.getfield 16, 3) := by decide +kernel
theorem dX5_put_20 : decode cX5_put 20 = .ok (.iload_n 1, 1) := by decide +kernel
theorem dX5_put_21 : decode cX5_put 21 = .ok (.iload_n 2, 1) := by decide +kernel
theorem dX5_put_22 : decode cX5_put 22 = .ok (.invokestatic 91, 3) := by decide +kernel
theorem dX5_put_25 : decode cX5_put 25 = .ok (.lload_n 3, 1) := by decide +kernel
theorem dX5_put_26 : decode cX5_put 26 = .ok (.invokestatic 84, 3) := by decide +kernel
theorem dX5_put_29 : decode cX5_put 29 = .ok (.lastore, 1) := by decide +kernel
theorem dX5_put_30 : decode cX5_put 30 = .ok (.aload_n 0, 1) := by decide +kernel
theorem dX5_put_31 : decode cX5_put 31 = .ok (.getfield 20, 3) := by decide +kernel
theorem dX5_put_34 : decode cX5_put 34 = .ok (.iload_n 1, 1) := by decide +kernel
theorem dX5_put_35 : decode cX5_put 35 = .ok (.iload_n 2, 1) := by decide +kernel
theorem dX5_put_36 : decode cX5_put 36 = .ok (.invokestatic 91, 3) := by decide +kernel
theorem dX5_put_39 : decode cX5_put 39 = .ok (.iconst 1, 1) := by decide +kernel
theorem dX5_put_40 : decode cX5_put 40 = .ok (.bastore, 1) := by decide +kernel
theorem dX5_put_41 : decode cX5_put 41 = .ok (.iconst 1, 1) := by decide +kernel
theorem dX5_put_42 : decode cX5_put 42 = .ok (.ireturn, 1) := by decide +kernel
theorem dX5_lose_0 : decode cX5_lose 0 = .ok (.aload_n 0, 1) := by decide +kernel
theorem dX5_lose_1 : decode cX5_lose 1 = .ok (.iconst 0, 1) := by decide +kernel
theorem dX5_lose_2 : decode cX5_lose 2 = .ok (.putfield 51, 3) := by decide +kernel
theorem dX5_lose_5 : decode cX5_lose 5 = .ok (.aload_n 0, 1) := by decide +kernel
theorem dX5_lose_6 : decode cX5_lose 6 = .ok (.iload_n 1, 1) := by decide +kernel
theorem dX5_lose_7 : decode cX5_lose 7 = .ok (.iload_n 2, 1) := by decide +kernel
theorem dX5_lose_8 : decode cX5_lose 8 = .ok (.invokevirtual 99, 3) := by decide +kernel
theorem dX5_lose_11 : decode cX5_lose 11 = .ok (.ifCond .eq 16, 3) := by decide +kernel
theorem dX5_lose_14 : decode cX5_lose 14 = .ok (.aload_n 0, 1) := by decide +kernel
theorem dX5_lose_15 : decode cX5_lose 15 = .ok (.getfield 20, 3) := by decide +kernel
theorem dX5_lose_18 : decode cX5_lose 18 = .ok (.iload_n 1, 1) := by decide +kernel
theorem dX5_lose_19 : decode cX5_lose 19 = .ok (.iload_n 2, 1) := by decide +kernel
theorem dX5_lose_20 : decode cX5_lose 20 = .ok (.invokestatic 91, 3) := by decide +kernel
theorem dX5_lose_23 : decode cX5_lose 23 = .ok (.baload, 1) := by decide +kernel
theorem dX5_lose_24 : decode cX5_lose 24 = .ok (.ifCond .ne 5, 3) := by decide +kernel
theorem dX5_lose_27 : decode cX5_lose 27 = .ok (.iconst 0, 1) := by decide +kernel
theorem dX5_lose_28 : decode cX5_lose 28 = .ok (.ireturn, 1) := by decide +kernel
theorem dX5_lose_29 : decode cX5_lose 29 = .ok (.aload_n 0, 1) := by decide +kernel
theorem dX5_lose_30 : decode cX5_lose 30 = .ok (.getfield 20, 3) := by decide +kernel
theorem dX5_lose_33 : decode cX5_lose 33 = .ok (.iload_n 1, 1) := by decide +kernel
theorem dX5_lose_34 : decode cX5_lose 34 = .ok (.iload_n 2, 1) := by decide +kernel
theorem dX5_lose_35 : decode cX5_lose 35 = .ok (.invokestatic 91, 3) := by decide +kernel
theorem dX5_lose_38 : decode cX5_lose 38 = .ok (.iconst 0, 1) := by decide +kernel
theorem dX5_lose_39 : decode cX5_lose 39 = .ok (.bastore, 1) := by decide +kernel
theorem dX5_lose_40 : decode cX5_lose 40 = .ok (.iconst 1, 1) := by decide +kernel
theorem dX5_lose_41 : decode cX5_lose 41 = .ok (.ireturn, 1) := by decide +kernel
theorem dX5_join_0 : decode cX5_join 0 = .ok (.aload_n 0, 1) := by decide +kernel
theorem dX5_join_1 : decode cX5_join 1 = .ok (.iconst 0, 1) := by decide +kernel
theorem dX5_join_2 : decode cX5_join 2 = .ok (.putfield 51, 3) := by decide +kernel
theorem dX5_join_5 : decode cX5_join 5 = .ok (.iload_n 1, 1) := by decide +kernel
theorem dX5_join_6 : decode cX5_join 6 = .ok (.invokestatic 77, 3) := by decide +kernel
theorem dX5_join_9 : decode cX5_join 9 = .ok (.ifCond .eq 28, 3) := by decide +kernel
theorem dX5_join_12 : decode cX5_join 12 = .ok (.iload_n 2, 1) := by decide +kernel
theorem dX5_join_13 : decode cX5_join 13 = .ok (.invokestatic 77, 3) := by decide +kernel
theorem dX5_join_16 : decode cX5_join 16 = .ok (.ifCond .eq 21, 3) := by decide +kernel
theorem dX5_join_19 : decode cX5_join 19 = .ok (.iload_n 3, 1) := by decide +kernel
theorem dX5_join_20 : decode cX5_join 20 = .ok (.invokestatic 77, 3) := by decide +kernel
theorem dX5_join_23 : decode cX5_join 23 = .ok (.ifCond .eq 14, 3) := by decide +kernel
theorem dX5_join_26 : decode cX5_join 26 = .ok (.iload 4, 2) := by decide +kernel
theorem dX5_join_28 : decode cX5_join 28 = .ok (.ifCond .lt 9, 3) := by decide +kernel
theorem dX5_join_31 : decode cX5_join 31 = .ok (.iload 4, 2) := by decide +kernel
theorem dX5_join_33 : decode cX5_join 33 = .ok (.iconst 2, 1) := by decide +kernel
theorem dX5_join_34 : decode cX5_join 34 = .ok (.if_icmp .le 5, 3) := by decide +kernel
theorem dX5_join_37 : decode cX5_join 37 = .ok (.iconst 0, 1) := by decide +kernel
theorem dX5_join_38 : decode cX5_join 38 = .ok (.ireturn, 1) := by decide +kernel
theorem dX5_join_39 : decode cX5_join 39 = .ok (.iload 4, 2) := by decide +kernel
theorem dX5_join_41 : decode cX5_join 41 = .ok (.iconst 2, 1) := by decide +kernel
theorem dX5_join_42 : decode cX5_join 42 = .ok (.if_icmp .ne 19, 3) := by decide +kernel
theorem dX5_join_45 : decode cX5_join 45 = .ok (.aload_n 0, 1) := by decide +kernel
theorem dX5_join_46 : decode cX5_join 46 = .ok (.getfield 7, 3) := by decide +kernel
theorem dX5_join_49 : decode cX5_join 49 = .ok (.iload_n 2, 1) := by decide +kernel
theorem dX5_join_50 : decode cX5_join 50 = .ok (.iaload, 1) := by decide +kernel
theorem dX5_join_51 : decode cX5_join 51 = .ok (.aload_n 0, 1) := by decide +kernel
theorem dX5_join_52 : decode cX5_join 52 = .ok (.getfield 7, 3) := by decide +kernel
theorem dX5_join_55 : decode cX5_join 55 = .ok (.iload_n 3, 1) := by decide +kernel
theorem dX5_join_56 : decode cX5_join 56 = .ok (.iaload, 1) := by decide +kernel
theorem dX5_join_57 : decode cX5_join 57 = .ok (.iadd, 1) := by decide +kernel
theorem dX5_join_58 : decode cX5_join 58 = .ok (.goto 33, 3) := by decide +kernel
theorem dX5_join_61 : decode cX5_join 61 = .ok (.aload_n 0, 1) := by decide +kernel
theorem dX5_join_62 : decode cX5_join 62 = .ok (.getfield 7, 3) := by decide +kernel
theorem dX5_join_65 : decode cX5_join 65 = .ok (.iload_n 2, 1) := by decide +kernel
theorem dX5_join_66 : decode cX5_join 66 = .ok (.iaload, 1) := by decide +kernel
theorem dX5_join_67 : decode cX5_join 67 = .ok (.aload_n 0, 1) := by decide +kernel
theorem dX5_join_68 : decode cX5_join 68 = .ok (.getfield 7, 3) := by decide +kernel
theorem dX5_join_71 : decode cX5_join 71 = .ok (.iload_n 3, 1) := by decide +kernel
theorem dX5_join_72 : decode cX5_join 72 = .ok (.iaload, 1) := by decide +kernel
theorem dX5_join_73 : decode cX5_join 73 = .ok (.if_icmp .le 12, 3) := by decide +kernel
theorem dX5_join_76 : decode cX5_join 76 = .ok (.aload_n 0, 1) := by decide +kernel
theorem dX5_join_77 : decode cX5_join 77 = .ok (.getfield 7, 3) := by decide +kernel
theorem dX5_join_80 : decode cX5_join 80 = .ok (.iload_n 2, 1) := by decide +kernel
theorem dX5_join_81 : decode cX5_join 81 = .ok (.iaload, 1) := by decide +kernel
theorem dX5_join_82 : decode cX5_join 82 = .ok (.goto 9, 3) := by decide +kernel
theorem dX5_join_85 : decode cX5_join 85 = .ok (.aload_n 0, 1) := by decide +kernel
theorem dX5_join_86 : decode cX5_join 86 = .ok (.getfield 7, 3) := by decide +kernel
theorem dX5_join_89 : decode cX5_join 89 = .ok (.iload_n 3, 1) := by decide +kernel
theorem dX5_join_90 : decode cX5_join 90 = .ok (.iaload, 1) := by decide +kernel
theorem dX5_join_91 : decode cX5_join 91 = .ok (.istore 5, 2) := by decide +kernel
theorem dX5_join_93 : decode cX5_join 93 = .ok (.iload 5, 2) := by decide +kernel
theorem dX5_join_95 : decode cX5_join 95 = .ok (.bipush 8, 2) := by decide +kernel
theorem dX5_join_97 : decode cX5_join 97 = .ok (.if_icmp .le 5, 3) := by decide +kernel
theorem dX5_join_100 : decode cX5_join 100 = .ok (.iconst 0, 1) := by decide +kernel
theorem dX5_join_101 : decode cX5_join 101 = .ok (.ireturn, 1) := by decide +kernel
theorem dX5_join_102 : decode cX5_join 102 = .ok (.aload_n 0, 1) := by decide +kernel
theorem dX5_join_103 : decode cX5_join 103 = .ok (.getfield 13, 3) := by decide +kernel
theorem dX5_join_106 : decode cX5_join 106 = .ok (.iload_n 2, 1) := by decide +kernel
theorem dX5_join_107 : decode cX5_join 107 = .ok (.iaload, 1) := by decide +kernel
theorem dX5_join_108 : decode cX5_join 108 = .ok (.aload_n 0, 1) := by decide +kernel
theorem dX5_join_109 : decode cX5_join 109 = .ok (.getfield 13, 3) := by decide +kernel
theorem dX5_join_112 : decode cX5_join 112 = .ok (.iload_n 3, 1) := by decide +kernel
theorem dX5_join_113 : decode cX5_join 113 = .ok (.iaload, 1) := by decide +kernel
theorem dX5_join_114 : decode cX5_join 114 = .ok (.if_icmp .ge 12, 3) := by decide +kernel
theorem dX5_join_117 : decode cX5_join 117 = .ok (.aload_n 0, 1) := by decide +kernel
theorem dX5_join_118 : decode cX5_join 118 = .ok (.getfield 13, 3) := by decide +kernel
theorem dX5_join_121 : decode cX5_join 121 = .ok (.iload_n 2, 1) := by decide +kernel
theorem dX5_join_122 : decode cX5_join 122 = .ok (.iaload, 1) := by decide +kernel
theorem dX5_join_123 : decode cX5_join 123 = .ok (.goto 9, 3) := by decide +kernel
theorem dX5_join_126 : decode cX5_join 126 = .ok (.aload_n 0, 1) := by decide +kernel
theorem dX5_join_127 : decode cX5_join 127 = .ok (.getfield 13, 3) := by decide +kernel
theorem dX5_join_130 : decode cX5_join 130 = .ok (.iload_n 3, 1) := by decide +kernel
theorem dX5_join_131 : decode cX5_join 131 = .ok (.iaload, 1) := by decide +kernel
theorem dX5_join_132 : decode cX5_join 132 = .ok (.istore 6, 2) := by decide +kernel
theorem dX5_join_134 : decode cX5_join 134 = .ok (.iconst 1, 1) := by decide +kernel
theorem dX5_join_135 : decode cX5_join 135 = .ok (.istore 7, 2) := by decide +kernel
theorem dX5_join_137 : decode cX5_join 137 = .ok (.iload 7, 2) := by decide +kernel
theorem dX5_join_139 : decode cX5_join 139 = .ok (.iload 6, 2) := by decide +kernel
theorem dX5_join_141 : decode cX5_join 141 = .ok (.if_icmp .gt 128, 3) := by decide +kernel
theorem dX5_join_144 : decode cX5_join 144 = .ok (.aload_n 0, 1) := by decide +kernel
theorem dX5_join_145 : decode cX5_join 145 = .ok (.getfield 16, 3) := by decide +kernel
theorem dX5_join_148 : decode cX5_join 148 = .ok (.iload_n 2, 1) := by decide +kernel
theorem dX5_join_149 : decode cX5_join 149 = .ok (.iload 7, 2) := by decide +kernel
theorem dX5_join_151 : decode cX5_join 151 = .ok (.invokestatic 91, 3) := by decide +kernel
theorem dX5_join_154 : decode cX5_join 154 = .ok (.laload, 1) := by decide +kernel
theorem dX5_join_155 : decode cX5_join 155 = .ok (.lstore 8, 2) := by decide +kernel
theorem dX5_join_157 : decode cX5_join 157 = .ok (.aload_n 0, 1) := by decide +kernel
theorem dX5_join_158 : decode cX5_join 158 = .ok (.getfield 16, 3) := by decide +kernel
theorem dX5_join_161 : decode cX5_join 161 = .ok (.iload_n 3, 1) := by decide +kernel
theorem dX5_join_162 : decode cX5_join 162 = .ok (.iload 7, 2) := by decide +kernel
theorem dX5_join_164 : decode cX5_join 164 = .ok (.invokestatic 91, 3) := by decide +kernel
theorem dX5_join_167 : decode cX5_join 167 = .ok (.laload, 1) := by decide +kernel
theorem dX5_join_168 : decode cX5_join 168 = .ok (.lstore 10, 2) := by decide +kernel
theorem dX5_join_170 : decode cX5_join 170 = .ok (.aload_n 0, 1) := by decide +kernel
theorem dX5_join_171 : decode cX5_join 171 = .ok (.getfield 20, 3) := by decide +kernel
theorem dX5_join_174 : decode cX5_join 174 = .ok (.iload_n 1, 1) := by decide +kernel
theorem dX5_join_175 : decode cX5_join 175 = .ok (.iload 7, 2) := by decide +kernel
theorem dX5_join_177 : decode cX5_join 177 = .ok (.invokestatic 91, 3) := by decide +kernel
theorem dX5_join_180 : decode cX5_join 180 = .ok (.aload_n 0, 1) := by decide +kernel
theorem dX5_join_181 : decode cX5_join 181 = .ok (.getfield 20, 3) := by decide +kernel
theorem dX5_join_184 : decode cX5_join 184 = .ok (.iload_n 2, 1) := by decide +kernel
theorem dX5_join_185 : decode cX5_join 185 = .ok (.iload 7, 2) := by decide +kernel
theorem dX5_join_187 : decode cX5_join 187 = .ok (.invokestatic 91, 3) := by decide +kernel
theorem dX5_join_190 : decode cX5_join 190 = .ok (.baload, 1) := by decide +kernel
theorem dX5_join_191 : decode cX5_join 191 = .ok (.ifCond .eq 21, 3) := by decide +kernel
theorem dX5_join_194 : decode cX5_join 194 = .ok (.aload_n 0, 1) := by decide +kernel
theorem dX5_join_195 : decode cX5_join 195 = .ok (.getfield 20, 3) := by decide +kernel
theorem dX5_join_198 : decode cX5_join 198 = .ok (.iload_n 3, 1) := by decide +kernel
theorem dX5_join_199 : decode cX5_join 199 = .ok (.iload 7, 2) := by decide +kernel
theorem dX5_join_201 : decode cX5_join 201 = .ok (.invokestatic 91, 3) := by decide +kernel
theorem dX5_join_204 : decode cX5_join 204 = .ok (.baload, 1) := by decide +kernel
theorem dX5_join_205 : decode cX5_join 205 = .ok (.ifCond .eq 7, 3) := by decide +kernel
theorem dX5_join_208 : decode cX5_join 208 = .ok (.iconst 1, 1) := by decide +kernel
theorem dX5_join_209 : decode cX5_join 209 = .ok (.goto 4, 3) := by decide +kernel
theorem dX5_join_212 : decode cX5_join 212 = .ok (.iconst 0, 1) := by decide +kernel
theorem dX5_join_213 : decode cX5_join 213 = .ok (.bastore, 1) := by decide +kernel
theorem dX5_join_214 : decode cX5_join 214 = .ok (.aload_n 0, 1) := by decide +kernel
theorem dX5_join_215 : decode cX5_join 215 = .ok (.getfield 16, 3) := by decide +kernel
theorem dX5_join_218 : decode cX5_join 218 = .ok (.iload_n 1, 1) := by decide +kernel
theorem dX5_join_219 : decode cX5_join 219 = .ok (.iload 7, 2) := by decide +kernel
theorem dX5_join_221 : decode cX5_join 221 = .ok (.invokestatic 91, 3) := by decide +kernel
theorem dX5_join_224 : decode cX5_join 224 = .ok (.iload 4, 2) := by decide +kernel
theorem dX5_join_226 : decode cX5_join 226 = .ok (.ifCond .ne 13, 3) := by decide +kernel
theorem dX5_join_229 : decode cX5_join 229 = .ok (.lload 8, 2) := by decide +kernel
theorem dX5_join_231 : decode cX5_join 231 = .ok (.lload 10, 2) := by decide +kernel
theorem dX5_join_233 : decode cX5_join 233 = .ok (.invokestatic 65, 3) := by decide +kernel
theorem dX5_join_236 : decode cX5_join 236 = .ok (.goto 26, 3) := by decide +kernel
theorem dX5_join_239 : decode cX5_join 239 = .ok (.iload 4, 2) := by decide +kernel
theorem dX5_join_241 : decode cX5_join 241 = .ok (.iconst 1, 1) := by decide +kernel
theorem dX5_join_242 : decode cX5_join 242 = .ok (.if_icmp .ne 13, 3) := by decide +kernel
theorem dX5_join_245 : decode cX5_join 245 = .ok (.lload 8, 2) := by decide +kernel
theorem dX5_join_247 : decode cX5_join 247 = .ok (.lload 10, 2) := by decide +kernel
theorem dX5_join_249 : decode cX5_join 249 = .ok (.invokestatic 103, 3) := by decide +kernel
theorem dX5_join_252 : decode cX5_join 252 = .ok (.goto 10, 3) := by decide +kernel
theorem dX5_join_255 : decode cX5_join 255 = .ok (.lload 8, 2) := by decide +kernel
theorem dX5_join_257 : decode cX5_join 257 = .ok (.lload 10, 2) := by decide +kernel
theorem dX5_join_259 : decode cX5_join 259 = .ok (.invokestatic 70, 3) := by decide +kernel
theorem dX5_join_262 : decode cX5_join 262 = .ok (.lastore, 1) := by decide +kernel
theorem dX5_join_263 : decode cX5_join 263 = .ok (.iinc 7 1, 3) := by decide +kernel
theorem dX5_join_266 : decode cX5_join 266 = .ok (.goto (-129), 3) := by decide +kernel
theorem dX5_join_269 : decode cX5_join 269 = .ok (.aload_n 0, 1) := by decide +kernel
theorem dX5_join_270 : decode cX5_join 270 = .ok (.getfield 13, 3) := by decide +kernel
theorem dX5_join_273 : decode cX5_join 273 = .ok (.iload_n 1, 1) := by decide +kernel
theorem dX5_join_274 : decode cX5_join 274 = .ok (.iload 6, 2) := by decide +kernel
theorem dX5_join_276 : decode cX5_join 276 = .ok (.iastore, 1) := by decide +kernel
theorem dX5_join_277 : decode cX5_join 277 = .ok (.aload_n 0, 1) := by decide +kernel
theorem dX5_join_278 : decode cX5_join 278 = .ok (.getfield 7, 3) := by decide +kernel
theorem dX5_join_281 : decode cX5_join 281 = .ok (.iload_n 1, 1) := by decide +kernel
theorem dX5_join_282 : decode cX5_join 282 = .ok (.iload 5, 2) := by decide +kernel
theorem dX5_join_284 : decode cX5_join 284 = .ok (.iastore, 1) := by decide +kernel
theorem dX5_join_285 : decode cX5_join 285 = .ok (.iconst 1, 1) := by decide +kernel
theorem dX5_join_286 : decode cX5_join 286 = .ok (.ireturn, 1) := by decide +kernel
theorem dX5_scale_0 : decode cX5_scale 0 = .ok (.aload_n 0, 1) := by decide +kernel
theorem dX5_scale_1 : decode cX5_scale 1 = .ok (.iconst 0, 1) := by decide +kernel
theorem dX5_scale_2 : decode cX5_scale 2 = .ok (.putfield 51, 3) := by decide +kernel
theorem dX5_scale_5 : decode cX5_scale 5 = .ok (.iload_n 1, 1) := by decide +kernel
theorem dX5_scale_6 : decode cX5_scale 6 = .ok (.invokestatic 77, 3) := by decide +kernel
theorem dX5_scale_9 : decode cX5_scale 9 = .ok (.ifCond .ne 5, 3) := by decide +kernel
theorem dX5_scale_12 : decode cX5_scale 12 = .ok (.iconst 0, 1) := by decide +kernel
theorem dX5_scale_13 : decode cX5_scale 13 = .ok (.ireturn, 1) := by decide +kernel
theorem dX5_scale_14 : decode cX5_scale 14 = .ok (.iconst 1, 1) := by decide +kernel
theorem dX5_scale_15 : decode cX5_scale 15 = .ok (.istore 6, 2) := by decide +kernel
theorem dX5_scale_17 : decode cX5_scale 17 = .ok (.iload 6, 2) := by decide +kernel
theorem dX5_scale_19 : decode cX5_scale 19 = .ok (.aload_n 0, 1) := by decide +kernel
theorem dX5_scale_20 : decode cX5_scale 20 = .ok (.getfield 13, 3) := by decide +kernel
theorem dX5_scale_23 : decode cX5_scale 23 = .ok (.iload_n 1, 1) := by decide +kernel
theorem dX5_scale_24 : decode cX5_scale 24 = .ok (.iaload, 1) := by decide +kernel
theorem dX5_scale_25 : decode cX5_scale 25 = .ok (.if_icmp .gt 46, 3) := by decide +kernel
theorem dX5_scale_28 : decode cX5_scale 28 = .ok (.aload_n 0, 1) := by decide +kernel
theorem dX5_scale_29 : decode cX5_scale 29 = .ok (.getfield 16, 3) := by decide +kernel
theorem dX5_scale_32 : decode cX5_scale 32 = .ok (.iload_n 1, 1) := by decide +kernel
theorem dX5_scale_33 : decode cX5_scale 33 = .ok (.iload 6, 2) := by decide +kernel
theorem dX5_scale_35 : decode cX5_scale 35 = .ok (.invokestatic 91, 3) := by decide +kernel
theorem dX5_scale_38 : decode cX5_scale 38 = .ok (.aload_n 0, 1) := by decide +kernel
theorem dX5_scale_39 : decode cX5_scale 39 = .ok (.getfield 16, 3) := by decide +kernel
theorem dX5_scale_42 : decode cX5_scale 42 = .ok (.iload_n 1, 1) := by decide +kernel
theorem dX5_scale_43 : decode cX5_scale 43 = .ok (.iload 6, 2) := by decide +kernel
theorem dX5_scale_45 : decode cX5_scale 45 = .ok (.invokestatic 91, 3) := by decide +kernel
theorem dX5_scale_48 : decode cX5_scale 48 = .ok (.laload, 1) := by decide +kernel
theorem dX5_scale_49 : decode cX5_scale 49 = .ok (.lload_n 2, 1) := by decide +kernel
theorem dX5_scale_50 : decode cX5_scale 50 = .ok (.invokestatic 84, 3) := by decide +kernel
theorem dX5_scale_53 : decode cX5_scale 53 = .ok (.invokestatic 70, 3) := by decide +kernel
theorem dX5_scale_56 : decode cX5_scale 56 = .ok (.lload 4, 2) := by decide +kernel
theorem dX5_scale_58 : decode cX5_scale 58 = .ok (.invokestatic 84, 3) := by decide +kernel
theorem dX5_scale_61 : decode cX5_scale 61 = .ok (.invokestatic 65, 3) := by decide +kernel
theorem dX5_scale_64 : decode cX5_scale 64 = .ok (.lastore, 1) := by decide +kernel
theorem dX5_scale_65 : decode cX5_scale 65 = .ok (.iinc 6 1, 3) := by decide +kernel
theorem dX5_scale_68 : decode cX5_scale 68 = .ok (.goto (-51), 3) := by decide +kernel
theorem dX5_scale_71 : decode cX5_scale 71 = .ok (.iconst 1, 1) := by decide +kernel
theorem dX5_scale_72 : decode cX5_scale 72 = .ok (.ireturn, 1) := by decide +kernel
theorem dX5_renew_0 : decode cX5_renew 0 = .ok (.aload_n 0, 1) := by decide +kernel
theorem dX5_renew_1 : decode cX5_renew 1 = .ok (.iconst 0, 1) := by decide +kernel
theorem dX5_renew_2 : decode cX5_renew 2 = .ok (.putfield 51, 3) := by decide +kernel
theorem dX5_renew_5 : decode cX5_renew 5 = .ok (.iload_n 1, 1) := by decide +kernel
theorem dX5_renew_6 : decode cX5_renew 6 = .ok (.invokestatic 77, 3) := by decide +kernel
theorem dX5_renew_9 : decode cX5_renew 9 = .ok (.ifCond .ne 5, 3) := by decide +kernel
theorem dX5_renew_12 : decode cX5_renew 12 = .ok (.iconst 0, 1) := by decide +kernel
theorem dX5_renew_13 : decode cX5_renew 13 = .ok (.ireturn, 1) := by decide +kernel
theorem dX5_renew_14 : decode cX5_renew 14 = .ok (.aload_n 0, 1) := by decide +kernel
theorem dX5_renew_15 : decode cX5_renew 15 = .ok (.lconst 0, 1) := by decide +kernel
theorem dX5_renew_16 : decode cX5_renew 16 = .ok (.aload_n 0, 1) := by decide +kernel
theorem dX5_renew_17 : decode cX5_renew 17 = .ok (.getfield 7, 3) := by decide +kernel
theorem dX5_renew_20 : decode cX5_renew 20 = .ok (.iload_n 1, 1) := by decide +kernel
theorem dX5_renew_21 : decode cX5_renew 21 = .ok (.iaload, 1) := by decide +kernel
theorem dX5_renew_22 : decode cX5_renew 22 = .ok (.lload_n 2, 1) := by decide +kernel
theorem dX5_renew_23 : decode cX5_renew 23 = .ok (.invokevirtual 87, 3) := by decide +kernel
theorem dX5_renew_26 : decode cX5_renew 26 = .ok (.iconst 1, 1) := by decide +kernel
theorem dX5_renew_27 : decode cX5_renew 27 = .ok (.istore 4, 2) := by decide +kernel
theorem dX5_renew_29 : decode cX5_renew 29 = .ok (.iload 4, 2) := by decide +kernel
theorem dX5_renew_31 : decode cX5_renew 31 = .ok (.aload_n 0, 1) := by decide +kernel
theorem dX5_renew_32 : decode cX5_renew 32 = .ok (.getfield 13, 3) := by decide +kernel
theorem dX5_renew_35 : decode cX5_renew 35 = .ok (.iload_n 1, 1) := by decide +kernel
theorem dX5_renew_36 : decode cX5_renew 36 = .ok (.iaload, 1) := by decide +kernel
theorem dX5_renew_37 : decode cX5_renew 37 = .ok (.if_icmp .gt 51, 3) := by decide +kernel
theorem dX5_renew_40 : decode cX5_renew 40 = .ok (.aload_n 0, 1) := by decide +kernel
theorem dX5_renew_41 : decode cX5_renew 41 = .ok (.getfield 16, 3) := by decide +kernel
theorem dX5_renew_44 : decode cX5_renew 44 = .ok (.iload_n 1, 1) := by decide +kernel
theorem dX5_renew_45 : decode cX5_renew 45 = .ok (.iload 4, 2) := by decide +kernel
theorem dX5_renew_47 : decode cX5_renew 47 = .ok (.invokestatic 91, 3) := by decide +kernel
theorem dX5_renew_50 : decode cX5_renew 50 = .ok (.aload_n 0, 1) := by decide +kernel
theorem dX5_renew_51 : decode cX5_renew 51 = .ok (.getfield 16, 3) := by decide +kernel
theorem dX5_renew_54 : decode cX5_renew 54 = .ok (.iload_n 1, 1) := by decide +kernel
theorem dX5_renew_55 : decode cX5_renew 55 = .ok (.iload 4, 2) := by decide +kernel
theorem dX5_renew_57 : decode cX5_renew 57 = .ok (.invokestatic 91, 3) := by decide +kernel
theorem dX5_renew_60 : decode cX5_renew 60 = .ok (.laload, 1) := by decide +kernel
theorem dX5_renew_61 : decode cX5_renew 61 = .ok (.aload_n 0, 1) := by decide +kernel
theorem dX5_renew_62 : decode cX5_renew 62 = .ok (.aload_n 0, 1) := by decide +kernel
theorem dX5_renew_63 : decode cX5_renew 63 = .ok (.getfield 39, 3) := by decide +kernel
theorem dX5_renew_66 : decode cX5_renew 66 = .ok (.aload_n 0, 1) := by decide +kernel
theorem dX5_renew_67 : decode cX5_renew 67 = .ok (.getfield 7, 3) := by decide +kernel
theorem dX5_renew_70 : decode cX5_renew 70 = .ok (.iload_n 1, 1) := by decide +kernel
theorem dX5_renew_71 : decode cX5_renew 71 = .ok (.iaload, 1) := by decide +kernel
theorem dX5_renew_72 : decode cX5_renew 72 = .ok (.iload 4, 2) := by decide +kernel
theorem dX5_renew_74 : decode cX5_renew 74 = .ok (.i2l, 1) := by decide +kernel
theorem dX5_renew_75 : decode cX5_renew 75 = .ok (.invokevirtual 95, 3) := by decide +kernel
theorem dX5_renew_78 : decode cX5_renew 78 = .ok (.invokestatic 65, 3) := by decide +kernel
theorem dX5_renew_81 : decode cX5_renew 81 = .ok (.lastore, 1) := by decide +kernel
theorem dX5_renew_82 : decode cX5_renew 82 = .ok (.iinc 4 1, 3) := by decide +kernel
theorem dX5_renew_85 : decode cX5_renew 85 = .ok (.goto (-56), 3) := by decide +kernel
theorem dX5_renew_88 : decode cX5_renew 88 = .ok (.iconst 1, 1) := by decide +kernel
theorem dX5_renew_89 : decode cX5_renew 89 = .ok (.ireturn, 1) := by decide +kernel
theorem dX5_over_0 : decode cX5_over 0 = .ok (.iload_n 3, 1) := by decide +kernel
theorem dX5_over_1 : decode cX5_over 1 = .ok (.ifCond .ge 21, 3) := by decide +kernel
theorem dX5_over_4 : decode cX5_over 4 = .ok (.lconst 0, 1) := by decide +kernel
theorem dX5_over_5 : decode cX5_over 5 = .ok (.lload_n 1, 1) := by decide +kernel
theorem dX5_over_6 : decode cX5_over 6 = .ok (.aload_n 0, 1) := by decide +kernel
theorem dX5_over_7 : decode cX5_over 7 = .ok (.getfield 24, 3) := by decide +kernel
theorem dX5_over_10 : decode cX5_over 10 = .ok (.iload_n 3, 1) := by decide +kernel
theorem dX5_over_11 : decode cX5_over 11 = .ok (.ineg, 1) := by decide +kernel
theorem dX5_over_12 : decode cX5_over 12 = .ok (.laload, 1) := by decide +kernel
theorem dX5_over_13 : decode cX5_over 13 = .ok (.invokestatic 70, 3) := by decide +kernel
theorem dX5_over_16 : decode cX5_over 16 = .ok (.invokestatic 103, 3) := by decide +kernel
theorem dX5_over_19 : decode cX5_over 19 = .ok (.goto 13, 3) := by decide +kernel
theorem dX5_over_22 : decode cX5_over 22 = .ok (.lload_n 1, 1) := by decide +kernel
theorem dX5_over_23 : decode cX5_over 23 = .ok (.aload_n 0, 1) := by decide +kernel
theorem dX5_over_24 : decode cX5_over 24 = .ok (.getfield 24, 3) := by decide +kernel
theorem dX5_over_27 : decode cX5_over 27 = .ok (.iload_n 3, 1) := by decide +kernel
theorem dX5_over_28 : decode cX5_over 28 = .ok (.laload, 1) := by decide +kernel
theorem dX5_over_29 : decode cX5_over 29 = .ok (.invokestatic 70, 3) := by decide +kernel
theorem dX5_over_32 : decode cX5_over 32 = .ok (.lreturn, 1) := by decide +kernel
theorem dX5_through_0 : decode cX5_through 0 = .ok (.iconst 0, 1) := by decide +kernel
theorem dX5_through_1 : decode cX5_through 1 = .ok (.istore_n 3, 1) := by decide +kernel
theorem dX5_through_2 : decode cX5_through 2 = .ok (.iload_n 3, 1) := by decide +kernel
theorem dX5_through_3 : decode cX5_through 3 = .ok (.iload_n 2, 1) := by decide +kernel
theorem dX5_through_4 : decode cX5_through 4 = .ok (.if_icmp .gt 30, 3) := by decide +kernel
theorem dX5_through_7 : decode cX5_through 7 = .ok (.aload_n 0, 1) := by decide +kernel
theorem dX5_through_8 : decode cX5_through 8 = .ok (.getfield 42, 3) := by decide +kernel
theorem dX5_through_11 : decode cX5_through 11 = .ok (.iload_n 3, 1) := by decide +kernel
theorem dX5_through_12 : decode cX5_through 12 = .ok (.aload_n 0, 1) := by decide +kernel
theorem dX5_through_13 : decode cX5_through 13 = .ok (.getfield 16, 3) := by decide +kernel
theorem dX5_through_16 : decode cX5_through 16 = .ok (.iload_n 1, 1) := by decide +kernel
theorem dX5_through_17 : decode cX5_through 17 = .ok (.aload_n 0, 1) := by decide +kernel
theorem dX5_through_18 : decode cX5_through 18 = .ok (.getfield 36, 3) := by decide +kernel
theorem dX5_through_21 : decode cX5_through 21 = .ok (.iload_n 3, 1) := by decide +kernel
theorem dX5_through_22 : decode cX5_through 22 = .ok (.iaload, 1) := by decide +kernel
theorem dX5_through_23 : decode cX5_through 23 = .ok (.invokestatic 91, 3) := by decide +kernel
theorem dX5_through_26 : decode cX5_through 26 = .ok (.laload, 1) := by decide +kernel
theorem dX5_through_27 : decode cX5_through 27 = .ok (.lastore, 1) := by decide +kernel
theorem dX5_through_28 : decode cX5_through 28 = .ok (.iinc 3 1, 3) := by decide +kernel
theorem dX5_through_31 : decode cX5_through 31 = .ok (.goto (-29), 3) := by decide +kernel
theorem dX5_through_34 : decode cX5_through 34 = .ok (.iconst 1, 1) := by decide +kernel
theorem dX5_through_35 : decode cX5_through 35 = .ok (.istore_n 3, 1) := by decide +kernel
theorem dX5_through_36 : decode cX5_through 36 = .ok (.iload_n 3, 1) := by decide +kernel
theorem dX5_through_37 : decode cX5_through 37 = .ok (.iload_n 2, 1) := by decide +kernel
theorem dX5_through_38 : decode cX5_through 38 = .ok (.if_icmp .gt 71, 3) := by decide +kernel
theorem dX5_through_41 : decode cX5_through 41 = .ok (.iload_n 2, 1) := by decide +kernel
theorem dX5_through_42 : decode cX5_through 42 = .ok (.istore 4, 2) := by decide +kernel
theorem dX5_through_44 : decode cX5_through 44 = .ok (.iload 4, 2) := by decide +kernel
theorem dX5_through_46 : decode cX5_through 46 = .ok (.iload_n 3, 1) := by decide +kernel
theorem dX5_through_47 : decode cX5_through 47 = .ok (.if_icmp .lt 56, 3) := by decide +kernel
theorem dX5_through_50 : decode cX5_through 50 = .ok (.aload_n 0, 1) := by decide +kernel
theorem dX5_through_51 : decode cX5_through 51 = .ok (.getfield 42, 3) := by decide +kernel
theorem dX5_through_54 : decode cX5_through 54 = .ok (.iload 4, 2) := by decide +kernel
theorem dX5_through_56 : decode cX5_through 56 = .ok (.aload_n 0, 1) := by decide +kernel
theorem dX5_through_57 : decode cX5_through 57 = .ok (.aload_n 0, 1) := by decide +kernel
theorem dX5_through_58 : decode cX5_through 58 = .ok (.getfield 42, 3) := by decide +kernel
theorem dX5_through_61 : decode cX5_through 61 = .ok (.iload 4, 2) := by decide +kernel
theorem dX5_through_63 : decode cX5_through 63 = .ok (.laload, 1) := by decide +kernel
theorem dX5_through_64 : decode cX5_through 64 = .ok (.aload_n 0, 1) := by decide +kernel
theorem dX5_through_65 : decode cX5_through 65 = .ok (.getfield 42, 3) := by decide +kernel
theorem dX5_through_68 : decode cX5_through 68 = .ok (.iload 4, 2) := by decide +kernel
theorem dX5_through_70 : decode cX5_through 70 = .ok (.iconst 1, 1) := by decide +kernel
theorem dX5_through_71 : decode cX5_through 71 = .ok (.isub, 1) := by decide +kernel
theorem dX5_through_72 : decode cX5_through 72 = .ok (.laload, 1) := by decide +kernel
theorem dX5_through_73 : decode cX5_through 73 = .ok (.invokestatic 103, 3) := by decide +kernel
theorem dX5_through_76 : decode cX5_through 76 = .ok (.aload_n 0, 1) := by decide +kernel
theorem dX5_through_77 : decode cX5_through 77 = .ok (.getfield 36, 3) := by decide +kernel
theorem dX5_through_80 : decode cX5_through 80 = .ok (.iload 4, 2) := by decide +kernel
theorem dX5_through_82 : decode cX5_through 82 = .ok (.iaload, 1) := by decide +kernel
theorem dX5_through_83 : decode cX5_through 83 = .ok (.aload_n 0, 1) := by decide +kernel
theorem dX5_through_84 : decode cX5_through 84 = .ok (.getfield 36, 3) := by decide +kernel
theorem dX5_through_87 : decode cX5_through 87 = .ok (.iload 4, 2) := by decide +kernel
theorem dX5_through_89 : decode cX5_through 89 = .ok (.iload_n 3, 1) := by decide +kernel
theorem dX5_through_90 : decode cX5_through 90 = .ok (.isub, 1) := by decide +kernel
theorem dX5_through_91 : decode cX5_through 91 = .ok (.iaload, 1) := by decide +kernel
theorem dX5_through_92 : decode cX5_through 92 = .ok (.isub, 1) := by decide +kernel
theorem dX5_through_93 : decode cX5_through 93 = .ok (.invokevirtual 106, 3) := by decide +kernel
theorem dX5_through_96 : decode cX5_through 96 = .ok (.lastore, 1) := by decide +kernel
theorem dX5_through_97 : decode cX5_through 97 = .ok (.iinc 4 (-1), 3) := by decide +kernel
theorem dX5_through_100 : decode cX5_through 100 = .ok (.goto (-56), 3) := by decide +kernel
theorem dX5_through_103 : decode cX5_through 103 = .ok (.iinc 3 1, 3) := by decide +kernel
theorem dX5_through_106 : decode cX5_through 106 = .ok (.goto (-70), 3) := by decide +kernel
theorem dX5_through_109 : decode cX5_through 109 = .ok (.iconst 0, 1) := by decide +kernel
theorem dX5_through_110 : decode cX5_through 110 = .ok (.istore_n 3, 1) := by decide +kernel
theorem dX5_through_111 : decode cX5_through 111 = .ok (.iload_n 3, 1) := by decide +kernel
theorem dX5_through_112 : decode cX5_through 112 = .ok (.bipush 8, 2) := by decide +kernel
theorem dX5_through_114 : decode cX5_through 114 = .ok (.if_icmp .gt 16, 3) := by decide +kernel
theorem dX5_through_117 : decode cX5_through 117 = .ok (.aload_n 0, 1) := by decide +kernel
theorem dX5_through_118 : decode cX5_through 118 = .ok (.getfield 39, 3) := by decide +kernel
theorem dX5_through_121 : decode cX5_through 121 = .ok (.iload_n 3, 1) := by decide +kernel
theorem dX5_through_122 : decode cX5_through 122 = .ok (.lconst 0, 1) := by decide +kernel
theorem dX5_through_123 : decode cX5_through 123 = .ok (.lastore, 1) := by decide +kernel
theorem dX5_through_124 : decode cX5_through 124 = .ok (.iinc 3 1, 3) := by decide +kernel
theorem dX5_through_127 : decode cX5_through 127 = .ok (.goto (-16), 3) := by decide +kernel
theorem dX5_through_130 : decode cX5_through 130 = .ok (.iload_n 2, 1) := by decide +kernel
theorem dX5_through_131 : decode cX5_through 131 = .ok (.istore_n 3, 1) := by decide +kernel
theorem dX5_through_132 : decode cX5_through 132 = .ok (.iload_n 3, 1) := by decide +kernel
theorem dX5_through_133 : decode cX5_through 133 = .ok (.ifCond .lt 106, 3) := by decide +kernel
theorem dX5_through_136 : decode cX5_through 136 = .ok (.iload_n 2, 1) := by decide +kernel
theorem dX5_through_137 : decode cX5_through 137 = .ok (.istore 4, 2) := by decide +kernel
theorem dX5_through_139 : decode cX5_through 139 = .ok (.iload 4, 2) := by decide +kernel
theorem dX5_through_141 : decode cX5_through 141 = .ok (.ifCond .le 45, 3) := by decide +kernel
theorem dX5_through_144 : decode cX5_through 144 = .ok (.aload_n 0, 1) := by decide +kernel
theorem dX5_through_145 : decode cX5_through 145 = .ok (.getfield 39, 3) := by decide +kernel
theorem dX5_through_148 : decode cX5_through 148 = .ok (.iload 4, 2) := by decide +kernel
theorem dX5_through_150 : decode cX5_through 150 = .ok (.aload_n 0, 1) := by decide +kernel
theorem dX5_through_151 : decode cX5_through 151 = .ok (.getfield 39, 3) := by decide +kernel
theorem dX5_through_154 : decode cX5_through 154 = .ok (.iload 4, 2) := by decide +kernel
theorem dX5_through_156 : decode cX5_through 156 = .ok (.iconst 1, 1) := by decide +kernel
theorem dX5_through_157 : decode cX5_through 157 = .ok (.isub, 1) := by decide +kernel
theorem dX5_through_158 : decode cX5_through 158 = .ok (.laload, 1) := by decide +kernel
theorem dX5_through_159 : decode cX5_through 159 = .ok (.aload_n 0, 1) := by decide +kernel
theorem dX5_through_160 : decode cX5_through 160 = .ok (.getfield 39, 3) := by decide +kernel
theorem dX5_through_163 : decode cX5_through 163 = .ok (.iload 4, 2) := by decide +kernel
theorem dX5_through_165 : decode cX5_through 165 = .ok (.laload, 1) := by decide +kernel
theorem dX5_through_166 : decode cX5_through 166 = .ok (.aload_n 0, 1) := by decide +kernel
theorem dX5_through_167 : decode cX5_through 167 = .ok (.getfield 36, 3) := by decide +kernel
theorem dX5_through_170 : decode cX5_through 170 = .ok (.iload_n 3, 1) := by decide +kernel
theorem dX5_through_171 : decode cX5_through 171 = .ok (.iaload, 1) := by decide +kernel
theorem dX5_through_172 : decode cX5_through 172 = .ok (.i2l, 1) := by decide +kernel
theorem dX5_through_173 : decode cX5_through 173 = .ok (.invokestatic 70, 3) := by decide +kernel
theorem dX5_through_176 : decode cX5_through 176 = .ok (.invokestatic 103, 3) := by decide +kernel
theorem dX5_through_179 : decode cX5_through 179 = .ok (.lastore, 1) := by decide +kernel
theorem dX5_through_180 : decode cX5_through 180 = .ok (.iinc 4 (-1), 3) := by decide +kernel
theorem dX5_through_183 : decode cX5_through 183 = .ok (.goto (-44), 3) := by decide +kernel
theorem dX5_through_186 : decode cX5_through 186 = .ok (.aload_n 0, 1) := by decide +kernel
theorem dX5_through_187 : decode cX5_through 187 = .ok (.getfield 39, 3) := by decide +kernel
theorem dX5_through_190 : decode cX5_through 190 = .ok (.iconst 0, 1) := by decide +kernel
theorem dX5_through_191 : decode cX5_through 191 = .ok (.lconst 0, 1) := by decide +kernel
theorem dX5_through_192 : decode cX5_through 192 = .ok (.aload_n 0, 1) := by decide +kernel
theorem dX5_through_193 : decode cX5_through 193 = .ok (.getfield 39, 3) := by decide +kernel
theorem dX5_through_196 : decode cX5_through 196 = .ok (.iconst 0, 1) := by decide +kernel
theorem dX5_through_197 : decode cX5_through 197 = .ok (.laload, 1) := by decide +kernel
theorem dX5_through_198 : decode cX5_through 198 = .ok (.aload_n 0, 1) := by decide +kernel
theorem dX5_through_199 : decode cX5_through 199 = .ok (.getfield 36, 3) := by decide +kernel
theorem dX5_through_202 : decode cX5_through 202 = .ok (.iload_n 3, 1) := by decide +kernel
theorem dX5_through_203 : decode cX5_through 203 = .ok (.iaload, 1) := by decide +kernel
theorem dX5_through_204 : decode cX5_through 204 = .ok (.i2l, 1) := by decide +kernel
theorem dX5_through_205 : decode cX5_through 205 = .ok (.invokestatic 70, 3) := by decide +kernel
theorem dX5_through_208 : decode cX5_through 208 = .ok (.invokestatic 103, 3) := by decide +kernel
theorem dX5_through_211 : decode cX5_through 211 = .ok (.lastore, 1) := by decide +kernel
theorem dX5_through_212 : decode cX5_through 212 = .ok (.aload_n 0, 1) := by decide +kernel
theorem dX5_through_213 : decode cX5_through 213 = .ok (.getfield 39, 3) := by decide +kernel
theorem dX5_through_216 : decode cX5_through 216 = .ok (.iconst 0, 1) := by decide +kernel
theorem dX5_through_217 : decode cX5_through 217 = .ok (.aload_n 0, 1) := by decide +kernel
theorem dX5_through_218 : decode cX5_through 218 = .ok (.getfield 39, 3) := by decide +kernel
theorem dX5_through_221 : decode cX5_through 221 = .ok (.iconst 0, 1) := by decide +kernel
theorem dX5_through_222 : decode cX5_through 222 = .ok (.laload, 1) := by decide +kernel
theorem dX5_through_223 : decode cX5_through 223 = .ok (.aload_n 0, 1) := by decide +kernel
theorem dX5_through_224 : decode cX5_through 224 = .ok (.getfield 42, 3) := by decide +kernel
theorem dX5_through_227 : decode cX5_through 227 = .ok (.iload_n 3, 1) := by decide +kernel
theorem dX5_through_228 : decode cX5_through 228 = .ok (.laload, 1) := by decide +kernel
theorem dX5_through_229 : decode cX5_through 229 = .ok (.invokestatic 65, 3) := by decide +kernel
theorem dX5_through_232 : decode cX5_through 232 = .ok (.lastore, 1) := by decide +kernel
theorem dX5_through_233 : decode cX5_through 233 = .ok (.iinc 3 (-1), 3) := by decide +kernel
theorem dX5_through_236 : decode cX5_through 236 = .ok (.goto (-104), 3) := by decide +kernel
theorem dX5_through_239 : decode cX5_through 239 = .ok (.return_, 1) := by decide +kernel
theorem dX5_missed_0 : decode cX5_missed 0 = .ok (.iconst 0, 1) := by decide +kernel
theorem dX5_missed_1 : decode cX5_missed 1 = .ok (.istore_n 3, 1) := by decide +kernel
theorem dX5_missed_2 : decode cX5_missed 2 = .ok (.iconst 0, 1) := by decide +kernel
theorem dX5_missed_3 : decode cX5_missed 3 = .ok (.istore 4, 2) := by decide +kernel
theorem dX5_missed_5 : decode cX5_missed 5 = .ok (.iload 4, 2) := by decide +kernel
theorem dX5_missed_7 : decode cX5_missed 7 = .ok (.aload_n 0, 1) := by decide +kernel
theorem dX5_missed_8 : decode cX5_missed 8 = .ok (.getfield 110, 3) := by decide +kernel
theorem dX5_missed_11 : decode cX5_missed 11 = .ok (.if_icmp .ge 54, 3) := by decide +kernel
theorem dX5_missed_14 : decode cX5_missed 14 = .ok (.iload_n 3, 1) := by decide +kernel
theorem dX5_missed_15 : decode cX5_missed 15 = .ok (.aload_n 0, 1) := by decide +kernel
theorem dX5_missed_16 : decode cX5_missed 16 = .ok (.aload_n 0, 1) := by decide +kernel
theorem dX5_missed_17 : decode cX5_missed 17 = .ok (.getfield 39, 3) := by decide +kernel
theorem dX5_missed_20 : decode cX5_missed 20 = .ok (.iload_n 2, 1) := by decide +kernel
theorem dX5_missed_21 : decode cX5_missed 21 = .ok (.aload_n 0, 1) := by decide +kernel
theorem dX5_missed_22 : decode cX5_missed 22 = .ok (.getfield 33, 3) := by decide +kernel
theorem dX5_missed_25 : decode cX5_missed 25 = .ok (.iload 4, 2) := by decide +kernel
theorem dX5_missed_27 : decode cX5_missed 27 = .ok (.iaload, 1) := by decide +kernel
theorem dX5_missed_28 : decode cX5_missed 28 = .ok (.i2l, 1) := by decide +kernel
theorem dX5_missed_29 : decode cX5_missed 29 = .ok (.invokevirtual 95, 3) := by decide +kernel
theorem dX5_missed_32 : decode cX5_missed 32 = .ok (.aload_n 0, 1) := by decide +kernel
theorem dX5_missed_33 : decode cX5_missed 33 = .ok (.getfield 16, 3) := by decide +kernel
theorem dX5_missed_36 : decode cX5_missed 36 = .ok (.iload_n 1, 1) := by decide +kernel
theorem dX5_missed_37 : decode cX5_missed 37 = .ok (.aload_n 0, 1) := by decide +kernel
theorem dX5_missed_38 : decode cX5_missed 38 = .ok (.getfield 33, 3) := by decide +kernel
theorem dX5_missed_41 : decode cX5_missed 41 = .ok (.iload 4, 2) := by decide +kernel
theorem dX5_missed_43 : decode cX5_missed 43 = .ok (.iaload, 1) := by decide +kernel
theorem dX5_missed_44 : decode cX5_missed 44 = .ok (.invokestatic 91, 3) := by decide +kernel
theorem dX5_missed_47 : decode cX5_missed 47 = .ok (.laload, 1) := by decide +kernel
theorem dX5_missed_48 : decode cX5_missed 48 = .ok (.lcmp, 1) := by decide +kernel
theorem dX5_missed_49 : decode cX5_missed 49 = .ok (.ifCond .eq 7, 3) := by decide +kernel
theorem dX5_missed_52 : decode cX5_missed 52 = .ok (.iconst 1, 1) := by decide +kernel
theorem dX5_missed_53 : decode cX5_missed 53 = .ok (.goto 4, 3) := by decide +kernel
theorem dX5_missed_56 : decode cX5_missed 56 = .ok (.iconst 0, 1) := by decide +kernel
theorem dX5_missed_57 : decode cX5_missed 57 = .ok (.iadd, 1) := by decide +kernel
theorem dX5_missed_58 : decode cX5_missed 58 = .ok (.istore_n 3, 1) := by decide +kernel
theorem dX5_missed_59 : decode cX5_missed 59 = .ok (.iinc 4 1, 3) := by decide +kernel
theorem dX5_missed_62 : decode cX5_missed 62 = .ok (.goto (-57), 3) := by decide +kernel
theorem dX5_missed_65 : decode cX5_missed 65 = .ok (.iload_n 3, 1) := by decide +kernel
theorem dX5_missed_66 : decode cX5_missed 66 = .ok (.ireturn, 1) := by decide +kernel
theorem dX5_isOne_0 : decode cX5_isOne 0 = .ok (.iconst 0, 1) := by decide +kernel
theorem dX5_isOne_1 : decode cX5_isOne 1 = .ok (.istore 4, 2) := by decide +kernel
theorem dX5_isOne_3 : decode cX5_isOne 3 = .ok (.iload 4, 2) := by decide +kernel
theorem dX5_isOne_5 : decode cX5_isOne 5 = .ok (.iconst 1, 1) := by decide +kernel
theorem dX5_isOne_6 : decode cX5_isOne 6 = .ok (.iload_n 2, 1) := by decide +kernel
theorem dX5_isOne_7 : decode cX5_isOne 7 = .ok (.iconst 1, 1) := by decide +kernel
theorem dX5_isOne_8 : decode cX5_isOne 8 = .ok (.iadd, 1) := by decide +kernel
theorem dX5_isOne_9 : decode cX5_isOne 9 = .ok (.iload_n 3, 1) := by decide +kernel
theorem dX5_isOne_10 : decode cX5_isOne 10 = .ok (.iadd, 1) := by decide +kernel
theorem dX5_isOne_11 : decode cX5_isOne 11 = .ok (.ishl, 1) := by decide +kernel
theorem dX5_isOne_12 : decode cX5_isOne 12 = .ok (.if_icmp .ge 96, 3) := by decide +kernel
theorem dX5_isOne_15 : decode cX5_isOne 15 = .ok (.iconst 0, 1) := by decide +kernel
theorem dX5_isOne_16 : decode cX5_isOne 16 = .ok (.istore 5, 2) := by decide +kernel
theorem dX5_isOne_18 : decode cX5_isOne 18 = .ok (.iconst 0, 1) := by decide +kernel
theorem dX5_isOne_19 : decode cX5_isOne 19 = .ok (.istore 6, 2) := by decide +kernel
theorem dX5_isOne_21 : decode cX5_isOne 21 = .ok (.iload 6, 2) := by decide +kernel
theorem dX5_isOne_23 : decode cX5_isOne 23 = .ok (.iload_n 2, 1) := by decide +kernel
theorem dX5_isOne_24 : decode cX5_isOne 24 = .ok (.iconst 1, 1) := by decide +kernel
theorem dX5_isOne_25 : decode cX5_isOne 25 = .ok (.iadd, 1) := by decide +kernel
theorem dX5_isOne_26 : decode cX5_isOne 26 = .ok (.iload_n 3, 1) := by decide +kernel
theorem dX5_isOne_27 : decode cX5_isOne 27 = .ok (.iadd, 1) := by decide +kernel
theorem dX5_isOne_28 : decode cX5_isOne 28 = .ok (.if_icmp .ge 45, 3) := by decide +kernel
theorem dX5_isOne_31 : decode cX5_isOne 31 = .ok (.iload 4, 2) := by decide +kernel
theorem dX5_isOne_33 : decode cX5_isOne 33 = .ok (.iload 6, 2) := by decide +kernel
theorem dX5_isOne_35 : decode cX5_isOne 35 = .ok (.ishr, 1) := by decide +kernel
theorem dX5_isOne_36 : decode cX5_isOne 36 = .ok (.iconst 1, 1) := by decide +kernel
theorem dX5_isOne_37 : decode cX5_isOne 37 = .ok (.iand, 1) := by decide +kernel
theorem dX5_isOne_38 : decode cX5_isOne 38 = .ok (.ifCond .ne 6, 3) := by decide +kernel
theorem dX5_isOne_41 : decode cX5_isOne 41 = .ok (.goto 26, 3) := by decide +kernel
theorem dX5_isOne_44 : decode cX5_isOne 44 = .ok (.iload 5, 2) := by decide +kernel
theorem dX5_isOne_46 : decode cX5_isOne 46 = .ok (.iload_n 2, 1) := by decide +kernel
theorem dX5_isOne_47 : decode cX5_isOne 47 = .ok (.if_icmp .gt 17, 3) := by decide +kernel
theorem dX5_isOne_50 : decode cX5_isOne 50 = .ok (.aload_n 0, 1) := by decide +kernel
theorem dX5_isOne_51 : decode cX5_isOne 51 = .ok (.getfield 36, 3) := by decide +kernel
theorem dX5_isOne_54 : decode cX5_isOne 54 = .ok (.iload 5, 2) := by decide +kernel
theorem dX5_isOne_56 : decode cX5_isOne 56 = .ok (.aload_n 0, 1) := by decide +kernel
theorem dX5_isOne_57 : decode cX5_isOne 57 = .ok (.getfield 33, 3) := by decide +kernel
theorem dX5_isOne_60 : decode cX5_isOne 60 = .ok (.iload 6, 2) := by decide +kernel
theorem dX5_isOne_62 : decode cX5_isOne 62 = .ok (.iaload, 1) := by decide +kernel
theorem dX5_isOne_63 : decode cX5_isOne 63 = .ok (.iastore, 1) := by decide +kernel
theorem dX5_isOne_64 : decode cX5_isOne 64 = .ok (.iinc 5 1, 3) := by decide +kernel
theorem dX5_isOne_67 : decode cX5_isOne 67 = .ok (.iinc 6 1, 3) := by decide +kernel
theorem dX5_isOne_70 : decode cX5_isOne 70 = .ok (.goto (-49), 3) := by decide +kernel
theorem dX5_isOne_73 : decode cX5_isOne 73 = .ok (.iload 5, 2) := by decide +kernel
theorem dX5_isOne_75 : decode cX5_isOne 75 = .ok (.iload_n 2, 1) := by decide +kernel
theorem dX5_isOne_76 : decode cX5_isOne 76 = .ok (.iconst 1, 1) := by decide +kernel
theorem dX5_isOne_77 : decode cX5_isOne 77 = .ok (.iadd, 1) := by decide +kernel
theorem dX5_isOne_78 : decode cX5_isOne 78 = .ok (.if_icmp .eq 6, 3) := by decide +kernel
theorem dX5_isOne_81 : decode cX5_isOne 81 = .ok (.goto 21, 3) := by decide +kernel
theorem dX5_isOne_84 : decode cX5_isOne 84 = .ok (.aload_n 0, 1) := by decide +kernel
theorem dX5_isOne_85 : decode cX5_isOne 85 = .ok (.iload_n 1, 1) := by decide +kernel
theorem dX5_isOne_86 : decode cX5_isOne 86 = .ok (.iload_n 2, 1) := by decide +kernel
theorem dX5_isOne_87 : decode cX5_isOne 87 = .ok (.invokevirtual 113, 3) := by decide +kernel
theorem dX5_isOne_90 : decode cX5_isOne 90 = .ok (.aload_n 0, 1) := by decide +kernel
theorem dX5_isOne_91 : decode cX5_isOne 91 = .ok (.iload_n 1, 1) := by decide +kernel
theorem dX5_isOne_92 : decode cX5_isOne 92 = .ok (.iload_n 2, 1) := by decide +kernel
theorem dX5_isOne_93 : decode cX5_isOne 93 = .ok (.invokevirtual 117, 3) := by decide +kernel
theorem dX5_isOne_96 : decode cX5_isOne 96 = .ok (.iload_n 3, 1) := by decide +kernel
theorem dX5_isOne_97 : decode cX5_isOne 97 = .ok (.if_icmp .gt 5, 3) := by decide +kernel
theorem dX5_isOne_100 : decode cX5_isOne 100 = .ok (.iconst 1, 1) := by decide +kernel
theorem dX5_isOne_101 : decode cX5_isOne 101 = .ok (.ireturn, 1) := by decide +kernel
theorem dX5_isOne_102 : decode cX5_isOne 102 = .ok (.iinc 4 1, 3) := by decide +kernel
theorem dX5_isOne_105 : decode cX5_isOne 105 = .ok (.goto (-102), 3) := by decide +kernel
theorem dX5_isOne_108 : decode cX5_isOne 108 = .ok (.iconst 0, 1) := by decide +kernel
theorem dX5_isOne_109 : decode cX5_isOne 109 = .ok (.ireturn, 1) := by decide +kernel
theorem dX5_find_0 : decode cX5_find 0 = .ok (.iload_n 1, 1) := by decide +kernel
theorem dX5_find_1 : decode cX5_find 1 = .ok (.invokestatic 77, 3) := by decide +kernel
theorem dX5_find_4 : decode cX5_find 4 = .ok (.ifCond .eq 13, 3) := by decide +kernel
theorem dX5_find_7 : decode cX5_find 7 = .ok (.iload_n 2, 1) := by decide +kernel
theorem dX5_find_8 : decode cX5_find 8 = .ok (.ifCond .lt 9, 3) := by decide +kernel
theorem dX5_find_11 : decode cX5_find 11 = .ok (.iload_n 2, 1) := by decide +kernel
theorem dX5_find_12 : decode cX5_find 12 = .ok (.bipush 7, 2) := by decide +kernel
theorem dX5_find_14 : decode cX5_find 14 = .ok (.if_icmp .le 9, 3) := by decide +kernel
theorem dX5_find_17 : decode cX5_find 17 = .ok (.aload_n 0, 1) := by decide +kernel
theorem dX5_find_18 : decode cX5_find 18 = .ok (.iconst 1, 1) := by decide +kernel
theorem dX5_find_19 : decode cX5_find 19 = .ok (.invokevirtual 120, 3) := by decide +kernel
theorem dX5_find_22 : decode cX5_find 22 = .ok (.ireturn, 1) := by decide +kernel
theorem dX5_find_23 : decode cX5_find 23 = .ok (.aload_n 0, 1) := by decide +kernel
theorem dX5_find_24 : decode cX5_find 24 = .ok (.iconst 0, 1) := by decide +kernel
theorem dX5_find_25 : decode cX5_find 25 = .ok (.putfield 110, 3) := by decide +kernel
theorem dX5_find_28 : decode cX5_find 28 = .ok (.iconst 1, 1) := by decide +kernel
theorem dX5_find_29 : decode cX5_find 29 = .ok (.istore_n 3, 1) := by decide +kernel
theorem dX5_find_30 : decode cX5_find 30 = .ok (.iload_n 3, 1) := by decide +kernel
theorem dX5_find_31 : decode cX5_find 31 = .ok (.aload_n 0, 1) := by decide +kernel
theorem dX5_find_32 : decode cX5_find 32 = .ok (.getfield 13, 3) := by decide +kernel
theorem dX5_find_35 : decode cX5_find 35 = .ok (.iload_n 1, 1) := by decide +kernel
theorem dX5_find_36 : decode cX5_find 36 = .ok (.iaload, 1) := by decide +kernel
theorem dX5_find_37 : decode cX5_find 37 = .ok (.if_icmp .gt 45, 3) := by decide +kernel
theorem dX5_find_40 : decode cX5_find 40 = .ok (.aload_n 0, 1) := by decide +kernel
theorem dX5_find_41 : decode cX5_find 41 = .ok (.getfield 20, 3) := by decide +kernel
theorem dX5_find_44 : decode cX5_find 44 = .ok (.iload_n 1, 1) := by decide +kernel
theorem dX5_find_45 : decode cX5_find 45 = .ok (.iload_n 3, 1) := by decide +kernel
theorem dX5_find_46 : decode cX5_find 46 = .ok (.invokestatic 91, 3) := by decide +kernel
theorem dX5_find_49 : decode cX5_find 49 = .ok (.baload, 1) := by decide +kernel
theorem dX5_find_50 : decode cX5_find 50 = .ok (.ifCond .ne 6, 3) := by decide +kernel
theorem dX5_find_53 : decode cX5_find 53 = .ok (.goto 23, 3) := by decide +kernel
theorem dX5_find_56 : decode cX5_find 56 = .ok (.aload_n 0, 1) := by decide +kernel
theorem dX5_find_57 : decode cX5_find 57 = .ok (.getfield 33, 3) := by decide +kernel
theorem dX5_find_60 : decode cX5_find 60 = .ok (.aload_n 0, 1) := by decide +kernel
theorem dX5_find_61 : decode cX5_find 61 = .ok (.getfield 110, 3) := by decide +kernel
theorem dX5_find_64 : decode cX5_find 64 = .ok (.iload_n 3, 1) := by decide +kernel
theorem dX5_find_65 : decode cX5_find 65 = .ok (.iastore, 1) := by decide +kernel
theorem dX5_find_66 : decode cX5_find 66 = .ok (.aload_n 0, 1) := by decide +kernel
theorem dX5_find_67 : decode cX5_find 67 = .ok (.dup, 1) := by decide +kernel
theorem dX5_find_68 : decode cX5_find 68 = .ok (.getfield 110, 3) := by decide +kernel
theorem dX5_find_71 : decode cX5_find 71 = .ok (.iconst 1, 1) := by decide +kernel
theorem dX5_find_72 : decode cX5_find 72 = .ok (.iadd, 1) := by decide +kernel
theorem dX5_find_73 : decode cX5_find 73 = .ok (.putfield 110, 3) := by decide +kernel
theorem dX5_find_76 : decode cX5_find 76 = .ok (.iinc 3 1, 3) := by decide +kernel
theorem dX5_find_79 : decode cX5_find 79 = .ok (.goto (-49), 3) := by decide +kernel
theorem dX5_find_82 : decode cX5_find 82 = .ok (.aload_n 0, 1) := by decide +kernel
theorem dX5_find_83 : decode cX5_find 83 = .ok (.getfield 7, 3) := by decide +kernel
theorem dX5_find_86 : decode cX5_find 86 = .ok (.iload_n 1, 1) := by decide +kernel
theorem dX5_find_87 : decode cX5_find 87 = .ok (.iaload, 1) := by decide +kernel
theorem dX5_find_88 : decode cX5_find 88 = .ok (.istore_n 3, 1) := by decide +kernel
theorem dX5_find_89 : decode cX5_find 89 = .ok (.aload_n 0, 1) := by decide +kernel
theorem dX5_find_90 : decode cX5_find 90 = .ok (.getfield 110, 3) := by decide +kernel
theorem dX5_find_93 : decode cX5_find 93 = .ok (.iload_n 3, 1) := by decide +kernel
theorem dX5_find_94 : decode cX5_find 94 = .ok (.iconst 1, 1) := by decide +kernel
theorem dX5_find_95 : decode cX5_find 95 = .ok (.iadd, 1) := by decide +kernel
theorem dX5_find_96 : decode cX5_find 96 = .ok (.iconst 2, 1) := by decide +kernel
theorem dX5_find_97 : decode cX5_find 97 = .ok (.iload_n 2, 1) := by decide +kernel
theorem dX5_find_98 : decode cX5_find 98 = .ok (.imul, 1) := by decide +kernel
theorem dX5_find_99 : decode cX5_find 99 = .ok (.iadd, 1) := by decide +kernel
theorem dX5_find_100 : decode cX5_find 100 = .ok (.if_icmp .ge 9, 3) := by decide +kernel
theorem dX5_find_103 : decode cX5_find 103 = .ok (.aload_n 0, 1) := by decide +kernel
theorem dX5_find_104 : decode cX5_find 104 = .ok (.iconst 1, 1) := by decide +kernel
theorem dX5_find_105 : decode cX5_find 105 = .ok (.invokevirtual 120, 3) := by decide +kernel
theorem dX5_find_108 : decode cX5_find 108 = .ok (.ireturn, 1) := by decide +kernel
theorem dX5_find_109 : decode cX5_find 109 = .ok (.aload_n 0, 1) := by decide +kernel
theorem dX5_find_110 : decode cX5_find 110 = .ok (.iload_n 1, 1) := by decide +kernel
theorem dX5_find_111 : decode cX5_find 111 = .ok (.iload_n 3, 1) := by decide +kernel
theorem dX5_find_112 : decode cX5_find 112 = .ok (.iload_n 2, 1) := by decide +kernel
theorem dX5_find_113 : decode cX5_find 113 = .ok (.invokevirtual 124, 3) := by decide +kernel
theorem dX5_find_116 : decode cX5_find 116 = .ok (.ifCond .ne 9, 3) := by decide +kernel
theorem dX5_find_119 : decode cX5_find 119 = .ok (.aload_n 0, 1) := by decide +kernel
theorem dX5_find_120 : decode cX5_find 120 = .ok (.iconst 2, 1) := by decide +kernel
theorem dX5_find_121 : decode cX5_find 121 = .ok (.invokevirtual 120, 3) := by decide +kernel
theorem dX5_find_124 : decode cX5_find 124 = .ok (.ireturn, 1) := by decide +kernel
theorem dX5_find_125 : decode cX5_find 125 = .ok (.aload_n 0, 1) := by decide +kernel
theorem dX5_find_126 : decode cX5_find 126 = .ok (.iconst 0, 1) := by decide +kernel
theorem dX5_find_127 : decode cX5_find 127 = .ok (.putfield 51, 3) := by decide +kernel
theorem dX5_find_130 : decode cX5_find 130 = .ok (.aload_n 0, 1) := by decide +kernel
theorem dX5_find_131 : decode cX5_find 131 = .ok (.iconst 1, 1) := by decide +kernel
theorem dX5_find_132 : decode cX5_find 132 = .ok (.putfield 128, 3) := by decide +kernel
theorem dX5_find_135 : decode cX5_find 135 = .ok (.aload_n 0, 1) := by decide +kernel
theorem dX5_find_136 : decode cX5_find 136 = .ok (.iload_n 1, 1) := by decide +kernel
theorem dX5_find_137 : decode cX5_find 137 = .ok (.putfield 132, 3) := by decide +kernel
theorem dX5_find_140 : decode cX5_find 140 = .ok (.iconst 0, 1) := by decide +kernel
theorem dX5_find_141 : decode cX5_find 141 = .ok (.istore 4, 2) := by decide +kernel
theorem dX5_find_143 : decode cX5_find 143 = .ok (.iload 4, 2) := by decide +kernel
theorem dX5_find_145 : decode cX5_find 145 = .ok (.bipush 8, 2) := by decide +kernel
theorem dX5_find_147 : decode cX5_find 147 = .ok (.if_icmp .gt 23, 3) := by decide +kernel
theorem dX5_find_150 : decode cX5_find 150 = .ok (.aload_n 0, 1) := by decide +kernel
theorem dX5_find_151 : decode cX5_find 151 = .ok (.getfield 27, 3) := by decide +kernel
theorem dX5_find_154 : decode cX5_find 154 = .ok (.iload 4, 2) := by decide +kernel
theorem dX5_find_156 : decode cX5_find 156 = .ok (.aload_n 0, 1) := by decide +kernel
theorem dX5_find_157 : decode cX5_find 157 = .ok (.getfield 39, 3) := by decide +kernel
theorem dX5_find_160 : decode cX5_find 160 = .ok (.iload 4, 2) := by decide +kernel
theorem dX5_find_162 : decode cX5_find 162 = .ok (.laload, 1) := by decide +kernel
theorem dX5_find_163 : decode cX5_find 163 = .ok (.lastore, 1) := by decide +kernel
theorem dX5_find_164 : decode cX5_find 164 = .ok (.iinc 4 1, 3) := by decide +kernel
theorem dX5_find_167 : decode cX5_find 167 = .ok (.goto (-24), 3) := by decide +kernel
theorem dX5_find_170 : decode cX5_find 170 = .ok (.iconst 0, 1) := by decide +kernel
theorem dX5_find_171 : decode cX5_find 171 = .ok (.istore 4, 2) := by decide +kernel
theorem dX5_find_173 : decode cX5_find 173 = .ok (.iload 4, 2) := by decide +kernel
theorem dX5_find_175 : decode cX5_find 175 = .ok (.bipush 16, 2) := by decide +kernel
theorem dX5_find_177 : decode cX5_find 177 = .ok (.if_icmp .gt 17, 3) := by decide +kernel
theorem dX5_find_180 : decode cX5_find 180 = .ok (.aload_n 0, 1) := by decide +kernel
theorem dX5_find_181 : decode cX5_find 181 = .ok (.getfield 30, 3) := by decide +kernel
theorem dX5_find_184 : decode cX5_find 184 = .ok (.iload 4, 2) := by decide +kernel
theorem dX5_find_186 : decode cX5_find 186 = .ok (.iconst 0, 1) := by decide +kernel
theorem dX5_find_187 : decode cX5_find 187 = .ok (.bastore, 1) := by decide +kernel
theorem dX5_find_188 : decode cX5_find 188 = .ok (.iinc 4 1, 3) := by decide +kernel
theorem dX5_find_191 : decode cX5_find 191 = .ok (.goto (-18), 3) := by decide +kernel
theorem dX5_find_194 : decode cX5_find 194 = .ok (.iconst 0, 1) := by decide +kernel
theorem dX5_find_195 : decode cX5_find 195 = .ok (.istore 4, 2) := by decide +kernel
theorem dX5_find_197 : decode cX5_find 197 = .ok (.iconst 0, 1) := by decide +kernel
theorem dX5_find_198 : decode cX5_find 198 = .ok (.istore 5, 2) := by decide +kernel
theorem dX5_find_200 : decode cX5_find 200 = .ok (.iload 5, 2) := by decide +kernel
theorem dX5_find_202 : decode cX5_find 202 = .ok (.aload_n 0, 1) := by decide +kernel
theorem dX5_find_203 : decode cX5_find 203 = .ok (.getfield 110, 3) := by decide +kernel
theorem dX5_find_206 : decode cX5_find 206 = .ok (.if_icmp .ge 89, 3) := by decide +kernel
theorem dX5_find_209 : decode cX5_find 209 = .ok (.aload_n 0, 1) := by decide +kernel
theorem dX5_find_210 : decode cX5_find 210 = .ok (.getfield 30, 3) := by decide +kernel
theorem dX5_find_213 : decode cX5_find 213 = .ok (.aload_n 0, 1) := by decide +kernel
theorem dX5_find_214 : decode cX5_find 214 = .ok (.getfield 33, 3) := by decide +kernel
theorem dX5_find_217 : decode cX5_find 217 = .ok (.iload 5, 2) := by decide +kernel
theorem dX5_find_219 : decode cX5_find 219 = .ok (.iaload, 1) := by decide +kernel
theorem dX5_find_220 : decode cX5_find 220 = .ok (.aload_n 0, 1) := by decide +kernel
theorem dX5_find_221 : decode cX5_find 221 = .ok (.aload_n 0, 1) := by decide +kernel
theorem dX5_find_222 : decode cX5_find 222 = .ok (.getfield 27, 3) := by decide +kernel
theorem dX5_find_225 : decode cX5_find 225 = .ok (.bipush 8, 2) := by decide +kernel
theorem dX5_find_227 : decode cX5_find 227 = .ok (.aload_n 0, 1) := by decide +kernel
theorem dX5_find_228 : decode cX5_find 228 = .ok (.getfield 33, 3) := by decide +kernel
theorem dX5_find_231 : decode cX5_find 231 = .ok (.iload 5, 2) := by decide +kernel
theorem dX5_find_233 : decode cX5_find 233 = .ok (.iaload, 1) := by decide +kernel
theorem dX5_find_234 : decode cX5_find 234 = .ok (.i2l, 1) := by decide +kernel
theorem dX5_find_235 : decode cX5_find 235 = .ok (.invokevirtual 95, 3) := by decide +kernel
theorem dX5_find_238 : decode cX5_find 238 = .ok (.aload_n 0, 1) := by decide +kernel
theorem dX5_find_239 : decode cX5_find 239 = .ok (.getfield 16, 3) := by decide +kernel
theorem dX5_find_242 : decode cX5_find 242 = .ok (.iload_n 1, 1) := by decide +kernel
theorem dX5_find_243 : decode cX5_find 243 = .ok (.aload_n 0, 1) := by decide +kernel
theorem dX5_find_244 : decode cX5_find 244 = .ok (.getfield 33, 3) := by decide +kernel
theorem dX5_find_247 : decode cX5_find 247 = .ok (.iload 5, 2) := by decide +kernel
theorem dX5_find_249 : decode cX5_find 249 = .ok (.iaload, 1) := by decide +kernel
theorem dX5_find_250 : decode cX5_find 250 = .ok (.invokestatic 91, 3) := by decide +kernel
theorem dX5_find_253 : decode cX5_find 253 = .ok (.laload, 1) := by decide +kernel
theorem dX5_find_254 : decode cX5_find 254 = .ok (.lcmp, 1) := by decide +kernel
theorem dX5_find_255 : decode cX5_find 255 = .ok (.ifCond .eq 7, 3) := by decide +kernel
theorem dX5_find_258 : decode cX5_find 258 = .ok (.iconst 1, 1) := by decide +kernel
theorem dX5_find_259 : decode cX5_find 259 = .ok (.goto 4, 3) := by decide +kernel
theorem dX5_find_262 : decode cX5_find 262 = .ok (.iconst 0, 1) := by decide +kernel
theorem dX5_find_263 : decode cX5_find 263 = .ok (.bastore, 1) := by decide +kernel
theorem dX5_find_264 : decode cX5_find 264 = .ok (.iload 4, 2) := by decide +kernel
theorem dX5_find_266 : decode cX5_find 266 = .ok (.aload_n 0, 1) := by decide +kernel
theorem dX5_find_267 : decode cX5_find 267 = .ok (.getfield 30, 3) := by decide +kernel
theorem dX5_find_270 : decode cX5_find 270 = .ok (.aload_n 0, 1) := by decide +kernel
theorem dX5_find_271 : decode cX5_find 271 = .ok (.getfield 33, 3) := by decide +kernel
theorem dX5_find_274 : decode cX5_find 274 = .ok (.iload 5, 2) := by decide +kernel
theorem dX5_find_276 : decode cX5_find 276 = .ok (.iaload, 1) := by decide +kernel
theorem dX5_find_277 : decode cX5_find 277 = .ok (.baload, 1) := by decide +kernel
theorem dX5_find_278 : decode cX5_find 278 = .ok (.ifCond .eq 7, 3) := by decide +kernel
theorem dX5_find_281 : decode cX5_find 281 = .ok (.iconst 1, 1) := by decide +kernel
theorem dX5_find_282 : decode cX5_find 282 = .ok (.goto 4, 3) := by decide +kernel
theorem dX5_find_285 : decode cX5_find 285 = .ok (.iconst 0, 1) := by decide +kernel
theorem dX5_find_286 : decode cX5_find 286 = .ok (.iadd, 1) := by decide +kernel
theorem dX5_find_287 : decode cX5_find 287 = .ok (.istore 4, 2) := by decide +kernel
theorem dX5_find_289 : decode cX5_find 289 = .ok (.iinc 5 1, 3) := by decide +kernel
theorem dX5_find_292 : decode cX5_find 292 = .ok (.goto (-92), 3) := by decide +kernel
theorem dX5_find_295 : decode cX5_find 295 = .ok (.iload 4, 2) := by decide +kernel
theorem dX5_find_297 : decode cX5_find 297 = .ok (.ireturn, 1) := by decide +kernel
theorem dX5_at_0 : decode cX5_at 0 = .ok (.aload_n 0, 1) := by decide +kernel
theorem dX5_at_1 : decode cX5_at 1 = .ok (.aload_n 0, 1) := by decide +kernel
theorem dX5_at_2 : decode cX5_at 2 = .ok (.getfield 128, 3) := by decide +kernel
theorem dX5_at_5 : decode cX5_at 5 = .ok (.ifCond .eq 7, 3) := by decide +kernel
theorem dX5_at_8 : decode cX5_at 8 = .ok (.iconst 0, 1) := by decide +kernel
theorem dX5_at_9 : decode cX5_at 9 = .ok (.goto 4, 3) := by decide +kernel
theorem dX5_at_12 : decode cX5_at 12 = .ok (.iconst 1, 1) := by decide +kernel
theorem dX5_at_13 : decode cX5_at 13 = .ok (.putfield 51, 3) := by decide +kernel
theorem dX5_at_16 : decode cX5_at 16 = .ok (.aload_n 0, 1) := by decide +kernel
theorem dX5_at_17 : decode cX5_at 17 = .ok (.getfield 128, 3) := by decide +kernel
theorem dX5_at_20 : decode cX5_at 20 = .ok (.ifCond .eq 20, 3) := by decide +kernel
theorem dX5_at_23 : decode cX5_at 23 = .ok (.aload_n 0, 1) := by decide +kernel
theorem dX5_at_24 : decode cX5_at 24 = .ok (.aload_n 0, 1) := by decide +kernel
theorem dX5_at_25 : decode cX5_at 25 = .ok (.getfield 27, 3) := by decide +kernel
theorem dX5_at_28 : decode cX5_at 28 = .ok (.bipush 8, 2) := by decide +kernel
theorem dX5_at_30 : decode cX5_at 30 = .ok (.lload_n 1, 1) := by decide +kernel
theorem dX5_at_31 : decode cX5_at 31 = .ok (.invokestatic 84, 3) := by decide +kernel
theorem dX5_at_34 : decode cX5_at 34 = .ok (.invokevirtual 95, 3) := by decide +kernel
theorem dX5_at_37 : decode cX5_at 37 = .ok (.goto 4, 3) := by decide +kernel
theorem dX5_at_40 : decode cX5_at 40 = .ok (.lconst 0, 1) := by decide +kernel
theorem dX5_at_41 : decode cX5_at 41 = .ok (.lreturn, 1) := by decide +kernel
theorem dX5_part_0 : decode cX5_part 0 = .ok (.aload_n 0, 1) := by decide +kernel
theorem dX5_part_1 : decode cX5_part 1 = .ok (.aload_n 0, 1) := by decide +kernel
theorem dX5_part_2 : decode cX5_part 2 = .ok (.getfield 128, 3) := by decide +kernel
theorem dX5_part_5 : decode cX5_part 5 = .ok (.ifCond .eq 17, 3) := by decide +kernel
theorem dX5_part_8 : decode cX5_part 8 = .ok (.iload_n 1, 1) := by decide +kernel
theorem dX5_part_9 : decode cX5_part 9 = .ok (.ifCond .lt 13, 3) := by decide +kernel
theorem dX5_part_12 : decode cX5_part 12 = .ok (.iload_n 1, 1) := by decide +kernel
theorem dX5_part_13 : decode cX5_part 13 = .ok (.bipush 8, 2) := by decide +kernel
theorem dX5_part_15 : decode cX5_part 15 = .ok (.if_icmp .gt 7, 3) := by decide +kernel
theorem dX5_part_18 : decode cX5_part 18 = .ok (.iconst 0, 1) := by decide +kernel
theorem dX5_part_19 : decode cX5_part 19 = .ok (.goto 4, 3) := by decide +kernel
theorem dX5_part_22 : decode cX5_part 22 = .ok (.iconst 1, 1) := by decide +kernel
theorem dX5_part_23 : decode cX5_part 23 = .ok (.putfield 51, 3) := by decide +kernel
theorem dX5_part_26 : decode cX5_part 26 = .ok (.aload_n 0, 1) := by decide +kernel
theorem dX5_part_27 : decode cX5_part 27 = .ok (.getfield 51, 3) := by decide +kernel
theorem dX5_part_30 : decode cX5_part 30 = .ok (.ifCond .ne 12, 3) := by decide +kernel
theorem dX5_part_33 : decode cX5_part 33 = .ok (.aload_n 0, 1) := by decide +kernel
theorem dX5_part_34 : decode cX5_part 34 = .ok (.getfield 27, 3) := by decide +kernel
theorem dX5_part_37 : decode cX5_part 37 = .ok (.iload_n 1, 1) := by decide +kernel
theorem dX5_part_38 : decode cX5_part 38 = .ok (.laload, 1) := by decide +kernel
theorem dX5_part_39 : decode cX5_part 39 = .ok (.goto 4, 3) := by decide +kernel
theorem dX5_part_42 : decode cX5_part 42 = .ok (.lconst 0, 1) := by decide +kernel
theorem dX5_part_43 : decode cX5_part 43 = .ok (.lreturn, 1) := by decide +kernel
theorem dX5_wrong_0 : decode cX5_wrong 0 = .ok (.aload_n 0, 1) := by decide +kernel
theorem dX5_wrong_1 : decode cX5_wrong 1 = .ok (.iconst 0, 1) := by decide +kernel
theorem dX5_wrong_2 : decode cX5_wrong 2 = .ok (.putfield 51, 3) := by decide +kernel
theorem dX5_wrong_5 : decode cX5_wrong 5 = .ok (.aload_n 0, 1) := by decide +kernel
theorem dX5_wrong_6 : decode cX5_wrong 6 = .ok (.getfield 128, 3) := by decide +kernel
theorem dX5_wrong_9 : decode cX5_wrong 9 = .ok (.ifCond .eq 27, 3) := by decide +kernel
theorem dX5_wrong_12 : decode cX5_wrong 12 = .ok (.iload_n 1, 1) := by decide +kernel
theorem dX5_wrong_13 : decode cX5_wrong 13 = .ok (.iconst 1, 1) := by decide +kernel
theorem dX5_wrong_14 : decode cX5_wrong 14 = .ok (.if_icmp .lt 22, 3) := by decide +kernel
theorem dX5_wrong_17 : decode cX5_wrong 17 = .ok (.iload_n 1, 1) := by decide +kernel
theorem dX5_wrong_18 : decode cX5_wrong 18 = .ok (.bipush 16, 2) := by decide +kernel
theorem dX5_wrong_20 : decode cX5_wrong 20 = .ok (.if_icmp .gt 16, 3) := by decide +kernel
theorem dX5_wrong_23 : decode cX5_wrong 23 = .ok (.aload_n 0, 1) := by decide +kernel
theorem dX5_wrong_24 : decode cX5_wrong 24 = .ok (.getfield 30, 3) := by decide +kernel
theorem dX5_wrong_27 : decode cX5_wrong 27 = .ok (.iload_n 1, 1) := by decide +kernel
theorem dX5_wrong_28 : decode cX5_wrong 28 = .ok (.baload, 1) := by decide +kernel
theorem dX5_wrong_29 : decode cX5_wrong 29 = .ok (.ifCond .eq 7, 3) := by decide +kernel
theorem dX5_wrong_32 : decode cX5_wrong 32 = .ok (.iconst 1, 1) := by decide +kernel
theorem dX5_wrong_33 : decode cX5_wrong 33 = .ok (.goto 4, 3) := by decide +kernel
theorem dX5_wrong_36 : decode cX5_wrong 36 = .ok (.iconst 0, 1) := by decide +kernel
theorem dX5_wrong_37 : decode cX5_wrong 37 = .ok (.ireturn, 1) := by decide +kernel
theorem dX5_mend_0 : decode cX5_mend 0 = .ok (.aload_n 0, 1) := by decide +kernel
theorem dX5_mend_1 : decode cX5_mend 1 = .ok (.iconst 0, 1) := by decide +kernel
theorem dX5_mend_2 : decode cX5_mend 2 = .ok (.putfield 51, 3) := by decide +kernel
theorem dX5_mend_5 : decode cX5_mend 5 = .ok (.aload_n 0, 1) := by decide +kernel
theorem dX5_mend_6 : decode cX5_mend 6 = .ok (.getfield 128, 3) := by decide +kernel
theorem dX5_mend_9 : decode cX5_mend 9 = .ok (.ifCond .ne 5, 3) := by decide +kernel
theorem dX5_mend_12 : decode cX5_mend 12 = .ok (.iconst 0, 1) := by decide +kernel
theorem dX5_mend_13 : decode cX5_mend 13 = .ok (.ireturn, 1) := by decide +kernel
theorem dX5_mend_14 : decode cX5_mend 14 = .ok (.iconst 1, 1) := by decide +kernel
theorem dX5_mend_15 : decode cX5_mend 15 = .ok (.istore_n 1, 1) := by decide +kernel
theorem dX5_mend_16 : decode cX5_mend 16 = .ok (.iload_n 1, 1) := by decide +kernel
theorem dX5_mend_17 : decode cX5_mend 17 = .ok (.aload_n 0, 1) := by decide +kernel
theorem dX5_mend_18 : decode cX5_mend 18 = .ok (.getfield 13, 3) := by decide +kernel
theorem dX5_mend_21 : decode cX5_mend 21 = .ok (.aload_n 0, 1) := by decide +kernel
theorem dX5_mend_22 : decode cX5_mend 22 = .ok (.getfield 132, 3) := by decide +kernel
theorem dX5_mend_25 : decode cX5_mend 25 = .ok (.iaload, 1) := by decide +kernel
theorem dX5_mend_26 : decode cX5_mend 26 = .ok (.if_icmp .gt 48, 3) := by decide +kernel
theorem dX5_mend_29 : decode cX5_mend 29 = .ok (.aload_n 0, 1) := by decide +kernel
theorem dX5_mend_30 : decode cX5_mend 30 = .ok (.getfield 16, 3) := by decide +kernel
theorem dX5_mend_33 : decode cX5_mend 33 = .ok (.aload_n 0, 1) := by decide +kernel
theorem dX5_mend_34 : decode cX5_mend 34 = .ok (.getfield 132, 3) := by decide +kernel
theorem dX5_mend_37 : decode cX5_mend 37 = .ok (.iload_n 1, 1) := by decide +kernel
theorem dX5_mend_38 : decode cX5_mend 38 = .ok (.invokestatic 91, 3) := by decide +kernel
theorem dX5_mend_41 : decode cX5_mend 41 = .ok (.aload_n 0, 1) := by decide +kernel
theorem dX5_mend_42 : decode cX5_mend 42 = .ok (.aload_n 0, 1) := by decide +kernel
theorem dX5_mend_43 : decode cX5_mend 43 = .ok (.getfield 27, 3) := by decide +kernel
theorem dX5_mend_46 : decode cX5_mend 46 = .ok (.bipush 8, 2) := by decide +kernel
theorem dX5_mend_48 : decode cX5_mend 48 = .ok (.iload_n 1, 1) := by decide +kernel
theorem dX5_mend_49 : decode cX5_mend 49 = .ok (.i2l, 1) := by decide +kernel
theorem dX5_mend_50 : decode cX5_mend 50 = .ok (.invokevirtual 95, 3) := by decide +kernel
theorem dX5_mend_53 : decode cX5_mend 53 = .ok (.lastore, 1) := by decide +kernel
theorem dX5_mend_54 : decode cX5_mend 54 = .ok (.aload_n 0, 1) := by decide +kernel
theorem dX5_mend_55 : decode cX5_mend 55 = .ok (.getfield 20, 3) := by decide +kernel
theorem dX5_mend_58 : decode cX5_mend 58 = .ok (.aload_n 0, 1) := by decide +kernel
theorem dX5_mend_59 : decode cX5_mend 59 = .ok (.getfield 132, 3) := by decide +kernel
theorem dX5_mend_62 : decode cX5_mend 62 = .ok (.iload_n 1, 1) := by decide +kernel
theorem dX5_mend_63 : decode cX5_mend 63 = .ok (.invokestatic 91, 3) := by decide +kernel
theorem dX5_mend_66 : decode cX5_mend 66 = .ok (.iconst 1, 1) := by decide +kernel
theorem dX5_mend_67 : decode cX5_mend 67 = .ok (.bastore, 1) := by decide +kernel
theorem dX5_mend_68 : decode cX5_mend 68 = .ok (.iinc 1 1, 3) := by decide +kernel
theorem dX5_mend_71 : decode cX5_mend 71 = .ok (.goto (-55), 3) := by decide +kernel
theorem dX5_mend_74 : decode cX5_mend 74 = .ok (.iconst 1, 1) := by decide +kernel
theorem dX5_mend_75 : decode cX5_mend 75 = .ok (.ireturn, 1) := by decide +kernel
theorem dX5_share_0 : decode cX5_share 0 = .ok (.aload_n 0, 1) := by decide +kernel
theorem dX5_share_1 : decode cX5_share 1 = .ok (.aload_n 0, 1) := by decide +kernel
theorem dX5_share_2 : decode cX5_share 2 = .ok (.iload_n 1, 1) := by decide +kernel
theorem dX5_share_3 : decode cX5_share 3 = .ok (.iload_n 2, 1) := by decide +kernel
theorem dX5_share_4 : decode cX5_share 4 = .ok (.invokevirtual 99, 3) := by decide +kernel
theorem dX5_share_7 : decode cX5_share 7 = .ok (.ifCond .eq 20, 3) := by decide +kernel
theorem dX5_share_10 : decode cX5_share 10 = .ok (.aload_n 0, 1) := by decide +kernel
theorem dX5_share_11 : decode cX5_share 11 = .ok (.getfield 20, 3) := by decide +kernel
theorem dX5_share_14 : decode cX5_share 14 = .ok (.iload_n 1, 1) := by decide +kernel
theorem dX5_share_15 : decode cX5_share 15 = .ok (.iload_n 2, 1) := by decide +kernel
theorem dX5_share_16 : decode cX5_share 16 = .ok (.invokestatic 91, 3) := by decide +kernel
theorem dX5_share_19 : decode cX5_share 19 = .ok (.baload, 1) := by decide +kernel
theorem dX5_share_20 : decode cX5_share 20 = .ok (.ifCond .eq 7, 3) := by decide +kernel
theorem dX5_share_23 : decode cX5_share 23 = .ok (.iconst 0, 1) := by decide +kernel
theorem dX5_share_24 : decode cX5_share 24 = .ok (.goto 4, 3) := by decide +kernel
theorem dX5_share_27 : decode cX5_share 27 = .ok (.iconst 1, 1) := by decide +kernel
theorem dX5_share_28 : decode cX5_share 28 = .ok (.putfield 51, 3) := by decide +kernel
theorem dX5_share_31 : decode cX5_share 31 = .ok (.aload_n 0, 1) := by decide +kernel
theorem dX5_share_32 : decode cX5_share 32 = .ok (.getfield 51, 3) := by decide +kernel
theorem dX5_share_35 : decode cX5_share 35 = .ok (.ifCond .ne 16, 3) := by decide +kernel
theorem dX5_share_38 : decode cX5_share 38 = .ok (.aload_n 0, 1) := by decide +kernel
theorem dX5_share_39 : decode cX5_share 39 = .ok (.getfield 16, 3) := by decide +kernel
theorem dX5_share_42 : decode cX5_share 42 = .ok (.iload_n 1, 1) := by decide +kernel
theorem dX5_share_43 : decode cX5_share 43 = .ok (.iload_n 2, 1) := by decide +kernel
theorem dX5_share_44 : decode cX5_share 44 = .ok (.invokestatic 91, 3) := by decide +kernel
theorem dX5_share_47 : decode cX5_share 47 = .ok (.laload, 1) := by decide +kernel
theorem dX5_share_48 : decode cX5_share 48 = .ok (.goto 4, 3) := by decide +kernel
theorem dX5_share_51 : decode cX5_share 51 = .ok (.lconst 0, 1) := by decide +kernel
theorem dX5_share_52 : decode cX5_share 52 = .ok (.lreturn, 1) := by decide +kernel
theorem dX5_split_0 : decode cX5_split 0 = .ok (.aload_n 0, 1) := by decide +kernel
theorem dX5_split_1 : decode cX5_split 1 = .ok (.iconst 0, 1) := by decide +kernel
theorem dX5_split_2 : decode cX5_split 2 = .ok (.putfield 51, 3) := by decide +kernel
theorem dX5_split_5 : decode cX5_split 5 = .ok (.iload_n 1, 1) := by decide +kernel
theorem dX5_split_6 : decode cX5_split 6 = .ok (.invokestatic 77, 3) := by decide +kernel
theorem dX5_split_9 : decode cX5_split 9 = .ok (.ifCond .ne 5, 3) := by decide +kernel
theorem dX5_split_12 : decode cX5_split 12 = .ok (.iconst (-1), 1) := by decide +kernel
theorem dX5_split_13 : decode cX5_split 13 = .ok (.ireturn, 1) := by decide +kernel
theorem dX5_split_14 : decode cX5_split 14 = .ok (.iconst 0, 1) := by decide +kernel
theorem dX5_split_15 : decode cX5_split 15 = .ok (.istore_n 3, 1) := by decide +kernel
theorem dX5_split_16 : decode cX5_split 16 = .ok (.iconst 1, 1) := by decide +kernel
theorem dX5_split_17 : decode cX5_split 17 = .ok (.istore 4, 2) := by decide +kernel
theorem dX5_split_19 : decode cX5_split 19 = .ok (.iload 4, 2) := by decide +kernel
theorem dX5_split_21 : decode cX5_split 21 = .ok (.aload_n 0, 1) := by decide +kernel
theorem dX5_split_22 : decode cX5_split 22 = .ok (.getfield 13, 3) := by decide +kernel
theorem dX5_split_25 : decode cX5_split 25 = .ok (.iload_n 1, 1) := by decide +kernel
theorem dX5_split_26 : decode cX5_split 26 = .ok (.iaload, 1) := by decide +kernel
theorem dX5_split_27 : decode cX5_split 27 = .ok (.if_icmp .gt 31, 3) := by decide +kernel
theorem dX5_split_30 : decode cX5_split 30 = .ok (.iload_n 3, 1) := by decide +kernel
theorem dX5_split_31 : decode cX5_split 31 = .ok (.aload_n 0, 1) := by decide +kernel
theorem dX5_split_32 : decode cX5_split 32 = .ok (.getfield 20, 3) := by decide +kernel
theorem dX5_split_35 : decode cX5_split 35 = .ok (.iload_n 1, 1) := by decide +kernel
theorem dX5_split_36 : decode cX5_split 36 = .ok (.iload 4, 2) := by decide +kernel
theorem dX5_split_38 : decode cX5_split 38 = .ok (.invokestatic 91, 3) := by decide +kernel
theorem dX5_split_41 : decode cX5_split 41 = .ok (.baload, 1) := by decide +kernel
theorem dX5_split_42 : decode cX5_split 42 = .ok (.ifCond .eq 7, 3) := by decide +kernel
theorem dX5_split_45 : decode cX5_split 45 = .ok (.iconst 1, 1) := by decide +kernel
theorem dX5_split_46 : decode cX5_split 46 = .ok (.goto 4, 3) := by decide +kernel
theorem dX5_split_49 : decode cX5_split 49 = .ok (.iconst 0, 1) := by decide +kernel
theorem dX5_split_50 : decode cX5_split 50 = .ok (.iadd, 1) := by decide +kernel
theorem dX5_split_51 : decode cX5_split 51 = .ok (.istore_n 3, 1) := by decide +kernel
theorem dX5_split_52 : decode cX5_split 52 = .ok (.iinc 4 1, 3) := by decide +kernel
theorem dX5_split_55 : decode cX5_split 55 = .ok (.goto (-36), 3) := by decide +kernel
theorem dX5_split_58 : decode cX5_split 58 = .ok (.iload_n 2, 1) := by decide +kernel
theorem dX5_split_59 : decode cX5_split 59 = .ok (.ifCond .ne 12, 3) := by decide +kernel
theorem dX5_split_62 : decode cX5_split 62 = .ok (.aload_n 0, 1) := by decide +kernel
theorem dX5_split_63 : decode cX5_split 63 = .ok (.getfield 7, 3) := by decide +kernel
theorem dX5_split_66 : decode cX5_split 66 = .ok (.iload_n 1, 1) := by decide +kernel
theorem dX5_split_67 : decode cX5_split 67 = .ok (.iaload, 1) := by decide +kernel
theorem dX5_split_68 : decode cX5_split 68 = .ok (.goto 27, 3) := by decide +kernel
theorem dX5_split_71 : decode cX5_split 71 = .ok (.iload_n 2, 1) := by decide +kernel
theorem dX5_split_72 : decode cX5_split 72 = .ok (.iconst 1, 1) := by decide +kernel
theorem dX5_split_73 : decode cX5_split 73 = .ok (.if_icmp .ne 12, 3) := by decide +kernel
theorem dX5_split_76 : decode cX5_split 76 = .ok (.aload_n 0, 1) := by decide +kernel
theorem dX5_split_77 : decode cX5_split 77 = .ok (.getfield 13, 3) := by decide +kernel
theorem dX5_split_80 : decode cX5_split 80 = .ok (.iload_n 1, 1) := by decide +kernel
theorem dX5_split_81 : decode cX5_split 81 = .ok (.iaload, 1) := by decide +kernel
theorem dX5_split_82 : decode cX5_split 82 = .ok (.goto 13, 3) := by decide +kernel
theorem dX5_split_85 : decode cX5_split 85 = .ok (.iload_n 2, 1) := by decide +kernel
theorem dX5_split_86 : decode cX5_split 86 = .ok (.iconst 2, 1) := by decide +kernel
theorem dX5_split_87 : decode cX5_split 87 = .ok (.if_icmp .ne 7, 3) := by decide +kernel
theorem dX5_split_90 : decode cX5_split 90 = .ok (.iload_n 3, 1) := by decide +kernel
theorem dX5_split_91 : decode cX5_split 91 = .ok (.goto 4, 3) := by decide +kernel
theorem dX5_split_94 : decode cX5_split 94 = .ok (.iconst (-1), 1) := by decide +kernel
theorem dX5_split_95 : decode cX5_split 95 = .ok (.ireturn, 1) := by decide +kernel
