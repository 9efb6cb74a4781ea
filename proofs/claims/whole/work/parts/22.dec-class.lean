theorem dX0_init_0 : decode cX0_init 0 = .ok (.aload_n 0, 1) := by decide +kernel
theorem dX0_init_1 : decode cX0_init 1 = .ok (.invokespecial 3, 3) := by decide +kernel
theorem dX0_init_4 : decode cX0_init 4 = .ok (.aload_n 0, 1) := by decide +kernel
theorem dX0_init_5 : decode cX0_init 5 = .ok (.bipush 9, 2) := by decide +kernel
theorem dX0_init_7 : decode cX0_init 7 = .ok (.newarray .long, 2) := by decide +kernel
theorem dX0_init_9 : decode cX0_init 9 = .ok (.putfield 9, 3) := by decide +kernel
theorem dX0_init_12 : decode cX0_init 12 = .ok (.return_, 1) := by decide +kernel
theorem dX0_draw_0 : decode cX0_draw 0 = .ok (.lload 4, 2) := by decide +kernel
theorem dX0_draw_2 : decode cX0_draw 2 = .ok (.lstore 6, 2) := by decide +kernel
theorem dX0_draw_4 : decode cX0_draw 4 = .ok (.aload_n 0, 1) := by decide +kernel
theorem dX0_draw_5 : decode cX0_draw 5 = .ok (.getfield 9, 3) := by decide +kernel
theorem dX0_draw_8 : decode cX0_draw 8 = .ok (.iconst 0, 1) := by decide +kernel
theorem dX0_draw_9 : decode cX0_draw 9 = .ok (.lload_n 1, 1) := by decide +kernel
theorem dX0_draw_10 : decode cX0_draw 10 = .ok (.lastore, 1) := by decide +kernel
theorem dX0_draw_11 : decode cX0_draw 11 = .ok (.iconst 1, 1) := by decide +kernel
theorem dX0_draw_12 : decode cX0_draw 12 = .ok (.istore 8, 2) := by decide +kernel
theorem dX0_draw_14 : decode cX0_draw 14 = .ok (.iload 8, 2) := by decide +kernel
theorem dX0_draw_16 : decode cX0_draw 16 = .ok (.bipush 8, 2) := by decide +kernel
theorem dX0_draw_18 : decode cX0_draw 18 = .ok (.if_icmp .gt 46, 3) := by decide +kernel
theorem dX0_draw_21 : decode cX0_draw 21 = .ok (.lload 6, 2) := by decide +kernel
theorem dX0_draw_23 : decode cX0_draw 23 = .ok (.ldc2_w 15, 3) := by decide +kernel
theorem dX0_draw_26 : decode cX0_draw 26 = .ok (.lmul, 1) := by decide +kernel
theorem dX0_draw_27 : decode cX0_draw 27 = .ok (.ldc2_w 17, 3) := by decide +kernel
theorem dX0_draw_30 : decode cX0_draw 30 = .ok (.ladd, 1) := by decide +kernel
theorem dX0_draw_31 : decode cX0_draw 31 = .ok (.lstore 6, 2) := by decide +kernel
theorem dX0_draw_33 : decode cX0_draw 33 = .ok (.aload_n 0, 1) := by decide +kernel
theorem dX0_draw_34 : decode cX0_draw 34 = .ok (.getfield 9, 3) := by decide +kernel
theorem dX0_draw_37 : decode cX0_draw 37 = .ok (.iload 8, 2) := by decide +kernel
theorem dX0_draw_39 : decode cX0_draw 39 = .ok (.iload 8, 2) := by decide +kernel
theorem dX0_draw_41 : decode cX0_draw 41 = .ok (.iload_n 3, 1) := by decide +kernel
theorem dX0_draw_42 : decode cX0_draw 42 = .ok (.if_icmp .gt 14, 3) := by decide +kernel
theorem dX0_draw_45 : decode cX0_draw 45 = .ok (.lload 6, 2) := by decide +kernel
theorem dX0_draw_47 : decode cX0_draw 47 = .ok (.iconst 3, 1) := by decide +kernel
theorem dX0_draw_48 : decode cX0_draw 48 = .ok (.lushr, 1) := by decide +kernel
theorem dX0_draw_49 : decode cX0_draw 49 = .ok (.ldc2_w 19, 3) := by decide +kernel
theorem dX0_draw_52 : decode cX0_draw 52 = .ok (.lrem, 1) := by decide +kernel
theorem dX0_draw_53 : decode cX0_draw 53 = .ok (.goto 4, 3) := by decide +kernel
theorem dX0_draw_56 : decode cX0_draw 56 = .ok (.lconst 0, 1) := by decide +kernel
theorem dX0_draw_57 : decode cX0_draw 57 = .ok (.lastore, 1) := by decide +kernel
theorem dX0_draw_58 : decode cX0_draw 58 = .ok (.iinc 8 1, 3) := by decide +kernel
theorem dX0_draw_61 : decode cX0_draw 61 = .ok (.goto (-47), 3) := by decide +kernel
theorem dX0_draw_64 : decode cX0_draw 64 = .ok (.return_, 1) := by decide +kernel
theorem dX0_valueAt_0 : decode cX0_valueAt 0 = .ok (.lconst 0, 1) := by decide +kernel
theorem dX0_valueAt_1 : decode cX0_valueAt 1 = .ok (.lstore_n 3, 1) := by decide +kernel
theorem dX0_valueAt_2 : decode cX0_valueAt 2 = .ok (.bipush 8, 2) := by decide +kernel
theorem dX0_valueAt_4 : decode cX0_valueAt 4 = .ok (.istore 5, 2) := by decide +kernel
theorem dX0_valueAt_6 : decode cX0_valueAt 6 = .ok (.iload 5, 2) := by decide +kernel
theorem dX0_valueAt_8 : decode cX0_valueAt 8 = .ok (.ifCond .lt 25, 3) := by decide +kernel
theorem dX0_valueAt_11 : decode cX0_valueAt 11 = .ok (.lload_n 3, 1) := by decide +kernel
theorem dX0_valueAt_12 : decode cX0_valueAt 12 = .ok (.lload_n 1, 1) := by decide +kernel
theorem dX0_valueAt_13 : decode cX0_valueAt 13 = .ok (.invokestatic 21, 3) := by decide +kernel
theorem dX0_valueAt_16 : decode cX0_valueAt 16 = .ok (.aload_n 0, 1) := by decide +kernel
theorem dX0_valueAt_17 : decode cX0_valueAt 17 = .ok (.getfield 9, 3) := by decide +kernel
theorem dX0_valueAt_20 : decode cX0_valueAt 20 = .ok (.iload 5, 2) := by decide +kernel
theorem dX0_valueAt_22 : decode cX0_valueAt 22 = .ok (.laload, 1) := by decide +kernel
theorem dX0_valueAt_23 : decode cX0_valueAt 23 = .ok (.invokestatic 27, 3) := by decide +kernel
theorem dX0_valueAt_26 : decode cX0_valueAt 26 = .ok (.lstore_n 3, 1) := by decide +kernel
theorem dX0_valueAt_27 : decode cX0_valueAt 27 = .ok (.iinc 5 (-1), 3) := by decide +kernel
theorem dX0_valueAt_30 : decode cX0_valueAt 30 = .ok (.goto (-24), 3) := by decide +kernel
theorem dX0_valueAt_33 : decode cX0_valueAt 33 = .ok (.lload_n 3, 1) := by decide +kernel
theorem dX0_valueAt_34 : decode cX0_valueAt 34 = .ok (.lreturn, 1) := by decide +kernel
theorem dX0_copyFrom_0 : decode cX0_copyFrom 0 = .ok (.aload_n 1, 1) := by decide +kernel
theorem dX0_copyFrom_1 : decode cX0_copyFrom 1 = .ok (.getfield 9, 3) := by decide +kernel
theorem dX0_copyFrom_4 : decode cX0_copyFrom 4 = .ok (.iconst 0, 1) := by decide +kernel
theorem dX0_copyFrom_5 : decode cX0_copyFrom 5 = .ok (.aload_n 0, 1) := by decide +kernel
theorem dX0_copyFrom_6 : decode cX0_copyFrom 6 = .ok (.getfield 9, 3) := by decide +kernel
theorem dX0_copyFrom_9 : decode cX0_copyFrom 9 = .ok (.iconst 0, 1) := by decide +kernel
theorem dX0_copyFrom_10 : decode cX0_copyFrom 10 = .ok (.aload_n 0, 1) := by decide +kernel
theorem dX0_copyFrom_11 : decode cX0_copyFrom 11 = .ok (.getfield 9, 3) := by decide +kernel
theorem dX0_copyFrom_14 : decode cX0_copyFrom 14 = .ok (.arraylength, 1) := by decide +kernel
theorem dX0_copyFrom_15 : decode cX0_copyFrom 15 = .ok (.invokestatic 30, 3) := by decide +kernel
theorem dX0_copyFrom_18 : decode cX0_copyFrom 18 = .ok (.return_, 1) := by decide +kernel
theorem dX1_init_0 : decode cX1_init 0 = .ok (.aload_n 0, 1) := by decide +kernel
theorem dX1_init_1 : decode cX1_init 1 = .ok (.invokespecial 3, 3) := by decide +kernel
theorem dX1_init_4 : decode cX1_init 4 = .ok (.aload_n 0, 1) := by decide +kernel
theorem dX1_init_5 : decode cX1_init 5 = .ok (.new 9, 3) := by decide +kernel
theorem dX1_init_8 : decode cX1_init 8 = .ok (.dup, 1) := by decide +kernel
theorem dX1_init_9 : decode cX1_init 9 = .ok (.invokespecial 11, 3) := by decide +kernel
theorem dX1_init_12 : decode cX1_init 12 = .ok (.putfield 12, 3) := by decide +kernel
theorem dX1_init_15 : decode cX1_init 15 = .ok (.aload_n 0, 1) := by decide +kernel
theorem dX1_init_16 : decode cX1_init 16 = .ok (.bipush 16, 2) := by decide +kernel
theorem dX1_init_18 : decode cX1_init 18 = .ok (.bipush 17, 2) := by decide +kernel
theorem dX1_init_20 : decode cX1_init 20 = .ok (.multianewarray 18 2, 4) := by decide +kernel
theorem dX1_init_24 : decode cX1_init 24 = .ok (.putfield 20, 3) := by decide +kernel
theorem dX1_init_27 : decode cX1_init 27 = .ok (.aload_n 0, 1) := by decide +kernel
theorem dX1_init_28 : decode cX1_init 28 = .ok (.bipush 16, 2) := by decide +kernel
theorem dX1_init_30 : decode cX1_init 30 = .ok (.newarray .boolean, 2) := by decide +kernel
theorem dX1_init_32 : decode cX1_init 32 = .ok (.putfield 23, 3) := by decide +kernel
theorem dX1_init_35 : decode cX1_init 35 = .ok (.aload_n 0, 1) := by decide +kernel
theorem dX1_init_36 : decode cX1_init 36 = .ok (.bipush 16, 2) := by decide +kernel
theorem dX1_init_38 : decode cX1_init 38 = .ok (.newarray .long, 2) := by decide +kernel
theorem dX1_init_40 : decode cX1_init 40 = .ok (.putfield 27, 3) := by decide +kernel
theorem dX1_init_43 : decode cX1_init 43 = .ok (.aload_n 0, 1) := by decide +kernel
theorem dX1_init_44 : decode cX1_init 44 = .ok (.bipush 16, 2) := by decide +kernel
theorem dX1_init_46 : decode cX1_init 46 = .ok (.newarray .int, 2) := by decide +kernel
theorem dX1_init_48 : decode cX1_init 48 = .ok (.putfield 31, 3) := by decide +kernel
theorem dX1_init_51 : decode cX1_init 51 = .ok (.return_, 1) := by decide +kernel
theorem dX1_sharesNeeded_0 : decode cX1_sharesNeeded 0 = .ok (.iload_n 0, 1) := by decide +kernel
theorem dX1_sharesNeeded_1 : decode cX1_sharesNeeded 1 = .ok (.iconst 1, 1) := by decide +kernel
theorem dX1_sharesNeeded_2 : decode cX1_sharesNeeded 2 = .ok (.iadd, 1) := by decide +kernel
theorem dX1_sharesNeeded_3 : decode cX1_sharesNeeded 3 = .ok (.iconst 2, 1) := by decide +kernel
theorem dX1_sharesNeeded_4 : decode cX1_sharesNeeded 4 = .ok (.iload_n 1, 1) := by decide +kernel
theorem dX1_sharesNeeded_5 : decode cX1_sharesNeeded 5 = .ok (.imul, 1) := by decide +kernel
theorem dX1_sharesNeeded_6 : decode cX1_sharesNeeded 6 = .ok (.iadd, 1) := by decide +kernel
theorem dX1_sharesNeeded_7 : decode cX1_sharesNeeded 7 = .ok (.ireturn, 1) := by decide +kernel
theorem dX1_seek_0 : decode cX1_seek 0 = .ok (.aload_n 1, 1) := by decide +kernel
theorem dX1_seek_1 : decode cX1_seek 1 = .ok (.getfield 35, 3) := by decide +kernel
theorem dX1_seek_4 : decode cX1_seek 4 = .ok (.iload_n 2, 1) := by decide +kernel
theorem dX1_seek_5 : decode cX1_seek 5 = .ok (.invokestatic 41, 3) := by decide +kernel
theorem dX1_seek_8 : decode cX1_seek 8 = .ok (.istore_n 3, 1) := by decide +kernel
theorem dX1_seek_9 : decode cX1_seek 9 = .ok (.aload_n 0, 1) := by decide +kernel
theorem dX1_seek_10 : decode cX1_seek 10 = .ok (.aload_n 1, 1) := by decide +kernel
theorem dX1_seek_11 : decode cX1_seek 11 = .ok (.iload_n 2, 1) := by decide +kernel
theorem dX1_seek_12 : decode cX1_seek 12 = .ok (.iload_n 3, 1) := by decide +kernel
theorem dX1_seek_13 : decode cX1_seek 13 = .ok (.invokevirtual 45, 3) := by decide +kernel
theorem dX1_seek_16 : decode cX1_seek 16 = .ok (.aload_n 0, 1) := by decide +kernel
theorem dX1_seek_17 : decode cX1_seek 17 = .ok (.iload_n 3, 1) := by decide +kernel
theorem dX1_seek_18 : decode cX1_seek 18 = .ok (.invokevirtual 49, 3) := by decide +kernel
theorem dX1_seek_21 : decode cX1_seek 21 = .ok (.aload_n 0, 1) := by decide +kernel
theorem dX1_seek_22 : decode cX1_seek 22 = .ok (.aload_n 1, 1) := by decide +kernel
theorem dX1_seek_23 : decode cX1_seek 23 = .ok (.getfield 35, 3) := by decide +kernel
theorem dX1_seek_26 : decode cX1_seek 26 = .ok (.iload_n 2, 1) := by decide +kernel
theorem dX1_seek_27 : decode cX1_seek 27 = .ok (.invokevirtual 53, 3) := by decide +kernel
theorem dX1_seek_30 : decode cX1_seek 30 = .ok (.return_, 1) := by decide +kernel
theorem dX1_writeEquations_0 : decode cX1_writeEquations 0 = .ok (.iconst 0, 1) := by decide +kernel
theorem dX1_writeEquations_1 : decode cX1_writeEquations 1 = .ok (.istore 4, 2) := by decide +kernel
theorem dX1_writeEquations_3 : decode cX1_writeEquations 3 = .ok (.iconst 1, 1) := by decide +kernel
theorem dX1_writeEquations_4 : decode cX1_writeEquations 4 = .ok (.istore 5, 2) := by decide +kernel
theorem dX1_writeEquations_6 : decode cX1_writeEquations 6 = .ok (.iload 5, 2) := by decide +kernel
theorem dX1_writeEquations_8 : decode cX1_writeEquations 8 = .ok (.aload_n 1, 1) := by decide +kernel
theorem dX1_writeEquations_9 : decode cX1_writeEquations 9 = .ok (.getfield 57, 3) := by decide +kernel
theorem dX1_writeEquations_12 : decode cX1_writeEquations 12 = .ok (.if_icmp .gt 53, 3) := by decide +kernel
theorem dX1_writeEquations_15 : decode cX1_writeEquations 15 = .ok (.iload 4, 2) := by decide +kernel
theorem dX1_writeEquations_17 : decode cX1_writeEquations 17 = .ok (.iload_n 3, 1) := by decide +kernel
theorem dX1_writeEquations_18 : decode cX1_writeEquations 18 = .ok (.if_icmp .ge 47, 3) := by decide +kernel
theorem dX1_writeEquations_21 : decode cX1_writeEquations 21 = .ok (.aload_n 1, 1) := by decide +kernel
theorem dX1_writeEquations_22 : decode cX1_writeEquations 22 = .ok (.iload 5, 2) := by decide +kernel
theorem dX1_writeEquations_24 : decode cX1_writeEquations 24 = .ok (.invokevirtual 60, 3) := by decide +kernel
theorem dX1_writeEquations_27 : decode cX1_writeEquations 27 = .ok (.ifCond .eq 32, 3) := by decide +kernel
theorem dX1_writeEquations_30 : decode cX1_writeEquations 30 = .ok (.aload_n 0, 1) := by decide +kernel
theorem dX1_writeEquations_31 : decode cX1_writeEquations 31 = .ok (.getfield 20, 3) := by decide +kernel
theorem dX1_writeEquations_34 : decode cX1_writeEquations 34 = .ok (.iload 4, 2) := by decide +kernel
theorem dX1_writeEquations_36 : decode cX1_writeEquations 36 = .ok (.aaload, 1) := by decide +kernel
theorem dX1_writeEquations_37 : decode cX1_writeEquations 37 = .ok (.iload 5, 2) := by decide +kernel
theorem dX1_writeEquations_39 : decode cX1_writeEquations 39 = .ok (.aload_n 1, 1) := by decide +kernel
theorem dX1_writeEquations_40 : decode cX1_writeEquations 40 = .ok (.getfield 64, 3) := by decide +kernel
theorem dX1_writeEquations_43 : decode cX1_writeEquations 43 = .ok (.iload 5, 2) := by decide +kernel
theorem dX1_writeEquations_45 : decode cX1_writeEquations 45 = .ok (.laload, 1) := by decide +kernel
theorem dX1_writeEquations_46 : decode cX1_writeEquations 46 = .ok (.aload_n 1, 1) := by decide +kernel
theorem dX1_writeEquations_47 : decode cX1_writeEquations 47 = .ok (.getfield 35, 3) := by decide +kernel
theorem dX1_writeEquations_50 : decode cX1_writeEquations 50 = .ok (.iload_n 2, 1) := by decide +kernel
theorem dX1_writeEquations_51 : decode cX1_writeEquations 51 = .ok (.iadd, 1) := by decide +kernel
theorem dX1_writeEquations_52 : decode cX1_writeEquations 52 = .ok (.iload_n 2, 1) := by decide +kernel
theorem dX1_writeEquations_53 : decode cX1_writeEquations 53 = .ok (.invokestatic 67, 3) := by decide +kernel
theorem dX1_writeEquations_56 : decode cX1_writeEquations 56 = .ok (.iinc 4 1, 3) := by decide +kernel
theorem dX1_writeEquations_59 : decode cX1_writeEquations 59 = .ok (.iinc 5 1, 3) := by decide +kernel
theorem dX1_writeEquations_62 : decode cX1_writeEquations 62 = .ok (.goto (-56), 3) := by decide +kernel
theorem dX1_writeEquations_65 : decode cX1_writeEquations 65 = .ok (.return_, 1) := by decide +kernel
theorem dX1_writeEquation_0 : decode cX1_writeEquation 0 = .ok (.lconst 1, 1) := by decide +kernel
theorem dX1_writeEquation_1 : decode cX1_writeEquation 1 = .ok (.lstore 6, 2) := by decide +kernel
theorem dX1_writeEquation_3 : decode cX1_writeEquation 3 = .ok (.iconst 0, 1) := by decide +kernel
theorem dX1_writeEquation_4 : decode cX1_writeEquation 4 = .ok (.istore 8, 2) := by decide +kernel
theorem dX1_writeEquation_6 : decode cX1_writeEquation 6 = .ok (.iload 8, 2) := by decide +kernel
theorem dX1_writeEquation_8 : decode cX1_writeEquation 8 = .ok (.iload 4, 2) := by decide +kernel
theorem dX1_writeEquation_10 : decode cX1_writeEquation 10 = .ok (.if_icmp .gt 75, 3) := by decide +kernel
theorem dX1_writeEquation_13 : decode cX1_writeEquation 13 = .ok (.aload_n 0, 1) := by decide +kernel
theorem dX1_writeEquation_14 : decode cX1_writeEquation 14 = .ok (.iload 8, 2) := by decide +kernel
theorem dX1_writeEquation_16 : decode cX1_writeEquation 16 = .ok (.lload 6, 2) := by decide +kernel
theorem dX1_writeEquation_18 : decode cX1_writeEquation 18 = .ok (.lastore, 1) := by decide +kernel
theorem dX1_writeEquation_19 : decode cX1_writeEquation 19 = .ok (.iload 8, 2) := by decide +kernel
theorem dX1_writeEquation_21 : decode cX1_writeEquation 21 = .ok (.iload 5, 2) := by decide +kernel
theorem dX1_writeEquation_23 : decode cX1_writeEquation 23 = .ok (.if_icmp .ge 25, 3) := by decide +kernel
theorem dX1_writeEquation_26 : decode cX1_writeEquation 26 = .ok (.aload_n 0, 1) := by decide +kernel
theorem dX1_writeEquation_27 : decode cX1_writeEquation 27 = .ok (.iload 4, 2) := by decide +kernel
theorem dX1_writeEquation_29 : decode cX1_writeEquation 29 = .ok (.iconst 1, 1) := by decide +kernel
theorem dX1_writeEquation_30 : decode cX1_writeEquation 30 = .ok (.iadd, 1) := by decide +kernel
theorem dX1_writeEquation_31 : decode cX1_writeEquation 31 = .ok (.iload 8, 2) := by decide +kernel
theorem dX1_writeEquation_33 : decode cX1_writeEquation 33 = .ok (.iadd, 1) := by decide +kernel
theorem dX1_writeEquation_34 : decode cX1_writeEquation 34 = .ok (.lconst 0, 1) := by decide +kernel
theorem dX1_writeEquation_35 : decode cX1_writeEquation 35 = .ok (.lload_n 2, 1) := by decide +kernel
theorem dX1_writeEquation_36 : decode cX1_writeEquation 36 = .ok (.lload 6, 2) := by decide +kernel
theorem dX1_writeEquation_38 : decode cX1_writeEquation 38 = .ok (.invokestatic 71, 3) := by decide +kernel
theorem dX1_writeEquation_41 : decode cX1_writeEquation 41 = .ok (.invokestatic 77, 3) := by decide +kernel
theorem dX1_writeEquation_44 : decode cX1_writeEquation 44 = .ok (.lastore, 1) := by decide +kernel
theorem dX1_writeEquation_45 : decode cX1_writeEquation 45 = .ok (.goto 25, 3) := by decide +kernel
theorem dX1_writeEquation_48 : decode cX1_writeEquation 48 = .ok (.iload 8, 2) := by decide +kernel
theorem dX1_writeEquation_50 : decode cX1_writeEquation 50 = .ok (.iload 5, 2) := by decide +kernel
theorem dX1_writeEquation_52 : decode cX1_writeEquation 52 = .ok (.if_icmp .ne 18, 3) := by decide +kernel
theorem dX1_writeEquation_55 : decode cX1_writeEquation 55 = .ok (.aload_n 0, 1) := by decide +kernel
theorem dX1_writeEquation_56 : decode cX1_writeEquation 56 = .ok (.iload 4, 2) := by decide +kernel
theorem dX1_writeEquation_58 : decode cX1_writeEquation 58 = .ok (.iconst 1, 1) := by decide +kernel
theorem dX1_writeEquation_59 : decode cX1_writeEquation 59 = .ok (.iadd, 1) := by decide +kernel
theorem dX1_writeEquation_60 : decode cX1_writeEquation 60 = .ok (.iload 5, 2) := by decide +kernel
theorem dX1_writeEquation_62 : decode cX1_writeEquation 62 = .ok (.iadd, 1) := by decide +kernel
theorem dX1_writeEquation_63 : decode cX1_writeEquation 63 = .ok (.lload_n 2, 1) := by decide +kernel
theorem dX1_writeEquation_64 : decode cX1_writeEquation 64 = .ok (.lload 6, 2) := by decide +kernel
theorem dX1_writeEquation_66 : decode cX1_writeEquation 66 = .ok (.invokestatic 71, 3) := by decide +kernel
theorem dX1_writeEquation_69 : decode cX1_writeEquation 69 = .ok (.lastore, 1) := by decide +kernel
theorem dX1_writeEquation_70 : decode cX1_writeEquation 70 = .ok (.lload 6, 2) := by decide +kernel
theorem dX1_writeEquation_72 : decode cX1_writeEquation 72 = .ok (.iload_n 1, 1) := by decide +kernel
theorem dX1_writeEquation_73 : decode cX1_writeEquation 73 = .ok (.i2l, 1) := by decide +kernel
theorem dX1_writeEquation_74 : decode cX1_writeEquation 74 = .ok (.invokestatic 71, 3) := by decide +kernel
theorem dX1_writeEquation_77 : decode cX1_writeEquation 77 = .ok (.lstore 6, 2) := by decide +kernel
theorem dX1_writeEquation_79 : decode cX1_writeEquation 79 = .ok (.iinc 8 1, 3) := by decide +kernel
theorem dX1_writeEquation_82 : decode cX1_writeEquation 82 = .ok (.goto (-76), 3) := by decide +kernel
theorem dX1_writeEquation_85 : decode cX1_writeEquation 85 = .ok (.return_, 1) := by decide +kernel
theorem dX1_solveEquations_0 : decode cX1_solveEquations 0 = .ok (.iconst 0, 1) := by decide +kernel
theorem dX1_solveEquations_1 : decode cX1_solveEquations 1 = .ok (.istore_n 2, 1) := by decide +kernel
theorem dX1_solveEquations_2 : decode cX1_solveEquations 2 = .ok (.iload_n 2, 1) := by decide +kernel
theorem dX1_solveEquations_3 : decode cX1_solveEquations 3 = .ok (.iload_n 1, 1) := by decide +kernel
theorem dX1_solveEquations_4 : decode cX1_solveEquations 4 = .ok (.if_icmp .ge 16, 3) := by decide +kernel
theorem dX1_solveEquations_7 : decode cX1_solveEquations 7 = .ok (.aload_n 0, 1) := by decide +kernel
theorem dX1_solveEquations_8 : decode cX1_solveEquations 8 = .ok (.getfield 23, 3) := by decide +kernel
theorem dX1_solveEquations_11 : decode cX1_solveEquations 11 = .ok (.iload_n 2, 1) := by decide +kernel
theorem dX1_solveEquations_12 : decode cX1_solveEquations 12 = .ok (.iconst 0, 1) := by decide +kernel
theorem dX1_solveEquations_13 : decode cX1_solveEquations 13 = .ok (.bastore, 1) := by decide +kernel
theorem dX1_solveEquations_14 : decode cX1_solveEquations 14 = .ok (.iinc 2 1, 3) := by decide +kernel
theorem dX1_solveEquations_17 : decode cX1_solveEquations 17 = .ok (.goto (-15), 3) := by decide +kernel
theorem dX1_solveEquations_20 : decode cX1_solveEquations 20 = .ok (.iconst 0, 1) := by decide +kernel
theorem dX1_solveEquations_21 : decode cX1_solveEquations 21 = .ok (.istore_n 2, 1) := by decide +kernel
theorem dX1_solveEquations_22 : decode cX1_solveEquations 22 = .ok (.iload_n 2, 1) := by decide +kernel
theorem dX1_solveEquations_23 : decode cX1_solveEquations 23 = .ok (.iload_n 1, 1) := by decide +kernel
theorem dX1_solveEquations_24 : decode cX1_solveEquations 24 = .ok (.if_icmp .ge 53, 3) := by decide +kernel
theorem dX1_solveEquations_27 : decode cX1_solveEquations 27 = .ok (.aload_n 0, 1) := by decide +kernel
theorem dX1_solveEquations_28 : decode cX1_solveEquations 28 = .ok (.iload_n 2, 1) := by decide +kernel
theorem dX1_solveEquations_29 : decode cX1_solveEquations 29 = .ok (.iload_n 1, 1) := by decide +kernel
theorem dX1_solveEquations_30 : decode cX1_solveEquations 30 = .ok (.invokevirtual 80, 3) := by decide +kernel
theorem dX1_solveEquations_33 : decode cX1_solveEquations 33 = .ok (.istore_n 3, 1) := by decide +kernel
theorem dX1_solveEquations_34 : decode cX1_solveEquations 34 = .ok (.aload_n 0, 1) := by decide +kernel
theorem dX1_solveEquations_35 : decode cX1_solveEquations 35 = .ok (.getfield 31, 3) := by decide +kernel
theorem dX1_solveEquations_38 : decode cX1_solveEquations 38 = .ok (.iload_n 2, 1) := by decide +kernel
theorem dX1_solveEquations_39 : decode cX1_solveEquations 39 = .ok (.iload_n 3, 1) := by decide +kernel
theorem dX1_solveEquations_40 : decode cX1_solveEquations 40 = .ok (.iastore, 1) := by decide +kernel
theorem dX1_solveEquations_41 : decode cX1_solveEquations 41 = .ok (.iload_n 3, 1) := by decide +kernel
theorem dX1_solveEquations_42 : decode cX1_solveEquations 42 = .ok (.iconst (-1), 1) := by decide +kernel
theorem dX1_solveEquations_43 : decode cX1_solveEquations 43 = .ok (.if_icmp .eq 28, 3) := by decide +kernel
theorem dX1_solveEquations_46 : decode cX1_solveEquations 46 = .ok (.aload_n 0, 1) := by decide +kernel
theorem dX1_solveEquations_47 : decode cX1_solveEquations 47 = .ok (.getfield 23, 3) := by decide +kernel
theorem dX1_solveEquations_50 : decode cX1_solveEquations 50 = .ok (.iload_n 3, 1) := by decide +kernel
theorem dX1_solveEquations_51 : decode cX1_solveEquations 51 = .ok (.iconst 1, 1) := by decide +kernel
theorem dX1_solveEquations_52 : decode cX1_solveEquations 52 = .ok (.bastore, 1) := by decide +kernel
theorem dX1_solveEquations_53 : decode cX1_solveEquations 53 = .ok (.aload_n 0, 1) := by decide +kernel
theorem dX1_solveEquations_54 : decode cX1_solveEquations 54 = .ok (.getfield 20, 3) := by decide +kernel
theorem dX1_solveEquations_57 : decode cX1_solveEquations 57 = .ok (.iload_n 3, 1) := by decide +kernel
theorem dX1_solveEquations_58 : decode cX1_solveEquations 58 = .ok (.aaload, 1) := by decide +kernel
theorem dX1_solveEquations_59 : decode cX1_solveEquations 59 = .ok (.iload_n 2, 1) := by decide +kernel
theorem dX1_solveEquations_60 : decode cX1_solveEquations 60 = .ok (.iload_n 1, 1) := by decide +kernel
theorem dX1_solveEquations_61 : decode cX1_solveEquations 61 = .ok (.invokestatic 83, 3) := by decide +kernel
theorem dX1_solveEquations_64 : decode cX1_solveEquations 64 = .ok (.aload_n 0, 1) := by decide +kernel
theorem dX1_solveEquations_65 : decode cX1_solveEquations 65 = .ok (.iload_n 3, 1) := by decide +kernel
theorem dX1_solveEquations_66 : decode cX1_solveEquations 66 = .ok (.iload_n 2, 1) := by decide +kernel
theorem dX1_solveEquations_67 : decode cX1_solveEquations 67 = .ok (.iload_n 1, 1) := by decide +kernel
theorem dX1_solveEquations_68 : decode cX1_solveEquations 68 = .ok (.invokevirtual 87, 3) := by decide +kernel
theorem dX1_solveEquations_71 : decode cX1_solveEquations 71 = .ok (.iinc 2 1, 3) := by decide +kernel
theorem dX1_solveEquations_74 : decode cX1_solveEquations 74 = .ok (.goto (-52), 3) := by decide +kernel
theorem dX1_solveEquations_77 : decode cX1_solveEquations 77 = .ok (.iconst 0, 1) := by decide +kernel
theorem dX1_solveEquations_78 : decode cX1_solveEquations 78 = .ok (.istore_n 2, 1) := by decide +kernel
theorem dX1_solveEquations_79 : decode cX1_solveEquations 79 = .ok (.iload_n 2, 1) := by decide +kernel
theorem dX1_solveEquations_80 : decode cX1_solveEquations 80 = .ok (.iload_n 1, 1) := by decide +kernel
theorem dX1_solveEquations_81 : decode cX1_solveEquations 81 = .ok (.if_icmp .ge 39, 3) := by decide +kernel
theorem dX1_solveEquations_84 : decode cX1_solveEquations 84 = .ok (.aload_n 0, 1) := by decide +kernel
theorem dX1_solveEquations_85 : decode cX1_solveEquations 85 = .ok (.getfield 31, 3) := by decide +kernel
theorem dX1_solveEquations_88 : decode cX1_solveEquations 88 = .ok (.iload_n 2, 1) := by decide +kernel
theorem dX1_solveEquations_89 : decode cX1_solveEquations 89 = .ok (.iaload, 1) := by decide +kernel
theorem dX1_solveEquations_90 : decode cX1_solveEquations 90 = .ok (.istore_n 3, 1) := by decide +kernel
theorem dX1_solveEquations_91 : decode cX1_solveEquations 91 = .ok (.aload_n 0, 1) := by decide +kernel
theorem dX1_solveEquations_92 : decode cX1_solveEquations 92 = .ok (.getfield 27, 3) := by decide +kernel
theorem dX1_solveEquations_95 : decode cX1_solveEquations 95 = .ok (.iload_n 2, 1) := by decide +kernel
theorem dX1_solveEquations_96 : decode cX1_solveEquations 96 = .ok (.iload_n 3, 1) := by decide +kernel
theorem dX1_solveEquations_97 : decode cX1_solveEquations 97 = .ok (.iconst (-1), 1) := by decide +kernel
theorem dX1_solveEquations_98 : decode cX1_solveEquations 98 = .ok (.if_icmp .ne 7, 3) := by decide +kernel
theorem dX1_solveEquations_101 : decode cX1_solveEquations 101 = .ok (.lconst 0, 1) := by decide +kernel
theorem dX1_solveEquations_102 : decode cX1_solveEquations 102 = .ok (.goto 11, 3) := by decide +kernel
theorem dX1_solveEquations_105 : decode cX1_solveEquations 105 = .ok (.aload_n 0, 1) := by decide +kernel
theorem dX1_solveEquations_106 : decode cX1_solveEquations 106 = .ok (.getfield 20, 3) := by decide +kernel
theorem dX1_solveEquations_109 : decode cX1_solveEquations 109 = .ok (.iload_n 3, 1) := by decide +kernel
theorem dX1_solveEquations_110 : decode cX1_solveEquations 110 = .ok (.aaload, 1) := by decide +kernel
theorem dX1_solveEquations_111 : decode cX1_solveEquations 111 = .ok (.iload_n 1, 1) := by decide +kernel
theorem dX1_solveEquations_112 : decode cX1_solveEquations 112 = .ok (.laload, 1) := by decide +kernel
theorem dX1_solveEquations_113 : decode cX1_solveEquations 113 = .ok (.lastore, 1) := by decide +kernel
theorem dX1_solveEquations_114 : decode cX1_solveEquations 114 = .ok (.iinc 2 1, 3) := by decide +kernel
theorem dX1_solveEquations_117 : decode cX1_solveEquations 117 = .ok (.goto (-38), 3) := by decide +kernel
theorem dX1_solveEquations_120 : decode cX1_solveEquations 120 = .ok (.return_, 1) := by decide +kernel
theorem dX1_unusedRowWith_0 : decode cX1_unusedRowWith 0 = .ok (.iconst 0, 1) := by decide +kernel
theorem dX1_unusedRowWith_1 : decode cX1_unusedRowWith 1 = .ok (.istore_n 3, 1) := by decide +kernel
theorem dX1_unusedRowWith_2 : decode cX1_unusedRowWith 2 = .ok (.iload_n 3, 1) := by decide +kernel
theorem dX1_unusedRowWith_3 : decode cX1_unusedRowWith 3 = .ok (.iload_n 2, 1) := by decide +kernel
theorem dX1_unusedRowWith_4 : decode cX1_unusedRowWith 4 = .ok (.if_icmp .ge 33, 3) := by decide +kernel
theorem dX1_unusedRowWith_7 : decode cX1_unusedRowWith 7 = .ok (.aload_n 0, 1) := by decide +kernel
theorem dX1_unusedRowWith_8 : decode cX1_unusedRowWith 8 = .ok (.getfield 23, 3) := by decide +kernel
theorem dX1_unusedRowWith_11 : decode cX1_unusedRowWith 11 = .ok (.iload_n 3, 1) := by decide +kernel
theorem dX1_unusedRowWith_12 : decode cX1_unusedRowWith 12 = .ok (.baload, 1) := by decide +kernel
theorem dX1_unusedRowWith_13 : decode cX1_unusedRowWith 13 = .ok (.ifCond .ne 18, 3) := by decide +kernel
theorem dX1_unusedRowWith_16 : decode cX1_unusedRowWith 16 = .ok (.aload_n 0, 1) := by decide +kernel
theorem dX1_unusedRowWith_17 : decode cX1_unusedRowWith 17 = .ok (.getfield 20, 3) := by decide +kernel
theorem dX1_unusedRowWith_20 : decode cX1_unusedRowWith 20 = .ok (.iload_n 3, 1) := by decide +kernel
theorem dX1_unusedRowWith_21 : decode cX1_unusedRowWith 21 = .ok (.aaload, 1) := by decide +kernel
theorem dX1_unusedRowWith_22 : decode cX1_unusedRowWith 22 = .ok (.iload_n 1, 1) := by decide +kernel
theorem dX1_unusedRowWith_23 : decode cX1_unusedRowWith 23 = .ok (.laload, 1) := by decide +kernel
theorem dX1_unusedRowWith_24 : decode cX1_unusedRowWith 24 = .ok (.lconst 0, 1) := by decide +kernel
theorem dX1_unusedRowWith_25 : decode cX1_unusedRowWith 25 = .ok (.lcmp, 1) := by decide +kernel
theorem dX1_unusedRowWith_26 : decode cX1_unusedRowWith 26 = .ok (.ifCond .eq 5, 3) := by decide +kernel
theorem dX1_unusedRowWith_29 : decode cX1_unusedRowWith 29 = .ok (.iload_n 3, 1) := by decide +kernel
theorem dX1_unusedRowWith_30 : decode cX1_unusedRowWith 30 = .ok (.ireturn, 1) := by decide +kernel
theorem dX1_unusedRowWith_31 : decode cX1_unusedRowWith 31 = .ok (.iinc 3 1, 3) := by decide +kernel
theorem dX1_unusedRowWith_34 : decode cX1_unusedRowWith 34 = .ok (.goto (-32), 3) := by decide +kernel
theorem dX1_unusedRowWith_37 : decode cX1_unusedRowWith 37 = .ok (.iconst (-1), 1) := by decide +kernel
theorem dX1_unusedRowWith_38 : decode cX1_unusedRowWith 38 = .ok (.ireturn, 1) := by decide +kernel
theorem dX1_makeOne_0 : decode cX1_makeOne 0 = .ok (.aload_n 0, 1) := by decide +kernel
theorem dX1_makeOne_1 : decode cX1_makeOne 1 = .ok (.iload_n 1, 1) := by decide +kernel
theorem dX1_makeOne_2 : decode cX1_makeOne 2 = .ok (.laload, 1) := by decide +kernel
theorem dX1_makeOne_3 : decode cX1_makeOne 3 = .ok (.invokestatic 91, 3) := by decide +kernel
theorem dX1_makeOne_6 : decode cX1_makeOne 6 = .ok (.lstore_n 3, 1) := by decide +kernel
theorem dX1_makeOne_7 : decode cX1_makeOne 7 = .ok (.iload_n 1, 1) := by decide +kernel
theorem dX1_makeOne_8 : decode cX1_makeOne 8 = .ok (.istore 5, 2) := by decide +kernel
theorem dX1_makeOne_10 : decode cX1_makeOne 10 = .ok (.iload 5, 2) := by decide +kernel
theorem dX1_makeOne_12 : decode cX1_makeOne 12 = .ok (.iload_n 2, 1) := by decide +kernel
theorem dX1_makeOne_13 : decode cX1_makeOne 13 = .ok (.if_icmp .gt 21, 3) := by decide +kernel
theorem dX1_makeOne_16 : decode cX1_makeOne 16 = .ok (.aload_n 0, 1) := by decide +kernel
theorem dX1_makeOne_17 : decode cX1_makeOne 17 = .ok (.iload 5, 2) := by decide +kernel
theorem dX1_makeOne_19 : decode cX1_makeOne 19 = .ok (.aload_n 0, 1) := by decide +kernel
theorem dX1_makeOne_20 : decode cX1_makeOne 20 = .ok (.iload 5, 2) := by decide +kernel
theorem dX1_makeOne_22 : decode cX1_makeOne 22 = .ok (.laload, 1) := by decide +kernel
theorem dX1_makeOne_23 : decode cX1_makeOne 23 = .ok (.lload_n 3, 1) := by decide +kernel
theorem dX1_makeOne_24 : decode cX1_makeOne 24 = .ok (.invokestatic 71, 3) := by decide +kernel
theorem dX1_makeOne_27 : decode cX1_makeOne 27 = .ok (.lastore, 1) := by decide +kernel
theorem dX1_makeOne_28 : decode cX1_makeOne 28 = .ok (.iinc 5 1, 3) := by decide +kernel
theorem dX1_makeOne_31 : decode cX1_makeOne 31 = .ok (.goto (-21), 3) := by decide +kernel
theorem dX1_makeOne_34 : decode cX1_makeOne 34 = .ok (.return_, 1) := by decide +kernel
theorem dX1_clearElsewhere_0 : decode cX1_clearElsewhere 0 = .ok (.iconst 0, 1) := by decide +kernel
theorem dX1_clearElsewhere_1 : decode cX1_clearElsewhere 1 = .ok (.istore 4, 2) := by decide +kernel
theorem dX1_clearElsewhere_3 : decode cX1_clearElsewhere 3 = .ok (.iload 4, 2) := by decide +kernel
theorem dX1_clearElsewhere_5 : decode cX1_clearElsewhere 5 = .ok (.iload_n 3, 1) := by decide +kernel
theorem dX1_clearElsewhere_6 : decode cX1_clearElsewhere 6 = .ok (.if_icmp .ge 47, 3) := by decide +kernel
theorem dX1_clearElsewhere_9 : decode cX1_clearElsewhere 9 = .ok (.iload 4, 2) := by decide +kernel
theorem dX1_clearElsewhere_11 : decode cX1_clearElsewhere 11 = .ok (.iload_n 1, 1) := by decide +kernel
theorem dX1_clearElsewhere_12 : decode cX1_clearElsewhere 12 = .ok (.if_icmp .eq 35, 3) := by decide +kernel
theorem dX1_clearElsewhere_15 : decode cX1_clearElsewhere 15 = .ok (.aload_n 0, 1) := by decide +kernel
theorem dX1_clearElsewhere_16 : decode cX1_clearElsewhere 16 = .ok (.getfield 20, 3) := by decide +kernel
theorem dX1_clearElsewhere_19 : decode cX1_clearElsewhere 19 = .ok (.iload 4, 2) := by decide +kernel
theorem dX1_clearElsewhere_21 : decode cX1_clearElsewhere 21 = .ok (.aaload, 1) := by decide +kernel
theorem dX1_clearElsewhere_22 : decode cX1_clearElsewhere 22 = .ok (.iload_n 2, 1) := by decide +kernel
theorem dX1_clearElsewhere_23 : decode cX1_clearElsewhere 23 = .ok (.laload, 1) := by decide +kernel
theorem dX1_clearElsewhere_24 : decode cX1_clearElsewhere 24 = .ok (.lconst 0, 1) := by decide +kernel
theorem dX1_clearElsewhere_25 : decode cX1_clearElsewhere 25 = .ok (.lcmp, 1) := by decide +kernel
theorem dX1_clearElsewhere_26 : decode cX1_clearElsewhere 26 = .ok (.ifCond .eq 21, 3) := by decide +kernel
theorem dX1_clearElsewhere_29 : decode cX1_clearElsewhere 29 = .ok (.aload_n 0, 1) := by decide +kernel
theorem dX1_clearElsewhere_30 : decode cX1_clearElsewhere 30 = .ok (.getfield 20, 3) := by decide +kernel
theorem dX1_clearElsewhere_33 : decode cX1_clearElsewhere 33 = .ok (.iload 4, 2) := by decide +kernel
theorem dX1_clearElsewhere_35 : decode cX1_clearElsewhere 35 = .ok (.aaload, 1) := by decide +kernel
theorem dX1_clearElsewhere_36 : decode cX1_clearElsewhere 36 = .ok (.aload_n 0, 1) := by decide +kernel
theorem dX1_clearElsewhere_37 : decode cX1_clearElsewhere 37 = .ok (.getfield 20, 3) := by decide +kernel
theorem dX1_clearElsewhere_40 : decode cX1_clearElsewhere 40 = .ok (.iload_n 1, 1) := by decide +kernel
theorem dX1_clearElsewhere_41 : decode cX1_clearElsewhere 41 = .ok (.aaload, 1) := by decide +kernel
theorem dX1_clearElsewhere_42 : decode cX1_clearElsewhere 42 = .ok (.iload_n 2, 1) := by decide +kernel
theorem dX1_clearElsewhere_43 : decode cX1_clearElsewhere 43 = .ok (.iload_n 3, 1) := by decide +kernel
theorem dX1_clearElsewhere_44 : decode cX1_clearElsewhere 44 = .ok (.invokestatic 95, 3) := by decide +kernel
theorem dX1_clearElsewhere_47 : decode cX1_clearElsewhere 47 = .ok (.iinc 4 1, 3) := by decide +kernel
theorem dX1_clearElsewhere_50 : decode cX1_clearElsewhere 50 = .ok (.goto (-47), 3) := by decide +kernel
theorem dX1_clearElsewhere_53 : decode cX1_clearElsewhere 53 = .ok (.return_, 1) := by decide +kernel
theorem dX1_takeTimes_0 : decode cX1_takeTimes 0 = .ok (.aload_n 0, 1) := by decide +kernel
theorem dX1_takeTimes_1 : decode cX1_takeTimes 1 = .ok (.iload_n 2, 1) := by decide +kernel
theorem dX1_takeTimes_2 : decode cX1_takeTimes 2 = .ok (.laload, 1) := by decide +kernel
theorem dX1_takeTimes_3 : decode cX1_takeTimes 3 = .ok (.lstore 4, 2) := by decide +kernel
theorem dX1_takeTimes_5 : decode cX1_takeTimes 5 = .ok (.iload_n 2, 1) := by decide +kernel
theorem dX1_takeTimes_6 : decode cX1_takeTimes 6 = .ok (.istore 6, 2) := by decide +kernel
theorem dX1_takeTimes_8 : decode cX1_takeTimes 8 = .ok (.iload 6, 2) := by decide +kernel
theorem dX1_takeTimes_10 : decode cX1_takeTimes 10 = .ok (.iload_n 3, 1) := by decide +kernel
theorem dX1_takeTimes_11 : decode cX1_takeTimes 11 = .ok (.if_icmp .gt 29, 3) := by decide +kernel
theorem dX1_takeTimes_14 : decode cX1_takeTimes 14 = .ok (.aload_n 0, 1) := by decide +kernel
theorem dX1_takeTimes_15 : decode cX1_takeTimes 15 = .ok (.iload 6, 2) := by decide +kernel
theorem dX1_takeTimes_17 : decode cX1_takeTimes 17 = .ok (.aload_n 0, 1) := by decide +kernel
theorem dX1_takeTimes_18 : decode cX1_takeTimes 18 = .ok (.iload 6, 2) := by decide +kernel
theorem dX1_takeTimes_20 : decode cX1_takeTimes 20 = .ok (.laload, 1) := by decide +kernel
theorem dX1_takeTimes_21 : decode cX1_takeTimes 21 = .ok (.lload 4, 2) := by decide +kernel
theorem dX1_takeTimes_23 : decode cX1_takeTimes 23 = .ok (.aload_n 1, 1) := by decide +kernel
theorem dX1_takeTimes_24 : decode cX1_takeTimes 24 = .ok (.iload 6, 2) := by decide +kernel
theorem dX1_takeTimes_26 : decode cX1_takeTimes 26 = .ok (.laload, 1) := by decide +kernel
theorem dX1_takeTimes_27 : decode cX1_takeTimes 27 = .ok (.invokestatic 71, 3) := by decide +kernel
theorem dX1_takeTimes_30 : decode cX1_takeTimes 30 = .ok (.invokestatic 77, 3) := by decide +kernel
theorem dX1_takeTimes_33 : decode cX1_takeTimes 33 = .ok (.lastore, 1) := by decide +kernel
theorem dX1_takeTimes_34 : decode cX1_takeTimes 34 = .ok (.iinc 6 1, 3) := by decide +kernel
theorem dX1_takeTimes_37 : decode cX1_takeTimes 37 = .ok (.goto (-29), 3) := by decide +kernel
theorem dX1_takeTimes_40 : decode cX1_takeTimes 40 = .ok (.return_, 1) := by decide +kernel
theorem dX1_divide_0 : decode cX1_divide 0 = .ok (.iload_n 1, 1) := by decide +kernel
theorem dX1_divide_1 : decode cX1_divide 1 = .ok (.iload_n 2, 1) := by decide +kernel
theorem dX1_divide_2 : decode cX1_divide 2 = .ok (.iadd, 1) := by decide +kernel
theorem dX1_divide_3 : decode cX1_divide 3 = .ok (.iconst 1, 1) := by decide +kernel
theorem dX1_divide_4 : decode cX1_divide 4 = .ok (.iadd, 1) := by decide +kernel
theorem dX1_divide_5 : decode cX1_divide 5 = .ok (.istore_n 3, 1) := by decide +kernel
theorem dX1_divide_6 : decode cX1_divide 6 = .ok (.bipush 8, 2) := by decide +kernel
theorem dX1_divide_8 : decode cX1_divide 8 = .ok (.istore 4, 2) := by decide +kernel
theorem dX1_divide_10 : decode cX1_divide 10 = .ok (.iload 4, 2) := by decide +kernel
theorem dX1_divide_12 : decode cX1_divide 12 = .ok (.iload_n 1, 1) := by decide +kernel
theorem dX1_divide_13 : decode cX1_divide 13 = .ok (.if_icmp .le 20, 3) := by decide +kernel
theorem dX1_divide_16 : decode cX1_divide 16 = .ok (.aload_n 0, 1) := by decide +kernel
theorem dX1_divide_17 : decode cX1_divide 17 = .ok (.getfield 12, 3) := by decide +kernel
theorem dX1_divide_20 : decode cX1_divide 20 = .ok (.getfield 99, 3) := by decide +kernel
theorem dX1_divide_23 : decode cX1_divide 23 = .ok (.iload 4, 2) := by decide +kernel
theorem dX1_divide_25 : decode cX1_divide 25 = .ok (.lconst 0, 1) := by decide +kernel
theorem dX1_divide_26 : decode cX1_divide 26 = .ok (.lastore, 1) := by decide +kernel
theorem dX1_divide_27 : decode cX1_divide 27 = .ok (.iinc 4 (-1), 3) := by decide +kernel
theorem dX1_divide_30 : decode cX1_divide 30 = .ok (.goto (-20), 3) := by decide +kernel
theorem dX1_divide_33 : decode cX1_divide 33 = .ok (.iload_n 1, 1) := by decide +kernel
theorem dX1_divide_34 : decode cX1_divide 34 = .ok (.istore 4, 2) := by decide +kernel
theorem dX1_divide_36 : decode cX1_divide 36 = .ok (.iload 4, 2) := by decide +kernel
theorem dX1_divide_38 : decode cX1_divide 38 = .ok (.ifCond .lt 84, 3) := by decide +kernel
theorem dX1_divide_41 : decode cX1_divide 41 = .ok (.aload_n 0, 1) := by decide +kernel
theorem dX1_divide_42 : decode cX1_divide 42 = .ok (.getfield 27, 3) := by decide +kernel
theorem dX1_divide_45 : decode cX1_divide 45 = .ok (.iload 4, 2) := by decide +kernel
theorem dX1_divide_47 : decode cX1_divide 47 = .ok (.iload_n 2, 1) := by decide +kernel
theorem dX1_divide_48 : decode cX1_divide 48 = .ok (.iadd, 1) := by decide +kernel
theorem dX1_divide_49 : decode cX1_divide 49 = .ok (.laload, 1) := by decide +kernel
theorem dX1_divide_50 : decode cX1_divide 50 = .ok (.lstore 5, 2) := by decide +kernel
theorem dX1_divide_52 : decode cX1_divide 52 = .ok (.aload_n 0, 1) := by decide +kernel
theorem dX1_divide_53 : decode cX1_divide 53 = .ok (.getfield 12, 3) := by decide +kernel
theorem dX1_divide_56 : decode cX1_divide 56 = .ok (.getfield 99, 3) := by decide +kernel
theorem dX1_divide_59 : decode cX1_divide 59 = .ok (.iload 4, 2) := by decide +kernel
theorem dX1_divide_61 : decode cX1_divide 61 = .ok (.lload 5, 2) := by decide +kernel
theorem dX1_divide_63 : decode cX1_divide 63 = .ok (.lastore, 1) := by decide +kernel
theorem dX1_divide_64 : decode cX1_divide 64 = .ok (.iconst 0, 1) := by decide +kernel
theorem dX1_divide_65 : decode cX1_divide 65 = .ok (.istore 7, 2) := by decide +kernel
theorem dX1_divide_67 : decode cX1_divide 67 = .ok (.iload 7, 2) := by decide +kernel
theorem dX1_divide_69 : decode cX1_divide 69 = .ok (.iload_n 2, 1) := by decide +kernel
theorem dX1_divide_70 : decode cX1_divide 70 = .ok (.if_icmp .ge 46, 3) := by decide +kernel
theorem dX1_divide_73 : decode cX1_divide 73 = .ok (.aload_n 0, 1) := by decide +kernel
theorem dX1_divide_74 : decode cX1_divide 74 = .ok (.getfield 27, 3) := by decide +kernel
theorem dX1_divide_77 : decode cX1_divide 77 = .ok (.iload 4, 2) := by decide +kernel
theorem dX1_divide_79 : decode cX1_divide 79 = .ok (.iload 7, 2) := by decide +kernel
theorem dX1_divide_81 : decode cX1_divide 81 = .ok (.iadd, 1) := by decide +kernel
theorem dX1_divide_82 : decode cX1_divide 82 = .ok (.aload_n 0, 1) := by decide +kernel
theorem dX1_divide_83 : decode cX1_divide 83 = .ok (.getfield 27, 3) := by decide +kernel
theorem dX1_divide_86 : decode cX1_divide 86 = .ok (.iload 4, 2) := by decide +kernel
theorem dX1_divide_88 : decode cX1_divide 88 = .ok (.iload 7, 2) := by decide +kernel
theorem dX1_divide_90 : decode cX1_divide 90 = .ok (.iadd, 1) := by decide +kernel
theorem dX1_divide_91 : decode cX1_divide 91 = .ok (.laload, 1) := by decide +kernel
theorem dX1_divide_92 : decode cX1_divide 92 = .ok (.lload 5, 2) := by decide +kernel
theorem dX1_divide_94 : decode cX1_divide 94 = .ok (.aload_n 0, 1) := by decide +kernel
theorem dX1_divide_95 : decode cX1_divide 95 = .ok (.getfield 27, 3) := by decide +kernel
theorem dX1_divide_98 : decode cX1_divide 98 = .ok (.iload_n 3, 1) := by decide +kernel
theorem dX1_divide_99 : decode cX1_divide 99 = .ok (.iload 7, 2) := by decide +kernel
theorem dX1_divide_101 : decode cX1_divide 101 = .ok (.iadd, 1) := by decide +kernel
theorem dX1_divide_102 : decode cX1_divide 102 = .ok (.laload, 1) := by decide +kernel
theorem dX1_divide_103 : decode cX1_divide 103 = .ok (.invokestatic 71, 3) := by decide +kernel
theorem dX1_divide_106 : decode cX1_divide 106 = .ok (.invokestatic 77, 3) := by decide +kernel
theorem dX1_divide_109 : decode cX1_divide 109 = .ok (.lastore, 1) := by decide +kernel
theorem dX1_divide_110 : decode cX1_divide 110 = .ok (.iinc 7 1, 3) := by decide +kernel
theorem dX1_divide_113 : decode cX1_divide 113 = .ok (.goto (-46), 3) := by decide +kernel
theorem dX1_divide_116 : decode cX1_divide 116 = .ok (.iinc 4 (-1), 3) := by decide +kernel
theorem dX1_divide_119 : decode cX1_divide 119 = .ok (.goto (-83), 3) := by decide +kernel
theorem dX1_divide_122 : decode cX1_divide 122 = .ok (.return_, 1) := by decide +kernel
theorem dX2_of_0 : decode cX2_of 0 = .ok (.lload_n 0, 1) := by decide +kernel
theorem dX2_of_1 : decode cX2_of 1 = .ok (.ldc2_w 11, 3) := by decide +kernel
theorem dX2_of_4 : decode cX2_of 4 = .ok (.invokestatic 13, 3) := by decide +kernel
theorem dX2_of_7 : decode cX2_of 7 = .ok (.lreturn, 1) := by decide +kernel
theorem dX2_plus_0 : decode cX2_plus 0 = .ok (.lload_n 0, 1) := by decide +kernel
theorem dX2_plus_1 : decode cX2_plus 1 = .ok (.lload_n 2, 1) := by decide +kernel
theorem dX2_plus_2 : decode cX2_plus 2 = .ok (.ladd, 1) := by decide +kernel
theorem dX2_plus_3 : decode cX2_plus 3 = .ok (.lstore 4, 2) := by decide +kernel
theorem dX2_plus_5 : decode cX2_plus 5 = .ok (.lload 4, 2) := by decide +kernel
theorem dX2_plus_7 : decode cX2_plus 7 = .ok (.ldc2_w 11, 3) := by decide +kernel
theorem dX2_plus_10 : decode cX2_plus 10 = .ok (.lcmp, 1) := by decide +kernel
theorem dX2_plus_11 : decode cX2_plus 11 = .ok (.ifCond .lt 12, 3) := by decide +kernel
theorem dX2_plus_14 : decode cX2_plus 14 = .ok (.lload 4, 2) := by decide +kernel
theorem dX2_plus_16 : decode cX2_plus 16 = .ok (.ldc2_w 11, 3) := by decide +kernel
theorem dX2_plus_19 : decode cX2_plus 19 = .ok (.lsub, 1) := by decide +kernel
theorem dX2_plus_20 : decode cX2_plus 20 = .ok (.goto 5, 3) := by decide +kernel
theorem dX2_plus_23 : decode cX2_plus 23 = .ok (.lload 4, 2) := by decide +kernel
theorem dX2_plus_25 : decode cX2_plus 25 = .ok (.lreturn, 1) := by decide +kernel
theorem dX2_minus_0 : decode cX2_minus 0 = .ok (.lload_n 0, 1) := by decide +kernel
theorem dX2_minus_1 : decode cX2_minus 1 = .ok (.lload_n 2, 1) := by decide +kernel
theorem dX2_minus_2 : decode cX2_minus 2 = .ok (.lcmp, 1) := by decide +kernel
theorem dX2_minus_3 : decode cX2_minus 3 = .ok (.ifCond .lt 9, 3) := by decide +kernel
theorem dX2_minus_6 : decode cX2_minus 6 = .ok (.lload_n 0, 1) := by decide +kernel
theorem dX2_minus_7 : decode cX2_minus 7 = .ok (.lload_n 2, 1) := by decide +kernel
theorem dX2_minus_8 : decode cX2_minus 8 = .ok (.lsub, 1) := by decide +kernel
theorem dX2_minus_9 : decode cX2_minus 9 = .ok (.goto 10, 3) := by decide +kernel
theorem dX2_minus_12 : decode cX2_minus 12 = .ok (.lload_n 0, 1) := by decide +kernel
theorem dX2_minus_13 : decode cX2_minus 13 = .ok (.lload_n 2, 1) := by decide +kernel
theorem dX2_minus_14 : decode cX2_minus 14 = .ok (.lsub, 1) := by decide +kernel
theorem dX2_minus_15 : decode cX2_minus 15 = .ok (.ldc2_w 11, 3) := by decide +kernel
theorem dX2_minus_18 : decode cX2_minus 18 = .ok (.ladd, 1) := by decide +kernel
theorem dX2_minus_19 : decode cX2_minus 19 = .ok (.lreturn, 1) := by decide +kernel
theorem dX2_times_0 : decode cX2_times 0 = .ok (.lload_n 0, 1) := by decide +kernel
theorem dX2_times_1 : decode cX2_times 1 = .ok (.bipush 31, 2) := by decide +kernel
theorem dX2_times_3 : decode cX2_times 3 = .ok (.lushr, 1) := by decide +kernel
theorem dX2_times_4 : decode cX2_times 4 = .ok (.lstore 4, 2) := by decide +kernel
theorem dX2_times_6 : decode cX2_times 6 = .ok (.lload_n 0, 1) := by decide +kernel
theorem dX2_times_7 : decode cX2_times 7 = .ok (.ldc2_w 19, 3) := by decide +kernel
theorem dX2_times_10 : decode cX2_times 10 = .ok (.land, 1) := by decide +kernel
theorem dX2_times_11 : decode cX2_times 11 = .ok (.lstore 6, 2) := by decide +kernel
theorem dX2_times_13 : decode cX2_times 13 = .ok (.lload_n 2, 1) := by decide +kernel
theorem dX2_times_14 : decode cX2_times 14 = .ok (.bipush 31, 2) := by decide +kernel
theorem dX2_times_16 : decode cX2_times 16 = .ok (.lushr, 1) := by decide +kernel
theorem dX2_times_17 : decode cX2_times 17 = .ok (.lstore 8, 2) := by decide +kernel
theorem dX2_times_19 : decode cX2_times 19 = .ok (.lload_n 2, 1) := by decide +kernel
theorem dX2_times_20 : decode cX2_times 20 = .ok (.ldc2_w 19, 3) := by decide +kernel
theorem dX2_times_23 : decode cX2_times 23 = .ok (.land, 1) := by decide +kernel
theorem dX2_times_24 : decode cX2_times 24 = .ok (.lstore 10, 2) := by decide +kernel
theorem dX2_times_26 : decode cX2_times 26 = .ok (.lload 4, 2) := by decide +kernel
theorem dX2_times_28 : decode cX2_times 28 = .ok (.lload 10, 2) := by decide +kernel
theorem dX2_times_30 : decode cX2_times 30 = .ok (.lmul, 1) := by decide +kernel
theorem dX2_times_31 : decode cX2_times 31 = .ok (.lload 6, 2) := by decide +kernel
theorem dX2_times_33 : decode cX2_times 33 = .ok (.lload 8, 2) := by decide +kernel
theorem dX2_times_35 : decode cX2_times 35 = .ok (.lmul, 1) := by decide +kernel
theorem dX2_times_36 : decode cX2_times 36 = .ok (.ladd, 1) := by decide +kernel
theorem dX2_times_37 : decode cX2_times 37 = .ok (.lstore 12, 2) := by decide +kernel
theorem dX2_times_39 : decode cX2_times 39 = .ok (.lload 12, 2) := by decide +kernel
theorem dX2_times_41 : decode cX2_times 41 = .ok (.bipush 30, 2) := by decide +kernel
theorem dX2_times_43 : decode cX2_times 43 = .ok (.lushr, 1) := by decide +kernel
theorem dX2_times_44 : decode cX2_times 44 = .ok (.lload 12, 2) := by decide +kernel
theorem dX2_times_46 : decode cX2_times 46 = .ok (.ldc2_w 21, 3) := by decide +kernel
theorem dX2_times_49 : decode cX2_times 49 = .ok (.land, 1) := by decide +kernel
theorem dX2_times_50 : decode cX2_times 50 = .ok (.bipush 31, 2) := by decide +kernel
theorem dX2_times_52 : decode cX2_times 52 = .ok (.lshl, 1) := by decide +kernel
theorem dX2_times_53 : decode cX2_times 53 = .ok (.ladd, 1) := by decide +kernel
theorem dX2_times_54 : decode cX2_times 54 = .ok (.lstore 14, 2) := by decide +kernel
theorem dX2_times_56 : decode cX2_times 56 = .ok (.ldc2_w 23, 3) := by decide +kernel
theorem dX2_times_59 : decode cX2_times 59 = .ok (.lload 4, 2) := by decide +kernel
theorem dX2_times_61 : decode cX2_times 61 = .ok (.lmul, 1) := by decide +kernel
theorem dX2_times_62 : decode cX2_times 62 = .ok (.lload 8, 2) := by decide +kernel
theorem dX2_times_64 : decode cX2_times 64 = .ok (.lmul, 1) := by decide +kernel
theorem dX2_times_65 : decode cX2_times 65 = .ok (.lload 14, 2) := by decide +kernel
theorem dX2_times_67 : decode cX2_times 67 = .ok (.ladd, 1) := by decide +kernel
theorem dX2_times_68 : decode cX2_times 68 = .ok (.lload 6, 2) := by decide +kernel
theorem dX2_times_70 : decode cX2_times 70 = .ok (.lload 10, 2) := by decide +kernel
theorem dX2_times_72 : decode cX2_times 72 = .ok (.lmul, 1) := by decide +kernel
theorem dX2_times_73 : decode cX2_times 73 = .ok (.ladd, 1) := by decide +kernel
theorem dX2_times_74 : decode cX2_times 74 = .ok (.ldc2_w 11, 3) := by decide +kernel
theorem dX2_times_77 : decode cX2_times 77 = .ok (.lrem, 1) := by decide +kernel
theorem dX2_times_78 : decode cX2_times 78 = .ok (.lreturn, 1) := by decide +kernel
theorem dX2_inverse_0 : decode cX2_inverse 0 = .ok (.ldc2_w 11, 3) := by decide +kernel
theorem dX2_inverse_3 : decode cX2_inverse 3 = .ok (.lstore_n 2, 1) := by decide +kernel
theorem dX2_inverse_4 : decode cX2_inverse 4 = .ok (.lconst 0, 1) := by decide +kernel
theorem dX2_inverse_5 : decode cX2_inverse 5 = .ok (.lstore 4, 2) := by decide +kernel
theorem dX2_inverse_7 : decode cX2_inverse 7 = .ok (.lload_n 0, 1) := by decide +kernel
theorem dX2_inverse_8 : decode cX2_inverse 8 = .ok (.lstore 6, 2) := by decide +kernel
theorem dX2_inverse_10 : decode cX2_inverse 10 = .ok (.lconst 1, 1) := by decide +kernel
theorem dX2_inverse_11 : decode cX2_inverse 11 = .ok (.lstore 8, 2) := by decide +kernel
theorem dX2_inverse_13 : decode cX2_inverse 13 = .ok (.iconst 0, 1) := by decide +kernel
theorem dX2_inverse_14 : decode cX2_inverse 14 = .ok (.istore 10, 2) := by decide +kernel
theorem dX2_inverse_16 : decode cX2_inverse 16 = .ok (.iload 10, 2) := by decide +kernel
theorem dX2_inverse_18 : decode cX2_inverse 18 = .ok (.bipush 100, 2) := by decide +kernel
theorem dX2_inverse_20 : decode cX2_inverse 20 = .ok (.if_icmp .ge 56, 3) := by decide +kernel
theorem dX2_inverse_23 : decode cX2_inverse 23 = .ok (.lload 6, 2) := by decide +kernel
theorem dX2_inverse_25 : decode cX2_inverse 25 = .ok (.lconst 0, 1) := by decide +kernel
theorem dX2_inverse_26 : decode cX2_inverse 26 = .ok (.lcmp, 1) := by decide +kernel
theorem dX2_inverse_27 : decode cX2_inverse 27 = .ok (.ifCond .eq 49, 3) := by decide +kernel
theorem dX2_inverse_30 : decode cX2_inverse 30 = .ok (.lload_n 2, 1) := by decide +kernel
theorem dX2_inverse_31 : decode cX2_inverse 31 = .ok (.lload 6, 2) := by decide +kernel
theorem dX2_inverse_33 : decode cX2_inverse 33 = .ok (.ldiv, 1) := by decide +kernel
theorem dX2_inverse_34 : decode cX2_inverse 34 = .ok (.lstore 11, 2) := by decide +kernel
theorem dX2_inverse_36 : decode cX2_inverse 36 = .ok (.lload_n 2, 1) := by decide +kernel
theorem dX2_inverse_37 : decode cX2_inverse 37 = .ok (.lload 11, 2) := by decide +kernel
theorem dX2_inverse_39 : decode cX2_inverse 39 = .ok (.lload 6, 2) := by decide +kernel
theorem dX2_inverse_41 : decode cX2_inverse 41 = .ok (.lmul, 1) := by decide +kernel
theorem dX2_inverse_42 : decode cX2_inverse 42 = .ok (.lsub, 1) := by decide +kernel
theorem dX2_inverse_43 : decode cX2_inverse 43 = .ok (.lstore 13, 2) := by decide +kernel
theorem dX2_inverse_45 : decode cX2_inverse 45 = .ok (.lload 4, 2) := by decide +kernel
theorem dX2_inverse_47 : decode cX2_inverse 47 = .ok (.lload 11, 2) := by decide +kernel
theorem dX2_inverse_49 : decode cX2_inverse 49 = .ok (.lload 8, 2) := by decide +kernel
theorem dX2_inverse_51 : decode cX2_inverse 51 = .ok (.lmul, 1) := by decide +kernel
theorem dX2_inverse_52 : decode cX2_inverse 52 = .ok (.lsub, 1) := by decide +kernel
theorem dX2_inverse_53 : decode cX2_inverse 53 = .ok (.lstore 15, 2) := by decide +kernel
theorem dX2_inverse_55 : decode cX2_inverse 55 = .ok (.lload 6, 2) := by decide +kernel
theorem dX2_inverse_57 : decode cX2_inverse 57 = .ok (.lstore_n 2, 1) := by decide +kernel
theorem dX2_inverse_58 : decode cX2_inverse 58 = .ok (.lload 8, 2) := by decide +kernel
theorem dX2_inverse_60 : decode cX2_inverse 60 = .ok (.lstore 4, 2) := by decide +kernel
theorem dX2_inverse_62 : decode cX2_inverse 62 = .ok (.lload 13, 2) := by decide +kernel
theorem dX2_inverse_64 : decode cX2_inverse 64 = .ok (.lstore 6, 2) := by decide +kernel
theorem dX2_inverse_66 : decode cX2_inverse 66 = .ok (.lload 15, 2) := by decide +kernel
theorem dX2_inverse_68 : decode cX2_inverse 68 = .ok (.lstore 8, 2) := by decide +kernel
theorem dX2_inverse_70 : decode cX2_inverse 70 = .ok (.iinc 10 1, 3) := by decide +kernel
theorem dX2_inverse_73 : decode cX2_inverse 73 = .ok (.goto (-57), 3) := by decide +kernel
theorem dX2_inverse_76 : decode cX2_inverse 76 = .ok (.lload 4, 2) := by decide +kernel
theorem dX2_inverse_78 : decode cX2_inverse 78 = .ok (.invokestatic 25, 3) := by decide +kernel
theorem dX2_inverse_81 : decode cX2_inverse 81 = .ok (.lreturn, 1) := by decide +kernel
theorem dX3_init_0 : decode cX3_init 0 = .ok (.aload_n 0, 1) := by decide +kernel
theorem dX3_init_1 : decode cX3_init 1 = .ok (.invokespecial 3, 3) := by decide +kernel
theorem dX3_init_4 : decode cX3_init 4 = .ok (.aload_n 0, 1) := by decide +kernel
theorem dX3_init_5 : decode cX3_init 5 = .ok (.bipush 17, 2) := by decide +kernel
theorem dX3_init_7 : decode cX3_init 7 = .ok (.newarray .long, 2) := by decide +kernel
theorem dX3_init_9 : decode cX3_init 9 = .ok (.putfield 9, 3) := by decide +kernel
theorem dX3_init_12 : decode cX3_init 12 = .ok (.aload_n 0, 1) := by decide +kernel
theorem dX3_init_13 : decode cX3_init 13 = .ok (.bipush 17, 2) := by decide +kernel
theorem dX3_init_15 : decode cX3_init 15 = .ok (.newarray .boolean, 2) := by decide +kernel
theorem dX3_init_17 : decode cX3_init 17 = .ok (.putfield 15, 3) := by decide +kernel
theorem dX3_init_20 : decode cX3_init 20 = .ok (.aload_n 0, 1) := by decide +kernel
theorem dX3_init_21 : decode cX3_init 21 = .ok (.iconst 0, 1) := by decide +kernel
theorem dX3_init_22 : decode cX3_init 22 = .ok (.putfield 19, 3) := by decide +kernel
theorem dX3_init_25 : decode cX3_init 25 = .ok (.aload_n 0, 1) := by decide +kernel
theorem dX3_init_26 : decode cX3_init 26 = .ok (.iconst 0, 1) := by decide +kernel
theorem dX3_init_27 : decode cX3_init 27 = .ok (.putfield 23, 3) := by decide +kernel
theorem dX3_init_30 : decode cX3_init 30 = .ok (.return_, 1) := by decide +kernel
theorem dX3_shape_0 : decode cX3_shape 0 = .ok (.aload_n 0, 1) := by decide +kernel
theorem dX3_shape_1 : decode cX3_shape 1 = .ok (.iload_n 1, 1) := by decide +kernel
theorem dX3_shape_2 : decode cX3_shape 2 = .ok (.putfield 19, 3) := by decide +kernel
theorem dX3_shape_5 : decode cX3_shape 5 = .ok (.aload_n 0, 1) := by decide +kernel
theorem dX3_shape_6 : decode cX3_shape 6 = .ok (.iload_n 2, 1) := by decide +kernel
theorem dX3_shape_7 : decode cX3_shape 7 = .ok (.putfield 23, 3) := by decide +kernel
theorem dX3_shape_10 : decode cX3_shape 10 = .ok (.return_, 1) := by decide +kernel
theorem dX3_hasPlace_0 : decode cX3_hasPlace 0 = .ok (.iload_n 1, 1) := by decide +kernel
theorem dX3_hasPlace_1 : decode cX3_hasPlace 1 = .ok (.iconst 1, 1) := by decide +kernel
theorem dX3_hasPlace_2 : decode cX3_hasPlace 2 = .ok (.if_icmp .lt 15, 3) := by decide +kernel
theorem dX3_hasPlace_5 : decode cX3_hasPlace 5 = .ok (.iload_n 1, 1) := by decide +kernel
theorem dX3_hasPlace_6 : decode cX3_hasPlace 6 = .ok (.aload_n 0, 1) := by decide +kernel
theorem dX3_hasPlace_7 : decode cX3_hasPlace 7 = .ok (.getfield 23, 3) := by decide +kernel
theorem dX3_hasPlace_10 : decode cX3_hasPlace 10 = .ok (.if_icmp .gt 7, 3) := by decide +kernel
theorem dX3_hasPlace_13 : decode cX3_hasPlace 13 = .ok (.iconst 1, 1) := by decide +kernel
theorem dX3_hasPlace_14 : decode cX3_hasPlace 14 = .ok (.goto 4, 3) := by decide +kernel
theorem dX3_hasPlace_17 : decode cX3_hasPlace 17 = .ok (.iconst 0, 1) := by decide +kernel
theorem dX3_hasPlace_18 : decode cX3_hasPlace 18 = .ok (.ireturn, 1) := by decide +kernel
theorem dX3_hasShare_0 : decode cX3_hasShare 0 = .ok (.aload_n 0, 1) := by decide +kernel
theorem dX3_hasShare_1 : decode cX3_hasShare 1 = .ok (.iload_n 1, 1) := by decide +kernel
theorem dX3_hasShare_2 : decode cX3_hasShare 2 = .ok (.invokevirtual 26, 3) := by decide +kernel
theorem dX3_hasShare_5 : decode cX3_hasShare 5 = .ok (.ifCond .eq 16, 3) := by decide +kernel
theorem dX3_hasShare_8 : decode cX3_hasShare 8 = .ok (.aload_n 0, 1) := by decide +kernel
theorem dX3_hasShare_9 : decode cX3_hasShare 9 = .ok (.getfield 15, 3) := by decide +kernel
theorem dX3_hasShare_12 : decode cX3_hasShare 12 = .ok (.iload_n 1, 1) := by decide +kernel
theorem dX3_hasShare_13 : decode cX3_hasShare 13 = .ok (.baload, 1) := by decide +kernel
theorem dX3_hasShare_14 : decode cX3_hasShare 14 = .ok (.ifCond .eq 7, 3) := by decide +kernel
theorem dX3_hasShare_17 : decode cX3_hasShare 17 = .ok (.iconst 1, 1) := by decide +kernel
theorem dX3_hasShare_18 : decode cX3_hasShare 18 = .ok (.goto 4, 3) := by decide +kernel
theorem dX3_hasShare_21 : decode cX3_hasShare 21 = .ok (.iconst 0, 1) := by decide +kernel
theorem dX3_hasShare_22 : decode cX3_hasShare 22 = .ok (.ireturn, 1) := by decide +kernel
theorem dX3_keep_0 : decode cX3_keep 0 = .ok (.aload_n 0, 1) := by decide +kernel
theorem dX3_keep_1 : decode cX3_keep 1 = .ok (.getfield 9, 3) := by decide +kernel
theorem dX3_keep_4 : decode cX3_keep 4 = .ok (.iload_n 1, 1) := by decide +kernel
theorem dX3_keep_5 : decode cX3_keep 5 = .ok (.lload_n 2, 1) := by decide +kernel
theorem dX3_keep_6 : decode cX3_keep 6 = .ok (.lastore, 1) := by decide +kernel
theorem dX3_keep_7 : decode cX3_keep 7 = .ok (.aload_n 0, 1) := by decide +kernel
theorem dX3_keep_8 : decode cX3_keep 8 = .ok (.getfield 15, 3) := by decide +kernel
theorem dX3_keep_11 : decode cX3_keep 11 = .ok (.iload_n 1, 1) := by decide +kernel
theorem dX3_keep_12 : decode cX3_keep 12 = .ok (.iconst 1, 1) := by decide +kernel
theorem dX3_keep_13 : decode cX3_keep 13 = .ok (.bastore, 1) := by decide +kernel
theorem dX3_keep_14 : decode cX3_keep 14 = .ok (.return_, 1) := by decide +kernel
theorem dX3_drop_0 : decode cX3_drop 0 = .ok (.aload_n 0, 1) := by decide +kernel
theorem dX3_drop_1 : decode cX3_drop 1 = .ok (.getfield 15, 3) := by decide +kernel
theorem dX3_drop_4 : decode cX3_drop 4 = .ok (.iload_n 1, 1) := by decide +kernel
theorem dX3_drop_5 : decode cX3_drop 5 = .ok (.iconst 0, 1) := by decide +kernel
theorem dX3_drop_6 : decode cX3_drop 6 = .ok (.bastore, 1) := by decide +kernel
theorem dX3_drop_7 : decode cX3_drop 7 = .ok (.return_, 1) := by decide +kernel
theorem dX3_fill_0 : decode cX3_fill 0 = .ok (.iconst 1, 1) := by decide +kernel
theorem dX3_fill_1 : decode cX3_fill 1 = .ok (.istore_n 2, 1) := by decide +kernel
theorem dX3_fill_2 : decode cX3_fill 2 = .ok (.iload_n 2, 1) := by decide +kernel
theorem dX3_fill_3 : decode cX3_fill 3 = .ok (.aload_n 0, 1) := by decide +kernel
theorem dX3_fill_4 : decode cX3_fill 4 = .ok (.getfield 23, 3) := by decide +kernel
theorem dX3_fill_7 : decode cX3_fill 7 = .ok (.if_icmp .gt 20, 3) := by decide +kernel
theorem dX3_fill_10 : decode cX3_fill 10 = .ok (.aload_n 0, 1) := by decide +kernel
theorem dX3_fill_11 : decode cX3_fill 11 = .ok (.iload_n 2, 1) := by decide +kernel
theorem dX3_fill_12 : decode cX3_fill 12 = .ok (.aload_n 1, 1) := by decide +kernel
theorem dX3_fill_13 : decode cX3_fill 13 = .ok (.iload_n 2, 1) := by decide +kernel
theorem dX3_fill_14 : decode cX3_fill 14 = .ok (.i2l, 1) := by decide +kernel
theorem dX3_fill_15 : decode cX3_fill 15 = .ok (.invokevirtual 30, 3) := by decide +kernel
theorem dX3_fill_18 : decode cX3_fill 18 = .ok (.invokevirtual 36, 3) := by decide +kernel
theorem dX3_fill_21 : decode cX3_fill 21 = .ok (.iinc 2 1, 3) := by decide +kernel
theorem dX3_fill_24 : decode cX3_fill 24 = .ok (.goto (-22), 3) := by decide +kernel
theorem dX3_fill_27 : decode cX3_fill 27 = .ok (.return_, 1) := by decide +kernel
theorem dX3_countThere_0 : decode cX3_countThere 0 = .ok (.iconst 0, 1) := by decide +kernel
theorem dX3_countThere_1 : decode cX3_countThere 1 = .ok (.istore_n 1, 1) := by decide +kernel
theorem dX3_countThere_2 : decode cX3_countThere 2 = .ok (.iconst 1, 1) := by decide +kernel
theorem dX3_countThere_3 : decode cX3_countThere 3 = .ok (.istore_n 2, 1) := by decide +kernel
theorem dX3_countThere_4 : decode cX3_countThere 4 = .ok (.iload_n 2, 1) := by decide +kernel
theorem dX3_countThere_5 : decode cX3_countThere 5 = .ok (.aload_n 0, 1) := by decide +kernel
theorem dX3_countThere_6 : decode cX3_countThere 6 = .ok (.getfield 23, 3) := by decide +kernel
theorem dX3_countThere_9 : decode cX3_countThere 9 = .ok (.if_icmp .gt 21, 3) := by decide +kernel
theorem dX3_countThere_12 : decode cX3_countThere 12 = .ok (.aload_n 0, 1) := by decide +kernel
theorem dX3_countThere_13 : decode cX3_countThere 13 = .ok (.getfield 15, 3) := by decide +kernel
theorem dX3_countThere_16 : decode cX3_countThere 16 = .ok (.iload_n 2, 1) := by decide +kernel
theorem dX3_countThere_17 : decode cX3_countThere 17 = .ok (.baload, 1) := by decide +kernel
theorem dX3_countThere_18 : decode cX3_countThere 18 = .ok (.ifCond .eq 6, 3) := by decide +kernel
theorem dX3_countThere_21 : decode cX3_countThere 21 = .ok (.iinc 1 1, 3) := by decide +kernel
theorem dX3_countThere_24 : decode cX3_countThere 24 = .ok (.iinc 2 1, 3) := by decide +kernel
theorem dX3_countThere_27 : decode cX3_countThere 27 = .ok (.goto (-23), 3) := by decide +kernel
theorem dX3_countThere_30 : decode cX3_countThere 30 = .ok (.iload_n 1, 1) := by decide +kernel
theorem dX3_countThere_31 : decode cX3_countThere 31 = .ok (.ireturn, 1) := by decide +kernel
theorem dX3_isMissedBy_0 : decode cX3_isMissedBy 0 = .ok (.aload_n 0, 1) := by decide +kernel
theorem dX3_isMissedBy_1 : decode cX3_isMissedBy 1 = .ok (.iload_n 2, 1) := by decide +kernel
theorem dX3_isMissedBy_2 : decode cX3_isMissedBy 2 = .ok (.invokevirtual 40, 3) := by decide +kernel
theorem dX3_isMissedBy_5 : decode cX3_isMissedBy 5 = .ok (.ifCond .eq 23, 3) := by decide +kernel
theorem dX3_isMissedBy_8 : decode cX3_isMissedBy 8 = .ok (.aload_n 0, 1) := by decide +kernel
theorem dX3_isMissedBy_9 : decode cX3_isMissedBy 9 = .ok (.getfield 9, 3) := by decide +kernel
theorem dX3_isMissedBy_12 : decode cX3_isMissedBy 12 = .ok (.iload_n 2, 1) := by decide +kernel
theorem dX3_isMissedBy_13 : decode cX3_isMissedBy 13 = .ok (.laload, 1) := by decide +kernel
theorem dX3_isMissedBy_14 : decode cX3_isMissedBy 14 = .ok (.aload_n 1, 1) := by decide +kernel
theorem dX3_isMissedBy_15 : decode cX3_isMissedBy 15 = .ok (.iload_n 2, 1) := by decide +kernel
theorem dX3_isMissedBy_16 : decode cX3_isMissedBy 16 = .ok (.i2l, 1) := by decide +kernel
theorem dX3_isMissedBy_17 : decode cX3_isMissedBy 17 = .ok (.invokevirtual 30, 3) := by decide +kernel
theorem dX3_isMissedBy_20 : decode cX3_isMissedBy 20 = .ok (.lcmp, 1) := by decide +kernel
theorem dX3_isMissedBy_21 : decode cX3_isMissedBy 21 = .ok (.ifCond .eq 7, 3) := by decide +kernel
theorem dX3_isMissedBy_24 : decode cX3_isMissedBy 24 = .ok (.iconst 1, 1) := by decide +kernel
theorem dX3_isMissedBy_25 : decode cX3_isMissedBy 25 = .ok (.goto 4, 3) := by decide +kernel
theorem dX3_isMissedBy_28 : decode cX3_isMissedBy 28 = .ok (.iconst 0, 1) := by decide +kernel
theorem dX3_isMissedBy_29 : decode cX3_isMissedBy 29 = .ok (.ireturn, 1) := by decide +kernel
theorem dX3_countMissedBy_0 : decode cX3_countMissedBy 0 = .ok (.iconst 0, 1) := by decide +kernel
theorem dX3_countMissedBy_1 : decode cX3_countMissedBy 1 = .ok (.istore_n 2, 1) := by decide +kernel
theorem dX3_countMissedBy_2 : decode cX3_countMissedBy 2 = .ok (.iconst 1, 1) := by decide +kernel
theorem dX3_countMissedBy_3 : decode cX3_countMissedBy 3 = .ok (.istore_n 3, 1) := by decide +kernel
theorem dX3_countMissedBy_4 : decode cX3_countMissedBy 4 = .ok (.iload_n 3, 1) := by decide +kernel
theorem dX3_countMissedBy_5 : decode cX3_countMissedBy 5 = .ok (.aload_n 0, 1) := by decide +kernel
theorem dX3_countMissedBy_6 : decode cX3_countMissedBy 6 = .ok (.getfield 23, 3) := by decide +kernel
theorem dX3_countMissedBy_9 : decode cX3_countMissedBy 9 = .ok (.if_icmp .gt 21, 3) := by decide +kernel
theorem dX3_countMissedBy_12 : decode cX3_countMissedBy 12 = .ok (.aload_n 0, 1) := by decide +kernel
theorem dX3_countMissedBy_13 : decode cX3_countMissedBy 13 = .ok (.aload_n 1, 1) := by decide +kernel
theorem dX3_countMissedBy_14 : decode cX3_countMissedBy 14 = .ok (.iload_n 3, 1) := by decide +kernel
theorem dX3_countMissedBy_15 : decode cX3_countMissedBy 15 = .ok (.invokevirtual 43, 3) := by decide +kernel
theorem dX3_countMissedBy_18 : decode cX3_countMissedBy 18 = .ok (.ifCond .eq 6, 3) := by decide +kernel
theorem dX3_countMissedBy_21 : decode cX3_countMissedBy 21 = .ok (.iinc 2 1, 3) := by decide +kernel
theorem dX3_countMissedBy_24 : decode cX3_countMissedBy 24 = .ok (.iinc 3 1, 3) := by decide +kernel
theorem dX3_countMissedBy_27 : decode cX3_countMissedBy 27 = .ok (.goto (-23), 3) := by decide +kernel
theorem dX3_countMissedBy_30 : decode cX3_countMissedBy 30 = .ok (.iload_n 2, 1) := by decide +kernel
theorem dX3_countMissedBy_31 : decode cX3_countMissedBy 31 = .ok (.ireturn, 1) := by decide +kernel
theorem dX4_init_0 : decode cX4_init 0 = .ok (.aload_n 0, 1) := by decide +kernel
theorem dX4_init_1 : decode cX4_init 1 = .ok (.invokespecial 1, 3) := by decide +kernel
theorem dX4_init_4 : decode cX4_init 4 = .ok (.aload_n 0, 1) := by decide +kernel
theorem dX4_init_5 : decode cX4_init 5 = .ok (.bipush 8, 2) := by decide +kernel
theorem dX4_init_7 : decode cX4_init 7 = .ok (.anewarray 9, 3) := by decide +kernel
theorem dX4_init_10 : decode cX4_init 10 = .ok (.putfield 11, 3) := by decide +kernel
theorem dX4_init_13 : decode cX4_init 13 = .ok (.aload_n 0, 1) := by decide +kernel
theorem dX4_init_14 : decode cX4_init 14 = .ok (.new 15, 3) := by decide +kernel
theorem dX4_init_17 : decode cX4_init 17 = .ok (.dup, 1) := by decide +kernel
theorem dX4_init_18 : decode cX4_init 18 = .ok (.invokespecial 17, 3) := by decide +kernel
theorem dX4_init_21 : decode cX4_init 21 = .ok (.putfield 18, 3) := by decide +kernel
theorem dX4_init_24 : decode cX4_init 24 = .ok (.aload_n 0, 1) := by decide +kernel
theorem dX4_init_25 : decode cX4_init 25 = .ok (.new 22, 3) := by decide +kernel
theorem dX4_init_28 : decode cX4_init 28 = .ok (.dup, 1) := by decide +kernel
theorem dX4_init_29 : decode cX4_init 29 = .ok (.invokespecial 24, 3) := by decide +kernel
theorem dX4_init_32 : decode cX4_init 32 = .ok (.putfield 25, 3) := by decide +kernel
theorem dX4_init_35 : decode cX4_init 35 = .ok (.aload_n 0, 1) := by decide +kernel
theorem dX4_init_36 : decode cX4_init 36 = .ok (.new 15, 3) := by decide +kernel
theorem dX4_init_39 : decode cX4_init 39 = .ok (.dup, 1) := by decide +kernel
theorem dX4_init_40 : decode cX4_init 40 = .ok (.invokespecial 17, 3) := by decide +kernel
theorem dX4_init_43 : decode cX4_init 43 = .ok (.putfield 29, 3) := by decide +kernel
theorem dX4_init_46 : decode cX4_init 46 = .ok (.aload_n 0, 1) := by decide +kernel
theorem dX4_init_47 : decode cX4_init 47 = .ok (.bipush 17, 2) := by decide +kernel
theorem dX4_init_49 : decode cX4_init 49 = .ok (.newarray .boolean, 2) := by decide +kernel
theorem dX4_init_51 : decode cX4_init 51 = .ok (.putfield 32, 3) := by decide +kernel
theorem dX4_init_54 : decode cX4_init 54 = .ok (.aload_n 0, 1) := by decide +kernel
theorem dX4_init_55 : decode cX4_init 55 = .ok (.iconst (-1), 1) := by decide +kernel
theorem dX4_init_56 : decode cX4_init 56 = .ok (.putfield 36, 3) := by decide +kernel
theorem dX4_init_59 : decode cX4_init 59 = .ok (.iconst 0, 1) := by decide +kernel
theorem dX4_init_60 : decode cX4_init 60 = .ok (.istore_n 1, 1) := by decide +kernel
theorem dX4_init_61 : decode cX4_init 61 = .ok (.iload_n 1, 1) := by decide +kernel
theorem dX4_init_62 : decode cX4_init 62 = .ok (.bipush 8, 2) := by decide +kernel
theorem dX4_init_64 : decode cX4_init 64 = .ok (.if_icmp .ge 22, 3) := by decide +kernel
theorem dX4_init_67 : decode cX4_init 67 = .ok (.aload_n 0, 1) := by decide +kernel
theorem dX4_init_68 : decode cX4_init 68 = .ok (.getfield 11, 3) := by decide +kernel
theorem dX4_init_71 : decode cX4_init 71 = .ok (.iload_n 1, 1) := by decide +kernel
theorem dX4_init_72 : decode cX4_init 72 = .ok (.new 9, 3) := by decide +kernel
theorem dX4_init_75 : decode cX4_init 75 = .ok (.dup, 1) := by decide +kernel
theorem dX4_init_76 : decode cX4_init 76 = .ok (.invokespecial 40, 3) := by decide +kernel
theorem dX4_init_79 : decode cX4_init 79 = .ok (.aastore, 1) := by decide +kernel
theorem dX4_init_80 : decode cX4_init 80 = .ok (.iinc 1 1, 3) := by decide +kernel
theorem dX4_init_83 : decode cX4_init 83 = .ok (.goto (-22), 3) := by decide +kernel
theorem dX4_init_86 : decode cX4_init 86 = .ok (.return_, 1) := by decide +kernel
theorem dX4_deal_0 : decode cX4_deal 0 = .ok (.aload_n 0, 1) := by decide +kernel
theorem dX4_deal_1 : decode cX4_deal 1 = .ok (.iload_n 1, 1) := by decide +kernel
theorem dX4_deal_2 : decode cX4_deal 2 = .ok (.invokevirtual 41, 3) := by decide +kernel
theorem dX4_deal_5 : decode cX4_deal 5 = .ok (.astore 8, 2) := by decide +kernel
theorem dX4_deal_7 : decode cX4_deal 7 = .ok (.aload 8, 2) := by decide +kernel
theorem dX4_deal_9 : decode cX4_deal 9 = .ok (.ifnull 26, 3) := by decide +kernel
theorem dX4_deal_12 : decode cX4_deal 12 = .ok (.iload_n 2, 1) := by decide +kernel
theorem dX4_deal_13 : decode cX4_deal 13 = .ok (.ifCond .lt 22, 3) := by decide +kernel
theorem dX4_deal_16 : decode cX4_deal 16 = .ok (.iload_n 2, 1) := by decide +kernel
theorem dX4_deal_17 : decode cX4_deal 17 = .ok (.bipush 8, 2) := by decide +kernel
theorem dX4_deal_19 : decode cX4_deal 19 = .ok (.if_icmp .gt 16, 3) := by decide +kernel
theorem dX4_deal_22 : decode cX4_deal 22 = .ok (.iload_n 3, 1) := by decide +kernel
theorem dX4_deal_23 : decode cX4_deal 23 = .ok (.iload_n 2, 1) := by decide +kernel
theorem dX4_deal_24 : decode cX4_deal 24 = .ok (.iconst 1, 1) := by decide +kernel
theorem dX4_deal_25 : decode cX4_deal 25 = .ok (.iadd, 1) := by decide +kernel
theorem dX4_deal_26 : decode cX4_deal 26 = .ok (.if_icmp .lt 9, 3) := by decide +kernel
theorem dX4_deal_29 : decode cX4_deal 29 = .ok (.iload_n 3, 1) := by decide +kernel
theorem dX4_deal_30 : decode cX4_deal 30 = .ok (.bipush 16, 2) := by decide +kernel
theorem dX4_deal_32 : decode cX4_deal 32 = .ok (.if_icmp .le 5, 3) := by decide +kernel
theorem dX4_deal_35 : decode cX4_deal 35 = .ok (.iconst 0, 1) := by decide +kernel
theorem dX4_deal_36 : decode cX4_deal 36 = .ok (.ireturn, 1) := by decide +kernel
theorem dX4_deal_37 : decode cX4_deal 37 = .ok (.aload_n 0, 1) := by decide +kernel
theorem dX4_deal_38 : decode cX4_deal 38 = .ok (.getfield 18, 3) := by decide +kernel
theorem dX4_deal_41 : decode cX4_deal 41 = .ok (.lload 4, 2) := by decide +kernel
theorem dX4_deal_43 : decode cX4_deal 43 = .ok (.invokestatic 45, 3) := by decide +kernel
theorem dX4_deal_46 : decode cX4_deal 46 = .ok (.iload_n 2, 1) := by decide +kernel
theorem dX4_deal_47 : decode cX4_deal 47 = .ok (.lload 6, 2) := by decide +kernel
theorem dX4_deal_49 : decode cX4_deal 49 = .ok (.invokevirtual 51, 3) := by decide +kernel
theorem dX4_deal_52 : decode cX4_deal 52 = .ok (.aload 8, 2) := by decide +kernel
theorem dX4_deal_54 : decode cX4_deal 54 = .ok (.iload_n 2, 1) := by decide +kernel
theorem dX4_deal_55 : decode cX4_deal 55 = .ok (.iload_n 3, 1) := by decide +kernel
theorem dX4_deal_56 : decode cX4_deal 56 = .ok (.invokevirtual 55, 3) := by decide +kernel
theorem dX4_deal_59 : decode cX4_deal 59 = .ok (.aload 8, 2) := by decide +kernel
theorem dX4_deal_61 : decode cX4_deal 61 = .ok (.aload_n 0, 1) := by decide +kernel
theorem dX4_deal_62 : decode cX4_deal 62 = .ok (.getfield 18, 3) := by decide +kernel
theorem dX4_deal_65 : decode cX4_deal 65 = .ok (.invokevirtual 59, 3) := by decide +kernel
theorem dX4_deal_68 : decode cX4_deal 68 = .ok (.iconst 1, 1) := by decide +kernel
theorem dX4_deal_69 : decode cX4_deal 69 = .ok (.ireturn, 1) := by decide +kernel
theorem dX4_put_0 : decode cX4_put 0 = .ok (.aload_n 0, 1) := by decide +kernel
theorem dX4_put_1 : decode cX4_put 1 = .ok (.iload_n 1, 1) := by decide +kernel
theorem dX4_put_2 : decode cX4_put 2 = .ok (.invokevirtual 41, 3) := by decide +kernel
theorem dX4_put_5 : decode cX4_put 5 = .ok (.astore 5, 2) := by decide +kernel
theorem dX4_put_7 : decode cX4_put 7 = .ok (.aload 5, 2) := by decide +kernel
theorem dX4_put_9 : decode cX4_put 9 = .ok (.ifnull 12, 3) := by decide +kernel
theorem dX4_put_12 : decode cX4_put 12 = .ok (.aload 5, 2) := by decide +kernel
theorem dX4_put_14 : decode cX4_put 14 = .ok (.iload_n 2, 1) := by decide +kernel
theorem dX4_put_15 : decode cX4_put 15 = .ok (.invokevirtual 63, 3) := by decide +kernel
theorem dX4_put_18 : decode cX4_put 18 = .ok (.ifCond .ne 5, 3) := by decide +kernel
theorem dX4_put_21 : decode cX4_put 21 = .ok (.iconst 0, 1) := by decide +kernel
theorem dX4_put_22 : decode cX4_put 22 = .ok (.ireturn, 1) := by decide +kernel
theorem dX4_put_23 : decode cX4_put 23 = .ok (.aload 5, 2) := by decide +kernel
theorem dX4_put_25 : decode cX4_put 25 = .ok (.iload_n 2, 1) := by decide +kernel
theorem dX4_put_26 : decode cX4_put 26 = .ok (.lload_n 3, 1) := by decide +kernel
theorem dX4_put_27 : decode cX4_put 27 = .ok (.invokestatic 45, 3) := by decide +kernel
theorem dX4_put_30 : decode cX4_put 30 = .ok (.invokevirtual 67, 3) := by decide +kernel
theorem dX4_put_33 : decode cX4_put 33 = .ok (.iconst 1, 1) := by decide +kernel
theorem dX4_put_34 : decode cX4_put 34 = .ok (.ireturn, 1) := by decide +kernel
theorem dX4_lose_0 : decode cX4_lose 0 = .ok (.aload_n 0, 1) := by decide +kernel
theorem dX4_lose_1 : decode cX4_lose 1 = .ok (.iload_n 1, 1) := by decide +kernel
theorem dX4_lose_2 : decode cX4_lose 2 = .ok (.invokevirtual 41, 3) := by decide +kernel
theorem dX4_lose_5 : decode cX4_lose 5 = .ok (.astore_n 3, 1) := by decide +kernel
theorem dX4_lose_6 : decode cX4_lose 6 = .ok (.aload_n 3, 1) := by decide +kernel
theorem dX4_lose_7 : decode cX4_lose 7 = .ok (.ifnull 11, 3) := by decide +kernel
theorem dX4_lose_10 : decode cX4_lose 10 = .ok (.aload_n 3, 1) := by decide +kernel
theorem dX4_lose_11 : decode cX4_lose 11 = .ok (.iload_n 2, 1) := by decide +kernel
theorem dX4_lose_12 : decode cX4_lose 12 = .ok (.invokevirtual 71, 3) := by decide +kernel
theorem dX4_lose_15 : decode cX4_lose 15 = .ok (.ifCond .ne 5, 3) := by decide +kernel
theorem dX4_lose_18 : decode cX4_lose 18 = .ok (.iconst 0, 1) := by decide +kernel
theorem dX4_lose_19 : decode cX4_lose 19 = .ok (.ireturn, 1) := by decide +kernel
theorem dX4_lose_20 : decode cX4_lose 20 = .ok (.aload_n 3, 1) := by decide +kernel
theorem dX4_lose_21 : decode cX4_lose 21 = .ok (.iload_n 2, 1) := by decide +kernel
theorem dX4_lose_22 : decode cX4_lose 22 = .ok (.invokevirtual 74, 3) := by decide +kernel
theorem dX4_lose_25 : decode cX4_lose 25 = .ok (.iconst 1, 1) := by decide +kernel
theorem dX4_lose_26 : decode cX4_lose 26 = .ok (.ireturn, 1) := by decide +kernel
theorem dX4_join_0 : decode cX4_join 0 = .ok (.aload_n 0, 1) := by decide +kernel
theorem dX4_join_1 : decode cX4_join 1 = .ok (.iload_n 1, 1) := by decide +kernel
theorem dX4_join_2 : decode cX4_join 2 = .ok (.invokevirtual 41, 3) := by decide +kernel
theorem dX4_join_5 : decode cX4_join 5 = .ok (.astore 5, 2) := by decide +kernel
theorem dX4_join_7 : decode cX4_join 7 = .ok (.aload_n 0, 1) := by decide +kernel
theorem dX4_join_8 : decode cX4_join 8 = .ok (.iload_n 2, 1) := by decide +kernel
theorem dX4_join_9 : decode cX4_join 9 = .ok (.invokevirtual 41, 3) := by decide +kernel
theorem dX4_join_12 : decode cX4_join 12 = .ok (.astore 6, 2) := by decide +kernel
theorem dX4_join_14 : decode cX4_join 14 = .ok (.aload_n 0, 1) := by decide +kernel
theorem dX4_join_15 : decode cX4_join 15 = .ok (.iload_n 3, 1) := by decide +kernel
theorem dX4_join_16 : decode cX4_join 16 = .ok (.invokevirtual 41, 3) := by decide +kernel
theorem dX4_join_19 : decode cX4_join 19 = .ok (.astore 7, 2) := by decide +kernel
theorem dX4_join_21 : decode cX4_join 21 = .ok (.aload 5, 2) := by decide +kernel
theorem dX4_join_23 : decode cX4_join 23 = .ok (.ifnull 24, 3) := by decide +kernel
theorem dX4_join_26 : decode cX4_join 26 = .ok (.aload 6, 2) := by decide +kernel
theorem dX4_join_28 : decode cX4_join 28 = .ok (.ifnull 19, 3) := by decide +kernel
theorem dX4_join_31 : decode cX4_join 31 = .ok (.aload 7, 2) := by decide +kernel
theorem dX4_join_33 : decode cX4_join 33 = .ok (.ifnull 14, 3) := by decide +kernel
theorem dX4_join_36 : decode cX4_join 36 = .ok (.iload 4, 2) := by decide +kernel
theorem dX4_join_38 : decode cX4_join 38 = .ok (.ifCond .lt 9, 3) := by decide +kernel
theorem dX4_join_41 : decode cX4_join 41 = .ok (.iload 4, 2) := by decide +kernel
theorem dX4_join_43 : decode cX4_join 43 = .ok (.iconst 2, 1) := by decide +kernel
theorem dX4_join_44 : decode cX4_join 44 = .ok (.if_icmp .le 5, 3) := by decide +kernel
theorem dX4_join_47 : decode cX4_join 47 = .ok (.iconst 0, 1) := by decide +kernel
theorem dX4_join_48 : decode cX4_join 48 = .ok (.ireturn, 1) := by decide +kernel
theorem dX4_join_49 : decode cX4_join 49 = .ok (.iload 4, 2) := by decide +kernel
theorem dX4_join_51 : decode cX4_join 51 = .ok (.iconst 2, 1) := by decide +kernel
theorem dX4_join_52 : decode cX4_join 52 = .ok (.if_icmp .ne 17, 3) := by decide +kernel
theorem dX4_join_55 : decode cX4_join 55 = .ok (.aload 6, 2) := by decide +kernel
theorem dX4_join_57 : decode cX4_join 57 = .ok (.getfield 78, 3) := by decide +kernel
theorem dX4_join_60 : decode cX4_join 60 = .ok (.aload 7, 2) := by decide +kernel
theorem dX4_join_62 : decode cX4_join 62 = .ok (.getfield 78, 3) := by decide +kernel
theorem dX4_join_65 : decode cX4_join 65 = .ok (.iadd, 1) := by decide +kernel
theorem dX4_join_66 : decode cX4_join 66 = .ok (.goto 16, 3) := by decide +kernel
theorem dX4_join_69 : decode cX4_join 69 = .ok (.aload 6, 2) := by decide +kernel
theorem dX4_join_71 : decode cX4_join 71 = .ok (.getfield 78, 3) := by decide +kernel
theorem dX4_join_74 : decode cX4_join 74 = .ok (.aload 7, 2) := by decide +kernel
theorem dX4_join_76 : decode cX4_join 76 = .ok (.getfield 78, 3) := by decide +kernel
theorem dX4_join_79 : decode cX4_join 79 = .ok (.invokestatic 81, 3) := by decide +kernel
theorem dX4_join_82 : decode cX4_join 82 = .ok (.istore 8, 2) := by decide +kernel
theorem dX4_join_84 : decode cX4_join 84 = .ok (.iload 8, 2) := by decide +kernel
theorem dX4_join_86 : decode cX4_join 86 = .ok (.bipush 8, 2) := by decide +kernel
theorem dX4_join_88 : decode cX4_join 88 = .ok (.if_icmp .le 5, 3) := by decide +kernel
theorem dX4_join_91 : decode cX4_join 91 = .ok (.iconst 0, 1) := by decide +kernel
theorem dX4_join_92 : decode cX4_join 92 = .ok (.ireturn, 1) := by decide +kernel
theorem dX4_join_93 : decode cX4_join 93 = .ok (.aload 6, 2) := by decide +kernel
theorem dX4_join_95 : decode cX4_join 95 = .ok (.getfield 87, 3) := by decide +kernel
theorem dX4_join_98 : decode cX4_join 98 = .ok (.aload 7, 2) := by decide +kernel
theorem dX4_join_100 : decode cX4_join 100 = .ok (.getfield 87, 3) := by decide +kernel
theorem dX4_join_103 : decode cX4_join 103 = .ok (.invokestatic 90, 3) := by decide +kernel
theorem dX4_join_106 : decode cX4_join 106 = .ok (.istore 9, 2) := by decide +kernel
theorem dX4_join_108 : decode cX4_join 108 = .ok (.iconst 1, 1) := by decide +kernel
theorem dX4_join_109 : decode cX4_join 109 = .ok (.istore 10, 2) := by decide +kernel
theorem dX4_join_111 : decode cX4_join 111 = .ok (.iload 10, 2) := by decide +kernel
theorem dX4_join_113 : decode cX4_join 113 = .ok (.iload 9, 2) := by decide +kernel
theorem dX4_join_115 : decode cX4_join 115 = .ok (.if_icmp .gt 67, 3) := by decide +kernel
theorem dX4_join_118 : decode cX4_join 118 = .ok (.aload 6, 2) := by decide +kernel
theorem dX4_join_120 : decode cX4_join 120 = .ok (.iload 10, 2) := by decide +kernel
theorem dX4_join_122 : decode cX4_join 122 = .ok (.invokevirtual 71, 3) := by decide +kernel
theorem dX4_join_125 : decode cX4_join 125 = .ok (.ifCond .eq 44, 3) := by decide +kernel
theorem dX4_join_128 : decode cX4_join 128 = .ok (.aload 7, 2) := by decide +kernel
theorem dX4_join_130 : decode cX4_join 130 = .ok (.iload 10, 2) := by decide +kernel
theorem dX4_join_132 : decode cX4_join 132 = .ok (.invokevirtual 71, 3) := by decide +kernel
theorem dX4_join_135 : decode cX4_join 135 = .ok (.ifCond .eq 34, 3) := by decide +kernel
theorem dX4_join_138 : decode cX4_join 138 = .ok (.aload 5, 2) := by decide +kernel
theorem dX4_join_140 : decode cX4_join 140 = .ok (.iload 10, 2) := by decide +kernel
theorem dX4_join_142 : decode cX4_join 142 = .ok (.aload 6, 2) := by decide +kernel
theorem dX4_join_144 : decode cX4_join 144 = .ok (.getfield 93, 3) := by decide +kernel
theorem dX4_join_147 : decode cX4_join 147 = .ok (.iload 10, 2) := by decide +kernel
theorem dX4_join_149 : decode cX4_join 149 = .ok (.laload, 1) := by decide +kernel
theorem dX4_join_150 : decode cX4_join 150 = .ok (.aload 7, 2) := by decide +kernel
theorem dX4_join_152 : decode cX4_join 152 = .ok (.getfield 93, 3) := by decide +kernel
theorem dX4_join_155 : decode cX4_join 155 = .ok (.iload 10, 2) := by decide +kernel
theorem dX4_join_157 : decode cX4_join 157 = .ok (.laload, 1) := by decide +kernel
theorem dX4_join_158 : decode cX4_join 158 = .ok (.iload 4, 2) := by decide +kernel
theorem dX4_join_160 : decode cX4_join 160 = .ok (.invokestatic 97, 3) := by decide +kernel
theorem dX4_join_163 : decode cX4_join 163 = .ok (.invokevirtual 67, 3) := by decide +kernel
theorem dX4_join_166 : decode cX4_join 166 = .ok (.goto 10, 3) := by decide +kernel
theorem dX4_join_169 : decode cX4_join 169 = .ok (.aload 5, 2) := by decide +kernel
theorem dX4_join_171 : decode cX4_join 171 = .ok (.iload 10, 2) := by decide +kernel
theorem dX4_join_173 : decode cX4_join 173 = .ok (.invokevirtual 74, 3) := by decide +kernel
theorem dX4_join_176 : decode cX4_join 176 = .ok (.iinc 10 1, 3) := by decide +kernel
theorem dX4_join_179 : decode cX4_join 179 = .ok (.goto (-68), 3) := by decide +kernel
theorem dX4_join_182 : decode cX4_join 182 = .ok (.aload 5, 2) := by decide +kernel
theorem dX4_join_184 : decode cX4_join 184 = .ok (.iload 8, 2) := by decide +kernel
theorem dX4_join_186 : decode cX4_join 186 = .ok (.iload 9, 2) := by decide +kernel
theorem dX4_join_188 : decode cX4_join 188 = .ok (.invokevirtual 55, 3) := by decide +kernel
theorem dX4_join_191 : decode cX4_join 191 = .ok (.iconst 1, 1) := by decide +kernel
theorem dX4_join_192 : decode cX4_join 192 = .ok (.ireturn, 1) := by decide +kernel
theorem dX4_scale_0 : decode cX4_scale 0 = .ok (.aload_n 0, 1) := by decide +kernel
theorem dX4_scale_1 : decode cX4_scale 1 = .ok (.iload_n 1, 1) := by decide +kernel
theorem dX4_scale_2 : decode cX4_scale 2 = .ok (.invokevirtual 41, 3) := by decide +kernel
theorem dX4_scale_5 : decode cX4_scale 5 = .ok (.astore 6, 2) := by decide +kernel
theorem dX4_scale_7 : decode cX4_scale 7 = .ok (.aload 6, 2) := by decide +kernel
theorem dX4_scale_9 : decode cX4_scale 9 = .ok (.ifnonnull 5, 3) := by decide +kernel
theorem dX4_scale_12 : decode cX4_scale 12 = .ok (.iconst 0, 1) := by decide +kernel
theorem dX4_scale_13 : decode cX4_scale 13 = .ok (.ireturn, 1) := by decide +kernel
theorem dX4_scale_14 : decode cX4_scale 14 = .ok (.lload_n 2, 1) := by decide +kernel
theorem dX4_scale_15 : decode cX4_scale 15 = .ok (.invokestatic 45, 3) := by decide +kernel
theorem dX4_scale_18 : decode cX4_scale 18 = .ok (.lstore 7, 2) := by decide +kernel
theorem dX4_scale_20 : decode cX4_scale 20 = .ok (.lload 4, 2) := by decide +kernel
theorem dX4_scale_22 : decode cX4_scale 22 = .ok (.invokestatic 45, 3) := by decide +kernel
theorem dX4_scale_25 : decode cX4_scale 25 = .ok (.lstore 9, 2) := by decide +kernel
theorem dX4_scale_27 : decode cX4_scale 27 = .ok (.iconst 1, 1) := by decide +kernel
theorem dX4_scale_28 : decode cX4_scale 28 = .ok (.istore 11, 2) := by decide +kernel
theorem dX4_scale_30 : decode cX4_scale 30 = .ok (.iload 11, 2) := by decide +kernel
theorem dX4_scale_32 : decode cX4_scale 32 = .ok (.aload 6, 2) := by decide +kernel
theorem dX4_scale_34 : decode cX4_scale 34 = .ok (.getfield 87, 3) := by decide +kernel
theorem dX4_scale_37 : decode cX4_scale 37 = .ok (.if_icmp .gt 44, 3) := by decide +kernel
theorem dX4_scale_40 : decode cX4_scale 40 = .ok (.aload 6, 2) := by decide +kernel
theorem dX4_scale_42 : decode cX4_scale 42 = .ok (.iload 11, 2) := by decide +kernel
theorem dX4_scale_44 : decode cX4_scale 44 = .ok (.invokevirtual 71, 3) := by decide +kernel
theorem dX4_scale_47 : decode cX4_scale 47 = .ok (.ifCond .eq 28, 3) := by decide +kernel
theorem dX4_scale_50 : decode cX4_scale 50 = .ok (.aload 6, 2) := by decide +kernel
theorem dX4_scale_52 : decode cX4_scale 52 = .ok (.iload 11, 2) := by decide +kernel
theorem dX4_scale_54 : decode cX4_scale 54 = .ok (.aload 6, 2) := by decide +kernel
theorem dX4_scale_56 : decode cX4_scale 56 = .ok (.getfield 93, 3) := by decide +kernel
theorem dX4_scale_59 : decode cX4_scale 59 = .ok (.iload 11, 2) := by decide +kernel
theorem dX4_scale_61 : decode cX4_scale 61 = .ok (.laload, 1) := by decide +kernel
theorem dX4_scale_62 : decode cX4_scale 62 = .ok (.lload 7, 2) := by decide +kernel
theorem dX4_scale_64 : decode cX4_scale 64 = .ok (.invokestatic 101, 3) := by decide +kernel
theorem dX4_scale_67 : decode cX4_scale 67 = .ok (.lload 9, 2) := by decide +kernel
theorem dX4_scale_69 : decode cX4_scale 69 = .ok (.invokestatic 105, 3) := by decide +kernel
theorem dX4_scale_72 : decode cX4_scale 72 = .ok (.invokevirtual 67, 3) := by decide +kernel
theorem dX4_scale_75 : decode cX4_scale 75 = .ok (.iinc 11 1, 3) := by decide +kernel
theorem dX4_scale_78 : decode cX4_scale 78 = .ok (.goto (-48), 3) := by decide +kernel
theorem dX4_scale_81 : decode cX4_scale 81 = .ok (.iconst 1, 1) := by decide +kernel
theorem dX4_scale_82 : decode cX4_scale 82 = .ok (.ireturn, 1) := by decide +kernel
theorem dX4_renew_0 : decode cX4_renew 0 = .ok (.aload_n 0, 1) := by decide +kernel
theorem dX4_renew_1 : decode cX4_renew 1 = .ok (.iload_n 1, 1) := by decide +kernel
theorem dX4_renew_2 : decode cX4_renew 2 = .ok (.invokevirtual 41, 3) := by decide +kernel
theorem dX4_renew_5 : decode cX4_renew 5 = .ok (.astore 4, 2) := by decide +kernel
theorem dX4_renew_7 : decode cX4_renew 7 = .ok (.aload 4, 2) := by decide +kernel
theorem dX4_renew_9 : decode cX4_renew 9 = .ok (.ifnonnull 5, 3) := by decide +kernel
theorem dX4_renew_12 : decode cX4_renew 12 = .ok (.iconst 0, 1) := by decide +kernel
theorem dX4_renew_13 : decode cX4_renew 13 = .ok (.ireturn, 1) := by decide +kernel
theorem dX4_renew_14 : decode cX4_renew 14 = .ok (.aload_n 0, 1) := by decide +kernel
theorem dX4_renew_15 : decode cX4_renew 15 = .ok (.getfield 18, 3) := by decide +kernel
theorem dX4_renew_18 : decode cX4_renew 18 = .ok (.lconst 0, 1) := by decide +kernel
theorem dX4_renew_19 : decode cX4_renew 19 = .ok (.aload 4, 2) := by decide +kernel
theorem dX4_renew_21 : decode cX4_renew 21 = .ok (.getfield 78, 3) := by decide +kernel
theorem dX4_renew_24 : decode cX4_renew 24 = .ok (.lload_n 2, 1) := by decide +kernel
theorem dX4_renew_25 : decode cX4_renew 25 = .ok (.invokevirtual 51, 3) := by decide +kernel
theorem dX4_renew_28 : decode cX4_renew 28 = .ok (.iconst 1, 1) := by decide +kernel
theorem dX4_renew_29 : decode cX4_renew 29 = .ok (.istore 5, 2) := by decide +kernel
theorem dX4_renew_31 : decode cX4_renew 31 = .ok (.iload 5, 2) := by decide +kernel
theorem dX4_renew_33 : decode cX4_renew 33 = .ok (.aload 4, 2) := by decide +kernel
theorem dX4_renew_35 : decode cX4_renew 35 = .ok (.getfield 87, 3) := by decide +kernel
theorem dX4_renew_38 : decode cX4_renew 38 = .ok (.if_icmp .gt 47, 3) := by decide +kernel
theorem dX4_renew_41 : decode cX4_renew 41 = .ok (.aload 4, 2) := by decide +kernel
theorem dX4_renew_43 : decode cX4_renew 43 = .ok (.iload 5, 2) := by decide +kernel
theorem dX4_renew_45 : decode cX4_renew 45 = .ok (.invokevirtual 71, 3) := by decide +kernel
theorem dX4_renew_48 : decode cX4_renew 48 = .ok (.ifCond .eq 31, 3) := by decide +kernel
theorem dX4_renew_51 : decode cX4_renew 51 = .ok (.aload 4, 2) := by decide +kernel
theorem dX4_renew_53 : decode cX4_renew 53 = .ok (.iload 5, 2) := by decide +kernel
theorem dX4_renew_55 : decode cX4_renew 55 = .ok (.aload 4, 2) := by decide +kernel
theorem dX4_renew_57 : decode cX4_renew 57 = .ok (.getfield 93, 3) := by decide +kernel
theorem dX4_renew_60 : decode cX4_renew 60 = .ok (.iload 5, 2) := by decide +kernel
theorem dX4_renew_62 : decode cX4_renew 62 = .ok (.laload, 1) := by decide +kernel
theorem dX4_renew_63 : decode cX4_renew 63 = .ok (.aload_n 0, 1) := by decide +kernel
theorem dX4_renew_64 : decode cX4_renew 64 = .ok (.getfield 18, 3) := by decide +kernel
theorem dX4_renew_67 : decode cX4_renew 67 = .ok (.iload 5, 2) := by decide +kernel
theorem dX4_renew_69 : decode cX4_renew 69 = .ok (.i2l, 1) := by decide +kernel
theorem dX4_renew_70 : decode cX4_renew 70 = .ok (.invokevirtual 108, 3) := by decide +kernel
theorem dX4_renew_73 : decode cX4_renew 73 = .ok (.invokestatic 105, 3) := by decide +kernel
theorem dX4_renew_76 : decode cX4_renew 76 = .ok (.invokevirtual 67, 3) := by decide +kernel
theorem dX4_renew_79 : decode cX4_renew 79 = .ok (.iinc 5 1, 3) := by decide +kernel
theorem dX4_renew_82 : decode cX4_renew 82 = .ok (.goto (-51), 3) := by decide +kernel
theorem dX4_renew_85 : decode cX4_renew 85 = .ok (.iconst 1, 1) := by decide +kernel
theorem dX4_renew_86 : decode cX4_renew 86 = .ok (.ireturn, 1) := by decide +kernel
theorem dX4_find_0 : decode cX4_find 0 = .ok (.aload_n 0, 1) := by decide +kernel
theorem dX4_find_1 : decode cX4_find 1 = .ok (.iload_n 1, 1) := by decide +kernel
theorem dX4_find_2 : decode cX4_find 2 = .ok (.invokevirtual 41, 3) := by decide +kernel
theorem dX4_find_5 : decode cX4_find 5 = .ok (.astore_n 3, 1) := by decide +kernel
theorem dX4_find_6 : decode cX4_find 6 = .ok (.aload_n 3, 1) := by decide +kernel
theorem dX4_find_7 : decode cX4_find 7 = .ok (.ifnull 13, 3) := by decide +kernel
theorem dX4_find_10 : decode cX4_find 10 = .ok (.iload_n 2, 1) := by decide +kernel
theorem dX4_find_11 : decode cX4_find 11 = .ok (.ifCond .lt 9, 3) := by decide +kernel
theorem dX4_find_14 : decode cX4_find 14 = .ok (.iload_n 2, 1) := by decide +kernel
theorem dX4_find_15 : decode cX4_find 15 = .ok (.bipush 7, 2) := by decide +kernel
theorem dX4_find_17 : decode cX4_find 17 = .ok (.if_icmp .le 13, 3) := by decide +kernel
theorem dX4_find_20 : decode cX4_find 20 = .ok (.new 111, 3) := by decide +kernel
theorem dX4_find_23 : decode cX4_find 23 = .ok (.dup, 1) := by decide +kernel
theorem dX4_find_24 : decode cX4_find 24 = .ok (.ldc 113, 2) := by decide +kernel
theorem dX4_find_26 : decode cX4_find 26 = .ok (.invokespecial 115, 3) := by decide +kernel
theorem dX4_find_29 : decode cX4_find 29 = .ok (.athrow, 1) := by decide +kernel
theorem dX4_find_30 : decode cX4_find 30 = .ok (.aload_n 3, 1) := by decide +kernel
theorem dX4_find_31 : decode cX4_find 31 = .ok (.invokevirtual 118, 3) := by decide +kernel
theorem dX4_find_34 : decode cX4_find 34 = .ok (.aload_n 3, 1) := by decide +kernel
theorem dX4_find_35 : decode cX4_find 35 = .ok (.getfield 78, 3) := by decide +kernel
theorem dX4_find_38 : decode cX4_find 38 = .ok (.iload_n 2, 1) := by decide +kernel
theorem dX4_find_39 : decode cX4_find 39 = .ok (.invokestatic 122, 3) := by decide +kernel
theorem dX4_find_42 : decode cX4_find 42 = .ok (.if_icmp .ge 13, 3) := by decide +kernel
theorem dX4_find_45 : decode cX4_find 45 = .ok (.new 111, 3) := by decide +kernel
theorem dX4_find_48 : decode cX4_find 48 = .ok (.dup, 1) := by decide +kernel
theorem dX4_find_49 : decode cX4_find 49 = .ok (.ldc 125, 2) := by decide +kernel
theorem dX4_find_51 : decode cX4_find 51 = .ok (.invokespecial 115, 3) := by decide +kernel
theorem dX4_find_54 : decode cX4_find 54 = .ok (.athrow, 1) := by decide +kernel
theorem dX4_find_55 : decode cX4_find 55 = .ok (.aload_n 0, 1) := by decide +kernel
theorem dX4_find_56 : decode cX4_find 56 = .ok (.getfield 25, 3) := by decide +kernel
theorem dX4_find_59 : decode cX4_find 59 = .ok (.aload_n 3, 1) := by decide +kernel
theorem dX4_find_60 : decode cX4_find 60 = .ok (.iload_n 2, 1) := by decide +kernel
theorem dX4_find_61 : decode cX4_find 61 = .ok (.invokevirtual 127, 3) := by decide +kernel
theorem dX4_find_64 : decode cX4_find 64 = .ok (.aload_n 3, 1) := by decide +kernel
theorem dX4_find_65 : decode cX4_find 65 = .ok (.aload_n 0, 1) := by decide +kernel
theorem dX4_find_66 : decode cX4_find 66 = .ok (.getfield 25, 3) := by decide +kernel
theorem dX4_find_69 : decode cX4_find 69 = .ok (.getfield 131, 3) := by decide +kernel
theorem dX4_find_72 : decode cX4_find 72 = .ok (.invokevirtual 134, 3) := by decide +kernel
theorem dX4_find_75 : decode cX4_find 75 = .ok (.istore 4, 2) := by decide +kernel
theorem dX4_find_77 : decode cX4_find 77 = .ok (.iload 4, 2) := by decide +kernel
theorem dX4_find_79 : decode cX4_find 79 = .ok (.iload_n 2, 1) := by decide +kernel
theorem dX4_find_80 : decode cX4_find 80 = .ok (.if_icmp .le 13, 3) := by decide +kernel
theorem dX4_find_83 : decode cX4_find 83 = .ok (.new 138, 3) := by decide +kernel
theorem dX4_find_86 : decode cX4_find 86 = .ok (.dup, 1) := by decide +kernel
theorem dX4_find_87 : decode cX4_find 87 = .ok (.ldc 140, 2) := by decide +kernel
theorem dX4_find_89 : decode cX4_find 89 = .ok (.invokespecial 142, 3) := by decide +kernel
theorem dX4_find_92 : decode cX4_find 92 = .ok (.athrow, 1) := by decide +kernel
theorem dX4_find_93 : decode cX4_find 93 = .ok (.aload_n 0, 1) := by decide +kernel
theorem dX4_find_94 : decode cX4_find 94 = .ok (.iload_n 1, 1) := by decide +kernel
theorem dX4_find_95 : decode cX4_find 95 = .ok (.aload_n 3, 1) := by decide +kernel
theorem dX4_find_96 : decode cX4_find 96 = .ok (.invokevirtual 143, 3) := by decide +kernel
theorem dX4_find_99 : decode cX4_find 99 = .ok (.iload 4, 2) := by decide +kernel
theorem dX4_find_101 : decode cX4_find 101 = .ok (.ireturn, 1) := by decide +kernel
theorem dX4_at_0 : decode cX4_at 0 = .ok (.aload_n 0, 1) := by decide +kernel
theorem dX4_at_1 : decode cX4_at 1 = .ok (.getfield 36, 3) := by decide +kernel
theorem dX4_at_4 : decode cX4_at 4 = .ok (.iconst (-1), 1) := by decide +kernel
theorem dX4_at_5 : decode cX4_at 5 = .ok (.if_icmp .ne 13, 3) := by decide +kernel
theorem dX4_at_8 : decode cX4_at 8 = .ok (.new 147, 3) := by decide +kernel
theorem dX4_at_11 : decode cX4_at 11 = .ok (.dup, 1) := by decide +kernel
theorem dX4_at_12 : decode cX4_at 12 = .ok (.ldc 149, 2) := by decide +kernel
theorem dX4_at_14 : decode cX4_at 14 = .ok (.invokespecial 151, 3) := by decide +kernel
theorem dX4_at_17 : decode cX4_at 17 = .ok (.athrow, 1) := by decide +kernel
theorem dX4_at_18 : decode cX4_at 18 = .ok (.aload_n 0, 1) := by decide +kernel
theorem dX4_at_19 : decode cX4_at 19 = .ok (.getfield 29, 3) := by decide +kernel
theorem dX4_at_22 : decode cX4_at 22 = .ok (.lload_n 1, 1) := by decide +kernel
theorem dX4_at_23 : decode cX4_at 23 = .ok (.invokestatic 45, 3) := by decide +kernel
theorem dX4_at_26 : decode cX4_at 26 = .ok (.invokevirtual 108, 3) := by decide +kernel
theorem dX4_at_29 : decode cX4_at 29 = .ok (.lreturn, 1) := by decide +kernel
theorem dX4_part_0 : decode cX4_part 0 = .ok (.aload_n 0, 1) := by decide +kernel
theorem dX4_part_1 : decode cX4_part 1 = .ok (.getfield 36, 3) := by decide +kernel
theorem dX4_part_4 : decode cX4_part 4 = .ok (.iconst (-1), 1) := by decide +kernel
theorem dX4_part_5 : decode cX4_part 5 = .ok (.if_icmp .eq 13, 3) := by decide +kernel
theorem dX4_part_8 : decode cX4_part 8 = .ok (.iload_n 1, 1) := by decide +kernel
theorem dX4_part_9 : decode cX4_part 9 = .ok (.ifCond .lt 9, 3) := by decide +kernel
theorem dX4_part_12 : decode cX4_part 12 = .ok (.iload_n 1, 1) := by decide +kernel
theorem dX4_part_13 : decode cX4_part 13 = .ok (.bipush 8, 2) := by decide +kernel
theorem dX4_part_15 : decode cX4_part 15 = .ok (.if_icmp .le 13, 3) := by decide +kernel
theorem dX4_part_18 : decode cX4_part 18 = .ok (.new 147, 3) := by decide +kernel
theorem dX4_part_21 : decode cX4_part 21 = .ok (.dup, 1) := by decide +kernel
theorem dX4_part_22 : decode cX4_part 22 = .ok (.ldc 152, 2) := by decide +kernel
theorem dX4_part_24 : decode cX4_part 24 = .ok (.invokespecial 151, 3) := by decide +kernel
theorem dX4_part_27 : decode cX4_part 27 = .ok (.athrow, 1) := by decide +kernel
theorem dX4_part_28 : decode cX4_part 28 = .ok (.aload_n 0, 1) := by decide +kernel
theorem dX4_part_29 : decode cX4_part 29 = .ok (.getfield 29, 3) := by decide +kernel
theorem dX4_part_32 : decode cX4_part 32 = .ok (.getfield 154, 3) := by decide +kernel
theorem dX4_part_35 : decode cX4_part 35 = .ok (.iload_n 1, 1) := by decide +kernel
theorem dX4_part_36 : decode cX4_part 36 = .ok (.laload, 1) := by decide +kernel
theorem dX4_part_37 : decode cX4_part 37 = .ok (.lreturn, 1) := by decide +kernel
theorem dX4_wrong_0 : decode cX4_wrong 0 = .ok (.iload_n 1, 1) := by decide +kernel
theorem dX4_wrong_1 : decode cX4_wrong 1 = .ok (.iconst 1, 1) := by decide +kernel
theorem dX4_wrong_2 : decode cX4_wrong 2 = .ok (.if_icmp .lt 22, 3) := by decide +kernel
theorem dX4_wrong_5 : decode cX4_wrong 5 = .ok (.iload_n 1, 1) := by decide +kernel
theorem dX4_wrong_6 : decode cX4_wrong 6 = .ok (.bipush 16, 2) := by decide +kernel
theorem dX4_wrong_8 : decode cX4_wrong 8 = .ok (.if_icmp .gt 16, 3) := by decide +kernel
theorem dX4_wrong_11 : decode cX4_wrong 11 = .ok (.aload_n 0, 1) := by decide +kernel
theorem dX4_wrong_12 : decode cX4_wrong 12 = .ok (.getfield 32, 3) := by decide +kernel
theorem dX4_wrong_15 : decode cX4_wrong 15 = .ok (.iload_n 1, 1) := by decide +kernel
theorem dX4_wrong_16 : decode cX4_wrong 16 = .ok (.baload, 1) := by decide +kernel
theorem dX4_wrong_17 : decode cX4_wrong 17 = .ok (.ifCond .eq 7, 3) := by decide +kernel
theorem dX4_wrong_20 : decode cX4_wrong 20 = .ok (.iconst 1, 1) := by decide +kernel
theorem dX4_wrong_21 : decode cX4_wrong 21 = .ok (.goto 4, 3) := by decide +kernel
theorem dX4_wrong_24 : decode cX4_wrong 24 = .ok (.iconst 0, 1) := by decide +kernel
theorem dX4_wrong_25 : decode cX4_wrong 25 = .ok (.ireturn, 1) := by decide +kernel
theorem dX4_mend_0 : decode cX4_mend 0 = .ok (.aload_n 0, 1) := by decide +kernel
theorem dX4_mend_1 : decode cX4_mend 1 = .ok (.aload_n 0, 1) := by decide +kernel
theorem dX4_mend_2 : decode cX4_mend 2 = .ok (.getfield 36, 3) := by decide +kernel
theorem dX4_mend_5 : decode cX4_mend 5 = .ok (.invokevirtual 41, 3) := by decide +kernel
theorem dX4_mend_8 : decode cX4_mend 8 = .ok (.astore_n 1, 1) := by decide +kernel
theorem dX4_mend_9 : decode cX4_mend 9 = .ok (.aload_n 1, 1) := by decide +kernel
theorem dX4_mend_10 : decode cX4_mend 10 = .ok (.ifnonnull 5, 3) := by decide +kernel
theorem dX4_mend_13 : decode cX4_mend 13 = .ok (.iconst 0, 1) := by decide +kernel
theorem dX4_mend_14 : decode cX4_mend 14 = .ok (.ireturn, 1) := by decide +kernel
theorem dX4_mend_15 : decode cX4_mend 15 = .ok (.aload_n 1, 1) := by decide +kernel
theorem dX4_mend_16 : decode cX4_mend 16 = .ok (.aload_n 0, 1) := by decide +kernel
theorem dX4_mend_17 : decode cX4_mend 17 = .ok (.getfield 29, 3) := by decide +kernel
theorem dX4_mend_20 : decode cX4_mend 20 = .ok (.invokevirtual 59, 3) := by decide +kernel
theorem dX4_mend_23 : decode cX4_mend 23 = .ok (.iconst 1, 1) := by decide +kernel
theorem dX4_mend_24 : decode cX4_mend 24 = .ok (.ireturn, 1) := by decide +kernel
theorem dX4_share_0 : decode cX4_share 0 = .ok (.aload_n 0, 1) := by decide +kernel
theorem dX4_share_1 : decode cX4_share 1 = .ok (.iload_n 1, 1) := by decide +kernel
theorem dX4_share_2 : decode cX4_share 2 = .ok (.invokevirtual 41, 3) := by decide +kernel
theorem dX4_share_5 : decode cX4_share 5 = .ok (.astore_n 3, 1) := by decide +kernel
theorem dX4_share_6 : decode cX4_share 6 = .ok (.aload_n 3, 1) := by decide +kernel
theorem dX4_share_7 : decode cX4_share 7 = .ok (.ifnull 11, 3) := by decide +kernel
theorem dX4_share_10 : decode cX4_share 10 = .ok (.aload_n 3, 1) := by decide +kernel
theorem dX4_share_11 : decode cX4_share 11 = .ok (.iload_n 2, 1) := by decide +kernel
theorem dX4_share_12 : decode cX4_share 12 = .ok (.invokevirtual 71, 3) := by decide +kernel
theorem dX4_share_15 : decode cX4_share 15 = .ok (.ifCond .ne 13, 3) := by decide +kernel
theorem dX4_share_18 : decode cX4_share 18 = .ok (.new 147, 3) := by decide +kernel
theorem dX4_share_21 : decode cX4_share 21 = .ok (.dup, 1) := by decide +kernel
theorem dX4_share_22 : decode cX4_share 22 = .ok (.ldc 157, 2) := by decide +kernel
theorem dX4_share_24 : decode cX4_share 24 = .ok (.invokespecial 151, 3) := by decide +kernel
theorem dX4_share_27 : decode cX4_share 27 = .ok (.athrow, 1) := by decide +kernel
theorem dX4_share_28 : decode cX4_share 28 = .ok (.aload_n 3, 1) := by decide +kernel
theorem dX4_share_29 : decode cX4_share 29 = .ok (.getfield 93, 3) := by decide +kernel
theorem dX4_share_32 : decode cX4_share 32 = .ok (.iload_n 2, 1) := by decide +kernel
theorem dX4_share_33 : decode cX4_share 33 = .ok (.laload, 1) := by decide +kernel
theorem dX4_share_34 : decode cX4_share 34 = .ok (.lreturn, 1) := by decide +kernel
theorem dX4_split_0 : decode cX4_split 0 = .ok (.aload_n 0, 1) := by decide +kernel
theorem dX4_split_1 : decode cX4_split 1 = .ok (.iload_n 1, 1) := by decide +kernel
theorem dX4_split_2 : decode cX4_split 2 = .ok (.invokevirtual 41, 3) := by decide +kernel
theorem dX4_split_5 : decode cX4_split 5 = .ok (.astore_n 3, 1) := by decide +kernel
theorem dX4_split_6 : decode cX4_split 6 = .ok (.aload_n 3, 1) := by decide +kernel
theorem dX4_split_7 : decode cX4_split 7 = .ok (.ifnonnull 5, 3) := by decide +kernel
theorem dX4_split_10 : decode cX4_split 10 = .ok (.iconst (-1), 1) := by decide +kernel
theorem dX4_split_11 : decode cX4_split 11 = .ok (.ireturn, 1) := by decide +kernel
theorem dX4_split_12 : decode cX4_split 12 = .ok (.iload_n 2, 1) := by decide +kernel
theorem dX4_split_13 : decode cX4_split 13 = .ok (.tableswitch 42 0 2 #[27, 32, 37], 27) := by decide +kernel
theorem dX4_split_40 : decode cX4_split 40 = .ok (.aload_n 3, 1) := by decide +kernel
theorem dX4_split_41 : decode cX4_split 41 = .ok (.getfield 78, 3) := by decide +kernel
theorem dX4_split_44 : decode cX4_split 44 = .ok (.ireturn, 1) := by decide +kernel
theorem dX4_split_45 : decode cX4_split 45 = .ok (.aload_n 3, 1) := by decide +kernel
theorem dX4_split_46 : decode cX4_split 46 = .ok (.getfield 87, 3) := by decide +kernel
theorem dX4_split_49 : decode cX4_split 49 = .ok (.ireturn, 1) := by decide +kernel
theorem dX4_split_50 : decode cX4_split 50 = .ok (.aload_n 3, 1) := by decide +kernel
theorem dX4_split_51 : decode cX4_split 51 = .ok (.invokevirtual 118, 3) := by decide +kernel
theorem dX4_split_54 : decode cX4_split 54 = .ok (.ireturn, 1) := by decide +kernel
theorem dX4_split_55 : decode cX4_split 55 = .ok (.iconst (-1), 1) := by decide +kernel
theorem dX4_split_56 : decode cX4_split 56 = .ok (.ireturn, 1) := by decide +kernel
theorem dX4_splitOrNull_0 : decode cX4_splitOrNull 0 = .ok (.iload_n 1, 1) := by decide +kernel
theorem dX4_splitOrNull_1 : decode cX4_splitOrNull 1 = .ok (.ifCond .lt 18, 3) := by decide +kernel
theorem dX4_splitOrNull_4 : decode cX4_splitOrNull 4 = .ok (.iload_n 1, 1) := by decide +kernel
theorem dX4_splitOrNull_5 : decode cX4_splitOrNull 5 = .ok (.bipush 8, 2) := by decide +kernel
theorem dX4_splitOrNull_7 : decode cX4_splitOrNull 7 = .ok (.if_icmp .ge 12, 3) := by decide +kernel
theorem dX4_splitOrNull_10 : decode cX4_splitOrNull 10 = .ok (.aload_n 0, 1) := by decide +kernel
theorem dX4_splitOrNull_11 : decode cX4_splitOrNull 11 = .ok (.getfield 11, 3) := by decide +kernel
theorem dX4_splitOrNull_14 : decode cX4_splitOrNull 14 = .ok (.iload_n 1, 1) := by decide +kernel
theorem dX4_splitOrNull_15 : decode cX4_splitOrNull 15 = .ok (.aaload, 1) := by decide +kernel
theorem dX4_splitOrNull_16 : decode cX4_splitOrNull 16 = .ok (.goto 4, 3) := by decide +kernel
theorem dX4_splitOrNull_19 : decode cX4_splitOrNull 19 = .ok (.aconst_null, 1) := by decide +kernel
theorem dX4_splitOrNull_20 : decode cX4_splitOrNull 20 = .ok (.areturn, 1) := by decide +kernel
theorem dX4_joined_0 : decode cX4_joined 0 = .ok (.iload 4, 2) := by decide +kernel
theorem dX4_joined_2 : decode cX4_joined 2 = .ok (.lookupswitch 38 #[(0, 26), (1, 32)], 26) := by decide +kernel
theorem dX4_joined_28 : decode cX4_joined 28 = .ok (.lload_n 0, 1) := by decide +kernel
theorem dX4_joined_29 : decode cX4_joined 29 = .ok (.lload_n 2, 1) := by decide +kernel
theorem dX4_joined_30 : decode cX4_joined 30 = .ok (.invokestatic 105, 3) := by decide +kernel
theorem dX4_joined_33 : decode cX4_joined 33 = .ok (.lreturn, 1) := by decide +kernel
theorem dX4_joined_34 : decode cX4_joined 34 = .ok (.lload_n 0, 1) := by decide +kernel
theorem dX4_joined_35 : decode cX4_joined 35 = .ok (.lload_n 2, 1) := by decide +kernel
theorem dX4_joined_36 : decode cX4_joined 36 = .ok (.invokestatic 159, 3) := by decide +kernel
theorem dX4_joined_39 : decode cX4_joined 39 = .ok (.lreturn, 1) := by decide +kernel
theorem dX4_joined_40 : decode cX4_joined 40 = .ok (.lload_n 0, 1) := by decide +kernel
theorem dX4_joined_41 : decode cX4_joined 41 = .ok (.lload_n 2, 1) := by decide +kernel
theorem dX4_joined_42 : decode cX4_joined 42 = .ok (.invokestatic 101, 3) := by decide +kernel
theorem dX4_joined_45 : decode cX4_joined 45 = .ok (.lreturn, 1) := by decide +kernel
theorem dX4_keepFound_0 : decode cX4_keepFound 0 = .ok (.aload_n 0, 1) := by decide +kernel
theorem dX4_keepFound_1 : decode cX4_keepFound 1 = .ok (.iload_n 1, 1) := by decide +kernel
theorem dX4_keepFound_2 : decode cX4_keepFound 2 = .ok (.putfield 36, 3) := by decide +kernel
theorem dX4_keepFound_5 : decode cX4_keepFound 5 = .ok (.aload_n 0, 1) := by decide +kernel
theorem dX4_keepFound_6 : decode cX4_keepFound 6 = .ok (.getfield 29, 3) := by decide +kernel
theorem dX4_keepFound_9 : decode cX4_keepFound 9 = .ok (.aload_n 0, 1) := by decide +kernel
theorem dX4_keepFound_10 : decode cX4_keepFound 10 = .ok (.getfield 25, 3) := by decide +kernel
theorem dX4_keepFound_13 : decode cX4_keepFound 13 = .ok (.getfield 131, 3) := by decide +kernel
theorem dX4_keepFound_16 : decode cX4_keepFound 16 = .ok (.invokevirtual 162, 3) := by decide +kernel
theorem dX4_keepFound_19 : decode cX4_keepFound 19 = .ok (.iconst 1, 1) := by decide +kernel
theorem dX4_keepFound_20 : decode cX4_keepFound 20 = .ok (.istore_n 3, 1) := by decide +kernel
theorem dX4_keepFound_21 : decode cX4_keepFound 21 = .ok (.iload_n 3, 1) := by decide +kernel
theorem dX4_keepFound_22 : decode cX4_keepFound 22 = .ok (.bipush 16, 2) := by decide +kernel
theorem dX4_keepFound_24 : decode cX4_keepFound 24 = .ok (.if_icmp .gt 24, 3) := by decide +kernel
theorem dX4_keepFound_27 : decode cX4_keepFound 27 = .ok (.aload_n 0, 1) := by decide +kernel
theorem dX4_keepFound_28 : decode cX4_keepFound 28 = .ok (.getfield 32, 3) := by decide +kernel
theorem dX4_keepFound_31 : decode cX4_keepFound 31 = .ok (.iload_n 3, 1) := by decide +kernel
theorem dX4_keepFound_32 : decode cX4_keepFound 32 = .ok (.aload_n 2, 1) := by decide +kernel
theorem dX4_keepFound_33 : decode cX4_keepFound 33 = .ok (.aload_n 0, 1) := by decide +kernel
theorem dX4_keepFound_34 : decode cX4_keepFound 34 = .ok (.getfield 29, 3) := by decide +kernel
theorem dX4_keepFound_37 : decode cX4_keepFound 37 = .ok (.iload_n 3, 1) := by decide +kernel
theorem dX4_keepFound_38 : decode cX4_keepFound 38 = .ok (.invokevirtual 165, 3) := by decide +kernel
theorem dX4_keepFound_41 : decode cX4_keepFound 41 = .ok (.bastore, 1) := by decide +kernel
theorem dX4_keepFound_42 : decode cX4_keepFound 42 = .ok (.iinc 3 1, 3) := by decide +kernel
theorem dX4_keepFound_45 : decode cX4_keepFound 45 = .ok (.goto (-24), 3) := by decide +kernel
theorem dX4_keepFound_48 : decode cX4_keepFound 48 = .ok (.return_, 1) := by decide +kernel
theorem dJ9_floorMod_0 : decode cJ9_floorMod 0 = .ok (.lload_n 0, 1) := by decide +kernel
theorem dJ9_floorMod_1 : decode cJ9_floorMod 1 = .ok (.lload_n 2, 1) := by decide +kernel
theorem dJ9_floorMod_2 : decode cJ9_floorMod 2 = .ok (.lrem, 1) := by decide +kernel
theorem dJ9_floorMod_3 : decode cJ9_floorMod 3 = .ok (.lstore 4, 2) := by decide +kernel
theorem dJ9_floorMod_5 : decode cJ9_floorMod 5 = .ok (.lload_n 0, 1) := by decide +kernel
theorem dJ9_floorMod_6 : decode cJ9_floorMod 6 = .ok (.lload_n 2, 1) := by decide +kernel
theorem dJ9_floorMod_7 : decode cJ9_floorMod 7 = .ok (.lxor, 1) := by decide +kernel
theorem dJ9_floorMod_8 : decode cJ9_floorMod 8 = .ok (.lconst 0, 1) := by decide +kernel
theorem dJ9_floorMod_9 : decode cJ9_floorMod 9 = .ok (.lcmp, 1) := by decide +kernel
theorem dJ9_floorMod_10 : decode cJ9_floorMod 10 = .ok (.ifCond .ge 15, 3) := by decide +kernel
theorem dJ9_floorMod_13 : decode cJ9_floorMod 13 = .ok (.lload 4, 2) := by decide +kernel
theorem dJ9_floorMod_15 : decode cJ9_floorMod 15 = .ok (.lconst 0, 1) := by decide +kernel
theorem dJ9_floorMod_16 : decode cJ9_floorMod 16 = .ok (.lcmp, 1) := by decide +kernel
theorem dJ9_floorMod_17 : decode cJ9_floorMod 17 = .ok (.ifCond .eq 8, 3) := by decide +kernel
theorem dJ9_floorMod_20 : decode cJ9_floorMod 20 = .ok (.lload 4, 2) := by decide +kernel
theorem dJ9_floorMod_22 : decode cJ9_floorMod 22 = .ok (.lload_n 2, 1) := by decide +kernel
theorem dJ9_floorMod_23 : decode cJ9_floorMod 23 = .ok (.ladd, 1) := by decide +kernel
theorem dJ9_floorMod_24 : decode cJ9_floorMod 24 = .ok (.lreturn, 1) := by decide +kernel
theorem dJ9_floorMod_25 : decode cJ9_floorMod 25 = .ok (.lload 4, 2) := by decide +kernel
theorem dJ9_floorMod_27 : decode cJ9_floorMod 27 = .ok (.lreturn, 1) := by decide +kernel
theorem dJ9_max_0 : decode cJ9_max 0 = .ok (.iload_n 0, 1) := by decide +kernel
theorem dJ9_max_1 : decode cJ9_max 1 = .ok (.iload_n 1, 1) := by decide +kernel
theorem dJ9_max_2 : decode cJ9_max 2 = .ok (.if_icmp .lt 7, 3) := by decide +kernel
theorem dJ9_max_5 : decode cJ9_max 5 = .ok (.iload_n 0, 1) := by decide +kernel
theorem dJ9_max_6 : decode cJ9_max 6 = .ok (.goto 4, 3) := by decide +kernel
theorem dJ9_max_9 : decode cJ9_max 9 = .ok (.iload_n 1, 1) := by decide +kernel
theorem dJ9_max_10 : decode cJ9_max 10 = .ok (.ireturn, 1) := by decide +kernel
theorem dJ9_min_0 : decode cJ9_min 0 = .ok (.iload_n 0, 1) := by decide +kernel
theorem dJ9_min_1 : decode cJ9_min 1 = .ok (.iload_n 1, 1) := by decide +kernel
theorem dJ9_min_2 : decode cJ9_min 2 = .ok (.if_icmp .gt 7, 3) := by decide +kernel
theorem dJ9_min_5 : decode cJ9_min 5 = .ok (.iload_n 0, 1) := by decide +kernel
theorem dJ9_min_6 : decode cJ9_min 6 = .ok (.goto 4, 3) := by decide +kernel
theorem dJ9_min_9 : decode cJ9_min 9 = .ok (.iload_n 1, 1) := by decide +kernel
theorem dJ9_min_10 : decode cJ9_min 10 = .ok (.ireturn, 1) := by decide +kernel
