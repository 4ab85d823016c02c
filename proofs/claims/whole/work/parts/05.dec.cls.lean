/-! DECODE ROWS, by program -/
theorem nd_TS_init_0 : decode prog_5_method_1_code 0 = .ok (.aload_n 0, 1) := by decide +kernel
theorem nd_TS_init_1 : decode prog_5_method_1_code 1 = .ok (.invokespecial 3, 3) := by decide +kernel
theorem nd_TS_init_4 : decode prog_5_method_1_code 4 = .ok (.aload_n 0, 1) := by decide +kernel
theorem nd_TS_init_5 : decode prog_5_method_1_code 5 = .ok (.new 9, 3) := by decide +kernel
theorem nd_TS_init_8 : decode prog_5_method_1_code 8 = .ok (.dup, 1) := by decide +kernel
theorem nd_TS_init_9 : decode prog_5_method_1_code 9 = .ok (.invokespecial 11, 3) := by decide +kernel
theorem nd_TS_init_12 : decode prog_5_method_1_code 12 = .ok (.putfield 12, 3) := by decide +kernel
theorem nd_TS_init_15 : decode prog_5_method_1_code 15 = .ok (.return_, 1) := by decide +kernel
theorem nd_AL_init_0 : decode prog_16_method_2_code 0 = .ok (.aload_n 0, 1) := by decide +kernel
theorem nd_AL_init_1 : decode prog_16_method_2_code 1 = .ok (.invokespecial 1, 3) := by decide +kernel
theorem nd_AL_init_4 : decode prog_16_method_2_code 4 = .ok (.aload_n 0, 1) := by decide +kernel
theorem nd_AL_init_5 : decode prog_16_method_2_code 5 = .ok (.getstatic 39, 3) := by decide +kernel
theorem nd_AL_init_8 : decode prog_16_method_2_code 8 = .ok (.putfield 9, 3) := by decide +kernel
theorem nd_AL_init_11 : decode prog_16_method_2_code 11 = .ok (.return_, 1) := by decide +kernel
theorem nd_AB_init_0 : decode prog_15_method_1_code 0 = .ok (.aload_n 0, 1) := by decide +kernel
theorem nd_AB_init_1 : decode prog_15_method_1_code 1 = .ok (.invokespecial 1, 3) := by decide +kernel
theorem nd_AB_init_4 : decode prog_15_method_1_code 4 = .ok (.aload_n 0, 1) := by decide +kernel
theorem nd_AB_init_5 : decode prog_15_method_1_code 5 = .ok (.iconst 0, 1) := by decide +kernel
theorem nd_AB_init_6 : decode prog_15_method_1_code 6 = .ok (.putfield 7, 3) := by decide +kernel
theorem nd_AB_init_9 : decode prog_15_method_1_code 9 = .ok (.return_, 1) := by decide +kernel
theorem nd_AC_init_0 : decode prog_14_method_1_code 0 = .ok (.aload_n 0, 1) := by decide +kernel
theorem nd_AC_init_1 : decode prog_14_method_1_code 1 = .ok (.invokespecial 1, 3) := by decide +kernel
theorem nd_AC_init_4 : decode prog_14_method_1_code 4 = .ok (.return_, 1) := by decide +kernel
theorem nd_TS_draw_0 : decode prog_5_method_2_code 0 = .ok (.aload_n 0, 1) := by decide +kernel
theorem nd_TS_draw_1 : decode prog_5_method_2_code 1 = .ok (.dup, 1) := by decide +kernel
theorem nd_TS_draw_2 : decode prog_5_method_2_code 2 = .ok (.getfield 18, 3) := by decide +kernel
theorem nd_TS_draw_5 : decode prog_5_method_2_code 5 = .ok (.iconst 1, 1) := by decide +kernel
theorem nd_TS_draw_6 : decode prog_5_method_2_code 6 = .ok (.iadd, 1) := by decide +kernel
theorem nd_TS_draw_7 : decode prog_5_method_2_code 7 = .ok (.putfield 18, 3) := by decide +kernel
theorem nd_TS_draw_10 : decode prog_5_method_2_code 10 = .ok (.aload_n 0, 1) := by decide +kernel
theorem nd_TS_draw_11 : decode prog_5_method_2_code 11 = .ok (.iconst 0, 1) := by decide +kernel
theorem nd_TS_draw_12 : decode prog_5_method_2_code 12 = .ok (.aconst_null, 1) := by decide +kernel
theorem nd_TS_draw_13 : decode prog_5_method_2_code 13 = .ok (.aconst_null, 1) := by decide +kernel
theorem nd_TS_draw_14 : decode prog_5_method_2_code 14 = .ok (.aconst_null, 1) := by decide +kernel
theorem nd_TS_draw_15 : decode prog_5_method_2_code 15 = .ok (.invokevirtual 22, 3) := by decide +kernel
theorem nd_TS_draw_18 : decode prog_5_method_2_code 18 = .ok (.areturn, 1) := by decide +kernel
theorem nd_TS_added_0 : decode prog_5_method_6_code 0 = .ok (.new 27, 3) := by decide +kernel
theorem nd_TS_added_3 : decode prog_5_method_6_code 3 = .ok (.dup, 1) := by decide +kernel
theorem nd_TS_added_4 : decode prog_5_method_6_code 4 = .ok (.iload_n 1, 1) := by decide +kernel
theorem nd_TS_added_5 : decode prog_5_method_6_code 5 = .ok (.aload_n 0, 1) := by decide +kernel
theorem nd_TS_added_6 : decode prog_5_method_6_code 6 = .ok (.getfield 12, 3) := by decide +kernel
theorem nd_TS_added_9 : decode prog_5_method_6_code 9 = .ok (.invokevirtual 62, 3) := by decide +kernel
theorem nd_TS_added_12 : decode prog_5_method_6_code 12 = .ok (.aload_n 2, 1) := by decide +kernel
theorem nd_TS_added_13 : decode prog_5_method_6_code 13 = .ok (.aload_n 3, 1) := by decide +kernel
theorem nd_TS_added_14 : decode prog_5_method_6_code 14 = .ok (.aload 4, 2) := by decide +kernel
theorem nd_TS_added_16 : decode prog_5_method_6_code 16 = .ok (.invokespecial 66, 3) := by decide +kernel
theorem nd_TS_added_19 : decode prog_5_method_6_code 19 = .ok (.astore 5, 2) := by decide +kernel
theorem nd_TS_added_21 : decode prog_5_method_6_code 21 = .ok (.aload_n 0, 1) := by decide +kernel
theorem nd_TS_added_22 : decode prog_5_method_6_code 22 = .ok (.getfield 12, 3) := by decide +kernel
theorem nd_TS_added_25 : decode prog_5_method_6_code 25 = .ok (.aload 5, 2) := by decide +kernel
theorem nd_TS_added_27 : decode prog_5_method_6_code 27 = .ok (.invokevirtual 69, 3) := by decide +kernel
theorem nd_TS_added_30 : decode prog_5_method_6_code 30 = .ok (.pop, 1) := by decide +kernel
theorem nd_TS_added_31 : decode prog_5_method_6_code 31 = .ok (.aload 5, 2) := by decide +kernel
theorem nd_TS_added_33 : decode prog_5_method_6_code 33 = .ok (.areturn, 1) := by decide +kernel
theorem nd_AL_size_0 : decode prog_16_method_8_code 0 = .ok (.aload_n 0, 1) := by decide +kernel
theorem nd_AL_size_1 : decode prog_16_method_8_code 1 = .ok (.getfield 48, 3) := by decide +kernel
theorem nd_AL_size_4 : decode prog_16_method_8_code 4 = .ok (.ireturn, 1) := by decide +kernel
theorem nd_TE_init_0 : decode prog_4_method_1_code 0 = .ok (.aload_n 0, 1) := by decide +kernel
theorem nd_TE_init_1 : decode prog_4_method_1_code 1 = .ok (.invokespecial 1, 3) := by decide +kernel
theorem nd_TE_init_4 : decode prog_4_method_1_code 4 = .ok (.aload_n 0, 1) := by decide +kernel
theorem nd_TE_init_5 : decode prog_4_method_1_code 5 = .ok (.iload_n 1, 1) := by decide +kernel
theorem nd_TE_init_6 : decode prog_4_method_1_code 6 = .ok (.putfield 7, 3) := by decide +kernel
theorem nd_TE_init_9 : decode prog_4_method_1_code 9 = .ok (.aload_n 0, 1) := by decide +kernel
theorem nd_TE_init_10 : decode prog_4_method_1_code 10 = .ok (.iload_n 2, 1) := by decide +kernel
theorem nd_TE_init_11 : decode prog_4_method_1_code 11 = .ok (.putfield 13, 3) := by decide +kernel
theorem nd_TE_init_14 : decode prog_4_method_1_code 14 = .ok (.aload_n 0, 1) := by decide +kernel
theorem nd_TE_init_15 : decode prog_4_method_1_code 15 = .ok (.aload_n 3, 1) := by decide +kernel
theorem nd_TE_init_16 : decode prog_4_method_1_code 16 = .ok (.putfield 16, 3) := by decide +kernel
theorem nd_TE_init_19 : decode prog_4_method_1_code 19 = .ok (.aload_n 0, 1) := by decide +kernel
theorem nd_TE_init_20 : decode prog_4_method_1_code 20 = .ok (.aload 4, 2) := by decide +kernel
theorem nd_TE_init_22 : decode prog_4_method_1_code 22 = .ok (.putfield 20, 3) := by decide +kernel
theorem nd_TE_init_25 : decode prog_4_method_1_code 25 = .ok (.aload_n 0, 1) := by decide +kernel
theorem nd_TE_init_26 : decode prog_4_method_1_code 26 = .ok (.aload 5, 2) := by decide +kernel
theorem nd_TE_init_28 : decode prog_4_method_1_code 28 = .ok (.putfield 23, 3) := by decide +kernel
theorem nd_TE_init_31 : decode prog_4_method_1_code 31 = .ok (.return_, 1) := by decide +kernel
theorem nd_AL_add_0 : decode prog_16_method_25_code 0 = .ok (.aload_n 0, 1) := by decide +kernel
theorem nd_AL_add_1 : decode prog_16_method_25_code 1 = .ok (.dup, 1) := by decide +kernel
theorem nd_AL_add_2 : decode prog_16_method_25_code 2 = .ok (.getfield 63, 3) := by decide +kernel
theorem nd_AL_add_5 : decode prog_16_method_25_code 5 = .ok (.iconst 1, 1) := by decide +kernel
theorem nd_AL_add_6 : decode prog_16_method_25_code 6 = .ok (.iadd, 1) := by decide +kernel
theorem nd_AL_add_7 : decode prog_16_method_25_code 7 = .ok (.putfield 63, 3) := by decide +kernel
theorem nd_AL_add_10 : decode prog_16_method_25_code 10 = .ok (.aload_n 0, 1) := by decide +kernel
theorem nd_AL_add_11 : decode prog_16_method_25_code 11 = .ok (.aload_n 1, 1) := by decide +kernel
theorem nd_AL_add_12 : decode prog_16_method_25_code 12 = .ok (.aload_n 0, 1) := by decide +kernel
theorem nd_AL_add_13 : decode prog_16_method_25_code 13 = .ok (.getfield 9, 3) := by decide +kernel
theorem nd_AL_add_16 : decode prog_16_method_25_code 16 = .ok (.aload_n 0, 1) := by decide +kernel
theorem nd_AL_add_17 : decode prog_16_method_25_code 17 = .ok (.getfield 48, 3) := by decide +kernel
theorem nd_AL_add_20 : decode prog_16_method_25_code 20 = .ok (.invokevirtual 131, 3) := by decide +kernel
theorem nd_AL_add_23 : decode prog_16_method_25_code 23 = .ok (.iconst 1, 1) := by decide +kernel
theorem nd_AL_add_24 : decode prog_16_method_25_code 24 = .ok (.ireturn, 1) := by decide +kernel
theorem nd_AL_add2_0 : decode prog_16_method_24_code 0 = .ok (.iload_n 3, 1) := by decide +kernel
theorem nd_AL_add2_1 : decode prog_16_method_24_code 1 = .ok (.aload_n 2, 1) := by decide +kernel
theorem nd_AL_add2_2 : decode prog_16_method_24_code 2 = .ok (.arraylength, 1) := by decide +kernel
theorem nd_AL_add2_3 : decode prog_16_method_24_code 3 = .ok (.if_icmp .ne 8, 3) := by decide +kernel
theorem nd_AL_add2_6 : decode prog_16_method_24_code 6 = .ok (.aload_n 0, 1) := by decide +kernel
theorem nd_AL_add2_7 : decode prog_16_method_24_code 7 = .ok (.invokevirtual 129, 3) := by decide +kernel
theorem nd_AL_add2_10 : decode prog_16_method_24_code 10 = .ok (.astore_n 2, 1) := by decide +kernel
theorem nd_AL_add2_11 : decode prog_16_method_24_code 11 = .ok (.aload_n 2, 1) := by decide +kernel
theorem nd_AL_add2_12 : decode prog_16_method_24_code 12 = .ok (.iload_n 3, 1) := by decide +kernel
theorem nd_AL_add2_13 : decode prog_16_method_24_code 13 = .ok (.aload_n 1, 1) := by decide +kernel
theorem nd_AL_add2_14 : decode prog_16_method_24_code 14 = .ok (.aastore, 1) := by decide +kernel
theorem nd_AL_add2_15 : decode prog_16_method_24_code 15 = .ok (.aload_n 0, 1) := by decide +kernel
theorem nd_AL_add2_16 : decode prog_16_method_24_code 16 = .ok (.iload_n 3, 1) := by decide +kernel
theorem nd_AL_add2_17 : decode prog_16_method_24_code 17 = .ok (.iconst 1, 1) := by decide +kernel
theorem nd_AL_add2_18 : decode prog_16_method_24_code 18 = .ok (.iadd, 1) := by decide +kernel
theorem nd_AL_add2_19 : decode prog_16_method_24_code 19 = .ok (.putfield 48, 3) := by decide +kernel
theorem nd_AL_add2_22 : decode prog_16_method_24_code 22 = .ok (.return_, 1) := by decide +kernel
theorem nd_AL_grow_0 : decode prog_16_method_7_code 0 = .ok (.aload_n 0, 1) := by decide +kernel
theorem nd_AL_grow_1 : decode prog_16_method_7_code 1 = .ok (.aload_n 0, 1) := by decide +kernel
theorem nd_AL_grow_2 : decode prog_16_method_7_code 2 = .ok (.getfield 48, 3) := by decide +kernel
theorem nd_AL_grow_5 : decode prog_16_method_7_code 5 = .ok (.iconst 1, 1) := by decide +kernel
theorem nd_AL_grow_6 : decode prog_16_method_7_code 6 = .ok (.iadd, 1) := by decide +kernel
theorem nd_AL_grow_7 : decode prog_16_method_7_code 7 = .ok (.invokevirtual 69, 3) := by decide +kernel
theorem nd_AL_grow_10 : decode prog_16_method_7_code 10 = .ok (.areturn, 1) := by decide +kernel
theorem nd_AL_grow2_0 : decode prog_16_method_6_code 0 = .ok (.aload_n 0, 1) := by decide +kernel
theorem nd_AL_grow2_1 : decode prog_16_method_6_code 1 = .ok (.getfield 9, 3) := by decide +kernel
theorem nd_AL_grow2_4 : decode prog_16_method_6_code 4 = .ok (.arraylength, 1) := by decide +kernel
theorem nd_AL_grow2_5 : decode prog_16_method_6_code 5 = .ok (.istore_n 2, 1) := by decide +kernel
theorem nd_AL_grow2_6 : decode prog_16_method_6_code 6 = .ok (.iload_n 2, 1) := by decide +kernel
theorem nd_AL_grow2_7 : decode prog_16_method_6_code 7 = .ok (.ifCond .gt 13, 3) := by decide +kernel
theorem nd_AL_grow2_10 : decode prog_16_method_6_code 10 = .ok (.aload_n 0, 1) := by decide +kernel
theorem nd_AL_grow2_11 : decode prog_16_method_6_code 11 = .ok (.getfield 9, 3) := by decide +kernel
theorem nd_AL_grow2_14 : decode prog_16_method_6_code 14 = .ok (.getstatic 39, 3) := by decide +kernel
theorem nd_AL_grow2_17 : decode prog_16_method_6_code 17 = .ok (.if_acmp .eq 28, 3) := by decide +kernel
theorem nd_AL_grow2_20 : decode prog_16_method_6_code 20 = .ok (.iload_n 2, 1) := by decide +kernel
theorem nd_AL_grow2_21 : decode prog_16_method_6_code 21 = .ok (.iload_n 1, 1) := by decide +kernel
theorem nd_AL_grow2_22 : decode prog_16_method_6_code 22 = .ok (.iload_n 2, 1) := by decide +kernel
theorem nd_AL_grow2_23 : decode prog_16_method_6_code 23 = .ok (.isub, 1) := by decide +kernel
theorem nd_AL_grow2_24 : decode prog_16_method_6_code 24 = .ok (.iload_n 2, 1) := by decide +kernel
theorem nd_AL_grow2_25 : decode prog_16_method_6_code 25 = .ok (.iconst 1, 1) := by decide +kernel
theorem nd_AL_grow2_26 : decode prog_16_method_6_code 26 = .ok (.ishr, 1) := by decide +kernel
theorem nd_AL_grow2_27 : decode prog_16_method_6_code 27 = .ok (.invokestatic 73, 3) := by decide +kernel
theorem nd_AL_grow2_30 : decode prog_16_method_6_code 30 = .ok (.istore_n 3, 1) := by decide +kernel
theorem nd_AL_grow2_31 : decode prog_16_method_6_code 31 = .ok (.aload_n 0, 1) := by decide +kernel
theorem nd_AL_grow2_32 : decode prog_16_method_6_code 32 = .ok (.aload_n 0, 1) := by decide +kernel
theorem nd_AL_grow2_33 : decode prog_16_method_6_code 33 = .ok (.getfield 9, 3) := by decide +kernel
theorem nd_AL_grow2_36 : decode prog_16_method_6_code 36 = .ok (.iload_n 3, 1) := by decide +kernel
theorem nd_AL_grow2_37 : decode prog_16_method_6_code 37 = .ok (.invokestatic 66, 3) := by decide +kernel
theorem nd_AL_grow2_40 : decode prog_16_method_6_code 40 = .ok (.dup_x1, 1) := by decide +kernel
theorem nd_AL_grow2_41 : decode prog_16_method_6_code 41 = .ok (.putfield 9, 3) := by decide +kernel
theorem nd_AL_grow2_44 : decode prog_16_method_6_code 44 = .ok (.areturn, 1) := by decide +kernel
theorem nd_AL_grow2_45 : decode prog_16_method_6_code 45 = .ok (.aload_n 0, 1) := by decide +kernel
theorem nd_AL_grow2_46 : decode prog_16_method_6_code 46 = .ok (.bipush 10, 2) := by decide +kernel
theorem nd_AL_grow2_48 : decode prog_16_method_6_code 48 = .ok (.iload_n 1, 1) := by decide +kernel
theorem nd_AL_grow2_49 : decode prog_16_method_6_code 49 = .ok (.invokestatic 79, 3) := by decide +kernel
theorem nd_AL_grow2_52 : decode prog_16_method_6_code 52 = .ok (.anewarray 7, 3) := by decide +kernel
theorem nd_AL_grow2_55 : decode prog_16_method_6_code 55 = .ok (.dup_x1, 1) := by decide +kernel
theorem nd_AL_grow2_56 : decode prog_16_method_6_code 56 = .ok (.putfield 9, 3) := by decide +kernel
theorem nd_AL_grow2_59 : decode prog_16_method_6_code 59 = .ok (.areturn, 1) := by decide +kernel
theorem nd_AS_newLength_0 : decode prog_23_method_27_code 0 = .ok (.iload_n 0, 1) := by decide +kernel
theorem nd_AS_newLength_1 : decode prog_23_method_27_code 1 = .ok (.iload_n 1, 1) := by decide +kernel
theorem nd_AS_newLength_2 : decode prog_23_method_27_code 2 = .ok (.iload_n 2, 1) := by decide +kernel
theorem nd_AS_newLength_3 : decode prog_23_method_27_code 3 = .ok (.invokestatic 194, 3) := by decide +kernel
theorem nd_AS_newLength_6 : decode prog_23_method_27_code 6 = .ok (.iadd, 1) := by decide +kernel
theorem nd_AS_newLength_7 : decode prog_23_method_27_code 7 = .ok (.istore_n 3, 1) := by decide +kernel
theorem nd_AS_newLength_8 : decode prog_23_method_27_code 8 = .ok (.iconst 0, 1) := by decide +kernel
theorem nd_AS_newLength_9 : decode prog_23_method_27_code 9 = .ok (.iload_n 3, 1) := by decide +kernel
theorem nd_AS_newLength_10 : decode prog_23_method_27_code 10 = .ok (.if_icmp .ge 11, 3) := by decide +kernel
theorem nd_AS_newLength_13 : decode prog_23_method_27_code 13 = .ok (.iload_n 3, 1) := by decide +kernel
theorem nd_AS_newLength_14 : decode prog_23_method_27_code 14 = .ok (.ldc 200, 2) := by decide +kernel
theorem nd_AS_newLength_16 : decode prog_23_method_27_code 16 = .ok (.if_icmp .gt 5, 3) := by decide +kernel
theorem nd_AS_newLength_19 : decode prog_23_method_27_code 19 = .ok (.iload_n 3, 1) := by decide +kernel
theorem nd_AS_newLength_20 : decode prog_23_method_27_code 20 = .ok (.ireturn, 1) := by decide +kernel
theorem nd_AS_newLength_21 : decode prog_23_method_27_code 21 = .ok (.iload_n 0, 1) := by decide +kernel
theorem nd_AS_newLength_22 : decode prog_23_method_27_code 22 = .ok (.iload_n 1, 1) := by decide +kernel
theorem nd_AS_newLength_23 : decode prog_23_method_27_code 23 = .ok (.invokestatic 201, 3) := by decide +kernel
theorem nd_AS_newLength_26 : decode prog_23_method_27_code 26 = .ok (.ireturn, 1) := by decide +kernel
theorem nd_MA_max_0 : decode prog_12_method_65_code 0 = .ok (.iload_n 0, 1) := by decide +kernel
theorem nd_MA_max_1 : decode prog_12_method_65_code 1 = .ok (.iload_n 1, 1) := by decide +kernel
theorem nd_MA_max_2 : decode prog_12_method_65_code 2 = .ok (.if_icmp .lt 7, 3) := by decide +kernel
theorem nd_MA_max_5 : decode prog_12_method_65_code 5 = .ok (.iload_n 0, 1) := by decide +kernel
theorem nd_MA_max_6 : decode prog_12_method_65_code 6 = .ok (.goto 4, 3) := by decide +kernel
theorem nd_MA_max_9 : decode prog_12_method_65_code 9 = .ok (.iload_n 1, 1) := by decide +kernel
theorem nd_MA_max_10 : decode prog_12_method_65_code 10 = .ok (.ireturn, 1) := by decide +kernel
theorem nd_AS_hugeLength_0 : decode prog_23_method_28_code 0 = .ok (.iload_n 0, 1) := by decide +kernel
theorem nd_AS_hugeLength_1 : decode prog_23_method_28_code 1 = .ok (.iload_n 1, 1) := by decide +kernel
theorem nd_AS_hugeLength_2 : decode prog_23_method_28_code 2 = .ok (.iadd, 1) := by decide +kernel
theorem nd_AS_hugeLength_3 : decode prog_23_method_28_code 3 = .ok (.istore_n 2, 1) := by decide +kernel
theorem nd_AS_hugeLength_4 : decode prog_23_method_28_code 4 = .ok (.iload_n 2, 1) := by decide +kernel
theorem nd_AS_hugeLength_5 : decode prog_23_method_28_code 5 = .ok (.ifCond .ge 44, 3) := by decide +kernel
theorem nd_AS_hugeLength_8 : decode prog_23_method_28_code 8 = .ok (.new 204, 3) := by decide +kernel
theorem nd_AS_hugeLength_11 : decode prog_23_method_28_code 11 = .ok (.dup, 1) := by decide +kernel
theorem nd_AS_hugeLength_12 : decode prog_23_method_28_code 12 = .ok (.new 89, 3) := by decide +kernel
theorem nd_AS_hugeLength_15 : decode prog_23_method_28_code 15 = .ok (.dup, 1) := by decide +kernel
theorem nd_AS_hugeLength_16 : decode prog_23_method_28_code 16 = .ok (.invokespecial 91, 3) := by decide +kernel
theorem nd_AS_hugeLength_19 : decode prog_23_method_28_code 19 = .ok (.ldc 206, 2) := by decide +kernel
theorem nd_AS_hugeLength_21 : decode prog_23_method_28_code 21 = .ok (.invokevirtual 94, 3) := by decide +kernel
theorem nd_AS_hugeLength_24 : decode prog_23_method_28_code 24 = .ok (.iload_n 0, 1) := by decide +kernel
theorem nd_AS_hugeLength_25 : decode prog_23_method_28_code 25 = .ok (.invokevirtual 98, 3) := by decide +kernel
theorem nd_AS_hugeLength_28 : decode prog_23_method_28_code 28 = .ok (.ldc 208, 2) := by decide +kernel
theorem nd_AS_hugeLength_30 : decode prog_23_method_28_code 30 = .ok (.invokevirtual 94, 3) := by decide +kernel
theorem nd_AS_hugeLength_33 : decode prog_23_method_28_code 33 = .ok (.iload_n 1, 1) := by decide +kernel
theorem nd_AS_hugeLength_34 : decode prog_23_method_28_code 34 = .ok (.invokevirtual 98, 3) := by decide +kernel
theorem nd_AS_hugeLength_37 : decode prog_23_method_28_code 37 = .ok (.ldc 210, 2) := by decide +kernel
theorem nd_AS_hugeLength_39 : decode prog_23_method_28_code 39 = .ok (.invokevirtual 94, 3) := by decide +kernel
theorem nd_AS_hugeLength_42 : decode prog_23_method_28_code 42 = .ok (.invokevirtual 101, 3) := by decide +kernel
theorem nd_AS_hugeLength_45 : decode prog_23_method_28_code 45 = .ok (.invokespecial 212, 3) := by decide +kernel
theorem nd_AS_hugeLength_48 : decode prog_23_method_28_code 48 = .ok (.athrow, 1) := by decide +kernel
theorem nd_AS_hugeLength_49 : decode prog_23_method_28_code 49 = .ok (.iload_n 2, 1) := by decide +kernel
theorem nd_AS_hugeLength_50 : decode prog_23_method_28_code 50 = .ok (.ldc 200, 2) := by decide +kernel
theorem nd_AS_hugeLength_52 : decode prog_23_method_28_code 52 = .ok (.if_icmp .gt 6, 3) := by decide +kernel
theorem nd_AS_hugeLength_55 : decode prog_23_method_28_code 55 = .ok (.ldc 200, 2) := by decide +kernel
theorem nd_AS_hugeLength_57 : decode prog_23_method_28_code 57 = .ok (.ireturn, 1) := by decide +kernel
theorem nd_AS_hugeLength_58 : decode prog_23_method_28_code 58 = .ok (.iload_n 2, 1) := by decide +kernel
theorem nd_AS_hugeLength_59 : decode prog_23_method_28_code 59 = .ok (.ireturn, 1) := by decide +kernel
theorem nd_AR_copyOf_0 : decode prog_17_method_119_code 0 = .ok (.aload_n 0, 1) := by decide +kernel
theorem nd_AR_copyOf_1 : decode prog_17_method_119_code 1 = .ok (.iload_n 1, 1) := by decide +kernel
theorem nd_AR_copyOf_2 : decode prog_17_method_119_code 2 = .ok (.aload_n 0, 1) := by decide +kernel
theorem nd_AR_copyOf_3 : decode prog_17_method_119_code 3 = .ok (.invokevirtual 86, 3) := by decide +kernel
theorem nd_AR_copyOf_6 : decode prog_17_method_119_code 6 = .ok (.invokestatic 300, 3) := by decide +kernel
theorem nd_AR_copyOf_9 : decode prog_17_method_119_code 9 = .ok (.areturn, 1) := by decide +kernel
theorem nd_AR_copyOf2_0 : decode prog_17_method_120_code 0 = .ok (.aload_n 2, 1) := by decide +kernel
theorem nd_AR_copyOf2_1 : decode prog_17_method_120_code 1 = .ok (.ldc 110, 2) := by decide +kernel
theorem nd_AR_copyOf2_3 : decode prog_17_method_120_code 3 = .ok (.if_acmp .ne 10, 3) := by decide +kernel
theorem nd_AR_copyOf2_6 : decode prog_17_method_120_code 6 = .ok (.iload_n 1, 1) := by decide +kernel
theorem nd_AR_copyOf2_7 : decode prog_17_method_120_code 7 = .ok (.anewarray 2, 3) := by decide +kernel
theorem nd_AR_copyOf2_10 : decode prog_17_method_120_code 10 = .ok (.goto 14, 3) := by decide +kernel
theorem nd_AR_copyOf2_13 : decode prog_17_method_120_code 13 = .ok (.aload_n 2, 1) := by decide +kernel
theorem nd_AR_copyOf2_14 : decode prog_17_method_120_code 14 = .ok (.invokevirtual 90, 3) := by decide +kernel
theorem nd_AR_copyOf2_17 : decode prog_17_method_120_code 17 = .ok (.iload_n 1, 1) := by decide +kernel
theorem nd_AR_copyOf2_18 : decode prog_17_method_120_code 18 = .ok (.invokestatic 95, 3) := by decide +kernel
theorem nd_AR_copyOf2_21 : decode prog_17_method_120_code 21 = .ok (.checkcast 110, 3) := by decide +kernel
theorem nd_AR_copyOf2_24 : decode prog_17_method_120_code 24 = .ok (.astore_n 3, 1) := by decide +kernel
theorem nd_AR_copyOf2_25 : decode prog_17_method_120_code 25 = .ok (.aload_n 0, 1) := by decide +kernel
theorem nd_AR_copyOf2_26 : decode prog_17_method_120_code 26 = .ok (.iconst 0, 1) := by decide +kernel
theorem nd_AR_copyOf2_27 : decode prog_17_method_120_code 27 = .ok (.aload_n 3, 1) := by decide +kernel
theorem nd_AR_copyOf2_28 : decode prog_17_method_120_code 28 = .ok (.iconst 0, 1) := by decide +kernel
theorem nd_AR_copyOf2_29 : decode prog_17_method_120_code 29 = .ok (.aload_n 0, 1) := by decide +kernel
theorem nd_AR_copyOf2_30 : decode prog_17_method_120_code 30 = .ok (.arraylength, 1) := by decide +kernel
theorem nd_AR_copyOf2_31 : decode prog_17_method_120_code 31 = .ok (.iload_n 1, 1) := by decide +kernel
theorem nd_AR_copyOf2_32 : decode prog_17_method_120_code 32 = .ok (.invokestatic 304, 3) := by decide +kernel
theorem nd_AR_copyOf2_35 : decode prog_17_method_120_code 35 = .ok (.invokestatic 150, 3) := by decide +kernel
theorem nd_AR_copyOf2_38 : decode prog_17_method_120_code 38 = .ok (.aload_n 3, 1) := by decide +kernel
theorem nd_AR_copyOf2_39 : decode prog_17_method_120_code 39 = .ok (.areturn, 1) := by decide +kernel
theorem nd_MA_min_0 : decode prog_12_method_69_code 0 = .ok (.iload_n 0, 1) := by decide +kernel
theorem nd_MA_min_1 : decode prog_12_method_69_code 1 = .ok (.iload_n 1, 1) := by decide +kernel
theorem nd_MA_min_2 : decode prog_12_method_69_code 2 = .ok (.if_icmp .gt 7, 3) := by decide +kernel
theorem nd_MA_min_5 : decode prog_12_method_69_code 5 = .ok (.iload_n 0, 1) := by decide +kernel
theorem nd_MA_min_6 : decode prog_12_method_69_code 6 = .ok (.goto 4, 3) := by decide +kernel
theorem nd_MA_min_9 : decode prog_12_method_69_code 9 = .ok (.iload_n 1, 1) := by decide +kernel
theorem nd_MA_min_10 : decode prog_12_method_69_code 10 = .ok (.ireturn, 1) := by decide +kernel
theorem nd_TS_publicOf_0 : decode prog_5_method_3_code 0 = .ok (.aload_n 1, 1) := by decide +kernel
theorem nd_TS_publicOf_1 : decode prog_5_method_3_code 1 = .ok (.ifnonnull 5, 3) := by decide +kernel
theorem nd_TS_publicOf_4 : decode prog_5_method_3_code 4 = .ok (.aconst_null, 1) := by decide +kernel
theorem nd_TS_publicOf_5 : decode prog_5_method_3_code 5 = .ok (.areturn, 1) := by decide +kernel
theorem nd_TS_publicOf_6 : decode prog_5_method_3_code 6 = .ok (.aload_n 1, 1) := by decide +kernel
theorem nd_TS_publicOf_7 : decode prog_5_method_3_code 7 = .ok (.getfield 26, 3) := by decide +kernel
theorem nd_TS_publicOf_10 : decode prog_5_method_3_code 10 = .ok (.ifnonnull 15, 3) := by decide +kernel
theorem nd_TS_publicOf_13 : decode prog_5_method_3_code 13 = .ok (.aload_n 1, 1) := by decide +kernel
theorem nd_TS_publicOf_14 : decode prog_5_method_3_code 14 = .ok (.aload_n 0, 1) := by decide +kernel
theorem nd_TS_publicOf_15 : decode prog_5_method_3_code 15 = .ok (.iconst 1, 1) := by decide +kernel
theorem nd_TS_publicOf_16 : decode prog_5_method_3_code 16 = .ok (.aload_n 1, 1) := by decide +kernel
theorem nd_TS_publicOf_17 : decode prog_5_method_3_code 17 = .ok (.aconst_null, 1) := by decide +kernel
theorem nd_TS_publicOf_18 : decode prog_5_method_3_code 18 = .ok (.aconst_null, 1) := by decide +kernel
theorem nd_TS_publicOf_19 : decode prog_5_method_3_code 19 = .ok (.invokevirtual 22, 3) := by decide +kernel
theorem nd_TS_publicOf_22 : decode prog_5_method_3_code 22 = .ok (.putfield 26, 3) := by decide +kernel
theorem nd_TS_publicOf_25 : decode prog_5_method_3_code 25 = .ok (.aload_n 1, 1) := by decide +kernel
theorem nd_TS_publicOf_26 : decode prog_5_method_3_code 26 = .ok (.getfield 26, 3) := by decide +kernel
theorem nd_TS_publicOf_29 : decode prog_5_method_3_code 29 = .ok (.areturn, 1) := by decide +kernel
theorem nd_TS_sharedOf_0 : decode prog_5_method_4_code 0 = .ok (.aload_n 1, 1) := by decide +kernel
theorem nd_TS_sharedOf_1 : decode prog_5_method_4_code 1 = .ok (.ifnull 14, 3) := by decide +kernel
theorem nd_TS_sharedOf_4 : decode prog_5_method_4_code 4 = .ok (.aload_n 2, 1) := by decide +kernel
theorem nd_TS_sharedOf_5 : decode prog_5_method_4_code 5 = .ok (.ifnull 10, 3) := by decide +kernel
theorem nd_TS_sharedOf_8 : decode prog_5_method_4_code 8 = .ok (.aload_n 2, 1) := by decide +kernel
theorem nd_TS_sharedOf_9 : decode prog_5_method_4_code 9 = .ok (.getfield 32, 3) := by decide +kernel
theorem nd_TS_sharedOf_12 : decode prog_5_method_4_code 12 = .ok (.ifnonnull 5, 3) := by decide +kernel
theorem nd_TS_sharedOf_15 : decode prog_5_method_4_code 15 = .ok (.aconst_null, 1) := by decide +kernel
theorem nd_TS_sharedOf_16 : decode prog_5_method_4_code 16 = .ok (.areturn, 1) := by decide +kernel
theorem nd_TS_sharedOf_17 : decode prog_5_method_4_code 17 = .ok (.aload_n 0, 1) := by decide +kernel
theorem nd_TS_sharedOf_18 : decode prog_5_method_4_code 18 = .ok (.aload_n 1, 1) := by decide +kernel
theorem nd_TS_sharedOf_19 : decode prog_5_method_4_code 19 = .ok (.invokevirtual 35, 3) := by decide +kernel
theorem nd_TS_sharedOf_22 : decode prog_5_method_4_code 22 = .ok (.pop, 1) := by decide +kernel
theorem nd_TS_sharedOf_23 : decode prog_5_method_4_code 23 = .ok (.aload_n 2, 1) := by decide +kernel
theorem nd_TS_sharedOf_24 : decode prog_5_method_4_code 24 = .ok (.getfield 32, 3) := by decide +kernel
theorem nd_TS_sharedOf_27 : decode prog_5_method_4_code 27 = .ok (.astore_n 3, 1) := by decide +kernel
theorem nd_TS_sharedOf_28 : decode prog_5_method_4_code 28 = .ok (.aload_n 1, 1) := by decide +kernel
theorem nd_TS_sharedOf_29 : decode prog_5_method_4_code 29 = .ok (.getfield 39, 3) := by decide +kernel
theorem nd_TS_sharedOf_32 : decode prog_5_method_4_code 32 = .ok (.aload_n 3, 1) := by decide +kernel
theorem nd_TS_sharedOf_33 : decode prog_5_method_4_code 33 = .ok (.getfield 39, 3) := by decide +kernel
theorem nd_TS_sharedOf_36 : decode prog_5_method_4_code 36 = .ok (.if_icmp .ge 13, 3) := by decide +kernel
theorem nd_TS_sharedOf_39 : decode prog_5_method_4_code 39 = .ok (.aload_n 0, 1) := by decide +kernel
theorem nd_TS_sharedOf_40 : decode prog_5_method_4_code 40 = .ok (.iconst 2, 1) := by decide +kernel
theorem nd_TS_sharedOf_41 : decode prog_5_method_4_code 41 = .ok (.aload_n 1, 1) := by decide +kernel
theorem nd_TS_sharedOf_42 : decode prog_5_method_4_code 42 = .ok (.aload_n 3, 1) := by decide +kernel
theorem nd_TS_sharedOf_43 : decode prog_5_method_4_code 43 = .ok (.invokevirtual 42, 3) := by decide +kernel
theorem nd_TS_sharedOf_46 : decode prog_5_method_4_code 46 = .ok (.goto 10, 3) := by decide +kernel
theorem nd_TS_sharedOf_49 : decode prog_5_method_4_code 49 = .ok (.aload_n 0, 1) := by decide +kernel
theorem nd_TS_sharedOf_50 : decode prog_5_method_4_code 50 = .ok (.iconst 2, 1) := by decide +kernel
theorem nd_TS_sharedOf_51 : decode prog_5_method_4_code 51 = .ok (.aload_n 3, 1) := by decide +kernel
theorem nd_TS_sharedOf_52 : decode prog_5_method_4_code 52 = .ok (.aload_n 1, 1) := by decide +kernel
theorem nd_TS_sharedOf_53 : decode prog_5_method_4_code 53 = .ok (.invokevirtual 42, 3) := by decide +kernel
theorem nd_TS_sharedOf_56 : decode prog_5_method_4_code 56 = .ok (.areturn, 1) := by decide +kernel
theorem nd_TS_made_0 : decode prog_5_method_5_code 0 = .ok (.aload_n 2, 1) := by decide +kernel
theorem nd_TS_made_1 : decode prog_5_method_5_code 1 = .ok (.aload_n 3, 1) := by decide +kernel
theorem nd_TS_made_2 : decode prog_5_method_5_code 2 = .ok (.invokestatic 46, 3) := by decide +kernel
theorem nd_TS_made_5 : decode prog_5_method_5_code 5 = .ok (.astore 4, 2) := by decide +kernel
theorem nd_TS_made_7 : decode prog_5_method_5_code 7 = .ok (.aload 4, 2) := by decide +kernel
theorem nd_TS_made_9 : decode prog_5_method_5_code 9 = .ok (.ifnonnull 5, 3) := by decide +kernel
theorem nd_TS_made_12 : decode prog_5_method_5_code 12 = .ok (.aconst_null, 1) := by decide +kernel
theorem nd_TS_made_13 : decode prog_5_method_5_code 13 = .ok (.areturn, 1) := by decide +kernel
theorem nd_TS_made_14 : decode prog_5_method_5_code 14 = .ok (.aload 4, 2) := by decide +kernel
theorem nd_TS_made_16 : decode prog_5_method_5_code 16 = .ok (.getfield 50, 3) := by decide +kernel
theorem nd_TS_made_19 : decode prog_5_method_5_code 19 = .ok (.astore 5, 2) := by decide +kernel
theorem nd_TS_made_21 : decode prog_5_method_5_code 21 = .ok (.aload 5, 2) := by decide +kernel
theorem nd_TS_made_23 : decode prog_5_method_5_code 23 = .ok (.ifnull 43, 3) := by decide +kernel
theorem nd_TS_made_26 : decode prog_5_method_5_code 26 = .ok (.aload 5, 2) := by decide +kernel
theorem nd_TS_made_28 : decode prog_5_method_5_code 28 = .ok (.getfield 53, 3) := by decide +kernel
theorem nd_TS_made_31 : decode prog_5_method_5_code 31 = .ok (.iload_n 1, 1) := by decide +kernel
theorem nd_TS_made_32 : decode prog_5_method_5_code 32 = .ok (.if_icmp .ne 24, 3) := by decide +kernel
theorem nd_TS_made_35 : decode prog_5_method_5_code 35 = .ok (.aload 5, 2) := by decide +kernel
theorem nd_TS_made_37 : decode prog_5_method_5_code 37 = .ok (.getfield 32, 3) := by decide +kernel
theorem nd_TS_made_40 : decode prog_5_method_5_code 40 = .ok (.aload_n 2, 1) := by decide +kernel
theorem nd_TS_made_41 : decode prog_5_method_5_code 41 = .ok (.if_acmp .ne 15, 3) := by decide +kernel
theorem nd_TS_made_44 : decode prog_5_method_5_code 44 = .ok (.aload 5, 2) := by decide +kernel
theorem nd_TS_made_46 : decode prog_5_method_5_code 46 = .ok (.getfield 56, 3) := by decide +kernel
theorem nd_TS_made_49 : decode prog_5_method_5_code 49 = .ok (.aload_n 3, 1) := by decide +kernel
theorem nd_TS_made_50 : decode prog_5_method_5_code 50 = .ok (.if_acmp .ne 6, 3) := by decide +kernel
theorem nd_TS_made_53 : decode prog_5_method_5_code 53 = .ok (.aload 5, 2) := by decide +kernel
theorem nd_TS_made_55 : decode prog_5_method_5_code 55 = .ok (.areturn, 1) := by decide +kernel
theorem nd_TS_made_56 : decode prog_5_method_5_code 56 = .ok (.aload 5, 2) := by decide +kernel
theorem nd_TS_made_58 : decode prog_5_method_5_code 58 = .ok (.getfield 59, 3) := by decide +kernel
theorem nd_TS_made_61 : decode prog_5_method_5_code 61 = .ok (.astore 5, 2) := by decide +kernel
theorem nd_TS_made_63 : decode prog_5_method_5_code 63 = .ok (.goto (-42), 3) := by decide +kernel
theorem nd_TS_made_66 : decode prog_5_method_5_code 66 = .ok (.aload 4, 2) := by decide +kernel
theorem nd_TS_made_68 : decode prog_5_method_5_code 68 = .ok (.aload_n 0, 1) := by decide +kernel
theorem nd_TS_made_69 : decode prog_5_method_5_code 69 = .ok (.iload_n 1, 1) := by decide +kernel
theorem nd_TS_made_70 : decode prog_5_method_5_code 70 = .ok (.aload_n 2, 1) := by decide +kernel
theorem nd_TS_made_71 : decode prog_5_method_5_code 71 = .ok (.aload_n 3, 1) := by decide +kernel
theorem nd_TS_made_72 : decode prog_5_method_5_code 72 = .ok (.aload 4, 2) := by decide +kernel
theorem nd_TS_made_74 : decode prog_5_method_5_code 74 = .ok (.getfield 50, 3) := by decide +kernel
theorem nd_TS_made_77 : decode prog_5_method_5_code 77 = .ok (.invokevirtual 22, 3) := by decide +kernel
theorem nd_TS_made_80 : decode prog_5_method_5_code 80 = .ok (.putfield 50, 3) := by decide +kernel
theorem nd_TS_made_83 : decode prog_5_method_5_code 83 = .ok (.aload 4, 2) := by decide +kernel
theorem nd_TS_made_85 : decode prog_5_method_5_code 85 = .ok (.getfield 50, 3) := by decide +kernel
theorem nd_TS_made_88 : decode prog_5_method_5_code 88 = .ok (.areturn, 1) := by decide +kernel
theorem nd_TS_younger_0 : decode prog_5_method_7_code 0 = .ok (.aload_n 0, 1) := by decide +kernel
theorem nd_TS_younger_1 : decode prog_5_method_7_code 1 = .ok (.ifnull 7, 3) := by decide +kernel
theorem nd_TS_younger_4 : decode prog_5_method_7_code 4 = .ok (.aload_n 1, 1) := by decide +kernel
theorem nd_TS_younger_5 : decode prog_5_method_7_code 5 = .ok (.ifnonnull 13, 3) := by decide +kernel
theorem nd_TS_younger_8 : decode prog_5_method_7_code 8 = .ok (.aload_n 0, 1) := by decide +kernel
theorem nd_TS_younger_9 : decode prog_5_method_7_code 9 = .ok (.ifnonnull 7, 3) := by decide +kernel
theorem nd_TS_younger_12 : decode prog_5_method_7_code 12 = .ok (.aload_n 1, 1) := by decide +kernel
theorem nd_TS_younger_13 : decode prog_5_method_7_code 13 = .ok (.goto 4, 3) := by decide +kernel
theorem nd_TS_younger_16 : decode prog_5_method_7_code 16 = .ok (.aload_n 0, 1) := by decide +kernel
theorem nd_TS_younger_17 : decode prog_5_method_7_code 17 = .ok (.areturn, 1) := by decide +kernel
theorem nd_TS_younger_18 : decode prog_5_method_7_code 18 = .ok (.aload_n 0, 1) := by decide +kernel
theorem nd_TS_younger_19 : decode prog_5_method_7_code 19 = .ok (.getfield 39, 3) := by decide +kernel
theorem nd_TS_younger_22 : decode prog_5_method_7_code 22 = .ok (.aload_n 1, 1) := by decide +kernel
theorem nd_TS_younger_23 : decode prog_5_method_7_code 23 = .ok (.getfield 39, 3) := by decide +kernel
theorem nd_TS_younger_26 : decode prog_5_method_7_code 26 = .ok (.if_icmp .le 7, 3) := by decide +kernel
theorem nd_TS_younger_29 : decode prog_5_method_7_code 29 = .ok (.aload_n 0, 1) := by decide +kernel
theorem nd_TS_younger_30 : decode prog_5_method_7_code 30 = .ok (.goto 4, 3) := by decide +kernel
theorem nd_TS_younger_33 : decode prog_5_method_7_code 33 = .ok (.aload_n 1, 1) := by decide +kernel
theorem nd_TS_younger_34 : decode prog_5_method_7_code 34 = .ok (.areturn, 1) := by decide +kernel
theorem nd_WI_init_0 : decode prog_6_method_1_code 0 = .ok (.aload_n 0, 1) := by decide +kernel
theorem nd_WI_init_1 : decode prog_6_method_1_code 1 = .ok (.invokespecial 1, 3) := by decide +kernel
theorem nd_WI_init_4 : decode prog_6_method_1_code 4 = .ok (.aload_n 0, 1) := by decide +kernel
theorem nd_WI_init_5 : decode prog_6_method_1_code 5 = .ok (.iload_n 1, 1) := by decide +kernel
theorem nd_WI_init_6 : decode prog_6_method_1_code 6 = .ok (.putfield 7, 3) := by decide +kernel
theorem nd_WI_init_9 : decode prog_6_method_1_code 9 = .ok (.aload_n 0, 1) := by decide +kernel
theorem nd_WI_init_10 : decode prog_6_method_1_code 10 = .ok (.iload_n 2, 1) := by decide +kernel
theorem nd_WI_init_11 : decode prog_6_method_1_code 11 = .ok (.putfield 13, 3) := by decide +kernel
theorem nd_WI_init_14 : decode prog_6_method_1_code 14 = .ok (.aload_n 0, 1) := by decide +kernel
theorem nd_WI_init_15 : decode prog_6_method_1_code 15 = .ok (.iload_n 3, 1) := by decide +kernel
theorem nd_WI_init_16 : decode prog_6_method_1_code 16 = .ok (.putfield 16, 3) := by decide +kernel
theorem nd_WI_init_19 : decode prog_6_method_1_code 19 = .ok (.aload_n 0, 1) := by decide +kernel
theorem nd_WI_init_20 : decode prog_6_method_1_code 20 = .ok (.aload 4, 2) := by decide +kernel
theorem nd_WI_init_22 : decode prog_6_method_1_code 22 = .ok (.putfield 19, 3) := by decide +kernel
theorem nd_WI_init_25 : decode prog_6_method_1_code 25 = .ok (.aload_n 0, 1) := by decide +kernel
theorem nd_WI_init_26 : decode prog_6_method_1_code 26 = .ok (.aload 5, 2) := by decide +kernel
theorem nd_WI_init_28 : decode prog_6_method_1_code 28 = .ok (.putfield 23, 3) := by decide +kernel
theorem nd_WI_init_31 : decode prog_6_method_1_code 31 = .ok (.aload_n 0, 1) := by decide +kernel
theorem nd_WI_init_32 : decode prog_6_method_1_code 32 = .ok (.aload 6, 2) := by decide +kernel
theorem nd_WI_init_34 : decode prog_6_method_1_code 34 = .ok (.putfield 26, 3) := by decide +kernel
theorem nd_WI_init_37 : decode prog_6_method_1_code 37 = .ok (.return_, 1) := by decide +kernel
theorem nd_TS_give_0 : decode prog_5_method_8_code 0 = .ok (.aload_n 1, 1) := by decide +kernel
theorem nd_TS_give_1 : decode prog_5_method_8_code 1 = .ok (.ifnonnull 5, 3) := by decide +kernel
theorem nd_TS_give_4 : decode prog_5_method_8_code 4 = .ok (.iconst 0, 1) := by decide +kernel
theorem nd_TS_give_5 : decode prog_5_method_8_code 5 = .ok (.ireturn, 1) := by decide +kernel
theorem nd_TS_give_6 : decode prog_5_method_8_code 6 = .ok (.aload_n 1, 1) := by decide +kernel
theorem nd_TS_give_7 : decode prog_5_method_8_code 7 = .ok (.getfield 73, 3) := by decide +kernel
theorem nd_TS_give_10 : decode prog_5_method_8_code 10 = .ok (.ifCond .ne 25, 3) := by decide +kernel
theorem nd_TS_give_13 : decode prog_5_method_8_code 13 = .ok (.aload_n 1, 1) := by decide +kernel
theorem nd_TS_give_14 : decode prog_5_method_8_code 14 = .ok (.iconst 1, 1) := by decide +kernel
theorem nd_TS_give_15 : decode prog_5_method_8_code 15 = .ok (.putfield 73, 3) := by decide +kernel
theorem nd_TS_give_18 : decode prog_5_method_8_code 18 = .ok (.aload_n 0, 1) := by decide +kernel
theorem nd_TS_give_19 : decode prog_5_method_8_code 19 = .ok (.aload_n 0, 1) := by decide +kernel
theorem nd_TS_give_20 : decode prog_5_method_8_code 20 = .ok (.getfield 77, 3) := by decide +kernel
theorem nd_TS_give_23 : decode prog_5_method_8_code 23 = .ok (.aload_n 1, 1) := by decide +kernel
theorem nd_TS_give_24 : decode prog_5_method_8_code 24 = .ok (.getfield 39, 3) := by decide +kernel
theorem nd_TS_give_27 : decode prog_5_method_8_code 27 = .ok (.iconst 1, 1) := by decide +kernel
theorem nd_TS_give_28 : decode prog_5_method_8_code 28 = .ok (.iadd, 1) := by decide +kernel
theorem nd_TS_give_29 : decode prog_5_method_8_code 29 = .ok (.invokestatic 80, 3) := by decide +kernel
theorem nd_TS_give_32 : decode prog_5_method_8_code 32 = .ok (.putfield 77, 3) := by decide +kernel
theorem nd_TS_give_35 : decode prog_5_method_8_code 35 = .ok (.iconst 1, 1) := by decide +kernel
theorem nd_TS_give_36 : decode prog_5_method_8_code 36 = .ok (.ireturn, 1) := by decide +kernel
theorem nd_AL_get_0 : decode prog_16_method_20_code 0 = .ok (.iload_n 1, 1) := by decide +kernel
theorem nd_AL_get_1 : decode prog_16_method_20_code 1 = .ok (.aload_n 0, 1) := by decide +kernel
theorem nd_AL_get_2 : decode prog_16_method_20_code 2 = .ok (.getfield 48, 3) := by decide +kernel
theorem nd_AL_get_5 : decode prog_16_method_20_code 5 = .ok (.invokestatic 118, 3) := by decide +kernel
theorem nd_AL_get_8 : decode prog_16_method_20_code 8 = .ok (.pop, 1) := by decide +kernel
theorem nd_AL_get_9 : decode prog_16_method_20_code 9 = .ok (.aload_n 0, 1) := by decide +kernel
theorem nd_AL_get_10 : decode prog_16_method_20_code 10 = .ok (.iload_n 1, 1) := by decide +kernel
theorem nd_AL_get_11 : decode prog_16_method_20_code 11 = .ok (.invokevirtual 123, 3) := by decide +kernel
theorem nd_AL_get_14 : decode prog_16_method_20_code 14 = .ok (.areturn, 1) := by decide +kernel
theorem nd_OB_checkIndex_0 : decode prog_20_method_17_code 0 = .ok (.iload_n 0, 1) := by decide +kernel
theorem nd_OB_checkIndex_1 : decode prog_20_method_17_code 1 = .ok (.iload_n 1, 1) := by decide +kernel
theorem nd_OB_checkIndex_2 : decode prog_20_method_17_code 2 = .ok (.aconst_null, 1) := by decide +kernel
theorem nd_OB_checkIndex_3 : decode prog_20_method_17_code 3 = .ok (.invokestatic 105, 3) := by decide +kernel
theorem nd_OB_checkIndex_6 : decode prog_20_method_17_code 6 = .ok (.ireturn, 1) := by decide +kernel
theorem nd_PR_checkIndex_0 : decode prog_24_method_11_code 0 = .ok (.iload_n 0, 1) := by decide +kernel
theorem nd_PR_checkIndex_1 : decode prog_24_method_11_code 1 = .ok (.ifCond .lt 8, 3) := by decide +kernel
theorem nd_PR_checkIndex_4 : decode prog_24_method_11_code 4 = .ok (.iload_n 0, 1) := by decide +kernel
theorem nd_PR_checkIndex_5 : decode prog_24_method_11_code 5 = .ok (.iload_n 1, 1) := by decide +kernel
theorem nd_PR_checkIndex_6 : decode prog_24_method_11_code 6 = .ok (.if_icmp .lt 10, 3) := by decide +kernel
theorem nd_PR_checkIndex_9 : decode prog_24_method_11_code 9 = .ok (.aload_n 2, 1) := by decide +kernel
theorem nd_PR_checkIndex_10 : decode prog_24_method_11_code 10 = .ok (.iload_n 0, 1) := by decide +kernel
theorem nd_PR_checkIndex_11 : decode prog_24_method_11_code 11 = .ok (.iload_n 1, 1) := by decide +kernel
theorem nd_PR_checkIndex_12 : decode prog_24_method_11_code 12 = .ok (.invokestatic 95, 3) := by decide +kernel
theorem nd_PR_checkIndex_15 : decode prog_24_method_11_code 15 = .ok (.athrow, 1) := by decide +kernel
theorem nd_PR_checkIndex_16 : decode prog_24_method_11_code 16 = .ok (.iload_n 0, 1) := by decide +kernel
theorem nd_PR_checkIndex_17 : decode prog_24_method_11_code 17 = .ok (.ireturn, 1) := by decide +kernel
theorem nd_AL_elementData_0 : decode prog_16_method_18_code 0 = .ok (.aload_n 0, 1) := by decide +kernel
theorem nd_AL_elementData_1 : decode prog_16_method_18_code 1 = .ok (.getfield 9, 3) := by decide +kernel
theorem nd_AL_elementData_4 : decode prog_16_method_18_code 4 = .ok (.iload_n 1, 1) := by decide +kernel
theorem nd_AL_elementData_5 : decode prog_16_method_18_code 5 = .ok (.aaload, 1) := by decide +kernel
theorem nd_AL_elementData_6 : decode prog_16_method_18_code 6 = .ok (.areturn, 1) := by decide +kernel
theorem nd_LK_init_0 : decode prog_3_method_1_code 0 = .ok (.aload_n 0, 1) := by decide +kernel
theorem nd_LK_init_1 : decode prog_3_method_1_code 1 = .ok (.invokespecial 1, 3) := by decide +kernel
theorem nd_LK_init_4 : decode prog_3_method_1_code 4 = .ok (.aload_n 0, 1) := by decide +kernel
theorem nd_LK_init_5 : decode prog_3_method_1_code 5 = .ok (.aload_n 1, 1) := by decide +kernel
theorem nd_LK_init_6 : decode prog_3_method_1_code 6 = .ok (.putfield 7, 3) := by decide +kernel
theorem nd_LK_init_9 : decode prog_3_method_1_code 9 = .ok (.aload_n 0, 1) := by decide +kernel
theorem nd_LK_init_10 : decode prog_3_method_1_code 10 = .ok (.iload_n 2, 1) := by decide +kernel
theorem nd_LK_init_11 : decode prog_3_method_1_code 11 = .ok (.putfield 13, 3) := by decide +kernel
theorem nd_LK_init_14 : decode prog_3_method_1_code 14 = .ok (.aload_n 0, 1) := by decide +kernel
theorem nd_LK_init_15 : decode prog_3_method_1_code 15 = .ok (.aload_n 3, 1) := by decide +kernel
theorem nd_LK_init_16 : decode prog_3_method_1_code 16 = .ok (.putfield 17, 3) := by decide +kernel
theorem nd_LK_init_19 : decode prog_3_method_1_code 19 = .ok (.return_, 1) := by decide +kernel
theorem nd_TS_hasDerived_0 : decode prog_5_method_9_code 0 = .ok (.aload_n 0, 1) := by decide +kernel
theorem nd_TS_hasDerived_1 : decode prog_5_method_9_code 1 = .ok (.invokevirtual 86, 3) := by decide +kernel
theorem nd_TS_hasDerived_4 : decode prog_5_method_9_code 4 = .ok (.aload_n 1, 1) := by decide +kernel
theorem nd_TS_hasDerived_5 : decode prog_5_method_9_code 5 = .ok (.invokestatic 89, 3) := by decide +kernel
theorem nd_TS_hasDerived_8 : decode prog_5_method_9_code 8 = .ok (.ireturn, 1) := by decide +kernel
theorem nd_TS_settle_0 : decode prog_5_method_10_code 0 = .ok (.iconst 0, 1) := by decide +kernel
theorem nd_TS_settle_1 : decode prog_5_method_10_code 1 = .ok (.istore_n 1, 1) := by decide +kernel
theorem nd_TS_settle_2 : decode prog_5_method_10_code 2 = .ok (.iload_n 1, 1) := by decide +kernel
theorem nd_TS_settle_3 : decode prog_5_method_10_code 3 = .ok (.ldc 93, 2) := by decide +kernel
theorem nd_TS_settle_5 : decode prog_5_method_10_code 5 = .ok (.if_icmp .ge 95, 3) := by decide +kernel
theorem nd_TS_settle_8 : decode prog_5_method_10_code 8 = .ok (.aload_n 0, 1) := by decide +kernel
theorem nd_TS_settle_9 : decode prog_5_method_10_code 9 = .ok (.getfield 77, 3) := by decide +kernel
theorem nd_TS_settle_12 : decode prog_5_method_10_code 12 = .ok (.aload_n 0, 1) := by decide +kernel
theorem nd_TS_settle_13 : decode prog_5_method_10_code 13 = .ok (.getfield 12, 3) := by decide +kernel
theorem nd_TS_settle_16 : decode prog_5_method_10_code 16 = .ok (.invokevirtual 62, 3) := by decide +kernel
theorem nd_TS_settle_19 : decode prog_5_method_10_code 19 = .ok (.if_icmp .ge 81, 3) := by decide +kernel
theorem nd_TS_settle_22 : decode prog_5_method_10_code 22 = .ok (.aload_n 0, 1) := by decide +kernel
theorem nd_TS_settle_23 : decode prog_5_method_10_code 23 = .ok (.getfield 12, 3) := by decide +kernel
theorem nd_TS_settle_26 : decode prog_5_method_10_code 26 = .ok (.aload_n 0, 1) := by decide +kernel
theorem nd_TS_settle_27 : decode prog_5_method_10_code 27 = .ok (.getfield 77, 3) := by decide +kernel
theorem nd_TS_settle_30 : decode prog_5_method_10_code 30 = .ok (.invokevirtual 94, 3) := by decide +kernel
theorem nd_TS_settle_33 : decode prog_5_method_10_code 33 = .ok (.checkcast 27, 3) := by decide +kernel
theorem nd_TS_settle_36 : decode prog_5_method_10_code 36 = .ok (.astore_n 2, 1) := by decide +kernel
theorem nd_TS_settle_37 : decode prog_5_method_10_code 37 = .ok (.aload_n 0, 1) := by decide +kernel
theorem nd_TS_settle_38 : decode prog_5_method_10_code 38 = .ok (.dup, 1) := by decide +kernel
theorem nd_TS_settle_39 : decode prog_5_method_10_code 39 = .ok (.getfield 77, 3) := by decide +kernel
theorem nd_TS_settle_42 : decode prog_5_method_10_code 42 = .ok (.iconst 1, 1) := by decide +kernel
theorem nd_TS_settle_43 : decode prog_5_method_10_code 43 = .ok (.iadd, 1) := by decide +kernel
theorem nd_TS_settle_44 : decode prog_5_method_10_code 44 = .ok (.putfield 77, 3) := by decide +kernel
theorem nd_TS_settle_47 : decode prog_5_method_10_code 47 = .ok (.aload_n 2, 1) := by decide +kernel
theorem nd_TS_settle_48 : decode prog_5_method_10_code 48 = .ok (.invokestatic 98, 3) := by decide +kernel
theorem nd_TS_settle_51 : decode prog_5_method_10_code 51 = .ok (.ifCond .eq 9, 3) := by decide +kernel
theorem nd_TS_settle_54 : decode prog_5_method_10_code 54 = .ok (.aload_n 0, 1) := by decide +kernel
theorem nd_TS_settle_55 : decode prog_5_method_10_code 55 = .ok (.aload_n 2, 1) := by decide +kernel
theorem nd_TS_settle_56 : decode prog_5_method_10_code 56 = .ok (.invokevirtual 101, 3) := by decide +kernel
theorem nd_TS_settle_59 : decode prog_5_method_10_code 59 = .ok (.pop, 1) := by decide +kernel
theorem nd_TS_settle_60 : decode prog_5_method_10_code 60 = .ok (.aload_n 2, 1) := by decide +kernel
theorem nd_TS_settle_61 : decode prog_5_method_10_code 61 = .ok (.getfield 53, 3) := by decide +kernel
theorem nd_TS_settle_64 : decode prog_5_method_10_code 64 = .ok (.iconst 3, 1) := by decide +kernel
theorem nd_TS_settle_65 : decode prog_5_method_10_code 65 = .ok (.if_icmp .ne 29, 3) := by decide +kernel
theorem nd_TS_settle_68 : decode prog_5_method_10_code 68 = .ok (.aload_n 2, 1) := by decide +kernel
theorem nd_TS_settle_69 : decode prog_5_method_10_code 69 = .ok (.getfield 73, 3) := by decide +kernel
theorem nd_TS_settle_72 : decode prog_5_method_10_code 72 = .ok (.ifCond .eq 22, 3) := by decide +kernel
theorem nd_TS_settle_75 : decode prog_5_method_10_code 75 = .ok (.aload_n 2, 1) := by decide +kernel
theorem nd_TS_settle_76 : decode prog_5_method_10_code 76 = .ok (.getfield 32, 3) := by decide +kernel
theorem nd_TS_settle_79 : decode prog_5_method_10_code 79 = .ok (.invokestatic 89, 3) := by decide +kernel
theorem nd_TS_settle_82 : decode prog_5_method_10_code 82 = .ok (.ifCond .eq 12, 3) := by decide +kernel
theorem nd_TS_settle_85 : decode prog_5_method_10_code 85 = .ok (.aload_n 0, 1) := by decide +kernel
theorem nd_TS_settle_86 : decode prog_5_method_10_code 86 = .ok (.aload_n 2, 1) := by decide +kernel
theorem nd_TS_settle_87 : decode prog_5_method_10_code 87 = .ok (.getfield 56, 3) := by decide +kernel
theorem nd_TS_settle_90 : decode prog_5_method_10_code 90 = .ok (.invokevirtual 101, 3) := by decide +kernel
theorem nd_TS_settle_93 : decode prog_5_method_10_code 93 = .ok (.pop, 1) := by decide +kernel
theorem nd_TS_settle_94 : decode prog_5_method_10_code 94 = .ok (.iinc 1 1, 3) := by decide +kernel
theorem nd_TS_settle_97 : decode prog_5_method_10_code 97 = .ok (.goto (-95), 3) := by decide +kernel
theorem nd_TS_settle_100 : decode prog_5_method_10_code 100 = .ok (.return_, 1) := by decide +kernel
theorem nd_TS_canBeMade_0 : decode prog_5_method_11_code 0 = .ok (.aload_n 0, 1) := by decide +kernel
theorem nd_TS_canBeMade_1 : decode prog_5_method_11_code 1 = .ok (.getfield 53, 3) := by decide +kernel
theorem nd_TS_canBeMade_4 : decode prog_5_method_11_code 4 = .ok (.lookupswitch 64 #[(0, 28), (2, 30)], 28) := by decide +kernel
theorem nd_TS_canBeMade_32 : decode prog_5_method_11_code 32 = .ok (.iconst 0, 1) := by decide +kernel
theorem nd_TS_canBeMade_33 : decode prog_5_method_11_code 33 = .ok (.ireturn, 1) := by decide +kernel
theorem nd_TS_canBeMade_34 : decode prog_5_method_11_code 34 = .ok (.aload_n 0, 1) := by decide +kernel
theorem nd_TS_canBeMade_35 : decode prog_5_method_11_code 35 = .ok (.getfield 32, 3) := by decide +kernel
theorem nd_TS_canBeMade_38 : decode prog_5_method_11_code 38 = .ok (.aload_n 0, 1) := by decide +kernel
theorem nd_TS_canBeMade_39 : decode prog_5_method_11_code 39 = .ok (.getfield 56, 3) := by decide +kernel
theorem nd_TS_canBeMade_42 : decode prog_5_method_11_code 42 = .ok (.invokestatic 105, 3) := by decide +kernel
theorem nd_TS_canBeMade_45 : decode prog_5_method_11_code 45 = .ok (.ifCond .ne 17, 3) := by decide +kernel
theorem nd_TS_canBeMade_48 : decode prog_5_method_11_code 48 = .ok (.aload_n 0, 1) := by decide +kernel
theorem nd_TS_canBeMade_49 : decode prog_5_method_11_code 49 = .ok (.getfield 56, 3) := by decide +kernel
theorem nd_TS_canBeMade_52 : decode prog_5_method_11_code 52 = .ok (.aload_n 0, 1) := by decide +kernel
theorem nd_TS_canBeMade_53 : decode prog_5_method_11_code 53 = .ok (.getfield 32, 3) := by decide +kernel
theorem nd_TS_canBeMade_56 : decode prog_5_method_11_code 56 = .ok (.invokestatic 105, 3) := by decide +kernel
theorem nd_TS_canBeMade_59 : decode prog_5_method_11_code 59 = .ok (.ifCond .eq 7, 3) := by decide +kernel
theorem nd_TS_canBeMade_62 : decode prog_5_method_11_code 62 = .ok (.iconst 1, 1) := by decide +kernel
theorem nd_TS_canBeMade_63 : decode prog_5_method_11_code 63 = .ok (.goto 4, 3) := by decide +kernel
theorem nd_TS_canBeMade_66 : decode prog_5_method_11_code 66 = .ok (.iconst 0, 1) := by decide +kernel
theorem nd_TS_canBeMade_67 : decode prog_5_method_11_code 67 = .ok (.ireturn, 1) := by decide +kernel
theorem nd_TS_canBeMade_68 : decode prog_5_method_11_code 68 = .ok (.aload_n 0, 1) := by decide +kernel
theorem nd_TS_canBeMade_69 : decode prog_5_method_11_code 69 = .ok (.getfield 32, 3) := by decide +kernel
theorem nd_TS_canBeMade_72 : decode prog_5_method_11_code 72 = .ok (.invokestatic 89, 3) := by decide +kernel
theorem nd_TS_canBeMade_75 : decode prog_5_method_11_code 75 = .ok (.ifCond .eq 17, 3) := by decide +kernel
theorem nd_TS_canBeMade_78 : decode prog_5_method_11_code 78 = .ok (.aload_n 0, 1) := by decide +kernel
theorem nd_TS_canBeMade_79 : decode prog_5_method_11_code 79 = .ok (.getfield 56, 3) := by decide +kernel
theorem nd_TS_canBeMade_82 : decode prog_5_method_11_code 82 = .ok (.invokestatic 89, 3) := by decide +kernel
theorem nd_TS_canBeMade_85 : decode prog_5_method_11_code 85 = .ok (.ifCond .eq 7, 3) := by decide +kernel
theorem nd_TS_canBeMade_88 : decode prog_5_method_11_code 88 = .ok (.iconst 1, 1) := by decide +kernel
theorem nd_TS_canBeMade_89 : decode prog_5_method_11_code 89 = .ok (.goto 4, 3) := by decide +kernel
theorem nd_TS_canBeMade_92 : decode prog_5_method_11_code 92 = .ok (.iconst 0, 1) := by decide +kernel
theorem nd_TS_canBeMade_93 : decode prog_5_method_11_code 93 = .ok (.ireturn, 1) := by decide +kernel
theorem nd_TS_sharedByOne_0 : decode prog_5_method_12_code 0 = .ok (.aload_n 0, 1) := by decide +kernel
theorem nd_TS_sharedByOne_1 : decode prog_5_method_12_code 1 = .ok (.ifnull 35, 3) := by decide +kernel
theorem nd_TS_sharedByOne_4 : decode prog_5_method_12_code 4 = .ok (.aload_n 1, 1) := by decide +kernel
theorem nd_TS_sharedByOne_5 : decode prog_5_method_12_code 5 = .ok (.ifnull 31, 3) := by decide +kernel
theorem nd_TS_sharedByOne_8 : decode prog_5_method_12_code 8 = .ok (.aload_n 0, 1) := by decide +kernel
theorem nd_TS_sharedByOne_9 : decode prog_5_method_12_code 9 = .ok (.getfield 73, 3) := by decide +kernel
theorem nd_TS_sharedByOne_12 : decode prog_5_method_12_code 12 = .ok (.ifCond .eq 24, 3) := by decide +kernel
theorem nd_TS_sharedByOne_15 : decode prog_5_method_12_code 15 = .ok (.aload_n 1, 1) := by decide +kernel
theorem nd_TS_sharedByOne_16 : decode prog_5_method_12_code 16 = .ok (.getfield 26, 3) := by decide +kernel
theorem nd_TS_sharedByOne_19 : decode prog_5_method_12_code 19 = .ok (.ifnull 17, 3) := by decide +kernel
theorem nd_TS_sharedByOne_22 : decode prog_5_method_12_code 22 = .ok (.aload_n 1, 1) := by decide +kernel
theorem nd_TS_sharedByOne_23 : decode prog_5_method_12_code 23 = .ok (.getfield 26, 3) := by decide +kernel
theorem nd_TS_sharedByOne_26 : decode prog_5_method_12_code 26 = .ok (.getfield 73, 3) := by decide +kernel
theorem nd_TS_sharedByOne_29 : decode prog_5_method_12_code 29 = .ok (.ifCond .eq 7, 3) := by decide +kernel
theorem nd_TS_sharedByOne_32 : decode prog_5_method_12_code 32 = .ok (.iconst 1, 1) := by decide +kernel
theorem nd_TS_sharedByOne_33 : decode prog_5_method_12_code 33 = .ok (.goto 4, 3) := by decide +kernel
theorem nd_TS_sharedByOne_36 : decode prog_5_method_12_code 36 = .ok (.iconst 0, 1) := by decide +kernel
theorem nd_TS_sharedByOne_37 : decode prog_5_method_12_code 37 = .ok (.ireturn, 1) := by decide +kernel
theorem nd_TS_isDerived_0 : decode prog_5_method_13_code 0 = .ok (.aload_n 0, 1) := by decide +kernel
theorem nd_TS_isDerived_1 : decode prog_5_method_13_code 1 = .ok (.ifnull 10, 3) := by decide +kernel
theorem nd_TS_isDerived_4 : decode prog_5_method_13_code 4 = .ok (.aload_n 0, 1) := by decide +kernel
theorem nd_TS_isDerived_5 : decode prog_5_method_13_code 5 = .ok (.getfield 73, 3) := by decide +kernel
theorem nd_TS_isDerived_8 : decode prog_5_method_13_code 8 = .ok (.ifCond .eq 7, 3) := by decide +kernel
theorem nd_TS_isDerived_11 : decode prog_5_method_13_code 11 = .ok (.iconst 1, 1) := by decide +kernel
theorem nd_TS_isDerived_12 : decode prog_5_method_13_code 12 = .ok (.goto 4, 3) := by decide +kernel
theorem nd_TS_isDerived_15 : decode prog_5_method_13_code 15 = .ok (.iconst 0, 1) := by decide +kernel
theorem nd_TS_isDerived_16 : decode prog_5_method_13_code 16 = .ok (.ireturn, 1) := by decide +kernel
