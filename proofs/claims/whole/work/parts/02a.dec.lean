-- decode rows: laid by gen_names.py
theorem dJ6_compare_7cf53_0 : decode cJ6_compare_7cf53 0 = .ok (.iload_n 0, 1) := by decide +kernel
theorem dJ6_compare_7cf53_1 : decode cJ6_compare_7cf53 1 = .ok (.iload_n 1, 1) := by decide +kernel
theorem dJ6_compare_7cf53_2 : decode cJ6_compare_7cf53 2 = .ok (.if_icmp .ge 7, 3) := by decide +kernel
theorem dJ6_compare_7cf53_5 : decode cJ6_compare_7cf53 5 = .ok (.iconst (-1), 1) := by decide +kernel
theorem dJ6_compare_7cf53_6 : decode cJ6_compare_7cf53 6 = .ok (.goto 13, 3) := by decide +kernel
theorem dJ6_compare_7cf53_9 : decode cJ6_compare_7cf53 9 = .ok (.iload_n 0, 1) := by decide +kernel
theorem dJ6_compare_7cf53_10 : decode cJ6_compare_7cf53 10 = .ok (.iload_n 1, 1) := by decide +kernel
theorem dJ6_compare_7cf53_11 : decode cJ6_compare_7cf53 11 = .ok (.if_icmp .ne 7, 3) := by decide +kernel
theorem dJ6_compare_7cf53_14 : decode cJ6_compare_7cf53 14 = .ok (.iconst 0, 1) := by decide +kernel
theorem dJ6_compare_7cf53_15 : decode cJ6_compare_7cf53 15 = .ok (.goto 4, 3) := by decide +kernel
theorem dJ6_compare_7cf53_18 : decode cJ6_compare_7cf53 18 = .ok (.iconst 1, 1) := by decide +kernel
theorem dJ6_compare_7cf53_19 : decode cJ6_compare_7cf53 19 = .ok (.ireturn, 1) := by decide +kernel
theorem dJ6_bitCount_0f7a4_0 : decode cJ6_bitCount_0f7a4 0 = .ok (.iload_n 0, 1) := by decide +kernel
theorem dJ6_bitCount_0f7a4_1 : decode cJ6_bitCount_0f7a4 1 = .ok (.iload_n 0, 1) := by decide +kernel
theorem dJ6_bitCount_0f7a4_2 : decode cJ6_bitCount_0f7a4 2 = .ok (.iconst 1, 1) := by decide +kernel
theorem dJ6_bitCount_0f7a4_3 : decode cJ6_bitCount_0f7a4 3 = .ok (.iushr, 1) := by decide +kernel
theorem dJ6_bitCount_0f7a4_4 : decode cJ6_bitCount_0f7a4 4 = .ok (.ldc_w 265, 3) := by decide +kernel
theorem dJ6_bitCount_0f7a4_7 : decode cJ6_bitCount_0f7a4 7 = .ok (.iand, 1) := by decide +kernel
theorem dJ6_bitCount_0f7a4_8 : decode cJ6_bitCount_0f7a4 8 = .ok (.isub, 1) := by decide +kernel
theorem dJ6_bitCount_0f7a4_9 : decode cJ6_bitCount_0f7a4 9 = .ok (.istore_n 0, 1) := by decide +kernel
theorem dJ6_bitCount_0f7a4_10 : decode cJ6_bitCount_0f7a4 10 = .ok (.iload_n 0, 1) := by decide +kernel
theorem dJ6_bitCount_0f7a4_11 : decode cJ6_bitCount_0f7a4 11 = .ok (.ldc_w 266, 3) := by decide +kernel
theorem dJ6_bitCount_0f7a4_14 : decode cJ6_bitCount_0f7a4 14 = .ok (.iand, 1) := by decide +kernel
theorem dJ6_bitCount_0f7a4_15 : decode cJ6_bitCount_0f7a4 15 = .ok (.iload_n 0, 1) := by decide +kernel
theorem dJ6_bitCount_0f7a4_16 : decode cJ6_bitCount_0f7a4 16 = .ok (.iconst 2, 1) := by decide +kernel
theorem dJ6_bitCount_0f7a4_17 : decode cJ6_bitCount_0f7a4 17 = .ok (.iushr, 1) := by decide +kernel
theorem dJ6_bitCount_0f7a4_18 : decode cJ6_bitCount_0f7a4 18 = .ok (.ldc_w 266, 3) := by decide +kernel
theorem dJ6_bitCount_0f7a4_21 : decode cJ6_bitCount_0f7a4 21 = .ok (.iand, 1) := by decide +kernel
theorem dJ6_bitCount_0f7a4_22 : decode cJ6_bitCount_0f7a4 22 = .ok (.iadd, 1) := by decide +kernel
theorem dJ6_bitCount_0f7a4_23 : decode cJ6_bitCount_0f7a4 23 = .ok (.istore_n 0, 1) := by decide +kernel
theorem dJ6_bitCount_0f7a4_24 : decode cJ6_bitCount_0f7a4 24 = .ok (.iload_n 0, 1) := by decide +kernel
theorem dJ6_bitCount_0f7a4_25 : decode cJ6_bitCount_0f7a4 25 = .ok (.iload_n 0, 1) := by decide +kernel
theorem dJ6_bitCount_0f7a4_26 : decode cJ6_bitCount_0f7a4 26 = .ok (.iconst 4, 1) := by decide +kernel
theorem dJ6_bitCount_0f7a4_27 : decode cJ6_bitCount_0f7a4 27 = .ok (.iushr, 1) := by decide +kernel
theorem dJ6_bitCount_0f7a4_28 : decode cJ6_bitCount_0f7a4 28 = .ok (.iadd, 1) := by decide +kernel
theorem dJ6_bitCount_0f7a4_29 : decode cJ6_bitCount_0f7a4 29 = .ok (.ldc_w 267, 3) := by decide +kernel
theorem dJ6_bitCount_0f7a4_32 : decode cJ6_bitCount_0f7a4 32 = .ok (.iand, 1) := by decide +kernel
theorem dJ6_bitCount_0f7a4_33 : decode cJ6_bitCount_0f7a4 33 = .ok (.istore_n 0, 1) := by decide +kernel
theorem dJ6_bitCount_0f7a4_34 : decode cJ6_bitCount_0f7a4 34 = .ok (.iload_n 0, 1) := by decide +kernel
theorem dJ6_bitCount_0f7a4_35 : decode cJ6_bitCount_0f7a4 35 = .ok (.iload_n 0, 1) := by decide +kernel
theorem dJ6_bitCount_0f7a4_36 : decode cJ6_bitCount_0f7a4 36 = .ok (.bipush 8, 2) := by decide +kernel
theorem dJ6_bitCount_0f7a4_38 : decode cJ6_bitCount_0f7a4 38 = .ok (.iushr, 1) := by decide +kernel
theorem dJ6_bitCount_0f7a4_39 : decode cJ6_bitCount_0f7a4 39 = .ok (.iadd, 1) := by decide +kernel
theorem dJ6_bitCount_0f7a4_40 : decode cJ6_bitCount_0f7a4 40 = .ok (.istore_n 0, 1) := by decide +kernel
theorem dJ6_bitCount_0f7a4_41 : decode cJ6_bitCount_0f7a4 41 = .ok (.iload_n 0, 1) := by decide +kernel
theorem dJ6_bitCount_0f7a4_42 : decode cJ6_bitCount_0f7a4 42 = .ok (.iload_n 0, 1) := by decide +kernel
theorem dJ6_bitCount_0f7a4_43 : decode cJ6_bitCount_0f7a4 43 = .ok (.bipush 16, 2) := by decide +kernel
theorem dJ6_bitCount_0f7a4_45 : decode cJ6_bitCount_0f7a4 45 = .ok (.iushr, 1) := by decide +kernel
theorem dJ6_bitCount_0f7a4_46 : decode cJ6_bitCount_0f7a4 46 = .ok (.iadd, 1) := by decide +kernel
theorem dJ6_bitCount_0f7a4_47 : decode cJ6_bitCount_0f7a4 47 = .ok (.istore_n 0, 1) := by decide +kernel
theorem dJ6_bitCount_0f7a4_48 : decode cJ6_bitCount_0f7a4 48 = .ok (.iload_n 0, 1) := by decide +kernel
theorem dJ6_bitCount_0f7a4_49 : decode cJ6_bitCount_0f7a4 49 = .ok (.bipush 63, 2) := by decide +kernel
theorem dJ6_bitCount_0f7a4_51 : decode cJ6_bitCount_0f7a4 51 = .ok (.iand, 1) := by decide +kernel
theorem dJ6_bitCount_0f7a4_52 : decode cJ6_bitCount_0f7a4 52 = .ok (.ireturn, 1) := by decide +kernel
theorem dJ9_max_7cf53_0 : decode cJ9_max_7cf53 0 = .ok (.iload_n 0, 1) := by decide +kernel
theorem dJ9_max_7cf53_1 : decode cJ9_max_7cf53 1 = .ok (.iload_n 1, 1) := by decide +kernel
theorem dJ9_max_7cf53_2 : decode cJ9_max_7cf53 2 = .ok (.if_icmp .lt 7, 3) := by decide +kernel
theorem dJ9_max_7cf53_5 : decode cJ9_max_7cf53 5 = .ok (.iload_n 0, 1) := by decide +kernel
theorem dJ9_max_7cf53_6 : decode cJ9_max_7cf53 6 = .ok (.goto 4, 3) := by decide +kernel
theorem dJ9_max_7cf53_9 : decode cJ9_max_7cf53 9 = .ok (.iload_n 1, 1) := by decide +kernel
theorem dJ9_max_7cf53_10 : decode cJ9_max_7cf53 10 = .ok (.ireturn, 1) := by decide +kernel
theorem dJ9_max_f86c9_0 : decode cJ9_max_f86c9 0 = .ok (.lload_n 0, 1) := by decide +kernel
theorem dJ9_max_f86c9_1 : decode cJ9_max_f86c9 1 = .ok (.lload_n 2, 1) := by decide +kernel
theorem dJ9_max_f86c9_2 : decode cJ9_max_f86c9 2 = .ok (.lcmp, 1) := by decide +kernel
theorem dJ9_max_f86c9_3 : decode cJ9_max_f86c9 3 = .ok (.ifCond .lt 7, 3) := by decide +kernel
theorem dJ9_max_f86c9_6 : decode cJ9_max_f86c9 6 = .ok (.lload_n 0, 1) := by decide +kernel
theorem dJ9_max_f86c9_7 : decode cJ9_max_f86c9 7 = .ok (.goto 4, 3) := by decide +kernel
theorem dJ9_max_f86c9_10 : decode cJ9_max_f86c9 10 = .ok (.lload_n 2, 1) := by decide +kernel
theorem dJ9_max_f86c9_11 : decode cJ9_max_f86c9 11 = .ok (.lreturn, 1) := by decide +kernel
theorem dJ9_min_7cf53_0 : decode cJ9_min_7cf53 0 = .ok (.iload_n 0, 1) := by decide +kernel
theorem dJ9_min_7cf53_1 : decode cJ9_min_7cf53 1 = .ok (.iload_n 1, 1) := by decide +kernel
theorem dJ9_min_7cf53_2 : decode cJ9_min_7cf53 2 = .ok (.if_icmp .gt 7, 3) := by decide +kernel
theorem dJ9_min_7cf53_5 : decode cJ9_min_7cf53 5 = .ok (.iload_n 0, 1) := by decide +kernel
theorem dJ9_min_7cf53_6 : decode cJ9_min_7cf53 6 = .ok (.goto 4, 3) := by decide +kernel
theorem dJ9_min_7cf53_9 : decode cJ9_min_7cf53 9 = .ok (.iload_n 1, 1) := by decide +kernel
theorem dJ9_min_7cf53_10 : decode cJ9_min_7cf53 10 = .ok (.ireturn, 1) := by decide +kernel
theorem dJ9_min_f86c9_0 : decode cJ9_min_f86c9 0 = .ok (.lload_n 0, 1) := by decide +kernel
theorem dJ9_min_f86c9_1 : decode cJ9_min_f86c9 1 = .ok (.lload_n 2, 1) := by decide +kernel
theorem dJ9_min_f86c9_2 : decode cJ9_min_f86c9 2 = .ok (.lcmp, 1) := by decide +kernel
theorem dJ9_min_f86c9_3 : decode cJ9_min_f86c9 3 = .ok (.ifCond .gt 7, 3) := by decide +kernel
theorem dJ9_min_f86c9_6 : decode cJ9_min_f86c9 6 = .ok (.lload_n 0, 1) := by decide +kernel
theorem dJ9_min_f86c9_7 : decode cJ9_min_f86c9 7 = .ok (.goto 4, 3) := by decide +kernel
theorem dJ9_min_f86c9_10 : decode cJ9_min_f86c9 10 = .ok (.lload_n 2, 1) := by decide +kernel
theorem dJ9_min_f86c9_11 : decode cJ9_min_f86c9 11 = .ok (.lreturn, 1) := by decide +kernel
theorem dX0_init_0 : decode cX0_init 0 = .ok (.aload_n 0, 1) := by decide +kernel
theorem dX0_init_1 : decode cX0_init 1 = .ok (.invokespecial 3, 3) := by decide +kernel
theorem dX0_init_4 : decode cX0_init 4 = .ok (.aload_n 0, 1) := by decide +kernel
theorem dX0_init_5 : decode cX0_init 5 = .ok (.bipush 60, 2) := by decide +kernel
theorem dX0_init_7 : decode cX0_init 7 = .ok (.newarray .char, 2) := by decide +kernel
theorem dX0_init_9 : decode cX0_init 9 = .ok (.putfield 9, 3) := by decide +kernel
theorem dX0_init_12 : decode cX0_init 12 = .ok (.aload_n 0, 1) := by decide +kernel
theorem dX0_init_13 : decode cX0_init 13 = .ok (.bipush 10, 2) := by decide +kernel
theorem dX0_init_15 : decode cX0_init 15 = .ok (.newarray .int, 2) := by decide +kernel
theorem dX0_init_17 : decode cX0_init 17 = .ok (.putfield 15, 3) := by decide +kernel
theorem dX0_init_20 : decode cX0_init 20 = .ok (.return_, 1) := by decide +kernel
theorem dX0_copyFrom_0 : decode cX0_copyFrom 0 = .ok (.aload_n 1, 1) := by decide +kernel
theorem dX0_copyFrom_1 : decode cX0_copyFrom 1 = .ok (.getfield 9, 3) := by decide +kernel
theorem dX0_copyFrom_4 : decode cX0_copyFrom 4 = .ok (.iconst 0, 1) := by decide +kernel
theorem dX0_copyFrom_5 : decode cX0_copyFrom 5 = .ok (.aload_n 0, 1) := by decide +kernel
theorem dX0_copyFrom_6 : decode cX0_copyFrom 6 = .ok (.getfield 9, 3) := by decide +kernel
theorem dX0_copyFrom_9 : decode cX0_copyFrom 9 = .ok (.iconst 0, 1) := by decide +kernel
theorem dX0_copyFrom_10 : decode cX0_copyFrom 10 = .ok (.bipush 60, 2) := by decide +kernel
theorem dX0_copyFrom_12 : decode cX0_copyFrom 12 = .ok (.invokestatic 19, 3) := by decide +kernel
theorem dX0_copyFrom_15 : decode cX0_copyFrom 15 = .ok (.aload_n 1, 1) := by decide +kernel
theorem dX0_copyFrom_16 : decode cX0_copyFrom 16 = .ok (.getfield 15, 3) := by decide +kernel
theorem dX0_copyFrom_19 : decode cX0_copyFrom 19 = .ok (.iconst 0, 1) := by decide +kernel
theorem dX0_copyFrom_20 : decode cX0_copyFrom 20 = .ok (.aload_n 0, 1) := by decide +kernel
theorem dX0_copyFrom_21 : decode cX0_copyFrom 21 = .ok (.getfield 15, 3) := by decide +kernel
theorem dX0_copyFrom_24 : decode cX0_copyFrom 24 = .ok (.iconst 0, 1) := by decide +kernel
theorem dX0_copyFrom_25 : decode cX0_copyFrom 25 = .ok (.bipush 10, 2) := by decide +kernel
theorem dX0_copyFrom_27 : decode cX0_copyFrom 27 = .ok (.invokestatic 19, 3) := by decide +kernel
theorem dX0_copyFrom_30 : decode cX0_copyFrom 30 = .ok (.aload_n 0, 1) := by decide +kernel
theorem dX0_copyFrom_31 : decode cX0_copyFrom 31 = .ok (.aload_n 1, 1) := by decide +kernel
theorem dX0_copyFrom_32 : decode cX0_copyFrom 32 = .ok (.getfield 25, 3) := by decide +kernel
theorem dX0_copyFrom_35 : decode cX0_copyFrom 35 = .ok (.putfield 25, 3) := by decide +kernel
theorem dX0_copyFrom_38 : decode cX0_copyFrom 38 = .ok (.return_, 1) := by decide +kernel
theorem dX0_isFull_0 : decode cX0_isFull 0 = .ok (.aload_n 0, 1) := by decide +kernel
theorem dX0_isFull_1 : decode cX0_isFull 1 = .ok (.getfield 25, 3) := by decide +kernel
theorem dX0_isFull_4 : decode cX0_isFull 4 = .ok (.bipush 10, 2) := by decide +kernel
theorem dX0_isFull_6 : decode cX0_isFull 6 = .ok (.if_icmp .lt 7, 3) := by decide +kernel
theorem dX0_isFull_9 : decode cX0_isFull 9 = .ok (.iconst 1, 1) := by decide +kernel
theorem dX0_isFull_10 : decode cX0_isFull 10 = .ok (.goto 4, 3) := by decide +kernel
theorem dX0_isFull_13 : decode cX0_isFull 13 = .ok (.iconst 0, 1) := by decide +kernel
theorem dX0_isFull_14 : decode cX0_isFull 14 = .ok (.ireturn, 1) := by decide +kernel
theorem dX0_hasWord_0 : decode cX0_hasWord 0 = .ok (.iload_n 1, 1) := by decide +kernel
theorem dX0_hasWord_1 : decode cX0_hasWord 1 = .ok (.ifCond .lt 15, 3) := by decide +kernel
theorem dX0_hasWord_4 : decode cX0_hasWord 4 = .ok (.iload_n 1, 1) := by decide +kernel
theorem dX0_hasWord_5 : decode cX0_hasWord 5 = .ok (.aload_n 0, 1) := by decide +kernel
theorem dX0_hasWord_6 : decode cX0_hasWord 6 = .ok (.getfield 25, 3) := by decide +kernel
theorem dX0_hasWord_9 : decode cX0_hasWord 9 = .ok (.if_icmp .ge 7, 3) := by decide +kernel
theorem dX0_hasWord_12 : decode cX0_hasWord 12 = .ok (.iconst 1, 1) := by decide +kernel
theorem dX0_hasWord_13 : decode cX0_hasWord 13 = .ok (.goto 4, 3) := by decide +kernel
theorem dX0_hasWord_16 : decode cX0_hasWord 16 = .ok (.iconst 0, 1) := by decide +kernel
theorem dX0_hasWord_17 : decode cX0_hasWord 17 = .ok (.ireturn, 1) := by decide +kernel
theorem dX0_lengthOf_0 : decode cX0_lengthOf 0 = .ok (.iload_n 1, 1) := by decide +kernel
theorem dX0_lengthOf_1 : decode cX0_lengthOf 1 = .ok (.ifCond .lt 20, 3) := by decide +kernel
theorem dX0_lengthOf_4 : decode cX0_lengthOf 4 = .ok (.iload_n 1, 1) := by decide +kernel
theorem dX0_lengthOf_5 : decode cX0_lengthOf 5 = .ok (.aload_n 0, 1) := by decide +kernel
theorem dX0_lengthOf_6 : decode cX0_lengthOf 6 = .ok (.getfield 25, 3) := by decide +kernel
theorem dX0_lengthOf_9 : decode cX0_lengthOf 9 = .ok (.if_icmp .ge 12, 3) := by decide +kernel
theorem dX0_lengthOf_12 : decode cX0_lengthOf 12 = .ok (.aload_n 0, 1) := by decide +kernel
theorem dX0_lengthOf_13 : decode cX0_lengthOf 13 = .ok (.getfield 15, 3) := by decide +kernel
theorem dX0_lengthOf_16 : decode cX0_lengthOf 16 = .ok (.iload_n 1, 1) := by decide +kernel
theorem dX0_lengthOf_17 : decode cX0_lengthOf 17 = .ok (.iaload, 1) := by decide +kernel
theorem dX0_lengthOf_18 : decode cX0_lengthOf 18 = .ok (.goto 4, 3) := by decide +kernel
theorem dX0_lengthOf_21 : decode cX0_lengthOf 21 = .ok (.iconst 0, 1) := by decide +kernel
theorem dX0_lengthOf_22 : decode cX0_lengthOf 22 = .ok (.ireturn, 1) := by decide +kernel
theorem dX0_letterOf_0 : decode cX0_letterOf 0 = .ok (.iload_n 1, 1) := by decide +kernel
theorem dX0_letterOf_1 : decode cX0_letterOf 1 = .ok (.ifCond .lt 25, 3) := by decide +kernel
theorem dX0_letterOf_4 : decode cX0_letterOf 4 = .ok (.iload_n 1, 1) := by decide +kernel
theorem dX0_letterOf_5 : decode cX0_letterOf 5 = .ok (.aload_n 0, 1) := by decide +kernel
theorem dX0_letterOf_6 : decode cX0_letterOf 6 = .ok (.getfield 25, 3) := by decide +kernel
theorem dX0_letterOf_9 : decode cX0_letterOf 9 = .ok (.if_icmp .ge 17, 3) := by decide +kernel
theorem dX0_letterOf_12 : decode cX0_letterOf 12 = .ok (.iload_n 2, 1) := by decide +kernel
theorem dX0_letterOf_13 : decode cX0_letterOf 13 = .ok (.ifCond .lt 13, 3) := by decide +kernel
theorem dX0_letterOf_16 : decode cX0_letterOf 16 = .ok (.iload_n 2, 1) := by decide +kernel
theorem dX0_letterOf_17 : decode cX0_letterOf 17 = .ok (.aload_n 0, 1) := by decide +kernel
theorem dX0_letterOf_18 : decode cX0_letterOf 18 = .ok (.getfield 15, 3) := by decide +kernel
theorem dX0_letterOf_21 : decode cX0_letterOf 21 = .ok (.iload_n 1, 1) := by decide +kernel
theorem dX0_letterOf_22 : decode cX0_letterOf 22 = .ok (.iaload, 1) := by decide +kernel
theorem dX0_letterOf_23 : decode cX0_letterOf 23 = .ok (.if_icmp .lt 6, 3) := by decide +kernel
theorem dX0_letterOf_26 : decode cX0_letterOf 26 = .ok (.bipush 46, 2) := by decide +kernel
theorem dX0_letterOf_28 : decode cX0_letterOf 28 = .ok (.ireturn, 1) := by decide +kernel
theorem dX0_letterOf_29 : decode cX0_letterOf 29 = .ok (.aload_n 0, 1) := by decide +kernel
theorem dX0_letterOf_30 : decode cX0_letterOf 30 = .ok (.getfield 9, 3) := by decide +kernel
theorem dX0_letterOf_33 : decode cX0_letterOf 33 = .ok (.iload_n 1, 1) := by decide +kernel
theorem dX0_letterOf_34 : decode cX0_letterOf 34 = .ok (.bipush 6, 2) := by decide +kernel
theorem dX0_letterOf_36 : decode cX0_letterOf 36 = .ok (.imul, 1) := by decide +kernel
theorem dX0_letterOf_37 : decode cX0_letterOf 37 = .ok (.iload_n 2, 1) := by decide +kernel
theorem dX0_letterOf_38 : decode cX0_letterOf 38 = .ok (.iadd, 1) := by decide +kernel
theorem dX0_letterOf_39 : decode cX0_letterOf 39 = .ok (.caload, 1) := by decide +kernel
theorem dX0_letterOf_40 : decode cX0_letterOf 40 = .ok (.ireturn, 1) := by decide +kernel
theorem dX0_writeDown_0 : decode cX0_writeDown 0 = .ok (.aload_n 0, 1) := by decide +kernel
theorem dX0_writeDown_1 : decode cX0_writeDown 1 = .ok (.invokevirtual 29, 3) := by decide +kernel
theorem dX0_writeDown_4 : decode cX0_writeDown 4 = .ok (.ifCond .eq 5, 3) := by decide +kernel
theorem dX0_writeDown_7 : decode cX0_writeDown 7 = .ok (.iconst (-1), 1) := by decide +kernel
theorem dX0_writeDown_8 : decode cX0_writeDown 8 = .ok (.ireturn, 1) := by decide +kernel
theorem dX0_writeDown_9 : decode cX0_writeDown 9 = .ok (.aload_n 1, 1) := by decide +kernel
theorem dX0_writeDown_10 : decode cX0_writeDown 10 = .ok (.getfield 33, 3) := by decide +kernel
theorem dX0_writeDown_13 : decode cX0_writeDown 13 = .ok (.bipush 6, 2) := by decide +kernel
theorem dX0_writeDown_15 : decode cX0_writeDown 15 = .ok (.invokestatic 38, 3) := by decide +kernel
theorem dX0_writeDown_18 : decode cX0_writeDown 18 = .ok (.istore_n 2, 1) := by decide +kernel
theorem dX0_writeDown_19 : decode cX0_writeDown 19 = .ok (.aload_n 1, 1) := by decide +kernel
theorem dX0_writeDown_20 : decode cX0_writeDown 20 = .ok (.getfield 44, 3) := by decide +kernel
theorem dX0_writeDown_23 : decode cX0_writeDown 23 = .ok (.iconst 0, 1) := by decide +kernel
theorem dX0_writeDown_24 : decode cX0_writeDown 24 = .ok (.aload_n 0, 1) := by decide +kernel
theorem dX0_writeDown_25 : decode cX0_writeDown 25 = .ok (.getfield 9, 3) := by decide +kernel
theorem dX0_writeDown_28 : decode cX0_writeDown 28 = .ok (.aload_n 0, 1) := by decide +kernel
theorem dX0_writeDown_29 : decode cX0_writeDown 29 = .ok (.getfield 25, 3) := by decide +kernel
theorem dX0_writeDown_32 : decode cX0_writeDown 32 = .ok (.bipush 6, 2) := by decide +kernel
theorem dX0_writeDown_34 : decode cX0_writeDown 34 = .ok (.imul, 1) := by decide +kernel
theorem dX0_writeDown_35 : decode cX0_writeDown 35 = .ok (.iload_n 2, 1) := by decide +kernel
theorem dX0_writeDown_36 : decode cX0_writeDown 36 = .ok (.invokestatic 19, 3) := by decide +kernel
theorem dX0_writeDown_39 : decode cX0_writeDown 39 = .ok (.aload_n 0, 1) := by decide +kernel
theorem dX0_writeDown_40 : decode cX0_writeDown 40 = .ok (.getfield 15, 3) := by decide +kernel
theorem dX0_writeDown_43 : decode cX0_writeDown 43 = .ok (.aload_n 0, 1) := by decide +kernel
theorem dX0_writeDown_44 : decode cX0_writeDown 44 = .ok (.getfield 25, 3) := by decide +kernel
theorem dX0_writeDown_47 : decode cX0_writeDown 47 = .ok (.iload_n 2, 1) := by decide +kernel
theorem dX0_writeDown_48 : decode cX0_writeDown 48 = .ok (.iastore, 1) := by decide +kernel
theorem dX0_writeDown_49 : decode cX0_writeDown 49 = .ok (.aload_n 0, 1) := by decide +kernel
theorem dX0_writeDown_50 : decode cX0_writeDown 50 = .ok (.dup, 1) := by decide +kernel
theorem dX0_writeDown_51 : decode cX0_writeDown 51 = .ok (.getfield 25, 3) := by decide +kernel
theorem dX0_writeDown_54 : decode cX0_writeDown 54 = .ok (.iconst 1, 1) := by decide +kernel
theorem dX0_writeDown_55 : decode cX0_writeDown 55 = .ok (.iadd, 1) := by decide +kernel
theorem dX0_writeDown_56 : decode cX0_writeDown 56 = .ok (.putfield 25, 3) := by decide +kernel
theorem dX0_writeDown_59 : decode cX0_writeDown 59 = .ok (.aload_n 0, 1) := by decide +kernel
theorem dX0_writeDown_60 : decode cX0_writeDown 60 = .ok (.getfield 25, 3) := by decide +kernel
theorem dX0_writeDown_63 : decode cX0_writeDown 63 = .ok (.iconst 1, 1) := by decide +kernel
theorem dX0_writeDown_64 : decode cX0_writeDown 64 = .ok (.isub, 1) := by decide +kernel
theorem dX0_writeDown_65 : decode cX0_writeDown 65 = .ok (.ireturn, 1) := by decide +kernel
theorem dX0_strikeOut_0 : decode cX0_strikeOut 0 = .ok (.aload_n 0, 1) := by decide +kernel
theorem dX0_strikeOut_1 : decode cX0_strikeOut 1 = .ok (.iload_n 1, 1) := by decide +kernel
theorem dX0_strikeOut_2 : decode cX0_strikeOut 2 = .ok (.invokevirtual 47, 3) := by decide +kernel
theorem dX0_strikeOut_5 : decode cX0_strikeOut 5 = .ok (.ifCond .ne 4, 3) := by decide +kernel
theorem dX0_strikeOut_8 : decode cX0_strikeOut 8 = .ok (.return_, 1) := by decide +kernel
theorem dX0_strikeOut_9 : decode cX0_strikeOut 9 = .ok (.aload_n 0, 1) := by decide +kernel
theorem dX0_strikeOut_10 : decode cX0_strikeOut 10 = .ok (.getfield 25, 3) := by decide +kernel
theorem dX0_strikeOut_13 : decode cX0_strikeOut 13 = .ok (.iconst 1, 1) := by decide +kernel
theorem dX0_strikeOut_14 : decode cX0_strikeOut 14 = .ok (.isub, 1) := by decide +kernel
theorem dX0_strikeOut_15 : decode cX0_strikeOut 15 = .ok (.iload_n 1, 1) := by decide +kernel
theorem dX0_strikeOut_16 : decode cX0_strikeOut 16 = .ok (.isub, 1) := by decide +kernel
theorem dX0_strikeOut_17 : decode cX0_strikeOut 17 = .ok (.istore_n 2, 1) := by decide +kernel
theorem dX0_strikeOut_18 : decode cX0_strikeOut 18 = .ok (.aload_n 0, 1) := by decide +kernel
theorem dX0_strikeOut_19 : decode cX0_strikeOut 19 = .ok (.getfield 9, 3) := by decide +kernel
theorem dX0_strikeOut_22 : decode cX0_strikeOut 22 = .ok (.iload_n 1, 1) := by decide +kernel
theorem dX0_strikeOut_23 : decode cX0_strikeOut 23 = .ok (.iconst 1, 1) := by decide +kernel
theorem dX0_strikeOut_24 : decode cX0_strikeOut 24 = .ok (.iadd, 1) := by decide +kernel
theorem dX0_strikeOut_25 : decode cX0_strikeOut 25 = .ok (.bipush 6, 2) := by decide +kernel
theorem dX0_strikeOut_27 : decode cX0_strikeOut 27 = .ok (.imul, 1) := by decide +kernel
theorem dX0_strikeOut_28 : decode cX0_strikeOut 28 = .ok (.aload_n 0, 1) := by decide +kernel
theorem dX0_strikeOut_29 : decode cX0_strikeOut 29 = .ok (.getfield 9, 3) := by decide +kernel
theorem dX0_strikeOut_32 : decode cX0_strikeOut 32 = .ok (.iload_n 1, 1) := by decide +kernel
theorem dX0_strikeOut_33 : decode cX0_strikeOut 33 = .ok (.bipush 6, 2) := by decide +kernel
theorem dX0_strikeOut_35 : decode cX0_strikeOut 35 = .ok (.imul, 1) := by decide +kernel
theorem dX0_strikeOut_36 : decode cX0_strikeOut 36 = .ok (.iload_n 2, 1) := by decide +kernel
theorem dX0_strikeOut_37 : decode cX0_strikeOut 37 = .ok (.bipush 6, 2) := by decide +kernel
theorem dX0_strikeOut_39 : decode cX0_strikeOut 39 = .ok (.imul, 1) := by decide +kernel
theorem dX0_strikeOut_40 : decode cX0_strikeOut 40 = .ok (.invokestatic 19, 3) := by decide +kernel
theorem dX0_strikeOut_43 : decode cX0_strikeOut 43 = .ok (.aload_n 0, 1) := by decide +kernel
theorem dX0_strikeOut_44 : decode cX0_strikeOut 44 = .ok (.getfield 15, 3) := by decide +kernel
theorem dX0_strikeOut_47 : decode cX0_strikeOut 47 = .ok (.iload_n 1, 1) := by decide +kernel
theorem dX0_strikeOut_48 : decode cX0_strikeOut 48 = .ok (.iconst 1, 1) := by decide +kernel
theorem dX0_strikeOut_49 : decode cX0_strikeOut 49 = .ok (.iadd, 1) := by decide +kernel
theorem dX0_strikeOut_50 : decode cX0_strikeOut 50 = .ok (.aload_n 0, 1) := by decide +kernel
theorem dX0_strikeOut_51 : decode cX0_strikeOut 51 = .ok (.getfield 15, 3) := by decide +kernel
theorem dX0_strikeOut_54 : decode cX0_strikeOut 54 = .ok (.iload_n 1, 1) := by decide +kernel
theorem dX0_strikeOut_55 : decode cX0_strikeOut 55 = .ok (.iload_n 2, 1) := by decide +kernel
theorem dX0_strikeOut_56 : decode cX0_strikeOut 56 = .ok (.invokestatic 19, 3) := by decide +kernel
theorem dX0_strikeOut_59 : decode cX0_strikeOut 59 = .ok (.aload_n 0, 1) := by decide +kernel
theorem dX0_strikeOut_60 : decode cX0_strikeOut 60 = .ok (.dup, 1) := by decide +kernel
theorem dX0_strikeOut_61 : decode cX0_strikeOut 61 = .ok (.getfield 25, 3) := by decide +kernel
theorem dX0_strikeOut_64 : decode cX0_strikeOut 64 = .ok (.iconst 1, 1) := by decide +kernel
theorem dX0_strikeOut_65 : decode cX0_strikeOut 65 = .ok (.isub, 1) := by decide +kernel
theorem dX0_strikeOut_66 : decode cX0_strikeOut 66 = .ok (.putfield 25, 3) := by decide +kernel
theorem dX0_strikeOut_69 : decode cX0_strikeOut 69 = .ok (.return_, 1) := by decide +kernel
theorem dX0_standsFrom_0 : decode cX0_standsFrom 0 = .ok (.aload_n 0, 1) := by decide +kernel
theorem dX0_standsFrom_1 : decode cX0_standsFrom 1 = .ok (.iload_n 1, 1) := by decide +kernel
theorem dX0_standsFrom_2 : decode cX0_standsFrom 2 = .ok (.invokevirtual 51, 3) := by decide +kernel
theorem dX0_standsFrom_5 : decode cX0_standsFrom 5 = .ok (.istore 5, 2) := by decide +kernel
theorem dX0_standsFrom_7 : decode cX0_standsFrom 7 = .ok (.iload 5, 2) := by decide +kernel
theorem dX0_standsFrom_9 : decode cX0_standsFrom 9 = .ok (.aload_n 2, 1) := by decide +kernel
theorem dX0_standsFrom_10 : decode cX0_standsFrom 10 = .ok (.getfield 55, 3) := by decide +kernel
theorem dX0_standsFrom_13 : decode cX0_standsFrom 13 = .ok (.if_icmp .le 5, 3) := by decide +kernel
theorem dX0_standsFrom_16 : decode cX0_standsFrom 16 = .ok (.iconst 0, 1) := by decide +kernel
theorem dX0_standsFrom_17 : decode cX0_standsFrom 17 = .ok (.ireturn, 1) := by decide +kernel
theorem dX0_standsFrom_18 : decode cX0_standsFrom 18 = .ok (.iconst 0, 1) := by decide +kernel
theorem dX0_standsFrom_19 : decode cX0_standsFrom 19 = .ok (.istore 6, 2) := by decide +kernel
theorem dX0_standsFrom_21 : decode cX0_standsFrom 21 = .ok (.iload 6, 2) := by decide +kernel
theorem dX0_standsFrom_23 : decode cX0_standsFrom 23 = .ok (.iload 5, 2) := by decide +kernel
theorem dX0_standsFrom_25 : decode cX0_standsFrom 25 = .ok (.if_icmp .ge 45, 3) := by decide +kernel
theorem dX0_standsFrom_28 : decode cX0_standsFrom 28 = .ok (.aload_n 2, 1) := by decide +kernel
theorem dX0_standsFrom_29 : decode cX0_standsFrom 29 = .ok (.aload_n 2, 1) := by decide +kernel
theorem dX0_standsFrom_30 : decode cX0_standsFrom 30 = .ok (.iload_n 3, 1) := by decide +kernel
theorem dX0_standsFrom_31 : decode cX0_standsFrom 31 = .ok (.iload 4, 2) := by decide +kernel
theorem dX0_standsFrom_33 : decode cX0_standsFrom 33 = .ok (.iload 6, 2) := by decide +kernel
theorem dX0_standsFrom_35 : decode cX0_standsFrom 35 = .ok (.invokevirtual 60, 3) := by decide +kernel
theorem dX0_standsFrom_38 : decode cX0_standsFrom 38 = .ok (.invokevirtual 64, 3) := by decide +kernel
theorem dX0_standsFrom_41 : decode cX0_standsFrom 41 = .ok (.istore 7, 2) := by decide +kernel
theorem dX0_standsFrom_43 : decode cX0_standsFrom 43 = .ok (.iload 7, 2) := by decide +kernel
theorem dX0_standsFrom_45 : decode cX0_standsFrom 45 = .ok (.bipush 63, 2) := by decide +kernel
theorem dX0_standsFrom_47 : decode cX0_standsFrom 47 = .ok (.if_icmp .eq 17, 3) := by decide +kernel
theorem dX0_standsFrom_50 : decode cX0_standsFrom 50 = .ok (.iload 7, 2) := by decide +kernel
theorem dX0_standsFrom_52 : decode cX0_standsFrom 52 = .ok (.aload_n 0, 1) := by decide +kernel
theorem dX0_standsFrom_53 : decode cX0_standsFrom 53 = .ok (.iload_n 1, 1) := by decide +kernel
theorem dX0_standsFrom_54 : decode cX0_standsFrom 54 = .ok (.iload 6, 2) := by decide +kernel
theorem dX0_standsFrom_56 : decode cX0_standsFrom 56 = .ok (.invokevirtual 68, 3) := by decide +kernel
theorem dX0_standsFrom_59 : decode cX0_standsFrom 59 = .ok (.if_icmp .eq 5, 3) := by decide +kernel
theorem dX0_standsFrom_62 : decode cX0_standsFrom 62 = .ok (.iconst 0, 1) := by decide +kernel
theorem dX0_standsFrom_63 : decode cX0_standsFrom 63 = .ok (.ireturn, 1) := by decide +kernel
theorem dX0_standsFrom_64 : decode cX0_standsFrom 64 = .ok (.iinc 6 1, 3) := by decide +kernel
theorem dX0_standsFrom_67 : decode cX0_standsFrom 67 = .ok (.goto (-46), 3) := by decide +kernel
theorem dX0_standsFrom_70 : decode cX0_standsFrom 70 = .ok (.iconst 1, 1) := by decide +kernel
theorem dX0_standsFrom_71 : decode cX0_standsFrom 71 = .ok (.ireturn, 1) := by decide +kernel
theorem dX0_placeOf_0 : decode cX0_placeOf 0 = .ok (.iconst 0, 1) := by decide +kernel
theorem dX0_placeOf_1 : decode cX0_placeOf 1 = .ok (.istore 5, 2) := by decide +kernel
theorem dX0_placeOf_3 : decode cX0_placeOf 3 = .ok (.iconst 0, 1) := by decide +kernel
theorem dX0_placeOf_4 : decode cX0_placeOf 4 = .ok (.istore 6, 2) := by decide +kernel
theorem dX0_placeOf_6 : decode cX0_placeOf 6 = .ok (.iload 6, 2) := by decide +kernel
theorem dX0_placeOf_8 : decode cX0_placeOf 8 = .ok (.aload_n 2, 1) := by decide +kernel
theorem dX0_placeOf_9 : decode cX0_placeOf 9 = .ok (.getfield 55, 3) := by decide +kernel
theorem dX0_placeOf_12 : decode cX0_placeOf 12 = .ok (.if_icmp .ge 34, 3) := by decide +kernel
theorem dX0_placeOf_15 : decode cX0_placeOf 15 = .ok (.aload_n 0, 1) := by decide +kernel
theorem dX0_placeOf_16 : decode cX0_placeOf 16 = .ok (.iload_n 1, 1) := by decide +kernel
theorem dX0_placeOf_17 : decode cX0_placeOf 17 = .ok (.aload_n 2, 1) := by decide +kernel
theorem dX0_placeOf_18 : decode cX0_placeOf 18 = .ok (.iload 6, 2) := by decide +kernel
theorem dX0_placeOf_20 : decode cX0_placeOf 20 = .ok (.iload_n 3, 1) := by decide +kernel
theorem dX0_placeOf_21 : decode cX0_placeOf 21 = .ok (.invokevirtual 72, 3) := by decide +kernel
theorem dX0_placeOf_24 : decode cX0_placeOf 24 = .ok (.ifCond .eq 16, 3) := by decide +kernel
theorem dX0_placeOf_27 : decode cX0_placeOf 27 = .ok (.iload 5, 2) := by decide +kernel
theorem dX0_placeOf_29 : decode cX0_placeOf 29 = .ok (.iload 4, 2) := by decide +kernel
theorem dX0_placeOf_31 : decode cX0_placeOf 31 = .ok (.if_icmp .ne 6, 3) := by decide +kernel
theorem dX0_placeOf_34 : decode cX0_placeOf 34 = .ok (.iload 6, 2) := by decide +kernel
theorem dX0_placeOf_36 : decode cX0_placeOf 36 = .ok (.ireturn, 1) := by decide +kernel
theorem dX0_placeOf_37 : decode cX0_placeOf 37 = .ok (.iinc 5 1, 3) := by decide +kernel
theorem dX0_placeOf_40 : decode cX0_placeOf 40 = .ok (.iinc 6 1, 3) := by decide +kernel
theorem dX0_placeOf_43 : decode cX0_placeOf 43 = .ok (.goto (-37), 3) := by decide +kernel
theorem dX0_placeOf_46 : decode cX0_placeOf 46 = .ok (.iconst (-1), 1) := by decide +kernel
theorem dX0_placeOf_47 : decode cX0_placeOf 47 = .ok (.ireturn, 1) := by decide +kernel
theorem dX0_fits_0 : decode cX0_fits 0 = .ok (.aload_n 0, 1) := by decide +kernel
theorem dX0_fits_1 : decode cX0_fits 1 = .ok (.iload_n 1, 1) := by decide +kernel
theorem dX0_fits_2 : decode cX0_fits 2 = .ok (.invokevirtual 51, 3) := by decide +kernel
theorem dX0_fits_5 : decode cX0_fits 5 = .ok (.aload_n 2, 1) := by decide +kernel
theorem dX0_fits_6 : decode cX0_fits 6 = .ok (.iload_n 3, 1) := by decide +kernel
theorem dX0_fits_7 : decode cX0_fits 7 = .ok (.iload 4, 2) := by decide +kernel
theorem dX0_fits_9 : decode cX0_fits 9 = .ok (.invokevirtual 76, 3) := by decide +kernel
theorem dX0_fits_12 : decode cX0_fits 12 = .ok (.if_icmp .ne 26, 3) := by decide +kernel
theorem dX0_fits_15 : decode cX0_fits 15 = .ok (.aload_n 0, 1) := by decide +kernel
theorem dX0_fits_16 : decode cX0_fits 16 = .ok (.iload_n 1, 1) := by decide +kernel
theorem dX0_fits_17 : decode cX0_fits 17 = .ok (.aload_n 2, 1) := by decide +kernel
theorem dX0_fits_18 : decode cX0_fits 18 = .ok (.aload_n 2, 1) := by decide +kernel
theorem dX0_fits_19 : decode cX0_fits 19 = .ok (.iload_n 3, 1) := by decide +kernel
theorem dX0_fits_20 : decode cX0_fits 20 = .ok (.iload 4, 2) := by decide +kernel
theorem dX0_fits_22 : decode cX0_fits 22 = .ok (.iconst 1, 1) := by decide +kernel
theorem dX0_fits_23 : decode cX0_fits 23 = .ok (.invokevirtual 60, 3) := by decide +kernel
theorem dX0_fits_26 : decode cX0_fits 26 = .ok (.iload 4, 2) := by decide +kernel
theorem dX0_fits_28 : decode cX0_fits 28 = .ok (.invokevirtual 72, 3) := by decide +kernel
theorem dX0_fits_31 : decode cX0_fits 31 = .ok (.ifCond .eq 7, 3) := by decide +kernel
theorem dX0_fits_34 : decode cX0_fits 34 = .ok (.iconst 1, 1) := by decide +kernel
theorem dX0_fits_35 : decode cX0_fits 35 = .ok (.goto 4, 3) := by decide +kernel
theorem dX0_fits_38 : decode cX0_fits 38 = .ok (.iconst 0, 1) := by decide +kernel
theorem dX0_fits_39 : decode cX0_fits 39 = .ok (.ireturn, 1) := by decide +kernel
theorem dX0_countFitting_0 : decode cX0_countFitting 0 = .ok (.iconst 0, 1) := by decide +kernel
theorem dX0_countFitting_1 : decode cX0_countFitting 1 = .ok (.istore 4, 2) := by decide +kernel
theorem dX0_countFitting_3 : decode cX0_countFitting 3 = .ok (.iconst 0, 1) := by decide +kernel
theorem dX0_countFitting_4 : decode cX0_countFitting 4 = .ok (.istore 5, 2) := by decide +kernel
theorem dX0_countFitting_6 : decode cX0_countFitting 6 = .ok (.iload 5, 2) := by decide +kernel
theorem dX0_countFitting_8 : decode cX0_countFitting 8 = .ok (.aload_n 0, 1) := by decide +kernel
theorem dX0_countFitting_9 : decode cX0_countFitting 9 = .ok (.getfield 25, 3) := by decide +kernel
theorem dX0_countFitting_12 : decode cX0_countFitting 12 = .ok (.if_icmp .ge 24, 3) := by decide +kernel
theorem dX0_countFitting_15 : decode cX0_countFitting 15 = .ok (.aload_n 0, 1) := by decide +kernel
theorem dX0_countFitting_16 : decode cX0_countFitting 16 = .ok (.iload 5, 2) := by decide +kernel
theorem dX0_countFitting_18 : decode cX0_countFitting 18 = .ok (.aload_n 1, 1) := by decide +kernel
theorem dX0_countFitting_19 : decode cX0_countFitting 19 = .ok (.iload_n 2, 1) := by decide +kernel
theorem dX0_countFitting_20 : decode cX0_countFitting 20 = .ok (.iload_n 3, 1) := by decide +kernel
theorem dX0_countFitting_21 : decode cX0_countFitting 21 = .ok (.invokevirtual 79, 3) := by decide +kernel
theorem dX0_countFitting_24 : decode cX0_countFitting 24 = .ok (.ifCond .eq 6, 3) := by decide +kernel
theorem dX0_countFitting_27 : decode cX0_countFitting 27 = .ok (.iinc 4 1, 3) := by decide +kernel
theorem dX0_countFitting_30 : decode cX0_countFitting 30 = .ok (.iinc 5 1, 3) := by decide +kernel
theorem dX0_countFitting_33 : decode cX0_countFitting 33 = .ok (.goto (-27), 3) := by decide +kernel
theorem dX0_countFitting_36 : decode cX0_countFitting 36 = .ok (.iload 4, 2) := by decide +kernel
theorem dX0_countFitting_38 : decode cX0_countFitting 38 = .ok (.ireturn, 1) := by decide +kernel
theorem dX0_lowestFitting_0 : decode cX0_lowestFitting 0 = .ok (.iconst 0, 1) := by decide +kernel
theorem dX0_lowestFitting_1 : decode cX0_lowestFitting 1 = .ok (.istore 4, 2) := by decide +kernel
theorem dX0_lowestFitting_3 : decode cX0_lowestFitting 3 = .ok (.iload 4, 2) := by decide +kernel
theorem dX0_lowestFitting_5 : decode cX0_lowestFitting 5 = .ok (.aload_n 0, 1) := by decide +kernel
theorem dX0_lowestFitting_6 : decode cX0_lowestFitting 6 = .ok (.getfield 25, 3) := by decide +kernel
theorem dX0_lowestFitting_9 : decode cX0_lowestFitting 9 = .ok (.if_icmp .ge 24, 3) := by decide +kernel
theorem dX0_lowestFitting_12 : decode cX0_lowestFitting 12 = .ok (.aload_n 0, 1) := by decide +kernel
theorem dX0_lowestFitting_13 : decode cX0_lowestFitting 13 = .ok (.iload 4, 2) := by decide +kernel
theorem dX0_lowestFitting_15 : decode cX0_lowestFitting 15 = .ok (.aload_n 1, 1) := by decide +kernel
theorem dX0_lowestFitting_16 : decode cX0_lowestFitting 16 = .ok (.iload_n 2, 1) := by decide +kernel
theorem dX0_lowestFitting_17 : decode cX0_lowestFitting 17 = .ok (.iload_n 3, 1) := by decide +kernel
theorem dX0_lowestFitting_18 : decode cX0_lowestFitting 18 = .ok (.invokevirtual 79, 3) := by decide +kernel
theorem dX0_lowestFitting_21 : decode cX0_lowestFitting 21 = .ok (.ifCond .eq 6, 3) := by decide +kernel
theorem dX0_lowestFitting_24 : decode cX0_lowestFitting 24 = .ok (.iload 4, 2) := by decide +kernel
theorem dX0_lowestFitting_26 : decode cX0_lowestFitting 26 = .ok (.ireturn, 1) := by decide +kernel
theorem dX0_lowestFitting_27 : decode cX0_lowestFitting 27 = .ok (.iinc 4 1, 3) := by decide +kernel
theorem dX0_lowestFitting_30 : decode cX0_lowestFitting 30 = .ok (.goto (-27), 3) := by decide +kernel
theorem dX0_lowestFitting_33 : decode cX0_lowestFitting 33 = .ok (.iconst (-1), 1) := by decide +kernel
theorem dX0_lowestFitting_34 : decode cX0_lowestFitting 34 = .ok (.ireturn, 1) := by decide +kernel
theorem dX0_lettersFitting_0 : decode cX0_lettersFitting 0 = .ok (.iconst 0, 1) := by decide +kernel
theorem dX0_lettersFitting_1 : decode cX0_lettersFitting 1 = .ok (.istore 5, 2) := by decide +kernel
theorem dX0_lettersFitting_3 : decode cX0_lettersFitting 3 = .ok (.iconst 0, 1) := by decide +kernel
theorem dX0_lettersFitting_4 : decode cX0_lettersFitting 4 = .ok (.istore 6, 2) := by decide +kernel
theorem dX0_lettersFitting_6 : decode cX0_lettersFitting 6 = .ok (.iload 6, 2) := by decide +kernel
theorem dX0_lettersFitting_8 : decode cX0_lettersFitting 8 = .ok (.aload_n 0, 1) := by decide +kernel
theorem dX0_lettersFitting_9 : decode cX0_lettersFitting 9 = .ok (.getfield 25, 3) := by decide +kernel
theorem dX0_lettersFitting_12 : decode cX0_lettersFitting 12 = .ok (.if_icmp .ge 50, 3) := by decide +kernel
theorem dX0_lettersFitting_15 : decode cX0_lettersFitting 15 = .ok (.iload 4, 2) := by decide +kernel
theorem dX0_lettersFitting_17 : decode cX0_lettersFitting 17 = .ok (.aload_n 0, 1) := by decide +kernel
theorem dX0_lettersFitting_18 : decode cX0_lettersFitting 18 = .ok (.iload 6, 2) := by decide +kernel
theorem dX0_lettersFitting_20 : decode cX0_lettersFitting 20 = .ok (.invokevirtual 51, 3) := by decide +kernel
theorem dX0_lettersFitting_23 : decode cX0_lettersFitting 23 = .ok (.if_icmp .ge 33, 3) := by decide +kernel
theorem dX0_lettersFitting_26 : decode cX0_lettersFitting 26 = .ok (.aload_n 0, 1) := by decide +kernel
theorem dX0_lettersFitting_27 : decode cX0_lettersFitting 27 = .ok (.iload 6, 2) := by decide +kernel
theorem dX0_lettersFitting_29 : decode cX0_lettersFitting 29 = .ok (.aload_n 1, 1) := by decide +kernel
theorem dX0_lettersFitting_30 : decode cX0_lettersFitting 30 = .ok (.iload_n 2, 1) := by decide +kernel
theorem dX0_lettersFitting_31 : decode cX0_lettersFitting 31 = .ok (.iload_n 3, 1) := by decide +kernel
theorem dX0_lettersFitting_32 : decode cX0_lettersFitting 32 = .ok (.invokevirtual 79, 3) := by decide +kernel
theorem dX0_lettersFitting_35 : decode cX0_lettersFitting 35 = .ok (.ifCond .eq 21, 3) := by decide +kernel
theorem dX0_lettersFitting_38 : decode cX0_lettersFitting 38 = .ok (.iload 5, 2) := by decide +kernel
theorem dX0_lettersFitting_40 : decode cX0_lettersFitting 40 = .ok (.iconst 1, 1) := by decide +kernel
theorem dX0_lettersFitting_41 : decode cX0_lettersFitting 41 = .ok (.aload_n 0, 1) := by decide +kernel
theorem dX0_lettersFitting_42 : decode cX0_lettersFitting 42 = .ok (.iload 6, 2) := by decide +kernel
theorem dX0_lettersFitting_44 : decode cX0_lettersFitting 44 = .ok (.iload 4, 2) := by decide +kernel
theorem dX0_lettersFitting_46 : decode cX0_lettersFitting 46 = .ok (.invokevirtual 68, 3) := by decide +kernel
theorem dX0_lettersFitting_49 : decode cX0_lettersFitting 49 = .ok (.bipush 97, 2) := by decide +kernel
theorem dX0_lettersFitting_51 : decode cX0_lettersFitting 51 = .ok (.isub, 1) := by decide +kernel
theorem dX0_lettersFitting_52 : decode cX0_lettersFitting 52 = .ok (.ishl, 1) := by decide +kernel
theorem dX0_lettersFitting_53 : decode cX0_lettersFitting 53 = .ok (.ior, 1) := by decide +kernel
theorem dX0_lettersFitting_54 : decode cX0_lettersFitting 54 = .ok (.istore 5, 2) := by decide +kernel
theorem dX0_lettersFitting_56 : decode cX0_lettersFitting 56 = .ok (.iinc 6 1, 3) := by decide +kernel
theorem dX0_lettersFitting_59 : decode cX0_lettersFitting 59 = .ok (.goto (-53), 3) := by decide +kernel
theorem dX0_lettersFitting_62 : decode cX0_lettersFitting 62 = .ok (.iload 5, 2) := by decide +kernel
theorem dX0_lettersFitting_64 : decode cX0_lettersFitting 64 = .ok (.ireturn, 1) := by decide +kernel
theorem dX1_init_0 : decode cX1_init 0 = .ok (.aload_n 0, 1) := by decide +kernel
theorem dX1_init_1 : decode cX1_init 1 = .ok (.invokespecial 3, 3) := by decide +kernel
theorem dX1_init_4 : decode cX1_init 4 = .ok (.aload_n 0, 1) := by decide +kernel
theorem dX1_init_5 : decode cX1_init 5 = .ok (.bipush 14, 2) := by decide +kernel
theorem dX1_init_7 : decode cX1_init 7 = .ok (.anewarray 9, 3) := by decide +kernel
theorem dX1_init_10 : decode cX1_init 10 = .ok (.putfield 11, 3) := by decide +kernel
theorem dX1_init_13 : decode cX1_init 13 = .ok (.iconst 0, 1) := by decide +kernel
theorem dX1_init_14 : decode cX1_init 14 = .ok (.istore_n 1, 1) := by decide +kernel
theorem dX1_init_15 : decode cX1_init 15 = .ok (.iload_n 1, 1) := by decide +kernel
theorem dX1_init_16 : decode cX1_init 16 = .ok (.bipush 14, 2) := by decide +kernel
theorem dX1_init_18 : decode cX1_init 18 = .ok (.if_icmp .ge 22, 3) := by decide +kernel
theorem dX1_init_21 : decode cX1_init 21 = .ok (.aload_n 0, 1) := by decide +kernel
theorem dX1_init_22 : decode cX1_init 22 = .ok (.getfield 11, 3) := by decide +kernel
theorem dX1_init_25 : decode cX1_init 25 = .ok (.iload_n 1, 1) := by decide +kernel
theorem dX1_init_26 : decode cX1_init 26 = .ok (.new 9, 3) := by decide +kernel
theorem dX1_init_29 : decode cX1_init 29 = .ok (.dup, 1) := by decide +kernel
theorem dX1_init_30 : decode cX1_init 30 = .ok (.invokespecial 17, 3) := by decide +kernel
theorem dX1_init_33 : decode cX1_init 33 = .ok (.aastore, 1) := by decide +kernel
theorem dX1_init_34 : decode cX1_init 34 = .ok (.iinc 1 1, 3) := by decide +kernel
theorem dX1_init_37 : decode cX1_init 37 = .ok (.goto (-22), 3) := by decide +kernel
theorem dX1_init_40 : decode cX1_init 40 = .ok (.return_, 1) := by decide +kernel
theorem dX1_isEmpty_0 : decode cX1_isEmpty 0 = .ok (.aload_n 0, 1) := by decide +kernel
theorem dX1_isEmpty_1 : decode cX1_isEmpty 1 = .ok (.getfield 18, 3) := by decide +kernel
theorem dX1_isEmpty_4 : decode cX1_isEmpty 4 = .ok (.ifCond .ne 7, 3) := by decide +kernel
theorem dX1_isEmpty_7 : decode cX1_isEmpty 7 = .ok (.iconst 1, 1) := by decide +kernel
theorem dX1_isEmpty_8 : decode cX1_isEmpty 8 = .ok (.goto 4, 3) := by decide +kernel
theorem dX1_isEmpty_11 : decode cX1_isEmpty 11 = .ok (.iconst 0, 1) := by decide +kernel
theorem dX1_isEmpty_12 : decode cX1_isEmpty 12 = .ok (.ireturn, 1) := by decide +kernel
theorem dX1_forgetAll_0 : decode cX1_forgetAll 0 = .ok (.aload_n 0, 1) := by decide +kernel
theorem dX1_forgetAll_1 : decode cX1_forgetAll 1 = .ok (.iconst 0, 1) := by decide +kernel
theorem dX1_forgetAll_2 : decode cX1_forgetAll 2 = .ok (.putfield 18, 3) := by decide +kernel
theorem dX1_forgetAll_5 : decode cX1_forgetAll 5 = .ok (.return_, 1) := by decide +kernel
theorem dX1_remember_0 : decode cX1_remember 0 = .ok (.aload_n 0, 1) := by decide +kernel
theorem dX1_remember_1 : decode cX1_remember 1 = .ok (.getfield 11, 3) := by decide +kernel
theorem dX1_remember_4 : decode cX1_remember 4 = .ok (.aload_n 0, 1) := by decide +kernel
theorem dX1_remember_5 : decode cX1_remember 5 = .ok (.getfield 22, 3) := by decide +kernel
theorem dX1_remember_8 : decode cX1_remember 8 = .ok (.aload_n 0, 1) := by decide +kernel
theorem dX1_remember_9 : decode cX1_remember 9 = .ok (.getfield 18, 3) := by decide +kernel
theorem dX1_remember_12 : decode cX1_remember 12 = .ok (.iadd, 1) := by decide +kernel
theorem dX1_remember_13 : decode cX1_remember 13 = .ok (.bipush 14, 2) := by decide +kernel
theorem dX1_remember_15 : decode cX1_remember 15 = .ok (.irem, 1) := by decide +kernel
theorem dX1_remember_16 : decode cX1_remember 16 = .ok (.aaload, 1) := by decide +kernel
theorem dX1_remember_17 : decode cX1_remember 17 = .ok (.aload_n 1, 1) := by decide +kernel
theorem dX1_remember_18 : decode cX1_remember 18 = .ok (.invokevirtual 25, 3) := by decide +kernel
theorem dX1_remember_21 : decode cX1_remember 21 = .ok (.aload_n 0, 1) := by decide +kernel
theorem dX1_remember_22 : decode cX1_remember 22 = .ok (.getfield 18, 3) := by decide +kernel
theorem dX1_remember_25 : decode cX1_remember 25 = .ok (.bipush 14, 2) := by decide +kernel
theorem dX1_remember_27 : decode cX1_remember 27 = .ok (.if_icmp .ge 16, 3) := by decide +kernel
theorem dX1_remember_30 : decode cX1_remember 30 = .ok (.aload_n 0, 1) := by decide +kernel
theorem dX1_remember_31 : decode cX1_remember 31 = .ok (.dup, 1) := by decide +kernel
theorem dX1_remember_32 : decode cX1_remember 32 = .ok (.getfield 18, 3) := by decide +kernel
theorem dX1_remember_35 : decode cX1_remember 35 = .ok (.iconst 1, 1) := by decide +kernel
theorem dX1_remember_36 : decode cX1_remember 36 = .ok (.iadd, 1) := by decide +kernel
theorem dX1_remember_37 : decode cX1_remember 37 = .ok (.putfield 18, 3) := by decide +kernel
theorem dX1_remember_40 : decode cX1_remember 40 = .ok (.goto 16, 3) := by decide +kernel
theorem dX1_remember_43 : decode cX1_remember 43 = .ok (.aload_n 0, 1) := by decide +kernel
theorem dX1_remember_44 : decode cX1_remember 44 = .ok (.aload_n 0, 1) := by decide +kernel
theorem dX1_remember_45 : decode cX1_remember 45 = .ok (.getfield 22, 3) := by decide +kernel
theorem dX1_remember_48 : decode cX1_remember 48 = .ok (.iconst 1, 1) := by decide +kernel
theorem dX1_remember_49 : decode cX1_remember 49 = .ok (.iadd, 1) := by decide +kernel
theorem dX1_remember_50 : decode cX1_remember 50 = .ok (.bipush 14, 2) := by decide +kernel
theorem dX1_remember_52 : decode cX1_remember 52 = .ok (.irem, 1) := by decide +kernel
theorem dX1_remember_53 : decode cX1_remember 53 = .ok (.putfield 22, 3) := by decide +kernel
theorem dX1_remember_56 : decode cX1_remember 56 = .ok (.return_, 1) := by decide +kernel
theorem dX1_takeBack_0 : decode cX1_takeBack 0 = .ok (.aload_n 0, 1) := by decide +kernel
theorem dX1_takeBack_1 : decode cX1_takeBack 1 = .ok (.getfield 18, 3) := by decide +kernel
theorem dX1_takeBack_4 : decode cX1_takeBack 4 = .ok (.ifCond .le 34, 3) := by decide +kernel
theorem dX1_takeBack_7 : decode cX1_takeBack 7 = .ok (.aload_n 0, 1) := by decide +kernel
theorem dX1_takeBack_8 : decode cX1_takeBack 8 = .ok (.dup, 1) := by decide +kernel
theorem dX1_takeBack_9 : decode cX1_takeBack 9 = .ok (.getfield 18, 3) := by decide +kernel
theorem dX1_takeBack_12 : decode cX1_takeBack 12 = .ok (.iconst 1, 1) := by decide +kernel
theorem dX1_takeBack_13 : decode cX1_takeBack 13 = .ok (.isub, 1) := by decide +kernel
theorem dX1_takeBack_14 : decode cX1_takeBack 14 = .ok (.putfield 18, 3) := by decide +kernel
theorem dX1_takeBack_17 : decode cX1_takeBack 17 = .ok (.aload_n 1, 1) := by decide +kernel
theorem dX1_takeBack_18 : decode cX1_takeBack 18 = .ok (.aload_n 0, 1) := by decide +kernel
theorem dX1_takeBack_19 : decode cX1_takeBack 19 = .ok (.getfield 11, 3) := by decide +kernel
theorem dX1_takeBack_22 : decode cX1_takeBack 22 = .ok (.aload_n 0, 1) := by decide +kernel
theorem dX1_takeBack_23 : decode cX1_takeBack 23 = .ok (.getfield 22, 3) := by decide +kernel
theorem dX1_takeBack_26 : decode cX1_takeBack 26 = .ok (.aload_n 0, 1) := by decide +kernel
theorem dX1_takeBack_27 : decode cX1_takeBack 27 = .ok (.getfield 18, 3) := by decide +kernel
theorem dX1_takeBack_30 : decode cX1_takeBack 30 = .ok (.iadd, 1) := by decide +kernel
theorem dX1_takeBack_31 : decode cX1_takeBack 31 = .ok (.bipush 14, 2) := by decide +kernel
theorem dX1_takeBack_33 : decode cX1_takeBack 33 = .ok (.irem, 1) := by decide +kernel
theorem dX1_takeBack_34 : decode cX1_takeBack 34 = .ok (.aaload, 1) := by decide +kernel
theorem dX1_takeBack_35 : decode cX1_takeBack 35 = .ok (.invokevirtual 25, 3) := by decide +kernel
theorem dX1_takeBack_38 : decode cX1_takeBack 38 = .ok (.aload_n 0, 1) := by decide +kernel
theorem dX1_takeBack_39 : decode cX1_takeBack 39 = .ok (.getfield 18, 3) := by decide +kernel
theorem dX1_takeBack_42 : decode cX1_takeBack 42 = .ok (.ireturn, 1) := by decide +kernel
theorem dX2_init_0 : decode cX2_init 0 = .ok (.aload_n 0, 1) := by decide +kernel
theorem dX2_init_1 : decode cX2_init 1 = .ok (.invokespecial 3, 3) := by decide +kernel
theorem dX2_init_4 : decode cX2_init 4 = .ok (.aload_n 0, 1) := by decide +kernel
theorem dX2_init_5 : decode cX2_init 5 = .ok (.bipush 24, 2) := by decide +kernel
theorem dX2_init_7 : decode cX2_init 7 = .ok (.newarray .char, 2) := by decide +kernel
theorem dX2_init_9 : decode cX2_init 9 = .ok (.putfield 9, 3) := by decide +kernel
theorem dX2_init_12 : decode cX2_init 12 = .ok (.return_, 1) := by decide +kernel
theorem dX2_copyFrom_0 : decode cX2_copyFrom 0 = .ok (.aload_n 1, 1) := by decide +kernel
theorem dX2_copyFrom_1 : decode cX2_copyFrom 1 = .ok (.getfield 9, 3) := by decide +kernel
theorem dX2_copyFrom_4 : decode cX2_copyFrom 4 = .ok (.iconst 0, 1) := by decide +kernel
theorem dX2_copyFrom_5 : decode cX2_copyFrom 5 = .ok (.aload_n 0, 1) := by decide +kernel
theorem dX2_copyFrom_6 : decode cX2_copyFrom 6 = .ok (.getfield 9, 3) := by decide +kernel
theorem dX2_copyFrom_9 : decode cX2_copyFrom 9 = .ok (.iconst 0, 1) := by decide +kernel
theorem dX2_copyFrom_10 : decode cX2_copyFrom 10 = .ok (.bipush 24, 2) := by decide +kernel
theorem dX2_copyFrom_12 : decode cX2_copyFrom 12 = .ok (.invokestatic 15, 3) := by decide +kernel
theorem dX2_copyFrom_15 : decode cX2_copyFrom 15 = .ok (.aload_n 0, 1) := by decide +kernel
theorem dX2_copyFrom_16 : decode cX2_copyFrom 16 = .ok (.aload_n 1, 1) := by decide +kernel
theorem dX2_copyFrom_17 : decode cX2_copyFrom 17 = .ok (.getfield 21, 3) := by decide +kernel
theorem dX2_copyFrom_20 : decode cX2_copyFrom 20 = .ok (.putfield 21, 3) := by decide +kernel
theorem dX2_copyFrom_23 : decode cX2_copyFrom 23 = .ok (.return_, 1) := by decide +kernel
theorem dX2_layText_0 : decode cX2_layText 0 = .ok (.aload_n 0, 1) := by decide +kernel
theorem dX2_layText_1 : decode cX2_layText 1 = .ok (.aload_n 1, 1) := by decide +kernel
theorem dX2_layText_2 : decode cX2_layText 2 = .ok (.getfield 25, 3) := by decide +kernel
theorem dX2_layText_5 : decode cX2_layText 5 = .ok (.bipush 24, 2) := by decide +kernel
theorem dX2_layText_7 : decode cX2_layText 7 = .ok (.invokestatic 30, 3) := by decide +kernel
theorem dX2_layText_10 : decode cX2_layText 10 = .ok (.putfield 21, 3) := by decide +kernel
theorem dX2_layText_13 : decode cX2_layText 13 = .ok (.aload_n 1, 1) := by decide +kernel
theorem dX2_layText_14 : decode cX2_layText 14 = .ok (.getfield 36, 3) := by decide +kernel
theorem dX2_layText_17 : decode cX2_layText 17 = .ok (.iconst 0, 1) := by decide +kernel
theorem dX2_layText_18 : decode cX2_layText 18 = .ok (.aload_n 0, 1) := by decide +kernel
theorem dX2_layText_19 : decode cX2_layText 19 = .ok (.getfield 9, 3) := by decide +kernel
theorem dX2_layText_22 : decode cX2_layText 22 = .ok (.iconst 0, 1) := by decide +kernel
theorem dX2_layText_23 : decode cX2_layText 23 = .ok (.aload_n 0, 1) := by decide +kernel
theorem dX2_layText_24 : decode cX2_layText 24 = .ok (.getfield 21, 3) := by decide +kernel
theorem dX2_layText_27 : decode cX2_layText 27 = .ok (.invokestatic 15, 3) := by decide +kernel
theorem dX2_layText_30 : decode cX2_layText 30 = .ok (.return_, 1) := by decide +kernel
theorem dX2_isFull_0 : decode cX2_isFull 0 = .ok (.aload_n 0, 1) := by decide +kernel
theorem dX2_isFull_1 : decode cX2_isFull 1 = .ok (.getfield 21, 3) := by decide +kernel
theorem dX2_isFull_4 : decode cX2_isFull 4 = .ok (.bipush 24, 2) := by decide +kernel
theorem dX2_isFull_6 : decode cX2_isFull 6 = .ok (.if_icmp .lt 7, 3) := by decide +kernel
theorem dX2_isFull_9 : decode cX2_isFull 9 = .ok (.iconst 1, 1) := by decide +kernel
theorem dX2_isFull_10 : decode cX2_isFull 10 = .ok (.goto 4, 3) := by decide +kernel
theorem dX2_isFull_13 : decode cX2_isFull 13 = .ok (.iconst 0, 1) := by decide +kernel
theorem dX2_isFull_14 : decode cX2_isFull 14 = .ok (.ireturn, 1) := by decide +kernel
theorem dX2_hasPlace_0 : decode cX2_hasPlace 0 = .ok (.iload_n 1, 1) := by decide +kernel
theorem dX2_hasPlace_1 : decode cX2_hasPlace 1 = .ok (.ifCond .lt 15, 3) := by decide +kernel
theorem dX2_hasPlace_4 : decode cX2_hasPlace 4 = .ok (.iload_n 1, 1) := by decide +kernel
theorem dX2_hasPlace_5 : decode cX2_hasPlace 5 = .ok (.aload_n 0, 1) := by decide +kernel
theorem dX2_hasPlace_6 : decode cX2_hasPlace 6 = .ok (.getfield 21, 3) := by decide +kernel
theorem dX2_hasPlace_9 : decode cX2_hasPlace 9 = .ok (.if_icmp .ge 7, 3) := by decide +kernel
theorem dX2_hasPlace_12 : decode cX2_hasPlace 12 = .ok (.iconst 1, 1) := by decide +kernel
theorem dX2_hasPlace_13 : decode cX2_hasPlace 13 = .ok (.goto 4, 3) := by decide +kernel
theorem dX2_hasPlace_16 : decode cX2_hasPlace 16 = .ok (.iconst 0, 1) := by decide +kernel
theorem dX2_hasPlace_17 : decode cX2_hasPlace 17 = .ok (.ireturn, 1) := by decide +kernel
theorem dX2_signAt_0 : decode cX2_signAt 0 = .ok (.iload_n 1, 1) := by decide +kernel
theorem dX2_signAt_1 : decode cX2_signAt 1 = .ok (.ifCond .lt 20, 3) := by decide +kernel
theorem dX2_signAt_4 : decode cX2_signAt 4 = .ok (.iload_n 1, 1) := by decide +kernel
theorem dX2_signAt_5 : decode cX2_signAt 5 = .ok (.aload_n 0, 1) := by decide +kernel
theorem dX2_signAt_6 : decode cX2_signAt 6 = .ok (.getfield 21, 3) := by decide +kernel
theorem dX2_signAt_9 : decode cX2_signAt 9 = .ok (.if_icmp .ge 12, 3) := by decide +kernel
theorem dX2_signAt_12 : decode cX2_signAt 12 = .ok (.aload_n 0, 1) := by decide +kernel
theorem dX2_signAt_13 : decode cX2_signAt 13 = .ok (.getfield 9, 3) := by decide +kernel
theorem dX2_signAt_16 : decode cX2_signAt 16 = .ok (.iload_n 1, 1) := by decide +kernel
theorem dX2_signAt_17 : decode cX2_signAt 17 = .ok (.caload, 1) := by decide +kernel
theorem dX2_signAt_18 : decode cX2_signAt 18 = .ok (.goto 5, 3) := by decide +kernel
theorem dX2_signAt_21 : decode cX2_signAt 21 = .ok (.bipush 46, 2) := by decide +kernel
theorem dX2_signAt_23 : decode cX2_signAt 23 = .ok (.ireturn, 1) := by decide +kernel
theorem dX2_isDivider_0 : decode cX2_isDivider 0 = .ok (.iload_n 1, 1) := by decide +kernel
theorem dX2_isDivider_1 : decode cX2_isDivider 1 = .ok (.ifCond .lt 26, 3) := by decide +kernel
theorem dX2_isDivider_4 : decode cX2_isDivider 4 = .ok (.iload_n 1, 1) := by decide +kernel
theorem dX2_isDivider_5 : decode cX2_isDivider 5 = .ok (.aload_n 0, 1) := by decide +kernel
theorem dX2_isDivider_6 : decode cX2_isDivider 6 = .ok (.getfield 21, 3) := by decide +kernel
theorem dX2_isDivider_9 : decode cX2_isDivider 9 = .ok (.if_icmp .ge 18, 3) := by decide +kernel
theorem dX2_isDivider_12 : decode cX2_isDivider 12 = .ok (.aload_n 0, 1) := by decide +kernel
theorem dX2_isDivider_13 : decode cX2_isDivider 13 = .ok (.getfield 9, 3) := by decide +kernel
theorem dX2_isDivider_16 : decode cX2_isDivider 16 = .ok (.iload_n 1, 1) := by decide +kernel
theorem dX2_isDivider_17 : decode cX2_isDivider 17 = .ok (.caload, 1) := by decide +kernel
theorem dX2_isDivider_18 : decode cX2_isDivider 18 = .ok (.bipush 46, 2) := by decide +kernel
theorem dX2_isDivider_20 : decode cX2_isDivider 20 = .ok (.if_icmp .ne 7, 3) := by decide +kernel
theorem dX2_isDivider_23 : decode cX2_isDivider 23 = .ok (.iconst 1, 1) := by decide +kernel
theorem dX2_isDivider_24 : decode cX2_isDivider 24 = .ok (.goto 4, 3) := by decide +kernel
theorem dX2_isDivider_27 : decode cX2_isDivider 27 = .ok (.iconst 0, 1) := by decide +kernel
theorem dX2_isDivider_28 : decode cX2_isDivider 28 = .ok (.ireturn, 1) := by decide +kernel
theorem dX2_setSign_0 : decode cX2_setSign 0 = .ok (.aload_n 0, 1) := by decide +kernel
theorem dX2_setSign_1 : decode cX2_setSign 1 = .ok (.iload_n 1, 1) := by decide +kernel
theorem dX2_setSign_2 : decode cX2_setSign 2 = .ok (.invokevirtual 39, 3) := by decide +kernel
theorem dX2_setSign_5 : decode cX2_setSign 5 = .ok (.ifCond .eq 10, 3) := by decide +kernel
theorem dX2_setSign_8 : decode cX2_setSign 8 = .ok (.aload_n 0, 1) := by decide +kernel
theorem dX2_setSign_9 : decode cX2_setSign 9 = .ok (.getfield 9, 3) := by decide +kernel
theorem dX2_setSign_12 : decode cX2_setSign 12 = .ok (.iload_n 1, 1) := by decide +kernel
theorem dX2_setSign_13 : decode cX2_setSign 13 = .ok (.iload_n 2, 1) := by decide +kernel
theorem dX2_setSign_14 : decode cX2_setSign 14 = .ok (.castore, 1) := by decide +kernel
theorem dX2_setSign_15 : decode cX2_setSign 15 = .ok (.return_, 1) := by decide +kernel
theorem dX2_putIn_0 : decode cX2_putIn 0 = .ok (.iload_n 1, 1) := by decide +kernel
theorem dX2_putIn_1 : decode cX2_putIn 1 = .ok (.ifCond .lt 18, 3) := by decide +kernel
theorem dX2_putIn_4 : decode cX2_putIn 4 = .ok (.iload_n 1, 1) := by decide +kernel
theorem dX2_putIn_5 : decode cX2_putIn 5 = .ok (.aload_n 0, 1) := by decide +kernel
theorem dX2_putIn_6 : decode cX2_putIn 6 = .ok (.getfield 21, 3) := by decide +kernel
theorem dX2_putIn_9 : decode cX2_putIn 9 = .ok (.if_icmp .gt 10, 3) := by decide +kernel
theorem dX2_putIn_12 : decode cX2_putIn 12 = .ok (.aload_n 0, 1) := by decide +kernel
theorem dX2_putIn_13 : decode cX2_putIn 13 = .ok (.invokevirtual 43, 3) := by decide +kernel
theorem dX2_putIn_16 : decode cX2_putIn 16 = .ok (.ifCond .eq 4, 3) := by decide +kernel
theorem dX2_putIn_19 : decode cX2_putIn 19 = .ok (.return_, 1) := by decide +kernel
theorem dX2_putIn_20 : decode cX2_putIn 20 = .ok (.aload_n 0, 1) := by decide +kernel
theorem dX2_putIn_21 : decode cX2_putIn 21 = .ok (.getfield 21, 3) := by decide +kernel
theorem dX2_putIn_24 : decode cX2_putIn 24 = .ok (.istore_n 3, 1) := by decide +kernel
theorem dX2_putIn_25 : decode cX2_putIn 25 = .ok (.iload_n 3, 1) := by decide +kernel
theorem dX2_putIn_26 : decode cX2_putIn 26 = .ok (.iload_n 1, 1) := by decide +kernel
theorem dX2_putIn_27 : decode cX2_putIn 27 = .ok (.if_icmp .le 23, 3) := by decide +kernel
theorem dX2_putIn_30 : decode cX2_putIn 30 = .ok (.aload_n 0, 1) := by decide +kernel
theorem dX2_putIn_31 : decode cX2_putIn 31 = .ok (.getfield 9, 3) := by decide +kernel
theorem dX2_putIn_34 : decode cX2_putIn 34 = .ok (.iload_n 3, 1) := by decide +kernel
theorem dX2_putIn_35 : decode cX2_putIn 35 = .ok (.aload_n 0, 1) := by decide +kernel
theorem dX2_putIn_36 : decode cX2_putIn 36 = .ok (.getfield 9, 3) := by decide +kernel
theorem dX2_putIn_39 : decode cX2_putIn 39 = .ok (.iload_n 3, 1) := by decide +kernel
theorem dX2_putIn_40 : decode cX2_putIn 40 = .ok (.iconst 1, 1) := by decide +kernel
theorem dX2_putIn_41 : decode cX2_putIn 41 = .ok (.isub, 1) := by decide +kernel
theorem dX2_putIn_42 : decode cX2_putIn 42 = .ok (.caload, 1) := by decide +kernel
theorem dX2_putIn_43 : decode cX2_putIn 43 = .ok (.castore, 1) := by decide +kernel
theorem dX2_putIn_44 : decode cX2_putIn 44 = .ok (.iinc 3 (-1), 3) := by decide +kernel
theorem dX2_putIn_47 : decode cX2_putIn 47 = .ok (.goto (-22), 3) := by decide +kernel
theorem dX2_putIn_50 : decode cX2_putIn 50 = .ok (.aload_n 0, 1) := by decide +kernel
theorem dX2_putIn_51 : decode cX2_putIn 51 = .ok (.getfield 9, 3) := by decide +kernel
theorem dX2_putIn_54 : decode cX2_putIn 54 = .ok (.iload_n 1, 1) := by decide +kernel
theorem dX2_putIn_55 : decode cX2_putIn 55 = .ok (.iload_n 2, 1) := by decide +kernel
theorem dX2_putIn_56 : decode cX2_putIn 56 = .ok (.castore, 1) := by decide +kernel
theorem dX2_putIn_57 : decode cX2_putIn 57 = .ok (.aload_n 0, 1) := by decide +kernel
theorem dX2_putIn_58 : decode cX2_putIn 58 = .ok (.dup, 1) := by decide +kernel
theorem dX2_putIn_59 : decode cX2_putIn 59 = .ok (.getfield 21, 3) := by decide +kernel
theorem dX2_putIn_62 : decode cX2_putIn 62 = .ok (.iconst 1, 1) := by decide +kernel
theorem dX2_putIn_63 : decode cX2_putIn 63 = .ok (.iadd, 1) := by decide +kernel
theorem dX2_putIn_64 : decode cX2_putIn 64 = .ok (.putfield 21, 3) := by decide +kernel
theorem dX2_putIn_67 : decode cX2_putIn 67 = .ok (.return_, 1) := by decide +kernel
theorem dX2_takeOut_0 : decode cX2_takeOut 0 = .ok (.aload_n 0, 1) := by decide +kernel
theorem dX2_takeOut_1 : decode cX2_takeOut 1 = .ok (.iload_n 1, 1) := by decide +kernel
theorem dX2_takeOut_2 : decode cX2_takeOut 2 = .ok (.invokevirtual 39, 3) := by decide +kernel
theorem dX2_takeOut_5 : decode cX2_takeOut 5 = .ok (.ifCond .ne 4, 3) := by decide +kernel
theorem dX2_takeOut_8 : decode cX2_takeOut 8 = .ok (.return_, 1) := by decide +kernel
theorem dX2_takeOut_9 : decode cX2_takeOut 9 = .ok (.iload_n 1, 1) := by decide +kernel
theorem dX2_takeOut_10 : decode cX2_takeOut 10 = .ok (.iconst 1, 1) := by decide +kernel
theorem dX2_takeOut_11 : decode cX2_takeOut 11 = .ok (.iadd, 1) := by decide +kernel
theorem dX2_takeOut_12 : decode cX2_takeOut 12 = .ok (.istore_n 2, 1) := by decide +kernel
theorem dX2_takeOut_13 : decode cX2_takeOut 13 = .ok (.iload_n 2, 1) := by decide +kernel
theorem dX2_takeOut_14 : decode cX2_takeOut 14 = .ok (.aload_n 0, 1) := by decide +kernel
theorem dX2_takeOut_15 : decode cX2_takeOut 15 = .ok (.getfield 21, 3) := by decide +kernel
theorem dX2_takeOut_18 : decode cX2_takeOut 18 = .ok (.if_icmp .ge 23, 3) := by decide +kernel
theorem dX2_takeOut_21 : decode cX2_takeOut 21 = .ok (.aload_n 0, 1) := by decide +kernel
theorem dX2_takeOut_22 : decode cX2_takeOut 22 = .ok (.getfield 9, 3) := by decide +kernel
theorem dX2_takeOut_25 : decode cX2_takeOut 25 = .ok (.iload_n 2, 1) := by decide +kernel
theorem dX2_takeOut_26 : decode cX2_takeOut 26 = .ok (.iconst 1, 1) := by decide +kernel
theorem dX2_takeOut_27 : decode cX2_takeOut 27 = .ok (.isub, 1) := by decide +kernel
theorem dX2_takeOut_28 : decode cX2_takeOut 28 = .ok (.aload_n 0, 1) := by decide +kernel
theorem dX2_takeOut_29 : decode cX2_takeOut 29 = .ok (.getfield 9, 3) := by decide +kernel
theorem dX2_takeOut_32 : decode cX2_takeOut 32 = .ok (.iload_n 2, 1) := by decide +kernel
theorem dX2_takeOut_33 : decode cX2_takeOut 33 = .ok (.caload, 1) := by decide +kernel
theorem dX2_takeOut_34 : decode cX2_takeOut 34 = .ok (.castore, 1) := by decide +kernel
theorem dX2_takeOut_35 : decode cX2_takeOut 35 = .ok (.iinc 2 1, 3) := by decide +kernel
theorem dX2_takeOut_38 : decode cX2_takeOut 38 = .ok (.goto (-25), 3) := by decide +kernel
theorem dX2_takeOut_41 : decode cX2_takeOut 41 = .ok (.aload_n 0, 1) := by decide +kernel
theorem dX2_takeOut_42 : decode cX2_takeOut 42 = .ok (.dup, 1) := by decide +kernel
theorem dX2_takeOut_43 : decode cX2_takeOut 43 = .ok (.getfield 21, 3) := by decide +kernel
theorem dX2_takeOut_46 : decode cX2_takeOut 46 = .ok (.iconst 1, 1) := by decide +kernel
theorem dX2_takeOut_47 : decode cX2_takeOut 47 = .ok (.isub, 1) := by decide +kernel
theorem dX2_takeOut_48 : decode cX2_takeOut 48 = .ok (.putfield 21, 3) := by decide +kernel
theorem dX2_takeOut_51 : decode cX2_takeOut 51 = .ok (.return_, 1) := by decide +kernel
theorem dX2_onward_0 : decode cX2_onward 0 = .ok (.aload_n 0, 1) := by decide +kernel
theorem dX2_onward_1 : decode cX2_onward 1 = .ok (.getfield 21, 3) := by decide +kernel
theorem dX2_onward_4 : decode cX2_onward 4 = .ok (.ifCond .gt 5, 3) := by decide +kernel
theorem dX2_onward_7 : decode cX2_onward 7 = .ok (.iconst 0, 1) := by decide +kernel
theorem dX2_onward_8 : decode cX2_onward 8 = .ok (.ireturn, 1) := by decide +kernel
theorem dX2_onward_9 : decode cX2_onward 9 = .ok (.iload_n 2, 1) := by decide +kernel
theorem dX2_onward_10 : decode cX2_onward 10 = .ok (.ifCond .ne 9, 3) := by decide +kernel
theorem dX2_onward_13 : decode cX2_onward 13 = .ok (.iload_n 1, 1) := by decide +kernel
theorem dX2_onward_14 : decode cX2_onward 14 = .ok (.iload_n 3, 1) := by decide +kernel
theorem dX2_onward_15 : decode cX2_onward 15 = .ok (.iadd, 1) := by decide +kernel
theorem dX2_onward_16 : decode cX2_onward 16 = .ok (.goto 6, 3) := by decide +kernel
theorem dX2_onward_19 : decode cX2_onward 19 = .ok (.iload_n 1, 1) := by decide +kernel
theorem dX2_onward_20 : decode cX2_onward 20 = .ok (.iload_n 3, 1) := by decide +kernel
theorem dX2_onward_21 : decode cX2_onward 21 = .ok (.isub, 1) := by decide +kernel
theorem dX2_onward_22 : decode cX2_onward 22 = .ok (.aload_n 0, 1) := by decide +kernel
theorem dX2_onward_23 : decode cX2_onward 23 = .ok (.getfield 21, 3) := by decide +kernel
theorem dX2_onward_26 : decode cX2_onward 26 = .ok (.irem, 1) := by decide +kernel
theorem dX2_onward_27 : decode cX2_onward 27 = .ok (.istore 4, 2) := by decide +kernel
theorem dX2_onward_29 : decode cX2_onward 29 = .ok (.iload 4, 2) := by decide +kernel
theorem dX2_onward_31 : decode cX2_onward 31 = .ok (.ifCond .ge 13, 3) := by decide +kernel
theorem dX2_onward_34 : decode cX2_onward 34 = .ok (.iload 4, 2) := by decide +kernel
theorem dX2_onward_36 : decode cX2_onward 36 = .ok (.aload_n 0, 1) := by decide +kernel
theorem dX2_onward_37 : decode cX2_onward 37 = .ok (.getfield 21, 3) := by decide +kernel
theorem dX2_onward_40 : decode cX2_onward 40 = .ok (.iadd, 1) := by decide +kernel
theorem dX2_onward_41 : decode cX2_onward 41 = .ok (.goto 5, 3) := by decide +kernel
theorem dX2_onward_44 : decode cX2_onward 44 = .ok (.iload 4, 2) := by decide +kernel
theorem dX2_onward_46 : decode cX2_onward 46 = .ok (.ireturn, 1) := by decide +kernel
theorem dX2_countOf_0 : decode cX2_countOf 0 = .ok (.iconst 0, 1) := by decide +kernel
theorem dX2_countOf_1 : decode cX2_countOf 1 = .ok (.istore_n 2, 1) := by decide +kernel
theorem dX2_countOf_2 : decode cX2_countOf 2 = .ok (.iconst 0, 1) := by decide +kernel
theorem dX2_countOf_3 : decode cX2_countOf 3 = .ok (.istore_n 3, 1) := by decide +kernel
theorem dX2_countOf_4 : decode cX2_countOf 4 = .ok (.iload_n 3, 1) := by decide +kernel
theorem dX2_countOf_5 : decode cX2_countOf 5 = .ok (.aload_n 0, 1) := by decide +kernel
theorem dX2_countOf_6 : decode cX2_countOf 6 = .ok (.getfield 21, 3) := by decide +kernel
theorem dX2_countOf_9 : decode cX2_countOf 9 = .ok (.if_icmp .ge 22, 3) := by decide +kernel
theorem dX2_countOf_12 : decode cX2_countOf 12 = .ok (.aload_n 0, 1) := by decide +kernel
theorem dX2_countOf_13 : decode cX2_countOf 13 = .ok (.getfield 9, 3) := by decide +kernel
theorem dX2_countOf_16 : decode cX2_countOf 16 = .ok (.iload_n 3, 1) := by decide +kernel
theorem dX2_countOf_17 : decode cX2_countOf 17 = .ok (.caload, 1) := by decide +kernel
theorem dX2_countOf_18 : decode cX2_countOf 18 = .ok (.iload_n 1, 1) := by decide +kernel
theorem dX2_countOf_19 : decode cX2_countOf 19 = .ok (.if_icmp .ne 6, 3) := by decide +kernel
theorem dX2_countOf_22 : decode cX2_countOf 22 = .ok (.iinc 2 1, 3) := by decide +kernel
theorem dX2_countOf_25 : decode cX2_countOf 25 = .ok (.iinc 3 1, 3) := by decide +kernel
theorem dX2_countOf_28 : decode cX2_countOf 28 = .ok (.goto (-24), 3) := by decide +kernel
theorem dX2_countOf_31 : decode cX2_countOf 31 = .ok (.iload_n 2, 1) := by decide +kernel
theorem dX2_countOf_32 : decode cX2_countOf 32 = .ok (.ireturn, 1) := by decide +kernel
theorem dX2_beginning_0 : decode cX2_beginning 0 = .ok (.aload_n 0, 1) := by decide +kernel
theorem dX2_beginning_1 : decode cX2_beginning 1 = .ok (.getfield 21, 3) := by decide +kernel
theorem dX2_beginning_4 : decode cX2_beginning 4 = .ok (.ifCond .ne 5, 3) := by decide +kernel
theorem dX2_beginning_7 : decode cX2_beginning 7 = .ok (.iconst (-1), 1) := by decide +kernel
theorem dX2_beginning_8 : decode cX2_beginning 8 = .ok (.ireturn, 1) := by decide +kernel
theorem dX2_beginning_9 : decode cX2_beginning 9 = .ok (.iconst 0, 1) := by decide +kernel
theorem dX2_beginning_10 : decode cX2_beginning 10 = .ok (.istore_n 1, 1) := by decide +kernel
theorem dX2_beginning_11 : decode cX2_beginning 11 = .ok (.iconst 1, 1) := by decide +kernel
theorem dX2_beginning_12 : decode cX2_beginning 12 = .ok (.istore_n 2, 1) := by decide +kernel
theorem dX2_beginning_13 : decode cX2_beginning 13 = .ok (.iload_n 2, 1) := by decide +kernel
theorem dX2_beginning_14 : decode cX2_beginning 14 = .ok (.aload_n 0, 1) := by decide +kernel
theorem dX2_beginning_15 : decode cX2_beginning 15 = .ok (.getfield 21, 3) := by decide +kernel
theorem dX2_beginning_18 : decode cX2_beginning 18 = .ok (.if_icmp .ge 20, 3) := by decide +kernel
theorem dX2_beginning_21 : decode cX2_beginning 21 = .ok (.aload_n 0, 1) := by decide +kernel
theorem dX2_beginning_22 : decode cX2_beginning 22 = .ok (.iload_n 2, 1) := by decide +kernel
theorem dX2_beginning_23 : decode cX2_beginning 23 = .ok (.iload_n 1, 1) := by decide +kernel
theorem dX2_beginning_24 : decode cX2_beginning 24 = .ok (.invokevirtual 47, 3) := by decide +kernel
theorem dX2_beginning_27 : decode cX2_beginning 27 = .ok (.ifCond .eq 5, 3) := by decide +kernel
theorem dX2_beginning_30 : decode cX2_beginning 30 = .ok (.iload_n 2, 1) := by decide +kernel
theorem dX2_beginning_31 : decode cX2_beginning 31 = .ok (.istore_n 1, 1) := by decide +kernel
theorem dX2_beginning_32 : decode cX2_beginning 32 = .ok (.iinc 2 1, 3) := by decide +kernel
theorem dX2_beginning_35 : decode cX2_beginning 35 = .ok (.goto (-22), 3) := by decide +kernel
theorem dX2_beginning_38 : decode cX2_beginning 38 = .ok (.iload_n 1, 1) := by decide +kernel
theorem dX2_beginning_39 : decode cX2_beginning 39 = .ok (.ireturn, 1) := by decide +kernel
theorem dX2_readsLess_0 : decode cX2_readsLess 0 = .ok (.iconst 0, 1) := by decide +kernel
theorem dX2_readsLess_1 : decode cX2_readsLess 1 = .ok (.istore_n 3, 1) := by decide +kernel
theorem dX2_readsLess_2 : decode cX2_readsLess 2 = .ok (.iload_n 3, 1) := by decide +kernel
theorem dX2_readsLess_3 : decode cX2_readsLess 3 = .ok (.aload_n 0, 1) := by decide +kernel
theorem dX2_readsLess_4 : decode cX2_readsLess 4 = .ok (.getfield 21, 3) := by decide +kernel
theorem dX2_readsLess_7 : decode cX2_readsLess 7 = .ok (.if_icmp .ge 50, 3) := by decide +kernel
theorem dX2_readsLess_10 : decode cX2_readsLess 10 = .ok (.aload_n 0, 1) := by decide +kernel
theorem dX2_readsLess_11 : decode cX2_readsLess 11 = .ok (.aload_n 0, 1) := by decide +kernel
theorem dX2_readsLess_12 : decode cX2_readsLess 12 = .ok (.iload_n 1, 1) := by decide +kernel
theorem dX2_readsLess_13 : decode cX2_readsLess 13 = .ok (.iconst 0, 1) := by decide +kernel
theorem dX2_readsLess_14 : decode cX2_readsLess 14 = .ok (.iload_n 3, 1) := by decide +kernel
theorem dX2_readsLess_15 : decode cX2_readsLess 15 = .ok (.invokevirtual 51, 3) := by decide +kernel
theorem dX2_readsLess_18 : decode cX2_readsLess 18 = .ok (.invokevirtual 55, 3) := by decide +kernel
theorem dX2_readsLess_21 : decode cX2_readsLess 21 = .ok (.aload_n 0, 1) := by decide +kernel
theorem dX2_readsLess_22 : decode cX2_readsLess 22 = .ok (.aload_n 0, 1) := by decide +kernel
theorem dX2_readsLess_23 : decode cX2_readsLess 23 = .ok (.iload_n 2, 1) := by decide +kernel
theorem dX2_readsLess_24 : decode cX2_readsLess 24 = .ok (.iconst 0, 1) := by decide +kernel
theorem dX2_readsLess_25 : decode cX2_readsLess 25 = .ok (.iload_n 3, 1) := by decide +kernel
theorem dX2_readsLess_26 : decode cX2_readsLess 26 = .ok (.invokevirtual 51, 3) := by decide +kernel
theorem dX2_readsLess_29 : decode cX2_readsLess 29 = .ok (.invokevirtual 55, 3) := by decide +kernel
theorem dX2_readsLess_32 : decode cX2_readsLess 32 = .ok (.isub, 1) := by decide +kernel
theorem dX2_readsLess_33 : decode cX2_readsLess 33 = .ok (.istore 4, 2) := by decide +kernel
theorem dX2_readsLess_35 : decode cX2_readsLess 35 = .ok (.iload 4, 2) := by decide +kernel
theorem dX2_readsLess_37 : decode cX2_readsLess 37 = .ok (.ifCond .eq 14, 3) := by decide +kernel
theorem dX2_readsLess_40 : decode cX2_readsLess 40 = .ok (.iload 4, 2) := by decide +kernel
theorem dX2_readsLess_42 : decode cX2_readsLess 42 = .ok (.ifCond .ge 7, 3) := by decide +kernel
theorem dX2_readsLess_45 : decode cX2_readsLess 45 = .ok (.iconst 1, 1) := by decide +kernel
theorem dX2_readsLess_46 : decode cX2_readsLess 46 = .ok (.goto 4, 3) := by decide +kernel
theorem dX2_readsLess_49 : decode cX2_readsLess 49 = .ok (.iconst 0, 1) := by decide +kernel
theorem dX2_readsLess_50 : decode cX2_readsLess 50 = .ok (.ireturn, 1) := by decide +kernel
theorem dX2_readsLess_51 : decode cX2_readsLess 51 = .ok (.iinc 3 1, 3) := by decide +kernel
theorem dX2_readsLess_54 : decode cX2_readsLess 54 = .ok (.goto (-52), 3) := by decide +kernel
theorem dX2_readsLess_57 : decode cX2_readsLess 57 = .ok (.iconst 0, 1) := by decide +kernel
theorem dX2_readsLess_58 : decode cX2_readsLess 58 = .ok (.ireturn, 1) := by decide +kernel
theorem dX2_period_0 : decode cX2_period 0 = .ok (.iconst 1, 1) := by decide +kernel
theorem dX2_period_1 : decode cX2_period 1 = .ok (.istore_n 1, 1) := by decide +kernel
theorem dX2_period_2 : decode cX2_period 2 = .ok (.iload_n 1, 1) := by decide +kernel
theorem dX2_period_3 : decode cX2_period 3 = .ok (.aload_n 0, 1) := by decide +kernel
theorem dX2_period_4 : decode cX2_period 4 = .ok (.getfield 21, 3) := by decide +kernel
theorem dX2_period_7 : decode cX2_period 7 = .ok (.if_icmp .ge 20, 3) := by decide +kernel
theorem dX2_period_10 : decode cX2_period 10 = .ok (.aload_n 0, 1) := by decide +kernel
theorem dX2_period_11 : decode cX2_period 11 = .ok (.iload_n 1, 1) := by decide +kernel
theorem dX2_period_12 : decode cX2_period 12 = .ok (.iconst 0, 1) := by decide +kernel
theorem dX2_period_13 : decode cX2_period 13 = .ok (.invokevirtual 59, 3) := by decide +kernel
theorem dX2_period_16 : decode cX2_period 16 = .ok (.ifCond .eq 5, 3) := by decide +kernel
theorem dX2_period_19 : decode cX2_period 19 = .ok (.iload_n 1, 1) := by decide +kernel
theorem dX2_period_20 : decode cX2_period 20 = .ok (.ireturn, 1) := by decide +kernel
theorem dX2_period_21 : decode cX2_period 21 = .ok (.iinc 1 1, 3) := by decide +kernel
theorem dX2_period_24 : decode cX2_period 24 = .ok (.goto (-22), 3) := by decide +kernel
theorem dX2_period_27 : decode cX2_period 27 = .ok (.aload_n 0, 1) := by decide +kernel
theorem dX2_period_28 : decode cX2_period 28 = .ok (.getfield 21, 3) := by decide +kernel
theorem dX2_period_31 : decode cX2_period 31 = .ok (.ireturn, 1) := by decide +kernel
theorem dX2_isAsReadBackwards_0 : decode cX2_isAsReadBackwards 0 = .ok (.iconst 0, 1) := by decide +kernel
theorem dX2_isAsReadBackwards_1 : decode cX2_isAsReadBackwards 1 = .ok (.istore_n 1, 1) := by decide +kernel
theorem dX2_isAsReadBackwards_2 : decode cX2_isAsReadBackwards 2 = .ok (.iload_n 1, 1) := by decide +kernel
theorem dX2_isAsReadBackwards_3 : decode cX2_isAsReadBackwards 3 = .ok (.aload_n 0, 1) := by decide +kernel
theorem dX2_isAsReadBackwards_4 : decode cX2_isAsReadBackwards 4 = .ok (.getfield 21, 3) := by decide +kernel
theorem dX2_isAsReadBackwards_7 : decode cX2_isAsReadBackwards 7 = .ok (.if_icmp .ge 20, 3) := by decide +kernel
theorem dX2_isAsReadBackwards_10 : decode cX2_isAsReadBackwards 10 = .ok (.aload_n 0, 1) := by decide +kernel
theorem dX2_isAsReadBackwards_11 : decode cX2_isAsReadBackwards 11 = .ok (.iload_n 1, 1) := by decide +kernel
theorem dX2_isAsReadBackwards_12 : decode cX2_isAsReadBackwards 12 = .ok (.iconst 1, 1) := by decide +kernel
theorem dX2_isAsReadBackwards_13 : decode cX2_isAsReadBackwards 13 = .ok (.invokevirtual 59, 3) := by decide +kernel
theorem dX2_isAsReadBackwards_16 : decode cX2_isAsReadBackwards 16 = .ok (.ifCond .eq 5, 3) := by decide +kernel
theorem dX2_isAsReadBackwards_19 : decode cX2_isAsReadBackwards 19 = .ok (.iconst 1, 1) := by decide +kernel
theorem dX2_isAsReadBackwards_20 : decode cX2_isAsReadBackwards 20 = .ok (.ireturn, 1) := by decide +kernel
theorem dX2_isAsReadBackwards_21 : decode cX2_isAsReadBackwards 21 = .ok (.iinc 1 1, 3) := by decide +kernel
theorem dX2_isAsReadBackwards_24 : decode cX2_isAsReadBackwards 24 = .ok (.goto (-22), 3) := by decide +kernel
theorem dX2_isAsReadBackwards_27 : decode cX2_isAsReadBackwards 27 = .ok (.aload_n 0, 1) := by decide +kernel
theorem dX2_isAsReadBackwards_28 : decode cX2_isAsReadBackwards 28 = .ok (.getfield 21, 3) := by decide +kernel
theorem dX2_isAsReadBackwards_31 : decode cX2_isAsReadBackwards 31 = .ok (.ifCond .ne 7, 3) := by decide +kernel
theorem dX2_isAsReadBackwards_34 : decode cX2_isAsReadBackwards 34 = .ok (.iconst 1, 1) := by decide +kernel
theorem dX2_isAsReadBackwards_35 : decode cX2_isAsReadBackwards 35 = .ok (.goto 4, 3) := by decide +kernel
theorem dX2_isAsReadBackwards_38 : decode cX2_isAsReadBackwards 38 = .ok (.iconst 0, 1) := by decide +kernel
theorem dX2_isAsReadBackwards_39 : decode cX2_isAsReadBackwards 39 = .ok (.ireturn, 1) := by decide +kernel
theorem dX2_readsAsFromZero_0 : decode cX2_readsAsFromZero 0 = .ok (.iconst 0, 1) := by decide +kernel
theorem dX2_readsAsFromZero_1 : decode cX2_readsAsFromZero 1 = .ok (.istore_n 3, 1) := by decide +kernel
theorem dX2_readsAsFromZero_2 : decode cX2_readsAsFromZero 2 = .ok (.iload_n 3, 1) := by decide +kernel
theorem dX2_readsAsFromZero_3 : decode cX2_readsAsFromZero 3 = .ok (.aload_n 0, 1) := by decide +kernel
theorem dX2_readsAsFromZero_4 : decode cX2_readsAsFromZero 4 = .ok (.getfield 21, 3) := by decide +kernel
theorem dX2_readsAsFromZero_7 : decode cX2_readsAsFromZero 7 = .ok (.if_icmp .ge 31, 3) := by decide +kernel
theorem dX2_readsAsFromZero_10 : decode cX2_readsAsFromZero 10 = .ok (.aload_n 0, 1) := by decide +kernel
theorem dX2_readsAsFromZero_11 : decode cX2_readsAsFromZero 11 = .ok (.getfield 9, 3) := by decide +kernel
theorem dX2_readsAsFromZero_14 : decode cX2_readsAsFromZero 14 = .ok (.iload_n 3, 1) := by decide +kernel
theorem dX2_readsAsFromZero_15 : decode cX2_readsAsFromZero 15 = .ok (.caload, 1) := by decide +kernel
theorem dX2_readsAsFromZero_16 : decode cX2_readsAsFromZero 16 = .ok (.aload_n 0, 1) := by decide +kernel
theorem dX2_readsAsFromZero_17 : decode cX2_readsAsFromZero 17 = .ok (.aload_n 0, 1) := by decide +kernel
theorem dX2_readsAsFromZero_18 : decode cX2_readsAsFromZero 18 = .ok (.iload_n 1, 1) := by decide +kernel
theorem dX2_readsAsFromZero_19 : decode cX2_readsAsFromZero 19 = .ok (.iload_n 2, 1) := by decide +kernel
theorem dX2_readsAsFromZero_20 : decode cX2_readsAsFromZero 20 = .ok (.iload_n 3, 1) := by decide +kernel
theorem dX2_readsAsFromZero_21 : decode cX2_readsAsFromZero 21 = .ok (.invokevirtual 51, 3) := by decide +kernel
theorem dX2_readsAsFromZero_24 : decode cX2_readsAsFromZero 24 = .ok (.invokevirtual 55, 3) := by decide +kernel
theorem dX2_readsAsFromZero_27 : decode cX2_readsAsFromZero 27 = .ok (.if_icmp .eq 5, 3) := by decide +kernel
theorem dX2_readsAsFromZero_30 : decode cX2_readsAsFromZero 30 = .ok (.iconst 0, 1) := by decide +kernel
theorem dX2_readsAsFromZero_31 : decode cX2_readsAsFromZero 31 = .ok (.ireturn, 1) := by decide +kernel
theorem dX2_readsAsFromZero_32 : decode cX2_readsAsFromZero 32 = .ok (.iinc 3 1, 3) := by decide +kernel
theorem dX2_readsAsFromZero_35 : decode cX2_readsAsFromZero 35 = .ok (.goto (-33), 3) := by decide +kernel
theorem dX2_readsAsFromZero_38 : decode cX2_readsAsFromZero 38 = .ok (.iconst 1, 1) := by decide +kernel
theorem dX2_readsAsFromZero_39 : decode cX2_readsAsFromZero 39 = .ok (.ireturn, 1) := by decide +kernel
theorem dX2_segmentLength_0 : decode cX2_segmentLength 0 = .ok (.aload_n 0, 1) := by decide +kernel
theorem dX2_segmentLength_1 : decode cX2_segmentLength 1 = .ok (.iload_n 1, 1) := by decide +kernel
theorem dX2_segmentLength_2 : decode cX2_segmentLength 2 = .ok (.invokevirtual 62, 3) := by decide +kernel
theorem dX2_segmentLength_5 : decode cX2_segmentLength 5 = .ok (.ifCond .ne 5, 3) := by decide +kernel
theorem dX2_segmentLength_8 : decode cX2_segmentLength 8 = .ok (.iconst 0, 1) := by decide +kernel
theorem dX2_segmentLength_9 : decode cX2_segmentLength 9 = .ok (.ireturn, 1) := by decide +kernel
theorem dX2_segmentLength_10 : decode cX2_segmentLength 10 = .ok (.iconst 0, 1) := by decide +kernel
theorem dX2_segmentLength_11 : decode cX2_segmentLength 11 = .ok (.istore_n 3, 1) := by decide +kernel
theorem dX2_segmentLength_12 : decode cX2_segmentLength 12 = .ok (.iload_n 3, 1) := by decide +kernel
theorem dX2_segmentLength_13 : decode cX2_segmentLength 13 = .ok (.aload_n 0, 1) := by decide +kernel
theorem dX2_segmentLength_14 : decode cX2_segmentLength 14 = .ok (.getfield 21, 3) := by decide +kernel
theorem dX2_segmentLength_17 : decode cX2_segmentLength 17 = .ok (.iconst 1, 1) := by decide +kernel
theorem dX2_segmentLength_18 : decode cX2_segmentLength 18 = .ok (.isub, 1) := by decide +kernel
theorem dX2_segmentLength_19 : decode cX2_segmentLength 19 = .ok (.if_icmp .ge 27, 3) := by decide +kernel
theorem dX2_segmentLength_22 : decode cX2_segmentLength 22 = .ok (.aload_n 0, 1) := by decide +kernel
theorem dX2_segmentLength_23 : decode cX2_segmentLength 23 = .ok (.aload_n 0, 1) := by decide +kernel
theorem dX2_segmentLength_24 : decode cX2_segmentLength 24 = .ok (.iload_n 1, 1) := by decide +kernel
theorem dX2_segmentLength_25 : decode cX2_segmentLength 25 = .ok (.iload_n 2, 1) := by decide +kernel
theorem dX2_segmentLength_26 : decode cX2_segmentLength 26 = .ok (.iload_n 3, 1) := by decide +kernel
theorem dX2_segmentLength_27 : decode cX2_segmentLength 27 = .ok (.iconst 1, 1) := by decide +kernel
theorem dX2_segmentLength_28 : decode cX2_segmentLength 28 = .ok (.iadd, 1) := by decide +kernel
theorem dX2_segmentLength_29 : decode cX2_segmentLength 29 = .ok (.invokevirtual 51, 3) := by decide +kernel
theorem dX2_segmentLength_32 : decode cX2_segmentLength 32 = .ok (.invokevirtual 62, 3) := by decide +kernel
theorem dX2_segmentLength_35 : decode cX2_segmentLength 35 = .ok (.ifCond .eq 5, 3) := by decide +kernel
theorem dX2_segmentLength_38 : decode cX2_segmentLength 38 = .ok (.iload_n 3, 1) := by decide +kernel
theorem dX2_segmentLength_39 : decode cX2_segmentLength 39 = .ok (.ireturn, 1) := by decide +kernel
theorem dX2_segmentLength_40 : decode cX2_segmentLength 40 = .ok (.iinc 3 1, 3) := by decide +kernel
theorem dX2_segmentLength_43 : decode cX2_segmentLength 43 = .ok (.goto (-31), 3) := by decide +kernel
theorem dX2_segmentLength_46 : decode cX2_segmentLength 46 = .ok (.aload_n 0, 1) := by decide +kernel
theorem dX2_segmentLength_47 : decode cX2_segmentLength 47 = .ok (.getfield 21, 3) := by decide +kernel
theorem dX2_segmentLength_50 : decode cX2_segmentLength 50 = .ok (.iconst 1, 1) := by decide +kernel
theorem dX2_segmentLength_51 : decode cX2_segmentLength 51 = .ok (.isub, 1) := by decide +kernel
theorem dX2_segmentLength_52 : decode cX2_segmentLength 52 = .ok (.iconst 0, 1) := by decide +kernel
theorem dX2_segmentLength_53 : decode cX2_segmentLength 53 = .ok (.invokestatic 65, 3) := by decide +kernel
theorem dX2_segmentLength_56 : decode cX2_segmentLength 56 = .ok (.ireturn, 1) := by decide +kernel
theorem dX2_countSegments_0 : decode cX2_countSegments 0 = .ok (.iconst 0, 1) := by decide +kernel
theorem dX2_countSegments_1 : decode cX2_countSegments 1 = .ok (.istore_n 2, 1) := by decide +kernel
theorem dX2_countSegments_2 : decode cX2_countSegments 2 = .ok (.iconst 0, 1) := by decide +kernel
theorem dX2_countSegments_3 : decode cX2_countSegments 3 = .ok (.istore_n 3, 1) := by decide +kernel
theorem dX2_countSegments_4 : decode cX2_countSegments 4 = .ok (.iload_n 3, 1) := by decide +kernel
theorem dX2_countSegments_5 : decode cX2_countSegments 5 = .ok (.aload_n 0, 1) := by decide +kernel
theorem dX2_countSegments_6 : decode cX2_countSegments 6 = .ok (.getfield 21, 3) := by decide +kernel
theorem dX2_countSegments_9 : decode cX2_countSegments 9 = .ok (.if_icmp .ge 21, 3) := by decide +kernel
theorem dX2_countSegments_12 : decode cX2_countSegments 12 = .ok (.aload_n 0, 1) := by decide +kernel
theorem dX2_countSegments_13 : decode cX2_countSegments 13 = .ok (.iload_n 3, 1) := by decide +kernel
theorem dX2_countSegments_14 : decode cX2_countSegments 14 = .ok (.iload_n 1, 1) := by decide +kernel
theorem dX2_countSegments_15 : decode cX2_countSegments 15 = .ok (.invokevirtual 68, 3) := by decide +kernel
theorem dX2_countSegments_18 : decode cX2_countSegments 18 = .ok (.ifCond .le 6, 3) := by decide +kernel
theorem dX2_countSegments_21 : decode cX2_countSegments 21 = .ok (.iinc 2 1, 3) := by decide +kernel
theorem dX2_countSegments_24 : decode cX2_countSegments 24 = .ok (.iinc 3 1, 3) := by decide +kernel
theorem dX2_countSegments_27 : decode cX2_countSegments 27 = .ok (.goto (-23), 3) := by decide +kernel
theorem dX2_countSegments_30 : decode cX2_countSegments 30 = .ok (.iload_n 2, 1) := by decide +kernel
theorem dX2_countSegments_31 : decode cX2_countSegments 31 = .ok (.ireturn, 1) := by decide +kernel
theorem dX2_longestSegment_0 : decode cX2_longestSegment 0 = .ok (.iconst 0, 1) := by decide +kernel
theorem dX2_longestSegment_1 : decode cX2_longestSegment 1 = .ok (.istore_n 2, 1) := by decide +kernel
theorem dX2_longestSegment_2 : decode cX2_longestSegment 2 = .ok (.iconst 0, 1) := by decide +kernel
theorem dX2_longestSegment_3 : decode cX2_longestSegment 3 = .ok (.istore_n 3, 1) := by decide +kernel
theorem dX2_longestSegment_4 : decode cX2_longestSegment 4 = .ok (.iload_n 3, 1) := by decide +kernel
theorem dX2_longestSegment_5 : decode cX2_longestSegment 5 = .ok (.aload_n 0, 1) := by decide +kernel
theorem dX2_longestSegment_6 : decode cX2_longestSegment 6 = .ok (.getfield 21, 3) := by decide +kernel
theorem dX2_longestSegment_9 : decode cX2_longestSegment 9 = .ok (.if_icmp .ge 20, 3) := by decide +kernel
theorem dX2_longestSegment_12 : decode cX2_longestSegment 12 = .ok (.iload_n 2, 1) := by decide +kernel
theorem dX2_longestSegment_13 : decode cX2_longestSegment 13 = .ok (.aload_n 0, 1) := by decide +kernel
theorem dX2_longestSegment_14 : decode cX2_longestSegment 14 = .ok (.iload_n 3, 1) := by decide +kernel
theorem dX2_longestSegment_15 : decode cX2_longestSegment 15 = .ok (.iload_n 1, 1) := by decide +kernel
theorem dX2_longestSegment_16 : decode cX2_longestSegment 16 = .ok (.invokevirtual 68, 3) := by decide +kernel
theorem dX2_longestSegment_19 : decode cX2_longestSegment 19 = .ok (.invokestatic 65, 3) := by decide +kernel
theorem dX2_longestSegment_22 : decode cX2_longestSegment 22 = .ok (.istore_n 2, 1) := by decide +kernel
theorem dX2_longestSegment_23 : decode cX2_longestSegment 23 = .ok (.iinc 3 1, 3) := by decide +kernel
theorem dX2_longestSegment_26 : decode cX2_longestSegment 26 = .ok (.goto (-22), 3) := by decide +kernel
theorem dX2_longestSegment_29 : decode cX2_longestSegment 29 = .ok (.iload_n 2, 1) := by decide +kernel
theorem dX2_longestSegment_30 : decode cX2_longestSegment 30 = .ok (.ireturn, 1) := by decide +kernel
theorem dX2_dividerAheadOf_0 : decode cX2_dividerAheadOf 0 = .ok (.iconst 0, 1) := by decide +kernel
theorem dX2_dividerAheadOf_1 : decode cX2_dividerAheadOf 1 = .ok (.istore_n 3, 1) := by decide +kernel
theorem dX2_dividerAheadOf_2 : decode cX2_dividerAheadOf 2 = .ok (.iconst 0, 1) := by decide +kernel
theorem dX2_dividerAheadOf_3 : decode cX2_dividerAheadOf 3 = .ok (.istore 4, 2) := by decide +kernel
theorem dX2_dividerAheadOf_5 : decode cX2_dividerAheadOf 5 = .ok (.iload 4, 2) := by decide +kernel
theorem dX2_dividerAheadOf_7 : decode cX2_dividerAheadOf 7 = .ok (.aload_n 0, 1) := by decide +kernel
theorem dX2_dividerAheadOf_8 : decode cX2_dividerAheadOf 8 = .ok (.getfield 21, 3) := by decide +kernel
theorem dX2_dividerAheadOf_11 : decode cX2_dividerAheadOf 11 = .ok (.if_icmp .ge 50, 3) := by decide +kernel
theorem dX2_dividerAheadOf_14 : decode cX2_dividerAheadOf 14 = .ok (.iload_n 1, 1) := by decide +kernel
theorem dX2_dividerAheadOf_15 : decode cX2_dividerAheadOf 15 = .ok (.ifCond .ne 8, 3) := by decide +kernel
theorem dX2_dividerAheadOf_18 : decode cX2_dividerAheadOf 18 = .ok (.iload 4, 2) := by decide +kernel
theorem dX2_dividerAheadOf_20 : decode cX2_dividerAheadOf 20 = .ok (.goto 12, 3) := by decide +kernel
theorem dX2_dividerAheadOf_23 : decode cX2_dividerAheadOf 23 = .ok (.aload_n 0, 1) := by decide +kernel
theorem dX2_dividerAheadOf_24 : decode cX2_dividerAheadOf 24 = .ok (.getfield 21, 3) := by decide +kernel
theorem dX2_dividerAheadOf_27 : decode cX2_dividerAheadOf 27 = .ok (.iconst 1, 1) := by decide +kernel
theorem dX2_dividerAheadOf_28 : decode cX2_dividerAheadOf 28 = .ok (.isub, 1) := by decide +kernel
theorem dX2_dividerAheadOf_29 : decode cX2_dividerAheadOf 29 = .ok (.iload 4, 2) := by decide +kernel
theorem dX2_dividerAheadOf_31 : decode cX2_dividerAheadOf 31 = .ok (.isub, 1) := by decide +kernel
theorem dX2_dividerAheadOf_32 : decode cX2_dividerAheadOf 32 = .ok (.istore 5, 2) := by decide +kernel
theorem dX2_dividerAheadOf_34 : decode cX2_dividerAheadOf 34 = .ok (.aload_n 0, 1) := by decide +kernel
theorem dX2_dividerAheadOf_35 : decode cX2_dividerAheadOf 35 = .ok (.iload 5, 2) := by decide +kernel
theorem dX2_dividerAheadOf_37 : decode cX2_dividerAheadOf 37 = .ok (.iload_n 1, 1) := by decide +kernel
theorem dX2_dividerAheadOf_38 : decode cX2_dividerAheadOf 38 = .ok (.invokevirtual 68, 3) := by decide +kernel
theorem dX2_dividerAheadOf_41 : decode cX2_dividerAheadOf 41 = .ok (.ifCond .le 14, 3) := by decide +kernel
theorem dX2_dividerAheadOf_44 : decode cX2_dividerAheadOf 44 = .ok (.iload_n 3, 1) := by decide +kernel
theorem dX2_dividerAheadOf_45 : decode cX2_dividerAheadOf 45 = .ok (.iload_n 2, 1) := by decide +kernel
theorem dX2_dividerAheadOf_46 : decode cX2_dividerAheadOf 46 = .ok (.if_icmp .ne 6, 3) := by decide +kernel
theorem dX2_dividerAheadOf_49 : decode cX2_dividerAheadOf 49 = .ok (.iload 5, 2) := by decide +kernel
theorem dX2_dividerAheadOf_51 : decode cX2_dividerAheadOf 51 = .ok (.ireturn, 1) := by decide +kernel
theorem dX2_dividerAheadOf_52 : decode cX2_dividerAheadOf 52 = .ok (.iinc 3 1, 3) := by decide +kernel
theorem dX2_dividerAheadOf_55 : decode cX2_dividerAheadOf 55 = .ok (.iinc 4 1, 3) := by decide +kernel
theorem dX2_dividerAheadOf_58 : decode cX2_dividerAheadOf 58 = .ok (.goto (-53), 3) := by decide +kernel
theorem dX2_dividerAheadOf_61 : decode cX2_dividerAheadOf 61 = .ok (.iconst (-1), 1) := by decide +kernel
theorem dX2_dividerAheadOf_62 : decode cX2_dividerAheadOf 62 = .ok (.ireturn, 1) := by decide +kernel
theorem dX2_wornInSegment_0 : decode cX2_wornInSegment 0 = .ok (.aload_n 0, 1) := by decide +kernel
theorem dX2_wornInSegment_1 : decode cX2_wornInSegment 1 = .ok (.iload_n 1, 1) := by decide +kernel
theorem dX2_wornInSegment_2 : decode cX2_wornInSegment 2 = .ok (.iload_n 2, 1) := by decide +kernel
theorem dX2_wornInSegment_3 : decode cX2_wornInSegment 3 = .ok (.invokevirtual 68, 3) := by decide +kernel
theorem dX2_wornInSegment_6 : decode cX2_wornInSegment 6 = .ok (.istore_n 3, 1) := by decide +kernel
theorem dX2_wornInSegment_7 : decode cX2_wornInSegment 7 = .ok (.iconst 0, 1) := by decide +kernel
theorem dX2_wornInSegment_8 : decode cX2_wornInSegment 8 = .ok (.istore 4, 2) := by decide +kernel
theorem dX2_wornInSegment_10 : decode cX2_wornInSegment 10 = .ok (.iconst 1, 1) := by decide +kernel
theorem dX2_wornInSegment_11 : decode cX2_wornInSegment 11 = .ok (.istore 5, 2) := by decide +kernel
theorem dX2_wornInSegment_13 : decode cX2_wornInSegment 13 = .ok (.iload 5, 2) := by decide +kernel
theorem dX2_wornInSegment_15 : decode cX2_wornInSegment 15 = .ok (.iload_n 3, 1) := by decide +kernel
theorem dX2_wornInSegment_16 : decode cX2_wornInSegment 16 = .ok (.if_icmp .gt 29, 3) := by decide +kernel
theorem dX2_wornInSegment_19 : decode cX2_wornInSegment 19 = .ok (.aload_n 0, 1) := by decide +kernel
theorem dX2_wornInSegment_20 : decode cX2_wornInSegment 20 = .ok (.aload_n 0, 1) := by decide +kernel
theorem dX2_wornInSegment_21 : decode cX2_wornInSegment 21 = .ok (.iload_n 1, 1) := by decide +kernel
theorem dX2_wornInSegment_22 : decode cX2_wornInSegment 22 = .ok (.iload_n 2, 1) := by decide +kernel
theorem dX2_wornInSegment_23 : decode cX2_wornInSegment 23 = .ok (.iload 5, 2) := by decide +kernel
theorem dX2_wornInSegment_25 : decode cX2_wornInSegment 25 = .ok (.invokevirtual 51, 3) := by decide +kernel
theorem dX2_wornInSegment_28 : decode cX2_wornInSegment 28 = .ok (.invokevirtual 55, 3) := by decide +kernel
theorem dX2_wornInSegment_31 : decode cX2_wornInSegment 31 = .ok (.bipush 63, 2) := by decide +kernel
theorem dX2_wornInSegment_33 : decode cX2_wornInSegment 33 = .ok (.if_icmp .ne 6, 3) := by decide +kernel
theorem dX2_wornInSegment_36 : decode cX2_wornInSegment 36 = .ok (.iinc 4 1, 3) := by decide +kernel
theorem dX2_wornInSegment_39 : decode cX2_wornInSegment 39 = .ok (.iinc 5 1, 3) := by decide +kernel
theorem dX2_wornInSegment_42 : decode cX2_wornInSegment 42 = .ok (.goto (-29), 3) := by decide +kernel
theorem dX2_wornInSegment_45 : decode cX2_wornInSegment 45 = .ok (.iload 4, 2) := by decide +kernel
theorem dX2_wornInSegment_47 : decode cX2_wornInSegment 47 = .ok (.ireturn, 1) := by decide +kernel
theorem dX2_distanceFromDivider_0 : decode cX2_distanceFromDivider 0 = .ok (.iconst 0, 1) := by decide +kernel
theorem dX2_distanceFromDivider_1 : decode cX2_distanceFromDivider 1 = .ok (.istore_n 3, 1) := by decide +kernel
theorem dX2_distanceFromDivider_2 : decode cX2_distanceFromDivider 2 = .ok (.iload_n 3, 1) := by decide +kernel
theorem dX2_distanceFromDivider_3 : decode cX2_distanceFromDivider 3 = .ok (.aload_n 0, 1) := by decide +kernel
theorem dX2_distanceFromDivider_4 : decode cX2_distanceFromDivider 4 = .ok (.getfield 21, 3) := by decide +kernel
theorem dX2_distanceFromDivider_7 : decode cX2_distanceFromDivider 7 = .ok (.if_icmp .ge 27, 3) := by decide +kernel
theorem dX2_distanceFromDivider_10 : decode cX2_distanceFromDivider 10 = .ok (.aload_n 0, 1) := by decide +kernel
theorem dX2_distanceFromDivider_11 : decode cX2_distanceFromDivider 11 = .ok (.aload_n 0, 1) := by decide +kernel
theorem dX2_distanceFromDivider_12 : decode cX2_distanceFromDivider 12 = .ok (.iload_n 1, 1) := by decide +kernel
theorem dX2_distanceFromDivider_13 : decode cX2_distanceFromDivider 13 = .ok (.iconst 1, 1) := by decide +kernel
theorem dX2_distanceFromDivider_14 : decode cX2_distanceFromDivider 14 = .ok (.iload_n 2, 1) := by decide +kernel
theorem dX2_distanceFromDivider_15 : decode cX2_distanceFromDivider 15 = .ok (.isub, 1) := by decide +kernel
theorem dX2_distanceFromDivider_16 : decode cX2_distanceFromDivider 16 = .ok (.iload_n 3, 1) := by decide +kernel
theorem dX2_distanceFromDivider_17 : decode cX2_distanceFromDivider 17 = .ok (.invokevirtual 51, 3) := by decide +kernel
theorem dX2_distanceFromDivider_20 : decode cX2_distanceFromDivider 20 = .ok (.invokevirtual 62, 3) := by decide +kernel
theorem dX2_distanceFromDivider_23 : decode cX2_distanceFromDivider 23 = .ok (.ifCond .eq 5, 3) := by decide +kernel
theorem dX2_distanceFromDivider_26 : decode cX2_distanceFromDivider 26 = .ok (.iload_n 3, 1) := by decide +kernel
theorem dX2_distanceFromDivider_27 : decode cX2_distanceFromDivider 27 = .ok (.ireturn, 1) := by decide +kernel
theorem dX2_distanceFromDivider_28 : decode cX2_distanceFromDivider 28 = .ok (.iinc 3 1, 3) := by decide +kernel
theorem dX2_distanceFromDivider_31 : decode cX2_distanceFromDivider 31 = .ok (.goto (-29), 3) := by decide +kernel
theorem dX2_distanceFromDivider_34 : decode cX2_distanceFromDivider 34 = .ok (.iconst (-1), 1) := by decide +kernel
theorem dX2_distanceFromDivider_35 : decode cX2_distanceFromDivider 35 = .ok (.ireturn, 1) := by decide +kernel
theorem dX3_init_0 : decode cX3_init 0 = .ok (.aload_n 0, 1) := by decide +kernel
theorem dX3_init_1 : decode cX3_init 1 = .ok (.invokespecial 3, 3) := by decide +kernel
theorem dX3_init_4 : decode cX3_init 4 = .ok (.aload_n 0, 1) := by decide +kernel
theorem dX3_init_5 : decode cX3_init 5 = .ok (.new 9, 3) := by decide +kernel
theorem dX3_init_8 : decode cX3_init 8 = .ok (.dup, 1) := by decide +kernel
theorem dX3_init_9 : decode cX3_init 9 = .ok (.invokespecial 11, 3) := by decide +kernel
theorem dX3_init_12 : decode cX3_init 12 = .ok (.putfield 12, 3) := by decide +kernel
theorem dX3_init_15 : decode cX3_init 15 = .ok (.aload_n 0, 1) := by decide +kernel
theorem dX3_init_16 : decode cX3_init 16 = .ok (.new 18, 3) := by decide +kernel
theorem dX3_init_19 : decode cX3_init 19 = .ok (.dup, 1) := by decide +kernel
theorem dX3_init_20 : decode cX3_init 20 = .ok (.invokespecial 20, 3) := by decide +kernel
theorem dX3_init_23 : decode cX3_init 23 = .ok (.putfield 21, 3) := by decide +kernel
theorem dX3_init_26 : decode cX3_init 26 = .ok (.aload_n 0, 1) := by decide +kernel
theorem dX3_init_27 : decode cX3_init 27 = .ok (.iconst 4, 1) := by decide +kernel
theorem dX3_init_28 : decode cX3_init 28 = .ok (.anewarray 25, 3) := by decide +kernel
theorem dX3_init_31 : decode cX3_init 31 = .ok (.putfield 27, 3) := by decide +kernel
theorem dX3_init_34 : decode cX3_init 34 = .ok (.iconst 0, 1) := by decide +kernel
theorem dX3_init_35 : decode cX3_init 35 = .ok (.istore_n 1, 1) := by decide +kernel
theorem dX3_init_36 : decode cX3_init 36 = .ok (.iload_n 1, 1) := by decide +kernel
theorem dX3_init_37 : decode cX3_init 37 = .ok (.iconst 4, 1) := by decide +kernel
theorem dX3_init_38 : decode cX3_init 38 = .ok (.if_icmp .ge 22, 3) := by decide +kernel
theorem dX3_init_41 : decode cX3_init 41 = .ok (.aload_n 0, 1) := by decide +kernel
theorem dX3_init_42 : decode cX3_init 42 = .ok (.getfield 27, 3) := by decide +kernel
theorem dX3_init_45 : decode cX3_init 45 = .ok (.iload_n 1, 1) := by decide +kernel
theorem dX3_init_46 : decode cX3_init 46 = .ok (.new 25, 3) := by decide +kernel
theorem dX3_init_49 : decode cX3_init 49 = .ok (.dup, 1) := by decide +kernel
theorem dX3_init_50 : decode cX3_init 50 = .ok (.invokespecial 31, 3) := by decide +kernel
theorem dX3_init_53 : decode cX3_init 53 = .ok (.aastore, 1) := by decide +kernel
theorem dX3_init_54 : decode cX3_init 54 = .ok (.iinc 1 1, 3) := by decide +kernel
theorem dX3_init_57 : decode cX3_init 57 = .ok (.goto (-21), 3) := by decide +kernel
theorem dX3_init_60 : decode cX3_init 60 = .ok (.return_, 1) := by decide +kernel
theorem dX3_copyFrom_0 : decode cX3_copyFrom 0 = .ok (.aload_n 0, 1) := by decide +kernel
theorem dX3_copyFrom_1 : decode cX3_copyFrom 1 = .ok (.getfield 12, 3) := by decide +kernel
theorem dX3_copyFrom_4 : decode cX3_copyFrom 4 = .ok (.aload_n 1, 1) := by decide +kernel
theorem dX3_copyFrom_5 : decode cX3_copyFrom 5 = .ok (.getfield 12, 3) := by decide +kernel
theorem dX3_copyFrom_8 : decode cX3_copyFrom 8 = .ok (.invokevirtual 32, 3) := by decide +kernel
theorem dX3_copyFrom_11 : decode cX3_copyFrom 11 = .ok (.aload_n 0, 1) := by decide +kernel
theorem dX3_copyFrom_12 : decode cX3_copyFrom 12 = .ok (.getfield 21, 3) := by decide +kernel
theorem dX3_copyFrom_15 : decode cX3_copyFrom 15 = .ok (.aload_n 1, 1) := by decide +kernel
theorem dX3_copyFrom_16 : decode cX3_copyFrom 16 = .ok (.getfield 21, 3) := by decide +kernel
theorem dX3_copyFrom_19 : decode cX3_copyFrom 19 = .ok (.invokevirtual 36, 3) := by decide +kernel
theorem dX3_copyFrom_22 : decode cX3_copyFrom 22 = .ok (.iconst 0, 1) := by decide +kernel
theorem dX3_copyFrom_23 : decode cX3_copyFrom 23 = .ok (.istore_n 2, 1) := by decide +kernel
theorem dX3_copyFrom_24 : decode cX3_copyFrom 24 = .ok (.iload_n 2, 1) := by decide +kernel
theorem dX3_copyFrom_25 : decode cX3_copyFrom 25 = .ok (.iconst 4, 1) := by decide +kernel
theorem dX3_copyFrom_26 : decode cX3_copyFrom 26 = .ok (.if_icmp .ge 24, 3) := by decide +kernel
theorem dX3_copyFrom_29 : decode cX3_copyFrom 29 = .ok (.aload_n 0, 1) := by decide +kernel
theorem dX3_copyFrom_30 : decode cX3_copyFrom 30 = .ok (.getfield 27, 3) := by decide +kernel
theorem dX3_copyFrom_33 : decode cX3_copyFrom 33 = .ok (.iload_n 2, 1) := by decide +kernel
theorem dX3_copyFrom_34 : decode cX3_copyFrom 34 = .ok (.aaload, 1) := by decide +kernel
theorem dX3_copyFrom_35 : decode cX3_copyFrom 35 = .ok (.aload_n 1, 1) := by decide +kernel
theorem dX3_copyFrom_36 : decode cX3_copyFrom 36 = .ok (.getfield 27, 3) := by decide +kernel
theorem dX3_copyFrom_39 : decode cX3_copyFrom 39 = .ok (.iload_n 2, 1) := by decide +kernel
theorem dX3_copyFrom_40 : decode cX3_copyFrom 40 = .ok (.aaload, 1) := by decide +kernel
theorem dX3_copyFrom_41 : decode cX3_copyFrom 41 = .ok (.invokevirtual 39, 3) := by decide +kernel
theorem dX3_copyFrom_44 : decode cX3_copyFrom 44 = .ok (.iinc 2 1, 3) := by decide +kernel
theorem dX3_copyFrom_47 : decode cX3_copyFrom 47 = .ok (.goto (-23), 3) := by decide +kernel
theorem dX3_copyFrom_50 : decode cX3_copyFrom 50 = .ok (.aload_n 0, 1) := by decide +kernel
theorem dX3_copyFrom_51 : decode cX3_copyFrom 51 = .ok (.aload_n 1, 1) := by decide +kernel
theorem dX3_copyFrom_52 : decode cX3_copyFrom 52 = .ok (.getfield 42, 3) := by decide +kernel
theorem dX3_copyFrom_55 : decode cX3_copyFrom 55 = .ok (.putfield 42, 3) := by decide +kernel
theorem dX3_copyFrom_58 : decode cX3_copyFrom 58 = .ok (.aload_n 0, 1) := by decide +kernel
theorem dX3_copyFrom_59 : decode cX3_copyFrom 59 = .ok (.aload_n 1, 1) := by decide +kernel
theorem dX3_copyFrom_60 : decode cX3_copyFrom 60 = .ok (.getfield 46, 3) := by decide +kernel
theorem dX3_copyFrom_63 : decode cX3_copyFrom 63 = .ok (.putfield 46, 3) := by decide +kernel
theorem dX3_copyFrom_66 : decode cX3_copyFrom 66 = .ok (.return_, 1) := by decide +kernel
theorem dX3_hasWalker_0 : decode cX3_hasWalker 0 = .ok (.iload_n 1, 1) := by decide +kernel
theorem dX3_hasWalker_1 : decode cX3_hasWalker 1 = .ok (.ifCond .lt 15, 3) := by decide +kernel
theorem dX3_hasWalker_4 : decode cX3_hasWalker 4 = .ok (.iload_n 1, 1) := by decide +kernel
theorem dX3_hasWalker_5 : decode cX3_hasWalker 5 = .ok (.aload_n 0, 1) := by decide +kernel
theorem dX3_hasWalker_6 : decode cX3_hasWalker 6 = .ok (.getfield 42, 3) := by decide +kernel
theorem dX3_hasWalker_9 : decode cX3_hasWalker 9 = .ok (.if_icmp .ge 7, 3) := by decide +kernel
theorem dX3_hasWalker_12 : decode cX3_hasWalker 12 = .ok (.iconst 1, 1) := by decide +kernel
theorem dX3_hasWalker_13 : decode cX3_hasWalker 13 = .ok (.goto 4, 3) := by decide +kernel
theorem dX3_hasWalker_16 : decode cX3_hasWalker 16 = .ok (.iconst 0, 1) := by decide +kernel
theorem dX3_hasWalker_17 : decode cX3_hasWalker 17 = .ok (.ireturn, 1) := by decide +kernel
theorem dX3_sense_0 : decode cX3_sense 0 = .ok (.iconst 0, 1) := by decide +kernel
theorem dX3_sense_1 : decode cX3_sense 1 = .ok (.istore_n 2, 1) := by decide +kernel
theorem dX3_sense_2 : decode cX3_sense 2 = .ok (.iconst 0, 1) := by decide +kernel
theorem dX3_sense_3 : decode cX3_sense 3 = .ok (.istore_n 3, 1) := by decide +kernel
theorem dX3_sense_4 : decode cX3_sense 4 = .ok (.iload_n 3, 1) := by decide +kernel
theorem dX3_sense_5 : decode cX3_sense 5 = .ok (.aload_n 0, 1) := by decide +kernel
theorem dX3_sense_6 : decode cX3_sense 6 = .ok (.getfield 12, 3) := by decide +kernel
theorem dX3_sense_9 : decode cX3_sense 9 = .ok (.getfield 49, 3) := by decide +kernel
theorem dX3_sense_12 : decode cX3_sense 12 = .ok (.if_icmp .ge 29, 3) := by decide +kernel
theorem dX3_sense_15 : decode cX3_sense 15 = .ok (.aload_n 0, 1) := by decide +kernel
theorem dX3_sense_16 : decode cX3_sense 16 = .ok (.getfield 21, 3) := by decide +kernel
theorem dX3_sense_19 : decode cX3_sense 19 = .ok (.aload_n 0, 1) := by decide +kernel
theorem dX3_sense_20 : decode cX3_sense 20 = .ok (.getfield 12, 3) := by decide +kernel
theorem dX3_sense_23 : decode cX3_sense 23 = .ok (.iload_n 3, 1) := by decide +kernel
theorem dX3_sense_24 : decode cX3_sense 24 = .ok (.iload_n 1, 1) := by decide +kernel
theorem dX3_sense_25 : decode cX3_sense 25 = .ok (.invokevirtual 52, 3) := by decide +kernel
theorem dX3_sense_28 : decode cX3_sense 28 = .ok (.iconst (-1), 1) := by decide +kernel
theorem dX3_sense_29 : decode cX3_sense 29 = .ok (.if_icmp .eq 6, 3) := by decide +kernel
theorem dX3_sense_32 : decode cX3_sense 32 = .ok (.iinc 2 1, 3) := by decide +kernel
theorem dX3_sense_35 : decode cX3_sense 35 = .ok (.iinc 3 1, 3) := by decide +kernel
theorem dX3_sense_38 : decode cX3_sense 38 = .ok (.goto (-34), 3) := by decide +kernel
theorem dX3_sense_41 : decode cX3_sense 41 = .ok (.iload_n 2, 1) := by decide +kernel
theorem dX3_sense_42 : decode cX3_sense 42 = .ok (.ireturn, 1) := by decide +kernel
theorem dX3_readings_0 : decode cX3_readings 0 = .ok (.lconst 1, 1) := by decide +kernel
theorem dX3_readings_1 : decode cX3_readings 1 = .ok (.lstore_n 2, 1) := by decide +kernel
theorem dX3_readings_2 : decode cX3_readings 2 = .ok (.iconst 0, 1) := by decide +kernel
theorem dX3_readings_3 : decode cX3_readings 3 = .ok (.istore 4, 2) := by decide +kernel
theorem dX3_readings_5 : decode cX3_readings 5 = .ok (.iconst 0, 1) := by decide +kernel
theorem dX3_readings_6 : decode cX3_readings 6 = .ok (.istore 5, 2) := by decide +kernel
theorem dX3_readings_8 : decode cX3_readings 8 = .ok (.iload 5, 2) := by decide +kernel
theorem dX3_readings_10 : decode cX3_readings 10 = .ok (.aload_n 0, 1) := by decide +kernel
theorem dX3_readings_11 : decode cX3_readings 11 = .ok (.getfield 12, 3) := by decide +kernel
theorem dX3_readings_14 : decode cX3_readings 14 = .ok (.getfield 49, 3) := by decide +kernel
theorem dX3_readings_17 : decode cX3_readings 17 = .ok (.if_icmp .ge 43, 3) := by decide +kernel
theorem dX3_readings_20 : decode cX3_readings 20 = .ok (.aload_n 0, 1) := by decide +kernel
theorem dX3_readings_21 : decode cX3_readings 21 = .ok (.getfield 12, 3) := by decide +kernel
theorem dX3_readings_24 : decode cX3_readings 24 = .ok (.iload 5, 2) := by decide +kernel
theorem dX3_readings_26 : decode cX3_readings 26 = .ok (.iload_n 1, 1) := by decide +kernel
theorem dX3_readings_27 : decode cX3_readings 27 = .ok (.invokevirtual 56, 3) := by decide +kernel
theorem dX3_readings_30 : decode cX3_readings 30 = .ok (.ifCond .le 24, 3) := by decide +kernel
theorem dX3_readings_33 : decode cX3_readings 33 = .ok (.lload_n 2, 1) := by decide +kernel
theorem dX3_readings_34 : decode cX3_readings 34 = .ok (.aload_n 0, 1) := by decide +kernel
theorem dX3_readings_35 : decode cX3_readings 35 = .ok (.getfield 21, 3) := by decide +kernel
theorem dX3_readings_38 : decode cX3_readings 38 = .ok (.aload_n 0, 1) := by decide +kernel
theorem dX3_readings_39 : decode cX3_readings 39 = .ok (.getfield 12, 3) := by decide +kernel
theorem dX3_readings_42 : decode cX3_readings 42 = .ok (.iload 5, 2) := by decide +kernel
theorem dX3_readings_44 : decode cX3_readings 44 = .ok (.iload_n 1, 1) := by decide +kernel
theorem dX3_readings_45 : decode cX3_readings 45 = .ok (.invokevirtual 60, 3) := by decide +kernel
theorem dX3_readings_48 : decode cX3_readings 48 = .ok (.i2l, 1) := by decide +kernel
theorem dX3_readings_49 : decode cX3_readings 49 = .ok (.lmul, 1) := by decide +kernel
theorem dX3_readings_50 : decode cX3_readings 50 = .ok (.lstore_n 2, 1) := by decide +kernel
theorem dX3_readings_51 : decode cX3_readings 51 = .ok (.iinc 4 1, 3) := by decide +kernel
theorem dX3_readings_54 : decode cX3_readings 54 = .ok (.iinc 5 1, 3) := by decide +kernel
theorem dX3_readings_57 : decode cX3_readings 57 = .ok (.goto (-49), 3) := by decide +kernel
theorem dX3_readings_60 : decode cX3_readings 60 = .ok (.iload 4, 2) := by decide +kernel
theorem dX3_readings_62 : decode cX3_readings 62 = .ok (.ifCond .ne 7, 3) := by decide +kernel
theorem dX3_readings_65 : decode cX3_readings 65 = .ok (.iconst 0, 1) := by decide +kernel
theorem dX3_readings_66 : decode cX3_readings 66 = .ok (.goto 11, 3) := by decide +kernel
theorem dX3_readings_69 : decode cX3_readings 69 = .ok (.lload_n 2, 1) := by decide +kernel
theorem dX3_readings_70 : decode cX3_readings 70 = .ok (.ldc2_w 63, 3) := by decide +kernel
theorem dX3_readings_73 : decode cX3_readings 73 = .ok (.invokestatic 65, 3) := by decide +kernel
theorem dX3_readings_76 : decode cX3_readings 76 = .ok (.l2i, 1) := by decide +kernel
theorem dX3_readings_77 : decode cX3_readings 77 = .ok (.ireturn, 1) := by decide +kernel
theorem dX3_knownBy_0 : decode cX3_knownBy 0 = .ok (.aload_n 0, 1) := by decide +kernel
theorem dX3_knownBy_1 : decode cX3_knownBy 1 = .ok (.iload_n 1, 1) := by decide +kernel
theorem dX3_knownBy_2 : decode cX3_knownBy 2 = .ok (.invokevirtual 71, 3) := by decide +kernel
theorem dX3_knownBy_5 : decode cX3_knownBy 5 = .ok (.ifCond .ne 5, 3) := by decide +kernel
theorem dX3_knownBy_8 : decode cX3_knownBy 8 = .ok (.iconst 0, 1) := by decide +kernel
theorem dX3_knownBy_9 : decode cX3_knownBy 9 = .ok (.ireturn, 1) := by decide +kernel
theorem dX3_knownBy_10 : decode cX3_knownBy 10 = .ok (.aload_n 0, 1) := by decide +kernel
theorem dX3_knownBy_11 : decode cX3_knownBy 11 = .ok (.getfield 27, 3) := by decide +kernel
theorem dX3_knownBy_14 : decode cX3_knownBy 14 = .ok (.iload_n 1, 1) := by decide +kernel
theorem dX3_knownBy_15 : decode cX3_knownBy 15 = .ok (.aaload, 1) := by decide +kernel
theorem dX3_knownBy_16 : decode cX3_knownBy 16 = .ok (.astore_n 3, 1) := by decide +kernel
theorem dX3_knownBy_17 : decode cX3_knownBy 17 = .ok (.iconst 0, 1) := by decide +kernel
theorem dX3_knownBy_18 : decode cX3_knownBy 18 = .ok (.istore 4, 2) := by decide +kernel
theorem dX3_knownBy_20 : decode cX3_knownBy 20 = .ok (.iconst 0, 1) := by decide +kernel
theorem dX3_knownBy_21 : decode cX3_knownBy 21 = .ok (.istore 5, 2) := by decide +kernel
theorem dX3_knownBy_23 : decode cX3_knownBy 23 = .ok (.iload 5, 2) := by decide +kernel
theorem dX3_knownBy_25 : decode cX3_knownBy 25 = .ok (.aload_n 0, 1) := by decide +kernel
theorem dX3_knownBy_26 : decode cX3_knownBy 26 = .ok (.getfield 12, 3) := by decide +kernel
theorem dX3_knownBy_29 : decode cX3_knownBy 29 = .ok (.getfield 49, 3) := by decide +kernel
theorem dX3_knownBy_32 : decode cX3_knownBy 32 = .ok (.if_icmp .ge 50, 3) := by decide +kernel
theorem dX3_knownBy_35 : decode cX3_knownBy 35 = .ok (.aload_n 3, 1) := by decide +kernel
theorem dX3_knownBy_36 : decode cX3_knownBy 36 = .ok (.aload_n 0, 1) := by decide +kernel
theorem dX3_knownBy_37 : decode cX3_knownBy 37 = .ok (.getfield 12, 3) := by decide +kernel
theorem dX3_knownBy_40 : decode cX3_knownBy 40 = .ok (.iload 5, 2) := by decide +kernel
theorem dX3_knownBy_42 : decode cX3_knownBy 42 = .ok (.invokevirtual 75, 3) := by decide +kernel
theorem dX3_knownBy_45 : decode cX3_knownBy 45 = .ok (.ifCond .eq 31, 3) := by decide +kernel
theorem dX3_knownBy_48 : decode cX3_knownBy 48 = .ok (.iload_n 2, 1) := by decide +kernel
theorem dX3_knownBy_49 : decode cX3_knownBy 49 = .ok (.ifCond .eq 24, 3) := by decide +kernel
theorem dX3_knownBy_52 : decode cX3_knownBy 52 = .ok (.aload_n 0, 1) := by decide +kernel
theorem dX3_knownBy_53 : decode cX3_knownBy 53 = .ok (.getfield 21, 3) := by decide +kernel
theorem dX3_knownBy_56 : decode cX3_knownBy 56 = .ok (.aload_n 0, 1) := by decide +kernel
theorem dX3_knownBy_57 : decode cX3_knownBy 57 = .ok (.getfield 12, 3) := by decide +kernel
theorem dX3_knownBy_60 : decode cX3_knownBy 60 = .ok (.iload 5, 2) := by decide +kernel
theorem dX3_knownBy_62 : decode cX3_knownBy 62 = .ok (.aload_n 3, 1) := by decide +kernel
theorem dX3_knownBy_63 : decode cX3_knownBy 63 = .ok (.getfield 79, 3) := by decide +kernel
theorem dX3_knownBy_66 : decode cX3_knownBy 66 = .ok (.invokevirtual 52, 3) := by decide +kernel
theorem dX3_knownBy_69 : decode cX3_knownBy 69 = .ok (.iconst (-1), 1) := by decide +kernel
theorem dX3_knownBy_70 : decode cX3_knownBy 70 = .ok (.if_icmp .eq 6, 3) := by decide +kernel
theorem dX3_knownBy_73 : decode cX3_knownBy 73 = .ok (.iinc 4 1, 3) := by decide +kernel
theorem dX3_knownBy_76 : decode cX3_knownBy 76 = .ok (.iinc 5 1, 3) := by decide +kernel
theorem dX3_knownBy_79 : decode cX3_knownBy 79 = .ok (.goto (-56), 3) := by decide +kernel
theorem dX3_knownBy_82 : decode cX3_knownBy 82 = .ok (.iload 4, 2) := by decide +kernel
theorem dX3_knownBy_84 : decode cX3_knownBy 84 = .ok (.ireturn, 1) := by decide +kernel
theorem dX3_knownByAll_0 : decode cX3_knownByAll 0 = .ok (.iconst 0, 1) := by decide +kernel
theorem dX3_knownByAll_1 : decode cX3_knownByAll 1 = .ok (.istore_n 1, 1) := by decide +kernel
theorem dX3_knownByAll_2 : decode cX3_knownByAll 2 = .ok (.iconst 0, 1) := by decide +kernel
theorem dX3_knownByAll_3 : decode cX3_knownByAll 3 = .ok (.istore_n 2, 1) := by decide +kernel
theorem dX3_knownByAll_4 : decode cX3_knownByAll 4 = .ok (.iload_n 2, 1) := by decide +kernel
theorem dX3_knownByAll_5 : decode cX3_knownByAll 5 = .ok (.aload_n 0, 1) := by decide +kernel
theorem dX3_knownByAll_6 : decode cX3_knownByAll 6 = .ok (.getfield 42, 3) := by decide +kernel
theorem dX3_knownByAll_9 : decode cX3_knownByAll 9 = .ok (.if_icmp .ge 18, 3) := by decide +kernel
theorem dX3_knownByAll_12 : decode cX3_knownByAll 12 = .ok (.iload_n 1, 1) := by decide +kernel
theorem dX3_knownByAll_13 : decode cX3_knownByAll 13 = .ok (.aload_n 0, 1) := by decide +kernel
theorem dX3_knownByAll_14 : decode cX3_knownByAll 14 = .ok (.iload_n 2, 1) := by decide +kernel
theorem dX3_knownByAll_15 : decode cX3_knownByAll 15 = .ok (.iconst 0, 1) := by decide +kernel
theorem dX3_knownByAll_16 : decode cX3_knownByAll 16 = .ok (.invokevirtual 82, 3) := by decide +kernel
theorem dX3_knownByAll_19 : decode cX3_knownByAll 19 = .ok (.iadd, 1) := by decide +kernel
theorem dX3_knownByAll_20 : decode cX3_knownByAll 20 = .ok (.istore_n 1, 1) := by decide +kernel
theorem dX3_knownByAll_21 : decode cX3_knownByAll 21 = .ok (.iinc 2 1, 3) := by decide +kernel
theorem dX3_knownByAll_24 : decode cX3_knownByAll 24 = .ok (.goto (-20), 3) := by decide +kernel
theorem dX3_knownByAll_27 : decode cX3_knownByAll 27 = .ok (.iload_n 1, 1) := by decide +kernel
theorem dX3_knownByAll_28 : decode cX3_knownByAll 28 = .ok (.ireturn, 1) := by decide +kernel
theorem dX3_stepsToMeet_0 : decode cX3_stepsToMeet 0 = .ok (.aload_n 0, 1) := by decide +kernel
theorem dX3_stepsToMeet_1 : decode cX3_stepsToMeet 1 = .ok (.iload_n 1, 1) := by decide +kernel
theorem dX3_stepsToMeet_2 : decode cX3_stepsToMeet 2 = .ok (.invokevirtual 71, 3) := by decide +kernel
theorem dX3_stepsToMeet_5 : decode cX3_stepsToMeet 5 = .ok (.ifCond .eq 11, 3) := by decide +kernel
theorem dX3_stepsToMeet_8 : decode cX3_stepsToMeet 8 = .ok (.aload_n 0, 1) := by decide +kernel
theorem dX3_stepsToMeet_9 : decode cX3_stepsToMeet 9 = .ok (.iload_n 2, 1) := by decide +kernel
theorem dX3_stepsToMeet_10 : decode cX3_stepsToMeet 10 = .ok (.invokevirtual 71, 3) := by decide +kernel
theorem dX3_stepsToMeet_13 : decode cX3_stepsToMeet 13 = .ok (.ifCond .ne 5, 3) := by decide +kernel
theorem dX3_stepsToMeet_16 : decode cX3_stepsToMeet 16 = .ok (.iconst (-1), 1) := by decide +kernel
theorem dX3_stepsToMeet_17 : decode cX3_stepsToMeet 17 = .ok (.ireturn, 1) := by decide +kernel
theorem dX3_stepsToMeet_18 : decode cX3_stepsToMeet 18 = .ok (.iconst 0, 1) := by decide +kernel
theorem dX3_stepsToMeet_19 : decode cX3_stepsToMeet 19 = .ok (.istore_n 3, 1) := by decide +kernel
theorem dX3_stepsToMeet_20 : decode cX3_stepsToMeet 20 = .ok (.iload_n 3, 1) := by decide +kernel
theorem dX3_stepsToMeet_21 : decode cX3_stepsToMeet 21 = .ok (.aload_n 0, 1) := by decide +kernel
theorem dX3_stepsToMeet_22 : decode cX3_stepsToMeet 22 = .ok (.getfield 12, 3) := by decide +kernel
theorem dX3_stepsToMeet_25 : decode cX3_stepsToMeet 25 = .ok (.getfield 49, 3) := by decide +kernel
theorem dX3_stepsToMeet_28 : decode cX3_stepsToMeet 28 = .ok (.if_icmp .ge 42, 3) := by decide +kernel
theorem dX3_stepsToMeet_31 : decode cX3_stepsToMeet 31 = .ok (.aload_n 0, 1) := by decide +kernel
theorem dX3_stepsToMeet_32 : decode cX3_stepsToMeet 32 = .ok (.getfield 27, 3) := by decide +kernel
theorem dX3_stepsToMeet_35 : decode cX3_stepsToMeet 35 = .ok (.iload_n 1, 1) := by decide +kernel
theorem dX3_stepsToMeet_36 : decode cX3_stepsToMeet 36 = .ok (.aaload, 1) := by decide +kernel
theorem dX3_stepsToMeet_37 : decode cX3_stepsToMeet 37 = .ok (.iload_n 3, 1) := by decide +kernel
theorem dX3_stepsToMeet_38 : decode cX3_stepsToMeet 38 = .ok (.aload_n 0, 1) := by decide +kernel
theorem dX3_stepsToMeet_39 : decode cX3_stepsToMeet 39 = .ok (.getfield 12, 3) := by decide +kernel
theorem dX3_stepsToMeet_42 : decode cX3_stepsToMeet 42 = .ok (.invokevirtual 86, 3) := by decide +kernel
theorem dX3_stepsToMeet_45 : decode cX3_stepsToMeet 45 = .ok (.aload_n 0, 1) := by decide +kernel
theorem dX3_stepsToMeet_46 : decode cX3_stepsToMeet 46 = .ok (.getfield 27, 3) := by decide +kernel
theorem dX3_stepsToMeet_49 : decode cX3_stepsToMeet 49 = .ok (.iload_n 2, 1) := by decide +kernel
theorem dX3_stepsToMeet_50 : decode cX3_stepsToMeet 50 = .ok (.aaload, 1) := by decide +kernel
theorem dX3_stepsToMeet_51 : decode cX3_stepsToMeet 51 = .ok (.iload_n 3, 1) := by decide +kernel
theorem dX3_stepsToMeet_52 : decode cX3_stepsToMeet 52 = .ok (.aload_n 0, 1) := by decide +kernel
theorem dX3_stepsToMeet_53 : decode cX3_stepsToMeet 53 = .ok (.getfield 12, 3) := by decide +kernel
theorem dX3_stepsToMeet_56 : decode cX3_stepsToMeet 56 = .ok (.invokevirtual 86, 3) := by decide +kernel
theorem dX3_stepsToMeet_59 : decode cX3_stepsToMeet 59 = .ok (.if_icmp .ne 5, 3) := by decide +kernel
theorem dX3_stepsToMeet_62 : decode cX3_stepsToMeet 62 = .ok (.iload_n 3, 1) := by decide +kernel
theorem dX3_stepsToMeet_63 : decode cX3_stepsToMeet 63 = .ok (.ireturn, 1) := by decide +kernel
theorem dX3_stepsToMeet_64 : decode cX3_stepsToMeet 64 = .ok (.iinc 3 1, 3) := by decide +kernel
theorem dX3_stepsToMeet_67 : decode cX3_stepsToMeet 67 = .ok (.goto (-47), 3) := by decide +kernel
theorem dX3_stepsToMeet_70 : decode cX3_stepsToMeet 70 = .ok (.iconst (-1), 1) := by decide +kernel
theorem dX3_stepsToMeet_71 : decode cX3_stepsToMeet 71 = .ok (.ireturn, 1) := by decide +kernel
theorem dX3_layRing_0 : decode cX3_layRing 0 = .ok (.aload_n 0, 1) := by decide +kernel
theorem dX3_layRing_1 : decode cX3_layRing 1 = .ok (.getfield 12, 3) := by decide +kernel
theorem dX3_layRing_4 : decode cX3_layRing 4 = .ok (.aload_n 1, 1) := by decide +kernel
theorem dX3_layRing_5 : decode cX3_layRing 5 = .ok (.invokevirtual 90, 3) := by decide +kernel
theorem dX3_layRing_8 : decode cX3_layRing 8 = .ok (.aload_n 0, 1) := by decide +kernel
theorem dX3_layRing_9 : decode cX3_layRing 9 = .ok (.iconst 0, 1) := by decide +kernel
theorem dX3_layRing_10 : decode cX3_layRing 10 = .ok (.putfield 42, 3) := by decide +kernel
theorem dX3_layRing_13 : decode cX3_layRing 13 = .ok (.return_, 1) := by decide +kernel
theorem dX3_tryCarve_0 : decode cX3_tryCarve 0 = .ok (.aload_n 0, 1) := by decide +kernel
theorem dX3_tryCarve_1 : decode cX3_tryCarve 1 = .ok (.getfield 12, 3) := by decide +kernel
theorem dX3_tryCarve_4 : decode cX3_tryCarve 4 = .ok (.iload_n 1, 1) := by decide +kernel
theorem dX3_tryCarve_5 : decode cX3_tryCarve 5 = .ok (.invokevirtual 94, 3) := by decide +kernel
theorem dX3_tryCarve_8 : decode cX3_tryCarve 8 = .ok (.ifCond .eq 10, 3) := by decide +kernel
theorem dX3_tryCarve_11 : decode cX3_tryCarve 11 = .ok (.iload_n 2, 1) := by decide +kernel
theorem dX3_tryCarve_12 : decode cX3_tryCarve 12 = .ok (.invokestatic 97, 3) := by decide +kernel
theorem dX3_tryCarve_15 : decode cX3_tryCarve 15 = .ok (.ifCond .ne 5, 3) := by decide +kernel
theorem dX3_tryCarve_18 : decode cX3_tryCarve 18 = .ok (.iconst 0, 1) := by decide +kernel
theorem dX3_tryCarve_19 : decode cX3_tryCarve 19 = .ok (.ireturn, 1) := by decide +kernel
theorem dX3_tryCarve_20 : decode cX3_tryCarve 20 = .ok (.aload_n 0, 1) := by decide +kernel
theorem dX3_tryCarve_21 : decode cX3_tryCarve 21 = .ok (.getfield 12, 3) := by decide +kernel
theorem dX3_tryCarve_24 : decode cX3_tryCarve 24 = .ok (.iload_n 1, 1) := by decide +kernel
theorem dX3_tryCarve_25 : decode cX3_tryCarve 25 = .ok (.iload_n 2, 1) := by decide +kernel
theorem dX3_tryCarve_26 : decode cX3_tryCarve 26 = .ok (.invokestatic 100, 3) := by decide +kernel
theorem dX3_tryCarve_29 : decode cX3_tryCarve 29 = .ok (.invokevirtual 104, 3) := by decide +kernel
theorem dX3_tryCarve_32 : decode cX3_tryCarve 32 = .ok (.iconst 1, 1) := by decide +kernel
theorem dX3_tryCarve_33 : decode cX3_tryCarve 33 = .ok (.ireturn, 1) := by decide +kernel
theorem dX3_tryWear_0 : decode cX3_tryWear 0 = .ok (.aload_n 0, 1) := by decide +kernel
theorem dX3_tryWear_1 : decode cX3_tryWear 1 = .ok (.getfield 12, 3) := by decide +kernel
theorem dX3_tryWear_4 : decode cX3_tryWear 4 = .ok (.iload_n 1, 1) := by decide +kernel
theorem dX3_tryWear_5 : decode cX3_tryWear 5 = .ok (.invokevirtual 94, 3) := by decide +kernel
theorem dX3_tryWear_8 : decode cX3_tryWear 8 = .ok (.ifCond .ne 5, 3) := by decide +kernel
theorem dX3_tryWear_11 : decode cX3_tryWear 11 = .ok (.iconst 0, 1) := by decide +kernel
theorem dX3_tryWear_12 : decode cX3_tryWear 12 = .ok (.ireturn, 1) := by decide +kernel
theorem dX3_tryWear_13 : decode cX3_tryWear 13 = .ok (.aload_n 0, 1) := by decide +kernel
theorem dX3_tryWear_14 : decode cX3_tryWear 14 = .ok (.getfield 12, 3) := by decide +kernel
theorem dX3_tryWear_17 : decode cX3_tryWear 17 = .ok (.iload_n 1, 1) := by decide +kernel
theorem dX3_tryWear_18 : decode cX3_tryWear 18 = .ok (.invokevirtual 108, 3) := by decide +kernel
theorem dX3_tryWear_21 : decode cX3_tryWear 21 = .ok (.invokestatic 111, 3) := by decide +kernel
theorem dX3_tryWear_24 : decode cX3_tryWear 24 = .ok (.ifCond .eq 13, 3) := by decide +kernel
theorem dX3_tryWear_27 : decode cX3_tryWear 27 = .ok (.aload_n 0, 1) := by decide +kernel
theorem dX3_tryWear_28 : decode cX3_tryWear 28 = .ok (.getfield 12, 3) := by decide +kernel
theorem dX3_tryWear_31 : decode cX3_tryWear 31 = .ok (.iload_n 1, 1) := by decide +kernel
theorem dX3_tryWear_32 : decode cX3_tryWear 32 = .ok (.bipush 63, 2) := by decide +kernel
theorem dX3_tryWear_34 : decode cX3_tryWear 34 = .ok (.invokevirtual 104, 3) := by decide +kernel
theorem dX3_tryWear_37 : decode cX3_tryWear 37 = .ok (.iconst 1, 1) := by decide +kernel
theorem dX3_tryWear_38 : decode cX3_tryWear 38 = .ok (.ireturn, 1) := by decide +kernel
theorem dX3_tryInsert_0 : decode cX3_tryInsert 0 = .ok (.iload_n 1, 1) := by decide +kernel
theorem dX3_tryInsert_1 : decode cX3_tryInsert 1 = .ok (.ifCond .lt 31, 3) := by decide +kernel
theorem dX3_tryInsert_4 : decode cX3_tryInsert 4 = .ok (.iload_n 1, 1) := by decide +kernel
theorem dX3_tryInsert_5 : decode cX3_tryInsert 5 = .ok (.aload_n 0, 1) := by decide +kernel
theorem dX3_tryInsert_6 : decode cX3_tryInsert 6 = .ok (.getfield 12, 3) := by decide +kernel
theorem dX3_tryInsert_9 : decode cX3_tryInsert 9 = .ok (.getfield 49, 3) := by decide +kernel
theorem dX3_tryInsert_12 : decode cX3_tryInsert 12 = .ok (.if_icmp .gt 20, 3) := by decide +kernel
theorem dX3_tryInsert_15 : decode cX3_tryInsert 15 = .ok (.iload_n 2, 1) := by decide +kernel
theorem dX3_tryInsert_16 : decode cX3_tryInsert 16 = .ok (.invokestatic 97, 3) := by decide +kernel
theorem dX3_tryInsert_19 : decode cX3_tryInsert 19 = .ok (.ifCond .eq 13, 3) := by decide +kernel
theorem dX3_tryInsert_22 : decode cX3_tryInsert 22 = .ok (.aload_n 0, 1) := by decide +kernel
theorem dX3_tryInsert_23 : decode cX3_tryInsert 23 = .ok (.getfield 12, 3) := by decide +kernel
theorem dX3_tryInsert_26 : decode cX3_tryInsert 26 = .ok (.invokevirtual 115, 3) := by decide +kernel
theorem dX3_tryInsert_29 : decode cX3_tryInsert 29 = .ok (.ifCond .eq 5, 3) := by decide +kernel
theorem dX3_tryInsert_32 : decode cX3_tryInsert 32 = .ok (.iconst 0, 1) := by decide +kernel
theorem dX3_tryInsert_33 : decode cX3_tryInsert 33 = .ok (.ireturn, 1) := by decide +kernel
theorem dX3_tryInsert_34 : decode cX3_tryInsert 34 = .ok (.aload_n 0, 1) := by decide +kernel
theorem dX3_tryInsert_35 : decode cX3_tryInsert 35 = .ok (.getfield 12, 3) := by decide +kernel
theorem dX3_tryInsert_38 : decode cX3_tryInsert 38 = .ok (.iload_n 1, 1) := by decide +kernel
theorem dX3_tryInsert_39 : decode cX3_tryInsert 39 = .ok (.iload_n 2, 1) := by decide +kernel
theorem dX3_tryInsert_40 : decode cX3_tryInsert 40 = .ok (.invokestatic 100, 3) := by decide +kernel
theorem dX3_tryInsert_43 : decode cX3_tryInsert 43 = .ok (.invokevirtual 119, 3) := by decide +kernel
theorem dX3_tryInsert_46 : decode cX3_tryInsert 46 = .ok (.aload_n 0, 1) := by decide +kernel
theorem dX3_tryInsert_47 : decode cX3_tryInsert 47 = .ok (.iconst 0, 1) := by decide +kernel
theorem dX3_tryInsert_48 : decode cX3_tryInsert 48 = .ok (.putfield 42, 3) := by decide +kernel
theorem dX3_tryInsert_51 : decode cX3_tryInsert 51 = .ok (.iconst 1, 1) := by decide +kernel
theorem dX3_tryInsert_52 : decode cX3_tryInsert 52 = .ok (.ireturn, 1) := by decide +kernel
theorem dX3_tryErase_0 : decode cX3_tryErase 0 = .ok (.aload_n 0, 1) := by decide +kernel
theorem dX3_tryErase_1 : decode cX3_tryErase 1 = .ok (.getfield 12, 3) := by decide +kernel
theorem dX3_tryErase_4 : decode cX3_tryErase 4 = .ok (.iload_n 1, 1) := by decide +kernel
theorem dX3_tryErase_5 : decode cX3_tryErase 5 = .ok (.invokevirtual 94, 3) := by decide +kernel
theorem dX3_tryErase_8 : decode cX3_tryErase 8 = .ok (.ifCond .ne 5, 3) := by decide +kernel
theorem dX3_tryErase_11 : decode cX3_tryErase 11 = .ok (.iconst 0, 1) := by decide +kernel
theorem dX3_tryErase_12 : decode cX3_tryErase 12 = .ok (.ireturn, 1) := by decide +kernel
theorem dX3_tryErase_13 : decode cX3_tryErase 13 = .ok (.aload_n 0, 1) := by decide +kernel
theorem dX3_tryErase_14 : decode cX3_tryErase 14 = .ok (.getfield 12, 3) := by decide +kernel
theorem dX3_tryErase_17 : decode cX3_tryErase 17 = .ok (.iload_n 1, 1) := by decide +kernel
theorem dX3_tryErase_18 : decode cX3_tryErase 18 = .ok (.invokevirtual 122, 3) := by decide +kernel
theorem dX3_tryErase_21 : decode cX3_tryErase 21 = .ok (.aload_n 0, 1) := by decide +kernel
theorem dX3_tryErase_22 : decode cX3_tryErase 22 = .ok (.iconst 0, 1) := by decide +kernel
theorem dX3_tryErase_23 : decode cX3_tryErase 23 = .ok (.putfield 42, 3) := by decide +kernel
theorem dX3_tryErase_26 : decode cX3_tryErase 26 = .ok (.iconst 1, 1) := by decide +kernel
theorem dX3_tryErase_27 : decode cX3_tryErase 27 = .ok (.ireturn, 1) := by decide +kernel
theorem dX3_tryAddWalker_0 : decode cX3_tryAddWalker 0 = .ok (.aload_n 0, 1) := by decide +kernel
theorem dX3_tryAddWalker_1 : decode cX3_tryAddWalker 1 = .ok (.getfield 12, 3) := by decide +kernel
theorem dX3_tryAddWalker_4 : decode cX3_tryAddWalker 4 = .ok (.iload_n 1, 1) := by decide +kernel
theorem dX3_tryAddWalker_5 : decode cX3_tryAddWalker 5 = .ok (.invokevirtual 94, 3) := by decide +kernel
theorem dX3_tryAddWalker_8 : decode cX3_tryAddWalker 8 = .ok (.ifCond .eq 33, 3) := by decide +kernel
theorem dX3_tryAddWalker_11 : decode cX3_tryAddWalker 11 = .ok (.iload_n 2, 1) := by decide +kernel
theorem dX3_tryAddWalker_12 : decode cX3_tryAddWalker 12 = .ok (.invokestatic 126, 3) := by decide +kernel
theorem dX3_tryAddWalker_15 : decode cX3_tryAddWalker 15 = .ok (.ifCond .eq 26, 3) := by decide +kernel
theorem dX3_tryAddWalker_18 : decode cX3_tryAddWalker 18 = .ok (.iload_n 3, 1) := by decide +kernel
theorem dX3_tryAddWalker_19 : decode cX3_tryAddWalker 19 = .ok (.invokestatic 129, 3) := by decide +kernel
theorem dX3_tryAddWalker_22 : decode cX3_tryAddWalker 22 = .ok (.ifCond .eq 19, 3) := by decide +kernel
theorem dX3_tryAddWalker_25 : decode cX3_tryAddWalker 25 = .ok (.iload 4, 2) := by decide +kernel
theorem dX3_tryAddWalker_27 : decode cX3_tryAddWalker 27 = .ok (.invokestatic 132, 3) := by decide +kernel
theorem dX3_tryAddWalker_30 : decode cX3_tryAddWalker 30 = .ok (.ifCond .eq 11, 3) := by decide +kernel
theorem dX3_tryAddWalker_33 : decode cX3_tryAddWalker 33 = .ok (.aload_n 0, 1) := by decide +kernel
theorem dX3_tryAddWalker_34 : decode cX3_tryAddWalker 34 = .ok (.getfield 42, 3) := by decide +kernel
theorem dX3_tryAddWalker_37 : decode cX3_tryAddWalker 37 = .ok (.iconst 4, 1) := by decide +kernel
theorem dX3_tryAddWalker_38 : decode cX3_tryAddWalker 38 = .ok (.if_icmp .lt 5, 3) := by decide +kernel
theorem dX3_tryAddWalker_41 : decode cX3_tryAddWalker 41 = .ok (.iconst 0, 1) := by decide +kernel
theorem dX3_tryAddWalker_42 : decode cX3_tryAddWalker 42 = .ok (.ireturn, 1) := by decide +kernel
theorem dX3_tryAddWalker_43 : decode cX3_tryAddWalker 43 = .ok (.aload_n 0, 1) := by decide +kernel
theorem dX3_tryAddWalker_44 : decode cX3_tryAddWalker 44 = .ok (.getfield 27, 3) := by decide +kernel
theorem dX3_tryAddWalker_47 : decode cX3_tryAddWalker 47 = .ok (.aload_n 0, 1) := by decide +kernel
theorem dX3_tryAddWalker_48 : decode cX3_tryAddWalker 48 = .ok (.getfield 42, 3) := by decide +kernel
theorem dX3_tryAddWalker_51 : decode cX3_tryAddWalker 51 = .ok (.aaload, 1) := by decide +kernel
theorem dX3_tryAddWalker_52 : decode cX3_tryAddWalker 52 = .ok (.astore 5, 2) := by decide +kernel
theorem dX3_tryAddWalker_54 : decode cX3_tryAddWalker 54 = .ok (.aload 5, 2) := by decide +kernel
theorem dX3_tryAddWalker_56 : decode cX3_tryAddWalker 56 = .ok (.iload_n 1, 1) := by decide +kernel
theorem dX3_tryAddWalker_57 : decode cX3_tryAddWalker 57 = .ok (.putfield 135, 3) := by decide +kernel
theorem dX3_tryAddWalker_60 : decode cX3_tryAddWalker 60 = .ok (.aload 5, 2) := by decide +kernel
theorem dX3_tryAddWalker_62 : decode cX3_tryAddWalker 62 = .ok (.iload_n 2, 1) := by decide +kernel
theorem dX3_tryAddWalker_63 : decode cX3_tryAddWalker 63 = .ok (.putfield 79, 3) := by decide +kernel
theorem dX3_tryAddWalker_66 : decode cX3_tryAddWalker 66 = .ok (.aload 5, 2) := by decide +kernel
theorem dX3_tryAddWalker_68 : decode cX3_tryAddWalker 68 = .ok (.iload_n 3, 1) := by decide +kernel
theorem dX3_tryAddWalker_69 : decode cX3_tryAddWalker 69 = .ok (.putfield 138, 3) := by decide +kernel
theorem dX3_tryAddWalker_72 : decode cX3_tryAddWalker 72 = .ok (.aload 5, 2) := by decide +kernel
theorem dX3_tryAddWalker_74 : decode cX3_tryAddWalker 74 = .ok (.iload 4, 2) := by decide +kernel
theorem dX3_tryAddWalker_76 : decode cX3_tryAddWalker 76 = .ok (.putfield 141, 3) := by decide +kernel
theorem dX3_tryAddWalker_79 : decode cX3_tryAddWalker 79 = .ok (.aload 5, 2) := by decide +kernel
theorem dX3_tryAddWalker_81 : decode cX3_tryAddWalker 81 = .ok (.iconst 0, 1) := by decide +kernel
theorem dX3_tryAddWalker_82 : decode cX3_tryAddWalker 82 = .ok (.putfield 144, 3) := by decide +kernel
theorem dX3_tryAddWalker_85 : decode cX3_tryAddWalker 85 = .ok (.aload 5, 2) := by decide +kernel
theorem dX3_tryAddWalker_87 : decode cX3_tryAddWalker 87 = .ok (.aload_n 0, 1) := by decide +kernel
theorem dX3_tryAddWalker_88 : decode cX3_tryAddWalker 88 = .ok (.getfield 12, 3) := by decide +kernel
theorem dX3_tryAddWalker_91 : decode cX3_tryAddWalker 91 = .ok (.invokevirtual 147, 3) := by decide +kernel
theorem dX3_tryAddWalker_94 : decode cX3_tryAddWalker 94 = .ok (.aload_n 0, 1) := by decide +kernel
theorem dX3_tryAddWalker_95 : decode cX3_tryAddWalker 95 = .ok (.dup, 1) := by decide +kernel
theorem dX3_tryAddWalker_96 : decode cX3_tryAddWalker 96 = .ok (.getfield 42, 3) := by decide +kernel
theorem dX3_tryAddWalker_99 : decode cX3_tryAddWalker 99 = .ok (.iconst 1, 1) := by decide +kernel
theorem dX3_tryAddWalker_100 : decode cX3_tryAddWalker 100 = .ok (.iadd, 1) := by decide +kernel
theorem dX3_tryAddWalker_101 : decode cX3_tryAddWalker 101 = .ok (.putfield 42, 3) := by decide +kernel
theorem dX3_tryAddWalker_104 : decode cX3_tryAddWalker 104 = .ok (.iconst 1, 1) := by decide +kernel
theorem dX3_tryAddWalker_105 : decode cX3_tryAddWalker 105 = .ok (.ireturn, 1) := by decide +kernel
theorem dX3_tryTurn_0 : decode cX3_tryTurn 0 = .ok (.aload_n 0, 1) := by decide +kernel
theorem dX3_tryTurn_1 : decode cX3_tryTurn 1 = .ok (.iload_n 1, 1) := by decide +kernel
theorem dX3_tryTurn_2 : decode cX3_tryTurn 2 = .ok (.invokevirtual 71, 3) := by decide +kernel
theorem dX3_tryTurn_5 : decode cX3_tryTurn 5 = .ok (.ifCond .ne 5, 3) := by decide +kernel
theorem dX3_tryTurn_8 : decode cX3_tryTurn 8 = .ok (.iconst 0, 1) := by decide +kernel
theorem dX3_tryTurn_9 : decode cX3_tryTurn 9 = .ok (.ireturn, 1) := by decide +kernel
theorem dX3_tryTurn_10 : decode cX3_tryTurn 10 = .ok (.aload_n 0, 1) := by decide +kernel
theorem dX3_tryTurn_11 : decode cX3_tryTurn 11 = .ok (.getfield 27, 3) := by decide +kernel
theorem dX3_tryTurn_14 : decode cX3_tryTurn 14 = .ok (.iload_n 1, 1) := by decide +kernel
theorem dX3_tryTurn_15 : decode cX3_tryTurn 15 = .ok (.aaload, 1) := by decide +kernel
theorem dX3_tryTurn_16 : decode cX3_tryTurn 16 = .ok (.iconst 1, 1) := by decide +kernel
theorem dX3_tryTurn_17 : decode cX3_tryTurn 17 = .ok (.aload_n 0, 1) := by decide +kernel
theorem dX3_tryTurn_18 : decode cX3_tryTurn 18 = .ok (.getfield 27, 3) := by decide +kernel
theorem dX3_tryTurn_21 : decode cX3_tryTurn 21 = .ok (.iload_n 1, 1) := by decide +kernel
theorem dX3_tryTurn_22 : decode cX3_tryTurn 22 = .ok (.aaload, 1) := by decide +kernel
theorem dX3_tryTurn_23 : decode cX3_tryTurn 23 = .ok (.getfield 79, 3) := by decide +kernel
theorem dX3_tryTurn_26 : decode cX3_tryTurn 26 = .ok (.isub, 1) := by decide +kernel
theorem dX3_tryTurn_27 : decode cX3_tryTurn 27 = .ok (.putfield 79, 3) := by decide +kernel
theorem dX3_tryTurn_30 : decode cX3_tryTurn 30 = .ok (.aload_n 0, 1) := by decide +kernel
theorem dX3_tryTurn_31 : decode cX3_tryTurn 31 = .ok (.getfield 27, 3) := by decide +kernel
theorem dX3_tryTurn_34 : decode cX3_tryTurn 34 = .ok (.iload_n 1, 1) := by decide +kernel
theorem dX3_tryTurn_35 : decode cX3_tryTurn 35 = .ok (.aaload, 1) := by decide +kernel
theorem dX3_tryTurn_36 : decode cX3_tryTurn 36 = .ok (.aload_n 0, 1) := by decide +kernel
theorem dX3_tryTurn_37 : decode cX3_tryTurn 37 = .ok (.getfield 12, 3) := by decide +kernel
theorem dX3_tryTurn_40 : decode cX3_tryTurn 40 = .ok (.invokevirtual 147, 3) := by decide +kernel
theorem dX3_tryTurn_43 : decode cX3_tryTurn 43 = .ok (.iconst 1, 1) := by decide +kernel
theorem dX3_tryTurn_44 : decode cX3_tryTurn 44 = .ok (.ireturn, 1) := by decide +kernel
theorem dX3_tryGo_0 : decode cX3_tryGo 0 = .ok (.iload_n 1, 1) := by decide +kernel
theorem dX3_tryGo_1 : decode cX3_tryGo 1 = .ok (.invokestatic 150, 3) := by decide +kernel
theorem dX3_tryGo_4 : decode cX3_tryGo 4 = .ok (.ifCond .ne 5, 3) := by decide +kernel
theorem dX3_tryGo_7 : decode cX3_tryGo 7 = .ok (.iconst 0, 1) := by decide +kernel
theorem dX3_tryGo_8 : decode cX3_tryGo 8 = .ok (.ireturn, 1) := by decide +kernel
theorem dX3_tryGo_9 : decode cX3_tryGo 9 = .ok (.iconst 0, 1) := by decide +kernel
theorem dX3_tryGo_10 : decode cX3_tryGo 10 = .ok (.istore_n 2, 1) := by decide +kernel
theorem dX3_tryGo_11 : decode cX3_tryGo 11 = .ok (.iload_n 2, 1) := by decide +kernel
theorem dX3_tryGo_12 : decode cX3_tryGo 12 = .ok (.iload_n 1, 1) := by decide +kernel
theorem dX3_tryGo_13 : decode cX3_tryGo 13 = .ok (.if_icmp .ge 38, 3) := by decide +kernel
theorem dX3_tryGo_16 : decode cX3_tryGo 16 = .ok (.iconst 0, 1) := by decide +kernel
theorem dX3_tryGo_17 : decode cX3_tryGo 17 = .ok (.istore_n 3, 1) := by decide +kernel
theorem dX3_tryGo_18 : decode cX3_tryGo 18 = .ok (.iload_n 3, 1) := by decide +kernel
theorem dX3_tryGo_19 : decode cX3_tryGo 19 = .ok (.aload_n 0, 1) := by decide +kernel
theorem dX3_tryGo_20 : decode cX3_tryGo 20 = .ok (.getfield 42, 3) := by decide +kernel
theorem dX3_tryGo_23 : decode cX3_tryGo 23 = .ok (.if_icmp .ge 22, 3) := by decide +kernel
theorem dX3_tryGo_26 : decode cX3_tryGo 26 = .ok (.aload_n 0, 1) := by decide +kernel
theorem dX3_tryGo_27 : decode cX3_tryGo 27 = .ok (.getfield 27, 3) := by decide +kernel
theorem dX3_tryGo_30 : decode cX3_tryGo 30 = .ok (.iload_n 3, 1) := by decide +kernel
theorem dX3_tryGo_31 : decode cX3_tryGo 31 = .ok (.aaload, 1) := by decide +kernel
theorem dX3_tryGo_32 : decode cX3_tryGo 32 = .ok (.aload_n 0, 1) := by decide +kernel
theorem dX3_tryGo_33 : decode cX3_tryGo 33 = .ok (.getfield 12, 3) := by decide +kernel
theorem dX3_tryGo_36 : decode cX3_tryGo 36 = .ok (.invokevirtual 153, 3) := by decide +kernel
theorem dX3_tryGo_39 : decode cX3_tryGo 39 = .ok (.iinc 3 1, 3) := by decide +kernel
theorem dX3_tryGo_42 : decode cX3_tryGo 42 = .ok (.goto (-24), 3) := by decide +kernel
theorem dX3_tryGo_45 : decode cX3_tryGo 45 = .ok (.iinc 2 1, 3) := by decide +kernel
theorem dX3_tryGo_48 : decode cX3_tryGo 48 = .ok (.goto (-37), 3) := by decide +kernel
theorem dX3_tryGo_51 : decode cX3_tryGo 51 = .ok (.aload_n 0, 1) := by decide +kernel
theorem dX3_tryGo_52 : decode cX3_tryGo 52 = .ok (.dup, 1) := by decide +kernel
theorem dX3_tryGo_53 : decode cX3_tryGo 53 = .ok (.getfield 46, 3) := by decide +kernel
theorem dX3_tryGo_56 : decode cX3_tryGo 56 = .ok (.iload_n 1, 1) := by decide +kernel
theorem dX3_tryGo_57 : decode cX3_tryGo 57 = .ok (.iadd, 1) := by decide +kernel
theorem dX3_tryGo_58 : decode cX3_tryGo 58 = .ok (.putfield 46, 3) := by decide +kernel
theorem dX3_tryGo_61 : decode cX3_tryGo 61 = .ok (.iconst 1, 1) := by decide +kernel
theorem dX3_tryGo_62 : decode cX3_tryGo 62 = .ok (.ireturn, 1) := by decide +kernel
theorem dX4_init_0 : decode cX4_init 0 = .ok (.aload_n 0, 1) := by decide +kernel
theorem dX4_init_1 : decode cX4_init 1 = .ok (.invokespecial 3, 3) := by decide +kernel
theorem dX4_init_4 : decode cX4_init 4 = .ok (.aload_n 0, 1) := by decide +kernel
theorem dX4_init_5 : decode cX4_init 5 = .ok (.bipush 40, 2) := by decide +kernel
theorem dX4_init_7 : decode cX4_init 7 = .ok (.newarray .char, 2) := by decide +kernel
theorem dX4_init_9 : decode cX4_init 9 = .ok (.putfield 9, 3) := by decide +kernel
theorem dX4_init_12 : decode cX4_init 12 = .ok (.return_, 1) := by decide +kernel
theorem dX4_isFull_0 : decode cX4_isFull 0 = .ok (.aload_n 0, 1) := by decide +kernel
theorem dX4_isFull_1 : decode cX4_isFull 1 = .ok (.getfield 15, 3) := by decide +kernel
theorem dX4_isFull_4 : decode cX4_isFull 4 = .ok (.bipush 40, 2) := by decide +kernel
theorem dX4_isFull_6 : decode cX4_isFull 6 = .ok (.if_icmp .lt 7, 3) := by decide +kernel
theorem dX4_isFull_9 : decode cX4_isFull 9 = .ok (.iconst 1, 1) := by decide +kernel
theorem dX4_isFull_10 : decode cX4_isFull 10 = .ok (.goto 4, 3) := by decide +kernel
theorem dX4_isFull_13 : decode cX4_isFull 13 = .ok (.iconst 0, 1) := by decide +kernel
theorem dX4_isFull_14 : decode cX4_isFull 14 = .ok (.ireturn, 1) := by decide +kernel
theorem dX4_addCharacter_0 : decode cX4_addCharacter 0 = .ok (.aload_n 0, 1) := by decide +kernel
theorem dX4_addCharacter_1 : decode cX4_addCharacter 1 = .ok (.getfield 15, 3) := by decide +kernel
theorem dX4_addCharacter_4 : decode cX4_addCharacter 4 = .ok (.bipush 40, 2) := by decide +kernel
theorem dX4_addCharacter_6 : decode cX4_addCharacter 6 = .ok (.if_icmp .ge 23, 3) := by decide +kernel
theorem dX4_addCharacter_9 : decode cX4_addCharacter 9 = .ok (.aload_n 0, 1) := by decide +kernel
theorem dX4_addCharacter_10 : decode cX4_addCharacter 10 = .ok (.getfield 9, 3) := by decide +kernel
theorem dX4_addCharacter_13 : decode cX4_addCharacter 13 = .ok (.aload_n 0, 1) := by decide +kernel
theorem dX4_addCharacter_14 : decode cX4_addCharacter 14 = .ok (.getfield 15, 3) := by decide +kernel
theorem dX4_addCharacter_17 : decode cX4_addCharacter 17 = .ok (.iload_n 1, 1) := by decide +kernel
theorem dX4_addCharacter_18 : decode cX4_addCharacter 18 = .ok (.castore, 1) := by decide +kernel
theorem dX4_addCharacter_19 : decode cX4_addCharacter 19 = .ok (.aload_n 0, 1) := by decide +kernel
theorem dX4_addCharacter_20 : decode cX4_addCharacter 20 = .ok (.dup, 1) := by decide +kernel
theorem dX4_addCharacter_21 : decode cX4_addCharacter 21 = .ok (.getfield 15, 3) := by decide +kernel
theorem dX4_addCharacter_24 : decode cX4_addCharacter 24 = .ok (.iconst 1, 1) := by decide +kernel
theorem dX4_addCharacter_25 : decode cX4_addCharacter 25 = .ok (.iadd, 1) := by decide +kernel
theorem dX4_addCharacter_26 : decode cX4_addCharacter 26 = .ok (.putfield 15, 3) := by decide +kernel
theorem dX4_addCharacter_29 : decode cX4_addCharacter 29 = .ok (.aload_n 0, 1) := by decide +kernel
theorem dX4_addCharacter_30 : decode cX4_addCharacter 30 = .ok (.getfield 15, 3) := by decide +kernel
theorem dX4_addCharacter_33 : decode cX4_addCharacter 33 = .ok (.ireturn, 1) := by decide +kernel
theorem dX4_empty_0 : decode cX4_empty 0 = .ok (.aload_n 0, 1) := by decide +kernel
theorem dX4_empty_1 : decode cX4_empty 1 = .ok (.getfield 15, 3) := by decide +kernel
theorem dX4_empty_4 : decode cX4_empty 4 = .ok (.istore_n 1, 1) := by decide +kernel
theorem dX4_empty_5 : decode cX4_empty 5 = .ok (.aload_n 0, 1) := by decide +kernel
theorem dX4_empty_6 : decode cX4_empty 6 = .ok (.iconst 0, 1) := by decide +kernel
theorem dX4_empty_7 : decode cX4_empty 7 = .ok (.putfield 15, 3) := by decide +kernel
theorem dX4_empty_10 : decode cX4_empty 10 = .ok (.iload_n 1, 1) := by decide +kernel
theorem dX4_empty_11 : decode cX4_empty 11 = .ok (.ireturn, 1) := by decide +kernel
theorem dX4_firstError_0 : decode cX4_firstError 0 = .ok (.iload_n 1, 1) := by decide +kernel
theorem dX4_firstError_1 : decode cX4_firstError 1 = .ok (.ifCond .eq 8, 3) := by decide +kernel
theorem dX4_firstError_4 : decode cX4_firstError 4 = .ok (.bipush 6, 2) := by decide +kernel
theorem dX4_firstError_6 : decode cX4_firstError 6 = .ok (.goto 5, 3) := by decide +kernel
theorem dX4_firstError_9 : decode cX4_firstError 9 = .ok (.bipush 24, 2) := by decide +kernel
theorem dX4_firstError_11 : decode cX4_firstError 11 = .ok (.istore_n 2, 1) := by decide +kernel
theorem dX4_firstError_12 : decode cX4_firstError 12 = .ok (.iconst 0, 1) := by decide +kernel
theorem dX4_firstError_13 : decode cX4_firstError 13 = .ok (.istore_n 3, 1) := by decide +kernel
theorem dX4_firstError_14 : decode cX4_firstError 14 = .ok (.iload_n 3, 1) := by decide +kernel
theorem dX4_firstError_15 : decode cX4_firstError 15 = .ok (.aload_n 0, 1) := by decide +kernel
theorem dX4_firstError_16 : decode cX4_firstError 16 = .ok (.getfield 15, 3) := by decide +kernel
theorem dX4_firstError_19 : decode cX4_firstError 19 = .ok (.if_icmp .ge 29, 3) := by decide +kernel
theorem dX4_firstError_22 : decode cX4_firstError 22 = .ok (.iload_n 3, 1) := by decide +kernel
theorem dX4_firstError_23 : decode cX4_firstError 23 = .ok (.iload_n 2, 1) := by decide +kernel
theorem dX4_firstError_24 : decode cX4_firstError 24 = .ok (.if_icmp .ge 16, 3) := by decide +kernel
theorem dX4_firstError_27 : decode cX4_firstError 27 = .ok (.aload_n 0, 1) := by decide +kernel
theorem dX4_firstError_28 : decode cX4_firstError 28 = .ok (.getfield 9, 3) := by decide +kernel
theorem dX4_firstError_31 : decode cX4_firstError 31 = .ok (.iload_n 3, 1) := by decide +kernel
theorem dX4_firstError_32 : decode cX4_firstError 32 = .ok (.caload, 1) := by decide +kernel
theorem dX4_firstError_33 : decode cX4_firstError 33 = .ok (.iload_n 1, 1) := by decide +kernel
theorem dX4_firstError_34 : decode cX4_firstError 34 = .ok (.invokestatic 19, 3) := by decide +kernel
theorem dX4_firstError_37 : decode cX4_firstError 37 = .ok (.ifCond .ne 5, 3) := by decide +kernel
theorem dX4_firstError_40 : decode cX4_firstError 40 = .ok (.iload_n 3, 1) := by decide +kernel
theorem dX4_firstError_41 : decode cX4_firstError 41 = .ok (.ireturn, 1) := by decide +kernel
theorem dX4_firstError_42 : decode cX4_firstError 42 = .ok (.iinc 3 1, 3) := by decide +kernel
theorem dX4_firstError_45 : decode cX4_firstError 45 = .ok (.goto (-31), 3) := by decide +kernel
theorem dX4_firstError_48 : decode cX4_firstError 48 = .ok (.aload_n 0, 1) := by decide +kernel
theorem dX4_firstError_49 : decode cX4_firstError 49 = .ok (.getfield 15, 3) := by decide +kernel
theorem dX4_firstError_52 : decode cX4_firstError 52 = .ok (.ifCond .ne 7, 3) := by decide +kernel
theorem dX4_firstError_55 : decode cX4_firstError 55 = .ok (.iconst 0, 1) := by decide +kernel
theorem dX4_firstError_56 : decode cX4_firstError 56 = .ok (.goto 4, 3) := by decide +kernel
theorem dX4_firstError_59 : decode cX4_firstError 59 = .ok (.iconst (-1), 1) := by decide +kernel
theorem dX4_firstError_60 : decode cX4_firstError 60 = .ok (.ireturn, 1) := by decide +kernel
theorem dX4_isAllowed_0 : decode cX4_isAllowed 0 = .ok (.iload_n 0, 1) := by decide +kernel
theorem dX4_isAllowed_1 : decode cX4_isAllowed 1 = .ok (.invokestatic 23, 3) := by decide +kernel
theorem dX4_isAllowed_4 : decode cX4_isAllowed 4 = .ok (.ifCond .ne 19, 3) := by decide +kernel
theorem dX4_isAllowed_7 : decode cX4_isAllowed 7 = .ok (.iload_n 1, 1) := by decide +kernel
theorem dX4_isAllowed_8 : decode cX4_isAllowed 8 = .ok (.ifCond .ne 19, 3) := by decide +kernel
theorem dX4_isAllowed_11 : decode cX4_isAllowed 11 = .ok (.iload_n 0, 1) := by decide +kernel
theorem dX4_isAllowed_12 : decode cX4_isAllowed 12 = .ok (.bipush 46, 2) := by decide +kernel
theorem dX4_isAllowed_14 : decode cX4_isAllowed 14 = .ok (.if_icmp .eq 9, 3) := by decide +kernel
theorem dX4_isAllowed_17 : decode cX4_isAllowed 17 = .ok (.iload_n 0, 1) := by decide +kernel
theorem dX4_isAllowed_18 : decode cX4_isAllowed 18 = .ok (.bipush 63, 2) := by decide +kernel
theorem dX4_isAllowed_20 : decode cX4_isAllowed 20 = .ok (.if_icmp .ne 7, 3) := by decide +kernel
theorem dX4_isAllowed_23 : decode cX4_isAllowed 23 = .ok (.iconst 1, 1) := by decide +kernel
theorem dX4_isAllowed_24 : decode cX4_isAllowed 24 = .ok (.goto 4, 3) := by decide +kernel
theorem dX4_isAllowed_27 : decode cX4_isAllowed 27 = .ok (.iconst 0, 1) := by decide +kernel
theorem dX4_isAllowed_28 : decode cX4_isAllowed 28 = .ok (.ireturn, 1) := by decide +kernel
theorem dX5_init_0 : decode cX5_init 0 = .ok (.aload_n 0, 1) := by decide +kernel
theorem dX5_init_1 : decode cX5_init 1 = .ok (.invokespecial 3, 3) := by decide +kernel
theorem dX5_init_4 : decode cX5_init 4 = .ok (.return_, 1) := by decide +kernel
theorem dX5_copyFrom_0 : decode cX5_copyFrom 0 = .ok (.aload_n 0, 1) := by decide +kernel
theorem dX5_copyFrom_1 : decode cX5_copyFrom 1 = .ok (.aload_n 1, 1) := by decide +kernel
theorem dX5_copyFrom_2 : decode cX5_copyFrom 2 = .ok (.getfield 9, 3) := by decide +kernel
theorem dX5_copyFrom_5 : decode cX5_copyFrom 5 = .ok (.putfield 9, 3) := by decide +kernel
theorem dX5_copyFrom_8 : decode cX5_copyFrom 8 = .ok (.aload_n 0, 1) := by decide +kernel
theorem dX5_copyFrom_9 : decode cX5_copyFrom 9 = .ok (.aload_n 1, 1) := by decide +kernel
theorem dX5_copyFrom_10 : decode cX5_copyFrom 10 = .ok (.getfield 15, 3) := by decide +kernel
theorem dX5_copyFrom_13 : decode cX5_copyFrom 13 = .ok (.putfield 15, 3) := by decide +kernel
theorem dX5_copyFrom_16 : decode cX5_copyFrom 16 = .ok (.aload_n 0, 1) := by decide +kernel
theorem dX5_copyFrom_17 : decode cX5_copyFrom 17 = .ok (.aload_n 1, 1) := by decide +kernel
theorem dX5_copyFrom_18 : decode cX5_copyFrom 18 = .ok (.getfield 18, 3) := by decide +kernel
theorem dX5_copyFrom_21 : decode cX5_copyFrom 21 = .ok (.putfield 18, 3) := by decide +kernel
theorem dX5_copyFrom_24 : decode cX5_copyFrom 24 = .ok (.aload_n 0, 1) := by decide +kernel
theorem dX5_copyFrom_25 : decode cX5_copyFrom 25 = .ok (.aload_n 1, 1) := by decide +kernel
theorem dX5_copyFrom_26 : decode cX5_copyFrom 26 = .ok (.getfield 21, 3) := by decide +kernel
theorem dX5_copyFrom_29 : decode cX5_copyFrom 29 = .ok (.putfield 21, 3) := by decide +kernel
theorem dX5_copyFrom_32 : decode cX5_copyFrom 32 = .ok (.aload_n 0, 1) := by decide +kernel
theorem dX5_copyFrom_33 : decode cX5_copyFrom 33 = .ok (.aload_n 1, 1) := by decide +kernel
theorem dX5_copyFrom_34 : decode cX5_copyFrom 34 = .ok (.getfield 24, 3) := by decide +kernel
theorem dX5_copyFrom_37 : decode cX5_copyFrom 37 = .ok (.putfield 24, 3) := by decide +kernel
theorem dX5_copyFrom_40 : decode cX5_copyFrom 40 = .ok (.return_, 1) := by decide +kernel
theorem dX5_countSeen_0 : decode cX5_countSeen 0 = .ok (.aload_n 0, 1) := by decide +kernel
theorem dX5_countSeen_1 : decode cX5_countSeen 1 = .ok (.getfield 24, 3) := by decide +kernel
theorem dX5_countSeen_4 : decode cX5_countSeen 4 = .ok (.invokestatic 27, 3) := by decide +kernel
theorem dX5_countSeen_7 : decode cX5_countSeen 7 = .ok (.ireturn, 1) := by decide +kernel
theorem dX5_placeAfter_0 : decode cX5_placeAfter 0 = .ok (.aload_n 2, 1) := by decide +kernel
theorem dX5_placeAfter_1 : decode cX5_placeAfter 1 = .ok (.aload_n 0, 1) := by decide +kernel
theorem dX5_placeAfter_2 : decode cX5_placeAfter 2 = .ok (.getfield 9, 3) := by decide +kernel
theorem dX5_placeAfter_5 : decode cX5_placeAfter 5 = .ok (.aload_n 0, 1) := by decide +kernel
theorem dX5_placeAfter_6 : decode cX5_placeAfter 6 = .ok (.getfield 15, 3) := by decide +kernel
theorem dX5_placeAfter_9 : decode cX5_placeAfter 9 = .ok (.iload_n 1, 1) := by decide +kernel
theorem dX5_placeAfter_10 : decode cX5_placeAfter 10 = .ok (.aload_n 0, 1) := by decide +kernel
theorem dX5_placeAfter_11 : decode cX5_placeAfter 11 = .ok (.getfield 18, 3) := by decide +kernel
theorem dX5_placeAfter_14 : decode cX5_placeAfter 14 = .ok (.imul, 1) := by decide +kernel
theorem dX5_placeAfter_15 : decode cX5_placeAfter 15 = .ok (.invokevirtual 33, 3) := by decide +kernel
theorem dX5_placeAfter_18 : decode cX5_placeAfter 18 = .ok (.ireturn, 1) := by decide +kernel
theorem dX5_viewFrom_0 : decode cX5_viewFrom 0 = .ok (.iconst 0, 1) := by decide +kernel
theorem dX5_viewFrom_1 : decode cX5_viewFrom 1 = .ok (.istore_n 3, 1) := by decide +kernel
theorem dX5_viewFrom_2 : decode cX5_viewFrom 2 = .ok (.iconst 0, 1) := by decide +kernel
theorem dX5_viewFrom_3 : decode cX5_viewFrom 3 = .ok (.istore 4, 2) := by decide +kernel
theorem dX5_viewFrom_5 : decode cX5_viewFrom 5 = .ok (.iload 4, 2) := by decide +kernel
theorem dX5_viewFrom_7 : decode cX5_viewFrom 7 = .ok (.aload_n 0, 1) := by decide +kernel
theorem dX5_viewFrom_8 : decode cX5_viewFrom 8 = .ok (.getfield 21, 3) := by decide +kernel
theorem dX5_viewFrom_11 : decode cX5_viewFrom 11 = .ok (.if_icmp .ge 25, 3) := by decide +kernel
theorem dX5_viewFrom_14 : decode cX5_viewFrom 14 = .ok (.iload_n 3, 1) := by decide +kernel
theorem dX5_viewFrom_15 : decode cX5_viewFrom 15 = .ok (.iconst 1, 1) := by decide +kernel
theorem dX5_viewFrom_16 : decode cX5_viewFrom 16 = .ok (.aload_n 2, 1) := by decide +kernel
theorem dX5_viewFrom_17 : decode cX5_viewFrom 17 = .ok (.iload_n 1, 1) := by decide +kernel
theorem dX5_viewFrom_18 : decode cX5_viewFrom 18 = .ok (.aload_n 0, 1) := by decide +kernel
theorem dX5_viewFrom_19 : decode cX5_viewFrom 19 = .ok (.getfield 15, 3) := by decide +kernel
theorem dX5_viewFrom_22 : decode cX5_viewFrom 22 = .ok (.iload 4, 2) := by decide +kernel
theorem dX5_viewFrom_24 : decode cX5_viewFrom 24 = .ok (.invokevirtual 33, 3) := by decide +kernel
theorem dX5_viewFrom_27 : decode cX5_viewFrom 27 = .ok (.ishl, 1) := by decide +kernel
theorem dX5_viewFrom_28 : decode cX5_viewFrom 28 = .ok (.ior, 1) := by decide +kernel
theorem dX5_viewFrom_29 : decode cX5_viewFrom 29 = .ok (.istore_n 3, 1) := by decide +kernel
theorem dX5_viewFrom_30 : decode cX5_viewFrom 30 = .ok (.iinc 4 1, 3) := by decide +kernel
theorem dX5_viewFrom_33 : decode cX5_viewFrom 33 = .ok (.goto (-28), 3) := by decide +kernel
theorem dX5_viewFrom_36 : decode cX5_viewFrom 36 = .ok (.iload_n 3, 1) := by decide +kernel
theorem dX5_viewFrom_37 : decode cX5_viewFrom 37 = .ok (.ireturn, 1) := by decide +kernel
theorem dX5_look_0 : decode cX5_look 0 = .ok (.aload_n 0, 1) := by decide +kernel
theorem dX5_look_1 : decode cX5_look 1 = .ok (.dup, 1) := by decide +kernel
theorem dX5_look_2 : decode cX5_look 2 = .ok (.getfield 24, 3) := by decide +kernel
theorem dX5_look_5 : decode cX5_look 5 = .ok (.aload_n 0, 1) := by decide +kernel
theorem dX5_look_6 : decode cX5_look 6 = .ok (.aload_n 0, 1) := by decide +kernel
theorem dX5_look_7 : decode cX5_look 7 = .ok (.getfield 9, 3) := by decide +kernel
theorem dX5_look_10 : decode cX5_look 10 = .ok (.aload_n 1, 1) := by decide +kernel
theorem dX5_look_11 : decode cX5_look 11 = .ok (.invokevirtual 39, 3) := by decide +kernel
theorem dX5_look_14 : decode cX5_look 14 = .ok (.ior, 1) := by decide +kernel
theorem dX5_look_15 : decode cX5_look 15 = .ok (.putfield 24, 3) := by decide +kernel
theorem dX5_look_18 : decode cX5_look 18 = .ok (.return_, 1) := by decide +kernel
theorem dX5_step_0 : decode cX5_step 0 = .ok (.aload_n 0, 1) := by decide +kernel
theorem dX5_step_1 : decode cX5_step 1 = .ok (.aload_n 0, 1) := by decide +kernel
theorem dX5_step_2 : decode cX5_step 2 = .ok (.iconst 1, 1) := by decide +kernel
theorem dX5_step_3 : decode cX5_step 3 = .ok (.aload_n 1, 1) := by decide +kernel
theorem dX5_step_4 : decode cX5_step 4 = .ok (.invokevirtual 43, 3) := by decide +kernel
theorem dX5_step_7 : decode cX5_step 7 = .ok (.putfield 9, 3) := by decide +kernel
theorem dX5_step_10 : decode cX5_step 10 = .ok (.aload_n 0, 1) := by decide +kernel
theorem dX5_step_11 : decode cX5_step 11 = .ok (.dup, 1) := by decide +kernel
theorem dX5_step_12 : decode cX5_step 12 = .ok (.getfield 24, 3) := by decide +kernel
theorem dX5_step_15 : decode cX5_step 15 = .ok (.aload_n 0, 1) := by decide +kernel
theorem dX5_step_16 : decode cX5_step 16 = .ok (.aload_n 0, 1) := by decide +kernel
theorem dX5_step_17 : decode cX5_step 17 = .ok (.getfield 9, 3) := by decide +kernel
theorem dX5_step_20 : decode cX5_step 20 = .ok (.aload_n 1, 1) := by decide +kernel
theorem dX5_step_21 : decode cX5_step 21 = .ok (.invokevirtual 39, 3) := by decide +kernel
theorem dX5_step_24 : decode cX5_step 24 = .ok (.ior, 1) := by decide +kernel
theorem dX5_step_25 : decode cX5_step 25 = .ok (.putfield 24, 3) := by decide +kernel
theorem dX5_step_28 : decode cX5_step 28 = .ok (.return_, 1) := by decide +kernel
theorem dX5_stepsToSeeAll_0 : decode cX5_stepsToSeeAll 0 = .ok (.iconst 1, 1) := by decide +kernel
theorem dX5_stepsToSeeAll_1 : decode cX5_stepsToSeeAll 1 = .ok (.aload_n 1, 1) := by decide +kernel
theorem dX5_stepsToSeeAll_2 : decode cX5_stepsToSeeAll 2 = .ok (.getfield 46, 3) := by decide +kernel
theorem dX5_stepsToSeeAll_5 : decode cX5_stepsToSeeAll 5 = .ok (.ishl, 1) := by decide +kernel
theorem dX5_stepsToSeeAll_6 : decode cX5_stepsToSeeAll 6 = .ok (.iconst 1, 1) := by decide +kernel
theorem dX5_stepsToSeeAll_7 : decode cX5_stepsToSeeAll 7 = .ok (.isub, 1) := by decide +kernel
theorem dX5_stepsToSeeAll_8 : decode cX5_stepsToSeeAll 8 = .ok (.istore_n 2, 1) := by decide +kernel
theorem dX5_stepsToSeeAll_9 : decode cX5_stepsToSeeAll 9 = .ok (.aload_n 0, 1) := by decide +kernel
theorem dX5_stepsToSeeAll_10 : decode cX5_stepsToSeeAll 10 = .ok (.getfield 24, 3) := by decide +kernel
theorem dX5_stepsToSeeAll_13 : decode cX5_stepsToSeeAll 13 = .ok (.istore_n 3, 1) := by decide +kernel
theorem dX5_stepsToSeeAll_14 : decode cX5_stepsToSeeAll 14 = .ok (.iconst 0, 1) := by decide +kernel
theorem dX5_stepsToSeeAll_15 : decode cX5_stepsToSeeAll 15 = .ok (.istore 4, 2) := by decide +kernel
theorem dX5_stepsToSeeAll_17 : decode cX5_stepsToSeeAll 17 = .ok (.iload 4, 2) := by decide +kernel
theorem dX5_stepsToSeeAll_19 : decode cX5_stepsToSeeAll 19 = .ok (.aload_n 1, 1) := by decide +kernel
theorem dX5_stepsToSeeAll_20 : decode cX5_stepsToSeeAll 20 = .ok (.getfield 46, 3) := by decide +kernel
theorem dX5_stepsToSeeAll_23 : decode cX5_stepsToSeeAll 23 = .ok (.if_icmp .gt 32, 3) := by decide +kernel
theorem dX5_stepsToSeeAll_26 : decode cX5_stepsToSeeAll 26 = .ok (.iload_n 3, 1) := by decide +kernel
theorem dX5_stepsToSeeAll_27 : decode cX5_stepsToSeeAll 27 = .ok (.aload_n 0, 1) := by decide +kernel
theorem dX5_stepsToSeeAll_28 : decode cX5_stepsToSeeAll 28 = .ok (.aload_n 0, 1) := by decide +kernel
theorem dX5_stepsToSeeAll_29 : decode cX5_stepsToSeeAll 29 = .ok (.iload 4, 2) := by decide +kernel
theorem dX5_stepsToSeeAll_31 : decode cX5_stepsToSeeAll 31 = .ok (.aload_n 1, 1) := by decide +kernel
theorem dX5_stepsToSeeAll_32 : decode cX5_stepsToSeeAll 32 = .ok (.invokevirtual 43, 3) := by decide +kernel
theorem dX5_stepsToSeeAll_35 : decode cX5_stepsToSeeAll 35 = .ok (.aload_n 1, 1) := by decide +kernel
theorem dX5_stepsToSeeAll_36 : decode cX5_stepsToSeeAll 36 = .ok (.invokevirtual 39, 3) := by decide +kernel
theorem dX5_stepsToSeeAll_39 : decode cX5_stepsToSeeAll 39 = .ok (.ior, 1) := by decide +kernel
theorem dX5_stepsToSeeAll_40 : decode cX5_stepsToSeeAll 40 = .ok (.istore_n 3, 1) := by decide +kernel
theorem dX5_stepsToSeeAll_41 : decode cX5_stepsToSeeAll 41 = .ok (.iload_n 3, 1) := by decide +kernel
theorem dX5_stepsToSeeAll_42 : decode cX5_stepsToSeeAll 42 = .ok (.iload_n 2, 1) := by decide +kernel
theorem dX5_stepsToSeeAll_43 : decode cX5_stepsToSeeAll 43 = .ok (.if_icmp .ne 6, 3) := by decide +kernel
theorem dX5_stepsToSeeAll_46 : decode cX5_stepsToSeeAll 46 = .ok (.iload 4, 2) := by decide +kernel
theorem dX5_stepsToSeeAll_48 : decode cX5_stepsToSeeAll 48 = .ok (.ireturn, 1) := by decide +kernel
theorem dX5_stepsToSeeAll_49 : decode cX5_stepsToSeeAll 49 = .ok (.iinc 4 1, 3) := by decide +kernel
theorem dX5_stepsToSeeAll_52 : decode cX5_stepsToSeeAll 52 = .ok (.goto (-35), 3) := by decide +kernel
theorem dX5_stepsToSeeAll_55 : decode cX5_stepsToSeeAll 55 = .ok (.iconst (-1), 1) := by decide +kernel
theorem dX5_stepsToSeeAll_56 : decode cX5_stepsToSeeAll 56 = .ok (.ireturn, 1) := by decide +kernel
theorem dX5_knows_0 : decode cX5_knows 0 = .ok (.aload_n 1, 1) := by decide +kernel
theorem dX5_knows_1 : decode cX5_knows 1 = .ok (.iload_n 2, 1) := by decide +kernel
theorem dX5_knows_2 : decode cX5_knows 2 = .ok (.aload_n 0, 1) := by decide +kernel
theorem dX5_knows_3 : decode cX5_knows 3 = .ok (.getfield 15, 3) := by decide +kernel
theorem dX5_knows_6 : decode cX5_knows 6 = .ok (.invokevirtual 49, 3) := by decide +kernel
theorem dX5_knows_9 : decode cX5_knows 9 = .ok (.istore_n 3, 1) := by decide +kernel
theorem dX5_knows_10 : decode cX5_knows 10 = .ok (.iload_n 3, 1) := by decide +kernel
theorem dX5_knows_11 : decode cX5_knows 11 = .ok (.ifCond .ne 5, 3) := by decide +kernel
theorem dX5_knows_14 : decode cX5_knows 14 = .ok (.iconst 0, 1) := by decide +kernel
theorem dX5_knows_15 : decode cX5_knows 15 = .ok (.ireturn, 1) := by decide +kernel
theorem dX5_knows_16 : decode cX5_knows 16 = .ok (.iconst 0, 1) := by decide +kernel
theorem dX5_knows_17 : decode cX5_knows 17 = .ok (.istore 4, 2) := by decide +kernel
theorem dX5_knows_19 : decode cX5_knows 19 = .ok (.iload 4, 2) := by decide +kernel
theorem dX5_knows_21 : decode cX5_knows 21 = .ok (.iload_n 3, 1) := by decide +kernel
theorem dX5_knows_22 : decode cX5_knows 22 = .ok (.iconst 1, 1) := by decide +kernel
theorem dX5_knows_23 : decode cX5_knows 23 = .ok (.iadd, 1) := by decide +kernel
theorem dX5_knows_24 : decode cX5_knows 24 = .ok (.if_icmp .gt 32, 3) := by decide +kernel
theorem dX5_knows_27 : decode cX5_knows 27 = .ok (.aload_n 0, 1) := by decide +kernel
theorem dX5_knows_28 : decode cX5_knows 28 = .ok (.getfield 24, 3) := by decide +kernel
theorem dX5_knows_31 : decode cX5_knows 31 = .ok (.aload_n 1, 1) := by decide +kernel
theorem dX5_knows_32 : decode cX5_knows 32 = .ok (.iload_n 2, 1) := by decide +kernel
theorem dX5_knows_33 : decode cX5_knows 33 = .ok (.aload_n 0, 1) := by decide +kernel
theorem dX5_knows_34 : decode cX5_knows 34 = .ok (.getfield 15, 3) := by decide +kernel
theorem dX5_knows_37 : decode cX5_knows 37 = .ok (.iload 4, 2) := by decide +kernel
theorem dX5_knows_39 : decode cX5_knows 39 = .ok (.invokevirtual 33, 3) := by decide +kernel
theorem dX5_knows_42 : decode cX5_knows 42 = .ok (.ishr, 1) := by decide +kernel
theorem dX5_knows_43 : decode cX5_knows 43 = .ok (.iconst 1, 1) := by decide +kernel
theorem dX5_knows_44 : decode cX5_knows 44 = .ok (.iand, 1) := by decide +kernel
theorem dX5_knows_45 : decode cX5_knows 45 = .ok (.ifCond .ne 5, 3) := by decide +kernel
theorem dX5_knows_48 : decode cX5_knows 48 = .ok (.iconst 0, 1) := by decide +kernel
theorem dX5_knows_49 : decode cX5_knows 49 = .ok (.ireturn, 1) := by decide +kernel
theorem dX5_knows_50 : decode cX5_knows 50 = .ok (.iinc 4 1, 3) := by decide +kernel
theorem dX5_knows_53 : decode cX5_knows 53 = .ok (.goto (-34), 3) := by decide +kernel
theorem dX5_knows_56 : decode cX5_knows 56 = .ok (.iconst 1, 1) := by decide +kernel
theorem dX5_knows_57 : decode cX5_knows 57 = .ok (.ireturn, 1) := by decide +kernel
